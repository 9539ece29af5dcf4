/-! ===== Model: a clause ===== -/
theorem pnum_min {B : Nat → Int32} {n w i : Nat} : pnum B n 0 (min 3 w) i = pbd (pnum B n 0 3 i) (fun a => if a.1 ≤ w then .inl a else .inr (2, skB B n i)) := by
  unfold pnum
  by_cases e : skD B n (skB B n i) = skB B n i
  · rw [if_pos e, if_pos e]; rfl
  · rw [if_neg e, if_neg e]
    generalize nmv B (skB B n i) (skD B n (skB B n i) - skB B n i) = v
    by_cases e3 : 0 ≤ v ∧ v ≤ 3
    · rw [if_pos e3]
      by_cases ew : v ≤ w
      · rw [if_pos (by omega)]
        show _ = (if v ≤ w then _ else _)
        rw [if_pos ew]
      · rw [if_neg (by omega)]
        show _ = (if v ≤ w then _ else _)
        rw [if_neg ew]
    · rw [if_neg e3, if_neg (by omega)]; rfl
theorem pnum_skB {B : Nat → Int32} {n lo hi i : Nat} (hn : n ≤ 400) (hi' : i ≤ n) : pnum B n lo hi (skB B n i) = pnum B n lo hi i := by
  unfold pnum
  rw [skB_id hn hi']
/-- one clause -/
def pkc (B : Nat → Int32) (n c : Nat) (S : kst) (i : Nat) : pr (kst × Nat) :=
  if ckd B (skB B n i) (skW B n (skB B n i)) = zI (-1) then .inr (1, skB B n i)
  else if 30 ≤ c then .inr (3, skB B n i)
  else pbd (pcl B n (ckd B (skB B n i) (skW B n (skB B n i))).toNatClampNeg S (skW B n (skB B n i))) fun a => pbd (pend B n a.2) fun j => .inl (a.1, j)
theorem pkit_c {B : Nat → Int32} {n f c : Nat} {S : kst} {i : Nat} : pkit B n (f + 1) c S i = if n ≤ skB B n i then .inl S else pbd (pkc B n c S i) fun a => pkit B n f (c + 1) a.1 a.2 := by
  unfold pkc
  show (if n ≤ skB B n i then _ else _) = _
  by_cases e : n ≤ skB B n i
  · rw [if_pos e, if_pos e]
  · rw [if_neg e, if_neg e]
    by_cases e1 : ckd B (skB B n i) (skW B n (skB B n i)) = zI (-1)
    · rw [if_pos e1, if_pos e1]; rfl
    · rw [if_neg e1, if_neg e1]
      by_cases e2 : 30 ≤ c
      · rw [if_pos e2, if_pos e2]; rfl
      · rw [if_neg e2, if_neg e2]
        cases h1 : pcl B n (ckd B (skB B n i) (skW B n (skB B n i))).toNatClampNeg S (skW B n (skB B n i)) with
        | inr f => rfl
        | inl a =>
          show pbd (pend B n a.2) _ = pbd (pbd (pend B n a.2) _) _
          cases pend B n a.2 <;> rfl
theorem nvl_le {B : Nat → Int32} {n lo hi : Nat} {s : pr Nat} : nvl (pbd s (pnum B n lo hi)) ≤ hi := by
  match s with
  | .inr f => exact Nat.zero_le _
  | .inl i =>
    show nvl (pnum B n lo hi i) ≤ hi
    unfold pnum
    split
    · exact Nat.zero_le _
    · split
      · rename_i h; exact h.2
      · exact Nat.zero_le _
theorem pM_s {I : Nat → Nat → Int32} {m n : Nat} {s s' : pr Nat} {fa : Int32} {M : Nat → Nat → Int32} (h : pM I m n s fa M) (e : s = s') : pM I m n s' fa M := e ▸ h
/-- what the model does with size's three numbers -/
theorem pcl_0 {B : Nat → Int32} {n e q : Nat} {S : kst} {s1 s2 s3 s4 : pr Nat} {v1 v2 v3 : Nat} (hn : n ≤ 400) (he : e ≤ n) (h1 : s1 = nst (pnum B n 2 12 e)) (w1 : v1 = nvl (pnum B n 2 12 e)) (h2 : s2 = nst (pbd s1 (pnum B n 2 12))) (w2 : v2 = nvl (pbd s1 (pnum B n 2 12))) (h3 : s3 = pbd s2 (fun i => .inl (skB B n i))) (hq : ∀ j, s3 = .inl j → q = j) (h4 : s4 = nst (pbd s3 (pnum B n 0 3))) (w3 : v3 = nvl (pbd s3 (pnum B n 0 3))) :
    (pbd (pcl B n 0 S e) (fun a => .inl a.2) = pbd s4 (fun j => if 2 * v3 < v1 ∧ 2 * v3 < v2 then .inl j else .inr (2, q))) ∧ ∀ a, pcl B n 0 S e = .inl a → a.1 = (up1 (up1 (up1 S.1 0 (nI v1)) 1 (nI v2)) 2 (nI v3), S.2) := by
  have e0 : pcl B n 0 S e = pbd (pnum B n 2 12 e) fun a => pbd (pnum B n 2 12 a.2) fun b => pbd (pnum B n 0 (min 3 ((min a.1 b.1 - 1) / 2)) b.2) fun r => .inl ((up1 (up1 (up1 S.1 0 (nI a.1)) 1 (nI b.1)) 2 (nI r.1), S.2), r.2) := rfl
  rw [e0]
  cases g1 : pnum B n 2 12 e with
  | inr f => rw [g1] at h1 w1; subst h1 h2 h3 h4; exact ⟨rfl, fun a h => by cases h⟩
  | inl a =>
    rw [g1] at h1 w1
    have b1 := pnum_e he g1
    obtain ⟨a1, a2⟩ := a
    have w1' : v1 = a1 := w1
    subst w1' h1; clear w1
    cases g2 : pnum B n 2 12 a2 with
    | inr f => 
      have g2' : pbd (nst (.inl (v1, a2))) (pnum B n 2 12) = .inr f := g2
      rw [g2'] at h2 w2; subst h2 h3 h4; 
      show pbd (pbd (pnum B n 2 12 a2) _) _ = _ ∧ ∀ a, pbd (pnum B n 2 12 a2) _ = .inl a → _
      rw [g2]
      exact ⟨rfl, fun a h => by cases h⟩
    | inl b =>
      have g2' : pbd (nst (.inl (v1, a2))) (pnum B n 2 12) = .inl b := g2
      rw [g2'] at h2 w2
      have b2 := pnum_e b1.1 g2
      obtain ⟨c1, c2⟩ := b
      have w2' : v2 = c1 := w2
      subst w2' h2 h3; clear w2
      have hq' := hq _ rfl
      have g3' : pbd (pbd (nst (.inl (v2, c2))) (fun i => .inl (skB B n i))) (pnum B n 0 3) = pnum B n 0 3 c2 := pnum_skB hn b2.1
      rw [g3'] at h4 w3
      show pbd (pbd (pnum B n 2 12 a2) _) _ = _ ∧ ∀ a, pbd (pnum B n 2 12 a2) _ = .inl a → _
      rw [g2]
      show pbd (pbd (pnum B n 0 (min 3 ((min v1 v2 - 1) / 2)) c2) _) _ = _ ∧ ∀ a, pbd (pnum B n 0 (min 3 ((min v1 v2 - 1) / 2)) c2) _ = .inl a → _
      rw [pnum_min]
      cases g3 : pnum B n 0 3 c2 with
      | inr f => rw [g3] at h4; subst h4; exact ⟨rfl, fun a h => by cases h⟩
      | inl r =>
        rw [g3] at h4 w3
        obtain ⟨r1, r2⟩ := r
        have w3' : v3 = r1 := w3
        subst w3' h4; clear w3
        show pbd (pbd (if v3 ≤ (min v1 v2 - 1) / 2 then .inl (v3, r2) else .inr (2, skB B n c2)) _) _ = (if 2 * v3 < v1 ∧ 2 * v3 < v2 then .inl r2 else .inr (2, q)) ∧ ∀ a, pbd (if v3 ≤ (min v1 v2 - 1) / 2 then .inl (v3, r2) else .inr (2, skB B n c2)) _ = .inl a → _
        have b1' : 2 ≤ v1 := b1.2.1
        have b2' : 2 ≤ v2 := b2.2.1
        by_cases hr : v3 ≤ (min v1 v2 - 1) / 2
        · rw [if_pos hr, if_pos (by omega)]
          exact ⟨rfl, fun a h => by cases h; rfl⟩
        · rw [if_neg hr, if_neg (by omega), hq']
          exact ⟨rfl, fun a h => by cases h⟩
theorem pcl_9 {B : Nat → Int32} {n e : Nat} {S : kst} {s1 s2 : pr Nat} {v1 v2 : Nat} (h1 : s1 = nst (pnum B n 0 23 e)) (w1 : v1 = nvl (pnum B n 0 23 e)) (h2 : s2 = nst (pbd s1 (pnum B n 0 40))) (w2 : v2 = nvl (pbd s1 (pnum B n 0 40))) :
    pbd (pcl B n 9 S e) (fun a => .inl a.2) = s2 ∧ ∀ a, pcl B n 9 S e = .inl a → a.1 = (S.1, up1 S.2 v1 (nI v2)) ∧ s2 = .inl a.2 := by
  have e9 : pcl B n 9 S e = pbd (pnum B n 0 23 e) fun a => pbd (pnum B n 0 40 a.2) fun b => .inl ((S.1, up1 S.2 a.1 (nI b.1)), b.2) := rfl
  rw [e9]
  cases g1 : pnum B n 0 23 e with
  | inr f => rw [g1] at h1 w1; subst h1 h2; exact ⟨rfl, fun a h => by cases h⟩
  | inl a =>
    rw [g1] at h1 w1
    obtain ⟨a1, a2⟩ := a
    have w1' : v1 = a1 := w1
    subst w1' h1; clear w1
    have g2' : pbd (nst (.inl (v1, a2))) (pnum B n 0 40) = pnum B n 0 40 a2 := rfl
    rw [g2'] at h2 w2
    show pbd (pbd (pnum B n 0 40 a2) _) _ = _ ∧ ∀ a, pbd (pnum B n 0 40 a2) _ = .inl a → _
    cases g2 : pnum B n 0 40 a2 with
    | inr f => rw [g2] at h2 w2; subst h2; exact ⟨rfl, fun a h => by cases h⟩
    | inl b => rw [g2] at h2 w2; subst h2 w2; exact ⟨rfl, fun a h => by cases h; exact ⟨rfl, rfl⟩⟩
theorem pcl_k {B : Nat → Int32} {n e k : Nat} {S : kst} {s1 : pr Nat} {v1 : Nat} (k0 : k ≠ 0) (k9 : k ≠ 9) (h1 : s1 = nst (pnum B n (cLo k) (cHi k) e)) (w1 : v1 = nvl (pnum B n (cLo k) (cHi k) e)) :
    pbd (pcl B n k S e) (fun a => .inl a.2) = s1 ∧ ∀ a, pcl B n k S e = .inl a → a.1 = (up1 S.1 k (nI v1), S.2) := by
  unfold pcl
  rw [if_neg k0, if_neg k9]
  cases g1 : pnum B n (cLo k) (cHi k) e with
  | inr f => rw [g1] at h1 w1; subst h1; exact ⟨rfl, fun a h => by cases h⟩
  | inl a => rw [g1] at h1 w1; subst h1 w1; exact ⟨rfl, fun a h => by cases h; rfl⟩
theorem dbl_le {a b : Nat} (ha : a ≤ 12) (hb : b ≤ 3) : nI a ≤ 2 * nI b ↔ a ≤ 2 * b := (by decide : ∀ a : Fin 13, ∀ b : Fin 4, nI a.1 ≤ 2 * nI b.1 ↔ a.1 ≤ 2 * b.1) ⟨a, by omega⟩ ⟨b, by omega⟩
theorem dbl_lt {a b : Nat} (ha : a ≤ 12) (hb : b ≤ 3) : 2 * nI b < nI a ↔ 2 * b < a := (by decide : ∀ a : Fin 13, ∀ b : Fin 4, 2 * nI b.1 < nI a.1 ↔ 2 * b.1 < a.1) ⟨a, by omega⟩ ⟨b, by omega⟩
section MODEL6
variable {G : bl_G} {l : Launch} {d m : Nat} {I : Nat → Nat → Int32} {J : Nat → Nat → Int64} {R : Nat → Nat → Option Nat} {K N : Nat → Nat} {fa : Int32} {n : Nat}
/-- only the rows that are read into may have changed -/
def clF (I I' : Nat → Nat → Int32) (m : Nat) : Prop := (∀ x, x ≠ m → x ≠ m + 9 → x ≠ m + 11 → I' x = I x) ∧ ∀ j, j ≠ 7 → I' m j = I m j
def kR (I : Nat → Nat → Int32) (m : Nat) (S : kst) : Prop := (∀ k, k < 9 → I (m + 9) k = S.1 k) ∧ ∀ k, k < 24 → I (m + 11) k = S.2 k
theorem c_Model_numB {M : Nat → Nat → Int32} {s : pr Nat} {B : Nat → Int32} {lo hi : Nat} {x y : Int32} (hm : mdS R K N m) (hn : n ≤ 400) (hM : pM I m n s fa M) (hB : I (m + 8) = B) (hx : x = nI lo) (hy : y = nI hi) (hlo : lo ≤ hi) (hhi : hi ≤ 9999) : bl_MC G l (d + 2) mX11_number [.ref m, .int x, .int y] (M, J, R, K, N) (0, 0) (fun o σ' => ∃ M', σ' = (M', J, R, K, N) ∧ o = .inl (some (.int (nI (nvl (pbd s (pnum B n lo hi)))))) ∧ pM I m n (nst (pbd s (pnum B n lo hi))) fa M') := by
  subst hB; exact c_Model_numM hm hn hM hx hy hlo hhi
theorem c_Model_numA {M : Nat → Nat → Int32} {i : Nat} {B : Nat → Int32} {lo hi : Nat} {x y : Int32} (hm : mdS R K N m) (hn : n ≤ 400) (hM : pM I m n (.inl i) fa M) (hB : I (m + 8) = B) (hx : x = nI lo) (hy : y = nI hi) (hlo : lo ≤ hi) (hhi : hi ≤ 9999) : bl_MC G l (d + 2) mX11_number [.ref m, .int x, .int y] (M, J, R, K, N) (0, 0) (fun o σ' => ∃ M', σ' = (M', J, R, K, N) ∧ o = .inl (some (.int (nI (nvl (pnum B n lo hi i))))) ∧ pM I m n (nst (pnum B n lo hi i)) fa M') := by
  subst hB; exact c_Model_numM hm hn hM hx hy hlo hhi
theorem c_Model_blB {M : Nat → Nat → Int32} {s : pr Nat} {B : Nat → Int32} (hm : mdS R K N m) (hn : n ≤ 400) (hM : pM I m n s fa M) (hB : I (m + 8) = B) : bl_MC G l (d + 1) mX11_blanks [.ref m] (M, J, R, K, N) (0, 0) (fun o σ' => ∃ M', σ' = (M', J, R, K, N) ∧ o = .inl none ∧ pM I m n (pbd s (fun i => .inl (skB B n i))) fa M') := by
  subst hB; exact c_Model_blM hm hn hM
theorem c_Model_clause {S : kst} {i c : Nat} (hm : mdS R K N m) (hn : n ≤ 400) (hi : i ≤ n) (hS : kR I m S) (hc : I m 7 = nI c) (hc30 : c ≤ 30) : bl_MC G l (d + 5) mX11_clause [.ref m] (mpI I m (nI n) (nI i) 0 fa, J, R, K, N) (0, 0) (fun o σ' => o = .inl none ∧ ∃ I' M', σ' = (M', J, R, K, N) ∧ clF I I' m ∧ pM I' m n (pbd (pkc (I (m + 8)) n c S i) (fun a => .inl a.2)) fa M' ∧ (∀ a, pkc (I (m + 8)) n c S i = .inl a → kR I' m a.1 ∧ I' m 7 = nI (c + 1))) := by
  have km := hm.2.1
  obtain ⟨rm_9, km9, nm9⟩ := hm.f9
  obtain ⟨rm_11, km11, nm11⟩ := hm.f11
  have hp : skB (I (m + 8)) n i ≤ n := skB_le hi
  have hw1 : skW (I (m + 8)) n (skB (I (m + 8)) n i) ≤ n := skW_le hp
  have hKH := c_Model_kindHere (d := d) (G := G) (l := l) (J := J) (I := I) (fa := fa) hm hn hi
  unfold pkc
  generalize hpe : skB (I (m + 8)) n i = p at *
  generalize hwe : skW (I (m + 8)) n p = e at *
  refine bl_MC_intro (by decide +kernel) rfl (Nat.le_of_ble_eq_true rfl) ?_
  have L243 : ckd (I (m + 8)) p e ≠ zI (-1) → ¬ 30 ≤ c → ∀ s I1 M, pM I1 m n s fa M → clF I I1 m → s = pbd (pcl (I (m + 8)) n (ckd (I (m + 8)) p e).toNatClampNeg S e) (fun a => .inl a.2) → (∀ a, pcl (I (m + 8)) n (ckd (I (m + 8)) p e).toNatClampNeg S e = .inl a → kR I1 m a.1 ∧ I1 m 7 = nI (c + 1)) → bl_WP G l (d + 5) mX11_clause 243 [(0, .ref m)] [] (M, J, R, K, N) (0, 0) (fun o σ' => o = .inl none ∧ ∃ I' M', σ' = (M', J, R, K, N) ∧ clF I I' m ∧ pM I' m n (pbd (if ckd (I (m + 8)) p e = zI (-1) then .inr (1, p) else if 30 ≤ c then .inr (3, p) else pbd (pcl (I (m + 8)) n (ckd (I (m + 8)) p e).toNatClampNeg S e) fun a => pbd (pend (I (m + 8)) n a.2) fun j => .inl (a.1, j)) (fun a => .inl a.2)) fa M' ∧ (∀ a, (if ckd (I (m + 8)) p e = zI (-1) then .inr (1, p) else if 30 ≤ c then .inr (3, p) else pbd (pcl (I (m + 8)) n (ckd (I (m + 8)) p e).toNatClampNeg S e) fun a => pbd (pend (I (m + 8)) n a.2) fun j => .inl (a.1, j)) = .inl a → kR I' m a.1 ∧ I' m 7 = nI (c + 1))) := by
    intro n1 n2 s I1 M hM hF hs hk
    have hB : I1 (m + 8) = I (m + 8) := hF.1 _ (by omega) (by omega) (by omega)
    refine bl_go oX11_clause 80 [48, 243] rfl ?_
    refine ⟨rfl, rfl, km, (Nat.le_of_ble_eq_true rfl), (0, 0), Nat.le_of_ble_eq_true rfl, Nat.le_of_ble_eq_true rfl, bl_MC_mono (c_Model_sgM (d := d + 2) hm hn hM rfl) (fun o246 σ246 q246 => ?_)⟩
    try dsimp only [bl_pv] at q246
    obtain ⟨M', rfl, rfl, hM'⟩ := q246
    refine bl_go oX11_clause 80 [48, 243] rfl ?_
    try show _ ∧ _
    try dsimp only [bl_pv]
    refine ⟨rfl, I1, M', rfl, hF, ?_, fun a ha => ?_⟩
    · rw [if_neg n1, if_neg n2]
      rw [hs, hB] at hM'
      cases h1 : pcl (I (m + 8)) n (ckd (I (m + 8)) p e).toNatClampNeg S e with
      | inr f => rw [h1] at hM'; exact hM'
      | inl b =>
        rw [h1] at hM'
        show pM I1 m n (pbd (pbd (pend (I (m + 8)) n b.2) fun j => .inl (b.1, j)) (fun a => .inl a.2)) fa M'
        have hM2 : pM I1 m n (pend (I (m + 8)) n b.2) fa M' := hM'
        cases h2 : pend (I (m + 8)) n b.2 with
        | inr f => rw [h2] at hM2; exact hM2
        | inl j => rw [h2] at hM2; exact hM2
    · rw [if_neg n1, if_neg n2] at ha
      cases h1 : pcl (I (m + 8)) n (ckd (I (m + 8)) p e).toNatClampNeg S e with
      | inr f => rw [h1] at ha; cases ha
      | inl b =>
        rw [h1] at ha
        have ha2 : (pbd (pend (I (m + 8)) n b.2) fun j => .inl (b.1, j)) = .inl a := ha
        cases h2 : pend (I (m + 8)) n b.2 with
        | inr f => rw [h2] at ha2; cases ha2
        | inl j => rw [h2] at ha2; cases ha2; exact hk b h1
  have hB0 : ∀ v, bl_up2 I m 7 v (m + 8) = I (m + 8) := fun v => bl_up2_ne (by omega)
  have hF0 : ∀ v, clF I (bl_up2 I m 7 v) m := fun v => ⟨fun x x1 _ _ => bl_up2_ne x1, fun j hj => bl_up2_nk hj⟩
  have L138 : ckd (I (m + 8)) p e = nI 0 → ¬ 30 ≤ c → ∀ M z w q v, v = nI (nvl (pbd (pbd (nst (pbd (nst (pnum (I (m + 8)) n 2 12 e)) (pnum (I (m + 8)) n 2 12))) (fun i => .inl (skB (I (m + 8)) n i))) (pnum (I (m + 8)) n 0 3))) → (∀ j, (pbd (nst (pbd (nst (pnum (I (m + 8)) n 2 12 e)) (pnum (I (m + 8)) n 2 12))) (fun i => .inl (skB (I (m + 8)) n i))) = .inl j → q = j) → pM (bl_up2 (bl_up2 (bl_up2 I m 7 (nI (c + 1))) (m + 9) 0 (nI (nvl (pnum (I (m + 8)) n 2 12 e)))) (m + 9) 1 (nI (nvl (pbd (nst (pnum (I (m + 8)) n 2 12 e)) (pnum (I (m + 8)) n 2 12))))) m n (pbd (nst (pbd (pbd (nst (pbd (nst (pnum (I (m + 8)) n 2 12 e)) (pnum (I (m + 8)) n 2 12))) (fun i => .inl (skB (I (m + 8)) n i))) (pnum (I (m + 8)) n 0 3))) (fun j => if 2 * (nvl (pbd (pbd (nst (pbd (nst (pnum (I (m + 8)) n 2 12 e)) (pnum (I (m + 8)) n 2 12))) (fun i => .inl (skB (I (m + 8)) n i))) (pnum (I (m + 8)) n 0 3))) < (nvl (pnum (I (m + 8)) n 2 12 e)) ∧ 2 * (nvl (pbd (pbd (nst (pbd (nst (pnum (I (m + 8)) n 2 12 e)) (pnum (I (m + 8)) n 2 12))) (fun i => .inl (skB (I (m + 8)) n i))) (pnum (I (m + 8)) n 0 3))) < (nvl (pbd (nst (pnum (I (m + 8)) n 2 12 e)) (pnum (I (m + 8)) n 2 12))) then .inl j else .inr (2, q))) fa M → bl_WP G l (d + 5) mX11_clause 138 [(3, .int v), (2, .int w), (1, .int z), (0, .ref m)] [] (M, J, R, K, N) (0, 0) (fun o σ' => o = .inl none ∧ ∃ I' M', σ' = (M', J, R, K, N) ∧ clF I I' m ∧ pM I' m n (pbd (if ckd (I (m + 8)) p e = zI (-1) then .inr (1, p) else if 30 ≤ c then .inr (3, p) else pbd (pcl (I (m + 8)) n (ckd (I (m + 8)) p e).toNatClampNeg S e) fun a => pbd (pend (I (m + 8)) n a.2) fun j => .inl (a.1, j)) (fun a => .inl a.2)) fa M' ∧ (∀ a, (if ckd (I (m + 8)) p e = zI (-1) then .inr (1, p) else if 30 ≤ c then .inr (3, p) else pbd (pcl (I (m + 8)) n (ckd (I (m + 8)) p e).toNatClampNeg S e) fun a => pbd (pend (I (m + 8)) n a.2) fun j => .inl (a.1, j)) = .inl a → kR I' m a.1 ∧ I' m 7 = nI (c + 1))) := by
    intro hk0 n2 M z w q v hv hq hM
    have n1 : ckd (I (m + 8)) p e ≠ zI (-1) := by rw [hk0]; decide
    have hl := pcl_0 (S := S) hn hw1 rfl rfl rfl rfl rfl hq rfl rfl
    refine bl_go oX11_clause 80 [48, 243, 132, 138, 62] rfl ?_
    refine ⟨km, _, bl_vs rm_9, km9, (by first | exact (by rw [nm9]; exact vp_in_nI (by omega) (by omega)) | ((try dsimp only [bl_pv]); show vp_in _ (N _); rw [nm9]; simp (disch := omega) only [zI_n, zI_o, zI_lit, zI_neg, zI_add, zI_sub, zI_mul, zI_lt, zI_le, zI_eq, zI_clamp, zI_in, zI_div, zI_rem, lg_lt0, lg_gt0, lg_eq0, lg_le0, lg_ge0, Int.toNat_natCast, ge_iff_le, gt_iff_lt, List.length_cons, List.length_nil, bl_up2_at, bl_up2_nk, bl_up2_nx] <;> omega)), ?_⟩
    refine bl_lv [3] rfl ?_
    try dsimp only [bl_pv]
    refine L243 n1 n2 _ (bl_up2 (bl_up2 (bl_up2 (bl_up2 I m 7 (nI (c + 1))) (m + 9) 0 (nI (nvl (pnum (I (m + 8)) n 2 12 e)))) (m + 9) 1 (nI (nvl (pbd (nst (pnum (I (m + 8)) n 2 12 e)) (pnum (I (m + 8)) n 2 12))))) (m + 9) 2 v) _ (pM_up hM (Or.inl (by omega))) ?_ ?_ ?_
    · refine ⟨fun x x1 x2 x3 => ?_, fun j hj => ?_⟩
      · rw [bl_up2_ne x2, bl_up2_ne x2, bl_up2_ne x2, bl_up2_ne x1]
      · rw [bl_up2_ne (by omega), bl_up2_ne (by omega), bl_up2_ne (by omega), bl_up2_nk hj]
    · rw [hk0]; exact hl.1.symm
    · rw [hk0]
      intro a ha
      rw [hl.2 a ha, hv]
      refine ⟨⟨fun k hk => ?_, fun k hk => ?_⟩, ?_⟩
      · show _ = up1 (up1 (up1 S.1 0 _) 1 _) 2 _ k
        unfold up1
        by_cases e2 : k = 2
        · subst e2; rw [bl_up2_at]; rfl
        · rw [bl_up2_nk e2, if_neg e2]
          by_cases e1 : k = 1
          · subst e1; rw [bl_up2_at]; rfl
          · rw [bl_up2_nk e1, if_neg e1]
            by_cases e0 : k = 0
            · subst e0; rw [bl_up2_at]; rfl
            · rw [bl_up2_nk e0, if_neg e0, bl_up2_ne (by omega)]; exact hS.1 k hk
      · rw [bl_up2_ne (by omega), bl_up2_ne (by omega), bl_up2_ne (by omega), bl_up2_ne (by omega)]; exact hS.2 k hk
      · rw [bl_up2_ne (by omega), bl_up2_ne (by omega), bl_up2_ne (by omega), bl_up2_at]
  have L132 : ckd (I (m + 8)) p e = nI 0 → ¬ 30 ≤ c → ¬ (2 * (nvl (pbd (pbd (nst (pbd (nst (pnum (I (m + 8)) n 2 12 e)) (pnum (I (m + 8)) n 2 12))) (fun i => .inl (skB (I (m + 8)) n i))) (pnum (I (m + 8)) n 0 3))) < (nvl (pnum (I (m + 8)) n 2 12 e)) ∧ 2 * (nvl (pbd (pbd (nst (pbd (nst (pnum (I (m + 8)) n 2 12 e)) (pnum (I (m + 8)) n 2 12))) (fun i => .inl (skB (I (m + 8)) n i))) (pnum (I (m + 8)) n 0 3))) < (nvl (pbd (nst (pnum (I (m + 8)) n 2 12 e)) (pnum (I (m + 8)) n 2 12)))) → ∀ M z w q v, v = nI (nvl (pbd (pbd (nst (pbd (nst (pnum (I (m + 8)) n 2 12 e)) (pnum (I (m + 8)) n 2 12))) (fun i => .inl (skB (I (m + 8)) n i))) (pnum (I (m + 8)) n 0 3))) → w = nI q → (∀ j, (pbd (nst (pbd (nst (pnum (I (m + 8)) n 2 12 e)) (pnum (I (m + 8)) n 2 12))) (fun i => .inl (skB (I (m + 8)) n i))) = .inl j → q = j) → pM (bl_up2 (bl_up2 (bl_up2 I m 7 (nI (c + 1))) (m + 9) 0 (nI (nvl (pnum (I (m + 8)) n 2 12 e)))) (m + 9) 1 (nI (nvl (pbd (nst (pnum (I (m + 8)) n 2 12 e)) (pnum (I (m + 8)) n 2 12))))) m n (nst (pbd (pbd (nst (pbd (nst (pnum (I (m + 8)) n 2 12 e)) (pnum (I (m + 8)) n 2 12))) (fun i => .inl (skB (I (m + 8)) n i))) (pnum (I (m + 8)) n 0 3))) fa M → bl_WP G l (d + 5) mX11_clause 132 [(3, .int v), (2, .int w), (1, .int z), (0, .ref m)] [] (M, J, R, K, N) (0, 0) (fun o σ' => o = .inl none ∧ ∃ I' M', σ' = (M', J, R, K, N) ∧ clF I I' m ∧ pM I' m n (pbd (if ckd (I (m + 8)) p e = zI (-1) then .inr (1, p) else if 30 ≤ c then .inr (3, p) else pbd (pcl (I (m + 8)) n (ckd (I (m + 8)) p e).toNatClampNeg S e) fun a => pbd (pend (I (m + 8)) n a.2) fun j => .inl (a.1, j)) (fun a => .inl a.2)) fa M' ∧ (∀ a, (if ckd (I (m + 8)) p e = zI (-1) then .inr (1, p) else if 30 ≤ c then .inr (3, p) else pbd (pcl (I (m + 8)) n (ckd (I (m + 8)) p e).toNatClampNeg S e) fun a => pbd (pend (I (m + 8)) n a.2) fun j => .inl (a.1, j)) = .inl a → kR I' m a.1 ∧ I' m 7 = nI (c + 1))) := by
    intro hk0 n2 hcm M z w q v hv hw hq hM
    refine bl_go oX11_clause 80 [48, 243, 132, 138, 62] rfl ?_
    refine ⟨rfl, rfl, km, (Nat.le_of_ble_eq_true rfl), (0, 0), Nat.le_of_ble_eq_true rfl, Nat.le_of_ble_eq_true rfl, bl_MC_mono (c_Model_wrM (d := d + 4) hm hM (Or.inr (Or.inl rfl)) rfl hw) (fun o135 σ135 q135 => ?_)⟩
    try dsimp only [bl_pv] at q135
    obtain ⟨M', rfl, rfl, hM'⟩ := q135
    try dsimp only [bl_pv]
    refine L138 hk0 n2 _ _ _ q _ hv hq ?_
    rw [show (fun j : Nat => if 2 * (nvl (pbd (pbd (nst (pbd (nst (pnum (I (m + 8)) n 2 12 e)) (pnum (I (m + 8)) n 2 12))) (fun i => .inl (skB (I (m + 8)) n i))) (pnum (I (m + 8)) n 0 3))) < (nvl (pnum (I (m + 8)) n 2 12 e)) ∧ 2 * (nvl (pbd (pbd (nst (pbd (nst (pnum (I (m + 8)) n 2 12 e)) (pnum (I (m + 8)) n 2 12))) (fun i => .inl (skB (I (m + 8)) n i))) (pnum (I (m + 8)) n 0 3))) < (nvl (pbd (nst (pnum (I (m + 8)) n 2 12 e)) (pnum (I (m + 8)) n 2 12))) then (Sum.inl j : pr Nat) else .inr (2, q)) = fun _ => .inr (2, q) from funext fun j => if_neg hcm]
    exact hM'
  have L62a : ckd (I (m + 8)) p e = nI 0 → ¬ 30 ≤ c → ∀ M, pM (bl_up2 I m 7 (nI (c + 1))) m n (.inl e) fa M → bl_WP G l (d + 5) mX11_clause 62 [(1, .int (nI 0)), (0, .ref m)] [] (M, J, R, K, N) (0, 0) (fun o σ' => o = .inl none ∧ ∃ I' M', σ' = (M', J, R, K, N) ∧ clF I I' m ∧ pM I' m n (pbd (if ckd (I (m + 8)) p e = zI (-1) then .inr (1, p) else if 30 ≤ c then .inr (3, p) else pbd (pcl (I (m + 8)) n (ckd (I (m + 8)) p e).toNatClampNeg S e) fun a => pbd (pend (I (m + 8)) n a.2) fun j => .inl (a.1, j)) (fun a => .inl a.2)) fa M' ∧ (∀ a, (if ckd (I (m + 8)) p e = zI (-1) then .inr (1, p) else if 30 ≤ c then .inr (3, p) else pbd (pcl (I (m + 8)) n (ckd (I (m + 8)) p e).toNatClampNeg S e) fun a => pbd (pend (I (m + 8)) n a.2) fun j => .inl (a.1, j)) = .inl a → kR I' m a.1 ∧ I' m 7 = nI (c + 1))) := by
    intro hk0 n2 M hM
    have b1 : (nvl (pnum (I (m + 8)) n 2 12 e)) ≤ 12 := nvl_le (s := .inl e)
    have b2 : (nvl (pbd (nst (pnum (I (m + 8)) n 2 12 e)) (pnum (I (m + 8)) n 2 12))) ≤ 12 := nvl_le
    have b3 : (nvl (pbd (pbd (nst (pbd (nst (pnum (I (m + 8)) n 2 12 e)) (pnum (I (m + 8)) n 2 12))) (fun i => .inl (skB (I (m + 8)) n i))) (pnum (I (m + 8)) n 0 3))) ≤ 3 := nvl_le
    refine bl_go oX11_clause 80 [48, 243, 132, 138, 62] rfl ?_
    refine ⟨fun h63 => ?_, fun h63 => ?_⟩
    · try simp (disch := omega) only [zI_n, zI_o, zI_lit, zI_neg, zI_add, zI_sub, zI_mul, zI_lt, zI_le, zI_eq, zI_clamp, zI_in, zI_div, zI_rem, lg_lt0, lg_gt0, lg_eq0, lg_le0, lg_ge0, Int.toNat_natCast, ge_iff_le, gt_iff_lt, List.length_cons, List.length_nil, bl_up2_at, bl_up2_nk, bl_up2_nx] at h63
      exfalso; omega
    · try simp (disch := omega) only [zI_n, zI_o, zI_lit, zI_neg, zI_add, zI_sub, zI_mul, zI_lt, zI_le, zI_eq, zI_clamp, zI_in, zI_div, zI_rem, lg_lt0, lg_gt0, lg_eq0, lg_le0, lg_ge0, Int.toNat_natCast, ge_iff_le, gt_iff_lt, List.length_cons, List.length_nil, bl_up2_at, bl_up2_nk, bl_up2_nx] at h63
      first
      | (exfalso; first | omega | exact h63 trivial)
      | (refine ⟨km, _, bl_vs rm_9, rfl, rfl, km, (Nat.le_of_ble_eq_true rfl), (0, 0), Nat.le_of_ble_eq_true rfl, Nat.le_of_ble_eq_true rfl, bl_MC_mono (c_Model_numA (d := d + 2) (lo := 2) (hi := 12) hm hn hM (hB0 _) rfl rfl (by omega) (by omega)) (fun o75 σ75 q75 => ?_)⟩
         try dsimp only [bl_pv] at q75
         obtain ⟨M1, rfl, rfl, hM1⟩ := q75
         refine bl_go oX11_clause 80 [48, 243, 132, 138, 62] rfl ?_
         refine ⟨km9, (by first | exact (by rw [nm9]; exact vp_in_nI (by omega) (by omega)) | ((try dsimp only [bl_pv]); show vp_in _ (N _); rw [nm9]; simp (disch := omega) only [zI_n, zI_o, zI_lit, zI_neg, zI_add, zI_sub, zI_mul, zI_lt, zI_le, zI_eq, zI_clamp, zI_in, zI_div, zI_rem, lg_lt0, lg_gt0, lg_eq0, lg_le0, lg_ge0, Int.toNat_natCast, ge_iff_le, gt_iff_lt, List.length_cons, List.length_nil, bl_up2_at, bl_up2_nk, bl_up2_nx] <;> omega)), km, _, bl_vs rm_9, rfl, rfl, km, (Nat.le_of_ble_eq_true rfl), (0, 0), Nat.le_of_ble_eq_true rfl, Nat.le_of_ble_eq_true rfl, bl_MC_mono (c_Model_numB (d := d + 2) (lo := 2) (hi := 12) hm hn (pM_up (y := m + 9) (k := 0) (v := nI (nvl (pnum (I (m + 8)) n 2 12 e))) hM1 (Or.inl (by omega))) ((bl_up2_ne (by omega)).trans (hB0 _)) rfl rfl (by omega) (by omega)) (fun o88 σ88 q88 => ?_)⟩
         try dsimp only [bl_pv] at q88
         obtain ⟨M2, rfl, rfl, hM2⟩ := q88
         have hM2' := pM_up (y := m + 9) (k := 1) (v := nI (nvl (pbd (nst (pnum (I (m + 8)) n 2 12 e)) (pnum (I (m + 8)) n 2 12)))) hM2 (Or.inl (by omega))
         refine bl_go oX11_clause 80 [48, 243, 132, 138, 62] rfl ?_
         refine ⟨km9, (by first | exact (by rw [nm9]; exact vp_in_nI (by omega) (by omega)) | ((try dsimp only [bl_pv]); show vp_in _ (N _); rw [nm9]; simp (disch := omega) only [zI_n, zI_o, zI_lit, zI_neg, zI_add, zI_sub, zI_mul, zI_lt, zI_le, zI_eq, zI_clamp, zI_in, zI_div, zI_rem, lg_lt0, lg_gt0, lg_eq0, lg_le0, lg_ge0, Int.toNat_natCast, ge_iff_le, gt_iff_lt, List.length_cons, List.length_nil, bl_up2_at, bl_up2_nk, bl_up2_nx] <;> omega)), rfl, rfl, km, (Nat.le_of_ble_eq_true rfl), (0, 0), Nat.le_of_ble_eq_true rfl, Nat.le_of_ble_eq_true rfl, bl_MC_mono (c_Model_blB (d := d + 3) hm hn hM2' ((bl_up2_ne (by omega)).trans ((bl_up2_ne (by omega)).trans (hB0 _)))) (fun o93 σ93 q93 => ?_)⟩
         try dsimp only [bl_pv] at q93
         obtain ⟨M3, rfl, rfl, hM3⟩ := q93
         obtain ⟨-, q, hqn, hq4⟩ := pM_2 hM3
         have hq : ∀ j, (pbd (nst (pbd (nst (pnum (I (m + 8)) n 2 12 e)) (pnum (I (m + 8)) n 2 12))) (fun i => .inl (skB (I (m + 8)) n i))) = .inl j → q = j := by
           intro j hj
           have h3 : pM (bl_up2 (bl_up2 (bl_up2 I m 7 (nI (c + 1))) (m + 9) 0 (nI (nvl (pnum (I (m + 8)) n 2 12 e)))) (m + 9) 1 (nI (nvl (pbd (nst (pnum (I (m + 8)) n 2 12 e)) (pnum (I (m + 8)) n 2 12))))) m n (pbd (nst (pbd (nst (pnum (I (m + 8)) n 2 12 e)) (pnum (I (m + 8)) n 2 12))) (fun i => .inl (skB (I (m + 8)) n i))) fa M3 := hM3
           rw [hj] at h3
           rw [h3.2, mp4] at hq4
           have := congrArg Int32.toNatClampNeg hq4
           have hj1 : j ≤ n := h3.1
           rw [nI_clamp (show j < 2147483648 by omega), nI_clamp (show q < 2147483648 by omega)] at this
           exact this.symm
         refine bl_go oX11_clause 80 [48, 243, 132, 138, 62] rfl ?_
         refine ⟨km, rfl, rfl, km, (Nat.le_of_ble_eq_true rfl), (0, 0), Nat.le_of_ble_eq_true rfl, Nat.le_of_ble_eq_true rfl, bl_MC_mono (c_Model_numB (d := d + 2) (lo := 0) (hi := 3) hm hn hM3 ((bl_up2_ne (by omega)).trans ((bl_up2_ne (by omega)).trans (hB0 _))) rfl rfl (by omega) (by omega)) (fun o104 σ104 q104 => ?_)⟩
         try dsimp only [bl_pv] at q104
         obtain ⟨M4, rfl, rfl, hM4⟩ := q104
         have r0 : M4 (m + 9) 0 = nI (nvl (pnum (I (m + 8)) n 2 12 e)) := by
           rw [pM_ne hM4 (by omega), bl_up2_nk (by omega), bl_up2_at]
         have r1 : M4 (m + 9) 1 = nI (nvl (pbd (nst (pnum (I (m + 8)) n 2 12 e)) (pnum (I (m + 8)) n 2 12))) := by
           rw [pM_ne hM4 (by omega), bl_up2_at]
         refine bl_go oX11_clause 80 [48, 243, 132, 138, 62] rfl ?_
         refine ⟨km, _, bl_vs rm_9, Or.inl ⟨km9, (by first | exact (by rw [nm9]; exact vp_in_nI (by omega) (by omega)) | ((try dsimp only [bl_pv]); show vp_in _ (N _); rw [nm9]; simp (disch := omega) only [zI_n, zI_o, zI_lit, zI_neg, zI_add, zI_sub, zI_mul, zI_lt, zI_le, zI_eq, zI_clamp, zI_in, zI_div, zI_rem, lg_lt0, lg_gt0, lg_eq0, lg_le0, lg_ge0, Int.toNat_natCast, ge_iff_le, gt_iff_lt, List.length_cons, List.length_nil, bl_up2_at, bl_up2_nk, bl_up2_nx] <;> omega)), fun h117 => ?_, fun h117 => ?_⟩⟩
         · try simp (disch := omega) only [bl_pv, cl0, cl1, cl2, cl3, cl4, cl5, cl6, cl7, cl8, cl9, bl_up2_at, bl_up2_nk, bl_up2_nx] at h117
           first
           | (exfalso; first | omega | exact h117 trivial)
           | (try dsimp only [bl_pv]
              refine L132 hk0 n2 ?_ _ _ _ q _ rfl hq4 hq hM4
              first
              | (have hq9 := h129; rw [r1, dbl_lt b2 b3] at hq9; exact fun hh => hq9 hh.2)
              | (have hq9 := h117; rw [r0, dbl_le b1 b3] at hq9; exact fun hh => absurd hq9 (Nat.not_le_of_lt hh.1)))
         · try simp (disch := omega) only [bl_pv, cl0, cl1, cl2, cl3, cl4, cl5, cl6, cl7, cl8, cl9, bl_up2_at, bl_up2_nk, bl_up2_nx] at h117
           first
           | (exfalso; first | omega | exact h117 trivial)
           | (refine ⟨km, _, bl_vs rm_9, Or.inl ⟨km9, (by first | exact (by rw [nm9]; exact vp_in_nI (by omega) (by omega)) | ((try dsimp only [bl_pv]); show vp_in _ (N _); rw [nm9]; simp (disch := omega) only [zI_n, zI_o, zI_lit, zI_neg, zI_add, zI_sub, zI_mul, zI_lt, zI_le, zI_eq, zI_clamp, zI_in, zI_div, zI_rem, lg_lt0, lg_gt0, lg_eq0, lg_le0, lg_ge0, Int.toNat_natCast, ge_iff_le, gt_iff_lt, List.length_cons, List.length_nil, bl_up2_at, bl_up2_nk, bl_up2_nx] <;> omega)), fun h129 => ?_, fun h129 => ?_⟩⟩
              · try simp (disch := omega) only [bl_pv, cl0, cl1, cl2, cl3, cl4, cl5, cl6, cl7, cl8, cl9, bl_up2_at, bl_up2_nk, bl_up2_nx] at h129
                first
                | (exfalso; first | omega | exact h129 trivial)
                | (try dsimp only [bl_pv]
                   refine L138 hk0 n2 _ _ _ q _ rfl hq (pM_s hM4 ?_)
                   rw [r0, dbl_le b1 b3] at h117
                   rw [r1, dbl_lt b2 b3] at h129
                   have hcm : 2 * (nvl (pbd (pbd (nst (pbd (nst (pnum (I (m + 8)) n 2 12 e)) (pnum (I (m + 8)) n 2 12))) (fun i => .inl (skB (I (m + 8)) n i))) (pnum (I (m + 8)) n 0 3))) < (nvl (pnum (I (m + 8)) n 2 12 e)) ∧ 2 * (nvl (pbd (pbd (nst (pbd (nst (pnum (I (m + 8)) n 2 12 e)) (pnum (I (m + 8)) n 2 12))) (fun i => .inl (skB (I (m + 8)) n i))) (pnum (I (m + 8)) n 0 3))) < (nvl (pbd (nst (pnum (I (m + 8)) n 2 12 e)) (pnum (I (m + 8)) n 2 12))) := ⟨Nat.lt_of_not_le h117, h129⟩
                   rw [show (fun j : Nat => if 2 * (nvl (pbd (pbd (nst (pbd (nst (pnum (I (m + 8)) n 2 12 e)) (pnum (I (m + 8)) n 2 12))) (fun i => .inl (skB (I (m + 8)) n i))) (pnum (I (m + 8)) n 0 3))) < (nvl (pnum (I (m + 8)) n 2 12 e)) ∧ 2 * (nvl (pbd (pbd (nst (pbd (nst (pnum (I (m + 8)) n 2 12 e)) (pnum (I (m + 8)) n 2 12))) (fun i => .inl (skB (I (m + 8)) n i))) (pnum (I (m + 8)) n 0 3))) < (nvl (pbd (nst (pnum (I (m + 8)) n 2 12 e)) (pnum (I (m + 8)) n 2 12))) then (Sum.inl j : pr Nat) else .inr (2, q)) = fun j => .inl j from funext fun j => if_pos hcm]
                   cases (nst (pbd (pbd (nst (pbd (nst (pnum (I (m + 8)) n 2 12 e)) (pnum (I (m + 8)) n 2 12))) (fun i => .inl (skB (I (m + 8)) n i))) (pnum (I (m + 8)) n 0 3))) <;> rfl)
              · try simp (disch := omega) only [bl_pv, cl0, cl1, cl2, cl3, cl4, cl5, cl6, cl7, cl8, cl9, bl_up2_at, bl_up2_nk, bl_up2_nx] at h129
                first
                | (exfalso; first | omega | exact h129 trivial)
                | (try dsimp only [bl_pv]
                   refine L132 hk0 n2 ?_ _ _ _ q _ rfl hq4 hq hM4
                   first
                   | (have hq9 := h129; rw [r1, dbl_lt b2 b3] at hq9; exact fun hh => hq9 hh.2)
                   | (have hq9 := h117; rw [r0, dbl_le b1 b3] at hq9; exact fun hh => absurd hq9 (Nat.not_le_of_lt hh.1)))))
  have L62b : ckd (I (m + 8)) p e = nI 9 → ¬ 30 ≤ c → ∀ M, pM (bl_up2 I m 7 (nI (c + 1))) m n (.inl e) fa M → bl_WP G l (d + 5) mX11_clause 62 [(1, .int (nI 9)), (0, .ref m)] [] (M, J, R, K, N) (0, 0) (fun o σ' => o = .inl none ∧ ∃ I' M', σ' = (M', J, R, K, N) ∧ clF I I' m ∧ pM I' m n (pbd (if ckd (I (m + 8)) p e = zI (-1) then .inr (1, p) else if 30 ≤ c then .inr (3, p) else pbd (pcl (I (m + 8)) n (ckd (I (m + 8)) p e).toNatClampNeg S e) fun a => pbd (pend (I (m + 8)) n a.2) fun j => .inl (a.1, j)) (fun a => .inl a.2)) fa M' ∧ (∀ a, (if ckd (I (m + 8)) p e = zI (-1) then .inr (1, p) else if 30 ≤ c then .inr (3, p) else pbd (pcl (I (m + 8)) n (ckd (I (m + 8)) p e).toNatClampNeg S e) fun a => pbd (pend (I (m + 8)) n a.2) fun j => .inl (a.1, j)) = .inl a → kR I' m a.1 ∧ I' m 7 = nI (c + 1))) := by
    intro hk9 n2 M hM
    have n1 : ckd (I (m + 8)) p e ≠ zI (-1) := by rw [hk9]; decide
    have hl := pcl_9 (S := S) (B := I (m + 8)) (n := n) (e := e) rfl rfl rfl rfl
    have b1 : nvl (pnum (I (m + 8)) n 0 23 e) ≤ 23 := nvl_le (s := .inl e)
    have ec : (nI (nvl (pnum (I (m + 8)) n 0 23 e))).toNatClampNeg = nvl (pnum (I (m + 8)) n 0 23 e) := nI_clamp (by omega)
    refine bl_go oX11_clause 80 [48, 243, 132, 138, 62] rfl ?_
    refine ⟨fun h63 => ?_, fun h63 => ?_⟩
    · try simp (disch := omega) only [zI_n, zI_o, zI_lit, zI_neg, zI_add, zI_sub, zI_mul, zI_lt, zI_le, zI_eq, zI_clamp, zI_in, zI_div, zI_rem, lg_lt0, lg_gt0, lg_eq0, lg_le0, lg_ge0, Int.toNat_natCast, ge_iff_le, gt_iff_lt, List.length_cons, List.length_nil, bl_up2_at, bl_up2_nk, bl_up2_nx] at h63
      first
      | (exfalso; first | omega | exact h63 trivial)
      | (refine ⟨fun h151 => ?_, fun h151 => ?_⟩
         · try simp (disch := omega) only [zI_n, zI_o, zI_lit, zI_neg, zI_add, zI_sub, zI_mul, zI_lt, zI_le, zI_eq, zI_clamp, zI_in, zI_div, zI_rem, lg_lt0, lg_gt0, lg_eq0, lg_le0, lg_ge0, Int.toNat_natCast, ge_iff_le, gt_iff_lt, List.length_cons, List.length_nil, bl_up2_at, bl_up2_nk, bl_up2_nx] at h151
           exfalso; omega
         · try simp (disch := omega) only [zI_n, zI_o, zI_lit, zI_neg, zI_add, zI_sub, zI_mul, zI_lt, zI_le, zI_eq, zI_clamp, zI_in, zI_div, zI_rem, lg_lt0, lg_gt0, lg_eq0, lg_le0, lg_ge0, Int.toNat_natCast, ge_iff_le, gt_iff_lt, List.length_cons, List.length_nil, bl_up2_at, bl_up2_nk, bl_up2_nx] at h151
           first
           | (exfalso; first | omega | exact h151 trivial)
           | (refine ⟨rfl, rfl, km, (Nat.le_of_ble_eq_true rfl), (0, 0), Nat.le_of_ble_eq_true rfl, Nat.le_of_ble_eq_true rfl, bl_MC_mono (c_Model_numA (d := d + 2) (lo := 0) (hi := 23) hm hn hM (hB0 _) rfl rfl (by omega) (by omega)) (fun o158 σ158 q158 => ?_)⟩
              try dsimp only [bl_pv] at q158
              obtain ⟨M1, rfl, rfl, hM1⟩ := q158
              refine bl_go oX11_clause 80 [48, 243, 132, 138, 62] rfl ?_
              refine ⟨rfl, rfl, km, (Nat.le_of_ble_eq_true rfl), (0, 0), Nat.le_of_ble_eq_true rfl, Nat.le_of_ble_eq_true rfl, bl_MC_mono (c_Model_numB (d := d + 2) (lo := 0) (hi := 40) hm hn hM1 (hB0 _) rfl rfl (by omega) (by omega)) (fun o166 σ166 q166 => ?_)⟩
              try dsimp only [bl_pv] at q166
              obtain ⟨M2, rfl, rfl, hM2⟩ := q166
              refine bl_go oX11_clause 80 [48, 243, 132, 138, 62] rfl ?_
              refine ⟨km, fun h174 => ?_, fun h174 => ?_⟩
              · try simp (disch := omega) only [bl_pv, cl0, cl1, cl2, cl3, cl4, cl5, cl6, cl7, cl8, cl9, bl_up2_at, bl_up2_nk, bl_up2_nx] at h174
                first
                | (exfalso; first | omega | exact h174 trivial)
                | (refine bl_lv [3] rfl ?_
                   try dsimp only [bl_pv]
                   first
                   | (have hq9 : ¬ M2 m 5 = 0 := h174
                      refine L243 n1 n2 _ (bl_up2 I m 7 (nI (c + 1))) _ hM2 (hF0 _) (by rw [hk9]; exact hl.1.symm) ?_
                      rw [hk9]
                      intro a ha
                      have h2 := hM2
                      rw [(hl.2 a ha).2] at h2
                      exact absurd (by rw [h2.2]; exact mp5) hq9)
                   | (have hq9 : M2 m 5 = 0 := h174
                      rw [ec]
                      refine L243 n1 n2 _ (bl_up2 (bl_up2 I m 7 (nI (c + 1))) (m + 11) (nvl (pnum (I (m + 8)) n 0 23 e)) _) _ (pM_up hM2 (Or.inl (by omega))) ?_ (by rw [hk9]; exact hl.1.symm) ?_
                      · refine ⟨fun x x1 x2 x3 => ?_, fun j hj => ?_⟩
                        · rw [bl_up2_ne x3, bl_up2_ne x1]
                        · rw [bl_up2_ne (by omega), bl_up2_nk hj]
                      · rw [hk9]
                        intro a ha
                        rw [(hl.2 a ha).1]
                        refine ⟨⟨fun k hk => ?_, fun k hk => ?_⟩, ?_⟩
                        · rw [bl_up2_ne (by omega), bl_up2_ne (by omega)]; exact hS.1 k hk
                        · show _ = up1 S.2 _ _ k
                          unfold up1
                          by_cases e2 : k = nvl (pnum (I (m + 8)) n 0 23 e)
                          · rw [if_pos e2, e2, bl_up2_at]
                          · rw [bl_up2_nk e2, if_neg e2, bl_up2_ne (by omega)]; exact hS.2 k hk
                        · rw [bl_up2_ne (by omega), bl_up2_at]))
              · try simp (disch := omega) only [bl_pv, cl0, cl1, cl2, cl3, cl4, cl5, cl6, cl7, cl8, cl9, bl_up2_at, bl_up2_nk, bl_up2_nx] at h174
                first
                | (exfalso; first | omega | exact h174 trivial)
                | (refine ⟨km, _, bl_vs rm_11, km11, (by first | exact (by rw [nm11]; exact vp_in_nI (by omega) (by omega)) | ((try dsimp only [bl_pv]); show vp_in _ (N _); rw [nm11]; simp (disch := omega) only [zI_n, zI_o, zI_lit, zI_neg, zI_add, zI_sub, zI_mul, zI_lt, zI_le, zI_eq, zI_clamp, zI_in, zI_div, zI_rem, lg_lt0, lg_gt0, lg_eq0, lg_le0, lg_ge0, Int.toNat_natCast, ge_iff_le, gt_iff_lt, List.length_cons, List.length_nil, bl_up2_at, bl_up2_nk, bl_up2_nx] <;> omega)), ?_⟩
                   refine bl_lv [3] rfl ?_
                   try dsimp only [bl_pv]
                   first
                   | (have hq9 : ¬ M2 m 5 = 0 := h174
                      refine L243 n1 n2 _ (bl_up2 I m 7 (nI (c + 1))) _ hM2 (hF0 _) (by rw [hk9]; exact hl.1.symm) ?_
                      rw [hk9]
                      intro a ha
                      have h2 := hM2
                      rw [(hl.2 a ha).2] at h2
                      exact absurd (by rw [h2.2]; exact mp5) hq9)
                   | (have hq9 : M2 m 5 = 0 := h174
                      rw [ec]
                      refine L243 n1 n2 _ (bl_up2 (bl_up2 I m 7 (nI (c + 1))) (m + 11) (nvl (pnum (I (m + 8)) n 0 23 e)) _) _ (pM_up hM2 (Or.inl (by omega))) ?_ (by rw [hk9]; exact hl.1.symm) ?_
                      · refine ⟨fun x x1 x2 x3 => ?_, fun j hj => ?_⟩
                        · rw [bl_up2_ne x3, bl_up2_ne x1]
                        · rw [bl_up2_ne (by omega), bl_up2_nk hj]
                      · rw [hk9]
                        intro a ha
                        rw [(hl.2 a ha).1]
                        refine ⟨⟨fun k hk => ?_, fun k hk => ?_⟩, ?_⟩
                        · rw [bl_up2_ne (by omega), bl_up2_ne (by omega)]; exact hS.1 k hk
                        · show _ = up1 S.2 _ _ k
                          unfold up1
                          by_cases e2 : k = nvl (pnum (I (m + 8)) n 0 23 e)
                          · rw [if_pos e2, e2, bl_up2_at]
                          · rw [bl_up2_nk e2, if_neg e2, bl_up2_ne (by omega)]; exact hS.2 k hk
                        · rw [bl_up2_ne (by omega), bl_up2_at]))))
    · try simp (disch := omega) only [zI_n, zI_o, zI_lit, zI_neg, zI_add, zI_sub, zI_mul, zI_lt, zI_le, zI_eq, zI_clamp, zI_in, zI_div, zI_rem, lg_lt0, lg_gt0, lg_eq0, lg_le0, lg_ge0, Int.toNat_natCast, ge_iff_le, gt_iff_lt, List.length_cons, List.length_nil, bl_up2_at, bl_up2_nk, bl_up2_nx] at h63
      exfalso; omega
  have L62c : ∀ k, k ≤ 9 → k ≠ 0 → k ≠ 1 → k ≠ 2 → k ≠ 9 → ckd (I (m + 8)) p e = nI k → ¬ 30 ≤ c → ∀ M, pM (bl_up2 I m 7 (nI (c + 1))) m n (.inl e) fa M → bl_WP G l (d + 5) mX11_clause 62 [(1, .int (nI k)), (0, .ref m)] [] (M, J, R, K, N) (0, 0) (fun o σ' => o = .inl none ∧ ∃ I' M', σ' = (M', J, R, K, N) ∧ clF I I' m ∧ pM I' m n (pbd (if ckd (I (m + 8)) p e = zI (-1) then .inr (1, p) else if 30 ≤ c then .inr (3, p) else pbd (pcl (I (m + 8)) n (ckd (I (m + 8)) p e).toNatClampNeg S e) fun a => pbd (pend (I (m + 8)) n a.2) fun j => .inl (a.1, j)) (fun a => .inl a.2)) fa M' ∧ (∀ a, (if ckd (I (m + 8)) p e = zI (-1) then .inr (1, p) else if 30 ≤ c then .inr (3, p) else pbd (pcl (I (m + 8)) n (ckd (I (m + 8)) p e).toNatClampNeg S e) fun a => pbd (pend (I (m + 8)) n a.2) fun j => .inl (a.1, j)) = .inl a → kR I' m a.1 ∧ I' m 7 = nI (c + 1))) := by
    intro k hk k0 k1 k2 k9 hck n2 M hM
    have ec : (nI k).toNatClampNeg = k := nI_clamp (by omega)
    have n1 : ckd (I (m + 8)) p e ≠ zI (-1) := by
      rw [hck]; intro h; have h' := congrArg Int32.toInt h
      rw [nI_toInt (by omega)] at h'; exact absurd h' (by have : (zI (-1)).toInt = -1 := by decide
                                                          omega)
    have hl := pcl_k (S := S) (B := I (m + 8)) (n := n) (e := e) k0 k9 rfl rfl
    have hfin : ∀ lo hi M1, lo = cLo k → hi = cHi k → pM (bl_up2 I m 7 (nI (c + 1))) m n (nst (pnum (I (m + 8)) n lo hi e)) fa M1 → bl_WP G l (d + 5) mX11_clause 243 [(0, .ref m)] [] (bl_up2 M1 (m + 9) (nI k).toNatClampNeg (nI (nvl (pnum (I (m + 8)) n lo hi e))), J, R, K, N) (0, 0) (fun o σ' => o = .inl none ∧ ∃ I' M', σ' = (M', J, R, K, N) ∧ clF I I' m ∧ pM I' m n (pbd (if ckd (I (m + 8)) p e = zI (-1) then .inr (1, p) else if 30 ≤ c then .inr (3, p) else pbd (pcl (I (m + 8)) n (ckd (I (m + 8)) p e).toNatClampNeg S e) fun a => pbd (pend (I (m + 8)) n a.2) fun j => .inl (a.1, j)) (fun a => .inl a.2)) fa M' ∧ (∀ a, (if ckd (I (m + 8)) p e = zI (-1) then .inr (1, p) else if 30 ≤ c then .inr (3, p) else pbd (pcl (I (m + 8)) n (ckd (I (m + 8)) p e).toNatClampNeg S e) fun a => pbd (pend (I (m + 8)) n a.2) fun j => .inl (a.1, j)) = .inl a → kR I' m a.1 ∧ I' m 7 = nI (c + 1))) := by
      intro lo hi M1 e1 e2 hM1
      subst e1 e2
      rw [ec]
      refine L243 n1 n2 _ (bl_up2 (bl_up2 I m 7 (nI (c + 1))) (m + 9) k _) _ (pM_up hM1 (Or.inl (by omega))) ?_ (by rw [hck, ec]; exact hl.1.symm) ?_
      · refine ⟨fun x x1 x2 x3 => ?_, fun j hj => ?_⟩
        · rw [bl_up2_ne x2, bl_up2_ne x1]
        · rw [bl_up2_ne (by omega), bl_up2_nk hj]
      · rw [hck, ec]
        intro a ha
        rw [hl.2 a ha]
        refine ⟨⟨fun j hj => ?_, fun j hj => ?_⟩, ?_⟩
        · show _ = up1 S.1 _ _ j
          unfold up1
          by_cases e2 : j = k
          · rw [if_pos e2, e2, bl_up2_at]
          · rw [bl_up2_nk e2, if_neg e2, bl_up2_ne (by omega)]; exact hS.1 j hj
        · rw [bl_up2_ne (by omega), bl_up2_ne (by omega)]; exact hS.2 j hj
        · rw [bl_up2_ne (by omega), bl_up2_at]
    have c40 : k ≠ 3 → k ≠ 7 → k ≠ 8 → cHi k = 40 := by
      intro x1 x2 x3
      have hk' : k = 4 ∨ k = 5 ∨ k = 6 := by omega
      rcases hk' with rfl | rfl | rfl <;> rfl
    have c0 : k ≠ 3 → 0 = cLo k := by
      intro x1
      have hk' : k = 4 ∨ k = 5 ∨ k = 6 ∨ k = 7 ∨ k = 8 := by omega
      rcases hk' with rfl | rfl | rfl | rfl | rfl <;> rfl
    have cH : cHi k ≤ 9999 := by
      have hk' : k = 3 ∨ k = 4 ∨ k = 5 ∨ k = 6 ∨ k = 7 ∨ k = 8 := by omega
      rcases hk' with rfl | rfl | rfl | rfl | rfl | rfl <;> decide
    refine bl_go oX11_clause 80 [48, 243, 132, 138, 62] rfl ?_
    refine ⟨fun h63 => ?_, fun h63 => ?_⟩
    · try simp (disch := omega) only [zI_n, zI_o, zI_lit, zI_neg, zI_add, zI_sub, zI_mul, zI_lt, zI_le, zI_eq, zI_clamp, zI_in, zI_div, zI_rem, lg_lt0, lg_gt0, lg_eq0, lg_le0, lg_ge0, Int.toNat_natCast, ge_iff_le, gt_iff_lt, List.length_cons, List.length_nil, bl_up2_at, bl_up2_nk, bl_up2_nx] at h63
      first
      | (exfalso; first | omega | exact h63 trivial)
      | (refine ⟨fun h151 => ?_, fun h151 => ?_⟩
         · try simp (disch := omega) only [zI_n, zI_o, zI_lit, zI_neg, zI_add, zI_sub, zI_mul, zI_lt, zI_le, zI_eq, zI_clamp, zI_in, zI_div, zI_rem, lg_lt0, lg_gt0, lg_eq0, lg_le0, lg_ge0, Int.toNat_natCast, ge_iff_le, gt_iff_lt, List.length_cons, List.length_nil, bl_up2_at, bl_up2_nk, bl_up2_nx] at h151
           first
           | (exfalso; first | omega | exact h151 trivial)
           | (refine ⟨km, _, bl_vs rm_9, fun h194 => ?_, fun h194 => ?_⟩
              · try simp (disch := omega) only [zI_n, zI_o, zI_lit, zI_neg, zI_add, zI_sub, zI_mul, zI_lt, zI_le, zI_eq, zI_clamp, zI_in, zI_div, zI_rem, lg_lt0, lg_gt0, lg_eq0, lg_le0, lg_ge0, Int.toNat_natCast, ge_iff_le, gt_iff_lt, List.length_cons, List.length_nil, bl_up2_at, bl_up2_nk, bl_up2_nx] at h194
                first
                | (exfalso; first | omega | exact h194 trivial)
                | (refine ⟨fun h211 => ?_, fun h211 => ?_⟩
                   · try simp (disch := omega) only [zI_n, zI_o, zI_lit, zI_neg, zI_add, zI_sub, zI_mul, zI_lt, zI_le, zI_eq, zI_clamp, zI_in, zI_div, zI_rem, lg_lt0, lg_gt0, lg_eq0, lg_le0, lg_ge0, Int.toNat_natCast, ge_iff_le, gt_iff_lt, List.length_cons, List.length_nil, bl_up2_at, bl_up2_nk, bl_up2_nx] at h211
                     first
                     | (exfalso; first | omega | exact h211 trivial)
                     | (refine ⟨fun h229 => ?_, fun h229 => ?_⟩
                        · try simp (disch := omega) only [zI_n, zI_o, zI_lit, zI_neg, zI_add, zI_sub, zI_mul, zI_lt, zI_le, zI_eq, zI_clamp, zI_in, zI_div, zI_rem, lg_lt0, lg_gt0, lg_eq0, lg_le0, lg_ge0, Int.toNat_natCast, ge_iff_le, gt_iff_lt, List.length_cons, List.length_nil, bl_up2_at, bl_up2_nk, bl_up2_nx] at h229
                          first
                          | (exfalso; first | omega | exact h229 trivial)
                          | (refine ⟨rfl, rfl, km, (Nat.le_of_ble_eq_true rfl), (0, 0), Nat.le_of_ble_eq_true rfl, Nat.le_of_ble_eq_true rfl, bl_MC_mono (c_Model_numA (d := d + 2) (lo := 0) (hi := cHi k) hm hn hM (hB0 _) rfl (by first | (rw [c40 (by omega) (by omega) (by omega)]; rfl) | (rw [show k = 8 by omega]; rfl)) (by omega) cH) (fun o239 σ239 q239 => ?_)⟩
                             try dsimp only [bl_pv] at q239
                             obtain ⟨M1, rfl, rfl, hM1⟩ := q239
                             refine bl_go oX11_clause 80 [48, 243, 132, 138, 62] rfl ?_
                             refine ⟨km9, (by first | exact (by rw [nm9]; exact vp_in_nI (by omega) (by omega)) | ((try dsimp only [bl_pv]); show vp_in _ (N _); rw [nm9]; simp (disch := omega) only [zI_n, zI_o, zI_lit, zI_neg, zI_add, zI_sub, zI_mul, zI_lt, zI_le, zI_eq, zI_clamp, zI_in, zI_div, zI_rem, lg_lt0, lg_gt0, lg_eq0, lg_le0, lg_ge0, Int.toNat_natCast, ge_iff_le, gt_iff_lt, List.length_cons, List.length_nil, bl_up2_at, bl_up2_nk, bl_up2_nx] <;> omega)), ?_⟩
                             refine bl_lv [1] rfl ?_
                             try dsimp only [bl_pv]
                             first
                             | exact hfin _ _ _ (c0 (by omega)) rfl hM1
                             | exact hfin 1 9999 _ (by rw [show k = 3 by omega]; rfl) (by rw [show k = 3 by omega]; rfl) hM1
                             | exact hfin 0 99 _ (by rw [show k = 7 by omega]; rfl) (by rw [show k = 7 by omega]; rfl) hM1)
                        · try simp (disch := omega) only [zI_n, zI_o, zI_lit, zI_neg, zI_add, zI_sub, zI_mul, zI_lt, zI_le, zI_eq, zI_clamp, zI_in, zI_div, zI_rem, lg_lt0, lg_gt0, lg_eq0, lg_le0, lg_ge0, Int.toNat_natCast, ge_iff_le, gt_iff_lt, List.length_cons, List.length_nil, bl_up2_at, bl_up2_nk, bl_up2_nx] at h229
                          first
                          | (exfalso; first | omega | exact h229 trivial)
                          | (refine ⟨rfl, rfl, km, (Nat.le_of_ble_eq_true rfl), (0, 0), Nat.le_of_ble_eq_true rfl, Nat.le_of_ble_eq_true rfl, bl_MC_mono (c_Model_numA (d := d + 2) (lo := 0) (hi := cHi k) hm hn hM (hB0 _) rfl (by first | (rw [c40 (by omega) (by omega) (by omega)]; rfl) | (rw [show k = 8 by omega]; rfl)) (by omega) cH) (fun o239 σ239 q239 => ?_)⟩
                             try dsimp only [bl_pv] at q239
                             obtain ⟨M1, rfl, rfl, hM1⟩ := q239
                             refine bl_go oX11_clause 80 [48, 243, 132, 138, 62] rfl ?_
                             refine ⟨km9, (by first | exact (by rw [nm9]; exact vp_in_nI (by omega) (by omega)) | ((try dsimp only [bl_pv]); show vp_in _ (N _); rw [nm9]; simp (disch := omega) only [zI_n, zI_o, zI_lit, zI_neg, zI_add, zI_sub, zI_mul, zI_lt, zI_le, zI_eq, zI_clamp, zI_in, zI_div, zI_rem, lg_lt0, lg_gt0, lg_eq0, lg_le0, lg_ge0, Int.toNat_natCast, ge_iff_le, gt_iff_lt, List.length_cons, List.length_nil, bl_up2_at, bl_up2_nk, bl_up2_nx] <;> omega)), ?_⟩
                             refine bl_lv [1] rfl ?_
                             try dsimp only [bl_pv]
                             first
                             | exact hfin _ _ _ (c0 (by omega)) rfl hM1
                             | exact hfin 1 9999 _ (by rw [show k = 3 by omega]; rfl) (by rw [show k = 3 by omega]; rfl) hM1
                             | exact hfin 0 99 _ (by rw [show k = 7 by omega]; rfl) (by rw [show k = 7 by omega]; rfl) hM1))
                   · try simp (disch := omega) only [zI_n, zI_o, zI_lit, zI_neg, zI_add, zI_sub, zI_mul, zI_lt, zI_le, zI_eq, zI_clamp, zI_in, zI_div, zI_rem, lg_lt0, lg_gt0, lg_eq0, lg_le0, lg_ge0, Int.toNat_natCast, ge_iff_le, gt_iff_lt, List.length_cons, List.length_nil, bl_up2_at, bl_up2_nk, bl_up2_nx] at h211
                     first
                     | (exfalso; first | omega | exact h211 trivial)
                     | (refine ⟨rfl, rfl, km, (Nat.le_of_ble_eq_true rfl), (0, 0), Nat.le_of_ble_eq_true rfl, Nat.le_of_ble_eq_true rfl, bl_MC_mono (c_Model_numA (d := d + 2) (lo := 0) (hi := 99) hm hn hM (hB0 _) rfl rfl (by omega) (by omega)) (fun o218 σ218 q218 => ?_)⟩
                        try dsimp only [bl_pv] at q218
                        obtain ⟨M1, rfl, rfl, hM1⟩ := q218
                        refine bl_go oX11_clause 80 [48, 243, 132, 138, 62] rfl ?_
                        refine ⟨km9, (by first | exact (by rw [nm9]; exact vp_in_nI (by omega) (by omega)) | ((try dsimp only [bl_pv]); show vp_in _ (N _); rw [nm9]; simp (disch := omega) only [zI_n, zI_o, zI_lit, zI_neg, zI_add, zI_sub, zI_mul, zI_lt, zI_le, zI_eq, zI_clamp, zI_in, zI_div, zI_rem, lg_lt0, lg_gt0, lg_eq0, lg_le0, lg_ge0, Int.toNat_natCast, ge_iff_le, gt_iff_lt, List.length_cons, List.length_nil, bl_up2_at, bl_up2_nk, bl_up2_nx] <;> omega)), ?_⟩
                        refine bl_lv [1] rfl ?_
                        try dsimp only [bl_pv]
                        first
                        | exact hfin _ _ _ (c0 (by omega)) rfl hM1
                        | exact hfin 1 9999 _ (by rw [show k = 3 by omega]; rfl) (by rw [show k = 3 by omega]; rfl) hM1
                        | exact hfin 0 99 _ (by rw [show k = 7 by omega]; rfl) (by rw [show k = 7 by omega]; rfl) hM1))
              · try simp (disch := omega) only [zI_n, zI_o, zI_lit, zI_neg, zI_add, zI_sub, zI_mul, zI_lt, zI_le, zI_eq, zI_clamp, zI_in, zI_div, zI_rem, lg_lt0, lg_gt0, lg_eq0, lg_le0, lg_ge0, Int.toNat_natCast, ge_iff_le, gt_iff_lt, List.length_cons, List.length_nil, bl_up2_at, bl_up2_nk, bl_up2_nx] at h194
                first
                | (exfalso; first | omega | exact h194 trivial)
                | (refine ⟨rfl, rfl, km, (Nat.le_of_ble_eq_true rfl), (0, 0), Nat.le_of_ble_eq_true rfl, Nat.le_of_ble_eq_true rfl, bl_MC_mono (c_Model_numA (d := d + 2) (lo := 1) (hi := 9999) hm hn hM (hB0 _) rfl rfl (by omega) (by omega)) (fun o202 σ202 q202 => ?_)⟩
                   try dsimp only [bl_pv] at q202
                   obtain ⟨M1, rfl, rfl, hM1⟩ := q202
                   refine bl_go oX11_clause 80 [48, 243, 132, 138, 62] rfl ?_
                   refine ⟨km9, (by first | exact (by rw [nm9]; exact vp_in_nI (by omega) (by omega)) | ((try dsimp only [bl_pv]); show vp_in _ (N _); rw [nm9]; simp (disch := omega) only [zI_n, zI_o, zI_lit, zI_neg, zI_add, zI_sub, zI_mul, zI_lt, zI_le, zI_eq, zI_clamp, zI_in, zI_div, zI_rem, lg_lt0, lg_gt0, lg_eq0, lg_le0, lg_ge0, Int.toNat_natCast, ge_iff_le, gt_iff_lt, List.length_cons, List.length_nil, bl_up2_at, bl_up2_nk, bl_up2_nx] <;> omega)), ?_⟩
                   refine bl_lv [1] rfl ?_
                   try dsimp only [bl_pv]
                   first
                   | exact hfin _ _ _ (c0 (by omega)) rfl hM1
                   | exact hfin 1 9999 _ (by rw [show k = 3 by omega]; rfl) (by rw [show k = 3 by omega]; rfl) hM1
                   | exact hfin 0 99 _ (by rw [show k = 7 by omega]; rfl) (by rw [show k = 7 by omega]; rfl) hM1))
         · try simp (disch := omega) only [zI_n, zI_o, zI_lit, zI_neg, zI_add, zI_sub, zI_mul, zI_lt, zI_le, zI_eq, zI_clamp, zI_in, zI_div, zI_rem, lg_lt0, lg_gt0, lg_eq0, lg_le0, lg_ge0, Int.toNat_natCast, ge_iff_le, gt_iff_lt, List.length_cons, List.length_nil, bl_up2_at, bl_up2_nk, bl_up2_nx] at h151
           exfalso; omega)
    · try simp (disch := omega) only [zI_n, zI_o, zI_lit, zI_neg, zI_add, zI_sub, zI_mul, zI_lt, zI_le, zI_eq, zI_clamp, zI_in, zI_div, zI_rem, lg_lt0, lg_gt0, lg_eq0, lg_le0, lg_ge0, Int.toNat_natCast, ge_iff_le, gt_iff_lt, List.length_cons, List.length_nil, bl_up2_at, bl_up2_nk, bl_up2_nx] at h63
      exfalso; omega
  have L48 : ckd (I (m + 8)) p e ≠ zI (-1) → ¬ 30 ≤ c → ∀ w, w = ckd (I (m + 8)) p e → bl_WP G l (d + 5) mX11_clause 48 [(1, .int w), (0, .ref m)] [] (mpI I m (nI n) (nI p) 0 fa, J, R, K, N) (0, 0) (fun o σ' => o = .inl none ∧ ∃ I' M', σ' = (M', J, R, K, N) ∧ clF I I' m ∧ pM I' m n (pbd (if ckd (I (m + 8)) p e = zI (-1) then .inr (1, p) else if 30 ≤ c then .inr (3, p) else pbd (pcl (I (m + 8)) n (ckd (I (m + 8)) p e).toNatClampNeg S e) fun a => pbd (pend (I (m + 8)) n a.2) fun j => .inl (a.1, j)) (fun a => .inl a.2)) fa M' ∧ (∀ a, (if ckd (I (m + 8)) p e = zI (-1) then .inr (1, p) else if 30 ≤ c then .inr (3, p) else pbd (pcl (I (m + 8)) n (ckd (I (m + 8)) p e).toNatClampNeg S e) fun a => pbd (pend (I (m + 8)) n a.2) fun j => .inl (a.1, j)) = .inl a → kR I' m a.1 ∧ I' m 7 = nI (c + 1))) := by
    intro n1 n2 w hw
    have hSW := c_Model_skipWord (d := d + 3) (G := G) (l := l) (J := J) (I := I) (ft := 0) (fa := fa) hm hn hp
    rw [hwe] at hSW
    refine bl_go oX11_clause 80 [48, 243, 132, 138, 62] rfl ?_
    refine ⟨rfl, rfl, km, (Nat.le_of_ble_eq_true rfl), (0, 0), Nat.le_of_ble_eq_true rfl, Nat.le_of_ble_eq_true rfl, bl_MC_mono (hSW) (fun o49 σ49 q49 => ?_)⟩
    try dsimp only [bl_pv] at q49
    obtain ⟨rfl, rfl⟩ := q49
    refine bl_go oX11_clause 80 [48, 243, 132, 138, 62] rfl ?_
    refine ⟨rfl, km, km, Or.inr (Or.inr ⟨rfl, rfl, _, rfl⟩), (fun h => by cases h), ?_⟩
    try dsimp only [bl_pv]
    rw [mpx (by omega) (by omega) (by omega) (by omega), hc, nI_1, mpI_up (Or.inr ⟨by omega, by omega, by omega, by omega⟩)]
    rcases ckd_rng (I (m + 8)) p e with hk | ⟨k, k1, k2, k3, hk⟩
    · exact absurd hk n1
    · rw [hw.trans hk]
      by_cases k0 : k = 0
      · subst k0; exact L62a hk n2 _ ⟨hw1, rfl⟩
      · by_cases k9 : k = 9
        · subst k9; exact L62b hk n2 _ ⟨hw1, rfl⟩
        · exact L62c k k1 k0 k2 k3 k9 hk n2 _ ⟨hw1, rfl⟩
  by_cases n1 : ckd (I (m + 8)) p e = zI (-1)
  · skip
    refine bl_go oX11_clause 80 [48, 243, 132, 138, 62] rfl ?_
    refine ⟨rfl, rfl, km, (Nat.le_of_ble_eq_true rfl), (0, 0), Nat.le_of_ble_eq_true rfl, Nat.le_of_ble_eq_true rfl, bl_MC_mono (hKH) (fun o1 σ1 q1 => ?_)⟩
    try dsimp only [bl_pv] at q1
    obtain ⟨rfl, rfl⟩ := q1
    refine bl_go oX11_clause 80 [48, 243, 132, 138, 62] rfl ?_
    refine ⟨fun h7 => ?_, fun h7 => ?_⟩
    · try simp (disch := omega) only [bl_pv, cl0, cl1, cl2, cl3, cl4, cl5, cl6, cl7, cl8, cl9, bl_up2_at, bl_up2_nk, bl_up2_nx] at h7
      exact absurd n1 h7
    · try simp (disch := omega) only [bl_pv, cl0, cl1, cl2, cl3, cl4, cl5, cl6, cl7, cl8, cl9, bl_up2_at, bl_up2_nk, bl_up2_nx] at h7
      first
      | (exfalso; first | omega | exact h7 trivial)
      | (refine ⟨km, rfl, rfl, km, (Nat.le_of_ble_eq_true rfl), (0, 0), Nat.le_of_ble_eq_true rfl, Nat.le_of_ble_eq_true rfl, bl_MC_mono (c_Model_wrM (d := d + 4) (s := .inl p) (n := n) (I := I) (fa := fa) (k := 1) (q := p) hm ⟨hp, rfl⟩ (Or.inl rfl) rfl mp4) (fun o16 σ16 q16 => ?_)⟩
         try dsimp only [bl_pv] at q16
         obtain ⟨M', rfl, rfl, hM'⟩ := q16
         refine bl_go oX11_clause 80 [48, 243, 132, 138, 62] rfl ?_
         refine ⟨km, fun h44 => ?_, fun h44 => ?_⟩
         · try simp (disch := omega) only [bl_pv, cl0, cl1, cl2, cl3, cl4, cl5, cl6, cl7, cl8, cl9, bl_up2_at, bl_up2_nk, bl_up2_nx] at h44
           first
           | (exfalso; first | omega | exact h44 trivial)
           | (try dsimp only [bl_pv]
              obtain ⟨-, e', -, rfl⟩ := hM'
              exact absurd (mp5.symm.trans h44) (nI_k (by simp)))
         · try simp (disch := omega) only [bl_pv, cl0, cl1, cl2, cl3, cl4, cl5, cl6, cl7, cl8, cl9, bl_up2_at, bl_up2_nk, bl_up2_nx] at h44
           first
           | (exfalso; first | omega | exact h44 trivial)
           | (try show _ ∧ _
              try dsimp only [bl_pv]
              refine ⟨rfl, I, M', rfl, ⟨fun _ _ _ _ => rfl, fun _ _ => rfl⟩, by rw [if_pos n1]; exact hM', fun a ha => ?_⟩
              rw [if_pos n1] at ha; cases ha))
  · by_cases n2 : 30 ≤ c
    · have ec : c = 30 := by omega
      subst ec
      refine bl_go oX11_clause 80 [48, 243, 132, 138, 62] rfl ?_
      refine ⟨rfl, rfl, km, (Nat.le_of_ble_eq_true rfl), (0, 0), Nat.le_of_ble_eq_true rfl, Nat.le_of_ble_eq_true rfl, bl_MC_mono (hKH) (fun o1 σ1 q1 => ?_)⟩
      try dsimp only [bl_pv] at q1
      obtain ⟨rfl, rfl⟩ := q1
      refine bl_go oX11_clause 80 [48, 243, 132, 138, 62] rfl ?_
      refine ⟨fun h7 => ?_, fun h7 => ?_⟩
      · try simp (disch := omega) only [bl_pv, cl0, cl1, cl2, cl3, cl4, cl5, cl6, cl7, cl8, cl9, bl_up2_at, bl_up2_nk, bl_up2_nx] at h7
        first
        | (exfalso; first | omega | exact h7 trivial)
        | (refine ⟨km, fun h28 => ?_, fun h28 => ?_⟩
           · try simp (disch := omega) only [bl_pv, cl0, cl1, cl2, cl3, cl4, cl5, cl6, cl7, cl8, cl9, bl_up2_at, bl_up2_nk, bl_up2_nx] at h28
             exact absurd ((mpx (by omega) (by omega) (by omega) (by omega)).trans hc) h28
           · try simp (disch := omega) only [bl_pv, cl0, cl1, cl2, cl3, cl4, cl5, cl6, cl7, cl8, cl9, bl_up2_at, bl_up2_nk, bl_up2_nx] at h28
             first
             | (exfalso; first | omega | exact h28 trivial)
             | (refine ⟨km, rfl, rfl, km, (Nat.le_of_ble_eq_true rfl), (0, 0), Nat.le_of_ble_eq_true rfl, Nat.le_of_ble_eq_true rfl, bl_MC_mono (c_Model_wrM (d := d + 4) (s := .inl p) (n := n) (I := I) (fa := fa) (k := 3) (q := p) hm ⟨hp, rfl⟩ (Or.inr (Or.inr rfl)) rfl mp4) (fun o37 σ37 q37 => ?_)⟩
                try dsimp only [bl_pv] at q37
                obtain ⟨M', rfl, rfl, hM'⟩ := q37
                refine bl_go oX11_clause 80 [48, 243, 132, 138, 62] rfl ?_
                refine ⟨km, fun h44 => ?_, fun h44 => ?_⟩
                · try simp (disch := omega) only [bl_pv, cl0, cl1, cl2, cl3, cl4, cl5, cl6, cl7, cl8, cl9, bl_up2_at, bl_up2_nk, bl_up2_nx] at h44
                  first
                  | (exfalso; first | omega | exact h44 trivial)
                  | (try dsimp only [bl_pv]
                     obtain ⟨-, e', -, rfl⟩ := hM'
                     exact absurd (mp5.symm.trans h44) (nI_k (by simp)))
                · try simp (disch := omega) only [bl_pv, cl0, cl1, cl2, cl3, cl4, cl5, cl6, cl7, cl8, cl9, bl_up2_at, bl_up2_nk, bl_up2_nx] at h44
                  first
                  | (exfalso; first | omega | exact h44 trivial)
                  | (try show _ ∧ _
                     try dsimp only [bl_pv]
                     refine ⟨rfl, I, M', rfl, ⟨fun _ _ _ _ => rfl, fun _ _ => rfl⟩, by rw [if_neg n1, if_pos n2]; exact hM', fun a ha => ?_⟩
                     rw [if_neg n1, if_pos n2] at ha; cases ha)))
      · try simp (disch := omega) only [bl_pv, cl0, cl1, cl2, cl3, cl4, cl5, cl6, cl7, cl8, cl9, bl_up2_at, bl_up2_nk, bl_up2_nx] at h7
        exact absurd h7 n1
    · have hne : (mpI I m (nI n) (nI p) 0 fa) m 7 ≠ 30 := by
        rw [mpx (by omega) (by omega) (by omega) (by omega), hc]
        intro h
        have h' := congrArg Int32.toNatClampNeg h
        rw [nI_clamp (by omega)] at h'
        have : Int32.toNatClampNeg 30 = 30 := rfl
        omega
      refine bl_go oX11_clause 80 [48, 243, 132, 138, 62] rfl ?_
      refine ⟨rfl, rfl, km, (Nat.le_of_ble_eq_true rfl), (0, 0), Nat.le_of_ble_eq_true rfl, Nat.le_of_ble_eq_true rfl, bl_MC_mono (hKH) (fun o1 σ1 q1 => ?_)⟩
      try dsimp only [bl_pv] at q1
      obtain ⟨rfl, rfl⟩ := q1
      refine bl_go oX11_clause 80 [48, 243, 132, 138, 62] rfl ?_
      refine ⟨fun h7 => ?_, fun h7 => ?_⟩
      · try simp (disch := omega) only [bl_pv, cl0, cl1, cl2, cl3, cl4, cl5, cl6, cl7, cl8, cl9, bl_up2_at, bl_up2_nk, bl_up2_nx] at h7
        first
        | (exfalso; first | omega | exact h7 trivial)
        | (refine ⟨km, fun h28 => ?_, fun h28 => ?_⟩
           · try simp (disch := omega) only [bl_pv, cl0, cl1, cl2, cl3, cl4, cl5, cl6, cl7, cl8, cl9, bl_up2_at, bl_up2_nk, bl_up2_nx] at h28
             first
             | (exfalso; first | omega | exact h28 trivial)
             | (refine ⟨km, fun h44 => ?_, fun h44 => ?_⟩
                · try simp (disch := omega) only [bl_pv, cl0, cl1, cl2, cl3, cl4, cl5, cl6, cl7, cl8, cl9, bl_up2_at, bl_up2_nk, bl_up2_nx] at h44
                  first
                  | (exfalso; first | omega | exact h44 trivial)
                  | (try dsimp only [bl_pv]
                     exact L48 n1 n2 _ rfl)
                · try simp (disch := omega) only [bl_pv, cl0, cl1, cl2, cl3, cl4, cl5, cl6, cl7, cl8, cl9, bl_up2_at, bl_up2_nk, bl_up2_nx] at h44
                  exact absurd mp5 h44)
           · try simp (disch := omega) only [bl_pv, cl0, cl1, cl2, cl3, cl4, cl5, cl6, cl7, cl8, cl9, bl_up2_at, bl_up2_nk, bl_up2_nx] at h28
             exact absurd h28 hne)
      · try simp (disch := omega) only [bl_pv, cl0, cl1, cl2, cl3, cl4, cl5, cl6, cl7, cl8, cl9, bl_up2_at, bl_up2_nk, bl_up2_nx] at h7
        exact absurd h7 n1
end MODEL6
