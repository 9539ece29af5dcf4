/-! ===== Model: a step of a recipe ===== -/
/-- one step -/
def psc (B : Nat → Int32) (n : Nat) (S : sq) (i : Nat) : pr (sq × Nat) :=
  if skd B (skB B n i) (skW B n (skB B n i)) = zI (-1) then .inr (1, skB B n i)
  else if 20 ≤ S.1 then .inr (3, skB B n i)
  else pbd (psn B n (skd B (skB B n i) (skW B n (skB B n i))).toNatClampNeg (skW B n (skB B n i))) fun a => pbd (pend B n a.2) fun j => .inl (bl_sn S (skd B (skB B n i) (skW B n (skB B n i))).toNatClampNeg a.1, j)
theorem prec_c {B : Nat → Int32} {n f : Nat} {S : sq} {i : Nat} : prec B n (f + 1) S i = if n ≤ skB B n i then (if 0 < S.1 then .inl S else .inr (1, n)) else pbd (psc B n S i) fun a => prec B n f a.1 a.2 := by
  unfold psc
  show (if n ≤ skB B n i then _ else _) = _
  by_cases e : n ≤ skB B n i
  · rw [if_pos e, if_pos e]
  · rw [if_neg e, if_neg e]
    by_cases e1 : skd B (skB B n i) (skW B n (skB B n i)) = zI (-1)
    · rw [if_pos e1, if_pos e1]; rfl
    · rw [if_neg e1, if_neg e1]
      by_cases e2 : 20 ≤ S.1
      · rw [if_pos e2, if_pos e2]; rfl
      · rw [if_neg e2, if_neg e2]
        cases h1 : psn B n (skd B (skB B n i) (skW B n (skB B n i))).toNatClampNeg (skW B n (skB B n i)) with
        | inr f => rfl
        | inl a =>
          show pbd (pend B n a.2) _ = pbd (pbd (pend B n a.2) _) _
          cases pend B n a.2 <;> rfl
section MODEL7
variable {G : bl_G} {l : Launch} {d m : Nat} {I : Nat → Nat → Int32} {J : Nat → Nat → Int64} {R : Nat → Nat → Option Nat} {K N : Nat → Nat} {fa : Int32} {n : Nat}
def rsF (I I' : Nat → Nat → Int32) (m : Nat) : Prop := (∀ x, x ≠ m → x ≠ m + 17 → I' x = I x) ∧ ∀ j, j ≠ 20 → I' m j = I m j
def sqR (I : Nat → Nat → Int32) (m : Nat) (S : sq) : Prop := I m 20 = nI S.1 ∧ ∀ j, j < S.1 → I (m + 17) (2 * j) = nI (S.2.1 j) ∧ I (m + 17) (2 * j + 1) = nI (S.2.2 j)
theorem cl2_ {a : Nat} (h : a ≤ 1000000) : (2 * nI a).toNatClampNeg = 2 * a := by
  rw [show (2 : Int32) * nI a = nI (2 * a) from (Int32.ofNat_mul 2 a).symm]; exact nI_clamp (by omega)
theorem cl2_1 {a : Nat} (h : a ≤ 1000000) : (2 * nI a + 1).toNatClampNeg = 2 * a + 1 := by
  rw [show (2 : Int32) * nI a = nI (2 * a) from (Int32.ofNat_mul 2 a).symm, nI_1]; exact nI_clamp (by omega)
theorem c_Model_readsStep {S : sq} {i : Nat} (hm : mdS R K N m) (hn : n ≤ 400) (hi : i ≤ n) (hS : sqR I m S) (hc20 : S.1 ≤ 20) : bl_MC G l (d + 5) mX11_readsStep [.ref m] (mpI I m (nI n) (nI i) 0 fa, J, R, K, N) (0, 0) (fun o σ' => o = .inl none ∧ ∃ I' M', σ' = (M', J, R, K, N) ∧ rsF I I' m ∧ pM I' m n (pbd (psc (I (m + 8)) n S i) (fun a => .inl a.2)) fa M' ∧ (∀ a, psc (I (m + 8)) n S i = .inl a → sqR I' m a.1)) := by
  have km := hm.2.1
  obtain ⟨rm_17, km17, nm17⟩ := hm.f17
  have hp : skB (I (m + 8)) n i ≤ n := skB_le hi
  have hw1 : skW (I (m + 8)) n (skB (I (m + 8)) n i) ≤ n := skW_le hp
  have hKH := c_Model_stepHere (d := d) (G := G) (l := l) (J := J) (I := I) (fa := fa) hm hn hi
  unfold psc
  generalize hpe : skB (I (m + 8)) n i = p at *
  generalize hwe : skW (I (m + 8)) n p = e at *
  refine bl_MC_intro (by decide +kernel) rfl (Nat.le_of_ble_eq_true rfl) ?_
  have L103 : ∀ k, k ≤ 7 → skd (I (m + 8)) p e = nI k → ¬ 20 ≤ S.1 → ∀ r M v, r = psn (I (m + 8)) n k e → v = nI (nvl r) → pM I m n (nst r) fa M → bl_WP G l (d + 5) mX11_readsStep 103 [(2, .int v), (1, .int (nI k)), (0, .ref m)] [] (M, J, R, K, N) (0, 0) (fun o σ' => o = .inl none ∧ ∃ I' M', σ' = (M', J, R, K, N) ∧ rsF I I' m ∧ pM I' m n (pbd (if skd (I (m + 8)) p e = zI (-1) then .inr (1, p) else if 20 ≤ S.1 then .inr (3, p) else pbd (psn (I (m + 8)) n (skd (I (m + 8)) p e).toNatClampNeg e) fun a => pbd (pend (I (m + 8)) n a.2) fun j => .inl (bl_sn S (skd (I (m + 8)) p e).toNatClampNeg a.1, j)) (fun a => .inl a.2)) fa M' ∧ (∀ a, (if skd (I (m + 8)) p e = zI (-1) then .inr (1, p) else if 20 ≤ S.1 then .inr (3, p) else pbd (psn (I (m + 8)) n (skd (I (m + 8)) p e).toNatClampNeg e) fun a => pbd (pend (I (m + 8)) n a.2) fun j => .inl (bl_sn S (skd (I (m + 8)) p e).toNatClampNeg a.1, j)) = .inl a → sqR I' m a.1)) := by
    intro k hk hsk n2 r M v hr hv hM
    have n1 : skd (I (m + 8)) p e ≠ zI (-1) := by
      rw [hsk]; intro h; have h' := congrArg Int32.toInt h
      rw [nI_toInt (by omega)] at h'; exact absurd h' (by have : (zI (-1)).toInt = -1 := by decide
                                                          omega)
    have ec : (nI k).toNatClampNeg = k := nI_clamp (by omega)
    have h20 : M m 20 = nI S.1 := (pM_m hM (by omega) (by omega) (by omega) (by omega)).trans hS.1
    have h20' : ∀ a b, bl_up2 M (m + 17) a b m 20 = nI S.1 := fun a b => by rw [bl_up2_ne (by omega)]; exact h20
    have h20'' : ∀ a b a' b', bl_up2 (bl_up2 M (m + 17) a b) (m + 17) a' b' m 20 = nI S.1 := fun a b a' b' => by rw [bl_up2_ne (by omega)]; exact h20' _ _
    refine bl_go oX11_readsStep 80 [48, 103] rfl ?_
    refine ⟨km, _, bl_vs rm_17, km, km17, (by first | exact (by rw [nm17]; exact vp_in_nI (by omega) (by omega)) | ((try dsimp only [bl_pv]); show vp_in _ (N _); rw [nm17]; simp (disch := omega) only [h20, h20', zI_n, zI_o, zI_lit, zI_neg, zI_add, zI_sub, zI_mul, zI_lt, zI_le, zI_eq, zI_clamp, zI_in, zI_div, zI_rem, lg_lt0, lg_gt0, lg_eq0, lg_le0, lg_ge0, Int.toNat_natCast, ge_iff_le, gt_iff_lt, List.length_cons, List.length_nil, bl_up2_at, bl_up2_nk, bl_up2_nx] <;> omega)), km, _, bl_vs rm_17, km, km17, (by first | exact (by rw [nm17]; exact vp_in_nI (by omega) (by omega)) | ((try dsimp only [bl_pv]); show vp_in _ (N _); rw [nm17]; simp (disch := omega) only [h20, h20', zI_n, zI_o, zI_lit, zI_neg, zI_add, zI_sub, zI_mul, zI_lt, zI_le, zI_eq, zI_clamp, zI_in, zI_div, zI_rem, lg_lt0, lg_gt0, lg_eq0, lg_le0, lg_ge0, Int.toNat_natCast, ge_iff_le, gt_iff_lt, List.length_cons, List.length_nil, bl_up2_at, bl_up2_nk, bl_up2_nx] <;> omega)), rfl, km, km, Or.inr (Or.inr ⟨rfl, rfl, _, rfl⟩), (fun h => by cases h), rfl, rfl, km, (Nat.le_of_ble_eq_true rfl), (0, 0), Nat.le_of_ble_eq_true rfl, Nat.le_of_ble_eq_true rfl, bl_MC_mono (c_Model_sgM (d := d + 2) hm hn (pM_up (y := m) (k := 20) (pM_up (y := m + 17) (pM_up (y := m + 17) hM (Or.inl (by omega))) (Or.inl (by omega))) (Or.inr ⟨by omega, by omega, by omega, by omega⟩)) rfl) (fun o142 σ142 q142 => ?_)⟩
    try dsimp only [bl_pv] at q142
    obtain ⟨M', rfl, rfl, hM'⟩ := q142
    rw [h20, h20', h20'', cl2_ (by omega), cl2_1 (by omega), nI_1] at hM'
    refine bl_go oX11_readsStep 80 [48, 103] rfl ?_
    try show _ ∧ _
    try dsimp only [bl_pv]
    refine ⟨rfl, bl_up2 (bl_up2 (bl_up2 I (m + 17) (2 * S.1) (nI k)) (m + 17) (2 * S.1 + 1) v) m 20 (nI (S.1 + 1)), M', rfl, ⟨fun x x1 x2 => ?_, fun j hj => ?_⟩, ?_, fun a ha => ?_⟩
    · rw [bl_up2_ne x1, bl_up2_ne x2, bl_up2_ne x2]
    · rw [bl_up2_nk hj, bl_up2_ne (by omega), bl_up2_ne (by omega)]
    · rw [if_neg n1, if_neg n2, hsk, ec, ← hr]
      rw [bl_up2_ne (show m + 8 ≠ m by omega), bl_up2_ne (show m + 8 ≠ m + 17 by omega), bl_up2_ne (show m + 8 ≠ m + 17 by omega)] at hM'
      clear hr hv
      cases r with
      | inr f => exact hM'
      | inl b =>
        refine pM_s hM' ?_
        show pend (I (m + 8)) n b.2 = pbd (pbd (pend (I (m + 8)) n b.2) _) _
        cases pend (I (m + 8)) n b.2 <;> rfl
    · rw [if_neg n1, if_neg n2, hsk, ec, ← hr] at ha
      clear hr
      cases r with
      | inr f => cases ha
      | inl b =>
        have ha2 : (pbd (pend (I (m + 8)) n b.2) fun j => .inl (bl_sn S k b.1, j)) = .inl a := ha
        cases h2 : pend (I (m + 8)) n b.2 with
        | inr f => rw [h2] at ha2; cases ha2
        | inl j =>
          rw [h2] at ha2; cases ha2
          refine ⟨bl_up2_at, fun j hj => ?_⟩
          have hj' : j < S.1 + 1 := hj
          show _ = nI (if j = S.1 then k else S.2.1 j) ∧ _ = nI (if j = S.1 then b.1 else S.2.2 j)
          rw [bl_up2_ne (show m + 17 ≠ m by omega)]
          by_cases ej : j = S.1
          · subst ej
            rw [if_pos rfl, if_pos rfl, bl_up2_nk (by omega), bl_up2_at, bl_up2_at, hv]
            exact ⟨rfl, rfl⟩
          · rw [if_neg ej, if_neg ej, bl_up2_nk (by omega), bl_up2_nk (by omega), bl_up2_nk (by omega), bl_up2_nk (by omega)]
            exact hS.2 j (by omega)
  have L48 : skd (I (m + 8)) p e ≠ zI (-1) → ¬ 20 ≤ S.1 → ∀ w, w = skd (I (m + 8)) p e → bl_WP G l (d + 5) mX11_readsStep 48 [(1, .int w), (0, .ref m)] [] (mpI I m (nI n) (nI p) 0 fa, J, R, K, N) (0, 0) (fun o σ' => o = .inl none ∧ ∃ I' M', σ' = (M', J, R, K, N) ∧ rsF I I' m ∧ pM I' m n (pbd (if skd (I (m + 8)) p e = zI (-1) then .inr (1, p) else if 20 ≤ S.1 then .inr (3, p) else pbd (psn (I (m + 8)) n (skd (I (m + 8)) p e).toNatClampNeg e) fun a => pbd (pend (I (m + 8)) n a.2) fun j => .inl (bl_sn S (skd (I (m + 8)) p e).toNatClampNeg a.1, j)) (fun a => .inl a.2)) fa M' ∧ (∀ a, (if skd (I (m + 8)) p e = zI (-1) then .inr (1, p) else if 20 ≤ S.1 then .inr (3, p) else pbd (psn (I (m + 8)) n (skd (I (m + 8)) p e).toNatClampNeg e) fun a => pbd (pend (I (m + 8)) n a.2) fun j => .inl (bl_sn S (skd (I (m + 8)) p e).toNatClampNeg a.1, j)) = .inl a → sqR I' m a.1)) := by
    intro n1 n2 w hw
    have hSW := c_Model_skipWord (d := d + 3) (G := G) (l := l) (J := J) (I := I) (ft := 0) (fa := fa) hm hn hp
    rw [hwe] at hSW
    have hM : pM I m n (.inl e) fa (mpI I m (nI n) (nI e) 0 fa) := ⟨hw1, rfl⟩
    rcases skd_rng (I (m + 8)) p e with hk | ⟨k, k1, hk⟩
    · exact absurd hk n1
    · rw [hw.trans hk]
      have hps : sHi k ≠ 0 → psn (I (m + 8)) n k e = pnum (I (m + 8)) n (sLo k) (sHi k) e := fun h => if_neg h
      have hp0 : sHi k = 0 → psn (I (m + 8)) n k e = .inl (0, e) := fun h => if_pos h
      have eL : ∀ c : Nat, c < 8 → (c < 2 → sLo c = 2 ∧ sHi c = 4) ∧ (c = 3 ∨ c = 4 → sLo c = 1 ∧ sHi c = 9) ∧ (5 < c → sLo c = 1 ∧ sHi c = 36) ∧ (c = 2 ∨ c = 5 → sHi c = 0) := by decide +kernel
      obtain ⟨e1, e2, e3, e4⟩ := eL k (by omega)
      have hA : ∀ lo hi, sLo k = lo ∧ sHi k = hi → hi ≠ 0 → pnum (I (m + 8)) n lo hi e = psn (I (m + 8)) n k e := fun lo hi h h0 => by
        rw [hps (by rw [h.2]; exact h0), h.1, h.2]
      refine bl_go oX11_readsStep 80 [48, 103] rfl ?_
      refine ⟨rfl, rfl, km, (Nat.le_of_ble_eq_true rfl), (0, 0), Nat.le_of_ble_eq_true rfl, Nat.le_of_ble_eq_true rfl, bl_MC_mono (hSW) (fun o49 σ49 q49 => ?_)⟩
      try dsimp only [bl_pv] at q49
      obtain ⟨rfl, rfl⟩ := q49
      refine bl_go oX11_readsStep 80 [48, 103] rfl ?_
      refine ⟨fun h54 => ?_, fun h54 => ?_⟩
      · try simp (disch := omega) only [zI_n, zI_o, zI_lit, zI_neg, zI_add, zI_sub, zI_mul, zI_lt, zI_le, zI_eq, zI_clamp, zI_in, zI_div, zI_rem, lg_lt0, lg_gt0, lg_eq0, lg_le0, lg_ge0, Int.toNat_natCast, ge_iff_le, gt_iff_lt, List.length_cons, List.length_nil, bl_up2_at, bl_up2_nk, bl_up2_nx] at h54
        first
        | (exfalso; first | omega | exact h54 trivial)
        | (refine ⟨fun h68 => ?_, fun h68 => ?_⟩
           · try simp (disch := omega) only [zI_n, zI_o, zI_lit, zI_neg, zI_add, zI_sub, zI_mul, zI_lt, zI_le, zI_eq, zI_clamp, zI_in, zI_div, zI_rem, lg_lt0, lg_gt0, lg_eq0, lg_le0, lg_ge0, Int.toNat_natCast, ge_iff_le, gt_iff_lt, List.length_cons, List.length_nil, bl_up2_at, bl_up2_nk, bl_up2_nx] at h68
             first
             | (exfalso; first | omega | exact h68 trivial)
             | (refine ⟨rfl, rfl, km, (Nat.le_of_ble_eq_true rfl), (0, 0), Nat.le_of_ble_eq_true rfl, Nat.le_of_ble_eq_true rfl, bl_MC_mono (c_Model_numA (d := d + 2) (lo := 1) (hi := 9) hm hn hM rfl rfl rfl (by omega) (by omega)) (fun o80 σ80 q80 => ?_)⟩
                try dsimp only [bl_pv] at q80
                obtain ⟨M1, rfl, rfl, hM1⟩ := q80
                refine bl_go oX11_readsStep 80 [48, 103] rfl ?_
                try dsimp only [bl_pv]
                first
                | exact L103 k k1 hk n2 _ _ _ (hA 2 4 (e1 (by omega)) (by omega)) rfl hM1
                | exact L103 k k1 hk n2 _ _ _ (hA 1 9 (e2 (by omega)) (by omega)) rfl hM1
                | exact L103 k k1 hk n2 _ _ _ (hA 1 36 (e3 (by omega)) (by omega)) rfl hM1
                | exact L103 k k1 hk n2 (.inl (0, e)) _ _ (hp0 (e4 (by omega))).symm rfl hM)
           · try simp (disch := omega) only [zI_n, zI_o, zI_lit, zI_neg, zI_add, zI_sub, zI_mul, zI_lt, zI_le, zI_eq, zI_clamp, zI_in, zI_div, zI_rem, lg_lt0, lg_gt0, lg_eq0, lg_le0, lg_ge0, Int.toNat_natCast, ge_iff_le, gt_iff_lt, List.length_cons, List.length_nil, bl_up2_at, bl_up2_nk, bl_up2_nx] at h68
             first
             | (exfalso; first | omega | exact h68 trivial)
             | (refine ⟨fun h73 => ?_, fun h73 => ?_⟩
                · try simp (disch := omega) only [zI_n, zI_o, zI_lit, zI_neg, zI_add, zI_sub, zI_mul, zI_lt, zI_le, zI_eq, zI_clamp, zI_in, zI_div, zI_rem, lg_lt0, lg_gt0, lg_eq0, lg_le0, lg_ge0, Int.toNat_natCast, ge_iff_le, gt_iff_lt, List.length_cons, List.length_nil, bl_up2_at, bl_up2_nk, bl_up2_nx] at h73
                  first
                  | (exfalso; first | omega | exact h73 trivial)
                  | (refine ⟨fun h88 => ?_, fun h88 => ?_⟩
                     · try simp (disch := omega) only [zI_n, zI_o, zI_lit, zI_neg, zI_add, zI_sub, zI_mul, zI_lt, zI_le, zI_eq, zI_clamp, zI_in, zI_div, zI_rem, lg_lt0, lg_gt0, lg_eq0, lg_le0, lg_ge0, Int.toNat_natCast, ge_iff_le, gt_iff_lt, List.length_cons, List.length_nil, bl_up2_at, bl_up2_nk, bl_up2_nx] at h88
                       first
                       | (exfalso; first | omega | exact h88 trivial)
                       | (try dsimp only [bl_pv]
                          first
                          | exact L103 k k1 hk n2 _ _ _ (hA 2 4 (e1 (by omega)) (by omega)) rfl hM1
                          | exact L103 k k1 hk n2 _ _ _ (hA 1 9 (e2 (by omega)) (by omega)) rfl hM1
                          | exact L103 k k1 hk n2 _ _ _ (hA 1 36 (e3 (by omega)) (by omega)) rfl hM1
                          | exact L103 k k1 hk n2 (.inl (0, e)) _ _ (hp0 (e4 (by omega))).symm rfl hM)
                     · try simp (disch := omega) only [zI_n, zI_o, zI_lit, zI_neg, zI_add, zI_sub, zI_mul, zI_lt, zI_le, zI_eq, zI_clamp, zI_in, zI_div, zI_rem, lg_lt0, lg_gt0, lg_eq0, lg_le0, lg_ge0, Int.toNat_natCast, ge_iff_le, gt_iff_lt, List.length_cons, List.length_nil, bl_up2_at, bl_up2_nk, bl_up2_nx] at h88
                       first
                       | (exfalso; first | omega | exact h88 trivial)
                       | (refine ⟨rfl, rfl, km, (Nat.le_of_ble_eq_true rfl), (0, 0), Nat.le_of_ble_eq_true rfl, Nat.le_of_ble_eq_true rfl, bl_MC_mono (c_Model_numA (d := d + 2) (lo := 1) (hi := 36) hm hn hM rfl rfl rfl (by omega) (by omega)) (fun o95 σ95 q95 => ?_)⟩
                          try dsimp only [bl_pv] at q95
                          obtain ⟨M1, rfl, rfl, hM1⟩ := q95
                          refine bl_go oX11_readsStep 80 [48, 103] rfl ?_
                          try dsimp only [bl_pv]
                          first
                          | exact L103 k k1 hk n2 _ _ _ (hA 2 4 (e1 (by omega)) (by omega)) rfl hM1
                          | exact L103 k k1 hk n2 _ _ _ (hA 1 9 (e2 (by omega)) (by omega)) rfl hM1
                          | exact L103 k k1 hk n2 _ _ _ (hA 1 36 (e3 (by omega)) (by omega)) rfl hM1
                          | exact L103 k k1 hk n2 (.inl (0, e)) _ _ (hp0 (e4 (by omega))).symm rfl hM))
                · try simp (disch := omega) only [zI_n, zI_o, zI_lit, zI_neg, zI_add, zI_sub, zI_mul, zI_lt, zI_le, zI_eq, zI_clamp, zI_in, zI_div, zI_rem, lg_lt0, lg_gt0, lg_eq0, lg_le0, lg_ge0, Int.toNat_natCast, ge_iff_le, gt_iff_lt, List.length_cons, List.length_nil, bl_up2_at, bl_up2_nk, bl_up2_nx] at h73
                  first
                  | (exfalso; first | omega | exact h73 trivial)
                  | (refine ⟨rfl, rfl, km, (Nat.le_of_ble_eq_true rfl), (0, 0), Nat.le_of_ble_eq_true rfl, Nat.le_of_ble_eq_true rfl, bl_MC_mono (c_Model_numA (d := d + 2) (lo := 1) (hi := 9) hm hn hM rfl rfl rfl (by omega) (by omega)) (fun o80 σ80 q80 => ?_)⟩
                     try dsimp only [bl_pv] at q80
                     obtain ⟨M1, rfl, rfl, hM1⟩ := q80
                     refine bl_go oX11_readsStep 80 [48, 103] rfl ?_
                     try dsimp only [bl_pv]
                     first
                     | exact L103 k k1 hk n2 _ _ _ (hA 2 4 (e1 (by omega)) (by omega)) rfl hM1
                     | exact L103 k k1 hk n2 _ _ _ (hA 1 9 (e2 (by omega)) (by omega)) rfl hM1
                     | exact L103 k k1 hk n2 _ _ _ (hA 1 36 (e3 (by omega)) (by omega)) rfl hM1
                     | exact L103 k k1 hk n2 (.inl (0, e)) _ _ (hp0 (e4 (by omega))).symm rfl hM)))
      · try simp (disch := omega) only [zI_n, zI_o, zI_lit, zI_neg, zI_add, zI_sub, zI_mul, zI_lt, zI_le, zI_eq, zI_clamp, zI_in, zI_div, zI_rem, lg_lt0, lg_gt0, lg_eq0, lg_le0, lg_ge0, Int.toNat_natCast, ge_iff_le, gt_iff_lt, List.length_cons, List.length_nil, bl_up2_at, bl_up2_nk, bl_up2_nx] at h54
        first
        | (exfalso; first | omega | exact h54 trivial)
        | (refine ⟨rfl, rfl, km, (Nat.le_of_ble_eq_true rfl), (0, 0), Nat.le_of_ble_eq_true rfl, Nat.le_of_ble_eq_true rfl, bl_MC_mono (c_Model_numA (d := d + 2) (lo := 2) (hi := 4) hm hn hM rfl rfl rfl (by omega) (by omega)) (fun o60 σ60 q60 => ?_)⟩
           try dsimp only [bl_pv] at q60
           obtain ⟨M1, rfl, rfl, hM1⟩ := q60
           refine bl_go oX11_readsStep 80 [48, 103] rfl ?_
           try dsimp only [bl_pv]
           first
           | exact L103 k k1 hk n2 _ _ _ (hA 2 4 (e1 (by omega)) (by omega)) rfl hM1
           | exact L103 k k1 hk n2 _ _ _ (hA 1 9 (e2 (by omega)) (by omega)) rfl hM1
           | exact L103 k k1 hk n2 _ _ _ (hA 1 36 (e3 (by omega)) (by omega)) rfl hM1
           | exact L103 k k1 hk n2 (.inl (0, e)) _ _ (hp0 (e4 (by omega))).symm rfl hM)
  by_cases n1 : skd (I (m + 8)) p e = zI (-1)
  · skip
    refine bl_go oX11_readsStep 80 [48, 103] rfl ?_
    refine ⟨rfl, rfl, km, (Nat.le_of_ble_eq_true rfl), (0, 0), Nat.le_of_ble_eq_true rfl, Nat.le_of_ble_eq_true rfl, bl_MC_mono (hKH) (fun o1 σ1 q1 => ?_)⟩
    try dsimp only [bl_pv] at q1
    obtain ⟨rfl, rfl⟩ := q1
    refine bl_go oX11_readsStep 80 [48, 103] rfl ?_
    refine ⟨fun h7 => ?_, fun h7 => ?_⟩
    · try simp (disch := omega) only [bl_pv, cl0, cl1, cl2, cl3, cl4, cl5, cl6, cl7, cl8, cl9, bl_up2_at, bl_up2_nk, bl_up2_nx] at h7
      exact absurd n1 h7
    · try simp (disch := omega) only [bl_pv, cl0, cl1, cl2, cl3, cl4, cl5, cl6, cl7, cl8, cl9, bl_up2_at, bl_up2_nk, bl_up2_nx] at h7
      first
      | (exfalso; first | omega | exact h7 trivial)
      | (refine ⟨km, rfl, rfl, km, (Nat.le_of_ble_eq_true rfl), (0, 0), Nat.le_of_ble_eq_true rfl, Nat.le_of_ble_eq_true rfl, bl_MC_mono (c_Model_wrM (d := d + 4) (s := .inl p) (n := n) (I := I) (fa := fa) (k := 1) (q := p) hm ⟨hp, rfl⟩ (Or.inl rfl) rfl mp4) (fun o16 σ16 q16 => ?_)⟩
         try dsimp only [bl_pv] at q16
         obtain ⟨M', rfl, rfl, hM'⟩ := q16
         refine bl_go oX11_readsStep 80 [48, 103] rfl ?_
         refine ⟨km, fun h44 => ?_, fun h44 => ?_⟩
         · try simp (disch := omega) only [bl_pv, cl0, cl1, cl2, cl3, cl4, cl5, cl6, cl7, cl8, cl9, bl_up2_at, bl_up2_nk, bl_up2_nx] at h44
           first
           | (exfalso; first | omega | exact h44 trivial)
           | (try dsimp only [bl_pv]
              obtain ⟨-, e', -, rfl⟩ := hM'
              exact absurd (mp5.symm.trans h44) (nI_k (by simp)))
         · try simp (disch := omega) only [bl_pv, cl0, cl1, cl2, cl3, cl4, cl5, cl6, cl7, cl8, cl9, bl_up2_at, bl_up2_nk, bl_up2_nx] at h44
           first
           | (exfalso; first | omega | exact h44 trivial)
           | (try show _ ∧ _
              try dsimp only [bl_pv]
              refine ⟨rfl, I, M', rfl, ⟨fun _ _ _ => rfl, fun _ _ => rfl⟩, by rw [if_pos n1]; exact hM', fun a ha => ?_⟩
              rw [if_pos n1] at ha; cases ha))
  · by_cases n2 : 20 ≤ S.1
    · have ec : S.1 = 20 := by omega
      have hc := hS.1
      rw [ec] at hc
      refine bl_go oX11_readsStep 80 [48, 103] rfl ?_
      refine ⟨rfl, rfl, km, (Nat.le_of_ble_eq_true rfl), (0, 0), Nat.le_of_ble_eq_true rfl, Nat.le_of_ble_eq_true rfl, bl_MC_mono (hKH) (fun o1 σ1 q1 => ?_)⟩
      try dsimp only [bl_pv] at q1
      obtain ⟨rfl, rfl⟩ := q1
      refine bl_go oX11_readsStep 80 [48, 103] rfl ?_
      refine ⟨fun h7 => ?_, fun h7 => ?_⟩
      · try simp (disch := omega) only [bl_pv, cl0, cl1, cl2, cl3, cl4, cl5, cl6, cl7, cl8, cl9, bl_up2_at, bl_up2_nk, bl_up2_nx] at h7
        first
        | (exfalso; first | omega | exact h7 trivial)
        | (refine ⟨km, fun h28 => ?_, fun h28 => ?_⟩
           · try simp (disch := omega) only [bl_pv, cl0, cl1, cl2, cl3, cl4, cl5, cl6, cl7, cl8, cl9, bl_up2_at, bl_up2_nk, bl_up2_nx] at h28
             exact absurd ((mpx (by omega) (by omega) (by omega) (by omega)).trans hc) h28
           · try simp (disch := omega) only [bl_pv, cl0, cl1, cl2, cl3, cl4, cl5, cl6, cl7, cl8, cl9, bl_up2_at, bl_up2_nk, bl_up2_nx] at h28
             first
             | (exfalso; first | omega | exact h28 trivial)
             | (refine ⟨km, rfl, rfl, km, (Nat.le_of_ble_eq_true rfl), (0, 0), Nat.le_of_ble_eq_true rfl, Nat.le_of_ble_eq_true rfl, bl_MC_mono (c_Model_wrM (d := d + 4) (s := .inl p) (n := n) (I := I) (fa := fa) (k := 3) (q := p) hm ⟨hp, rfl⟩ (Or.inr (Or.inr rfl)) rfl mp4) (fun o37 σ37 q37 => ?_)⟩
                try dsimp only [bl_pv] at q37
                obtain ⟨M', rfl, rfl, hM'⟩ := q37
                refine bl_go oX11_readsStep 80 [48, 103] rfl ?_
                refine ⟨km, fun h44 => ?_, fun h44 => ?_⟩
                · try simp (disch := omega) only [bl_pv, cl0, cl1, cl2, cl3, cl4, cl5, cl6, cl7, cl8, cl9, bl_up2_at, bl_up2_nk, bl_up2_nx] at h44
                  first
                  | (exfalso; first | omega | exact h44 trivial)
                  | (try dsimp only [bl_pv]
                     obtain ⟨-, e', -, rfl⟩ := hM'
                     exact absurd (mp5.symm.trans h44) (nI_k (by simp)))
                · try simp (disch := omega) only [bl_pv, cl0, cl1, cl2, cl3, cl4, cl5, cl6, cl7, cl8, cl9, bl_up2_at, bl_up2_nk, bl_up2_nx] at h44
                  first
                  | (exfalso; first | omega | exact h44 trivial)
                  | (try show _ ∧ _
                     try dsimp only [bl_pv]
                     refine ⟨rfl, I, M', rfl, ⟨fun _ _ _ => rfl, fun _ _ => rfl⟩, by rw [if_neg n1, if_pos n2]; exact hM', fun a ha => ?_⟩
                     rw [if_neg n1, if_pos n2] at ha; cases ha)))
      · try simp (disch := omega) only [bl_pv, cl0, cl1, cl2, cl3, cl4, cl5, cl6, cl7, cl8, cl9, bl_up2_at, bl_up2_nk, bl_up2_nx] at h7
        exact absurd h7 n1
    · have hne : (mpI I m (nI n) (nI p) 0 fa) m 20 ≠ 20 := by
        rw [mpx (by omega) (by omega) (by omega) (by omega), hS.1]
        intro h
        have h' := congrArg Int32.toNatClampNeg h
        rw [nI_clamp (by omega)] at h'
        have : Int32.toNatClampNeg 20 = 20 := rfl
        omega
      refine bl_go oX11_readsStep 80 [48, 103] rfl ?_
      refine ⟨rfl, rfl, km, (Nat.le_of_ble_eq_true rfl), (0, 0), Nat.le_of_ble_eq_true rfl, Nat.le_of_ble_eq_true rfl, bl_MC_mono (hKH) (fun o1 σ1 q1 => ?_)⟩
      try dsimp only [bl_pv] at q1
      obtain ⟨rfl, rfl⟩ := q1
      refine bl_go oX11_readsStep 80 [48, 103] rfl ?_
      refine ⟨fun h7 => ?_, fun h7 => ?_⟩
      · try simp (disch := omega) only [bl_pv, cl0, cl1, cl2, cl3, cl4, cl5, cl6, cl7, cl8, cl9, bl_up2_at, bl_up2_nk, bl_up2_nx] at h7
        first
        | (exfalso; first | omega | exact h7 trivial)
        | (refine ⟨km, fun h28 => ?_, fun h28 => ?_⟩
           · try simp (disch := omega) only [bl_pv, cl0, cl1, cl2, cl3, cl4, cl5, cl6, cl7, cl8, cl9, bl_up2_at, bl_up2_nk, bl_up2_nx] at h28
             first
             | (exfalso; first | omega | exact h28 trivial)
             | (refine ⟨km, fun h44 => ?_, fun h44 => ?_⟩
                · try simp (disch := omega) only [bl_pv, cl0, cl1, cl2, cl3, cl4, cl5, cl6, cl7, cl8, cl9, bl_up2_at, bl_up2_nk, bl_up2_nx] at h44
                  first
                  | (exfalso; first | omega | exact h44 trivial)
                  | (try dsimp only [bl_pv]
                     exact L48 n1 n2 _ rfl)
                · try simp (disch := omega) only [bl_pv, cl0, cl1, cl2, cl3, cl4, cl5, cl6, cl7, cl8, cl9, bl_up2_at, bl_up2_nk, bl_up2_nx] at h44
                  exact absurd mp5 h44)
           · try simp (disch := omega) only [bl_pv, cl0, cl1, cl2, cl3, cl4, cl5, cl6, cl7, cl8, cl9, bl_up2_at, bl_up2_nk, bl_up2_nx] at h28
             exact absurd h28 hne)
      · try simp (disch := omega) only [bl_pv, cl0, cl1, cl2, cl3, cl4, cl5, cl6, cl7, cl8, cl9, bl_up2_at, bl_up2_nk, bl_up2_nx] at h7
        exact absurd h7 n1
end MODEL7
