/-! ===== recipe where the bytes are not there; the reference's answers in the law's form ===== -/
section RECX
variable {G : bl_G} {l : Launch} {d m : Nat} {I : Nat → Nat → Int32} {J : Nat → Nat → Int64} {R : Nat → Nat → Option Nat} {K N : Nat → Nat} {S : cS} {A : aS} {h z : Nat} {x y w a b : Int32} {c : Int64}
theorem c_BL_recipeX (hlt : l.stackTraces = false) (hI : clI (I, J, R, K, N) S h) (hO : csO S) (hxf : ¬ (0 ≤ x ∧ x ≤ nI S.2.2.1)) : bl_MC G l (d + 4) mX10_recipe [.ref 100, .int x] (I, J, R, K, N) (1, 6) (fun o s' => o = .inr bl_IAE ∧ s' = (I, J, R, K, N)) := by
  obtain ⟨⟨kx, ⟨rx_0, rx_1, rx_2, rx_3, rx_4, rx_5, rx_6, rx_7⟩, ⟨kxr, nxr⟩, ⟨kxn, nxn⟩, kxb, ⟨kxi, nxi⟩, ⟨kxj, nxj⟩⟩, hTp, hUn, hBn, hK1, hK2, hSt, hStr⟩ := hI.1
  have ht := hI.2.2.2.2.1
  have kxt := hTp.2.1
  dsimp only at kx rx_0 kxt ht
  have ht4 := hO.2.2.2.2.2.1
  have hop := c_Tape_open (G := G) (l := l) (d := d + 3) (I := I) (J := J) (R := R) (N := N) (t := 110) (h := I 110 1) (fk := I 110 2) (fp := I 110 3) (en := I 110 4) (at' := I 110 5) (wa := I 110 6) (x := x) kxt ht.1 ht4
  rw [tpI_eta] at hop
  refine bl_MC_intro (by decide +kernel) rfl (Nat.le_of_ble_eq_true rfl) ?_
  refine bl_go oX10_recipe 80 [21] rfl ?_
  refine ⟨kx, _, bl_vs rx_0, rfl, rfl, kxt, (Nat.le_of_ble_eq_true rfl), (0, 0), Nat.le_of_ble_eq_true rfl, Nat.le_of_ble_eq_true rfl, bl_MC_mono (hop) (fun o5 σ5 q5 => ?_)⟩
  try dsimp only [bl_pv] at q5
  obtain ⟨hx, rfl, rfl⟩ := q5.resolve_left (fun ⟨n, e1, e2, _⟩ => hxf (by rw [e1]; exact ⟨(nI_lek (a := 0) (by omega) (by omega)).mpr (Nat.zero_le _), (nI_lek (by omega) (by omega)).mpr e2⟩))
  refine bl_go oX10_recipe 80 [21] rfl ?_
  refine ⟨fun h8 => ?_, fun h8 => ?_⟩
  · try simp (disch := omega) only [zI_n, zI_o, zI_lit, zI_neg, zI_add, zI_sub, zI_mul, zI_lt, zI_le, zI_eq, zI_clamp, zI_in, zI_div, zI_rem, lg_lt0, lg_gt0, lg_eq0, lg_le0, lg_ge0, Int.toNat_natCast, ge_iff_le, gt_iff_lt, List.length_cons, List.length_nil, bl_up2_at, bl_up2_nk, bl_up2_nx] at h8
    first
    | (exfalso; first | omega | exact h8 trivial)
    | (try dsimp only [bl_pv]
       exact absurd trivial (by omega))
  · try simp (disch := omega) only [zI_n, zI_o, zI_lit, zI_neg, zI_add, zI_sub, zI_mul, zI_lt, zI_le, zI_eq, zI_clamp, zI_in, zI_div, zI_rem, lg_lt0, lg_gt0, lg_eq0, lg_le0, lg_ge0, Int.toNat_natCast, ge_iff_le, gt_iff_lt, List.length_cons, List.length_nil, bl_up2_at, bl_up2_nk, bl_up2_nx] at h8
    first
    | (exfalso; first | omega | exact h8 trivial)
    | (refine ⟨hlt, (Nat.le_of_ble_eq_true rfl), (Nat.le_of_ble_eq_true rfl), (Nat.le_of_ble_eq_true rfl), ?_⟩
       try show _ ∧ _
       try dsimp only [bl_pv]
       exact ⟨rfl, rfl⟩)
theorem c_L_recipeX (hlt : l.stackTraces = false) (hI : clI (I, J, R, K, N) S h) (hO : csO S) (hxf : ¬ (0 ≤ x ∧ x ≤ nI S.2.2.1)) (hz : exF (I, J, R, K, N) z) : bl_MC G l (d + 5) mL_recipe [.ref 100, .int x, .ref 920] (I, J, R, K, N) (1, 6) (lwO (I, J, R, K, N) S h z 1 0) := by
  have kx : K 100 = 11 := hI.1.1.1
  refine bl_MC_introH (by decide +kernel) (by decide) (by decide +kernel) (Nat.le_of_ble_eq_true rfl) ?_
  refine bl_go oL_recipe 80 [] rfl ?_
  refine ⟨rfl, rfl, kx, (Nat.le_of_ble_eq_true rfl), (1, 6), Nat.le_of_ble_eq_true rfl, Nat.le_of_ble_eq_true rfl, bl_MC_mono (c_BL_recipeX (d := d) hlt hI hO hxf) (fun o s1 q => ?_)⟩
  obtain ⟨rfl, rfl⟩ := q
  refine bl_cat z (pre := []) (x := (0, 9, 12, 13)) (suf := []) rfl (fun z hz => absurd hz List.not_mem_nil) (by decide) (by decide) cw_13 cc_A (lw_fr cfF.refl hz) ?_
  refine bl_go oL_recipe 80 [] rfl ?_
  refine ⟨(fun h => by cases h), ?_⟩
  exact lw_ex hI hO cfF.refl hz (by decide)
theorem m_told (hm : mdS R K N m) (hK : mdK I m A) : bl_MC G l (d + 1) mX11_told [.ref m, .int x] (I, J, R, K, N) (0, 0) (fun o s' => ∃ I' J' v, s' = (I', J', R, K, N) ∧ gtG I I' J J' m ∧ I' m 0 = nI (tdE x) ∧ o = .inl (some (.int v)) ∧ (tdE x = 0 → v = tdV A x)) := by
  refine bl_MC_mono (c_Model_told (d := d) hm) (fun o s' q => ?_)
  rcases q with ⟨h1, rfl, rfl⟩ | ⟨h1, rfl, rfl⟩
  · have hE : tdE x = 1 := by unfold tdE; rw [if_neg (wb_f h1)]
    exact ⟨_, _, _, rfl, gtG.up, by rw [hE]; exact bl_up2_at, rfl, fun e => by rw [hE] at e; exact absurd e (by decide)⟩
  · have hE : tdE x = 0 := by unfold tdE; rw [if_pos (wb_t h1)]
    refine ⟨_, _, _, rfl, gtG.up, by rw [hE]; exact bl_up2_at, rfl, fun _ => ?_⟩
    unfold tdV
    obtain ⟨k, hk, rfl⟩ := i32_nat (b := 9) (by omega) h1.1 h1.2
    have ek : rn (nI k) = k := nI_clamp (by omega)
    by_cases e9 : nI k = 9
    · rw [if_pos e9, if_pos e9]; exact hK.2.2.1.1
    · rw [if_neg e9, if_neg e9]
      by_cases e8 : nI k = 8
      · rw [if_pos e8, if_pos e8]; exact hK.2.2.2.1
      · rw [if_neg e8, if_neg e8]
        have hk9 : k ≠ 9 := fun e => e9 (by rw [e]; rfl)
        have hk8 : k ≠ 8 := fun e => e8 (by rw [e]; rfl)
        show I (m + 10) (rn (nI k)) = nI (A.1 (rn (nI k)))
        rw [ek]; exact hK.1.1 k (by omega)
theorem m_room (hm : mdS R K N m) (hK : mdK I m A) : bl_MC G l (d + 1) mX11_room [.ref m, .int x] (I, J, R, K, N) (0, 0) (fun o s' => ∃ I' J' v, s' = (I', J', R, K, N) ∧ gtG I I' J J' m ∧ I' m 0 = nI (rmE x) ∧ o = .inl (some (.int v)) ∧ (rmE x = 0 → v = A.2.1 (rn x))) := by
  refine bl_MC_mono (c_Model_room (d := d) hm) (fun o s' q => ?_)
  rcases q with ⟨h1, rfl, rfl⟩ | ⟨h1, rfl, rfl⟩
  · have hE : rmE x = 1 := by unfold rmE; rw [if_neg (wb_f h1)]
    exact ⟨_, _, _, rfl, gtG.up, by rw [hE]; exact bl_up2_at, rfl, fun e => by rw [hE] at e; exact absurd e (by decide)⟩
  · have hE : rmE x = 0 := by unfold rmE; rw [if_pos (wb_t h1)]
    refine ⟨_, _, _, rfl, gtG.up, by rw [hE]; exact bl_up2_at, rfl, fun _ => ?_⟩
    obtain ⟨k, hk, rfl⟩ := i32_nat (b := 23) (by omega) h1.1 h1.2
    have ek : rn (nI k) = k := nI_clamp (by omega)
    show rm_deg (I (m + 12)) (rn (nI k)) = A.2.1 (rn (nI k))
    rw [ek]; exact hK.1.2 k (by omega)
theorem rb_nI {c k : Nat} (hc : c ≤ 1000) (hk : k < c) : rb c (nI k) = true := (rb_lt hc).mpr ⟨(nI_lek (a := 0) (by omega) (by omega)).mpr (Nat.zero_le _), (nI_ltk (by omega) (by omega)).mpr hk⟩
theorem m_step (hm : mdS R K N m) (hK : mdK I m A) : bl_MC G l (d + 2) mX11_step [.ref m, .int x, .int y, .int w] (I, J, R, K, N) (0, 0) (fun o s' => ∃ I' J' v, s' = (I', J', R, K, N) ∧ gtG I I' J J' m ∧ I' m 0 = nI (spE A x y w) ∧ o = .inl (some (.int v)) ∧ (spE A x y w = 0 → v = stv (A.2.2.2.1 (rn x)) (rn y) (rn w))) := by
  have hR := hK.2.2.1
  have hc := hR.2.1
  refine bl_MC_mono (c_Model_step (d := d) hm hR) (fun o s' q => ?_)
  rcases q with ⟨h1, rfl, rfl⟩ | ⟨r, hr, rfl, q⟩
  · have hE : spE A x y w = 1 := by unfold spE; rw [if_neg (fun q => h1 (rb_t.mp q))]
    exact ⟨_, _, _, rfl, gtG.up, by rw [hE]; exact bl_up2_at, rfl, fun e => by rw [hE] at e; exact absurd e (by decide)⟩
  · have er : rn (nI r) = r := nI_clamp (by omega)
    have e1 : rb A.2.2.1 (nI r) = true := rb_nI (by omega) hr
    have h20 := (hR.2.2 r hr).2.1
    rcases q with ⟨h1, rfl, rfl⟩ | ⟨k, hk, rfl, q⟩
    · have hE : spE A (nI r) y w = 2 := by unfold spE; rw [if_pos e1, er, if_neg (fun q => h1 (rb_t.mp q))]
      exact ⟨_, _, _, rfl, gtG.up, by rw [hE]; exact bl_up2_at, rfl, fun e => by rw [hE] at e; exact absurd e (by decide)⟩
    · have ek : rn (nI k) = k := nI_clamp (by omega)
      have e2 : rb (A.2.2.2.1 r).1 (nI k) = true := rb_nI (by omega) hk
      rcases q with ⟨h1, rfl, rfl⟩ | ⟨v, hv, rfl, rfl, rfl⟩
      · have hE : spE A (nI r) (nI k) w = 3 := by unfold spE; rw [if_pos e1, er, if_pos e2, if_neg (wb_f h1)]
        exact ⟨_, _, _, rfl, gtG.up, by rw [hE]; exact bl_up2_at, rfl, fun e => by rw [hE] at e; exact absurd e (by decide)⟩
      · have ev : rn (nI v) = v := nI_clamp (by omega)
        have hw : (0 : Int32) ≤ nI v ∧ nI v ≤ 2 := ⟨(nI_lek (a := 0) (by omega) (by omega)).mpr (Nat.zero_le _), (nI_lek (b := 2) (by omega) (by omega)).mpr hv⟩
        have hE : spE A (nI r) (nI k) (nI v) = 0 := by unfold spE; rw [if_pos e1, er, if_pos e2, if_pos (wb_t hw)]
        refine ⟨_, _, _, rfl, gtG.up, by rw [hE]; exact bl_up2_at, rfl, fun _ => ?_⟩
        rw [er, ek, ev]
theorem psP_eq2 {P : pP} {n : Nat} {i v v' : Int32} (h1 : 1 ≤ n ∧ n ≤ 1024) (h : psP P n i v) (h' : psP P n i v') : v = v' := by
  by_cases hm : made n
  · exact psP_eq (made_pm h1.1 h1.2 hm).1 h h'
  · rcases h with ⟨q, _⟩ | ⟨_, rfl⟩
    · exact absurd q hm
    · rcases h' with ⟨q, _⟩ | ⟨_, rfl⟩
      · exact absurd q hm
      · rfl
theorem psE_r {x : Int32} (h : psE' x = 0) : 1 ≤ rn x ∧ rn x ≤ 1024 := by
  have hx : 1 ≤ x ∧ x ≤ 1024 := by
    by_cases q : 1 ≤ x ∧ x ≤ 1024
    · exact q
    · unfold psE' at h; rw [if_neg (inb_f q)] at h; exact absurd h (by decide)
  obtain ⟨n, hn2, rfl⟩ := i32_nat (b := 1024) (by omega) (Int32.le_trans (show (0 : Int32) ≤ 1 by decide) hx.1) hx.2
  have hn1 : 1 ≤ n := (nI_lek (a := 1) (by omega) (by omega)).mp hx.1
  rw [show rn (nI n) = n from nI_clamp (by omega)]
  exact ⟨hn1, hn2⟩
/-- the reference's state, when what it holds is the same -/
theorem lwM.fr {I' : Nat → Nat → Int32} {J' : Nat → Nat → Int64} (h : lwM (I, J, R, K, N) S) (f1 : ∀ y, 10000 < y → (y < 10037 ∨ (10100 ≤ y ∧ y < 10113)) → I' y = I y) (f2 : ∀ j, (j = 1 ∨ j = 3 ∨ j = 13 ∨ j = 14 ∨ j = 15) → I' 10000 j = I 10000 j) : lwM (I', J', R, K, N) S := by
  obtain ⟨a1, a2, a3, a4, a5, a6, a8, a7⟩ := h
  refine ⟨a1, mdK.same a2 (fun x q1 q2 => f1 x (by omega) (by omega)) (fun r hr => f1 _ (by omega) (by omega)) (f2 13 (by omega)) (f2 14 (by omega)), (f2 1 (by omega)).trans a3, (f1 10008 (by omega) (by omega)).trans a4, (f2 3 (by omega)).trans a5, (f2 15 (by omega)).trans a6, a8, fun i hi => ?_⟩
  show I' (10110 + i) 0 = _ ∧ I' (10110 + i) 1 = _
  rw [f1 (10110 + i) (by omega) (by omega)]; exact a7 i hi
theorem csO.bgIf (hO : csO S) : csO (if bgE x = 0 then (bgS S.1 S.1.2.2.1 (rn x), S.2) else S) := by
  by_cases e : bgE x = 0
  · rw [if_pos e]
    refine hO.bg ?_
    have hx : 0 ≤ x ∧ x ≤ 287 := by
      by_cases q : 0 ≤ x ∧ x ≤ 287
      · exact q
      · unfold bgE at e; rw [if_neg (wb_f q)] at e; exact absurd e (by decide)
    obtain ⟨k, hk, rfl⟩ := i32_nat (b := 287) (by omega) hx.1 hx.2
    rw [show rn (nI k) = k from nI_clamp (by omega)]; omega
  · rw [if_neg e]; exact hO
theorem lwM.bgn {I' : Nat → Nat → Int32} (h : lwM (I, J, R, K, N) S) (f1 : ∀ y, y ≠ 10000 → I' y = I y) (f2 : ∀ j, j ≠ 0 → j ≠ 14 → I' 10000 j = I 10000 j) (f3 : I' 10000 14 = if bgE x = 0 then x else I 10000 14) : lwM (I', J, R, K, N) (if bgE x = 0 then (bgS S.1 S.1.2.2.1 (rn x), S.2) else S) := by
  by_cases e : bgE x = 0
  · rw [if_pos e] at f3 ⊢
    have hx : 0 ≤ x ∧ x ≤ 287 := by
      by_cases q : 0 ≤ x ∧ x ≤ 287
      · exact q
      · unfold bgE at e; rw [if_neg (wb_f q)] at e; exact absurd e (by decide)
    obtain ⟨k, hk, rfl⟩ := i32_nat (b := 287) (by omega) hx.1 hx.2
    obtain ⟨a1, ⟨k1, k2, k3, k4, k5⟩, a3, a4, a5, a6, a8, a7⟩ := h
    rw [show rn (nI k) = k from nI_clamp (by omega)]
    refine ⟨a1, ⟨k1.same (f1 _ (by omega)) (f1 _ (by omega)), k2, ⟨(f2 13 (by omega) (by omega)).trans k3.1, k3.2.1, fun r hr => ?_⟩, f3, show k < 288 by omega⟩, (f2 1 (by omega) (by omega)).trans a3, (f1 10008 (by omega)).trans a4, (f2 3 (by omega) (by omega)).trans a5, (f2 15 (by omega) (by omega)).trans a6, a8, fun i hi => ?_⟩
    · show I' (10000 + 16) r = _ ∧ _ ∧ _ ∧ ∀ j, _ → I' (10000 + 100 + r) (2 * j) = _ ∧ I' (10000 + 100 + r) (2 * j + 1) = _
      rw [f1 (10000 + 16) (by omega), f1 (10000 + 100 + r) (by omega)]
      exact k3.2.2 r hr
    · show I' (10110 + i) 0 = _ ∧ I' (10110 + i) 1 = _
      rw [f1 (10110 + i) (by omega)]; exact a7 i hi
  · rw [if_neg e] at f3 ⊢
    refine h.fr (fun y y1 _ => f1 y (by omega)) (fun j hj => ?_)
    by_cases e14 : j = 14
    · rw [e14]; exact f3
    · exact f2 j (by omega) e14
theorem lwk_tdE : tdE x < 1000 := by unfold tdE; split <;> omega
theorem lwk_rmE : rmE x < 1000 := by unfold rmE; split <;> omega
theorem lwk_bgE : bgE x < 1000 := by unfold bgE; split <;> omega
theorem lwk_bhE : bhE x < 1000 := by unfold bhE; split <;> omega
theorem lwk_swE : swE x w < 1000 := by unfold swE; split <;> omega
theorem lwk_psE : psE' x < 1000 := by unfold psE'; split <;> omega
theorem lwk_spE : spE A x y w < 1000 := by
  unfold spE
  split
  · split
    · split <;> omega
    · omega
  · omega
end RECX
