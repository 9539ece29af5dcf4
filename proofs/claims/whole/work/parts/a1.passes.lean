/-! ===== Passes: enter, rollAndFold ===== -/
def psS (R : Nat → Nat → Option Nat) (K N : Nat → Nat) (q : Nat) : Prop := q < 880 ∧ K q = 4 ∧ (R q 0 = some (q + 1) ∧ R q 1 = some (q + 2) ∧ R q 2 = some (q + 3) ∧ R q 3 = some (q + 4) ∧ R q 4 = some (q + 5) ∧ R q 5 = some (q + 6)) ∧ (K (q + 1) = 20 ∧ K (q + 2) = 20 ∧ K (q + 3) = 20 ∧ K (q + 4) = 20 ∧ K (q + 5) = 20 ∧ K (q + 6) = 20) ∧ (N (q + 1) = 38496 ∧ N (q + 2) = 96 ∧ N (q + 3) = 96 ∧ N (q + 4) = 7 ∧ N (q + 5) = 7 ∧ N (q + 6) = 121)
/-- the numbers of the object -/
def psD (I : Nat → Nat → Int32) (q : Nat) (P : pP) : Prop := I q 7 = nI P.1 ∧ I q 8 = nI P.2.1 ∧ I q 9 = nI P.2.2.1 ∧ I q 10 = nI P.2.2.2.1 ∧ ∀ u, u ≤ 120 → I (q + 6) u = nI (P.2.2.2.2 u)
/-- only the rows of ways may change -/
def psF (I I' : Nat → Nat → Int32) (q : Nat) : Prop := ∀ x, (x ≤ q ∨ q + 6 ≤ x) → I' x = I x
theorem psF.trans {I I' I'' : Nat → Nat → Int32} {q : Nat} (h : psF I I' q) (h' : psF I' I'' q) : psF I I'' q := fun x hx => (h' x hx).trans (h x hx)
theorem psD.f {I I' : Nat → Nat → Int32} {q : Nat} {P : pP} (h : psD I q P) (hF : psF I I' q) : psD I' q P := by
  unfold psD
  rw [hF q (by omega), hF (q + 6) (by omega)]; exact h
section PASSES
variable {G : bl_G} {l : Launch} {d q now dn : Nat} {I : Nat → Nat → Int32} {J : Nat → Nat → Int64} {R : Nat → Nat → Option Nat} {K N : Nat → Nat} {E : psE} {P : pP}
theorem c_Passes_enter {p u w c : Nat} {x1 x2 x3 x4 : Int32} (hq : psS R K N q) (hB : pIB I q E) (hC : pIC I q E now dn) (hR : pIR I q) (hE : pEb E) (hp : p ≤ 6) (hu : u ≤ 120) (hw : w ≤ 400) (hc : c < 244140625) (hwin : (now < u ∧ u < now + 16) ∨ (dn = 0 ∧ u = now)) (h1 : x1 = nI p) (h2 : x2 = nI u) (h3 : x3 = nI w) (h4 : x4 = nI c) : bl_MC G l d mX3_enter [.ref q, .int x1, .int x2, .int x3, .int x4] (I, J, R, K, N) (0, 0) (fun o σ' => o = .inl none ∧ ∃ I', σ' = (I', J, R, K, N) ∧ psF I I' q ∧ pIB I' q (eAdd E p u w c) ∧ pIC I' q (eAdd E p u w c) now dn ∧ pIR I' q) := by
  obtain ⟨hq0, kq, ⟨rq_0, rq_1, rq_2, rq_3, rq_4, rq_5⟩, ⟨kq1, kq2, kq3, kq4, kq5, kq6⟩, ⟨nq1, nq2, nq3, nq4, nq5, nq6⟩⟩ := hq
  subst h1 h2 h3 h4
  have ecp : (nI p).toNatClampNeg = p := nI_clamp (by omega)
  refine bl_MC_intro (by decide +kernel) rfl (Nat.le_of_ble_eq_true rfl) ?_
  have L50 : ∀ I1, psF I I1 q → (∀ x, x = q + 1 ∨ x = q + 2 ∨ x = q + 3 → I1 x = I x) → pIB I1 q (eAdd E p u w c) → bl_WP G l d mX3_enter 50 [(0, .ref q), (1, .int (nI p)), (2, .int (nI u)), (3, .int (nI w)), (4, .int (nI c))] [] (I1, J, R, K, N) (0, 0) (fun o σ' => o = .inl none ∧ ∃ I', σ' = (I', J, R, K, N) ∧ psF I I' q ∧ pIB I' q (eAdd E p u w c) ∧ pIC I' q (eAdd E p u w c) now dn ∧ pIR I' q) := by
    intro I1 hF f1 hB1
    have f11 := f1 (q + 1) (Or.inl rfl)
    have f12 := f1 (q + 2) (Or.inr (Or.inl rfl))
    have f13 := f1 (q + 3) (Or.inr (Or.inr rfl))
    have em : (nI u - nI u / 16 * 16) * 6 + nI p = nI (u % 16 * 6 + p) := by
      simp (disch := omega) only [zI_n, zI_o, zI_lit, zI_neg, zI_add, zI_sub, zI_mul, zI_lt, zI_le, zI_eq, zI_clamp, zI_in, zI_div, zI_rem, lg_lt0, lg_gt0, lg_eq0, lg_le0, lg_ge0, Int.toNat_natCast, ge_iff_le, gt_iff_lt, List.length_cons, List.length_nil, bl_up2_at, bl_up2_nk, bl_up2_nx]
      congr 1
      omega
    have em2 : nI (u % 16 * 6 + p) * 401 + nI w = nI ((u % 16 * 6 + p) * 401 + w) := by
      simp (disch := omega) only [zI_n, zI_o, zI_lit, zI_neg, zI_add, zI_sub, zI_mul, zI_lt, zI_le, zI_eq, zI_clamp, zI_in, zI_div, zI_rem, lg_lt0, lg_gt0, lg_eq0, lg_le0, lg_ge0, Int.toNat_natCast, ge_iff_le, gt_iff_lt, List.length_cons, List.length_nil, bl_up2_at, bl_up2_nk, bl_up2_nx]
      congr 1
    have ect : (nI (u % 16 * 6 + p)).toNatClampNeg = u % 16 * 6 + p := nI_clamp (by omega)
    have ecl : (nI ((u % 16 * 6 + p) * 401 + w)).toNatClampNeg = (u % 16 * 6 + p) * 401 + w := nI_clamp (by omega)
    have hin : ∀ u', p < 6 → now + (if p < dn then 1 else 0) ≤ u' → u' < now + (if p < dn then 1 else 0) + 16 → u' % 16 = u % 16 → u' = u := by
      intro u' _ a1 a2 a3
      rcases hwin with ⟨b1, b2⟩ | ⟨b1, b2⟩
      · split at a1 <;> (rename_i hh; first | rw [if_pos hh] at a2 | rw [if_neg hh] at a2) <;> omega
      · rw [b1] at a1 a2
        rw [if_neg (Nat.not_lt_zero _)] at a1 a2
        omega
    have huw : now + (if p < dn then 1 else 0) ≤ u ∧ u < now + (if p < dn then 1 else 0) + 16 := by
      rcases hwin with ⟨b1, b2⟩ | ⟨b1, b2⟩
      · split <;> omega
      · rw [b1, if_neg (Nat.not_lt_zero _)]; omega
    have F : p < 6 → ∀ lo hi : Nat, (∀ w', w' ≤ 400 → I (q + 1) ((u % 16 * 6 + p) * 401 + w') ≠ nI 0 → lo ≤ w' ∧ w' < hi) → lo ≤ w → w < hi → hi ≤ 401 → (I (q + 1) ((u % 16 * 6 + p) * 401 + w) = nI 0 ∨ ∃ c0, c0 < 244140625 ∧ I (q + 1) ((u % 16 * 6 + p) * 401 + w) = nI (c0 + 1) ∧ c < c0) → ∀ I2, (∀ x, x ≠ q + 1 → x ≠ q + 2 → x ≠ q + 3 → I2 x = I1 x) → (∀ j, I2 (q + 1) j = if j = (u % 16 * 6 + p) * 401 + w then nI (c + 1) else I1 (q + 1) j) → (∀ j, I2 (q + 2) j = if j = u % 16 * 6 + p then nI lo else I1 (q + 2) j) → (∀ j, I2 (q + 3) j = if j = u % 16 * 6 + p then zI ((hi : Int) - 1) else I1 (q + 3) j) → (∃ I', (I2, J, R, K, N) = (I', J, R, K, N) ∧ psF I I' q ∧ pIB I' q (eAdd E p u w c) ∧ pIC I' q (eAdd E p u w c) now dn ∧ pIR I' q) := by
      intro hp6 lo hi hlh hlo hhi hhi2 hold I2 g0 g1 g2 g3
      refine ⟨I2, rfl, fun x hx => ?_, ?_, ?_, ?_⟩
      · rw [g0 x (by omega) (by omega) (by omega)]; exact hF x hx
      · unfold pIB
        rw [g0 (q + 4) (by omega) (by omega) (by omega), g0 (q + 5) (by omega) (by omega) (by omega)]; exact hB1
      · intro p' hp' u' hu1 hu2 w' hw'
        rw [g1]
        by_cases e : (u' % 16 * 6 + p') * 401 + w' = (u % 16 * 6 + p) * 401 + w
        · have ep : p' = p := by omega
          have ew : w' = w := by omega
          subst ep ew
          have eu := hin u' hp6 hu1 hu2 (by omega)
          subst eu
          rw [if_pos rfl]
          refine Or.inr ⟨c, rfl, Or.inr ⟨rfl, rfl, rfl, rfl⟩, ?_⟩
          rintro c' (h | ⟨-, -, -, rfl⟩)
          · rcases hC p' hp' u' hu1 hu2 w' hw' with ⟨a, b⟩ | ⟨c1, a, b, g⟩
            · exact absurd h (b c')
            · have hcc := (hE _ _ _ _ b).2.2
              rcases hold with h0 | ⟨c0, h00, h0, hlt⟩
              · rw [a] at h0
                have := congrArg Int32.toNatClampNeg h0
                rw [nI_clamp (by omega), nI_clamp (by omega)] at this; omega
              · rw [a] at h0
                have := congrArg Int32.toNatClampNeg h0
                rw [nI_clamp (by omega), nI_clamp (by omega)] at this
                have := g c' h
                omega
          · exact Nat.le_refl _
        · rw [if_neg e, f11]
          have hne : ∀ c', eAdd E p u w c p' u' w' c' ↔ E p' u' w' c' := fun c' => ⟨fun h => h.elim id (fun h => absurd (by rw [h.1, h.2.1, h.2.2.1]) e), Or.inl⟩
          rcases hC p' hp' u' hu1 hu2 w' hw' with ⟨a, b⟩ | ⟨c0, a, b, g⟩
          · exact Or.inl ⟨a, fun c' h => b c' ((hne c').mp h)⟩
          · exact Or.inr ⟨c0, a, Or.inl b, fun c' h => g c' ((hne c').mp h)⟩
      · intro t ht
        by_cases e : t = u % 16 * 6 + p
        · subst e
          refine ⟨lo, hi, by omega, hhi2, by rw [g2, if_pos rfl], by rw [g3, if_pos rfl], fun w' hw' hne => ?_⟩
          rw [g1] at hne
          by_cases ew : w' = w
          · subst ew; exact ⟨hlo, hhi⟩
          · rw [if_neg (by omega), f11] at hne
            exact hlh w' hw' hne
        · obtain ⟨lo', hi', a1, a2, a3, a4, a5⟩ := hR t ht
          refine ⟨lo', hi', a1, a2, by rw [g2, if_neg e, f12]; exact a3, by rw [g3, if_neg e, f13]; exact a4, fun w' hw' hne => ?_⟩
          rw [g1, if_neg (by omega), f11] at hne
          exact a5 w' hw' hne
    have L113 : p < 6 → (I (q + 1) ((u % 16 * 6 + p) * 401 + w) = nI 0 ∨ ∃ c0, c0 < 244140625 ∧ I (q + 1) ((u % 16 * 6 + p) * 401 + w) = nI (c0 + 1) ∧ c < c0) → ∀ v5 v6, v5 = nI (u % 16 * 6 + p) → v6 = nI ((u % 16 * 6 + p) * 401 + w) → bl_WP G l d mX3_enter 113 [(6, .int v6), (5, .int v5), (0, .ref q), (1, .int (nI p)), (2, .int (nI u)), (3, .int (nI w)), (4, .int (nI c))] [] (I1, J, R, K, N) (0, 0) (fun o σ' => o = .inl none ∧ ∃ I', σ' = (I', J, R, K, N) ∧ psF I I' q ∧ pIB I' q (eAdd E p u w c) ∧ pIC I' q (eAdd E p u w c) now dn ∧ pIR I' q) := by
      intro hp6 hold v5 v6 hv5 hv6
      subst hv5 hv6
      obtain ⟨lo, hi, a1, a2, a3, a4, a5⟩ := hR (u % 16 * 6 + p) (by omega)
      refine bl_go oX3_enter 80 [50, 113] rfl ?_
      refine ⟨kq, _, bl_vs rq_0, kq1, (by (try dsimp only [bl_pv]); show vp_in _ (N _); rw [nq1]; exact vp_in_nI (by omega) (by omega)), kq, _, bl_vs rq_1, kq, _, bl_vs rq_1, Or.inl ⟨kq2, (by (try dsimp only [bl_pv]); show vp_in _ (N _); rw [nq2]; exact vp_in_nI (by omega) (by omega)), fun h138 => ?_, fun h138 => ?_⟩⟩
      · try simp (disch := omega) only [bl_pv, cl0, cl1, cl2, cl3, cl4, cl5, cl6, cl7, cl8, cl9, bl_up2_at, bl_up2_nk, bl_up2_nx] at h138
        rw [ect, f12, a3] at h138
        have hl : w ≤ lo := by rw [zI_n, zI_n, zI_le (by omega) (by omega) (by omega) (by omega)] at h138; omega
        have hlc : ∀ z : Int32, z = nI w → z = nI (if lo ≤ w then lo else w) := fun z hz => by
          rw [hz]; split
          · congr 1; omega
          · rfl
        refine ⟨kq2, (by (try dsimp only [bl_pv]); show vp_in _ (N _); rw [nq2]; exact vp_in_nI (by omega) (by omega)), kq, _, bl_vs rq_2, kq, _, bl_vs rq_2, Or.inl ⟨kq3, (by (try dsimp only [bl_pv]); show vp_in _ (N _); rw [nq3]; exact vp_in_nI (by omega) (by omega)), fun h167 => ?_, fun h167 => ?_⟩⟩
        · try simp (disch := omega) only [bl_pv, cl0, cl1, cl2, cl3, cl4, cl5, cl6, cl7, cl8, cl9, bl_up2_at, bl_up2_nk, bl_up2_nx] at h167
          rw [ect, f13, a4] at h167
          have hh : hi ≤ w + 1 := by rw [zI_n, zI_le (by omega) (by omega) (by omega) (by omega)] at h167; omega
          have hhc : ∀ z : Int32, z = nI w → z = zI (((if hi ≤ w + 1 then w + 1 else hi : Nat) : Int) - 1) := fun z hz => by
            rw [hz, if_pos hh, zI_n]; congr 1; omega
          refine ⟨kq3, (by (try dsimp only [bl_pv]); show vp_in _ (N _); rw [nq3]; exact vp_in_nI (by omega) (by omega)), ?_⟩
          try show _ ∧ _
          try dsimp only [bl_pv]
          refine ⟨rfl, F hp6 (if lo ≤ w then lo else w) (if hi ≤ w + 1 then w + 1 else hi) (fun w' hw' hne => ?_) (by split <;> omega) (by split <;> omega) (by split <;> omega) hold _ (fun x x1 x2 x3 => ?_) (fun j => ?_) (fun j => ?_) (fun j => ?_)⟩
          · have := a5 w' hw' hne
            refine ⟨?_, ?_⟩
            · split <;> omega
            · split <;> omega
          · rw [bl_up2_ne x3, bl_up2_ne x2, bl_up2_ne x1]
          · rw [bl_up2_ne (by omega), bl_up2_ne (by omega), ecl, nI_1]
            by_cases e : j = (u % 16 * 6 + p) * 401 + w
            · subst e; rw [bl_up2_at, if_pos rfl]
            · rw [bl_up2_nk e, if_neg e]
          · rw [bl_up2_ne (by omega), ect]
            by_cases e : j = u % 16 * 6 + p
            · subst e
              rw [bl_up2_at, if_pos rfl]
              exact hlc _ (by first | rfl | (rw [bl_up2_ne (by omega), f12]; exact a3))
            · rw [bl_up2_nk e, if_neg e, bl_up2_ne (by omega)]
          · rw [ect]
            by_cases e : j = u % 16 * 6 + p
            · subst e
              rw [bl_up2_at, if_pos rfl]
              exact hhc _ (by first | rfl | (rw [bl_up2_ne (by omega), bl_up2_ne (by omega), f13]; exact a4))
            · rw [bl_up2_nk e, if_neg e, bl_up2_ne (by omega), bl_up2_ne (by omega)]
        · try simp (disch := omega) only [bl_pv, cl0, cl1, cl2, cl3, cl4, cl5, cl6, cl7, cl8, cl9, bl_up2_at, bl_up2_nk, bl_up2_nx] at h167
          rw [ect, f13, a4] at h167
          have hh : w + 1 ≤ hi := by rw [zI_n, zI_le (by omega) (by omega) (by omega) (by omega)] at h167; omega
          have hhc : ∀ z : Int32, z = zI ((hi : Int) - 1) → z = zI (((if hi ≤ w + 1 then w + 1 else hi : Nat) : Int) - 1) := fun z hz => by
            rw [hz]; split
            · congr 1; omega
            · rfl
          refine ⟨kq, _, bl_vs rq_2, Or.inl ⟨kq3, (by (try dsimp only [bl_pv]); show vp_in _ (N _); rw [nq3]; exact vp_in_nI (by omega) (by omega)), kq3, (by (try dsimp only [bl_pv]); show vp_in _ (N _); rw [nq3]; exact vp_in_nI (by omega) (by omega)), ?_⟩⟩
          try show _ ∧ _
          try dsimp only [bl_pv]
          refine ⟨rfl, F hp6 (if lo ≤ w then lo else w) (if hi ≤ w + 1 then w + 1 else hi) (fun w' hw' hne => ?_) (by split <;> omega) (by split <;> omega) (by split <;> omega) hold _ (fun x x1 x2 x3 => ?_) (fun j => ?_) (fun j => ?_) (fun j => ?_)⟩
          · have := a5 w' hw' hne
            refine ⟨?_, ?_⟩
            · split <;> omega
            · split <;> omega
          · rw [bl_up2_ne x3, bl_up2_ne x2, bl_up2_ne x1]
          · rw [bl_up2_ne (by omega), bl_up2_ne (by omega), ecl, nI_1]
            by_cases e : j = (u % 16 * 6 + p) * 401 + w
            · subst e; rw [bl_up2_at, if_pos rfl]
            · rw [bl_up2_nk e, if_neg e]
          · rw [bl_up2_ne (by omega), ect]
            by_cases e : j = u % 16 * 6 + p
            · subst e
              rw [bl_up2_at, if_pos rfl]
              exact hlc _ (by first | rfl | (rw [bl_up2_ne (by omega), f12]; exact a3))
            · rw [bl_up2_nk e, if_neg e, bl_up2_ne (by omega)]
          · rw [ect]
            by_cases e : j = u % 16 * 6 + p
            · subst e
              rw [bl_up2_at, if_pos rfl]
              exact hhc _ (by first | rfl | (rw [bl_up2_ne (by omega), bl_up2_ne (by omega), f13]; exact a4))
            · rw [bl_up2_nk e, if_neg e, bl_up2_ne (by omega), bl_up2_ne (by omega)]
      · try simp (disch := omega) only [bl_pv, cl0, cl1, cl2, cl3, cl4, cl5, cl6, cl7, cl8, cl9, bl_up2_at, bl_up2_nk, bl_up2_nx] at h138
        rw [ect, f12, a3] at h138
        have hl : lo ≤ w := by rw [zI_n, zI_n, zI_le (by omega) (by omega) (by omega) (by omega)] at h138; omega
        have hlc : ∀ z : Int32, z = nI lo → z = nI (if lo ≤ w then lo else w) := fun z hz => by
          rw [hz, if_pos hl]
        refine ⟨kq, _, bl_vs rq_1, Or.inl ⟨kq2, (by (try dsimp only [bl_pv]); show vp_in _ (N _); rw [nq2]; exact vp_in_nI (by omega) (by omega)), kq2, (by (try dsimp only [bl_pv]); show vp_in _ (N _); rw [nq2]; exact vp_in_nI (by omega) (by omega)), kq, _, bl_vs rq_2, kq, _, bl_vs rq_2, Or.inl ⟨kq3, (by (try dsimp only [bl_pv]); show vp_in _ (N _); rw [nq3]; exact vp_in_nI (by omega) (by omega)), fun h167 => ?_, fun h167 => ?_⟩⟩⟩
        · try simp (disch := omega) only [bl_pv, cl0, cl1, cl2, cl3, cl4, cl5, cl6, cl7, cl8, cl9, bl_up2_at, bl_up2_nk, bl_up2_nx] at h167
          rw [ect, f13, a4] at h167
          have hh : hi ≤ w + 1 := by rw [zI_n, zI_le (by omega) (by omega) (by omega) (by omega)] at h167; omega
          have hhc : ∀ z : Int32, z = nI w → z = zI (((if hi ≤ w + 1 then w + 1 else hi : Nat) : Int) - 1) := fun z hz => by
            rw [hz, if_pos hh, zI_n]; congr 1; omega
          refine ⟨kq3, (by (try dsimp only [bl_pv]); show vp_in _ (N _); rw [nq3]; exact vp_in_nI (by omega) (by omega)), ?_⟩
          try show _ ∧ _
          try dsimp only [bl_pv]
          refine ⟨rfl, F hp6 (if lo ≤ w then lo else w) (if hi ≤ w + 1 then w + 1 else hi) (fun w' hw' hne => ?_) (by split <;> omega) (by split <;> omega) (by split <;> omega) hold _ (fun x x1 x2 x3 => ?_) (fun j => ?_) (fun j => ?_) (fun j => ?_)⟩
          · have := a5 w' hw' hne
            refine ⟨?_, ?_⟩
            · split <;> omega
            · split <;> omega
          · rw [bl_up2_ne x3, bl_up2_ne x2, bl_up2_ne x1]
          · rw [bl_up2_ne (by omega), bl_up2_ne (by omega), ecl, nI_1]
            by_cases e : j = (u % 16 * 6 + p) * 401 + w
            · subst e; rw [bl_up2_at, if_pos rfl]
            · rw [bl_up2_nk e, if_neg e]
          · rw [bl_up2_ne (by omega), ect]
            by_cases e : j = u % 16 * 6 + p
            · subst e
              rw [bl_up2_at, if_pos rfl]
              exact hlc _ (by first | rfl | (rw [bl_up2_ne (by omega), f12]; exact a3))
            · rw [bl_up2_nk e, if_neg e, bl_up2_ne (by omega)]
          · rw [ect]
            by_cases e : j = u % 16 * 6 + p
            · subst e
              rw [bl_up2_at, if_pos rfl]
              exact hhc _ (by first | rfl | (rw [bl_up2_ne (by omega), bl_up2_ne (by omega), f13]; exact a4))
            · rw [bl_up2_nk e, if_neg e, bl_up2_ne (by omega), bl_up2_ne (by omega)]
        · try simp (disch := omega) only [bl_pv, cl0, cl1, cl2, cl3, cl4, cl5, cl6, cl7, cl8, cl9, bl_up2_at, bl_up2_nk, bl_up2_nx] at h167
          rw [ect, f13, a4] at h167
          have hh : w + 1 ≤ hi := by rw [zI_n, zI_le (by omega) (by omega) (by omega) (by omega)] at h167; omega
          have hhc : ∀ z : Int32, z = zI ((hi : Int) - 1) → z = zI (((if hi ≤ w + 1 then w + 1 else hi : Nat) : Int) - 1) := fun z hz => by
            rw [hz]; split
            · congr 1; omega
            · rfl
          refine ⟨kq, _, bl_vs rq_2, Or.inl ⟨kq3, (by (try dsimp only [bl_pv]); show vp_in _ (N _); rw [nq3]; exact vp_in_nI (by omega) (by omega)), kq3, (by (try dsimp only [bl_pv]); show vp_in _ (N _); rw [nq3]; exact vp_in_nI (by omega) (by omega)), ?_⟩⟩
          try show _ ∧ _
          try dsimp only [bl_pv]
          refine ⟨rfl, F hp6 (if lo ≤ w then lo else w) (if hi ≤ w + 1 then w + 1 else hi) (fun w' hw' hne => ?_) (by split <;> omega) (by split <;> omega) (by split <;> omega) hold _ (fun x x1 x2 x3 => ?_) (fun j => ?_) (fun j => ?_) (fun j => ?_)⟩
          · have := a5 w' hw' hne
            refine ⟨?_, ?_⟩
            · split <;> omega
            · split <;> omega
          · rw [bl_up2_ne x3, bl_up2_ne x2, bl_up2_ne x1]
          · rw [bl_up2_ne (by omega), bl_up2_ne (by omega), ecl, nI_1]
            by_cases e : j = (u % 16 * 6 + p) * 401 + w
            · subst e; rw [bl_up2_at, if_pos rfl]
            · rw [bl_up2_nk e, if_neg e]
          · rw [bl_up2_ne (by omega), ect]
            by_cases e : j = u % 16 * 6 + p
            · subst e
              rw [bl_up2_at, if_pos rfl]
              exact hlc _ (by first | rfl | (rw [bl_up2_ne (by omega), f12]; exact a3))
            · rw [bl_up2_nk e, if_neg e, bl_up2_ne (by omega)]
          · rw [ect]
            by_cases e : j = u % 16 * 6 + p
            · subst e
              rw [bl_up2_at, if_pos rfl]
              exact hhc _ (by first | rfl | (rw [bl_up2_ne (by omega), bl_up2_ne (by omega), f13]; exact a4))
            · rw [bl_up2_nk e, if_neg e, bl_up2_ne (by omega), bl_up2_ne (by omega)]
    refine bl_go oX3_enter 80 [50, 113] rfl ?_
    refine ⟨fun h53 => ?_, fun h53 => ?_⟩
    · try simp (disch := omega) only [zI_n, zI_o, zI_lit, zI_neg, zI_add, zI_sub, zI_mul, zI_lt, zI_le, zI_eq, zI_clamp, zI_in, zI_div, zI_rem, lg_lt0, lg_gt0, lg_eq0, lg_le0, lg_ge0, Int.toNat_natCast, ge_iff_le, gt_iff_lt, List.length_cons, List.length_nil, bl_up2_at, bl_up2_nk, bl_up2_nx] at h53
      try show _ ∧ _
      try dsimp only [bl_pv]
      first
      | (refine ⟨rfl, I1, rfl, hF, hB1, ?_, ?_⟩
         · intro p' hp' u' hu1 hu2 w' hw'
           have hne : ∀ c', eAdd E p u w c p' u' w' c' ↔ E p' u' w' c' := fun c' => ⟨fun h => h.elim id (fun h => absurd h.1 (by omega)), Or.inl⟩
           rw [f11]
           rcases hC p' hp' u' hu1 hu2 w' hw' with ⟨a, b⟩ | ⟨c0, a, b, g⟩
           · exact Or.inl ⟨a, fun c' h => b c' ((hne c').mp h)⟩
           · exact Or.inr ⟨c0, a, Or.inl b, fun c' h => g c' ((hne c').mp h)⟩
         · unfold pIR; rw [f11, f12, f13]; exact hR)
      | (exfalso; omega)
    · try simp (disch := omega) only [zI_n, zI_o, zI_lit, zI_neg, zI_add, zI_sub, zI_mul, zI_lt, zI_le, zI_eq, zI_clamp, zI_in, zI_div, zI_rem, lg_lt0, lg_gt0, lg_eq0, lg_le0, lg_ge0, Int.toNat_natCast, ge_iff_le, gt_iff_lt, List.length_cons, List.length_nil, bl_up2_at, bl_up2_nk, bl_up2_nx] at h53
      refine ⟨fun h57 => ?_, fun h57 => ?_⟩
      · try simp (disch := omega) only [zI_n, zI_o, zI_lit, zI_neg, zI_add, zI_sub, zI_mul, zI_lt, zI_le, zI_eq, zI_clamp, zI_in, zI_div, zI_rem, lg_lt0, lg_gt0, lg_eq0, lg_le0, lg_ge0, Int.toNat_natCast, ge_iff_le, gt_iff_lt, List.length_cons, List.length_nil, bl_up2_at, bl_up2_nk, bl_up2_nx] at h57
        exfalso; omega
      · try simp (disch := omega) only [zI_n, zI_o, zI_lit, zI_neg, zI_add, zI_sub, zI_mul, zI_lt, zI_le, zI_eq, zI_clamp, zI_in, zI_div, zI_rem, lg_lt0, lg_gt0, lg_eq0, lg_le0, lg_ge0, Int.toNat_natCast, ge_iff_le, gt_iff_lt, List.length_cons, List.length_nil, bl_up2_at, bl_up2_nk, bl_up2_nx] at h57
        first
        | (exfalso; first | omega | exact h57 trivial)
        | (refine ⟨fun h64 => ?_, fun h64 => ?_⟩
           · try simp (disch := omega) only [zI_n, zI_o, zI_lit, zI_neg, zI_add, zI_sub, zI_mul, zI_lt, zI_le, zI_eq, zI_clamp, zI_in, zI_div, zI_rem, lg_lt0, lg_gt0, lg_eq0, lg_le0, lg_ge0, Int.toNat_natCast, ge_iff_le, gt_iff_lt, List.length_cons, List.length_nil, bl_up2_at, bl_up2_nk, bl_up2_nx] at h64
             first
             | (exfalso; first | omega | exact h64 trivial)
             | (refine ⟨(by first | decide | (simp (disch := omega) only [zI_n, zI_o, zI_lit, zI_neg, zI_add, zI_sub, zI_mul, zI_lt, zI_le, zI_eq, zI_clamp, zI_in, zI_div, zI_rem, lg_lt0, lg_gt0, lg_eq0, lg_le0, lg_ge0, Int.toNat_natCast, ge_iff_le, gt_iff_lt, List.length_cons, List.length_nil, bl_up2_at, bl_up2_nk, bl_up2_nx] <;> omega)), kq, _, bl_vs rq_0, Or.inl ⟨kq1, (by (try dsimp only [bl_pv]); show vp_in _ (N _); rw [nq1, em, em2]; exact vp_in_nI (by omega) (by omega)), fun h96 => ?_, fun h96 => ?_⟩⟩
                · try simp (disch := omega) only [bl_pv, cl0, cl1, cl2, cl3, cl4, cl5, cl6, cl7, cl8, cl9, bl_up2_at, bl_up2_nk, bl_up2_nx] at h96
                  rw [em, em2, ecl, f11] at h96
                  try dsimp only [bl_pv]
                  refine L113 (by omega) ?_ _ _ em (by rw [em, em2])
                  first
                  | exact Or.inl h96
                  | (rcases hC p (by omega) u huw.1 huw.2 w hw with ⟨a, b⟩ | ⟨c0, a, b, g⟩
                     · exact Or.inl a
                     · have hcc := (hE _ _ _ _ b).2.2
                       refine Or.inr ⟨c0, hcc, a, ?_⟩
                       rw [a, nI_1, zI_n, zI_n, zI_le (by omega) (by omega) (by omega) (by omega)] at h110
                       omega)
                · try simp (disch := omega) only [bl_pv, cl0, cl1, cl2, cl3, cl4, cl5, cl6, cl7, cl8, cl9, bl_up2_at, bl_up2_nk, bl_up2_nx] at h96
                  rw [em, em2, ecl, f11] at h96
                  refine ⟨kq, _, bl_vs rq_0, Or.inl ⟨kq1, (by (try dsimp only [bl_pv]); show vp_in _ (N _); rw [nq1, em, em2]; exact vp_in_nI (by omega) (by omega)), fun h110 => ?_, fun h110 => ?_⟩⟩
                  · try simp (disch := omega) only [bl_pv, cl0, cl1, cl2, cl3, cl4, cl5, cl6, cl7, cl8, cl9, bl_up2_at, bl_up2_nk, bl_up2_nx] at h110
                    rw [em, em2, ecl, f11] at h110
                    try show _ ∧ _
                    try dsimp only [bl_pv]
                    refine ⟨rfl, I1, rfl, hF, hB1, ?_, ?_⟩
                    · intro p' hp' u' hu1 hu2 w' hw'
                      rw [f11]
                      by_cases e : p' = p ∧ u' = u ∧ w' = w
                      · obtain ⟨rfl, rfl, rfl⟩ := e
                        rcases hC p' hp' u' hu1 hu2 w' hw' with ⟨a, b⟩ | ⟨c0, a, b, g⟩
                        · exact absurd a h96
                        · have hcc := (hE _ _ _ _ b).2.2
                          rw [a, nI_1, zI_n, zI_n, zI_le (by omega) (by omega) (by omega) (by omega)] at h110
                          refine Or.inr ⟨c0, a, Or.inl b, ?_⟩
                          rintro c' (h | ⟨-, -, -, rfl⟩)
                          · exact g c' h
                          · omega
                      · have hne : ∀ c', eAdd E p u w c p' u' w' c' ↔ E p' u' w' c' := fun c' => ⟨fun h => h.elim id (fun h => absurd ⟨h.1, h.2.1, h.2.2.1⟩ e), Or.inl⟩
                        rcases hC p' hp' u' hu1 hu2 w' hw' with ⟨a, b⟩ | ⟨c0, a, b, g⟩
                        · exact Or.inl ⟨a, fun c' h => b c' ((hne c').mp h)⟩
                        · exact Or.inr ⟨c0, a, Or.inl b, fun c' h => g c' ((hne c').mp h)⟩
                    · unfold pIR; rw [f11, f12, f13]; exact hR
                  · try simp (disch := omega) only [bl_pv, cl0, cl1, cl2, cl3, cl4, cl5, cl6, cl7, cl8, cl9, bl_up2_at, bl_up2_nk, bl_up2_nx] at h110
                    rw [em, em2, ecl, f11] at h110
                    try dsimp only [bl_pv]
                    refine L113 (by omega) ?_ _ _ em (by rw [em, em2])
                    first
                    | exact Or.inl h96
                    | (rcases hC p (by omega) u huw.1 huw.2 w hw with ⟨a, b⟩ | ⟨c0, a, b, g⟩
                       · exact Or.inl a
                       · have hcc := (hE _ _ _ _ b).2.2
                         refine Or.inr ⟨c0, hcc, a, ?_⟩
                         rw [a, nI_1, zI_n, zI_n, zI_le (by omega) (by omega) (by omega) (by omega)] at h110
                         omega))
           · try simp (disch := omega) only [zI_n, zI_o, zI_lit, zI_neg, zI_add, zI_sub, zI_mul, zI_lt, zI_le, zI_eq, zI_clamp, zI_in, zI_div, zI_rem, lg_lt0, lg_gt0, lg_eq0, lg_le0, lg_ge0, Int.toNat_natCast, ge_iff_le, gt_iff_lt, List.length_cons, List.length_nil, bl_up2_at, bl_up2_nk, bl_up2_nx] at h64
             first
             | (exfalso; first | omega | exact h64 trivial)
             | (try show _ ∧ _
                try dsimp only [bl_pv]
                first
                | (refine ⟨rfl, I1, rfl, hF, hB1, ?_, ?_⟩
                   · intro p' hp' u' hu1 hu2 w' hw'
                     have hne : ∀ c', eAdd E p u w c p' u' w' c' ↔ E p' u' w' c' := fun c' => ⟨fun h => h.elim id (fun h => absurd h.1 (by omega)), Or.inl⟩
                     rw [f11]
                     rcases hC p' hp' u' hu1 hu2 w' hw' with ⟨a, b⟩ | ⟨c0, a, b, g⟩
                     · exact Or.inl ⟨a, fun c' h => b c' ((hne c').mp h)⟩
                     · exact Or.inr ⟨c0, a, Or.inl b, fun c' h => g c' ((hne c').mp h)⟩
                   · unfold pIR; rw [f11, f12, f13]; exact hR)
                | (exfalso; omega)))
  have hB0 : ∀ I1, (∀ x, x ≠ q + 4 → x ≠ q + 5 → I1 x = I x) → (∀ j, j ≠ p → I1 (q + 4) j = I (q + 4) j ∧ I1 (q + 5) j = I (q + 5) j) → (∃ u0 c0, I1 (q + 4) p = nI u0 ∧ I1 (q + 5) p = nI (c0 + 1) ∧ (∃ w0, eAdd E p u w c p u0 w0 c0) ∧ ∀ u' w' c', eAdd E p u w c p u' w' c' → u0 < u' ∨ (u0 = u' ∧ c0 ≤ c')) → bl_WP G l d mX3_enter 50 [(0, .ref q), (1, .int (nI p)), (2, .int (nI u)), (3, .int (nI w)), (4, .int (nI c))] [] (I1, J, R, K, N) (0, 0) (fun o σ' => o = .inl none ∧ ∃ I', σ' = (I', J, R, K, N) ∧ psF I I' q ∧ pIB I' q (eAdd E p u w c) ∧ pIC I' q (eAdd E p u w c) now dn ∧ pIR I' q) := by
    intro I1 g0 g1 g2
    refine L50 I1 (fun x hx => g0 x (by omega) (by omega)) (fun x hx => g0 x (by omega) (by omega)) (fun p' hp' => ?_)
    by_cases e : p' = p
    · subst e; exact Or.inr g2
    · have hne : ∀ u' w' c', eAdd E p u w c p' u' w' c' ↔ E p' u' w' c' := fun u' w' c' => ⟨fun h => h.elim id (fun h => absurd h.1 e), Or.inl⟩
      rw [(g1 p' e).1, (g1 p' e).2]
      rcases hB p' hp' with ⟨a, b, g⟩ | ⟨u0, c0, a, b, ⟨w0, g⟩, h⟩
      · exact Or.inl ⟨a, b, fun u' w' c' h => g u' w' c' ((hne _ _ _).mp h)⟩
      · exact Or.inr ⟨u0, c0, a, b, ⟨w0, Or.inl g⟩, fun u' w' c' h' => h u' w' c' ((hne _ _ _).mp h')⟩
  have hup : ∀ v : Int32, v = nI c + 1 → (∀ u' w' c', E p u' w' c' → u < u' ∨ (u = u' ∧ c ≤ c')) → bl_WP G l d mX3_enter 50 [(0, .ref q), (1, .int (nI p)), (2, .int (nI u)), (3, .int (nI w)), (4, .int (nI c))] [] (bl_up2 (bl_up2 I (q + 4) p (nI u)) (q + 5) p v, J, R, K, N) (0, 0) (fun o σ' => o = .inl none ∧ ∃ I', σ' = (I', J, R, K, N) ∧ psF I I' q ∧ pIB I' q (eAdd E p u w c) ∧ pIC I' q (eAdd E p u w c) now dn ∧ pIR I' q) := by
    intro v hv hmin
    refine hB0 _ (fun x x1 x2 => by rw [bl_up2_ne x2, bl_up2_ne x1]) (fun j hj => by rw [bl_up2_ne (by omega), bl_up2_nk hj, bl_up2_nk hj, bl_up2_ne (by omega)]; exact ⟨rfl, rfl⟩) ⟨u, c, by rw [bl_up2_ne (by omega), bl_up2_at], by rw [bl_up2_at, hv, nI_1], ⟨w, Or.inr ⟨rfl, rfl, rfl, rfl⟩⟩, ?_⟩
    rintro u' w' c' (h | ⟨-, rfl, -, rfl⟩)
    · exact hmin u' w' c' h
    · exact Or.inr ⟨rfl, Nat.le_refl _⟩
  rcases hB p hp with ⟨b4, b5, hno⟩ | ⟨u0, c0, b4, b5, ⟨w0, hE0⟩, hmin⟩
  · skip
    refine bl_go oX3_enter 80 [50, 113] rfl ?_
    refine ⟨kq, _, bl_vs rq_3, Or.inl ⟨kq4, (by first | exact (by rw [nq4]; exact vp_in_nI (by omega) (by omega)) | ((try dsimp only [bl_pv]); show vp_in _ (N _); rw [nq4]; simp (disch := omega) only [b4, b5, zI_n, zI_o, zI_lit, zI_neg, zI_add, zI_sub, zI_mul, zI_lt, zI_le, zI_eq, zI_clamp, zI_in, zI_div, zI_rem, lg_lt0, lg_gt0, lg_eq0, lg_le0, lg_ge0, Int.toNat_natCast, ge_iff_le, gt_iff_lt, List.length_cons, List.length_nil, bl_up2_at, bl_up2_nk, bl_up2_nx] <;> omega)), fun h7 => ?_, fun h7 => ?_⟩⟩
    · try simp (disch := omega) only [b4, b5, zI_n, zI_o, zI_lit, zI_neg, zI_add, zI_sub, zI_mul, zI_lt, zI_le, zI_eq, zI_clamp, zI_in, zI_div, zI_rem, lg_lt0, lg_gt0, lg_eq0, lg_le0, lg_ge0, Int.toNat_natCast, ge_iff_le, gt_iff_lt, List.length_cons, List.length_nil, bl_up2_at, bl_up2_nk, bl_up2_nx] at h7
      refine ⟨kq, _, bl_vs rq_3, kq4, (by first | exact (by rw [nq4]; exact vp_in_nI (by omega) (by omega)) | ((try dsimp only [bl_pv]); show vp_in _ (N _); rw [nq4]; simp (disch := omega) only [b4, b5, zI_n, zI_o, zI_lit, zI_neg, zI_add, zI_sub, zI_mul, zI_lt, zI_le, zI_eq, zI_clamp, zI_in, zI_div, zI_rem, lg_lt0, lg_gt0, lg_eq0, lg_le0, lg_ge0, Int.toNat_natCast, ge_iff_le, gt_iff_lt, List.length_cons, List.length_nil, bl_up2_at, bl_up2_nk, bl_up2_nx] <;> omega)), kq, _, bl_vs rq_4, kq5, (by first | exact (by rw [nq5]; exact vp_in_nI (by omega) (by omega)) | ((try dsimp only [bl_pv]); show vp_in _ (N _); rw [nq5]; simp (disch := omega) only [b4, b5, zI_n, zI_o, zI_lit, zI_neg, zI_add, zI_sub, zI_mul, zI_lt, zI_le, zI_eq, zI_clamp, zI_in, zI_div, zI_rem, lg_lt0, lg_gt0, lg_eq0, lg_le0, lg_ge0, Int.toNat_natCast, ge_iff_le, gt_iff_lt, List.length_cons, List.length_nil, bl_up2_at, bl_up2_nk, bl_up2_nx] <;> omega)), ?_⟩
      try dsimp only [bl_pv]
      rw [ecp]
      exact hup _ rfl (fun u' w' c' h => absurd h (hno u' w' c'))
    · try simp (disch := omega) only [b4, b5, zI_n, zI_o, zI_lit, zI_neg, zI_add, zI_sub, zI_mul, zI_lt, zI_le, zI_eq, zI_clamp, zI_in, zI_div, zI_rem, lg_lt0, lg_gt0, lg_eq0, lg_le0, lg_ge0, Int.toNat_natCast, ge_iff_le, gt_iff_lt, List.length_cons, List.length_nil, bl_up2_at, bl_up2_nk, bl_up2_nx] at h7
      exfalso; omega
  · obtain ⟨hb1, hb2, hb3⟩ := hE _ _ _ _ hE0
    refine bl_go oX3_enter 80 [50, 113] rfl ?_
    refine ⟨kq, _, bl_vs rq_3, Or.inl ⟨kq4, (by first | exact (by rw [nq4]; exact vp_in_nI (by omega) (by omega)) | ((try dsimp only [bl_pv]); show vp_in _ (N _); rw [nq4]; simp (disch := omega) only [b4, b5, zI_n, zI_o, zI_lit, zI_neg, zI_add, zI_sub, zI_mul, zI_lt, zI_le, zI_eq, zI_clamp, zI_in, zI_div, zI_rem, lg_lt0, lg_gt0, lg_eq0, lg_le0, lg_ge0, Int.toNat_natCast, ge_iff_le, gt_iff_lt, List.length_cons, List.length_nil, bl_up2_at, bl_up2_nk, bl_up2_nx] <;> omega)), fun h7 => ?_, fun h7 => ?_⟩⟩
    · try simp (disch := omega) only [b4, b5, zI_n, zI_o, zI_lit, zI_neg, zI_add, zI_sub, zI_mul, zI_lt, zI_le, zI_eq, zI_clamp, zI_in, zI_div, zI_rem, lg_lt0, lg_gt0, lg_eq0, lg_le0, lg_ge0, Int.toNat_natCast, ge_iff_le, gt_iff_lt, List.length_cons, List.length_nil, bl_up2_at, bl_up2_nk, bl_up2_nx] at h7
      refine ⟨kq, _, bl_vs rq_3, kq4, (by first | exact (by rw [nq4]; exact vp_in_nI (by omega) (by omega)) | ((try dsimp only [bl_pv]); show vp_in _ (N _); rw [nq4]; simp (disch := omega) only [b4, b5, zI_n, zI_o, zI_lit, zI_neg, zI_add, zI_sub, zI_mul, zI_lt, zI_le, zI_eq, zI_clamp, zI_in, zI_div, zI_rem, lg_lt0, lg_gt0, lg_eq0, lg_le0, lg_ge0, Int.toNat_natCast, ge_iff_le, gt_iff_lt, List.length_cons, List.length_nil, bl_up2_at, bl_up2_nk, bl_up2_nx] <;> omega)), kq, _, bl_vs rq_4, kq5, (by first | exact (by rw [nq5]; exact vp_in_nI (by omega) (by omega)) | ((try dsimp only [bl_pv]); show vp_in _ (N _); rw [nq5]; simp (disch := omega) only [b4, b5, zI_n, zI_o, zI_lit, zI_neg, zI_add, zI_sub, zI_mul, zI_lt, zI_le, zI_eq, zI_clamp, zI_in, zI_div, zI_rem, lg_lt0, lg_gt0, lg_eq0, lg_le0, lg_ge0, Int.toNat_natCast, ge_iff_le, gt_iff_lt, List.length_cons, List.length_nil, bl_up2_at, bl_up2_nk, bl_up2_nx] <;> omega)), ?_⟩
      try dsimp only [bl_pv]
      first
      | (have hcn : u < u0 ∨ (u = u0 ∧ c < c0) := by omega
         rw [ecp]
         refine hup _ rfl (fun u' w' c' h => ?_)
         have := hmin u' w' c' h
         omega)
      | (have hcn : u0 < u ∨ (u0 = u ∧ c0 ≤ c) := by omega
         refine hB0 I (fun _ _ _ => rfl) (fun _ _ => ⟨rfl, rfl⟩) ⟨u0, c0, b4, b5, ⟨w0, Or.inl hE0⟩, ?_⟩
         rintro u' w' c' (h | ⟨-, rfl, -, rfl⟩)
         · exact hmin u' w' c' h
         · exact hcn)
    · try simp (disch := omega) only [b4, b5, zI_n, zI_o, zI_lit, zI_neg, zI_add, zI_sub, zI_mul, zI_lt, zI_le, zI_eq, zI_clamp, zI_in, zI_div, zI_rem, lg_lt0, lg_gt0, lg_eq0, lg_le0, lg_ge0, Int.toNat_natCast, ge_iff_le, gt_iff_lt, List.length_cons, List.length_nil, bl_up2_at, bl_up2_nk, bl_up2_nx] at h7
      refine ⟨kq, _, bl_vs rq_3, Or.inl ⟨kq4, (by first | exact (by rw [nq4]; exact vp_in_nI (by omega) (by omega)) | ((try dsimp only [bl_pv]); show vp_in _ (N _); rw [nq4]; simp (disch := omega) only [b4, b5, zI_n, zI_o, zI_lit, zI_neg, zI_add, zI_sub, zI_mul, zI_lt, zI_le, zI_eq, zI_clamp, zI_in, zI_div, zI_rem, lg_lt0, lg_gt0, lg_eq0, lg_le0, lg_ge0, Int.toNat_natCast, ge_iff_le, gt_iff_lt, List.length_cons, List.length_nil, bl_up2_at, bl_up2_nk, bl_up2_nx] <;> omega)), fun h17 => ?_, fun h17 => ?_⟩⟩
      · try simp (disch := omega) only [b4, b5, zI_n, zI_o, zI_lit, zI_neg, zI_add, zI_sub, zI_mul, zI_lt, zI_le, zI_eq, zI_clamp, zI_in, zI_div, zI_rem, lg_lt0, lg_gt0, lg_eq0, lg_le0, lg_ge0, Int.toNat_natCast, ge_iff_le, gt_iff_lt, List.length_cons, List.length_nil, bl_up2_at, bl_up2_nk, bl_up2_nx] at h17
        try dsimp only [bl_pv]
        first
        | (have hcn : u < u0 ∨ (u = u0 ∧ c < c0) := by omega
           rw [ecp]
           refine hup _ rfl (fun u' w' c' h => ?_)
           have := hmin u' w' c' h
           omega)
        | (have hcn : u0 < u ∨ (u0 = u ∧ c0 ≤ c) := by omega
           refine hB0 I (fun _ _ _ => rfl) (fun _ _ => ⟨rfl, rfl⟩) ⟨u0, c0, b4, b5, ⟨w0, Or.inl hE0⟩, ?_⟩
           rintro u' w' c' (h | ⟨-, rfl, -, rfl⟩)
           · exact hmin u' w' c' h
           · exact hcn)
      · try simp (disch := omega) only [b4, b5, zI_n, zI_o, zI_lit, zI_neg, zI_add, zI_sub, zI_mul, zI_lt, zI_le, zI_eq, zI_clamp, zI_in, zI_div, zI_rem, lg_lt0, lg_gt0, lg_eq0, lg_le0, lg_ge0, Int.toNat_natCast, ge_iff_le, gt_iff_lt, List.length_cons, List.length_nil, bl_up2_at, bl_up2_nk, bl_up2_nx] at h17
        refine ⟨kq, _, bl_vs rq_4, Or.inl ⟨kq5, (by first | exact (by rw [nq5]; exact vp_in_nI (by omega) (by omega)) | ((try dsimp only [bl_pv]); show vp_in _ (N _); rw [nq5]; simp (disch := omega) only [b4, b5, zI_n, zI_o, zI_lit, zI_neg, zI_add, zI_sub, zI_mul, zI_lt, zI_le, zI_eq, zI_clamp, zI_in, zI_div, zI_rem, lg_lt0, lg_gt0, lg_eq0, lg_le0, lg_ge0, Int.toNat_natCast, ge_iff_le, gt_iff_lt, List.length_cons, List.length_nil, bl_up2_at, bl_up2_nk, bl_up2_nx] <;> omega)), fun h30 => ?_, fun h30 => ?_⟩⟩
        · try simp (disch := omega) only [b4, b5, zI_n, zI_o, zI_lit, zI_neg, zI_add, zI_sub, zI_mul, zI_lt, zI_le, zI_eq, zI_clamp, zI_in, zI_div, zI_rem, lg_lt0, lg_gt0, lg_eq0, lg_le0, lg_ge0, Int.toNat_natCast, ge_iff_le, gt_iff_lt, List.length_cons, List.length_nil, bl_up2_at, bl_up2_nk, bl_up2_nx] at h30
          try dsimp only [bl_pv]
          first
          | (have hcn : u < u0 ∨ (u = u0 ∧ c < c0) := by omega
             rw [ecp]
             refine hup _ rfl (fun u' w' c' h => ?_)
             have := hmin u' w' c' h
             omega)
          | (have hcn : u0 < u ∨ (u0 = u ∧ c0 ≤ c) := by omega
             refine hB0 I (fun _ _ _ => rfl) (fun _ _ => ⟨rfl, rfl⟩) ⟨u0, c0, b4, b5, ⟨w0, Or.inl hE0⟩, ?_⟩
             rintro u' w' c' (h | ⟨-, rfl, -, rfl⟩)
             · exact hmin u' w' c' h
             · exact hcn)
        · try simp (disch := omega) only [b4, b5, zI_n, zI_o, zI_lit, zI_neg, zI_add, zI_sub, zI_mul, zI_lt, zI_le, zI_eq, zI_clamp, zI_in, zI_div, zI_rem, lg_lt0, lg_gt0, lg_eq0, lg_le0, lg_ge0, Int.toNat_natCast, ge_iff_le, gt_iff_lt, List.length_cons, List.length_nil, bl_up2_at, bl_up2_nk, bl_up2_nx] at h30
          refine ⟨kq, _, bl_vs rq_3, kq4, (by first | exact (by rw [nq4]; exact vp_in_nI (by omega) (by omega)) | ((try dsimp only [bl_pv]); show vp_in _ (N _); rw [nq4]; simp (disch := omega) only [b4, b5, zI_n, zI_o, zI_lit, zI_neg, zI_add, zI_sub, zI_mul, zI_lt, zI_le, zI_eq, zI_clamp, zI_in, zI_div, zI_rem, lg_lt0, lg_gt0, lg_eq0, lg_le0, lg_ge0, Int.toNat_natCast, ge_iff_le, gt_iff_lt, List.length_cons, List.length_nil, bl_up2_at, bl_up2_nk, bl_up2_nx] <;> omega)), kq, _, bl_vs rq_4, kq5, (by first | exact (by rw [nq5]; exact vp_in_nI (by omega) (by omega)) | ((try dsimp only [bl_pv]); show vp_in _ (N _); rw [nq5]; simp (disch := omega) only [b4, b5, zI_n, zI_o, zI_lit, zI_neg, zI_add, zI_sub, zI_mul, zI_lt, zI_le, zI_eq, zI_clamp, zI_in, zI_div, zI_rem, lg_lt0, lg_gt0, lg_eq0, lg_le0, lg_ge0, Int.toNat_natCast, ge_iff_le, gt_iff_lt, List.length_cons, List.length_nil, bl_up2_at, bl_up2_nk, bl_up2_nx] <;> omega)), ?_⟩
          try dsimp only [bl_pv]
          first
          | (have hcn : u < u0 ∨ (u = u0 ∧ c < c0) := by omega
             rw [ecp]
             refine hup _ rfl (fun u' w' c' h => ?_)
             have := hmin u' w' c' h
             omega)
          | (have hcn : u0 < u ∨ (u0 = u ∧ c0 ≤ c) := by omega
             refine hB0 I (fun _ _ _ => rfl) (fun _ _ => ⟨rfl, rfl⟩) ⟨u0, c0, b4, b5, ⟨w0, Or.inl hE0⟩, ?_⟩
             rintro u' w' c' (h | ⟨-, rfl, -, rfl⟩)
             · exact hmin u' w' c' h
             · exact hcn)
theorem c_Passes_rollAndFold {p u w c : Nat} {x1 x2 x3 x4 : Int32} (hq : psS R K N q) (hD : psD I q P) (hP : pPok P) (hB : pIB I q E) (hC : pIC I q E now dn) (hR : pIR I q) (hE : pEb E) (hp : p ≤ 5) (hw : w ≤ 400) (hc : c < 244140625) (hu1 : now ≤ u) (hu2 : u ≤ now + 12) (hu3 : now ≤ 120) (h1 : x1 = nI p) (h2 : x2 = nI u) (h3 : x3 = nI w) (h4 : x4 = nI c) : bl_MC G l (d + 1) mX3_rollAndFold [.ref q, .int x1, .int x2, .int x3, .int x4] (I, J, R, K, N) (0, 0) (fun o σ' => o = .inl none ∧ ∃ I' E', σ' = (I', J, R, K, N) ∧ psF I I' q ∧ pIB I' q E' ∧ pIC I' q E' now dn ∧ pIR I' q ∧ pEb E' ∧ ((pss P u w = none ∧ E' = E) ∨ ∃ z, pss P u w = some z ∧ E' = eAdd E (p + 1) (u + 3) z c)) := by
  have hq' := hq
  obtain ⟨hq0, kq, ⟨rq_0, rq_1, rq_2, rq_3, rq_4, rq_5⟩, ⟨kq1, kq2, kq3, kq4, kq5, kq6⟩, ⟨nq1, nq2, nq3, nq4, nq5, nq6⟩⟩ := hq
  obtain ⟨d7, d8, d9, d10, d6⟩ := hD
  obtain ⟨P1, P2, P3, P4, P5⟩ := hP
  subst h1 h2 h3 h4
  have r0 := P5 u
  have r1 := P5 (u + 1)
  have r2 := P5 (u + 2)
  have b1 : tw w (P.2.2.2.2 u) 10 ≤ 400 := tw_le hw r0 (Or.inr rfl)
  have b2 : tw (tw w (P.2.2.2.2 u) 10) (P.2.2.2.2 (u + 1)) 10 ≤ 400 := tw_le b1 r1 (Or.inr rfl)
  have b3 : tw (tw (tw w (P.2.2.2.2 u) 10) (P.2.2.2.2 (u + 1)) 10 + P.2.2.2.1) (P.2.2.2.2 (u + 2)) 10 ≤ 500 := tw_le (by omega) (by omega) (Or.inr rfl)
  have ecu : (nI u).toNatClampNeg = u := nI_clamp (by omega)
  have eu1 : (nI u + 1).toNatClampNeg = u + 1 := by rw [nI_1]; exact nI_clamp (by omega)
  have eu2 : (nI u + 2).toNatClampNeg = u + 2 := by rw [show (2 : Int32) = nI 2 from rfl, nI_add]; exact nI_clamp (by omega)
  have w1 : u ≤ 120 → nI w + (I (q + 6) (nI u).toNatClampNeg - nI w) / 10 = nI (tw w (P.2.2.2.2 u) 10) := fun h => by rw [ecu, d6 u h]; exact tw_I (by omega) (by omega) (Or.inr rfl)
  have w2 : u + 1 ≤ 120 → nI (tw w (P.2.2.2.2 u) 10) + (I (q + 6) (nI u + 1).toNatClampNeg - nI (tw w (P.2.2.2.2 u) 10)) / 10 = nI (tw (tw w (P.2.2.2.2 u) 10) (P.2.2.2.2 (u + 1)) 10) := fun h => by rw [eu1, d6 _ h]; exact tw_I (by omega) (by omega) (Or.inr rfl)
  have w3 : u + 2 ≤ 120 → nI (tw (tw w (P.2.2.2.2 u) 10) (P.2.2.2.2 (u + 1)) 10 + P.2.2.2.1) + (I (q + 6) (nI u + 2).toNatClampNeg - nI (tw (tw w (P.2.2.2.2 u) 10) (P.2.2.2.2 (u + 1)) 10 + P.2.2.2.1)) / 10 = nI (tw (tw (tw w (P.2.2.2.2 u) 10) (P.2.2.2.2 (u + 1)) 10 + P.2.2.2.1) (P.2.2.2.2 (u + 2)) 10) := fun h => by rw [eu2, d6 _ h]; exact tw_I (by omega) (by omega) (Or.inr rfl)
  unfold pss
  generalize tw w (P.2.2.2.2 u) 10 = y1 at *
  generalize tw y1 (P.2.2.2.2 (u + 1)) 10 = y2 at *
  generalize tw (y2 + P.2.2.2.1) (P.2.2.2.2 (u + 2)) 10 = y3 at *
  refine bl_MC_intro (by decide +kernel) rfl (Nat.le_of_ble_eq_true rfl) ?_
  have L113 : ¬ (w < P.2.1 ∨ 120 < u + 3) → ¬ P.2.2.1 < y1 → ¬ (P.2.2.1 < y2 ∨ P.2.2.1 < y2 + P.2.2.2.1) → ∀ v, v = nI y3 → bl_WP G l (d + 1) mX3_rollAndFold 113 [(5, .int v), (0, .ref q), (1, .int (nI p)), (2, .int (nI u)), (4, .int (nI c))] [] (I, J, R, K, N) (0, 0) (fun o σ' => o = .inl none ∧ ∃ I' E', σ' = (I', J, R, K, N) ∧ psF I I' q ∧ pIB I' q E' ∧ pIC I' q E' now dn ∧ pIR I' q ∧ pEb E' ∧ (((if w < P.2.1 ∨ 120 < u + 3 then none else if P.2.2.1 < y1 then none else if P.2.2.1 < y2 ∨ P.2.2.1 < y2 + P.2.2.2.1 then none else if P.2.2.1 < y3 then none else some y3) = none ∧ E' = E) ∨ ∃ z, (if w < P.2.1 ∨ 120 < u + 3 then none else if P.2.2.1 < y1 then none else if P.2.2.1 < y2 ∨ P.2.2.1 < y2 + P.2.2.2.1 then none else if P.2.2.1 < y3 then none else some y3) = some z ∧ E' = eAdd E (p + 1) (u + 3) z c)) := by
    intro n1 n2 n3 v hv
    subst hv
    refine bl_go oX3_rollAndFold 80 [32, 61, 94, 113] rfl ?_
    refine ⟨kq, fun h119 => ?_, fun h119 => ?_⟩
    · try simp (disch := omega) only [d9, zI_n, zI_o, zI_lit, zI_neg, zI_add, zI_sub, zI_mul, zI_lt, zI_le, zI_eq, zI_clamp, zI_in, zI_div, zI_rem, lg_lt0, lg_gt0, lg_eq0, lg_le0, lg_ge0, Int.toNat_natCast, ge_iff_le, gt_iff_lt, List.length_cons, List.length_nil, bl_up2_at, bl_up2_nk, bl_up2_nx] at h119
      first
      | (exfalso; first | omega | exact h119 trivial)
      | (try show _ ∧ _
         try dsimp only [bl_pv]
         first
         | (have hq4 := g4
            exact ⟨rfl, I2, _, rfl, g1, g2, g3, g4, eAdd_b hE (by omega) (by omega) hc, Or.inr ⟨y3, by rw [if_neg n1, if_neg n2, if_neg n3, if_neg (by omega)], rfl⟩⟩)
         | exact ⟨rfl, I, E, rfl, fun _ _ => rfl, hB, hC, hR, hE, Or.inl ⟨by rw [if_neg n1, if_neg n2, if_neg n3, if_pos (by omega)], rfl⟩⟩)
    · try simp (disch := omega) only [d9, zI_n, zI_o, zI_lit, zI_neg, zI_add, zI_sub, zI_mul, zI_lt, zI_le, zI_eq, zI_clamp, zI_in, zI_div, zI_rem, lg_lt0, lg_gt0, lg_eq0, lg_le0, lg_ge0, Int.toNat_natCast, ge_iff_le, gt_iff_lt, List.length_cons, List.length_nil, bl_up2_at, bl_up2_nk, bl_up2_nx] at h119
      first
      | (exfalso; first | omega | exact h119 trivial)
      | (refine ⟨rfl, rfl, kq, (Nat.le_of_ble_eq_true rfl), (0, 0), Nat.le_of_ble_eq_true rfl, Nat.le_of_ble_eq_true rfl, bl_MC_mono (c_Passes_enter (d := d) (p := p + 1) (u := u + 3) (w := y3) (c := c) hq' hB hC hR hE (by omega) (by omega) (by omega) hc (Or.inl ⟨by omega, by omega⟩) (nI_1 p) (by rw [show (3 : Int32) = nI 3 from rfl, nI_add]) rfl rfl) (fun o133 σ133 q133 => ?_)⟩
         try dsimp only [bl_pv] at q133
         obtain ⟨rfl, I2, rfl, g1, g2, g3, g4⟩ := q133
         refine bl_go oX3_rollAndFold 80 [32, 61, 94, 113] rfl ?_
         try show _ ∧ _
         try dsimp only [bl_pv]
         first
         | (have hq4 := g4
            exact ⟨rfl, I2, _, rfl, g1, g2, g3, g4, eAdd_b hE (by omega) (by omega) hc, Or.inr ⟨y3, by rw [if_neg n1, if_neg n2, if_neg n3, if_neg (by omega)], rfl⟩⟩)
         | exact ⟨rfl, I, E, rfl, fun _ _ => rfl, hB, hC, hR, hE, Or.inl ⟨by rw [if_neg n1, if_neg n2, if_neg n3, if_pos (by omega)], rfl⟩⟩)
  have L94 : ¬ (w < P.2.1 ∨ 120 < u + 3) → ¬ P.2.2.1 < y1 → ¬ (P.2.2.1 < y2 ∨ P.2.2.1 < y2 + P.2.2.2.1) → ∀ v, v = nI (y2 + P.2.2.2.1) → bl_WP G l (d + 1) mX3_rollAndFold 94 [(5, .int v), (0, .ref q), (1, .int (nI p)), (2, .int (nI u)), (4, .int (nI c))] [] (I, J, R, K, N) (0, 0) (fun o σ' => o = .inl none ∧ ∃ I' E', σ' = (I', J, R, K, N) ∧ psF I I' q ∧ pIB I' q E' ∧ pIC I' q E' now dn ∧ pIR I' q ∧ pEb E' ∧ (((if w < P.2.1 ∨ 120 < u + 3 then none else if P.2.2.1 < y1 then none else if P.2.2.1 < y2 ∨ P.2.2.1 < y2 + P.2.2.2.1 then none else if P.2.2.1 < y3 then none else some y3) = none ∧ E' = E) ∨ ∃ z, (if w < P.2.1 ∨ 120 < u + 3 then none else if P.2.2.1 < y1 then none else if P.2.2.1 < y2 ∨ P.2.2.1 < y2 + P.2.2.2.1 then none else if P.2.2.1 < y3 then none else some y3) = some z ∧ E' = eAdd E (p + 1) (u + 3) z c)) := by
    intro n1 n2 n3 v hv
    subst hv
    refine bl_go oX3_rollAndFold 80 [32, 61, 94, 113] rfl ?_
    refine ⟨kq, _, bl_vs rq_5, Or.inl ⟨kq6, (by (try dsimp only [bl_pv]); show vp_in _ (N _); rw [nq6, show (2 : Int32) = nI 2 from rfl, nI_add]; exact vp_in_nI (by omega) (by omega)), (by decide), ?_⟩⟩
    try dsimp only [bl_pv]
    exact L113 n1 n2 n3 _ (w3 (by omega))
  have L61 : ¬ (w < P.2.1 ∨ 120 < u + 3) → ¬ P.2.2.1 < y1 → ∀ v, v = nI y2 → bl_WP G l (d + 1) mX3_rollAndFold 61 [(5, .int v), (0, .ref q), (1, .int (nI p)), (2, .int (nI u)), (4, .int (nI c))] [] (I, J, R, K, N) (0, 0) (fun o σ' => o = .inl none ∧ ∃ I' E', σ' = (I', J, R, K, N) ∧ psF I I' q ∧ pIB I' q E' ∧ pIC I' q E' now dn ∧ pIR I' q ∧ pEb E' ∧ (((if w < P.2.1 ∨ 120 < u + 3 then none else if P.2.2.1 < y1 then none else if P.2.2.1 < y2 ∨ P.2.2.1 < y2 + P.2.2.2.1 then none else if P.2.2.1 < y3 then none else some y3) = none ∧ E' = E) ∨ ∃ z, (if w < P.2.1 ∨ 120 < u + 3 then none else if P.2.2.1 < y1 then none else if P.2.2.1 < y2 ∨ P.2.2.1 < y2 + P.2.2.2.1 then none else if P.2.2.1 < y3 then none else some y3) = some z ∧ E' = eAdd E (p + 1) (u + 3) z c)) := by
    intro n1 n2 v hv
    subst hv
    refine bl_go oX3_rollAndFold 80 [32, 61, 94, 113] rfl ?_
    refine ⟨kq, fun h67 => ?_, fun h67 => ?_⟩
    · try simp (disch := omega) only [d9, d10, zI_n, zI_o, zI_lit, zI_neg, zI_add, zI_sub, zI_mul, zI_lt, zI_le, zI_eq, zI_clamp, zI_in, zI_div, zI_rem, lg_lt0, lg_gt0, lg_eq0, lg_le0, lg_ge0, Int.toNat_natCast, ge_iff_le, gt_iff_lt, List.length_cons, List.length_nil, bl_up2_at, bl_up2_nk, bl_up2_nx] at h67
      first
      | (exfalso; first | omega | exact h67 trivial)
      | (try show _ ∧ _
         try dsimp only [bl_pv]
         exact ⟨rfl, I, E, rfl, fun _ _ => rfl, hB, hC, hR, hE, Or.inl ⟨by rw [if_neg n1, if_neg n2, if_pos (by omega)], rfl⟩⟩)
    · try simp (disch := omega) only [d9, d10, zI_n, zI_o, zI_lit, zI_neg, zI_add, zI_sub, zI_mul, zI_lt, zI_le, zI_eq, zI_clamp, zI_in, zI_div, zI_rem, lg_lt0, lg_gt0, lg_eq0, lg_le0, lg_ge0, Int.toNat_natCast, ge_iff_le, gt_iff_lt, List.length_cons, List.length_nil, bl_up2_at, bl_up2_nk, bl_up2_nx] at h67
      first
      | (exfalso; first | omega | exact h67 trivial)
      | (refine ⟨kq, kq, fun h81 => ?_, fun h81 => ?_⟩
         · try simp (disch := omega) only [d9, d10, zI_n, zI_o, zI_lit, zI_neg, zI_add, zI_sub, zI_mul, zI_lt, zI_le, zI_eq, zI_clamp, zI_in, zI_div, zI_rem, lg_lt0, lg_gt0, lg_eq0, lg_le0, lg_ge0, Int.toNat_natCast, ge_iff_le, gt_iff_lt, List.length_cons, List.length_nil, bl_up2_at, bl_up2_nk, bl_up2_nx] at h81
           first
           | (exfalso; first | omega | exact h81 trivial)
           | (refine ⟨kq, ?_⟩
              try dsimp only [bl_pv]
              exact L94 n1 n2 (by omega) _ (by rw [d10, nI_add]))
         · try simp (disch := omega) only [d9, d10, zI_n, zI_o, zI_lit, zI_neg, zI_add, zI_sub, zI_mul, zI_lt, zI_le, zI_eq, zI_clamp, zI_in, zI_div, zI_rem, lg_lt0, lg_gt0, lg_eq0, lg_le0, lg_ge0, Int.toNat_natCast, ge_iff_le, gt_iff_lt, List.length_cons, List.length_nil, bl_up2_at, bl_up2_nk, bl_up2_nx] at h81
           first
           | (exfalso; first | omega | exact h81 trivial)
           | (try show _ ∧ _
              try dsimp only [bl_pv]
              exact ⟨rfl, I, E, rfl, fun _ _ => rfl, hB, hC, hR, hE, Or.inl ⟨by rw [if_neg n1, if_neg n2, if_pos (by omega)], rfl⟩⟩))
  have L32 : ¬ (w < P.2.1 ∨ 120 < u + 3) → ∀ v, v = nI y1 → bl_WP G l (d + 1) mX3_rollAndFold 32 [(5, .int v), (0, .ref q), (1, .int (nI p)), (2, .int (nI u)), (4, .int (nI c))] [] (I, J, R, K, N) (0, 0) (fun o σ' => o = .inl none ∧ ∃ I' E', σ' = (I', J, R, K, N) ∧ psF I I' q ∧ pIB I' q E' ∧ pIC I' q E' now dn ∧ pIR I' q ∧ pEb E' ∧ (((if w < P.2.1 ∨ 120 < u + 3 then none else if P.2.2.1 < y1 then none else if P.2.2.1 < y2 ∨ P.2.2.1 < y2 + P.2.2.2.1 then none else if P.2.2.1 < y3 then none else some y3) = none ∧ E' = E) ∨ ∃ z, (if w < P.2.1 ∨ 120 < u + 3 then none else if P.2.2.1 < y1 then none else if P.2.2.1 < y2 ∨ P.2.2.1 < y2 + P.2.2.2.1 then none else if P.2.2.1 < y3 then none else some y3) = some z ∧ E' = eAdd E (p + 1) (u + 3) z c)) := by
    intro n1 v hv
    subst hv
    refine bl_go oX3_rollAndFold 80 [32, 61, 94, 113] rfl ?_
    refine ⟨kq, fun h38 => ?_, fun h38 => ?_⟩
    · try simp (disch := omega) only [d9, zI_n, zI_o, zI_lit, zI_neg, zI_add, zI_sub, zI_mul, zI_lt, zI_le, zI_eq, zI_clamp, zI_in, zI_div, zI_rem, lg_lt0, lg_gt0, lg_eq0, lg_le0, lg_ge0, Int.toNat_natCast, ge_iff_le, gt_iff_lt, List.length_cons, List.length_nil, bl_up2_at, bl_up2_nk, bl_up2_nx] at h38
      first
      | (exfalso; first | omega | exact h38 trivial)
      | (refine ⟨kq, _, bl_vs rq_5, Or.inl ⟨kq6, (by (try dsimp only [bl_pv]); show vp_in _ (N _); rw [nq6, nI_1]; exact vp_in_nI (by omega) (by omega)), (by decide), ?_⟩⟩
         try dsimp only [bl_pv]
         exact L61 n1 (by omega) _ (w2 (by omega)))
    · try simp (disch := omega) only [d9, zI_n, zI_o, zI_lit, zI_neg, zI_add, zI_sub, zI_mul, zI_lt, zI_le, zI_eq, zI_clamp, zI_in, zI_div, zI_rem, lg_lt0, lg_gt0, lg_eq0, lg_le0, lg_ge0, Int.toNat_natCast, ge_iff_le, gt_iff_lt, List.length_cons, List.length_nil, bl_up2_at, bl_up2_nk, bl_up2_nx] at h38
      first
      | (exfalso; first | omega | exact h38 trivial)
      | (try show _ ∧ _
         try dsimp only [bl_pv]
         exact ⟨rfl, I, E, rfl, fun _ _ => rfl, hB, hC, hR, hE, Or.inl ⟨by rw [if_neg n1, if_pos (by omega)], rfl⟩⟩)
  refine bl_go oX3_rollAndFold 80 [32, 61, 94, 113] rfl ?_
  refine ⟨kq, fun h5 => ?_, fun h5 => ?_⟩
  · try simp (disch := omega) only [d8, zI_n, zI_o, zI_lit, zI_neg, zI_add, zI_sub, zI_mul, zI_lt, zI_le, zI_eq, zI_clamp, zI_in, zI_div, zI_rem, lg_lt0, lg_gt0, lg_eq0, lg_le0, lg_ge0, Int.toNat_natCast, ge_iff_le, gt_iff_lt, List.length_cons, List.length_nil, bl_up2_at, bl_up2_nk, bl_up2_nx] at h5
    first
    | (exfalso; first | omega | exact h5 trivial)
    | (try show _ ∧ _
       try dsimp only [bl_pv]
       exact ⟨rfl, I, E, rfl, fun _ _ => rfl, hB, hC, hR, hE, Or.inl ⟨by rw [if_pos (by omega)], rfl⟩⟩)
  · try simp (disch := omega) only [d8, zI_n, zI_o, zI_lit, zI_neg, zI_add, zI_sub, zI_mul, zI_lt, zI_le, zI_eq, zI_clamp, zI_in, zI_div, zI_rem, lg_lt0, lg_gt0, lg_eq0, lg_le0, lg_ge0, Int.toNat_natCast, ge_iff_le, gt_iff_lt, List.length_cons, List.length_nil, bl_up2_at, bl_up2_nk, bl_up2_nx] at h5
    first
    | (exfalso; first | omega | exact h5 trivial)
    | (refine ⟨fun h13 => ?_, fun h13 => ?_⟩
       · try simp (disch := omega) only [d8, zI_n, zI_o, zI_lit, zI_neg, zI_add, zI_sub, zI_mul, zI_lt, zI_le, zI_eq, zI_clamp, zI_in, zI_div, zI_rem, lg_lt0, lg_gt0, lg_eq0, lg_le0, lg_ge0, Int.toNat_natCast, ge_iff_le, gt_iff_lt, List.length_cons, List.length_nil, bl_up2_at, bl_up2_nk, bl_up2_nx] at h13
         first
         | (exfalso; first | omega | exact h13 trivial)
         | (refine ⟨kq, _, bl_vs rq_5, Or.inl ⟨kq6, (by (try dsimp only [bl_pv]); show vp_in _ (N _); rw [nq6]; exact vp_in_nI (by omega) (by omega)), (by decide), ?_⟩⟩
            refine bl_lv [0, 1, 2, 3, 5] rfl ?_
            try dsimp only [bl_pv]
            exact L32 (by omega) _ (w1 (by omega)))
       · try simp (disch := omega) only [d8, zI_n, zI_o, zI_lit, zI_neg, zI_add, zI_sub, zI_mul, zI_lt, zI_le, zI_eq, zI_clamp, zI_in, zI_div, zI_rem, lg_lt0, lg_gt0, lg_eq0, lg_le0, lg_ge0, Int.toNat_natCast, ge_iff_le, gt_iff_lt, List.length_cons, List.length_nil, bl_up2_at, bl_up2_nk, bl_up2_nx] at h13
         first
         | (exfalso; first | omega | exact h13 trivial)
         | (try show _ ∧ _
            try dsimp only [bl_pv]
            exact ⟨rfl, I, E, rfl, fun _ _ => rfl, hB, hC, hR, hE, Or.inl ⟨by rw [if_pos (by omega)], rfl⟩⟩))
end PASSES
