/-! ===== the law's methods: soonest, fewest, pass ===== -/
/-- what they leave -/
def lwW (s : bl_Mem) (S : cS) (h z E : Nat) (sp : Int32 → Prop) (mk : Prop) (o : bl_Out) (s' : bl_Mem) : Prop := ∃ v : Int32, lwO s S h z E v.toInt64 o s' ∧ (E = 0 → sp v) ∧ (E = 0 → mk → s'.2.2.1 100 10 = some 200)
section LAWR
variable {G : bl_G} {l : Launch} {d : Nat} {I : Nat → Nat → Int32} {J : Nat → Nat → Int64} {R : Nat → Nat → Option Nat} {K N : Nat → Nat} {S : cS} {h z : Nat} {x y w a b : Int32} {c : Int64}
theorem c_L_soonestT (hlt : l.stackTraces = false) (hI : clI (I, J, R, K, N) S h) (hO : csO S) (rx10 : R 100 10 = some 200) (hk : K 920 = 21) (hn : N 920 = 1) (hz : exF (I, J, R, K, N) z) : bl_MC G l (d + 7) mL_soonest [.ref 100, .int x, .int w, .ref 920] (I, J, R, K, N) (2, 12) (lwW (I, J, R, K, N) S h z (swE x w) (fun v => swP (pPk S.1.1 S.2.1 S.1.2.2.2.2) (rn x) w v) (made (rn x))) := by
  have kx : K 100 = 11 := hI.1.1.1
  have hkk : ∀ s1 : bl_Mem, cfF (I, J, R, K, N) s1 → s1.2.2.2.1 920 = 21 ∧ vp_in 0 (s1.2.2.2.2 920) := fun s1 f2 => by
    obtain ⟨-, -, -, a4, a5⟩ := f2 920 (by omega) (by omega)
    refine ⟨a4.trans hk, ?_⟩
    rw [show s1.2.2.2.2 920 = 1 from a5.trans hn]; exact vp_in_nI (n := 0) (by omega) (by omega)
  refine bl_MC_introH (by decide +kernel) (by decide) (by decide +kernel) (Nat.le_of_ble_eq_true rfl) ?_
  refine bl_go oL_soonest 80 [] rfl ?_
  refine ⟨rfl, rfl, kx, (Nat.le_of_ble_eq_true rfl), (2, 12), Nat.le_of_ble_eq_true rfl, Nat.le_of_ble_eq_true rfl, bl_MC_mono (c_BL_soonestT (d := d) hlt hI hO rx10) (fun o s1 q => ?_)⟩
  obtain ⟨f1, f2, f3⟩ := q
  rcases f3 with ⟨e, rfl⟩ | ⟨e, hmk, v, rfl, f4⟩
  · refine bl_cat z (pre := []) (x := (0, 10, 13, 13)) (suf := []) rfl (fun z hz => absurd hz List.not_mem_nil) (by decide) (by decide) cw_13 cc_A (lw_fr f2 hz) ?_
    refine bl_go oL_soonest 80 [] rfl ?_
    refine ⟨(fun h => by cases h), 0, ?_, fun e0 => absurd (e.symm.trans e0) (by decide), fun e0 => absurd (e.symm.trans e0) (by decide)⟩
    rw [e]
    exact lw_ex f1 hO f2 hz (by decide)
  · refine bl_go oL_soonest 80 [] rfl ?_
    refine ⟨(hkk _ f2).1, (hkk _ f2).2, (fun h => by cases h), v, lw_ok f1 hO f2 hz e, fun _ => f4, fun _ q => ?_⟩
    exact hmk q
theorem c_L_soonestN (hlt : l.stackTraces = false) (hI : clI (I, J, R, K, N) S h) (hO : csO S) (rx10 : R 100 10 = none) (hk : K 920 = 21) (hn : N 920 = 1) (hz : exF (I, J, R, K, N) z) : bl_MC G l (d + 7) mL_soonest [.ref 100, .int x, .int w, .ref 920] (I, J, R, K, N) (9, 38847) (lwW (I, J, R, K, N) S h z (swE x w) (fun v => swP (pPk S.1.1 S.2.1 S.1.2.2.2.2) (rn x) w v) (made (rn x))) := by
  have kx : K 100 = 11 := hI.1.1.1
  have hkk : ∀ s1 : bl_Mem, cfF (I, J, R, K, N) s1 → s1.2.2.2.1 920 = 21 ∧ vp_in 0 (s1.2.2.2.2 920) := fun s1 f2 => by
    obtain ⟨-, -, -, a4, a5⟩ := f2 920 (by omega) (by omega)
    refine ⟨a4.trans hk, ?_⟩
    rw [show s1.2.2.2.2 920 = 1 from a5.trans hn]; exact vp_in_nI (n := 0) (by omega) (by omega)
  refine bl_MC_introH (by decide +kernel) (by decide) (by decide +kernel) (Nat.le_of_ble_eq_true rfl) ?_
  refine bl_go oL_soonest 80 [] rfl ?_
  refine ⟨rfl, rfl, kx, (Nat.le_of_ble_eq_true rfl), (9, 38847), Nat.le_of_ble_eq_true rfl, Nat.le_of_ble_eq_true rfl, bl_MC_mono (c_BL_soonestN (d := d) hlt hI hO rx10) (fun o s1 q => ?_)⟩
  obtain ⟨f1, f2, f3⟩ := q
  rcases f3 with ⟨e, rfl⟩ | ⟨e, hmk, v, rfl, f4⟩
  · refine bl_cat z (pre := []) (x := (0, 10, 13, 13)) (suf := []) rfl (fun z hz => absurd hz List.not_mem_nil) (by decide) (by decide) cw_13 cc_A (lw_fr f2 hz) ?_
    refine bl_go oL_soonest 80 [] rfl ?_
    refine ⟨(fun h => by cases h), 0, ?_, fun e0 => absurd (e.symm.trans e0) (by decide), fun e0 => absurd (e.symm.trans e0) (by decide)⟩
    rw [e]
    exact lw_ex f1 hO f2 hz (by decide)
  · refine bl_go oL_soonest 80 [] rfl ?_
    refine ⟨(hkk _ f2).1, (hkk _ f2).2, (fun h => by cases h), v, lw_ok f1 hO f2 hz e, fun _ => f4, fun _ q => ?_⟩
    exact hmk q
theorem c_L_soonestX (hlt : l.stackTraces = false) (hI : clI (I, J, R, K, N) S h) (hO : csO S) (hX : swE x w = 1 ∨ ¬ made (rn x)) (hk : K 920 = 21) (hn : N 920 = 1) (hz : exF (I, J, R, K, N) z) : bl_MC G l (d + 7) mL_soonest [.ref 100, .int x, .int w, .ref 920] (I, J, R, K, N) (2, 12) (lwW (I, J, R, K, N) S h z (swE x w) (fun v => swP (pPk S.1.1 S.2.1 S.1.2.2.2.2) (rn x) w v) (made (rn x))) := by
  have kx : K 100 = 11 := hI.1.1.1
  have hkk : ∀ s1 : bl_Mem, cfF (I, J, R, K, N) s1 → s1.2.2.2.1 920 = 21 ∧ vp_in 0 (s1.2.2.2.2 920) := fun s1 f2 => by
    obtain ⟨-, -, -, a4, a5⟩ := f2 920 (by omega) (by omega)
    refine ⟨a4.trans hk, ?_⟩
    rw [show s1.2.2.2.2 920 = 1 from a5.trans hn]; exact vp_in_nI (n := 0) (by omega) (by omega)
  refine bl_MC_introH (by decide +kernel) (by decide) (by decide +kernel) (Nat.le_of_ble_eq_true rfl) ?_
  refine bl_go oL_soonest 80 [] rfl ?_
  refine ⟨rfl, rfl, kx, (Nat.le_of_ble_eq_true rfl), (2, 12), Nat.le_of_ble_eq_true rfl, Nat.le_of_ble_eq_true rfl, bl_MC_mono (c_BL_soonestX (d := d) (P := (pPk S.1.1 S.2.1 S.1.2.2.2.2)) hlt hX kx) (fun o s1 q => ?_)⟩
  obtain ⟨rfl, f3⟩ := q
  have f1 := hI
  have f2 : cfF (I, J, R, K, N) (I, J, R, K, N) := cfF.refl
  rcases f3 with ⟨e, rfl⟩ | ⟨e, v, rfl, f4⟩
  · refine bl_cat z (pre := []) (x := (0, 10, 13, 13)) (suf := []) rfl (fun z hz => absurd hz List.not_mem_nil) (by decide) (by decide) cw_13 cc_A (lw_fr f2 hz) ?_
    refine bl_go oL_soonest 80 [] rfl ?_
    refine ⟨(fun h => by cases h), 0, ?_, fun e0 => absurd (e.symm.trans e0) (by decide), fun e0 => absurd (e.symm.trans e0) (by decide)⟩
    rw [e]
    exact lw_ex f1 hO f2 hz (by decide)
  · refine bl_go oL_soonest 80 [] rfl ?_
    refine ⟨(hkk _ f2).1, (hkk _ f2).2, (fun h => by cases h), v, lw_ok f1 hO f2 hz e, fun _ => f4, fun _ q => ?_⟩
    exact (absurd q (hX.resolve_left (fun e1 => by rw [e] at e1; exact absurd e1 (by decide))))
theorem c_L_fewestT (hlt : l.stackTraces = false) (hI : clI (I, J, R, K, N) S h) (hO : csO S) (rx10 : R 100 10 = some 200) (hk : K 920 = 21) (hn : N 920 = 1) (hz : exF (I, J, R, K, N) z) : bl_MC G l (d + 7) mL_fewest [.ref 100, .int x, .int w, .ref 920] (I, J, R, K, N) (2, 12) (lwW (I, J, R, K, N) S h z (swE x w) (fun v => swP (pPk S.1.1 S.2.1 S.1.2.2.2.2) (rn x) w v) (made (rn x))) := by
  have kx : K 100 = 11 := hI.1.1.1
  have hkk : ∀ s1 : bl_Mem, cfF (I, J, R, K, N) s1 → s1.2.2.2.1 920 = 21 ∧ vp_in 0 (s1.2.2.2.2 920) := fun s1 f2 => by
    obtain ⟨-, -, -, a4, a5⟩ := f2 920 (by omega) (by omega)
    refine ⟨a4.trans hk, ?_⟩
    rw [show s1.2.2.2.2 920 = 1 from a5.trans hn]; exact vp_in_nI (n := 0) (by omega) (by omega)
  refine bl_MC_introH (by decide +kernel) (by decide) (by decide +kernel) (Nat.le_of_ble_eq_true rfl) ?_
  refine bl_go oL_fewest 80 [] rfl ?_
  refine ⟨rfl, rfl, kx, (Nat.le_of_ble_eq_true rfl), (2, 12), Nat.le_of_ble_eq_true rfl, Nat.le_of_ble_eq_true rfl, bl_MC_mono (c_BL_fewestT (d := d) hlt hI hO rx10) (fun o s1 q => ?_)⟩
  obtain ⟨f1, f2, f3⟩ := q
  rcases f3 with ⟨e, rfl⟩ | ⟨e, hmk, v, rfl, f4⟩
  · refine bl_cat z (pre := []) (x := (0, 10, 13, 13)) (suf := []) rfl (fun z hz => absurd hz List.not_mem_nil) (by decide) (by decide) cw_13 cc_A (lw_fr f2 hz) ?_
    refine bl_go oL_fewest 80 [] rfl ?_
    refine ⟨(fun h => by cases h), 0, ?_, fun e0 => absurd (e.symm.trans e0) (by decide), fun e0 => absurd (e.symm.trans e0) (by decide)⟩
    rw [e]
    exact lw_ex f1 hO f2 hz (by decide)
  · refine bl_go oL_fewest 80 [] rfl ?_
    refine ⟨(hkk _ f2).1, (hkk _ f2).2, (fun h => by cases h), v, lw_ok f1 hO f2 hz e, fun _ => f4, fun _ q => ?_⟩
    exact hmk q
theorem c_L_fewestN (hlt : l.stackTraces = false) (hI : clI (I, J, R, K, N) S h) (hO : csO S) (rx10 : R 100 10 = none) (hk : K 920 = 21) (hn : N 920 = 1) (hz : exF (I, J, R, K, N) z) : bl_MC G l (d + 7) mL_fewest [.ref 100, .int x, .int w, .ref 920] (I, J, R, K, N) (9, 38847) (lwW (I, J, R, K, N) S h z (swE x w) (fun v => swP (pPk S.1.1 S.2.1 S.1.2.2.2.2) (rn x) w v) (made (rn x))) := by
  have kx : K 100 = 11 := hI.1.1.1
  have hkk : ∀ s1 : bl_Mem, cfF (I, J, R, K, N) s1 → s1.2.2.2.1 920 = 21 ∧ vp_in 0 (s1.2.2.2.2 920) := fun s1 f2 => by
    obtain ⟨-, -, -, a4, a5⟩ := f2 920 (by omega) (by omega)
    refine ⟨a4.trans hk, ?_⟩
    rw [show s1.2.2.2.2 920 = 1 from a5.trans hn]; exact vp_in_nI (n := 0) (by omega) (by omega)
  refine bl_MC_introH (by decide +kernel) (by decide) (by decide +kernel) (Nat.le_of_ble_eq_true rfl) ?_
  refine bl_go oL_fewest 80 [] rfl ?_
  refine ⟨rfl, rfl, kx, (Nat.le_of_ble_eq_true rfl), (9, 38847), Nat.le_of_ble_eq_true rfl, Nat.le_of_ble_eq_true rfl, bl_MC_mono (c_BL_fewestN (d := d) hlt hI hO rx10) (fun o s1 q => ?_)⟩
  obtain ⟨f1, f2, f3⟩ := q
  rcases f3 with ⟨e, rfl⟩ | ⟨e, hmk, v, rfl, f4⟩
  · refine bl_cat z (pre := []) (x := (0, 10, 13, 13)) (suf := []) rfl (fun z hz => absurd hz List.not_mem_nil) (by decide) (by decide) cw_13 cc_A (lw_fr f2 hz) ?_
    refine bl_go oL_fewest 80 [] rfl ?_
    refine ⟨(fun h => by cases h), 0, ?_, fun e0 => absurd (e.symm.trans e0) (by decide), fun e0 => absurd (e.symm.trans e0) (by decide)⟩
    rw [e]
    exact lw_ex f1 hO f2 hz (by decide)
  · refine bl_go oL_fewest 80 [] rfl ?_
    refine ⟨(hkk _ f2).1, (hkk _ f2).2, (fun h => by cases h), v, lw_ok f1 hO f2 hz e, fun _ => f4, fun _ q => ?_⟩
    exact hmk q
theorem c_L_fewestX (hlt : l.stackTraces = false) (hI : clI (I, J, R, K, N) S h) (hO : csO S) (hX : swE x w = 1 ∨ ¬ made (rn x)) (hk : K 920 = 21) (hn : N 920 = 1) (hz : exF (I, J, R, K, N) z) : bl_MC G l (d + 7) mL_fewest [.ref 100, .int x, .int w, .ref 920] (I, J, R, K, N) (2, 12) (lwW (I, J, R, K, N) S h z (swE x w) (fun v => swP (pPk S.1.1 S.2.1 S.1.2.2.2.2) (rn x) w v) (made (rn x))) := by
  have kx : K 100 = 11 := hI.1.1.1
  have hkk : ∀ s1 : bl_Mem, cfF (I, J, R, K, N) s1 → s1.2.2.2.1 920 = 21 ∧ vp_in 0 (s1.2.2.2.2 920) := fun s1 f2 => by
    obtain ⟨-, -, -, a4, a5⟩ := f2 920 (by omega) (by omega)
    refine ⟨a4.trans hk, ?_⟩
    rw [show s1.2.2.2.2 920 = 1 from a5.trans hn]; exact vp_in_nI (n := 0) (by omega) (by omega)
  refine bl_MC_introH (by decide +kernel) (by decide) (by decide +kernel) (Nat.le_of_ble_eq_true rfl) ?_
  refine bl_go oL_fewest 80 [] rfl ?_
  refine ⟨rfl, rfl, kx, (Nat.le_of_ble_eq_true rfl), (2, 12), Nat.le_of_ble_eq_true rfl, Nat.le_of_ble_eq_true rfl, bl_MC_mono (c_BL_fewestX (d := d) (P := (pPk S.1.1 S.2.1 S.1.2.2.2.2)) hlt hX kx) (fun o s1 q => ?_)⟩
  obtain ⟨rfl, f3⟩ := q
  have f1 := hI
  have f2 : cfF (I, J, R, K, N) (I, J, R, K, N) := cfF.refl
  rcases f3 with ⟨e, rfl⟩ | ⟨e, v, rfl, f4⟩
  · refine bl_cat z (pre := []) (x := (0, 10, 13, 13)) (suf := []) rfl (fun z hz => absurd hz List.not_mem_nil) (by decide) (by decide) cw_13 cc_A (lw_fr f2 hz) ?_
    refine bl_go oL_fewest 80 [] rfl ?_
    refine ⟨(fun h => by cases h), 0, ?_, fun e0 => absurd (e.symm.trans e0) (by decide), fun e0 => absurd (e.symm.trans e0) (by decide)⟩
    rw [e]
    exact lw_ex f1 hO f2 hz (by decide)
  · refine bl_go oL_fewest 80 [] rfl ?_
    refine ⟨(hkk _ f2).1, (hkk _ f2).2, (fun h => by cases h), v, lw_ok f1 hO f2 hz e, fun _ => f4, fun _ q => ?_⟩
    exact (absurd q (hX.resolve_left (fun e1 => by rw [e] at e1; exact absurd e1 (by decide))))
theorem c_L_passT (hlt : l.stackTraces = false) (hI : clI (I, J, R, K, N) S h) (hO : csO S) (rx10 : R 100 10 = some 200) (hk : K 920 = 21) (hn : N 920 = 1) (hz : exF (I, J, R, K, N) z) : bl_MC G l (d + 7) mL_pass [.ref 100, .int x, .int y, .ref 920] (I, J, R, K, N) (2, 12) (lwW (I, J, R, K, N) S h z (psE' x) (fun v => psP (pPk S.1.1 S.2.1 S.1.2.2.2.2) (rn x) y v) (made (rn x))) := by
  have kx : K 100 = 11 := hI.1.1.1
  have hkk : ∀ s1 : bl_Mem, cfF (I, J, R, K, N) s1 → s1.2.2.2.1 920 = 21 ∧ vp_in 0 (s1.2.2.2.2 920) := fun s1 f2 => by
    obtain ⟨-, -, -, a4, a5⟩ := f2 920 (by omega) (by omega)
    refine ⟨a4.trans hk, ?_⟩
    rw [show s1.2.2.2.2 920 = 1 from a5.trans hn]; exact vp_in_nI (n := 0) (by omega) (by omega)
  refine bl_MC_introH (by decide +kernel) (by decide) (by decide +kernel) (Nat.le_of_ble_eq_true rfl) ?_
  refine bl_go oL_pass 80 [] rfl ?_
  refine ⟨rfl, rfl, kx, (Nat.le_of_ble_eq_true rfl), (2, 12), Nat.le_of_ble_eq_true rfl, Nat.le_of_ble_eq_true rfl, bl_MC_mono (c_BL_passT (d := d) hlt hI hO rx10) (fun o s1 q => ?_)⟩
  obtain ⟨f1, f2, f3⟩ := q
  rcases f3 with ⟨e, rfl⟩ | ⟨e, hmk, v, rfl, f4⟩
  · refine bl_cat z (pre := []) (x := (0, 10, 13, 13)) (suf := []) rfl (fun z hz => absurd hz List.not_mem_nil) (by decide) (by decide) cw_13 cc_A (lw_fr f2 hz) ?_
    refine bl_go oL_pass 80 [] rfl ?_
    refine ⟨(fun h => by cases h), 0, ?_, fun e0 => absurd (e.symm.trans e0) (by decide), fun e0 => absurd (e.symm.trans e0) (by decide)⟩
    rw [e]
    exact lw_ex f1 hO f2 hz (by decide)
  · refine bl_go oL_pass 80 [] rfl ?_
    refine ⟨(hkk _ f2).1, (hkk _ f2).2, (fun h => by cases h), v, lw_ok f1 hO f2 hz e, fun _ => f4, fun _ q => ?_⟩
    exact hmk q
theorem c_L_passN (hlt : l.stackTraces = false) (hI : clI (I, J, R, K, N) S h) (hO : csO S) (rx10 : R 100 10 = none) (hk : K 920 = 21) (hn : N 920 = 1) (hz : exF (I, J, R, K, N) z) : bl_MC G l (d + 7) mL_pass [.ref 100, .int x, .int y, .ref 920] (I, J, R, K, N) (9, 38847) (lwW (I, J, R, K, N) S h z (psE' x) (fun v => psP (pPk S.1.1 S.2.1 S.1.2.2.2.2) (rn x) y v) (made (rn x))) := by
  have kx : K 100 = 11 := hI.1.1.1
  have hkk : ∀ s1 : bl_Mem, cfF (I, J, R, K, N) s1 → s1.2.2.2.1 920 = 21 ∧ vp_in 0 (s1.2.2.2.2 920) := fun s1 f2 => by
    obtain ⟨-, -, -, a4, a5⟩ := f2 920 (by omega) (by omega)
    refine ⟨a4.trans hk, ?_⟩
    rw [show s1.2.2.2.2 920 = 1 from a5.trans hn]; exact vp_in_nI (n := 0) (by omega) (by omega)
  refine bl_MC_introH (by decide +kernel) (by decide) (by decide +kernel) (Nat.le_of_ble_eq_true rfl) ?_
  refine bl_go oL_pass 80 [] rfl ?_
  refine ⟨rfl, rfl, kx, (Nat.le_of_ble_eq_true rfl), (9, 38847), Nat.le_of_ble_eq_true rfl, Nat.le_of_ble_eq_true rfl, bl_MC_mono (c_BL_passN (d := d) hlt hI hO rx10) (fun o s1 q => ?_)⟩
  obtain ⟨f1, f2, f3⟩ := q
  rcases f3 with ⟨e, rfl⟩ | ⟨e, hmk, v, rfl, f4⟩
  · refine bl_cat z (pre := []) (x := (0, 10, 13, 13)) (suf := []) rfl (fun z hz => absurd hz List.not_mem_nil) (by decide) (by decide) cw_13 cc_A (lw_fr f2 hz) ?_
    refine bl_go oL_pass 80 [] rfl ?_
    refine ⟨(fun h => by cases h), 0, ?_, fun e0 => absurd (e.symm.trans e0) (by decide), fun e0 => absurd (e.symm.trans e0) (by decide)⟩
    rw [e]
    exact lw_ex f1 hO f2 hz (by decide)
  · refine bl_go oL_pass 80 [] rfl ?_
    refine ⟨(hkk _ f2).1, (hkk _ f2).2, (fun h => by cases h), v, lw_ok f1 hO f2 hz e, fun _ => f4, fun _ q => ?_⟩
    exact hmk q
theorem c_L_passX (hlt : l.stackTraces = false) (hI : clI (I, J, R, K, N) S h) (hO : csO S) (hX : psE' x = 1 ∨ ¬ made (rn x)) (hk : K 920 = 21) (hn : N 920 = 1) (hz : exF (I, J, R, K, N) z) : bl_MC G l (d + 7) mL_pass [.ref 100, .int x, .int y, .ref 920] (I, J, R, K, N) (2, 12) (lwW (I, J, R, K, N) S h z (psE' x) (fun v => psP (pPk S.1.1 S.2.1 S.1.2.2.2.2) (rn x) y v) (made (rn x))) := by
  have kx : K 100 = 11 := hI.1.1.1
  have hkk : ∀ s1 : bl_Mem, cfF (I, J, R, K, N) s1 → s1.2.2.2.1 920 = 21 ∧ vp_in 0 (s1.2.2.2.2 920) := fun s1 f2 => by
    obtain ⟨-, -, -, a4, a5⟩ := f2 920 (by omega) (by omega)
    refine ⟨a4.trans hk, ?_⟩
    rw [show s1.2.2.2.2 920 = 1 from a5.trans hn]; exact vp_in_nI (n := 0) (by omega) (by omega)
  refine bl_MC_introH (by decide +kernel) (by decide) (by decide +kernel) (Nat.le_of_ble_eq_true rfl) ?_
  refine bl_go oL_pass 80 [] rfl ?_
  refine ⟨rfl, rfl, kx, (Nat.le_of_ble_eq_true rfl), (2, 12), Nat.le_of_ble_eq_true rfl, Nat.le_of_ble_eq_true rfl, bl_MC_mono (c_BL_passX (d := d) (P := (pPk S.1.1 S.2.1 S.1.2.2.2.2)) hlt hX kx) (fun o s1 q => ?_)⟩
  obtain ⟨rfl, f3⟩ := q
  have f1 := hI
  have f2 : cfF (I, J, R, K, N) (I, J, R, K, N) := cfF.refl
  rcases f3 with ⟨e, rfl⟩ | ⟨e, v, rfl, f4⟩
  · refine bl_cat z (pre := []) (x := (0, 10, 13, 13)) (suf := []) rfl (fun z hz => absurd hz List.not_mem_nil) (by decide) (by decide) cw_13 cc_A (lw_fr f2 hz) ?_
    refine bl_go oL_pass 80 [] rfl ?_
    refine ⟨(fun h => by cases h), 0, ?_, fun e0 => absurd (e.symm.trans e0) (by decide), fun e0 => absurd (e.symm.trans e0) (by decide)⟩
    rw [e]
    exact lw_ex f1 hO f2 hz (by decide)
  · refine bl_go oL_pass 80 [] rfl ?_
    refine ⟨(hkk _ f2).1, (hkk _ f2).2, (fun h => by cases h), v, lw_ok f1 hO f2 hz e, fun _ => f4, fun _ q => ?_⟩
    exact (absurd q (hX.resolve_left (fun e1 => by rw [e] at e1; exact absurd e1 (by decide))))
end LAWR
