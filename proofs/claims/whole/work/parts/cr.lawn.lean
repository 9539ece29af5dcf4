/-! ===== the law's methods that ask ===== -/
section LAWN
variable {G : bl_G} {l : Launch} {d : Nat} {I : Nat → Nat → Int32} {J : Nat → Nat → Int64} {R : Nat → Nat → Option Nat} {K N : Nat → Nat} {S : cS} {h z : Nat} {x y w a b : Int32} {c : Int64}
theorem c_L_steps (hlt : l.stackTraces = false) (hI : clI (I, J, R, K, N) S h) (hO : csO S) (hk : K 920 = 21) (hn : N 920 = 1) (hz : exF (I, J, R, K, N) z) : bl_MC G l (d + 7) mL_steps [.ref 100, .int x, .int w, .ref 920] (I, J, R, K, N) (3, 18) (lwO (I, J, R, K, N) S h z (stsE S.1 x w) (if w = 0 then nI (S.1.2.2.2.1 (rn x)).1 else nI (aD S.1 (rn x))).toInt64) := by
  have kx : K 100 = 11 := hI.1.1.1
  refine bl_MC_introH (by decide +kernel) (by decide) (by decide +kernel) (Nat.le_of_ble_eq_true rfl) ?_
  refine bl_go oL_steps 80 [] rfl ?_
  refine ⟨rfl, rfl, kx, (Nat.le_of_ble_eq_true rfl), (3, 18), Nat.le_of_ble_eq_true rfl, Nat.le_of_ble_eq_true rfl, bl_MC_mono (c_BL_steps (d := d) hlt hI hO) (fun o s1 q => ?_)⟩
  obtain ⟨I1, J1, R1, rfl, f1, f2, f3⟩ := q
  rcases f3 with ⟨e, rfl⟩ | ⟨e, ce, e1, e2, rfl⟩
  · refine bl_go oL_steps 80 [] rfl ?_
    refine ⟨hk, ?_, (fun h => by cases h), ?_⟩
    · show vp_in 0 (N 920); rw [hn]; exact vp_in_nI (n := 0) (by omega) (by omega)
    · exact lw_ok f1 hO f2 hz e
  · skip
    rcases e with _ | _ | e
    · cases e2
      refine bl_cat z (pre := []) (x := (0, 10, 13, 28)) (suf := [(0, 10, 17, 13)]) rfl (fun z hz => absurd hz List.not_mem_nil) (by decide) (by decide) cw_28 cc_N (lw_fr f2 hz) ?_
      refine bl_go oL_steps 80 [] rfl ?_
      refine ⟨(fun h => by cases h), ?_⟩
      rw [e1]
      exact lw_ex f1 hO f2 hz (by decide)
    · cases e2
      refine bl_cat z (pre := [(0, 10, 13, 28)]) (x := (0, 10, 17, 13)) (suf := []) rfl (fun q hq => ?_) (by decide) (by decide) cw_13 cc_A (lw_fr f2 hz) ?_
      · rw [List.mem_singleton.mp hq]; exact ⟨by decide, _, cw_28, nc_AN⟩
      · refine bl_go oL_steps 80 [] rfl ?_
        refine ⟨(fun h => by cases h), ?_⟩
        rw [e1]
        exact lw_ex f1 hO f2 hz (by decide)
    · cases e2
theorem c_L_behind (hlt : l.stackTraces = false) (hI : clI (I, J, R, K, N) S h) (hO : csO S) (hk : K 920 = 21) (hn : N 920 = 1) (hz : exF (I, J, R, K, N) z) : bl_MC G l (d + 7) mL_behind [.ref 100, .int x, .int y, .int w, .ref 920] (I, J, R, K, N) (5, 30) (lwO (I, J, R, K, N) S h z (askW S.1 x y w 3) (if w = 0 then nI (aSl S.1 (rn x) (rn y)).1.1 else if w = 1 then nI (aSl S.1 (rn x) (rn y)).2.1.1 else if w = 2 then nI (fwU (S.1.2.2.2.1 (rn x)) S.1.2.2.2.2 (rn y)) - nI S.1.2.2.2.2 else fwW S.1.1 S.1.2.1 (S.1.2.2.2.1 (rn x)) S.1.2.2.2.2 (rn y)).toInt64) := by
  have kx : K 100 = 11 := hI.1.1.1
  refine bl_MC_introH (by decide +kernel) (by decide) (by decide +kernel) (Nat.le_of_ble_eq_true rfl) ?_
  refine bl_go oL_behind 80 [] rfl ?_
  refine ⟨rfl, rfl, kx, (Nat.le_of_ble_eq_true rfl), (5, 30), Nat.le_of_ble_eq_true rfl, Nat.le_of_ble_eq_true rfl, bl_MC_mono (c_BL_behind (d := d) hlt hI hO) (fun o s1 q => ?_)⟩
  obtain ⟨I1, J1, R1, rfl, f1, f2, f3⟩ := q
  rcases f3 with ⟨e, rfl⟩ | ⟨e, ce, e1, e2, rfl⟩
  · refine bl_go oL_behind 80 [] rfl ?_
    refine ⟨hk, ?_, (fun h => by cases h), ?_⟩
    · show vp_in 0 (N 920); rw [hn]; exact vp_in_nI (n := 0) (by omega) (by omega)
    · exact lw_ok f1 hO f2 hz e
  · skip
    rcases e with _ | _ | _ | e
    · cases e2
      refine bl_cat z (pre := []) (x := (0, 12, 15, 28)) (suf := [(0, 12, 19, 30), (0, 12, 23, 13)]) rfl (fun z hz => absurd hz List.not_mem_nil) (by decide) (by decide) cw_28 cc_N (lw_fr f2 hz) ?_
      refine bl_go oL_behind 80 [] rfl ?_
      refine ⟨(fun h => by cases h), ?_⟩
      rw [e1]
      exact lw_ex f1 hO f2 hz (by decide)
    · cases e2
      refine bl_cat z (pre := [(0, 12, 15, 28)]) (x := (0, 12, 19, 30)) (suf := [(0, 12, 23, 13)]) rfl (fun q hq => ?_) (by decide) (by decide) cw_30 cc_O (lw_fr f2 hz) ?_
      · rw [List.mem_singleton.mp hq]; exact ⟨by decide, _, cw_28, nc_ON⟩
      · refine bl_go oL_behind 80 [] rfl ?_
        refine ⟨(fun h => by cases h), ?_⟩
        rw [e1]
        exact lw_ex f1 hO f2 hz (by decide)
    · cases e2
      refine bl_cat z (pre := [(0, 12, 15, 28), (0, 12, 19, 30)]) (x := (0, 12, 23, 13)) (suf := []) rfl (fun q hq => ?_) (by decide) (by decide) cw_13 cc_A (lw_fr f2 hz) ?_
      · rcases List.mem_cons.mp hq with e | e
        · rw [e]; exact ⟨by decide, _, cw_28, nc_AN⟩
        · rw [List.mem_singleton.mp e]; exact ⟨by decide, _, cw_30, nc_AO⟩
      · refine bl_go oL_behind 80 [] rfl ?_
        refine ⟨(fun h => by cases h), ?_⟩
        rw [e1]
        exact lw_ex f1 hO f2 hz (by decide)
    · cases e2
theorem c_L_leaf (hlt : l.stackTraces = false) (hI : clI (I, J, R, K, N) S h) (hO : csO S) (hk : K 920 = 21) (hn : N 920 = 1) (hz : exF (I, J, R, K, N) z) : bl_MC G l (d + 7) mL_leaf [.ref 100, .int x, .int y, .int a, .int b, .int w, .ref 920] (I, J, R, K, N) (4, 24) (lwO (I, J, R, K, N) S h z (askC S.1 x y a b w 4) (lfv (aSl S.1 (rn x) (rn y)) (rn a) (rn b) w)) := by
  have kx : K 100 = 11 := hI.1.1.1
  refine bl_MC_introH (by decide +kernel) (by decide) (by decide +kernel) (Nat.le_of_ble_eq_true rfl) ?_
  refine bl_go oL_leaf 80 [] rfl ?_
  refine ⟨rfl, rfl, kx, (Nat.le_of_ble_eq_true rfl), (4, 24), Nat.le_of_ble_eq_true rfl, Nat.le_of_ble_eq_true rfl, bl_MC_mono (c_BL_leaf (d := d) hlt hI hO) (fun o s1 q => ?_)⟩
  obtain ⟨I1, J1, R1, rfl, f1, f2, f3⟩ := q
  rcases f3 with ⟨e, rfl⟩ | ⟨e, ce, e1, e2, rfl⟩
  · refine bl_go oL_leaf 80 [] rfl ?_
    refine ⟨hk, ?_, (fun h => by cases h), ?_⟩
    · show vp_in 0 (N 920); rw [hn]; exact vp_in_nI (n := 0) (by omega) (by omega)
    · exact lw_ok f1 hO f2 hz e
  · skip
    rcases e with _ | _ | _ | e
    · cases e2
      refine bl_cat z (pre := []) (x := (0, 15, 18, 28)) (suf := [(0, 15, 22, 30), (0, 15, 26, 13)]) rfl (fun z hz => absurd hz List.not_mem_nil) (by decide) (by decide) cw_28 cc_N (lw_fr f2 hz) ?_
      refine bl_go oL_leaf 80 [] rfl ?_
      refine ⟨(fun h => by cases h), ?_⟩
      rw [e1]
      exact lw_ex f1 hO f2 hz (by decide)
    · cases e2
      refine bl_cat z (pre := [(0, 15, 18, 28)]) (x := (0, 15, 22, 30)) (suf := [(0, 15, 26, 13)]) rfl (fun q hq => ?_) (by decide) (by decide) cw_30 cc_O (lw_fr f2 hz) ?_
      · rw [List.mem_singleton.mp hq]; exact ⟨by decide, _, cw_28, nc_ON⟩
      · refine bl_go oL_leaf 80 [] rfl ?_
        refine ⟨(fun h => by cases h), ?_⟩
        rw [e1]
        exact lw_ex f1 hO f2 hz (by decide)
    · cases e2
      refine bl_cat z (pre := [(0, 15, 18, 28), (0, 15, 22, 30)]) (x := (0, 15, 26, 13)) (suf := []) rfl (fun q hq => ?_) (by decide) (by decide) cw_13 cc_A (lw_fr f2 hz) ?_
      · rcases List.mem_cons.mp hq with e | e
        · rw [e]; exact ⟨by decide, _, cw_28, nc_AN⟩
        · rw [List.mem_singleton.mp e]; exact ⟨by decide, _, cw_30, nc_AO⟩
      · refine bl_go oL_leaf 80 [] rfl ?_
        refine ⟨(fun h => by cases h), ?_⟩
        rw [e1]
        exact lw_ex f1 hO f2 hz (by decide)
    · cases e2
theorem c_L_most (hlt : l.stackTraces = false) (hI : clI (I, J, R, K, N) S h) (hO : csO S) (hk : K 920 = 21) (hn : N 920 = 1) (hz : exF (I, J, R, K, N) z) : bl_MC G l (d + 7) mL_most [.ref 100, .int x, .int y, .int w, .ref 920] (I, J, R, K, N) (3, 18) (lwO (I, J, R, K, N) S h z (askW S.1 x y w 2) (mxV (aSl S.1 (rn x) (rn y)) w)) := by
  have kx : K 100 = 11 := hI.1.1.1
  refine bl_MC_introH (by decide +kernel) (by decide) (by decide +kernel) (Nat.le_of_ble_eq_true rfl) ?_
  refine bl_go oL_most 80 [] rfl ?_
  refine ⟨rfl, rfl, kx, (Nat.le_of_ble_eq_true rfl), (3, 18), Nat.le_of_ble_eq_true rfl, Nat.le_of_ble_eq_true rfl, bl_MC_mono (c_BL_most (d := d) hlt hI hO) (fun o s1 q => ?_)⟩
  obtain ⟨I1, J1, R1, rfl, f1, f2, f3⟩ := q
  rcases f3 with ⟨e, rfl⟩ | ⟨e, ce, e1, e2, rfl⟩
  · refine bl_go oL_most 80 [] rfl ?_
    refine ⟨hk, ?_, (fun h => by cases h), ?_⟩
    · show vp_in 0 (N 920); rw [hn]; exact vp_in_nI (n := 0) (by omega) (by omega)
    · exact lw_ok f1 hO f2 hz e
  · skip
    rcases e with _ | _ | _ | e
    · cases e2
      refine bl_cat z (pre := []) (x := (0, 11, 14, 28)) (suf := [(0, 11, 18, 30), (0, 11, 22, 13)]) rfl (fun z hz => absurd hz List.not_mem_nil) (by decide) (by decide) cw_28 cc_N (lw_fr f2 hz) ?_
      refine bl_go oL_most 80 [] rfl ?_
      refine ⟨(fun h => by cases h), ?_⟩
      rw [e1]
      exact lw_ex f1 hO f2 hz (by decide)
    · cases e2
      refine bl_cat z (pre := [(0, 11, 14, 28)]) (x := (0, 11, 18, 30)) (suf := [(0, 11, 22, 13)]) rfl (fun q hq => ?_) (by decide) (by decide) cw_30 cc_O (lw_fr f2 hz) ?_
      · rw [List.mem_singleton.mp hq]; exact ⟨by decide, _, cw_28, nc_ON⟩
      · refine bl_go oL_most 80 [] rfl ?_
        refine ⟨(fun h => by cases h), ?_⟩
        rw [e1]
        exact lw_ex f1 hO f2 hz (by decide)
    · cases e2
      refine bl_cat z (pre := [(0, 11, 14, 28), (0, 11, 18, 30)]) (x := (0, 11, 22, 13)) (suf := []) rfl (fun q hq => ?_) (by decide) (by decide) cw_13 cc_A (lw_fr f2 hz) ?_
      · rcases List.mem_cons.mp hq with e | e
        · rw [e]; exact ⟨by decide, _, cw_28, nc_AN⟩
        · rw [List.mem_singleton.mp e]; exact ⟨by decide, _, cw_30, nc_AO⟩
      · refine bl_go oL_most 80 [] rfl ?_
        refine ⟨(fun h => by cases h), ?_⟩
        rw [e1]
        exact lw_ex f1 hO f2 hz (by decide)
    · cases e2
theorem c_L_least (hlt : l.stackTraces = false) (hI : clI (I, J, R, K, N) S h) (hO : csO S) (hk : K 920 = 21) (hn : N 920 = 1) (hz : exF (I, J, R, K, N) z) : bl_MC G l (d + 7) mL_least [.ref 100, .int x, .int y, .int w, .ref 920] (I, J, R, K, N) (3, 18) (lwO (I, J, R, K, N) S h z (askW S.1 x y w 2) (mnV (aSl S.1 (rn x) (rn y)) w)) := by
  have kx : K 100 = 11 := hI.1.1.1
  refine bl_MC_introH (by decide +kernel) (by decide) (by decide +kernel) (Nat.le_of_ble_eq_true rfl) ?_
  refine bl_go oL_least 80 [] rfl ?_
  refine ⟨rfl, rfl, kx, (Nat.le_of_ble_eq_true rfl), (3, 18), Nat.le_of_ble_eq_true rfl, Nat.le_of_ble_eq_true rfl, bl_MC_mono (c_BL_least (d := d) hlt hI hO) (fun o s1 q => ?_)⟩
  obtain ⟨I1, J1, R1, rfl, f1, f2, f3⟩ := q
  rcases f3 with ⟨e, rfl⟩ | ⟨e, ce, e1, e2, rfl⟩
  · refine bl_go oL_least 80 [] rfl ?_
    refine ⟨hk, ?_, (fun h => by cases h), ?_⟩
    · show vp_in 0 (N 920); rw [hn]; exact vp_in_nI (n := 0) (by omega) (by omega)
    · exact lw_ok f1 hO f2 hz e
  · skip
    rcases e with _ | _ | _ | e
    · cases e2
      refine bl_cat z (pre := []) (x := (0, 11, 14, 28)) (suf := [(0, 11, 18, 30), (0, 11, 22, 13)]) rfl (fun z hz => absurd hz List.not_mem_nil) (by decide) (by decide) cw_28 cc_N (lw_fr f2 hz) ?_
      refine bl_go oL_least 80 [] rfl ?_
      refine ⟨(fun h => by cases h), ?_⟩
      rw [e1]
      exact lw_ex f1 hO f2 hz (by decide)
    · cases e2
      refine bl_cat z (pre := [(0, 11, 14, 28)]) (x := (0, 11, 18, 30)) (suf := [(0, 11, 22, 13)]) rfl (fun q hq => ?_) (by decide) (by decide) cw_30 cc_O (lw_fr f2 hz) ?_
      · rw [List.mem_singleton.mp hq]; exact ⟨by decide, _, cw_28, nc_ON⟩
      · refine bl_go oL_least 80 [] rfl ?_
        refine ⟨(fun h => by cases h), ?_⟩
        rw [e1]
        exact lw_ex f1 hO f2 hz (by decide)
    · cases e2
      refine bl_cat z (pre := [(0, 11, 14, 28), (0, 11, 18, 30)]) (x := (0, 11, 22, 13)) (suf := []) rfl (fun q hq => ?_) (by decide) (by decide) cw_13 cc_A (lw_fr f2 hz) ?_
      · rcases List.mem_cons.mp hq with e | e
        · rw [e]; exact ⟨by decide, _, cw_28, nc_AN⟩
        · rw [List.mem_singleton.mp e]; exact ⟨by decide, _, cw_30, nc_AO⟩
      · refine bl_go oL_least 80 [] rfl ?_
        refine ⟨(fun h => by cases h), ?_⟩
        rw [e1]
        exact lw_ex f1 hO f2 hz (by decide)
    · cases e2
theorem c_L_having (hlt : l.stackTraces = false) (hI : clI (I, J, R, K, N) S h) (hO : csO S) (hk : K 920 = 21) (hn : N 920 = 1) (hz : exF (I, J, R, K, N) z) : bl_MC G l (d + 7) mL_having [.ref 100, .int x, .int y, .long c, .ref 920] (I, J, R, K, N) (2, 12) (lwO (I, J, R, K, N) S h z (askE S.1 x y) (hvV (aSl S.1 (rn x) (rn y)) c).toInt64) := by
  have kx : K 100 = 11 := hI.1.1.1
  refine bl_MC_introH (by decide +kernel) (by decide) (by decide +kernel) (Nat.le_of_ble_eq_true rfl) ?_
  refine bl_go oL_having 80 [] rfl ?_
  refine ⟨rfl, rfl, kx, (Nat.le_of_ble_eq_true rfl), (2, 12), Nat.le_of_ble_eq_true rfl, Nat.le_of_ble_eq_true rfl, bl_MC_mono (c_BL_having (d := d) hlt hI hO) (fun o s1 q => ?_)⟩
  obtain ⟨I1, J1, R1, rfl, f1, f2, f3⟩ := q
  rcases f3 with ⟨e, rfl⟩ | ⟨e, ce, e1, e2, rfl⟩
  · refine bl_go oL_having 80 [] rfl ?_
    refine ⟨hk, ?_, (fun h => by cases h), ?_⟩
    · show vp_in 0 (N 920); rw [hn]; exact vp_in_nI (n := 0) (by omega) (by omega)
    · exact lw_ok f1 hO f2 hz e
  · have h2 := @askE_2 S.1 x y
    rcases e with _ | _ | _ | e
    · cases e2
      refine bl_cat z (pre := []) (x := (0, 12, 15, 28)) (suf := [(0, 12, 19, 30)]) rfl (fun z hz => absurd hz List.not_mem_nil) (by decide) (by decide) cw_28 cc_N (lw_fr f2 hz) ?_
      refine bl_go oL_having 80 [] rfl ?_
      refine ⟨(fun h => by cases h), ?_⟩
      rw [e1]
      exact lw_ex f1 hO f2 hz (by decide)
    · cases e2
      refine bl_cat z (pre := [(0, 12, 15, 28)]) (x := (0, 12, 19, 30)) (suf := []) rfl (fun q hq => ?_) (by decide) (by decide) cw_30 cc_O (lw_fr f2 hz) ?_
      · rw [List.mem_singleton.mp hq]; exact ⟨by decide, _, cw_28, nc_ON⟩
      · refine bl_go oL_having 80 [] rfl ?_
        refine ⟨(fun h => by cases h), ?_⟩
        rw [e1]
        exact lw_ex f1 hO f2 hz (by decide)
    · omega
    · omega
theorem c_L_kinds (hlt : l.stackTraces = false) (hI : clI (I, J, R, K, N) S h) (hO : csO S) (hk : K 920 = 21) (hn : N 920 = 1) (hz : exF (I, J, R, K, N) z) : bl_MC G l (d + 7) mL_kinds [.ref 100, .int x, .int y, .ref 920] (I, J, R, K, N) (2, 12) (lwO (I, J, R, K, N) S h z (askE S.1 x y) (nI (kdV (aSl S.1 (rn x) (rn y)))).toInt64) := by
  have kx : K 100 = 11 := hI.1.1.1
  refine bl_MC_introH (by decide +kernel) (by decide) (by decide +kernel) (Nat.le_of_ble_eq_true rfl) ?_
  refine bl_go oL_kinds 80 [] rfl ?_
  refine ⟨rfl, rfl, kx, (Nat.le_of_ble_eq_true rfl), (2, 12), Nat.le_of_ble_eq_true rfl, Nat.le_of_ble_eq_true rfl, bl_MC_mono (c_BL_kinds (d := d) hlt hI hO) (fun o s1 q => ?_)⟩
  obtain ⟨I1, J1, R1, rfl, f1, f2, f3⟩ := q
  rcases f3 with ⟨e, rfl⟩ | ⟨e, ce, e1, e2, rfl⟩
  · refine bl_go oL_kinds 80 [] rfl ?_
    refine ⟨hk, ?_, (fun h => by cases h), ?_⟩
    · show vp_in 0 (N 920); rw [hn]; exact vp_in_nI (n := 0) (by omega) (by omega)
    · exact lw_ok f1 hO f2 hz e
  · have h2 := @askE_2 S.1 x y
    rcases e with _ | _ | _ | e
    · cases e2
      refine bl_cat z (pre := []) (x := (0, 10, 13, 28)) (suf := [(0, 10, 17, 30)]) rfl (fun z hz => absurd hz List.not_mem_nil) (by decide) (by decide) cw_28 cc_N (lw_fr f2 hz) ?_
      refine bl_go oL_kinds 80 [] rfl ?_
      refine ⟨(fun h => by cases h), ?_⟩
      rw [e1]
      exact lw_ex f1 hO f2 hz (by decide)
    · cases e2
      refine bl_cat z (pre := [(0, 10, 13, 28)]) (x := (0, 10, 17, 30)) (suf := []) rfl (fun q hq => ?_) (by decide) (by decide) cw_30 cc_O (lw_fr f2 hz) ?_
      · rw [List.mem_singleton.mp hq]; exact ⟨by decide, _, cw_28, nc_ON⟩
      · refine bl_go oL_kinds 80 [] rfl ?_
        refine ⟨(fun h => by cases h), ?_⟩
        rw [e1]
        exact lw_ex f1 hO f2 hz (by decide)
    · omega
    · omega
theorem c_L_block (hlt : l.stackTraces = false) (hI : clI (I, J, R, K, N) S h) (hO : csO S) (hk : K 920 = 21) (hn : N 920 = 1) (hz : exF (I, J, R, K, N) z) : bl_MC G l (d + 7) mL_block [.ref 100, .int x, .int y, .ref 920] (I, J, R, K, N) (2, 12) (lwO (I, J, R, K, N) S h z (askE S.1 x y) (nI (bkV (aSl S.1 (rn x) (rn y)))).toInt64) := by
  have kx : K 100 = 11 := hI.1.1.1
  refine bl_MC_introH (by decide +kernel) (by decide) (by decide +kernel) (Nat.le_of_ble_eq_true rfl) ?_
  refine bl_go oL_block 80 [] rfl ?_
  refine ⟨rfl, rfl, kx, (Nat.le_of_ble_eq_true rfl), (2, 12), Nat.le_of_ble_eq_true rfl, Nat.le_of_ble_eq_true rfl, bl_MC_mono (c_BL_block (d := d) hlt hI hO) (fun o s1 q => ?_)⟩
  obtain ⟨I1, J1, R1, rfl, f1, f2, f3⟩ := q
  rcases f3 with ⟨e, rfl⟩ | ⟨e, ce, e1, e2, rfl⟩
  · refine bl_go oL_block 80 [] rfl ?_
    refine ⟨hk, ?_, (fun h => by cases h), ?_⟩
    · show vp_in 0 (N 920); rw [hn]; exact vp_in_nI (n := 0) (by omega) (by omega)
    · exact lw_ok f1 hO f2 hz e
  · have h2 := @askE_2 S.1 x y
    rcases e with _ | _ | _ | e
    · cases e2
      refine bl_cat z (pre := []) (x := (0, 10, 13, 28)) (suf := [(0, 10, 17, 30)]) rfl (fun z hz => absurd hz List.not_mem_nil) (by decide) (by decide) cw_28 cc_N (lw_fr f2 hz) ?_
      refine bl_go oL_block 80 [] rfl ?_
      refine ⟨(fun h => by cases h), ?_⟩
      rw [e1]
      exact lw_ex f1 hO f2 hz (by decide)
    · cases e2
      refine bl_cat z (pre := [(0, 10, 13, 28)]) (x := (0, 10, 17, 30)) (suf := []) rfl (fun q hq => ?_) (by decide) (by decide) cw_30 cc_O (lw_fr f2 hz) ?_
      · rw [List.mem_singleton.mp hq]; exact ⟨by decide, _, cw_28, nc_ON⟩
      · refine bl_go oL_block 80 [] rfl ?_
        refine ⟨(fun h => by cases h), ?_⟩
        rw [e1]
        exact lw_ex f1 hO f2 hz (by decide)
    · omega
    · omega
theorem c_L_joins (hlt : l.stackTraces = false) (hI : clI (I, J, R, K, N) S h) (hO : csO S) (hk : K 920 = 21) (hn : N 920 = 1) (hz : exF (I, J, R, K, N) z) : bl_MC G l (d + 7) mL_joins [.ref 100, .int x, .int y, .int w, .ref 920] (I, J, R, K, N) (3, 18) (lwO (I, J, R, K, N) S h z (askW S.1 x y w 1) (if w = 0 then nJ (aSl S.1 (rn x) (rn y)).2.2.2.1 else 0)) := by
  have kx : K 100 = 11 := hI.1.1.1
  refine bl_MC_introH (by decide +kernel) (by decide) (by decide +kernel) (Nat.le_of_ble_eq_true rfl) ?_
  refine bl_go oL_joins 80 [] rfl ?_
  refine ⟨rfl, rfl, kx, (Nat.le_of_ble_eq_true rfl), (3, 18), Nat.le_of_ble_eq_true rfl, Nat.le_of_ble_eq_true rfl, bl_MC_mono (c_BL_joins (d := d) hlt hI hO) (fun o s1 q => ?_)⟩
  obtain ⟨I1, J1, R1, rfl, f1, f2, f3⟩ := q
  rcases f3 with ⟨e, rfl⟩ | ⟨e, ce, e1, e2, rfl⟩
  · refine bl_go oL_joins 80 [] rfl ?_
    refine ⟨hk, ?_, (fun h => by cases h), ?_⟩
    · show vp_in 0 (N 920); rw [hn]; exact vp_in_nI (n := 0) (by omega) (by omega)
    · exact lw_ok f1 hO f2 hz e
  · skip
    rcases e with _ | _ | _ | e
    · cases e2
      refine bl_cat z (pre := []) (x := (0, 11, 14, 28)) (suf := [(0, 11, 18, 30), (0, 11, 22, 13)]) rfl (fun z hz => absurd hz List.not_mem_nil) (by decide) (by decide) cw_28 cc_N (lw_fr f2 hz) ?_
      refine bl_go oL_joins 80 [] rfl ?_
      refine ⟨(fun h => by cases h), ?_⟩
      rw [e1]
      exact lw_ex f1 hO f2 hz (by decide)
    · cases e2
      refine bl_cat z (pre := [(0, 11, 14, 28)]) (x := (0, 11, 18, 30)) (suf := [(0, 11, 22, 13)]) rfl (fun q hq => ?_) (by decide) (by decide) cw_30 cc_O (lw_fr f2 hz) ?_
      · rw [List.mem_singleton.mp hq]; exact ⟨by decide, _, cw_28, nc_ON⟩
      · refine bl_go oL_joins 80 [] rfl ?_
        refine ⟨(fun h => by cases h), ?_⟩
        rw [e1]
        exact lw_ex f1 hO f2 hz (by decide)
    · cases e2
      refine bl_cat z (pre := [(0, 11, 14, 28), (0, 11, 18, 30)]) (x := (0, 11, 22, 13)) (suf := []) rfl (fun q hq => ?_) (by decide) (by decide) cw_13 cc_A (lw_fr f2 hz) ?_
      · rcases List.mem_cons.mp hq with e | e
        · rw [e]; exact ⟨by decide, _, cw_28, nc_AN⟩
        · rw [List.mem_singleton.mp e]; exact ⟨by decide, _, cw_30, nc_AO⟩
      · refine bl_go oL_joins 80 [] rfl ?_
        refine ⟨(fun h => by cases h), ?_⟩
        rw [e1]
        exact lw_ex f1 hO f2 hz (by decide)
    · cases e2
theorem c_L_weight (hlt : l.stackTraces = false) (hI : clI (I, J, R, K, N) S h) (hO : csO S) (hk : K 920 = 21) (hn : N 920 = 1) (hz : exF (I, J, R, K, N) z) : bl_MC G l (d + 7) mL_weight [.ref 100, .int x, .int y, .int a, .int b, .int w, .ref 920] (I, J, R, K, N) (4, 24) (lwO (I, J, R, K, N) S h z (askC S.1 x y a b w 1) (grV S.1.1 (aSl S.1 (rn x) (rn y)).2.2.1 (slQ (aSl S.1 (rn x) (rn y)) (rn a) (rn b)) w)) := by
  have kx : K 100 = 11 := hI.1.1.1
  refine bl_MC_introH (by decide +kernel) (by decide) (by decide +kernel) (Nat.le_of_ble_eq_true rfl) ?_
  refine bl_go oL_weight 80 [] rfl ?_
  refine ⟨rfl, rfl, kx, (Nat.le_of_ble_eq_true rfl), (4, 24), Nat.le_of_ble_eq_true rfl, Nat.le_of_ble_eq_true rfl, bl_MC_mono (c_BL_weight (d := d) hlt hI hO) (fun o s1 q => ?_)⟩
  obtain ⟨I1, J1, R1, rfl, f1, f2, f3⟩ := q
  rcases f3 with ⟨e, rfl⟩ | ⟨e, ce, e1, e2, rfl⟩
  · refine bl_go oL_weight 80 [] rfl ?_
    refine ⟨hk, ?_, (fun h => by cases h), ?_⟩
    · show vp_in 0 (N 920); rw [hn]; exact vp_in_nI (n := 0) (by omega) (by omega)
    · exact lw_ok f1 hO f2 hz e
  · skip
    rcases e with _ | _ | _ | e
    · cases e2
      refine bl_cat z (pre := []) (x := (0, 15, 18, 28)) (suf := [(0, 15, 22, 30), (0, 15, 26, 13)]) rfl (fun z hz => absurd hz List.not_mem_nil) (by decide) (by decide) cw_28 cc_N (lw_fr f2 hz) ?_
      refine bl_go oL_weight 80 [] rfl ?_
      refine ⟨(fun h => by cases h), ?_⟩
      rw [e1]
      exact lw_ex f1 hO f2 hz (by decide)
    · cases e2
      refine bl_cat z (pre := [(0, 15, 18, 28)]) (x := (0, 15, 22, 30)) (suf := [(0, 15, 26, 13)]) rfl (fun q hq => ?_) (by decide) (by decide) cw_30 cc_O (lw_fr f2 hz) ?_
      · rw [List.mem_singleton.mp hq]; exact ⟨by decide, _, cw_28, nc_ON⟩
      · refine bl_go oL_weight 80 [] rfl ?_
        refine ⟨(fun h => by cases h), ?_⟩
        rw [e1]
        exact lw_ex f1 hO f2 hz (by decide)
    · cases e2
      refine bl_cat z (pre := [(0, 15, 18, 28), (0, 15, 22, 30)]) (x := (0, 15, 26, 13)) (suf := []) rfl (fun q hq => ?_) (by decide) (by decide) cw_13 cc_A (lw_fr f2 hz) ?_
      · rcases List.mem_cons.mp hq with e | e
        · rw [e]; exact ⟨by decide, _, cw_28, nc_AN⟩
        · rw [List.mem_singleton.mp e]; exact ⟨by decide, _, cw_30, nc_AO⟩
      · refine bl_go oL_weight 80 [] rfl ?_
        refine ⟨(fun h => by cases h), ?_⟩
        rw [e1]
        exact lw_ex f1 hO f2 hz (by decide)
    · cases e2
theorem c_L_trimmed (hlt : l.stackTraces = false) (hI : clI (I, J, R, K, N) S h) (hO : csO S) (hk : K 920 = 21) (hn : N 920 = 1) (hz : exF (I, J, R, K, N) z) : bl_MC G l (d + 7) mL_trimmed [.ref 100, .int x, .int y, .int w, .ref 920] (I, J, R, K, N) (3, 18) (lwO (I, J, R, K, N) S h z (askW S.1 x y w 1) (grV S.1.1 (aSl S.1 (rn x) (rn y)).2.2.1 (aSl S.1 (rn x) (rn y)).2.2.2.2 w)) := by
  have kx : K 100 = 11 := hI.1.1.1
  refine bl_MC_introH (by decide +kernel) (by decide) (by decide +kernel) (Nat.le_of_ble_eq_true rfl) ?_
  refine bl_go oL_trimmed 80 [] rfl ?_
  refine ⟨rfl, rfl, kx, (Nat.le_of_ble_eq_true rfl), (3, 18), Nat.le_of_ble_eq_true rfl, Nat.le_of_ble_eq_true rfl, bl_MC_mono (c_BL_trimmed (d := d) hlt hI hO) (fun o s1 q => ?_)⟩
  obtain ⟨I1, J1, R1, rfl, f1, f2, f3⟩ := q
  rcases f3 with ⟨e, rfl⟩ | ⟨e, ce, e1, e2, rfl⟩
  · refine bl_go oL_trimmed 80 [] rfl ?_
    refine ⟨hk, ?_, (fun h => by cases h), ?_⟩
    · show vp_in 0 (N 920); rw [hn]; exact vp_in_nI (n := 0) (by omega) (by omega)
    · exact lw_ok f1 hO f2 hz e
  · skip
    rcases e with _ | _ | _ | e
    · cases e2
      refine bl_cat z (pre := []) (x := (0, 11, 14, 28)) (suf := [(0, 11, 18, 30), (0, 11, 22, 13)]) rfl (fun z hz => absurd hz List.not_mem_nil) (by decide) (by decide) cw_28 cc_N (lw_fr f2 hz) ?_
      refine bl_go oL_trimmed 80 [] rfl ?_
      refine ⟨(fun h => by cases h), ?_⟩
      rw [e1]
      exact lw_ex f1 hO f2 hz (by decide)
    · cases e2
      refine bl_cat z (pre := [(0, 11, 14, 28)]) (x := (0, 11, 18, 30)) (suf := [(0, 11, 22, 13)]) rfl (fun q hq => ?_) (by decide) (by decide) cw_30 cc_O (lw_fr f2 hz) ?_
      · rw [List.mem_singleton.mp hq]; exact ⟨by decide, _, cw_28, nc_ON⟩
      · refine bl_go oL_trimmed 80 [] rfl ?_
        refine ⟨(fun h => by cases h), ?_⟩
        rw [e1]
        exact lw_ex f1 hO f2 hz (by decide)
    · cases e2
      refine bl_cat z (pre := [(0, 11, 14, 28), (0, 11, 18, 30)]) (x := (0, 11, 22, 13)) (suf := []) rfl (fun q hq => ?_) (by decide) (by decide) cw_13 cc_A (lw_fr f2 hz) ?_
      · rcases List.mem_cons.mp hq with e | e
        · rw [e]; exact ⟨by decide, _, cw_28, nc_AN⟩
        · rw [List.mem_singleton.mp e]; exact ⟨by decide, _, cw_30, nc_AO⟩
      · refine bl_go oL_trimmed 80 [] rfl ?_
        refine ⟨(fun h => by cases h), ?_⟩
        rw [e1]
        exact lw_ex f1 hO f2 hz (by decide)
    · cases e2
theorem c_L_wrong (hlt : l.stackTraces = false) (hI : clI (I, J, R, K, N) S h) (hO : csO S) (hk : K 920 = 21) (hn : N 920 = 1) (hz : exF (I, J, R, K, N) z) : bl_MC G l (d + 7) mL_wrong [.ref 100, .int x, .int w, .ref 920] (I, J, R, K, N) (4, 24) (lwO (I, J, R, K, N) S h z (wrE S.1 x w) (wrV S.1 (rn x) w).toInt64) := by
  have kx : K 100 = 11 := hI.1.1.1
  refine bl_MC_introH (by decide +kernel) (by decide) (by decide +kernel) (Nat.le_of_ble_eq_true rfl) ?_
  refine bl_go oL_wrong 80 [] rfl ?_
  refine ⟨rfl, rfl, kx, (Nat.le_of_ble_eq_true rfl), (4, 24), Nat.le_of_ble_eq_true rfl, Nat.le_of_ble_eq_true rfl, bl_MC_mono (c_BL_wrong (d := d) hlt hI hO) (fun o s1 q => ?_)⟩
  obtain ⟨I1, J1, R1, rfl, f1, f2, f3⟩ := q
  rcases f3 with ⟨e, rfl⟩ | ⟨e, ce, e1, e2, rfl⟩
  · refine bl_go oL_wrong 80 [] rfl ?_
    refine ⟨hk, ?_, (fun h => by cases h), ?_⟩
    · show vp_in 0 (N 920); rw [hn]; exact vp_in_nI (n := 0) (by omega) (by omega)
    · exact lw_ok f1 hO f2 hz e
  · skip
    rcases e with _ | _ | e
    · cases e2
      refine bl_cat z (pre := []) (x := (0, 10, 13, 28)) (suf := [(0, 10, 17, 13)]) rfl (fun z hz => absurd hz List.not_mem_nil) (by decide) (by decide) cw_28 cc_N (lw_fr f2 hz) ?_
      refine bl_go oL_wrong 80 [] rfl ?_
      refine ⟨(fun h => by cases h), ?_⟩
      rw [e1]
      exact lw_ex f1 hO f2 hz (by decide)
    · cases e2
      refine bl_cat z (pre := [(0, 10, 13, 28)]) (x := (0, 10, 17, 13)) (suf := []) rfl (fun q hq => ?_) (by decide) (by decide) cw_13 cc_A (lw_fr f2 hz) ?_
      · rw [List.mem_singleton.mp hq]; exact ⟨by decide, _, cw_28, nc_AN⟩
      · refine bl_go oL_wrong 80 [] rfl ?_
        refine ⟨(fun h => by cases h), ?_⟩
        rw [e1]
        exact lw_ex f1 hO f2 hz (by decide)
    · cases e2
theorem c_L_told (hlt : l.stackTraces = false) (hI : clI (I, J, R, K, N) S h) (hO : csO S) (hk : K 920 = 21) (hn : N 920 = 1) (hz : exF (I, J, R, K, N) z) : bl_MC G l (d + 1) mL_told [.ref 100, .int x, .ref 920] (I, J, R, K, N) (1, 6) (lwO (I, J, R, K, N) S h z (tdE x) (tdV S.1 x).toInt64) := by
  have kx : K 100 = 11 := hI.1.1.1
  refine bl_MC_introH (by decide +kernel) (by decide) (by decide +kernel) (Nat.le_of_ble_eq_true rfl) ?_
  refine bl_go oL_told 80 [] rfl ?_
  refine ⟨rfl, rfl, kx, (Nat.le_of_ble_eq_true rfl), (1, 6), Nat.le_of_ble_eq_true rfl, Nat.le_of_ble_eq_true rfl, bl_MC_mono (c_BL_told (d := d) hlt hI) (fun o s1 q => ?_)⟩
  obtain ⟨rfl, f3⟩ := q
  have f1 := hI
  have f2 : cfF (I, J, R, K, N) (I, J, R, K, N) := cfF.refl
  rcases f3 with ⟨e, rfl⟩ | ⟨e, ce, e1, e2, rfl⟩
  · refine bl_go oL_told 80 [] rfl ?_
    refine ⟨hk, ?_, (fun h => by cases h), ?_⟩
    · show vp_in 0 (N 920); rw [hn]; exact vp_in_nI (n := 0) (by omega) (by omega)
    · exact lw_ok f1 hO f2 hz e
  · skip
    rcases e with _ | e
    · cases e2
      refine bl_cat z (pre := []) (x := (0, 9, 12, 13)) (suf := []) rfl (fun z hz => absurd hz List.not_mem_nil) (by decide) (by decide) cw_13 cc_A (lw_fr f2 hz) ?_
      refine bl_go oL_told 80 [] rfl ?_
      refine ⟨(fun h => by cases h), ?_⟩
      rw [e1]
      exact lw_ex f1 hO f2 hz (by decide)
    · cases e2
theorem c_L_room (hlt : l.stackTraces = false) (hI : clI (I, J, R, K, N) S h) (hO : csO S) (hk : K 920 = 21) (hn : N 920 = 1) (hz : exF (I, J, R, K, N) z) : bl_MC G l (d + 1) mL_room [.ref 100, .int x, .ref 920] (I, J, R, K, N) (1, 6) (lwO (I, J, R, K, N) S h z (rmE x) (S.1.2.1 (rn x)).toInt64) := by
  have kx : K 100 = 11 := hI.1.1.1
  refine bl_MC_introH (by decide +kernel) (by decide) (by decide +kernel) (Nat.le_of_ble_eq_true rfl) ?_
  refine bl_go oL_room 80 [] rfl ?_
  refine ⟨rfl, rfl, kx, (Nat.le_of_ble_eq_true rfl), (1, 6), Nat.le_of_ble_eq_true rfl, Nat.le_of_ble_eq_true rfl, bl_MC_mono (c_BL_room (d := d) hlt hI) (fun o s1 q => ?_)⟩
  obtain ⟨rfl, f3⟩ := q
  have f1 := hI
  have f2 : cfF (I, J, R, K, N) (I, J, R, K, N) := cfF.refl
  rcases f3 with ⟨e, rfl⟩ | ⟨e, ce, e1, e2, rfl⟩
  · refine bl_go oL_room 80 [] rfl ?_
    refine ⟨hk, ?_, (fun h => by cases h), ?_⟩
    · show vp_in 0 (N 920); rw [hn]; exact vp_in_nI (n := 0) (by omega) (by omega)
    · exact lw_ok f1 hO f2 hz e
  · skip
    rcases e with _ | e
    · cases e2
      refine bl_cat z (pre := []) (x := (0, 9, 12, 13)) (suf := []) rfl (fun z hz => absurd hz List.not_mem_nil) (by decide) (by decide) cw_13 cc_A (lw_fr f2 hz) ?_
      refine bl_go oL_room 80 [] rfl ?_
      refine ⟨(fun h => by cases h), ?_⟩
      rw [e1]
      exact lw_ex f1 hO f2 hz (by decide)
    · cases e2
theorem c_L_step (hlt : l.stackTraces = false) (hI : clI (I, J, R, K, N) S h) (hO : csO S) (hk : K 920 = 21) (hn : N 920 = 1) (hz : exF (I, J, R, K, N) z) : bl_MC G l (d + 2) mL_step [.ref 100, .int x, .int y, .int w, .ref 920] (I, J, R, K, N) (2, 12) (lwO (I, J, R, K, N) S h z (spE S.1 x y w) (stv (S.1.2.2.2.1 (rn x)) (rn y) (rn w)).toInt64) := by
  have kx : K 100 = 11 := hI.1.1.1
  refine bl_MC_introH (by decide +kernel) (by decide) (by decide +kernel) (Nat.le_of_ble_eq_true rfl) ?_
  refine bl_go oL_step 80 [] rfl ?_
  refine ⟨rfl, rfl, kx, (Nat.le_of_ble_eq_true rfl), (2, 12), Nat.le_of_ble_eq_true rfl, Nat.le_of_ble_eq_true rfl, bl_MC_mono (c_BL_step (d := d) hlt hI hO) (fun o s1 q => ?_)⟩
  obtain ⟨rfl, f3⟩ := q
  have f1 := hI
  have f2 : cfF (I, J, R, K, N) (I, J, R, K, N) := cfF.refl
  rcases f3 with ⟨e, rfl⟩ | ⟨e, ce, e1, e2, rfl⟩
  · refine bl_go oL_step 80 [] rfl ?_
    refine ⟨hk, ?_, (fun h => by cases h), ?_⟩
    · show vp_in 0 (N 920); rw [hn]; exact vp_in_nI (n := 0) (by omega) (by omega)
    · exact lw_ok f1 hO f2 hz e
  · skip
    rcases e with _ | _ | _ | e
    · cases e2
      refine bl_cat z (pre := []) (x := (0, 12, 15, 28)) (suf := [(0, 12, 19, 30), (0, 12, 23, 13)]) rfl (fun z hz => absurd hz List.not_mem_nil) (by decide) (by decide) cw_28 cc_N (lw_fr f2 hz) ?_
      refine bl_go oL_step 80 [] rfl ?_
      refine ⟨(fun h => by cases h), ?_⟩
      rw [e1]
      exact lw_ex f1 hO f2 hz (by decide)
    · cases e2
      refine bl_cat z (pre := [(0, 12, 15, 28)]) (x := (0, 12, 19, 30)) (suf := [(0, 12, 23, 13)]) rfl (fun q hq => ?_) (by decide) (by decide) cw_30 cc_O (lw_fr f2 hz) ?_
      · rw [List.mem_singleton.mp hq]; exact ⟨by decide, _, cw_28, nc_ON⟩
      · refine bl_go oL_step 80 [] rfl ?_
        refine ⟨(fun h => by cases h), ?_⟩
        rw [e1]
        exact lw_ex f1 hO f2 hz (by decide)
    · cases e2
      refine bl_cat z (pre := [(0, 12, 15, 28), (0, 12, 19, 30)]) (x := (0, 12, 23, 13)) (suf := []) rfl (fun q hq => ?_) (by decide) (by decide) cw_13 cc_A (lw_fr f2 hz) ?_
      · rcases List.mem_cons.mp hq with e | e
        · rw [e]; exact ⟨by decide, _, cw_28, nc_AN⟩
        · rw [List.mem_singleton.mp e]; exact ⟨by decide, _, cw_30, nc_AO⟩
      · refine bl_go oL_step 80 [] rfl ?_
        refine ⟨(fun h => by cases h), ?_⟩
        rw [e1]
        exact lw_ex f1 hO f2 hz (by decide)
    · cases e2
end LAWN
