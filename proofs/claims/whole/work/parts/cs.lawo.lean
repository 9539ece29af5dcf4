/-! ===== the law's methods: begin, bench, latest ===== -/
def lwL (s : bl_Mem) (S : cS) (h z : Nat) (x : Int32) (o : bl_Out) (s' : bl_Mem) : Prop := ∃ v : Int32, lwO s S h z (ltE S.1 x) v.toInt64 o s' ∧ (ltE S.1 x = 0 → ltP S.1 (rn x) v)
section LAWO
variable {G : bl_G} {l : Launch} {d : Nat} {I : Nat → Nat → Int32} {J : Nat → Nat → Int64} {R : Nat → Nat → Option Nat} {K N : Nat → Nat} {S : cS} {h z : Nat} {x y w a b : Int32} {c : Int64}
theorem c_L_bench (hlt : l.stackTraces = false) (hI : clI (I, J, R, K, N) S h) (hO : csO S) (hk : K 920 = 21) (hn : N 920 = 1) (hz : exF (I, J, R, K, N) z) : bl_MC G l (d + 32) mL_bench [.ref 100, .int w, .ref 920] (I, J, R, K, N) (1, 6) (lwO (I, J, R, K, N) S h z (bhE w) (bhV S.1.2.2.1 S.1.2.2.2.1 w).toInt64) := by
  have kx : K 100 = 11 := hI.1.1.1
  refine bl_MC_introH (by decide +kernel) (by decide) (by decide +kernel) (Nat.le_of_ble_eq_true rfl) ?_
  refine bl_go oL_bench 80 [] rfl ?_
  refine ⟨rfl, rfl, kx, (Nat.le_of_ble_eq_true rfl), (1, 6), Nat.le_of_ble_eq_true rfl, Nat.le_of_ble_eq_true rfl, bl_MC_mono (c_BL_bench (d := d) hlt hI hO) (fun o s1 q => ?_)⟩
  obtain ⟨I1, rfl, f1, f2, f3⟩ := q
  rcases f3 with ⟨e, rfl⟩ | ⟨e, ce, e1, e2, rfl⟩
  · refine bl_go oL_bench 80 [] rfl ?_
    refine ⟨hk, ?_, (fun h => by cases h), ?_⟩
    · show vp_in 0 (N 920); rw [hn]; exact vp_in_nI (n := 0) (by omega) (by omega)
    · exact lw_ok f1 hO f2 hz e
  · rcases e with _ | e
    · cases e2
      refine bl_cat z (pre := []) (x := (0, 9, 12, 13)) (suf := []) rfl (fun z hz => absurd hz List.not_mem_nil) (by decide) (by decide) cw_13 cc_A (lw_fr f2 hz) ?_
      refine bl_go oL_bench 80 [] rfl ?_
      refine ⟨(fun h => by cases h), ?_⟩
      rw [e1]
      exact lw_ex f1 hO f2 hz (by decide)
    · cases e2
theorem c_L_begin (hlt : l.stackTraces = false) (hI : clI (I, J, R, K, N) S h) (hO : csO S) (hO' : csO (if bgE x = 0 then (bgS S.1 S.1.2.2.1 (rn x), S.2) else S)) (hk : K 920 = 21) (hn : N 920 = 1) (hz : exF (I, J, R, K, N) z) : bl_MC G l (d + 2) mL_begin [.ref 100, .int x, .ref 920] (I, J, R, K, N) (1, 6) (lwO (I, J, R, K, N) (if bgE x = 0 then (bgS S.1 S.1.2.2.1 (rn x), S.2) else S) h z (bgE x) (nI S.1.2.2.2.2).toInt64) := by
  have kx : K 100 = 11 := hI.1.1.1
  refine bl_MC_introH (by decide +kernel) (by decide) (by decide +kernel) (Nat.le_of_ble_eq_true rfl) ?_
  refine bl_go oL_begin 80 [] rfl ?_
  refine ⟨rfl, rfl, kx, (Nat.le_of_ble_eq_true rfl), (1, 6), Nat.le_of_ble_eq_true rfl, Nat.le_of_ble_eq_true rfl, bl_MC_mono (c_BL_begin (d := d) hlt hI hO) (fun o s1 q => ?_)⟩
  obtain ⟨I1, rfl, f1, f2, f3⟩ := q
  rcases f3 with ⟨e, rfl⟩ | ⟨e, ce, e1, e2, rfl⟩
  · refine bl_go oL_begin 80 [] rfl ?_
    refine ⟨hk, ?_, (fun h => by cases h), ?_⟩
    · show vp_in 0 (N 920); rw [hn]; exact vp_in_nI (n := 0) (by omega) (by omega)
    · exact lw_ok f1 hO' f2 hz e
  · rcases e with _ | e
    · cases e2
      refine bl_cat z (pre := []) (x := (0, 9, 12, 13)) (suf := []) rfl (fun z hz => absurd hz List.not_mem_nil) (by decide) (by decide) cw_13 cc_A (lw_fr f2 hz) ?_
      refine bl_go oL_begin 80 [] rfl ?_
      refine ⟨(fun h => by cases h), ?_⟩
      have hq := lw_ex (w := (nI S.1.2.2.2.2).toInt64) f1 hO' f2 hz (E := bgE x) (by rw [e1]; decide)
      rw [show bgE x = 1 from e1] at hq ⊢
      exact hq
    · cases e2
theorem c_L_latest (hlt : l.stackTraces = false) (hI : clI (I, J, R, K, N) S h) (hO : csO S) (hk : K 920 = 21) (hn : N 920 = 1) (hz : exF (I, J, R, K, N) z) : bl_MC G l (d + 6) mL_latest [.ref 100, .int x, .ref 920] (I, J, R, K, N) (2, 12) (lwL (I, J, R, K, N) S h z x) := by
  have kx : K 100 = 11 := hI.1.1.1
  refine bl_MC_introH (by decide +kernel) (by decide) (by decide +kernel) (Nat.le_of_ble_eq_true rfl) ?_
  refine bl_go oL_latest 80 [] rfl ?_
  refine ⟨rfl, rfl, kx, (Nat.le_of_ble_eq_true rfl), (2, 12), Nat.le_of_ble_eq_true rfl, Nat.le_of_ble_eq_true rfl, bl_MC_mono (c_BL_latest (d := d) hlt hI hO) (fun o s1 q => ?_)⟩
  obtain ⟨I1, J1, R1, v, rfl, f1, f2, f3, f4⟩ := q
  rcases f3 with ⟨e, rfl⟩ | ⟨e, ce, e1, e2, rfl⟩
  · refine bl_go oL_latest 80 [] rfl ?_
    refine ⟨hk, ?_, (fun h => by cases h), ?_⟩
    · show vp_in 0 (N 920); rw [hn]; exact vp_in_nI (n := 0) (by omega) (by omega)
    · exact ⟨v, lw_ok f1 hO f2 hz e, f4⟩
  · rcases e with _ | e
    · cases e2
      refine bl_cat z (pre := []) (x := (0, 9, 12, 28)) (suf := []) rfl (fun z hz => absurd hz List.not_mem_nil) (by decide) (by decide) cw_28 cc_N (lw_fr f2 hz) ?_
      refine bl_go oL_latest 80 [] rfl ?_
      refine ⟨(fun h => by cases h), v, ?_, f4⟩
      rw [e1]
      exact lw_ex f1 hO f2 hz (by decide)
    · cases e2
end LAWO
