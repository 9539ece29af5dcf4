/-! ===== the law's methods: thin (a sample) ===== -/
def lwO (s : bl_Mem) (S : cS) (h z E : Nat) (w : Int64) (o : bl_Out) (s' : bl_Mem) : Prop := o = .inl (some (.int (nI E))) ∧ clI s' S h ∧ lwF s s' ∧ exF s' (z + 1) ∧ (E = 0 → s'.2.1 920 0 = w)
theorem lw_ok {s s1 : bl_Mem} {S : cS} {h z E : Nat} {w : Int64} (f1 : clI s1 S h) (hO : csO S) (f2 : cfF s s1) (hz : exF s z) (hE : E = 0) : lwO s S h z E w (.inl (some (.int 0))) (bl_pv s1 920 0 (.long w)) := by
  subst hE
  refine ⟨rfl, f1.out hO (eqF_pv (s := s1) (o := 920) (k := 0) (v := .long w)) (fun y hy => by omega), fun y y1 y2 => ?_, ⟨by have := hz.1; omega, fun y hy => ?_⟩, fun _ => ?_⟩
  · obtain ⟨a1, a2, a3, a4, a5⟩ := f2 y (by omega) (by omega)
    exact ⟨a1, fun e => (show bl_up2 s1.2.1 920 0 w y = s.2.1 y by rw [bl_up2_ne e]; exact a2), a3, a4, a5⟩
  · have h1 := hz.1
    show s1.2.2.2.1 y = 0
    rw [(f2 y (by omega) (by omega)).2.2.2.1]; exact hz.2 y (by omega)
  · show bl_up2 s1.2.1 920 0 w 920 0 = w; rw [bl_up2_at]
theorem lw_ex {s s1 : bl_Mem} {S : cS} {h z E : Nat} {w : Int64} (f1 : clI s1 S h) (hO : csO S) (f2 : cfF s s1) (hz : exF s z) (hE : E ≠ 0) : lwO s S h z E w (.inl (some (.int (nI E)))) (s1.1, s1.2.1, s1.2.2.1, va_up s1.2.2.2.1 z 50, s1.2.2.2.2) := by
  have h1 := hz.1
  have hup : ∀ y, y ≠ z → va_up s1.2.2.2.1 z 50 y = s1.2.2.2.1 y := fun y hy => by simp [va_up, hy]
  refine ⟨rfl, f1.out (p := fun y => y = z) hO (fun y hy => ⟨rfl, rfl, rfl, hup y hy, rfl⟩) (fun y hy => by omega), fun y y1 y2 => ?_, ⟨by omega, fun y hy => ?_⟩, fun e => absurd e hE⟩
  · obtain ⟨a1, a2, a3, a4, a5⟩ := f2 y (by omega) (by omega)
    exact ⟨a1, fun _ => a2, a3, (hup y (by omega)).trans a4, a5⟩
  · show va_up s1.2.2.2.1 z 50 y = 0
    rw [hup y (by omega), (f2 y (by omega) (by omega)).2.2.2.1]; exact hz.2 y (by omega)
theorem lw_fr {s s1 : bl_Mem} {z : Nat} (f2 : cfF s s1) (hz : exF s z) : s1.2.2.2.1 z = 0 := by
  have h1 := hz.1
  rw [(f2 z (by omega) (by omega)).2.2.2.1]; exact hz.2 z (Nat.le_refl _)
theorem askE_2 {A : aS} {x y : Int32} : askE A x y ≤ 2 := by
  unfold askE
  split
  · split <;> omega
  · omega
section LAWM
variable {G : bl_G} {l : Launch} {d : Nat} {I : Nat → Nat → Int32} {J : Nat → Nat → Int64} {R : Nat → Nat → Option Nat} {K N : Nat → Nat} {S : cS} {h z : Nat} {x y w a b : Int32}
theorem c_L_thin (hlt : l.stackTraces = false) (hI : clI (I, J, R, K, N) S h) (hO : csO S) (hk : K 920 = 21) (hn : N 920 = 1) (hz : exF (I, J, R, K, N) z) : bl_MC G l (d + 7) mL_thin [.ref 100, .int x, .int y, .ref 920] (I, J, R, K, N) (2, 12) (lwO (I, J, R, K, N) S h z (askE S.1 x y) (nJ (aSl S.1 (rn x) (rn y)).2.2.1)) := by
  have kx : K 100 = 11 := hI.1.1.1
  refine bl_MC_introH (by decide +kernel) (by decide) (by decide +kernel) (Nat.le_of_ble_eq_true rfl) ?_
  refine bl_go oL_thin 80 [] rfl ?_
  refine ⟨rfl, rfl, kx, (Nat.le_of_ble_eq_true rfl), (2, 12), Nat.le_of_ble_eq_true rfl, Nat.le_of_ble_eq_true rfl, bl_MC_mono (c_BL_thin (d := d) hlt hI hO) (fun o s1 q => ?_)⟩
  obtain ⟨I1, J1, R1, rfl, f1, f2, f3⟩ := q
  rcases f3 with ⟨e, rfl⟩ | ⟨e, c, e1, e2, rfl⟩
  · refine bl_go oL_thin 80 [] rfl ?_
    refine ⟨hk, ?_, (fun h => by cases h), ?_⟩
    · show vp_in 0 (N 920); rw [hn]; exact vp_in_nI (n := 0) (by omega) (by omega)
    · exact lw_ok f1 hO f2 hz e
  · have h2 := @askE_2 S.1 x y
    rcases e with _ | _ | e
    · cases e2
      refine bl_cat z (pre := []) (x := (0, 9, 12, 28)) (suf := [(0, 9, 16, 30)]) rfl (fun z hz => absurd hz List.not_mem_nil) (by decide) (by decide) cw_28 cc_N (lw_fr f2 hz) ?_
      refine bl_go oL_thin 80 [] rfl ?_
      refine ⟨(fun h => by cases h), ?_⟩
      rw [e1]
      exact lw_ex f1 hO f2 hz (by decide)
    · cases e2
      refine bl_cat z (pre := [(0, 9, 12, 28)]) (x := (0, 9, 16, 30)) (suf := []) rfl (fun z hz => ?_) (by decide) (by decide) cw_30 cc_O (lw_fr f2 hz) ?_
      · rw [List.mem_singleton.mp hz]; exact ⟨by decide, _, cw_28, nc_ON⟩
      · refine bl_go oL_thin 80 [] rfl ?_
        refine ⟨(fun h => by cases h), ?_⟩
        rw [e1]
        exact lw_ex f1 hO f2 hz (by decide)
    · omega
end LAWM
