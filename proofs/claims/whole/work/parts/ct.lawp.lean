/-! ===== the law's methods: kitchen ===== -/
theorem lw_okX {s s1 : bl_Mem} {S : cS} {h z : Nat} {w : Int64} (f1 : clI s1 S h) (hO : csO S) (f2 : cfF s s1) (hz : exF s z) : lwO s S h z 0 w (.inl (some (.int 0))) (bl_pv s1 920 0 (.long w)) := lw_ok f1 hO f2 hz rfl
/-- what the law's kitchen leaves -/
def lwK (s : bl_Mem) (S : cS) (h z : Nat) (x : Int32) (o : bl_Out) (s' : bl_Mem) : Prop := (¬ (0 ≤ x ∧ x ≤ nI S.2.2.1) ∧ lwO s S h z 1 0 o s') ∨ ∃ n, n ≤ S.2.2.1 ∧ x = nI n ∧ ((∃ f, pkit S.2.2.2.1 n 31 0 un0 0 = .inr f ∧ lwO s (S.1, S.2.1, 0, S.2.2.2.1, nI f.2, S.2.2.2.2.2) h z 0 (nI f.1 - 10).toInt64 o s') ∨ (∃ Sk tf g, pkit S.2.2.2.1 n 31 0 un0 0 = .inl Sk ∧ kAll Sk tf g ∧ lwO s (ktS S tf g) (370 - h) z 0 (Sk.1 0 * Sk.1 1).toInt64 o s'))
section LAWP
variable {G : bl_G} {l : Launch} {d : Nat} {I : Nat → Nat → Int32} {J : Nat → Nat → Int64} {R : Nat → Nat → Option Nat} {K N : Nat → Nat} {S : cS} {h z : Nat} {x y w a b : Int32} {c : Int64}
theorem c_L_kitchen (hlt : l.stackTraces = false) (hI : clI (I, J, R, K, N) S h) (hO : csO S) (hk : K 920 = 21) (hn : N 920 = 1) (hz : exF (I, J, R, K, N) z) : bl_MC G l (d + 6) mL_kitchen [.ref 100, .int x, .ref 920] (I, J, R, K, N) (1, 6) (lwK (I, J, R, K, N) S h z x) := by
  have kx : K 100 = 11 := hI.1.1.1
  have hv0 : vp_in 0 (N 920) := by rw [hn]; exact vp_in_nI (n := 0) (by omega) (by omega)
  refine bl_MC_introH (by decide +kernel) (by decide) (by decide +kernel) (Nat.le_of_ble_eq_true rfl) ?_
  refine bl_go oL_kitchen 80 [] rfl ?_
  refine ⟨rfl, rfl, kx, (Nat.le_of_ble_eq_true rfl), (1, 6), Nat.le_of_ble_eq_true rfl, Nat.le_of_ble_eq_true rfl, bl_MC_mono (c_BL_kitchen (d := d) hlt hI hO) (fun o s1 q => ?_)⟩
  rcases q with ⟨e, rfl, rfl⟩ | ⟨n, e1, e2, I1, R1, rfl, f2, ⟨f, e3, rfl, f1⟩ | ⟨Sk, tf, g, e3, e4, rfl, f1⟩⟩
  · refine bl_cat z (pre := []) (x := (0, 9, 12, 13)) (suf := []) rfl (fun z hz => absurd hz List.not_mem_nil) (by decide) (by decide) cw_13 cc_A (lw_fr cfF.refl hz) ?_
    refine bl_go oL_kitchen 80 [] rfl ?_
    refine ⟨(fun h => by cases h), Or.inl ⟨e, ?_⟩⟩
    exact lw_ex hI hO cfF.refl hz (by decide)
  · refine bl_go oL_kitchen 80 [] rfl ?_
    refine ⟨hk, hv0, (fun h => by cases h), Or.inr ⟨n, e1, e2, Or.inl ⟨f, e3, ?_⟩⟩⟩
    exact lw_okX f1 (csO.tp hO) f2 hz
  · refine bl_go oL_kitchen 80 [] rfl ?_
    refine ⟨hk, hv0, (fun h => by cases h), Or.inr ⟨n, e1, e2, Or.inr ⟨Sk, tf, g, e3, e4, ?_⟩⟩⟩
    exact lw_okX f1 (hO.kt e4) f2 hz
end LAWP
