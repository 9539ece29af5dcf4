/-! ===== the law's methods: recipe ===== -/
/-- what the law's recipe leaves -/
def lwR (s : bl_Mem) (S : cS) (h z : Nat) (x : Int32) (o : bl_Out) (s' : bl_Mem) : Prop := (¬ (0 ≤ x ∧ x ≤ nI S.2.2.1) ∧ lwO s S h z 1 0 o s') ∨ ∃ n, n ≤ S.2.2.1 ∧ x = nI n ∧ ((S.1.2.2.1 = 4 ∧ lwO s (tpC S (zI (-1))) h z 0 (zI (-1)).toInt64 o s') ∨ (S.1.2.2.1 < 4 ∧ (∃ s1, mkR s1 S.1.2.2.1 ∧ s' = bl_pv s1 920 0 (.long (s'.2.1 920 0))) ∧ ((∃ f, prec S.2.2.2.1 n 21 sq0 0 = .inr f ∧ lwO s (tpC S (nI f.2)) h z 0 (nI f.1 - 10).toInt64 o s') ∨ (∃ Sq, prec S.2.2.2.1 n 21 sq0 0 = .inl Sq ∧ sqV Sq ∧ lwO s (rpS S Sq) h z 0 (nI S.1.2.2.1).toInt64 o s'))))
section LAWQ
variable {G : bl_G} {l : Launch} {d : Nat} {I : Nat → Nat → Int32} {J : Nat → Nat → Int64} {R : Nat → Nat → Option Nat} {K N : Nat → Nat} {S : cS} {h z : Nat} {x y w a b : Int32} {c : Int64}
theorem pv_self {s1 : bl_Mem} {w : Int64} : bl_pv s1 920 0 (.long w) = bl_pv s1 920 0 (.long ((bl_pv s1 920 0 (.long w)).2.1 920 0)) := by
  have : (bl_pv s1 920 0 (.long w)).2.1 920 0 = w := by show bl_up2 s1.2.1 920 0 w 920 0 = w; rw [bl_up2_at]
  rw [this]
theorem c_L_recipeT (hlt : l.stackTraces = false) (hI : clI (I, J, R, K, N) S h) (hO : csO S) (hc4 : S.1.2.2.1 < 4) (hm : mkR (I, J, R, K, N) S.1.2.2.1) (hk : K 920 = 21) (hn : N 920 = 1) (hz : exF (I, J, R, K, N) z) : bl_MC G l (d + 5) mL_recipe [.ref 100, .int x, .ref 920] (I, J, R, K, N) (1, 6) (lwR (I, J, R, K, N) S h z x) := by
  have kx : K 100 = 11 := hI.1.1.1
  have hkk : ∀ s1 : bl_Mem, cfF (I, J, R, K, N) s1 → s1.2.2.2.1 920 = 21 ∧ vp_in 0 (s1.2.2.2.2 920) := fun s1 f2 => by
    obtain ⟨-, -, -, a4, a5⟩ := f2 920 (by omega) (by omega)
    refine ⟨a4.trans hk, ?_⟩
    rw [show s1.2.2.2.2 920 = 1 from a5.trans hn]; exact vp_in_nI (n := 0) (by omega) (by omega)
  refine bl_MC_introH (by decide +kernel) (by decide) (by decide +kernel) (Nat.le_of_ble_eq_true rfl) ?_
  refine bl_go oL_recipe 80 [] rfl ?_
  refine ⟨rfl, rfl, kx, (Nat.le_of_ble_eq_true rfl), (1, 6), Nat.le_of_ble_eq_true rfl, Nat.le_of_ble_eq_true rfl, bl_MC_mono (c_BL_recipeT (d := d) hlt hI hO hc4 hm) (fun o s1 q => ?_)⟩
  rcases q with ⟨e, rfl, rfl⟩ | ⟨n, e1, e2, f2, ⟨e3, rfl, f1⟩ | ⟨e3, e4, ⟨f, e5, rfl, f1⟩ | ⟨Sq, e5, e6, rfl, f1⟩⟩⟩
  · refine bl_cat z (pre := []) (x := (0, 9, 12, 13)) (suf := []) rfl (fun z hz => absurd hz List.not_mem_nil) (by decide) (by decide) cw_13 cc_A (lw_fr cfF.refl hz) ?_
    refine bl_go oL_recipe 80 [] rfl ?_
    refine ⟨(fun h => by cases h), Or.inl ⟨e, ?_⟩⟩
    exact lw_ex hI hO cfF.refl hz (by decide)
  · refine bl_go oL_recipe 80 [] rfl ?_
    refine ⟨(hkk _ f2).1, (hkk _ f2).2, (fun h => by cases h), Or.inr ⟨n, e1, e2, Or.inl ⟨e3, ?_⟩⟩⟩
    exact lw_okX f1 hO.tp f2 hz
  · refine bl_go oL_recipe 80 [] rfl ?_
    refine ⟨(hkk _ f2).1, (hkk _ f2).2, (fun h => by cases h), Or.inr ⟨n, e1, e2, Or.inr ⟨e3, ⟨s1, e4, pv_self⟩, Or.inl ⟨f, e5, ?_⟩⟩⟩⟩
    exact lw_okX f1 hO.tp f2 hz
  · refine bl_go oL_recipe 80 [] rfl ?_
    refine ⟨(hkk _ f2).1, (hkk _ f2).2, (fun h => by cases h), Or.inr ⟨n, e1, e2, Or.inr ⟨e3, ⟨s1, e4, pv_self⟩, Or.inr ⟨Sq, e5, e6, ?_⟩⟩⟩⟩
    exact lw_okX f1 (hO.rp e6 e3) f2 hz
theorem c_L_recipeN (hlt : l.stackTraces = false) (hI : clI (I, J, R, K, N) S h) (hO : csO S) (hc4 : S.1.2.2.1 < 4) (hm : frR (I, J, R, K, N) S.1.2.2.1) (hk : K 920 = 21) (hn : N 920 = 1) (hz : exF (I, J, R, K, N) z) : bl_MC G l (d + 5) mL_recipe [.ref 100, .int x, .ref 920] (I, J, R, K, N) (154, 4379) (lwR (I, J, R, K, N) S h z x) := by
  have kx : K 100 = 11 := hI.1.1.1
  have hkk : ∀ s1 : bl_Mem, cfF (I, J, R, K, N) s1 → s1.2.2.2.1 920 = 21 ∧ vp_in 0 (s1.2.2.2.2 920) := fun s1 f2 => by
    obtain ⟨-, -, -, a4, a5⟩ := f2 920 (by omega) (by omega)
    refine ⟨a4.trans hk, ?_⟩
    rw [show s1.2.2.2.2 920 = 1 from a5.trans hn]; exact vp_in_nI (n := 0) (by omega) (by omega)
  refine bl_MC_introH (by decide +kernel) (by decide) (by decide +kernel) (Nat.le_of_ble_eq_true rfl) ?_
  refine bl_go oL_recipe 80 [] rfl ?_
  refine ⟨rfl, rfl, kx, (Nat.le_of_ble_eq_true rfl), (154, 4379), Nat.le_of_ble_eq_true rfl, Nat.le_of_ble_eq_true rfl, bl_MC_mono (c_BL_recipeN (d := d) hlt hI hO hc4 hm) (fun o s1 q => ?_)⟩
  rcases q with ⟨e, rfl, rfl⟩ | ⟨n, e1, e2, f2, ⟨e3, rfl, f1⟩ | ⟨e3, e4, ⟨f, e5, rfl, f1⟩ | ⟨Sq, e5, e6, rfl, f1⟩⟩⟩
  · refine bl_cat z (pre := []) (x := (0, 9, 12, 13)) (suf := []) rfl (fun z hz => absurd hz List.not_mem_nil) (by decide) (by decide) cw_13 cc_A (lw_fr cfF.refl hz) ?_
    refine bl_go oL_recipe 80 [] rfl ?_
    refine ⟨(fun h => by cases h), Or.inl ⟨e, ?_⟩⟩
    exact lw_ex hI hO cfF.refl hz (by decide)
  · refine bl_go oL_recipe 80 [] rfl ?_
    refine ⟨(hkk _ f2).1, (hkk _ f2).2, (fun h => by cases h), Or.inr ⟨n, e1, e2, Or.inl ⟨e3, ?_⟩⟩⟩
    exact lw_okX f1 hO.tp f2 hz
  · refine bl_go oL_recipe 80 [] rfl ?_
    refine ⟨(hkk _ f2).1, (hkk _ f2).2, (fun h => by cases h), Or.inr ⟨n, e1, e2, Or.inr ⟨e3, ⟨s1, e4, pv_self⟩, Or.inl ⟨f, e5, ?_⟩⟩⟩⟩
    exact lw_okX f1 hO.tp f2 hz
  · refine bl_go oL_recipe 80 [] rfl ?_
    refine ⟨(hkk _ f2).1, (hkk _ f2).2, (fun h => by cases h), Or.inr ⟨n, e1, e2, Or.inr ⟨e3, ⟨s1, e4, pv_self⟩, Or.inr ⟨Sq, e5, e6, ?_⟩⟩⟩⟩
    exact lw_okX f1 (hO.rp e6 e3) f2 hz
theorem c_L_recipeF (hlt : l.stackTraces = false) (hI : clI (I, J, R, K, N) S h) (hO : csO S) (hc4 : S.1.2.2.1 = 4) (hk : K 920 = 21) (hn : N 920 = 1) (hz : exF (I, J, R, K, N) z) : bl_MC G l (d + 5) mL_recipe [.ref 100, .int x, .ref 920] (I, J, R, K, N) (1, 6) (lwR (I, J, R, K, N) S h z x) := by
  have kx : K 100 = 11 := hI.1.1.1
  have hkk : ∀ s1 : bl_Mem, cfF (I, J, R, K, N) s1 → s1.2.2.2.1 920 = 21 ∧ vp_in 0 (s1.2.2.2.2 920) := fun s1 f2 => by
    obtain ⟨-, -, -, a4, a5⟩ := f2 920 (by omega) (by omega)
    refine ⟨a4.trans hk, ?_⟩
    rw [show s1.2.2.2.2 920 = 1 from a5.trans hn]; exact vp_in_nI (n := 0) (by omega) (by omega)
  refine bl_MC_introH (by decide +kernel) (by decide) (by decide +kernel) (Nat.le_of_ble_eq_true rfl) ?_
  refine bl_go oL_recipe 80 [] rfl ?_
  refine ⟨rfl, rfl, kx, (Nat.le_of_ble_eq_true rfl), (1, 6), Nat.le_of_ble_eq_true rfl, Nat.le_of_ble_eq_true rfl, bl_MC_mono (c_BL_recipeF (d := d) hlt hI hO hc4) (fun o s1 q => ?_)⟩
  rcases q with ⟨e, rfl, rfl⟩ | ⟨n, e1, e2, f2, ⟨e3, rfl, f1⟩ | ⟨e3, e4, ⟨f, e5, rfl, f1⟩ | ⟨Sq, e5, e6, rfl, f1⟩⟩⟩
  · refine bl_cat z (pre := []) (x := (0, 9, 12, 13)) (suf := []) rfl (fun z hz => absurd hz List.not_mem_nil) (by decide) (by decide) cw_13 cc_A (lw_fr cfF.refl hz) ?_
    refine bl_go oL_recipe 80 [] rfl ?_
    refine ⟨(fun h => by cases h), Or.inl ⟨e, ?_⟩⟩
    exact lw_ex hI hO cfF.refl hz (by decide)
  · refine bl_go oL_recipe 80 [] rfl ?_
    refine ⟨(hkk _ f2).1, (hkk _ f2).2, (fun h => by cases h), Or.inr ⟨n, e1, e2, Or.inl ⟨e3, ?_⟩⟩⟩
    exact lw_okX f1 hO.tp f2 hz
  · refine bl_go oL_recipe 80 [] rfl ?_
    refine ⟨(hkk _ f2).1, (hkk _ f2).2, (fun h => by cases h), Or.inr ⟨n, e1, e2, Or.inr ⟨e3, ⟨s1, e4, pv_self⟩, Or.inl ⟨f, e5, ?_⟩⟩⟩⟩
    exact lw_okX f1 hO.tp f2 hz
  · refine bl_go oL_recipe 80 [] rfl ?_
    refine ⟨(hkk _ f2).1, (hkk _ f2).2, (fun h => by cases h), Or.inr ⟨n, e1, e2, Or.inr ⟨e3, ⟨s1, e4, pv_self⟩, Or.inr ⟨Sq, e5, e6, ?_⟩⟩⟩⟩
    exact lw_okX f1 (hO.rp e6 e3) f2 hz
end LAWQ
