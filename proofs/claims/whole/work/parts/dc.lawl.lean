/-! ===== the law's loop ===== -/
section LWL
variable {G : bl_G} {l : Launch} {Q : bl_Out → bl_Mem → Prop}
theorem lw_sw (hlt : l.stackTraces = false) (hL : G.2.2.2.2.1 ≤ 3072) {s : bl_Mem} {S : cS} {h z i n : Nat} {b : Nat × Nat} (hI : lwI s S h z) (hi : i + 6 ≤ G.2.2.2.2.1) (hb : pC s.2.2.2.1 (n + 1) ≤ b.1 ∧ pS s.2.2.2.1 (n + 1) ≤ b.2) (hk : lwC G l i n Q) : bl_WP G l 40 mL_law 33 (lvL i) [] s b Q := by
  have hb0 := p_le (K := s.2.2.2.1) (K' := s.2.2.2.1) (fun _ q => q) n
  have k30 : s.2.2.2.1 930 = 105 := hI.2.2.2.1.2.2
  refine bl_go oLw_h 60 [176, 249, 305, 361, 374, 430, 486, 566, 634, 714, 781, 884, 963, 1042, 1154, 1222, 1290, 1369, 1472, 1551, 1619, 1675, 1731, 1799, 1867, 1935, 1991, 2016, 2029, 2042, 2067] rfl ?_
  refine Or.inr (Or.inr ⟨k30, vp_in_nI (by omega) (by omega), ?_⟩)
  refine ⟨fun _ => ?_, fun j off ho _ _ => ?_⟩
  · exact hk _ _ _ _ _ hI (by omega) (by omega)
  · match j, ho with
    | 0, ho =>
      cases ho
      exact lw_0 hlt hI ⟨hi, hL⟩ hb hk
    | 1, ho =>
      cases ho
      exact lw_1 hlt hI ⟨hi, hL⟩ hb hk
    | 2, ho =>
      cases ho
      exact lw_2 hlt hI ⟨hi, hL⟩ hb hk
    | 3, ho =>
      cases ho
      exact lw_3 hlt hI ⟨hi, hL⟩ hb hk
    | 4, ho =>
      cases ho
      exact lw_4 hlt hI ⟨hi, hL⟩ hb hk
    | 5, ho =>
      cases ho
      exact lw_5 hlt hI ⟨hi, hL⟩ hb hk
    | 6, ho =>
      cases ho
      exact lw_6 hlt hI ⟨hi, hL⟩ hb hk
    | 7, ho =>
      cases ho
      exact lw_7 hlt hI ⟨hi, hL⟩ hb hk
    | 8, ho =>
      cases ho
      exact lw_8 hlt hI ⟨hi, hL⟩ hb hk
    | 9, ho =>
      cases ho
      exact lw_9 hlt hI ⟨hi, hL⟩ hb hk
    | 10, ho =>
      cases ho
      exact lw_10 hlt hI ⟨hi, hL⟩ hb hk
    | 11, ho =>
      cases ho
      exact lw_11 hlt hI ⟨hi, hL⟩ hb hk
    | 12, ho =>
      cases ho
      exact lw_12 hlt hI ⟨hi, hL⟩ hb hk
    | 13, ho =>
      cases ho
      exact lw_13 hlt hI ⟨hi, hL⟩ hb hk
    | 14, ho =>
      cases ho
      exact lw_14 hlt hI ⟨hi, hL⟩ hb hk
    | 15, ho =>
      cases ho
      exact lw_15 hlt hI ⟨hi, hL⟩ hb hk
    | 16, ho =>
      cases ho
      exact lw_16 hlt hI ⟨hi, hL⟩ hb hk
    | 17, ho =>
      cases ho
      exact lw_17 hlt hI ⟨hi, hL⟩ hb hk
    | 18, ho =>
      cases ho
      exact lw_18 hlt hI ⟨hi, hL⟩ hb hk
    | 19, ho =>
      cases ho
      exact lw_19 hlt hI ⟨hi, hL⟩ hb hk
    | 20, ho =>
      cases ho
      exact lw_20 hlt hI ⟨hi, hL⟩ hb hk
    | 21, ho =>
      cases ho
      exact lw_21 hlt hI ⟨hi, hL⟩ hb hk
    | 22, ho =>
      cases ho
      exact lw_22 hlt hI ⟨hi, hL⟩ hb hk
    | 23, ho =>
      cases ho
      exact lw_23 hlt hI ⟨hi, hL⟩ hb hk
    | 24, ho =>
      cases ho
      exact lw_24 hlt hI ⟨hi, hL⟩ hb hk
    | 25, ho =>
      cases ho
      exact lw_25 hlt hI ⟨hi, hL⟩ hb hk
    | 26, ho =>
      cases ho
      exact lw_26 hlt hI ⟨hi, hL⟩ hb hk
    | 27, ho =>
      cases ho
      exact lw_27 hlt hI ⟨hi, hL⟩ hb hk
    | 28, ho =>
      cases ho
      exact lw_28 hlt hI ⟨hi, hL⟩ hb hk
    | 29, ho =>
      cases ho
      exact lw_29 hlt hI ⟨hi, hL⟩ hb hk
    | _ + 30, ho => exact absurd ho (by simp)
theorem lw_loop (hlt : l.stackTraces = false) (hL : G.2.2.2.2.1 ≤ 3072) (hQ : ∀ s', Q (.inl (some (.int 1))) s') : ∀ (n i : Nat) (s : bl_Mem) (S : cS) (h z : Nat) (b : Nat × Nat), lwI s S h z → i ≤ 3072 → G.2.2.2.2.1 ≤ i + 6 * n + 5 → pC s.2.2.2.1 n ≤ b.1 → pS s.2.2.2.1 n ≤ b.2 → bl_WP G l 40 mL_law 23 (lvL i) [] s b Q := by
  have hend : ∀ (i : Nat) (s : bl_Mem) (b : Nat × Nat), bl_WP G l 40 mL_law 2073 (lvL i) [] s b Q := fun i s b => by
    refine bl_go oLw_e 10 [] rfl ?_
    exact ⟨fun _ => Or.inr rfl, hQ s⟩
  intro n
  induction n with
  | zero =>
    intro i s S h z b hI hi hn hb1 hb2
    have k30 : s.2.2.2.1 930 = 105 := hI.2.2.2.1.2.2
    refine bl_go oLw_h 60 [33, 2073] rfl ?_
    refine Or.inr (Or.inr ⟨k30, fun _ => hend i s b, fun h30 => ?_⟩)
    exfalso
    simp (disch := omega) only [zI_n, zI_o, zI_lit, zI_neg, zI_add, zI_sub, zI_mul, zI_lt, zI_le, zI_eq, Int.toNat_natCast, ge_iff_le, gt_iff_lt] at h30
    omega
  | succ n ih =>
    intro i s S h z b hI hi hn hb1 hb2
    have k30 : s.2.2.2.1 930 = 105 := hI.2.2.2.1.2.2
    refine bl_go oLw_h 60 [33, 2073] rfl ?_
    refine Or.inr (Or.inr ⟨k30, fun _ => hend i s b, fun h30 => ?_⟩)
    simp (disch := omega) only [zI_n, zI_o, zI_lit, zI_neg, zI_add, zI_sub, zI_mul, zI_lt, zI_le, zI_eq, Int.toNat_natCast, ge_iff_le, gt_iff_lt] at h30
    refine lw_sw hlt hL (n := n) hI (by omega) ⟨hb1, hb2⟩ (fun s' S' h' z' b' hI' hb1' hb2' => ?_)
    refine bl_go oLw_e 10 [23] rfl ?_
    refine bl_lv (lv' := lvL (i + 6)) [1, 2, 3, 4, 0] ?_ (ih (i + 6) s' S' h' z' b' hI' (by omega) (by omega) hb1' hb2')
    unfold lvL
    rw [← nI_add i 6]
    rfl
/-- what is there at the law's beginning: the script, static rows, texts -/
def lwK0 (a : Nat) : Nat := if a = 930 then 105 else if 940 ≤ a ∧ a < 945 then 100 + (a - 940) else if 950 ≤ a ∧ a < 967 then 110 + (a - 950) else 0
def lw_s0 : bl_Mem := (fun _ _ => 0, fun _ _ => 0, fun _ _ => none, lwK0, fun _ => 0)
end LWL
