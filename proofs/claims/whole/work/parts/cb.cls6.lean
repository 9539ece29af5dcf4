/-! ===== ButterLeaves: kitchen and steps told, tape ===== -/
def tdE (x : Int32) : Nat := if wb 9 x then 0 else 1
def tdV (A : aS) (x : Int32) : Int32 := if x = 9 then nI A.2.2.1 else if x = 8 then nI A.2.2.2.2 else nI (A.1 (rn x))
def rmE (x : Int32) : Nat := if wb 23 x then 0 else 1
def spE (A : aS) (x y w : Int32) : Nat := if rb A.2.2.1 x then (if rb (A.2.2.2.1 (rn x)).1 y then (if wb 2 w then 0 else 3) else 2) else 1
section CLS6
variable {G : bl_G} {l : Launch} {d : Nat} {I I' : Nat → Nat → Int32} {J J' : Nat → Nat → Int64} {R : Nat → Nat → Option Nat} {K N : Nat → Nat} {S : cS} {h : Nat} {x y w a b : Int32}

theorem c_BL_told (hlt : l.stackTraces = false) (hI : clI (I, J, R, K, N) S h) : bl_MC G l d mX10_told [.ref 100, .int x] (I, J, R, K, N) (1, 6) (fun o s' => s' = (I, J, R, K, N) ∧ xO xLi (tdE x) (.int (tdV S.1 x)) o) := by
  obtain ⟨⟨kx, ⟨rx_0, rx_1, rx_2, rx_3, rx_4, rx_5, rx_6, rx_7⟩, ⟨kxr, nxr⟩, ⟨kxn, nxn⟩, kxb, ⟨kxi, nxi⟩, ⟨kxj, nxj⟩⟩, hTp, hUn, hBn, hK1, hK2, hSt, hStr⟩ := hI.1
  obtain ⟨hhs, hh⟩ := hI.house
  obtain ⟨hh0, kxh, rxh_0, rxh_1, rxh_2, ⟨kxhv, nxhv⟩, -, ⟨kxhd, nxhd⟩⟩ := hhs
  have rx_8 := hI.2.1.2.1
  have hkc := hI.2.2.2.2.2.1
  have hn := hI.2.2.2.2.2.2.1
  dsimp only at kx rx_8 hkc hn
  by_cases hw : 0 ≤ x ∧ x ≤ 9
  · have hW : tdE x = 0 := by unfold tdE; rw [if_pos (wb_t hw)]
    obtain ⟨v, hv, rfl⟩ := i32_nat (b := 9) (by omega) hw.1 hw.2
    refine bl_MC_intro (by decide +kernel) rfl (Nat.le_of_ble_eq_true rfl) ?_
    refine bl_go oX10_told 80 [] rfl ?_
    refine ⟨fun h1 => ?_, fun h1 => ?_⟩
    · try simp (disch := omega) only [zI_n, zI_o, zI_lit, zI_neg, zI_add, zI_sub, zI_mul, zI_lt, zI_le, zI_eq, zI_clamp, zI_in, zI_div, zI_rem, lg_lt0, lg_gt0, lg_eq0, lg_le0, lg_ge0, Int.toNat_natCast, ge_iff_le, gt_iff_lt, List.length_cons, List.length_nil, bl_up2_at, bl_up2_nk, bl_up2_nx] at h1
      first
      | (exfalso; first | omega | exact h1 trivial)
      | (refine ⟨hlt, (Nat.le_of_ble_eq_true rfl), (Nat.le_of_ble_eq_true rfl), (Nat.le_of_ble_eq_true rfl), ?_⟩
         try show _ ∧ _
         try dsimp only [bl_pv]
         fail /- ret10 -/)
    · try simp (disch := omega) only [zI_n, zI_o, zI_lit, zI_neg, zI_add, zI_sub, zI_mul, zI_lt, zI_le, zI_eq, zI_clamp, zI_in, zI_div, zI_rem, lg_lt0, lg_gt0, lg_eq0, lg_le0, lg_ge0, Int.toNat_natCast, ge_iff_le, gt_iff_lt, List.length_cons, List.length_nil, bl_up2_at, bl_up2_nk, bl_up2_nx] at h1
      first
      | (exfalso; first | omega | exact h1 trivial)
      | (refine ⟨fun h7 => ?_, fun h7 => ?_⟩
         · try simp (disch := omega) only [zI_n, zI_o, zI_lit, zI_neg, zI_add, zI_sub, zI_mul, zI_lt, zI_le, zI_eq, zI_clamp, zI_in, zI_div, zI_rem, lg_lt0, lg_gt0, lg_eq0, lg_le0, lg_ge0, Int.toNat_natCast, ge_iff_le, gt_iff_lt, List.length_cons, List.length_nil, bl_up2_at, bl_up2_nk, bl_up2_nx] at h7
           first
           | (exfalso; first | omega | exact h7 trivial)
           | (refine ⟨fun h23 => ?_, fun h23 => ?_⟩
              · try simp (disch := omega) only [zI_n, zI_o, zI_lit, zI_neg, zI_add, zI_sub, zI_mul, zI_lt, zI_le, zI_eq, zI_clamp, zI_in, zI_div, zI_rem, lg_lt0, lg_gt0, lg_eq0, lg_le0, lg_ge0, Int.toNat_natCast, ge_iff_le, gt_iff_lt, List.length_cons, List.length_nil, bl_up2_at, bl_up2_nk, bl_up2_nx] at h23
                first
                | (exfalso; first | omega | exact h23 trivial)
                | (refine ⟨fun h34 => ?_, fun h34 => ?_⟩
                   · try simp (disch := omega) only [zI_n, zI_o, zI_lit, zI_neg, zI_add, zI_sub, zI_mul, zI_lt, zI_le, zI_eq, zI_clamp, zI_in, zI_div, zI_rem, lg_lt0, lg_gt0, lg_eq0, lg_le0, lg_ge0, Int.toNat_natCast, ge_iff_le, gt_iff_lt, List.length_cons, List.length_nil, bl_up2_at, bl_up2_nk, bl_up2_nx] at h34
                     first
                     | (exfalso; first | omega | exact h34 trivial)
                     | (refine ⟨kx, _, bl_vs rx_8, kxh, _, bl_vs rxh_0, Or.inl ⟨kxhv, (by (try dsimp only [bl_pv]); rw [nxhv]; exact vp_in_nI (by omega) (by omega)), (fun h => by cases h), ?_⟩⟩
                        try show _ ∧ _
                        try dsimp only [bl_pv]
                        refine ⟨rfl, Or.inl ⟨hW, ?_⟩⟩
                        unfold tdV
                        first
                        | (have e0 : v = 9 := by omega
                           subst e0
                           rw [if_pos (show nI 9 = 9 from rfl), hn.1])
                        | (have e1 : v < 8 := by omega
                           have q9 : ¬ nI v = 9 := fun e => by have := (nI_eqk (a := v) (b := 9) (by omega) (by omega)).mp e; omega
                           have q8 : ¬ nI v = 8 := fun e => by have := (nI_eqk (a := v) (b := 8) (by omega) (by omega)).mp e; omega
                           rw [if_neg q9, if_neg q8, nI_clamp (by omega), hkc.1 v (by omega), show rn (nI v) = v from nI_clamp (by omega)]))
                   · try simp (disch := omega) only [zI_n, zI_o, zI_lit, zI_neg, zI_add, zI_sub, zI_mul, zI_lt, zI_le, zI_eq, zI_clamp, zI_in, zI_div, zI_rem, lg_lt0, lg_gt0, lg_eq0, lg_le0, lg_ge0, Int.toNat_natCast, ge_iff_le, gt_iff_lt, List.length_cons, List.length_nil, bl_up2_at, bl_up2_nk, bl_up2_nx] at h34
                     first
                     | (exfalso; first | omega | exact h34 trivial)
                     | (refine ⟨kx, (fun h => by cases h), ?_⟩
                        try show _ ∧ _
                        try dsimp only [bl_pv]
                        refine ⟨rfl, Or.inl ⟨hW, ?_⟩⟩
                        unfold tdV
                        first
                        | (have e0 : v = 9 := by omega
                           subst e0
                           rw [if_pos (show nI 9 = 9 from rfl), hn.1])
                        | (have e1 : v < 8 := by omega
                           have q9 : ¬ nI v = 9 := fun e => by have := (nI_eqk (a := v) (b := 9) (by omega) (by omega)).mp e; omega
                           have q8 : ¬ nI v = 8 := fun e => by have := (nI_eqk (a := v) (b := 8) (by omega) (by omega)).mp e; omega
                           rw [if_neg q9, if_neg q8, nI_clamp (by omega), hkc.1 v (by omega), show rn (nI v) = v from nI_clamp (by omega)])))
              · try simp (disch := omega) only [zI_n, zI_o, zI_lit, zI_neg, zI_add, zI_sub, zI_mul, zI_lt, zI_le, zI_eq, zI_clamp, zI_in, zI_div, zI_rem, lg_lt0, lg_gt0, lg_eq0, lg_le0, lg_ge0, Int.toNat_natCast, ge_iff_le, gt_iff_lt, List.length_cons, List.length_nil, bl_up2_at, bl_up2_nk, bl_up2_nx] at h23
                first
                | (exfalso; first | omega | exact h23 trivial)
                | (refine ⟨kx, (fun h => by cases h), ?_⟩
                   try show _ ∧ _
                   try dsimp only [bl_pv]
                   have e0 : v = 8 := by omega
                   subst e0
                   exact ⟨rfl, Or.inl ⟨hW, by unfold tdV; rw [if_neg (by decide), if_pos (show nI 8 = 8 from rfl), hn.2.2.1]⟩⟩))
         · try simp (disch := omega) only [zI_n, zI_o, zI_lit, zI_neg, zI_add, zI_sub, zI_mul, zI_lt, zI_le, zI_eq, zI_clamp, zI_in, zI_div, zI_rem, lg_lt0, lg_gt0, lg_eq0, lg_le0, lg_ge0, Int.toNat_natCast, ge_iff_le, gt_iff_lt, List.length_cons, List.length_nil, bl_up2_at, bl_up2_nk, bl_up2_nx] at h7
           first
           | (exfalso; first | omega | exact h7 trivial)
           | (refine ⟨hlt, (Nat.le_of_ble_eq_true rfl), (Nat.le_of_ble_eq_true rfl), (Nat.le_of_ble_eq_true rfl), ?_⟩
              try show _ ∧ _
              try dsimp only [bl_pv]
              fail /- ret10 -/))
  · have hW : tdE x = 1 := by unfold tdE; rw [if_neg (wb_f hw)]
    refine bl_MC_intro (by decide +kernel) rfl (Nat.le_of_ble_eq_true rfl) ?_
    refine bl_go oX10_told 80 [20] rfl ?_
    refine ⟨fun h1 => ?_, fun h1 => ?_⟩
    · try simp (disch := omega) only [bl_pv, cl0, cl1, cl2, cl3, cl4, cl5, cl6, cl7, cl8, cl9, bl_up2_at, bl_up2_nk, bl_up2_nx] at h1
      refine ⟨hlt, (Nat.le_of_ble_eq_true rfl), (Nat.le_of_ble_eq_true rfl), (Nat.le_of_ble_eq_true rfl), ?_⟩
      try show _ ∧ _
      try dsimp only [bl_pv]
      exact ⟨rfl, Or.inr ⟨0, bl_IAE, hW, rfl, rfl⟩⟩
    · try simp (disch := omega) only [bl_pv, cl0, cl1, cl2, cl3, cl4, cl5, cl6, cl7, cl8, cl9, bl_up2_at, bl_up2_nk, bl_up2_nx] at h1
      refine ⟨fun h7 => ?_, fun h7 => ?_⟩
      · try simp (disch := omega) only [bl_pv, cl0, cl1, cl2, cl3, cl4, cl5, cl6, cl7, cl8, cl9, bl_up2_at, bl_up2_nk, bl_up2_nx] at h7
        try dsimp only [bl_pv]
        exact absurd ⟨Int32.not_lt.mp h1, h7⟩ hw
      · try simp (disch := omega) only [bl_pv, cl0, cl1, cl2, cl3, cl4, cl5, cl6, cl7, cl8, cl9, bl_up2_at, bl_up2_nk, bl_up2_nx] at h7
        refine ⟨hlt, (Nat.le_of_ble_eq_true rfl), (Nat.le_of_ble_eq_true rfl), (Nat.le_of_ble_eq_true rfl), ?_⟩
        try show _ ∧ _
        try dsimp only [bl_pv]
        exact ⟨rfl, Or.inr ⟨0, bl_IAE, hW, rfl, rfl⟩⟩
theorem c_BL_room (hlt : l.stackTraces = false) (hI : clI (I, J, R, K, N) S h) : bl_MC G l d mX10_room [.ref 100, .int x] (I, J, R, K, N) (1, 6) (fun o s' => s' = (I, J, R, K, N) ∧ xO xLi (rmE x) (.int (S.1.2.1 (rn x))) o) := by
  obtain ⟨⟨kx, ⟨rx_0, rx_1, rx_2, rx_3, rx_4, rx_5, rx_6, rx_7⟩, ⟨kxr, nxr⟩, ⟨kxn, nxn⟩, kxb, ⟨kxi, nxi⟩, ⟨kxj, nxj⟩⟩, hTp, hUn, hBn, hK1, hK2, hSt, hStr⟩ := hI.1
  obtain ⟨hhs, hh⟩ := hI.house
  obtain ⟨hh0, kxh, rxh_0, rxh_1, rxh_2, ⟨kxhv, nxhv⟩, -, ⟨kxhd, nxhd⟩⟩ := hhs
  have rx_8 := hI.2.1.2.1
  have hkc := hI.2.2.2.2.2.1
  have hn := hI.2.2.2.2.2.2.1
  dsimp only at kx rx_8 hkc hn
  by_cases hw : 0 ≤ x ∧ x ≤ 23
  · have hW : rmE x = 0 := by unfold rmE; rw [if_pos (wb_t hw)]
    obtain ⟨v, hv, rfl⟩ := i32_nat (b := 23) (by omega) hw.1 hw.2
    refine bl_MC_intro (by decide +kernel) rfl (Nat.le_of_ble_eq_true rfl) ?_
    refine bl_go oX10_room 80 [] rfl ?_
    refine ⟨fun h1 => ?_, fun h1 => ?_⟩
    · try simp (disch := omega) only [zI_n, zI_o, zI_lit, zI_neg, zI_add, zI_sub, zI_mul, zI_lt, zI_le, zI_eq, zI_clamp, zI_in, zI_div, zI_rem, lg_lt0, lg_gt0, lg_eq0, lg_le0, lg_ge0, Int.toNat_natCast, ge_iff_le, gt_iff_lt, List.length_cons, List.length_nil, bl_up2_at, bl_up2_nk, bl_up2_nx] at h1
      first
      | (exfalso; first | omega | exact h1 trivial)
      | (refine ⟨hlt, (Nat.le_of_ble_eq_true rfl), (Nat.le_of_ble_eq_true rfl), (Nat.le_of_ble_eq_true rfl), ?_⟩
         try show _ ∧ _
         try dsimp only [bl_pv]
         fail /- ret10 -/)
    · try simp (disch := omega) only [zI_n, zI_o, zI_lit, zI_neg, zI_add, zI_sub, zI_mul, zI_lt, zI_le, zI_eq, zI_clamp, zI_in, zI_div, zI_rem, lg_lt0, lg_gt0, lg_eq0, lg_le0, lg_ge0, Int.toNat_natCast, ge_iff_le, gt_iff_lt, List.length_cons, List.length_nil, bl_up2_at, bl_up2_nk, bl_up2_nx] at h1
      first
      | (exfalso; first | omega | exact h1 trivial)
      | (refine ⟨fun h7 => ?_, fun h7 => ?_⟩
         · try simp (disch := omega) only [zI_n, zI_o, zI_lit, zI_neg, zI_add, zI_sub, zI_mul, zI_lt, zI_le, zI_eq, zI_clamp, zI_in, zI_div, zI_rem, lg_lt0, lg_gt0, lg_eq0, lg_le0, lg_ge0, Int.toNat_natCast, ge_iff_le, gt_iff_lt, List.length_cons, List.length_nil, bl_up2_at, bl_up2_nk, bl_up2_nx] at h7
           first
           | (exfalso; first | omega | exact h7 trivial)
           | (refine ⟨kx, _, bl_vs rx_8, kxh, _, bl_vs rxh_2, Or.inl ⟨kxhd, (by (try dsimp only [bl_pv]); rw [nxhd]; exact vp_in_nI (by omega) (by omega)), (fun h => by cases h), ?_⟩⟩
              try show _ ∧ _
              try dsimp only [bl_pv]
              refine ⟨rfl, Or.inl ⟨hW, ?_⟩⟩
              rw [nI_clamp (by omega), hkc.2 v (by omega), show rn (nI v) = v from nI_clamp (by omega)])
         · try simp (disch := omega) only [zI_n, zI_o, zI_lit, zI_neg, zI_add, zI_sub, zI_mul, zI_lt, zI_le, zI_eq, zI_clamp, zI_in, zI_div, zI_rem, lg_lt0, lg_gt0, lg_eq0, lg_le0, lg_ge0, Int.toNat_natCast, ge_iff_le, gt_iff_lt, List.length_cons, List.length_nil, bl_up2_at, bl_up2_nk, bl_up2_nx] at h7
           first
           | (exfalso; first | omega | exact h7 trivial)
           | (refine ⟨hlt, (Nat.le_of_ble_eq_true rfl), (Nat.le_of_ble_eq_true rfl), (Nat.le_of_ble_eq_true rfl), ?_⟩
              try show _ ∧ _
              try dsimp only [bl_pv]
              fail /- ret10 -/))
  · have hW : rmE x = 1 := by unfold rmE; rw [if_neg (wb_f hw)]
    refine bl_MC_intro (by decide +kernel) rfl (Nat.le_of_ble_eq_true rfl) ?_
    refine bl_go oX10_room 80 [20] rfl ?_
    refine ⟨fun h1 => ?_, fun h1 => ?_⟩
    · try simp (disch := omega) only [bl_pv, cl0, cl1, cl2, cl3, cl4, cl5, cl6, cl7, cl8, cl9, bl_up2_at, bl_up2_nk, bl_up2_nx] at h1
      refine ⟨hlt, (Nat.le_of_ble_eq_true rfl), (Nat.le_of_ble_eq_true rfl), (Nat.le_of_ble_eq_true rfl), ?_⟩
      try show _ ∧ _
      try dsimp only [bl_pv]
      exact ⟨rfl, Or.inr ⟨0, bl_IAE, hW, rfl, rfl⟩⟩
    · try simp (disch := omega) only [bl_pv, cl0, cl1, cl2, cl3, cl4, cl5, cl6, cl7, cl8, cl9, bl_up2_at, bl_up2_nk, bl_up2_nx] at h1
      refine ⟨fun h7 => ?_, fun h7 => ?_⟩
      · try simp (disch := omega) only [bl_pv, cl0, cl1, cl2, cl3, cl4, cl5, cl6, cl7, cl8, cl9, bl_up2_at, bl_up2_nk, bl_up2_nx] at h7
        try dsimp only [bl_pv]
        exact absurd ⟨Int32.not_lt.mp h1, h7⟩ hw
      · try simp (disch := omega) only [bl_pv, cl0, cl1, cl2, cl3, cl4, cl5, cl6, cl7, cl8, cl9, bl_up2_at, bl_up2_nk, bl_up2_nx] at h7
        refine ⟨hlt, (Nat.le_of_ble_eq_true rfl), (Nat.le_of_ble_eq_true rfl), (Nat.le_of_ble_eq_true rfl), ?_⟩
        try show _ ∧ _
        try dsimp only [bl_pv]
        exact ⟨rfl, Or.inr ⟨0, bl_IAE, hW, rfl, rfl⟩⟩
theorem c_BL_fault (hI : clI (I, J, R, K, N) S h) : bl_MC G l d mX10_fault [.ref 100] (I, J, R, K, N) (0, 0) (fun o s' => s' = (I, J, R, K, N) ∧ o = .inl (some (.int S.2.2.2.2.1))) := by
  obtain ⟨⟨kx, ⟨rx_0, rx_1, rx_2, rx_3, rx_4, rx_5, rx_6, rx_7⟩, ⟨kxr, nxr⟩, ⟨kxn, nxn⟩, kxb, ⟨kxi, nxi⟩, ⟨kxj, nxj⟩⟩, hTp, hUn, hBn, hK1, hK2, hSt, hStr⟩ := hI.1
  have kxt := hTp.2.1
  have ht3 := hI.2.2.2.2.1.2.1
  dsimp only at kx rx_0 kxt ht3
  refine bl_MC_intro (by decide +kernel) rfl (Nat.le_of_ble_eq_true rfl) ?_
  refine bl_go oX10_fault 80 [] rfl ?_
  refine ⟨kx, _, bl_vs rx_0, kxt, (fun h => by cases h), ?_⟩
  try show _ ∧ _
  try dsimp only [bl_pv]
  rw [ht3]; exact ⟨rfl, rfl⟩
theorem c_BL_count (hI : clI (I, J, R, K, N) S h) : bl_MC G l d mX10_count [.ref 100, .int x] (I, J, R, K, N) (0, 0) (fun o s' => s' = (I, J, R, K, N) ∧ o = .inl (some (.int (if x = 0 then nI S.2.2.2.2.2.1 else if x = 1 then nI S.2.2.1 else zI (-1))))) := by
  obtain ⟨⟨kx, ⟨rx_0, rx_1, rx_2, rx_3, rx_4, rx_5, rx_6, rx_7⟩, ⟨kxr, nxr⟩, ⟨kxn, nxn⟩, kxb, ⟨kxi, nxi⟩, ⟨kxj, nxj⟩⟩, hTp, hUn, hBn, hK1, hK2, hSt, hStr⟩ := hI.1
  have kxt := hTp.2.1
  have ht1 := hI.2.2.2.2.1.1
  have hn := hI.2.2.2.2.2.2.1.2.1
  dsimp only at kx rx_0 kxt ht1 hn
  refine bl_MC_intro (by decide +kernel) rfl (Nat.le_of_ble_eq_true rfl) ?_
  refine bl_go oX10_count 80 [] rfl ?_
  refine ⟨fun h1 => ?_, fun h1 => ?_⟩
  · try simp (disch := omega) only [bl_pv, cl0, cl1, cl2, cl3, cl4, cl5, cl6, cl7, cl8, cl9, bl_up2_at, bl_up2_nk, bl_up2_nx] at h1
    refine ⟨fun h11 => ?_, fun h11 => ?_⟩
    · try simp (disch := omega) only [bl_pv, cl0, cl1, cl2, cl3, cl4, cl5, cl6, cl7, cl8, cl9, bl_up2_at, bl_up2_nk, bl_up2_nx] at h11
      refine ⟨(fun h => by cases h), ?_⟩
      try show _ ∧ _
      try dsimp only [bl_pv]
      first
      | (rw [if_neg h1, if_pos h11, ht1]; exact ⟨rfl, rfl⟩)
      | (rw [if_neg h1, if_neg h11]; exact ⟨rfl, rfl⟩)
    · try simp (disch := omega) only [bl_pv, cl0, cl1, cl2, cl3, cl4, cl5, cl6, cl7, cl8, cl9, bl_up2_at, bl_up2_nk, bl_up2_nx] at h11
      refine ⟨kx, _, bl_vs rx_0, kxt, (fun h => by cases h), ?_⟩
      try show _ ∧ _
      try dsimp only [bl_pv]
      first
      | (rw [if_neg h1, if_pos h11, ht1]; exact ⟨rfl, rfl⟩)
      | (rw [if_neg h1, if_neg h11]; exact ⟨rfl, rfl⟩)
  · try simp (disch := omega) only [bl_pv, cl0, cl1, cl2, cl3, cl4, cl5, cl6, cl7, cl8, cl9, bl_up2_at, bl_up2_nk, bl_up2_nx] at h1
    refine ⟨kx, (fun h => by cases h), ?_⟩
    try show _ ∧ _
    try dsimp only [bl_pv]
    rw [hn, if_pos h1]; exact ⟨rfl, rfl⟩

theorem c_BL_step (hlt : l.stackTraces = false) (hI : clI (I, J, R, K, N) S h) (hO : csO S) : bl_MC G l (d + 1) mX10_step [.ref 100, .int x, .int y, .int w] (I, J, R, K, N) (2, 12) (fun o s' => s' = (I, J, R, K, N) ∧ xO xL3 (spE S.1 x y w) (.int (stv (S.1.2.2.2.1 (rn x)) (rn y) (rn w))) o) := by
  obtain ⟨⟨kx, ⟨rx_0, rx_1, rx_2, rx_3, rx_4, rx_5, rx_6, rx_7⟩, ⟨kxr, nxr⟩, ⟨kxn, nxn⟩, kxb, ⟨kxi, nxi⟩, ⟨kxj, nxj⟩⟩, hTp, hUn, hBn, hK1, hK2, hSt, hStr⟩ := hI.1
  have hc := hO.2.2.1
  dsimp only at kx
  by_cases hz : rb S.1.2.2.1 x = true
  · obtain ⟨r, hr, rfl, er⟩ := rb_n (by omega) hz
    obtain ⟨⟨m1, m2, m3, m4⟩, hrc, hro⟩ := hI.2.2.2.2.2.2.2.1 r hr
    have m1' : rcS R K N (300 + 10 * r) := m1
    obtain ⟨krp, rrp_0, rrp_1, krpk, nrpk, krpn, nrpn⟩ := m1
    dsimp only at krp rrp_0 rrp_1 krpk nrpk krpn nrpn hrc
    have h20 := hrc.2.1
    by_cases hy : rb (S.1.2.2.2.1 r).1 y = true
    · obtain ⟨k, hk, rfl, ek⟩ := rb_n (by omega) hy
      have eck : (nI k).toNatClampNeg = k := nI_clamp (by omega)
      obtain ⟨g1, g2, g3, g4⟩ := hrc.2.2 k hk
      have hsz := hrc.1
      by_cases hw : 0 ≤ w ∧ w ≤ 2
      · have hW : spE S.1 (nI r) (nI k) w = 0 := by unfold spE; rw [if_pos hz, er, if_pos hy, if_pos (wb_t hw)]
        obtain ⟨v, hv, rfl⟩ := i32_nat (b := 2) (by omega) hw.1 hw.2
        have ev : rn (nI v) = v := nI_clamp (by omega)
        refine bl_MC_intro (by decide +kernel) rfl (Nat.le_of_ble_eq_true rfl) ?_
        refine bl_go oX10_step 80 [] rfl ?_
        refine ⟨rfl, rfl, kx, (Nat.le_of_ble_eq_true rfl), (1, 6), Nat.le_of_ble_eq_true rfl, Nat.le_of_ble_eq_true rfl, bl_MC_mono (c_BL_recipeOfT (d := d) (r := r) hI hr hc rfl) (fun o2 σ2 q2 => ?_)⟩
        try dsimp only [bl_pv] at q2
        obtain ⟨rfl, rfl⟩ := q2
        refine bl_go oX10_step 80 [] rfl ?_
        refine ⟨fun h8 => ?_, fun h8 => ?_⟩
        · try simp (disch := omega) only [hsz, zI_n, zI_o, zI_lit, zI_neg, zI_add, zI_sub, zI_mul, zI_lt, zI_le, zI_eq, zI_clamp, zI_in, zI_div, zI_rem, lg_lt0, lg_gt0, lg_eq0, lg_le0, lg_ge0, Int.toNat_natCast, ge_iff_le, gt_iff_lt, List.length_cons, List.length_nil, bl_up2_at, bl_up2_nk, bl_up2_nx] at h8
          first
          | (exfalso; first | omega | exact h8 trivial)
          | (refine ⟨hlt, (Nat.le_of_ble_eq_true rfl), (Nat.le_of_ble_eq_true rfl), (Nat.le_of_ble_eq_true rfl), ?_⟩
             try show _ ∧ _
             try dsimp only [bl_pv]
             fail /- ret20 -/)
        · try simp (disch := omega) only [hsz, zI_n, zI_o, zI_lit, zI_neg, zI_add, zI_sub, zI_mul, zI_lt, zI_le, zI_eq, zI_clamp, zI_in, zI_div, zI_rem, lg_lt0, lg_gt0, lg_eq0, lg_le0, lg_ge0, Int.toNat_natCast, ge_iff_le, gt_iff_lt, List.length_cons, List.length_nil, bl_up2_at, bl_up2_nk, bl_up2_nx] at h8
          first
          | (exfalso; first | omega | exact h8 trivial)
          | (refine ⟨krp, fun h17 => ?_, fun h17 => ?_⟩
             · try simp (disch := omega) only [hsz, zI_n, zI_o, zI_lit, zI_neg, zI_add, zI_sub, zI_mul, zI_lt, zI_le, zI_eq, zI_clamp, zI_in, zI_div, zI_rem, lg_lt0, lg_gt0, lg_eq0, lg_le0, lg_ge0, Int.toNat_natCast, ge_iff_le, gt_iff_lt, List.length_cons, List.length_nil, bl_up2_at, bl_up2_nk, bl_up2_nx] at h17
               first
               | (exfalso; first | omega | exact h17 trivial)
               | (refine ⟨rfl, (Nat.le_of_ble_eq_true rfl), (1, 6), Nat.le_of_ble_eq_true rfl, Nat.le_of_ble_eq_true rfl, bl_MC_mono (c_BL_needWhatT (d := d) hw) (fun o32 σ32 q32 => ?_)⟩
                  try dsimp only [bl_pv] at q32
                  obtain ⟨rfl, rfl⟩ := q32
                  refine bl_go oX10_step 80 [] rfl ?_
                  refine ⟨fun h36 => ?_, fun h36 => ?_⟩
                  · try simp (disch := omega) only [hsz, zI_n, zI_o, zI_lit, zI_neg, zI_add, zI_sub, zI_mul, zI_lt, zI_le, zI_eq, zI_clamp, zI_in, zI_div, zI_rem, lg_lt0, lg_gt0, lg_eq0, lg_le0, lg_ge0, Int.toNat_natCast, ge_iff_le, gt_iff_lt, List.length_cons, List.length_nil, bl_up2_at, bl_up2_nk, bl_up2_nx] at h36
                    first
                    | (exfalso; first | omega | exact h36 trivial)
                    | (refine ⟨fun h49 => ?_, fun h49 => ?_⟩
                       · try simp (disch := omega) only [hsz, zI_n, zI_o, zI_lit, zI_neg, zI_add, zI_sub, zI_mul, zI_lt, zI_le, zI_eq, zI_clamp, zI_in, zI_div, zI_rem, lg_lt0, lg_gt0, lg_eq0, lg_le0, lg_ge0, Int.toNat_natCast, ge_iff_le, gt_iff_lt, List.length_cons, List.length_nil, bl_up2_at, bl_up2_nk, bl_up2_nx] at h49
                         first
                         | (exfalso; first | omega | exact h49 trivial)
                         | (refine ⟨rfl, rfl, krp, (Nat.le_of_ble_eq_true rfl), (0, 0), Nat.le_of_ble_eq_true rfl, Nat.le_of_ble_eq_true rfl, bl_MC_mono (c_Recipe_unitsOf (d := d) m1' hrc hk) (fun o65 σ65 q65 => ?_)⟩
                            try dsimp only [bl_pv] at q65
                            obtain ⟨rfl, rfl⟩ := q65
                            refine bl_go oX10_step 80 [] rfl ?_
                            refine ⟨(fun h => by cases h), ?_⟩
                            try show _ ∧ _
                            try dsimp only [bl_pv]
                            refine ⟨rfl, Or.inl ⟨hW, ?_⟩⟩
                            unfold stv
                            rw [er, ek, ev]
                            first
                            | (have e0 : v = 1 := by omega
                               subst e0
                               rw [eck, g2, if_neg (by omega), if_neg (by omega)])
                            | (have e0 : v = 2 := by omega
                               subst e0
                               rw [if_pos rfl]
                               unfold st_un
                               by_cases c0 : (S.1.2.2.2.1 r).2.1 k = 0
                               · rw [if_pos c0, if_pos c0]; rfl
                               · rw [if_neg c0, if_neg c0]
                                 by_cases c5 : (S.1.2.2.2.1 r).2.1 k = 5
                                 · rw [if_pos c5, if_neg (by omega), if_pos c5]; rfl
                                 · rw [if_neg c5]
                                   by_cases c6 : (S.1.2.2.2.1 r).2.1 k = 6 ∨ (S.1.2.2.2.1 r).2.1 k = 7
                                   · rw [if_pos c6, if_neg (by omega), if_neg c5]
                                   · rw [if_neg c6, if_pos (by omega)]; rfl))
                       · try simp (disch := omega) only [hsz, zI_n, zI_o, zI_lit, zI_neg, zI_add, zI_sub, zI_mul, zI_lt, zI_le, zI_eq, zI_clamp, zI_in, zI_div, zI_rem, lg_lt0, lg_gt0, lg_eq0, lg_le0, lg_ge0, Int.toNat_natCast, ge_iff_le, gt_iff_lt, List.length_cons, List.length_nil, bl_up2_at, bl_up2_nk, bl_up2_nx] at h49
                         first
                         | (exfalso; first | omega | exact h49 trivial)
                         | (refine ⟨krp, _, bl_vs rrp_1, Or.inl ⟨krpn, (by (try dsimp only [bl_pv]); rw [nrpn]; exact vp_in_nI (by omega) (by omega)), (fun h => by cases h), ?_⟩⟩
                            try show _ ∧ _
                            try dsimp only [bl_pv]
                            refine ⟨rfl, Or.inl ⟨hW, ?_⟩⟩
                            unfold stv
                            rw [er, ek, ev]
                            first
                            | (have e0 : v = 1 := by omega
                               subst e0
                               rw [eck, g2, if_neg (by omega), if_neg (by omega)])
                            | (have e0 : v = 2 := by omega
                               subst e0
                               rw [if_pos rfl]
                               unfold st_un
                               by_cases c0 : (S.1.2.2.2.1 r).2.1 k = 0
                               · rw [if_pos c0, if_pos c0]; rfl
                               · rw [if_neg c0, if_neg c0]
                                 by_cases c5 : (S.1.2.2.2.1 r).2.1 k = 5
                                 · rw [if_pos c5, if_neg (by omega), if_pos c5]; rfl
                                 · rw [if_neg c5]
                                   by_cases c6 : (S.1.2.2.2.1 r).2.1 k = 6 ∨ (S.1.2.2.2.1 r).2.1 k = 7
                                   · rw [if_pos c6, if_neg (by omega), if_neg c5]
                                   · rw [if_neg c6, if_pos (by omega)]; rfl)))
                  · try simp (disch := omega) only [hsz, zI_n, zI_o, zI_lit, zI_neg, zI_add, zI_sub, zI_mul, zI_lt, zI_le, zI_eq, zI_clamp, zI_in, zI_div, zI_rem, lg_lt0, lg_gt0, lg_eq0, lg_le0, lg_ge0, Int.toNat_natCast, ge_iff_le, gt_iff_lt, List.length_cons, List.length_nil, bl_up2_at, bl_up2_nk, bl_up2_nx] at h36
                    first
                    | (exfalso; first | omega | exact h36 trivial)
                    | (refine ⟨krp, _, bl_vs rrp_0, Or.inl ⟨krpk, (by (try dsimp only [bl_pv]); rw [nrpk]; exact vp_in_nI (by omega) (by omega)), (fun h => by cases h), ?_⟩⟩
                       try show _ ∧ _
                       try dsimp only [bl_pv]
                       have e0 : v = 0 := by omega
                       subst e0
                       refine ⟨rfl, Or.inl ⟨hW, ?_⟩⟩
                       unfold stv
                       rw [er, ek, ev, eck, g1, if_neg (by omega), if_pos rfl]))
             · try simp (disch := omega) only [hsz, zI_n, zI_o, zI_lit, zI_neg, zI_add, zI_sub, zI_mul, zI_lt, zI_le, zI_eq, zI_clamp, zI_in, zI_div, zI_rem, lg_lt0, lg_gt0, lg_eq0, lg_le0, lg_ge0, Int.toNat_natCast, ge_iff_le, gt_iff_lt, List.length_cons, List.length_nil, bl_up2_at, bl_up2_nk, bl_up2_nx] at h17
               first
               | (exfalso; first | omega | exact h17 trivial)
               | (refine ⟨hlt, (Nat.le_of_ble_eq_true rfl), (Nat.le_of_ble_eq_true rfl), (Nat.le_of_ble_eq_true rfl), ?_⟩
                  try show _ ∧ _
                  try dsimp only [bl_pv]
                  fail /- ret20 -/))
      · have hW : spE S.1 (nI r) (nI k) w = 3 := by unfold spE; rw [if_pos hz, er, if_pos hy, if_neg (wb_f hw)]
        refine bl_MC_intro (by decide +kernel) rfl (Nat.le_of_ble_eq_true rfl) ?_
        refine bl_go oX10_step 80 [] rfl ?_
        refine ⟨rfl, rfl, kx, (Nat.le_of_ble_eq_true rfl), (1, 6), Nat.le_of_ble_eq_true rfl, Nat.le_of_ble_eq_true rfl, bl_MC_mono (c_BL_recipeOfT (d := d) (r := r) hI hr hc rfl) (fun o2 σ2 q2 => ?_)⟩
        try dsimp only [bl_pv] at q2
        obtain ⟨rfl, rfl⟩ := q2
        refine bl_go oX10_step 80 [] rfl ?_
        refine ⟨fun h8 => ?_, fun h8 => ?_⟩
        · try simp (disch := omega) only [hsz, zI_n, zI_o, zI_lit, zI_neg, zI_add, zI_sub, zI_mul, zI_lt, zI_le, zI_eq, zI_clamp, zI_in, zI_div, zI_rem, lg_lt0, lg_gt0, lg_eq0, lg_le0, lg_ge0, Int.toNat_natCast, ge_iff_le, gt_iff_lt, List.length_cons, List.length_nil, bl_up2_at, bl_up2_nk, bl_up2_nx] at h8
          first
          | (exfalso; first | omega | exact h8 trivial)
          | (refine ⟨hlt, (Nat.le_of_ble_eq_true rfl), (Nat.le_of_ble_eq_true rfl), (Nat.le_of_ble_eq_true rfl), ?_⟩
             try show _ ∧ _
             try dsimp only [bl_pv]
             fail /- ret20 -/)
        · try simp (disch := omega) only [hsz, zI_n, zI_o, zI_lit, zI_neg, zI_add, zI_sub, zI_mul, zI_lt, zI_le, zI_eq, zI_clamp, zI_in, zI_div, zI_rem, lg_lt0, lg_gt0, lg_eq0, lg_le0, lg_ge0, Int.toNat_natCast, ge_iff_le, gt_iff_lt, List.length_cons, List.length_nil, bl_up2_at, bl_up2_nk, bl_up2_nx] at h8
          first
          | (exfalso; first | omega | exact h8 trivial)
          | (refine ⟨krp, fun h17 => ?_, fun h17 => ?_⟩
             · try simp (disch := omega) only [hsz, zI_n, zI_o, zI_lit, zI_neg, zI_add, zI_sub, zI_mul, zI_lt, zI_le, zI_eq, zI_clamp, zI_in, zI_div, zI_rem, lg_lt0, lg_gt0, lg_eq0, lg_le0, lg_ge0, Int.toNat_natCast, ge_iff_le, gt_iff_lt, List.length_cons, List.length_nil, bl_up2_at, bl_up2_nk, bl_up2_nx] at h17
               first
               | (exfalso; first | omega | exact h17 trivial)
               | (refine ⟨rfl, (Nat.le_of_ble_eq_true rfl), (1, 6), Nat.le_of_ble_eq_true rfl, Nat.le_of_ble_eq_true rfl, ?_⟩
                  refine bl_MC_mono (c_BL_needWhatF (d := d) hlt hw) (fun o s' q => ?_)
                  obtain ⟨rfl, rfl⟩ := q
                  exact Or.inl ⟨rfl, rfl, Or.inr ⟨2, bl_IAE, hW, rfl, rfl⟩⟩)
             · try simp (disch := omega) only [hsz, zI_n, zI_o, zI_lit, zI_neg, zI_add, zI_sub, zI_mul, zI_lt, zI_le, zI_eq, zI_clamp, zI_in, zI_div, zI_rem, lg_lt0, lg_gt0, lg_eq0, lg_le0, lg_ge0, Int.toNat_natCast, ge_iff_le, gt_iff_lt, List.length_cons, List.length_nil, bl_up2_at, bl_up2_nk, bl_up2_nx] at h17
               first
               | (exfalso; first | omega | exact h17 trivial)
               | (refine ⟨hlt, (Nat.le_of_ble_eq_true rfl), (Nat.le_of_ble_eq_true rfl), (Nat.le_of_ble_eq_true rfl), ?_⟩
                  try show _ ∧ _
                  try dsimp only [bl_pv]
                  fail /- ret20 -/))
    · have hW : spE S.1 (nI r) y w = 2 := by unfold spE; rw [if_pos hz, er, if_neg hy]
      rw [rb_lt (by omega)] at hy
      refine bl_MC_intro (by decide +kernel) rfl (Nat.le_of_ble_eq_true rfl) ?_
      refine bl_go oX10_step 80 [30] rfl ?_
      refine ⟨rfl, rfl, kx, (Nat.le_of_ble_eq_true rfl), (1, 6), Nat.le_of_ble_eq_true rfl, Nat.le_of_ble_eq_true rfl, bl_MC_mono (c_BL_recipeOfT (d := d) (r := r) hI hr hc rfl) (fun o2 σ2 q2 => ?_)⟩
      try dsimp only [bl_pv] at q2
      obtain ⟨rfl, rfl⟩ := q2
      refine bl_go oX10_step 80 [30] rfl ?_
      refine ⟨fun h8 => ?_, fun h8 => ?_⟩
      · try simp (disch := omega) only [bl_pv, cl0, cl1, cl2, cl3, cl4, cl5, cl6, cl7, cl8, cl9, bl_up2_at, bl_up2_nk, bl_up2_nx] at h8
        refine ⟨hlt, (Nat.le_of_ble_eq_true rfl), (Nat.le_of_ble_eq_true rfl), (Nat.le_of_ble_eq_true rfl), ?_⟩
        try show _ ∧ _
        try dsimp only [bl_pv]
        exact ⟨rfl, Or.inr ⟨1, bl_IOE, hW, rfl, rfl⟩⟩
      · try simp (disch := omega) only [bl_pv, cl0, cl1, cl2, cl3, cl4, cl5, cl6, cl7, cl8, cl9, bl_up2_at, bl_up2_nk, bl_up2_nx] at h8
        refine ⟨krp, fun h17 => ?_, fun h17 => ?_⟩
        · try simp (disch := omega) only [bl_pv, cl0, cl1, cl2, cl3, cl4, cl5, cl6, cl7, cl8, cl9, bl_up2_at, bl_up2_nk, bl_up2_nx] at h17
          try dsimp only [bl_pv]
          rw [hrc.1] at h17; exact absurd ⟨Int32.not_lt.mp h8, h17⟩ hy
        · try simp (disch := omega) only [bl_pv, cl0, cl1, cl2, cl3, cl4, cl5, cl6, cl7, cl8, cl9, bl_up2_at, bl_up2_nk, bl_up2_nx] at h17
          refine ⟨hlt, (Nat.le_of_ble_eq_true rfl), (Nat.le_of_ble_eq_true rfl), (Nat.le_of_ble_eq_true rfl), ?_⟩
          try show _ ∧ _
          try dsimp only [bl_pv]
          exact ⟨rfl, Or.inr ⟨1, bl_IOE, hW, rfl, rfl⟩⟩
  · have hW : spE S.1 x y w = 1 := by unfold spE; rw [if_neg hz]
    refine bl_MC_intro (by decide +kernel) rfl (Nat.le_of_ble_eq_true rfl) ?_
    refine bl_go oX10_step 80 [] rfl ?_
    refine ⟨rfl, rfl, kx, (Nat.le_of_ble_eq_true rfl), (1, 6), Nat.le_of_ble_eq_true rfl, Nat.le_of_ble_eq_true rfl, ?_⟩
    refine bl_MC_mono (c_BL_recipeOfF (d := d) hlt hI hc hz) (fun o s' q => ?_)
    obtain ⟨rfl, rfl⟩ := q
    exact Or.inl ⟨rfl, rfl, Or.inr ⟨0, bl_NSE, hW, rfl, rfl⟩⟩

end CLS6
