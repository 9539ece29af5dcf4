/-! ===== ButterLeaves: a kitchen is read ===== -/
section CLS9
variable {G : bl_G} {l : Launch} {d : Nat} {I I' : Nat → Nat → Int32} {J J' : Nat → Nat → Int64} {R : Nat → Nat → Option Nat} {K N : Nat → Nat} {S : cS} {h : Nat} {x y w a b c e : Int32}
theorem up100 {R : Nat → Nat → Option Nat} {y j : Nat} {v : Option Nat} (h : y ≠ 100) : bl_up2 R 100 j v y = R y := bl_up2_ne h
theorem mkR.up100 {j r : Nat} {v : Option Nat} (h : mkR (I, J, R, K, N) r) : mkR (I', J', bl_up2 R 100 j v, K, N) r := by
  obtain ⟨b1, b2, b3, b4⟩ := h
  refine ⟨rcS.up b1 (by omega), rnS.up b2 (by omega) (by omega), ?_, ?_⟩
  · show bl_up2 R 100 j v 120 r = _; rw [bl_up2_ne (by omega)]; exact b3
  · show bl_up2 R 100 j v 121 r = _; rw [bl_up2_ne (by omega)]; exact b4
theorem clS.up100 {j : Nat} {v : Option Nat} (hj : 8 ≤ j) (h : clS (I, J, R, K, N)) : clS (I', J', bl_up2 R 100 j v, K, N) := by
  obtain ⟨b1, b2, b3, b4, b5, b6, b7, b8⟩ := h
  refine ⟨?_, ?_, ?_, ?_, kiS.up b5 (by omega), kiS.up b6 (by omega), b7, b8⟩
  · unfold clA at b1 ⊢; dsimp only at b1 ⊢
    rw [bl_up2_nk (show 0 ≠ j by omega), bl_up2_nk (show 1 ≠ j by omega), bl_up2_nk (show 2 ≠ j by omega), bl_up2_nk (show 3 ≠ j by omega), bl_up2_nk (show 4 ≠ j by omega), bl_up2_nk (show 5 ≠ j by omega), bl_up2_nk (show 6 ≠ j by omega), bl_up2_nk (show 7 ≠ j by omega)]; exact b1
  · show tpS (bl_up2 R 100 j v) K N 110
    unfold tpS; rw [bl_up2_ne (by omega)]; exact b2
  · unfold unX; dsimp only; rw [bl_up2_ne (show 140 ≠ 100 by omega)]; exact b3
  · show bnS (bl_up2 R 100 j v) K N 150
    unfold bnS; rw [bl_up2_ne (by omega)]; exact b4
theorem clR.up100 {j : Nat} {v : Option Nat} (h : clR (I, J, R, K, N)) : clR (I', J', bl_up2 R 100 j v, K, N) := fun r hr => by
  rcases h r hr with b | ⟨b1, b2, b3⟩
  · exact Or.inl b.up100
  · refine Or.inr ⟨?_, ?_, b3⟩
    · show bl_up2 R 100 j v 120 r = _; rw [bl_up2_ne (by omega)]; exact b1
    · show bl_up2 R 100 j v 121 r = _; rw [bl_up2_ne (by omega)]; exact b2
theorem clW.up100 {j : Nat} {v : Option Nat} (hj : j ≠ 10) (h : clW (I, J, R, K, N)) : clW (I', J', bl_up2 R 100 j v, K, N) := by
  unfold clW at h ⊢; dsimp only at h ⊢; rw [bl_up2_nk (fun e => hj e.symm)]
  rcases h with b | ⟨b1, b2⟩
  · exact Or.inl b
  · refine Or.inr ⟨b1, ?_⟩
    show psS (bl_up2 R 100 j v) K N 200
    unfold psS; rw [bl_up2_ne (by omega)]; exact b2
/-- another kitchen -/
def ktS (S : cS) (tf g : Nat → Nat) : cS := ((tf, fun h => nI (g h), S.1.2.2.1, S.1.2.2.2.1, 12 * tf 8), g, 0, S.2.2.2.1, zI (-1), 0, S.2.2.2.2.2.2)
def hpR (R : Nat → Nat → Option Nat) (h : Nat) : Nat → Nat → Option Nat := bl_up2 (bl_up2 R 100 8 (some (370 - h))) 100 9 (some h)
theorem clI.kitchen {Sk : kst} {tf g : Nat → Nat} {I1 I2 I3 : Nat → Nat → Int32} (hI : clI (I, J, R, K, N) S h) (hO : csO S) (e1 : ∀ y, y ≠ 110 → y ≠ 370 - h + 1 → y ≠ 370 - h + 2 → y ≠ 370 - h + 3 → I1 y = I y) (e2 : I1 110 1 = nI 0 ∧ I1 110 3 = zI (-1)) (e3 : ∀ k, k < 9 → I1 (370 - h + 1) k = Sk.1 k) (e4 : ∀ k, k < 24 → I1 (370 - h + 3) k = rm_deg Sk.2 k) (hk : kAll Sk tf g) (f1 : fgF (bl_up2 I1 100 12 0) I2 R 4) (b : bgF I2 I3 R (nI (12 * tf 8)) 4) (f2 : R 100 10 = some 200 → I3 200 11 = 0) : clI (I3, J, hpR R h, K, N) (ktS S tf g) (370 - h) ∧ cfF (I, J, R, K, N) (I3, J, hpR R h, K, N) := by
  obtain ⟨a1, a2, a3, a4, a5, a6, a7, a8, a9, a10⟩ := hI
  obtain ⟨k1, k2, k3, k4, k5⟩ := hk
  obtain ⟨b1, b2, b3, b4, b5, b6⟩ := b
  have hc4 := hO.2.2.1
  have hh := a2.1
  have hs : ∀ y, y ≠ 100 → y ≠ 200 → (∀ r, r < 4 → y ≠ 400 + 10 * r) → I3 y = I1 y := fun y y1 y2 y3 => by
    rw [b6 y y1 y2 y3, f1.2 y y3, bl_up2_ne y1]
  have hs' : ∀ y, y ≠ 100 → y ≠ 200 → (∀ r, r < 4 → y ≠ 400 + 10 * r) → y ≠ 110 → y ≠ 370 - h + 1 → y ≠ 370 - h + 2 → y ≠ 370 - h + 3 → I3 y = I y := fun y y1 y2 y3 y4 y5 y6 y7 => (hs y y1 y2 y3).trans (e1 y y4 y5 y6 y7)
  have hR : ∀ r, r < 4 → R 121 r = some (400 + 10 * r) → I3 (400 + 10 * r) 7 = 0 ∧ I3 (400 + 10 * r) 8 = 0 ∧ I3 (400 + 10 * r) 9 = 0 := fun r hr hq => by
    obtain ⟨q7, q8, q9⟩ := f1.1 r hr hq
    exact ⟨(b4 r hr 7 (by omega)).trans q7, b3 r hr hq, (b4 r hr 9 (by omega)).trans q9⟩
  have h100 : ∀ j, j ≠ 13 → j ≠ 12 → I3 100 j = I 100 j := fun j j1 j2 => by
    rw [b2 j j1, f1.2 100 (by omega), bl_up2_nk j2, e1 100 (by omega) (by omega) (by omega) (by omega)]
  refine ⟨⟨?_, ?_, ?_, ?_, ?_, ?_, ?_, fun r hr => ?_, ?_, fun hq => ?_⟩, fun y y1 y2 => ⟨hs' y (by omega) (by omega) (by omega) (by omega) (by omega) (by omega) (by omega), rfl, ?_, rfl, rfl⟩⟩
  · exact clS.up100 (I := I) (J := J) (by omega) (clS.up100 (I := I) (J := J) (by omega) a1)
  · refine ⟨by omega, ?_, ?_⟩
    · show bl_up2 (bl_up2 R 100 8 (some (370 - h))) 100 9 (some h) 100 8 = _
      rw [bl_up2_nk (by omega), bl_up2_at]
    · show bl_up2 (bl_up2 R 100 8 (some (370 - h))) 100 9 (some h) 100 9 = _
      rw [bl_up2_at]; congr 1; omega
  · exact clR.up100 (I := I) (J := J) (clR.up100 (I := I) (J := J) a3)
  · exact clW.up100 (I := I) (J := J) (by omega) (clW.up100 (I := I) (J := J) (by omega) a4)
  · unfold clT ktS; dsimp only
    rw [hs 110 (by omega) (by omega) (by omega), hs' 111 (by omega) (by omega) (by omega) (by omega) (by omega) (by omega) (by omega)]
    exact ⟨e2.1, e2.2, a5.2.2⟩
  · refine ⟨fun k hk => ?_, fun i hi => ?_⟩
    · dsimp only; rw [hs _ (by omega) (by omega) (by omega), e3 k hk]; exact k1 k hk
    · dsimp only; rw [hs _ (by omega) (by omega) (by omega), e4 i hi]; exact k5 i hi
  · unfold clN ktS; dsimp only
    rw [h100 11 (by omega) (by omega), b1, b2 12 (by omega), f1.2 100 (by omega), bl_up2_at]
    exact ⟨a7.1, rfl, rfl, fun i hi => absurd hi (by omega)⟩
  · have hr' : r < S.1.2.2.1 := hr
    obtain ⟨c1, c2, c3⟩ := a8 r hr'
    have q := hR r (by omega) c1.2.2.2
    refine ⟨mkR.up100 (I := I) (J := J) (mkR.up100 (I := I) (J := J) c1), c2.nm (hs' _ (by omega) (by omega) (by omega) (by omega) (by omega) (by omega) (by omega)) (hs' _ (by omega) (by omega) (by omega) (by omega) (by omega) (by omega) (by omega)) (hs' _ (by omega) (by omega) (by omega) (by omega) (by omega) (by omega) (by omega)), Or.inl q.1, Or.inl q.2.1, Or.inl q.2.2⟩
  · unfold clB; dsimp only; rw [hs' 150 (by omega) (by omega) (by omega) (by omega) (by omega) (by omega) (by omega)]
    rcases a9 with q | ⟨q1, q2⟩
    · exact Or.inl q
    · refine Or.inr ⟨q1, ?_⟩
      have q3 : bnR I3 150 S.1.2.2.1 S.1.2.2.2.1 := q2.nm (fun y y1 y2 => hs' y (by omega) (by omega) (by omega) (by omega) (by omega) (by omega) (by omega))
      exact q3
  · have hq' : R 100 10 = some 200 := by
      have hq1 : bl_up2 (bl_up2 R 100 8 (some (370 - h))) 100 9 (some h) 100 10 = some 200 := hq
      rw [bl_up2_nk (by omega), bl_up2_nk (by omega)] at hq1; exact hq1
    have hp := (a10 hq').1
    refine ⟨?_, Or.inl (f2 hq')⟩
    unfold pIR at hp ⊢
    dsimp only at hp ⊢
    rw [hs' (200 + 1) (by omega) (by omega) (by omega) (by omega) (by omega) (by omega) (by omega), hs' (200 + 2) (by omega) (by omega) (by omega) (by omega) (by omega) (by omega) (by omega), hs' (200 + 3) (by omega) (by omega) (by omega) (by omega) (by omega) (by omega) (by omega)]
    exact hp
  · show bl_up2 (bl_up2 R 100 8 (some (370 - h))) 100 9 (some h) y = R y
    rw [bl_up2_ne (by omega), bl_up2_ne (by omega)]
theorem c_BL_kitchen (hlt : l.stackTraces = false) (hI : clI (I, J, R, K, N) S h) (hO : csO S) : bl_MC G l (d + 5) mX10_kitchen [.ref 100, .int x] (I, J, R, K, N) (1, 6) (fun o s' => (¬ (0 ≤ x ∧ x ≤ nI S.2.2.1) ∧ o = .inr bl_IAE ∧ s' = (I, J, R, K, N)) ∨ ∃ n, n ≤ S.2.2.1 ∧ x = nI n ∧ ∃ I' R', s' = (I', J, R', K, N) ∧ cfF (I, J, R, K, N) s' ∧ ((∃ f, pkit S.2.2.2.1 n 31 0 un0 0 = .inr f ∧ o = .inl (some (.int (nI f.1 - 10))) ∧ clI s' (S.1, S.2.1, 0, S.2.2.2.1, nI f.2, S.2.2.2.2.2) h) ∨ (∃ Sk tf g, pkit S.2.2.2.1 n 31 0 un0 0 = .inl Sk ∧ kAll Sk tf g ∧ o = .inl (some (.int (Sk.1 0 * Sk.1 1))) ∧ clI s' (ktS S tf g) (370 - h)))) := by
  have hrw : rwS R K N := rwS.of hI.1.1 hI.2.2.1 hI.2.2.2.1
  obtain ⟨⟨kx, ⟨rx_0, rx_1, rx_2, rx_3, rx_4, rx_5, rx_6, rx_7⟩, ⟨kxr, nxr⟩, ⟨kxn, nxn⟩, kxb, ⟨kxi, nxi⟩, ⟨kxj, nxj⟩⟩, hTp, hUn, hBn, hK1, hK2, hSt, hStr⟩ := hI.1
  have ht := hI.2.2.2.2.1
  have kxt := hTp.2.1
  have hh := hI.2.1.1
  have rx_8 := hI.2.1.2.1
  have rx_9 := hI.2.1.2.2
  have hks : kiS R K N (370 - h) := by
    rcases hh with rfl | rfl
    · exact hK2
    · exact hK1
  obtain ⟨hhs, -⟩ := hI.house
  have kxh := hhs.2.1
  have kxs := hks.2.1
  have rxs_0 := hks.2.2.1
  obtain ⟨kxsv, nxsv⟩ := hks.2.2.2.2.2.1
  have hh2 : h ≠ 100 := by omega
  dsimp only at kx rx_0 kxt ht rx_8 rx_9 kxh hSt hStr
  have ht4 := hO.2.2.2.2.2.1
  have hop := c_Tape_open (G := G) (l := l) (d := d + 4) (I := I) (J := J) (R := R) (N := N) (t := 110) (h := I 110 1) (fk := I 110 2) (fp := I 110 3) (en := I 110 4) (at' := I 110 5) (wa := I 110 6) (x := x) kxt ht.1 ht4
  rw [tpI_eta] at hop
  have hrd : ∀ n, n ≤ 400 → _ := fun n hn => c_Tape_readKitchen (G := G) (l := l) (d := d) (I := I) (J := J) (R := R) (N := N) (t := 110) (a := 370 - h) (h := 0) (fk := 0) (fp := zI (-1)) (n := n) (wa := I 110 6) (u0 := 940) (u1 := 941) (u2 := 942) (show tpS R K N 110 from hTp) hks (by omega) hStr (hSt 0 (by omega)) (hSt 1 (by omega)) (hSt 2 (by omega)) hn
  rw [show (110 : Nat) + 1 = 111 from rfl, ht.2.2] at hrd
  refine bl_MC_intro (by decide +kernel) rfl (Nat.le_of_ble_eq_true rfl) ?_
  have L64 : ∀ n I1 (Sk : kst), n ≤ S.2.2.1 → x = nI n → (∀ y, y ≠ 110 → y ≠ 370 - h + 1 → y ≠ 370 - h + 2 → y ≠ 370 - h + 3 → I1 y = I y) → (I1 110 1 = nI 0 ∧ I1 110 3 = zI (-1)) → (∀ k, k < 9 → I1 (370 - h + 1) k = Sk.1 k) → (∀ k, k < 24 → I1 (370 - h + 3) k = rm_deg Sk.2 k) → pkit S.2.2.2.1 n 31 0 un0 0 = .inl Sk → bl_WP G l (d + 5) mX10_kitchen 64 [(2, .ref h), (0, .ref 100), (1, .int x)] [] (I1, J, hpR R h, K, N) (1, 6) (fun o s' => (¬ (0 ≤ x ∧ x ≤ nI S.2.2.1) ∧ o = .inr bl_IAE ∧ s' = (I, J, R, K, N)) ∨ ∃ n, n ≤ S.2.2.1 ∧ x = nI n ∧ ∃ I' R', s' = (I', J, R', K, N) ∧ cfF (I, J, R, K, N) s' ∧ ((∃ f, pkit S.2.2.2.1 n 31 0 un0 0 = .inr f ∧ o = .inl (some (.int (nI f.1 - 10))) ∧ clI s' (S.1, S.2.1, 0, S.2.2.2.1, nI f.2, S.2.2.2.2.2) h) ∨ (∃ Sk tf g, pkit S.2.2.2.1 n 31 0 un0 0 = .inl Sk ∧ kAll Sk tf g ∧ o = .inl (some (.int (Sk.1 0 * Sk.1 1))) ∧ clI s' (ktS S tf g) (370 - h)))) := by
    intro n I1 Sk hn hx e1 e2 e3 e4 hp
    obtain ⟨tf, g, hka⟩ := kAll_pkit hp
    have hrw2 : rwS (hpR R h) K N := rwS.of (s := (I, J, hpR R h, K, N)) (clS.up100 (I := I) (J := J) (by omega) (clS.up100 (I := I) (J := J) (by omega) hI.1)).1 (clR.up100 (I := I) (J := J) (clR.up100 (I := I) (J := J) hI.2.2.1)) (clW.up100 (I := I) (J := J) (by omega) (clW.up100 (I := I) (J := J) (by omega) hI.2.2.2.1))
    have e121 : hpR R h 121 = R 121 := by unfold hpR; rw [bl_up2_ne (by omega), bl_up2_ne (by omega)]
    have e10 : hpR R h 100 10 = R 100 10 := by unfold hpR; rw [bl_up2_nk (by omega), bl_up2_nk (by omega)]
    have rx_8 : hpR R h 100 8 = some (370 - h) := by unfold hpR; rw [bl_up2_nk (by omega), bl_up2_at]
    have kxh := kxs
    have rxh_0 : hpR R h (370 - h) 0 = some (370 - h + 1) := by unfold hpR; rw [bl_up2_ne (by omega), bl_up2_ne (by omega)]; exact rxs_0
    have kxhv := kxsv
    have nxhv := nxsv
    refine bl_go oX10_kitchen 80 [64] rfl ?_
    refine ⟨kx, Or.inr (Or.inr ⟨rfl, rfl, _, rfl⟩), (fun h => by cases h), rfl, rfl, kx, (Nat.le_of_ble_eq_true rfl), (0, 0), Nat.le_of_ble_eq_true rfl, Nat.le_of_ble_eq_true rfl, bl_MC_mono (c_BL_forgetRuns (d := d + 3) hrw2) (fun o70 σ70 q70 => ?_)⟩
    try dsimp only [bl_pv] at q70
    obtain ⟨rfl, I2, rfl, f1⟩ := q70
    refine bl_go oX10_kitchen 80 [64] rfl ?_
    refine ⟨kx, _, bl_vs rx_8, rfl, rfl, kxh, (Nat.le_of_ble_eq_true rfl), (0, 0), Nat.le_of_ble_eq_true rfl, Nat.le_of_ble_eq_true rfl, bl_MC_mono (c_Kitchen_firstUnit (d := d + 4) kxh rxh_0 kxhv nxhv) (fun o78 σ78 q78 => ?_)⟩
    try dsimp only [bl_pv] at q78
    obtain ⟨rfl, rfl⟩ := q78
    refine bl_go oX10_kitchen 80 [64] rfl ?_
    refine ⟨rfl, rfl, kx, (Nat.le_of_ble_eq_true rfl), (0, 0), Nat.le_of_ble_eq_true rfl, Nat.le_of_ble_eq_true rfl, bl_MC_mono (c_BL_beginWith (d := d + 4) hrw2) (fun o81 σ81 q81 => ?_)⟩
    try dsimp only [bl_pv] at q81
    obtain ⟨rfl, I3, rfl, f3, f4⟩ := q81
    refine bl_go oX10_kitchen 80 [64] rfl ?_
    refine ⟨kx, _, bl_vs rx_8, kxh, _, bl_vs rxh_0, Or.inl ⟨kxhv, (by first | exact (by rw [nxhv]; exact vp_in_nI (by omega) (by omega)) | ((try dsimp only [bl_pv]); show vp_in _ (N _); rw [nxhv]; simp (disch := omega) only [zI_n, zI_o, zI_lit, zI_neg, zI_add, zI_sub, zI_mul, zI_lt, zI_le, zI_eq, zI_clamp, zI_in, zI_div, zI_rem, lg_lt0, lg_gt0, lg_eq0, lg_le0, lg_ge0, Int.toNat_natCast, ge_iff_le, gt_iff_lt, List.length_cons, List.length_nil, bl_up2_at, bl_up2_nk, bl_up2_nx] <;> omega)), kx, _, bl_vs rx_8, kxh, _, bl_vs rxh_0, Or.inl ⟨kxhv, (by first | exact (by rw [nxhv]; exact vp_in_nI (by omega) (by omega)) | ((try dsimp only [bl_pv]); show vp_in _ (N _); rw [nxhv]; simp (disch := omega) only [zI_n, zI_o, zI_lit, zI_neg, zI_add, zI_sub, zI_mul, zI_lt, zI_le, zI_eq, zI_clamp, zI_in, zI_div, zI_rem, lg_lt0, lg_gt0, lg_eq0, lg_le0, lg_ge0, Int.toNat_natCast, ge_iff_le, gt_iff_lt, List.length_cons, List.length_nil, bl_up2_at, bl_up2_nk, bl_up2_nx] <;> omega)), (fun h => by cases h), ?_⟩⟩⟩
    try show _ ∧ _
    try dsimp only [bl_pv]
    have g1 : ∀ k, k < 9 → I2 (370 - h + 1) k = Sk.1 k := fun k hk => by rw [f1.2 _ (by omega), bl_up2_ne (by omega)]; exact e3 k hk
    have g2 : ∀ k, k < 9 → I3 (370 - h + 1) k = Sk.1 k := fun k hk => by rw [f3.2.2.2.2.2 _ (by omega) (by omega) (by omega)]; exact g1 k hk
    have hfu : 12 * I2 (370 - h + 1) 8 = nI (12 * tf 8) := by rw [g1 8 (by omega), hka.1 8 (by omega)]; exact (Int32.ofNat_mul 12 (tf 8)).symm
    rw [hfu] at f3
    have f1' : fgF (bl_up2 I1 100 12 0) I2 R 4 := by unfold fgF at f1 ⊢; rw [e121] at f1; exact f1
    have f3' : bgF I2 I3 R (nI (12 * tf 8)) 4 := by unfold bgF at f3 ⊢; rw [e121] at f3; exact f3
    rw [e10] at f4
    obtain ⟨r1, r2⟩ := hI.kitchen hO e1 e2 e3 e4 hka f1' f3' f4
    refine Or.inr ⟨n, hn, hx, I3, _, rfl, r2, Or.inr ⟨Sk, tf, g, hp, hka, ?_, r1⟩⟩
    rw [cl0, cl1, g2 0 (by omega), g2 1 (by omega)]
  refine bl_go oX10_kitchen 80 [64] rfl ?_
  refine ⟨kx, _, bl_vs rx_0, rfl, rfl, kxt, (Nat.le_of_ble_eq_true rfl), (0, 0), Nat.le_of_ble_eq_true rfl, Nat.le_of_ble_eq_true rfl, bl_MC_mono (hop) (fun o5 σ5 q5 => ?_)⟩
  rcases q5 with ⟨n, hx, hn, rfl, rfl⟩ | ⟨hx, rfl, rfl⟩
  · refine bl_go oX10_kitchen 80 [64] rfl ?_
    refine ⟨fun h8 => ?_, fun h8 => ?_⟩
    · try simp (disch := omega) only [zI_n, zI_o, zI_lit, zI_neg, zI_add, zI_sub, zI_mul, zI_lt, zI_le, zI_eq, zI_clamp, zI_in, zI_div, zI_rem, lg_lt0, lg_gt0, lg_eq0, lg_le0, lg_ge0, Int.toNat_natCast, ge_iff_le, gt_iff_lt, List.length_cons, List.length_nil, bl_up2_at, bl_up2_nk, bl_up2_nx] at h8
      first
      | (exfalso; first | omega | exact h8 trivial)
      | (refine ⟨kx, _, bl_vs rx_0, kx, _, bl_vs rx_9, rfl, rfl, kxt, (Nat.le_of_ble_eq_true rfl), (0, 0), Nat.le_of_ble_eq_true rfl, Nat.le_of_ble_eq_true rfl, bl_MC_mono (hrd n (by omega)) (fun o29 σ29 q29 => ?_)⟩
         rcases q29 with ⟨Sk, I1, at1, wa1, hp, rfl, rfl, g1, g2, g3⟩ | ⟨k, p, I1, at1, wa1, hp, rfl, rfl, g1⟩
         · refine bl_go oX10_kitchen 80 [64] rfl ?_
           refine ⟨fun h32 => ?_, fun h32 => ?_⟩
           · try simp (disch := omega) only [zI_n, zI_o, zI_lit, zI_neg, zI_add, zI_sub, zI_mul, zI_lt, zI_le, zI_eq, zI_clamp, zI_in, zI_div, zI_rem, lg_lt0, lg_gt0, lg_eq0, lg_le0, lg_ge0, Int.toNat_natCast, ge_iff_le, gt_iff_lt, List.length_cons, List.length_nil, bl_up2_at, bl_up2_nk, bl_up2_nx] at h32
             first
             | (exfalso; first | omega | exact h32 trivial)
             | (refine ⟨kx, _, bl_vs rx_8, kx, _, bl_vs rx_9, kx, Or.inl ⟨rfl, Or.inl ⟨_, rfl⟩⟩, (fun h => by cases h), kx, Or.inl ⟨rfl, Or.inl ⟨_, rfl⟩⟩, (fun h => by cases h), ?_⟩
                try dsimp only [bl_pv]
                exact L64 n (tpI I1 110 0 0 (zI (-1)) (nI n) at1 wa1) Sk hn hx (fun y y1 y2 y3 y4 => by rw [tpI_ne y1]; exact g1 y y2 y3 y4) ⟨rfl, rfl⟩ (fun k hk => by rw [tpI_ne (by omega)]; exact g2.1 k hk) (fun k hk => by rw [tpI_ne (by omega)]; exact g3 k hk) hp)
           · try simp (disch := omega) only [zI_n, zI_o, zI_lit, zI_neg, zI_add, zI_sub, zI_mul, zI_lt, zI_le, zI_eq, zI_clamp, zI_in, zI_div, zI_rem, lg_lt0, lg_gt0, lg_eq0, lg_le0, lg_ge0, Int.toNat_natCast, ge_iff_le, gt_iff_lt, List.length_cons, List.length_nil, bl_up2_at, bl_up2_nk, bl_up2_nx] at h32
             first
             | (exfalso; first | omega | exact h32 trivial)
             | (refine ⟨kx, _, bl_vs rx_0, kxt, (fun h => by cases h), ?_⟩
                try show _ ∧ _
                try dsimp only [bl_pv]
                refine Or.inr ⟨n, hn, hx, _, R, rfl, ?_, Or.inl ⟨(k, p), hp, rfl, ?_⟩⟩
                · exact fun y y1 y2 => ⟨by dsimp only; rw [tpI_ne (by omega)]; exact g1 y (by omega) (by omega) (by omega), rfl, rfl, rfl, rfl⟩
                · exact hI.tape (t := 0) (fp := nI p) hO (fun y y1 y2 y3 => by rw [tpI_ne y1]; exact g1 y (by omega) (by omega) (by omega)) ⟨rfl, rfl, by rw [tpI_ne (by omega), g1 111 (by omega) (by omega) (by omega)]; exact ht.2.2⟩)
         · refine bl_go oX10_kitchen 80 [64] rfl ?_
           refine ⟨fun h32 => ?_, fun h32 => ?_⟩
           · try simp (disch := omega) only [zI_n, zI_o, zI_lit, zI_neg, zI_add, zI_sub, zI_mul, zI_lt, zI_le, zI_eq, zI_clamp, zI_in, zI_div, zI_rem, lg_lt0, lg_gt0, lg_eq0, lg_le0, lg_ge0, Int.toNat_natCast, ge_iff_le, gt_iff_lt, List.length_cons, List.length_nil, bl_up2_at, bl_up2_nk, bl_up2_nx] at h32
             first
             | (exfalso; first | omega | exact h32 trivial)
             | (refine ⟨kx, _, bl_vs rx_8, kx, _, bl_vs rx_9, kx, Or.inl ⟨rfl, Or.inl ⟨_, rfl⟩⟩, (fun h => by cases h), kx, Or.inl ⟨rfl, Or.inl ⟨_, rfl⟩⟩, (fun h => by cases h), ?_⟩
                try dsimp only [bl_pv]
                exact L64 n (tpI I1 110 0 0 (zI (-1)) (nI n) at1 wa1) Sk hn hx (fun y y1 y2 y3 y4 => by rw [tpI_ne y1]; exact g1 y y2 y3 y4) ⟨rfl, rfl⟩ (fun k hk => by rw [tpI_ne (by omega)]; exact g2.1 k hk) (fun k hk => by rw [tpI_ne (by omega)]; exact g3 k hk) hp)
           · try simp (disch := omega) only [zI_n, zI_o, zI_lit, zI_neg, zI_add, zI_sub, zI_mul, zI_lt, zI_le, zI_eq, zI_clamp, zI_in, zI_div, zI_rem, lg_lt0, lg_gt0, lg_eq0, lg_le0, lg_ge0, Int.toNat_natCast, ge_iff_le, gt_iff_lt, List.length_cons, List.length_nil, bl_up2_at, bl_up2_nk, bl_up2_nx] at h32
             first
             | (exfalso; first | omega | exact h32 trivial)
             | (refine ⟨kx, _, bl_vs rx_0, kxt, (fun h => by cases h), ?_⟩
                try show _ ∧ _
                try dsimp only [bl_pv]
                refine Or.inr ⟨n, hn, hx, _, R, rfl, ?_, Or.inl ⟨(k, p), hp, rfl, ?_⟩⟩
                · exact fun y y1 y2 => ⟨by dsimp only; rw [tpI_ne (by omega)]; exact g1 y (by omega) (by omega) (by omega), rfl, rfl, rfl, rfl⟩
                · exact hI.tape (t := 0) (fp := nI p) hO (fun y y1 y2 y3 => by rw [tpI_ne y1]; exact g1 y (by omega) (by omega) (by omega)) ⟨rfl, rfl, by rw [tpI_ne (by omega), g1 111 (by omega) (by omega) (by omega)]; exact ht.2.2⟩))
    · try simp (disch := omega) only [zI_n, zI_o, zI_lit, zI_neg, zI_add, zI_sub, zI_mul, zI_lt, zI_le, zI_eq, zI_clamp, zI_in, zI_div, zI_rem, lg_lt0, lg_gt0, lg_eq0, lg_le0, lg_ge0, Int.toNat_natCast, ge_iff_le, gt_iff_lt, List.length_cons, List.length_nil, bl_up2_at, bl_up2_nk, bl_up2_nx] at h8
      first
      | (exfalso; first | omega | exact h8 trivial)
      | (refine ⟨hlt, (Nat.le_of_ble_eq_true rfl), (Nat.le_of_ble_eq_true rfl), (Nat.le_of_ble_eq_true rfl), ?_⟩
         try show _ ∧ _
         try dsimp only [bl_pv]
         refine Or.inl ⟨fun hq => ?_, rfl, rfl⟩
         obtain ⟨n, hn, e⟩ := i32_nat (by omega) hq.1 hq.2
         exact hx n hn e)
  · refine bl_go oX10_kitchen 80 [64] rfl ?_
    refine ⟨fun h8 => ?_, fun h8 => ?_⟩
    · try simp (disch := omega) only [zI_n, zI_o, zI_lit, zI_neg, zI_add, zI_sub, zI_mul, zI_lt, zI_le, zI_eq, zI_clamp, zI_in, zI_div, zI_rem, lg_lt0, lg_gt0, lg_eq0, lg_le0, lg_ge0, Int.toNat_natCast, ge_iff_le, gt_iff_lt, List.length_cons, List.length_nil, bl_up2_at, bl_up2_nk, bl_up2_nx] at h8
      first
      | (exfalso; first | omega | exact h8 trivial)
      | (refine ⟨kx, _, bl_vs rx_0, kx, _, bl_vs rx_9, rfl, rfl, kxt, (Nat.le_of_ble_eq_true rfl), (0, 0), Nat.le_of_ble_eq_true rfl, Nat.le_of_ble_eq_true rfl, bl_MC_mono (hrd n (by omega)) (fun o29 σ29 q29 => ?_)⟩
         rcases q29 with ⟨Sk, I1, at1, wa1, hp, rfl, rfl, g1, g2, g3⟩ | ⟨k, p, I1, at1, wa1, hp, rfl, rfl, g1⟩
         · refine bl_go oX10_kitchen 80 [64] rfl ?_
           refine ⟨fun h32 => ?_, fun h32 => ?_⟩
           · try simp (disch := omega) only [zI_n, zI_o, zI_lit, zI_neg, zI_add, zI_sub, zI_mul, zI_lt, zI_le, zI_eq, zI_clamp, zI_in, zI_div, zI_rem, lg_lt0, lg_gt0, lg_eq0, lg_le0, lg_ge0, Int.toNat_natCast, ge_iff_le, gt_iff_lt, List.length_cons, List.length_nil, bl_up2_at, bl_up2_nk, bl_up2_nx] at h32
             first
             | (exfalso; first | omega | exact h32 trivial)
             | (refine ⟨kx, _, bl_vs rx_8, kx, _, bl_vs rx_9, kx, Or.inl ⟨rfl, Or.inl ⟨_, rfl⟩⟩, (fun h => by cases h), kx, Or.inl ⟨rfl, Or.inl ⟨_, rfl⟩⟩, (fun h => by cases h), ?_⟩
                try dsimp only [bl_pv]
                exact L64 n (tpI I1 110 0 0 (zI (-1)) (nI n) at1 wa1) Sk hn hx (fun y y1 y2 y3 y4 => by rw [tpI_ne y1]; exact g1 y y2 y3 y4) ⟨rfl, rfl⟩ (fun k hk => by rw [tpI_ne (by omega)]; exact g2.1 k hk) (fun k hk => by rw [tpI_ne (by omega)]; exact g3 k hk) hp)
           · try simp (disch := omega) only [zI_n, zI_o, zI_lit, zI_neg, zI_add, zI_sub, zI_mul, zI_lt, zI_le, zI_eq, zI_clamp, zI_in, zI_div, zI_rem, lg_lt0, lg_gt0, lg_eq0, lg_le0, lg_ge0, Int.toNat_natCast, ge_iff_le, gt_iff_lt, List.length_cons, List.length_nil, bl_up2_at, bl_up2_nk, bl_up2_nx] at h32
             first
             | (exfalso; first | omega | exact h32 trivial)
             | (refine ⟨kx, _, bl_vs rx_0, kxt, (fun h => by cases h), ?_⟩
                try show _ ∧ _
                try dsimp only [bl_pv]
                refine Or.inr ⟨n, hn, hx, _, R, rfl, ?_, Or.inl ⟨(k, p), hp, rfl, ?_⟩⟩
                · exact fun y y1 y2 => ⟨by dsimp only; rw [tpI_ne (by omega)]; exact g1 y (by omega) (by omega) (by omega), rfl, rfl, rfl, rfl⟩
                · exact hI.tape (t := 0) (fp := nI p) hO (fun y y1 y2 y3 => by rw [tpI_ne y1]; exact g1 y (by omega) (by omega) (by omega)) ⟨rfl, rfl, by rw [tpI_ne (by omega), g1 111 (by omega) (by omega) (by omega)]; exact ht.2.2⟩)
         · refine bl_go oX10_kitchen 80 [64] rfl ?_
           refine ⟨fun h32 => ?_, fun h32 => ?_⟩
           · try simp (disch := omega) only [zI_n, zI_o, zI_lit, zI_neg, zI_add, zI_sub, zI_mul, zI_lt, zI_le, zI_eq, zI_clamp, zI_in, zI_div, zI_rem, lg_lt0, lg_gt0, lg_eq0, lg_le0, lg_ge0, Int.toNat_natCast, ge_iff_le, gt_iff_lt, List.length_cons, List.length_nil, bl_up2_at, bl_up2_nk, bl_up2_nx] at h32
             first
             | (exfalso; first | omega | exact h32 trivial)
             | (refine ⟨kx, _, bl_vs rx_8, kx, _, bl_vs rx_9, kx, Or.inl ⟨rfl, Or.inl ⟨_, rfl⟩⟩, (fun h => by cases h), kx, Or.inl ⟨rfl, Or.inl ⟨_, rfl⟩⟩, (fun h => by cases h), ?_⟩
                try dsimp only [bl_pv]
                exact L64 n (tpI I1 110 0 0 (zI (-1)) (nI n) at1 wa1) Sk hn hx (fun y y1 y2 y3 y4 => by rw [tpI_ne y1]; exact g1 y y2 y3 y4) ⟨rfl, rfl⟩ (fun k hk => by rw [tpI_ne (by omega)]; exact g2.1 k hk) (fun k hk => by rw [tpI_ne (by omega)]; exact g3 k hk) hp)
           · try simp (disch := omega) only [zI_n, zI_o, zI_lit, zI_neg, zI_add, zI_sub, zI_mul, zI_lt, zI_le, zI_eq, zI_clamp, zI_in, zI_div, zI_rem, lg_lt0, lg_gt0, lg_eq0, lg_le0, lg_ge0, Int.toNat_natCast, ge_iff_le, gt_iff_lt, List.length_cons, List.length_nil, bl_up2_at, bl_up2_nk, bl_up2_nx] at h32
             first
             | (exfalso; first | omega | exact h32 trivial)
             | (refine ⟨kx, _, bl_vs rx_0, kxt, (fun h => by cases h), ?_⟩
                try show _ ∧ _
                try dsimp only [bl_pv]
                refine Or.inr ⟨n, hn, hx, _, R, rfl, ?_, Or.inl ⟨(k, p), hp, rfl, ?_⟩⟩
                · exact fun y y1 y2 => ⟨by dsimp only; rw [tpI_ne (by omega)]; exact g1 y (by omega) (by omega) (by omega), rfl, rfl, rfl, rfl⟩
                · exact hI.tape (t := 0) (fp := nI p) hO (fun y y1 y2 y3 => by rw [tpI_ne y1]; exact g1 y (by omega) (by omega) (by omega)) ⟨rfl, rfl, by rw [tpI_ne (by omega), g1 111 (by omega) (by omega) (by omega)]; exact ht.2.2⟩))
    · try simp (disch := omega) only [zI_n, zI_o, zI_lit, zI_neg, zI_add, zI_sub, zI_mul, zI_lt, zI_le, zI_eq, zI_clamp, zI_in, zI_div, zI_rem, lg_lt0, lg_gt0, lg_eq0, lg_le0, lg_ge0, Int.toNat_natCast, ge_iff_le, gt_iff_lt, List.length_cons, List.length_nil, bl_up2_at, bl_up2_nk, bl_up2_nx] at h8
      first
      | (exfalso; first | omega | exact h8 trivial)
      | (refine ⟨hlt, (Nat.le_of_ble_eq_true rfl), (Nat.le_of_ble_eq_true rfl), (Nat.le_of_ble_eq_true rfl), ?_⟩
         try show _ ∧ _
         try dsimp only [bl_pv]
         refine Or.inl ⟨fun hq => ?_, rfl, rfl⟩
         obtain ⟨n, hn, e⟩ := i32_nat (by omega) hq.1 hq.2
         exact hx n hn e)
end CLS9
