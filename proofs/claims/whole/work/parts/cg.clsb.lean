/-! ===== ButterLeaves: a recipe's place is made ===== -/
theorem rnX.eq {s s' : bl_Mem} {q β : Nat} {p : Nat → Prop} (h : rnX s q β) (hF : eqF s s' p) (h0 : ∀ y, rnN q β y → ¬ p y) : rnX s' q β := by
  obtain ⟨a0, a1, a2, a3, a4, ⟨a5, a6⟩, ⟨a7, a8⟩, ⟨a9, a10⟩, a11⟩ := h
  obtain ⟨-, -, q1, q2, -⟩ := hF q (h0 q (Or.inl rfl))
  obtain ⟨-, -, r1, r2, r3⟩ := hF (q + 1) (h0 (q + 1) (Or.inr (Or.inl rfl)))
  obtain ⟨-, -, -, t2, t3⟩ := hF (q + 2) (h0 (q + 2) (Or.inr (Or.inr (Or.inl rfl))))
  obtain ⟨-, -, -, u2, u3⟩ := hF (q + 3) (h0 (q + 3) (Or.inr (Or.inr (Or.inr (Or.inl rfl)))))
  refine ⟨a0, q2.trans a1, ?_, ?_, ?_, ⟨r2.trans a5, r3.trans a6⟩, ⟨t2.trans a7, t3.trans a8⟩, ⟨u2.trans a9, u3.trans a10⟩, fun k hk => ⟨?_, ?_⟩⟩
  · rw [q1]; exact a2
  · rw [q1]; exact a3
  · rw [q1]; exact a4
  · rw [r1]; exact (a11 k hk).1
  · exact slX.eq (a11 k hk).2 hF (fun y hy => h0 y (Or.inr (Or.inr (Or.inr (Or.inr ⟨k, hk, hy⟩)))))
theorem rcX.eq {s s' : bl_Mem} {q : Nat} {p : Nat → Prop} (h : rcX s q) (hF : eqF s s' p) (h0 : ¬ p q) (h1 : ¬ p (q + 1)) (h2 : ¬ p (q + 2)) : rcX s' q := by
  obtain ⟨a0, a1, a2, a3, a4, a5, a6⟩ := h
  obtain ⟨-, -, q1, q2, -⟩ := hF q h0
  obtain ⟨-, -, -, r2, r3⟩ := hF (q + 1) h1
  obtain ⟨-, -, -, t2, t3⟩ := hF (q + 2) h2
  exact ⟨q2.trans a0, by rw [q1]; exact a1, by rw [q1]; exact a2, r2.trans a3, r3.trans a4, t2.trans a5, t3.trans a6⟩
theorem kiX.eq {s s' : bl_Mem} {q : Nat} {p : Nat → Prop} (h : kiX s q) (hF : eqF s s' p) (h0 : ¬ p q) (h1 : ¬ p (q + 1)) (h2 : ¬ p (q + 2)) (h3 : ¬ p (q + 3)) : kiX s' q := by
  obtain ⟨a0, a1, a2, a3, a4, ⟨a5, a6⟩, ⟨a7, a8⟩, ⟨a9, a10⟩⟩ := h
  obtain ⟨-, -, q1, q2, -⟩ := hF q h0
  obtain ⟨-, -, -, r2, r3⟩ := hF (q + 1) h1
  obtain ⟨-, -, -, t2, t3⟩ := hF (q + 2) h2
  obtain ⟨-, -, -, u2, u3⟩ := hF (q + 3) h3
  exact ⟨a0, q2.trans a1, by rw [q1]; exact a2, by rw [q1]; exact a3, by rw [q1]; exact a4, ⟨r2.trans a5, r3.trans a6⟩, ⟨t2.trans a7, t3.trans a8⟩, ⟨u2.trans a9, u3.trans a10⟩⟩
/-- the names that the place c has, and the two rows that hold them -/
def mdP (c y : Nat) : Prop := rrN c y ∨ y = 120 ∨ y = 121
theorem mdP_no {c y : Nat} (hc : c < 4) (h1 : y < 1000 ∨ 5000 ≤ y) (h2 : y ≠ 120) (h3 : y ≠ 121) (h4 : ¬ (300 + 10 * c ≤ y ∧ y ≤ 302 + 10 * c)) (h5 : ¬ (400 + 10 * c ≤ y ∧ y ≤ 403 + 10 * c)) : ¬ mdP c y := by
  rintro ((h | h) | h | h)
  · omega
  · have := rnN_rng h hc; omega
  · omega
  · omega
theorem mdP_rn {c r y : Nat} (hc : c < 4) (hr : r < 4) (e : r ≠ c) (h : rnN (400 + 10 * r) (1000 + 21 * r) y) : ¬ mdP c y := by
  have h1 := rnN_rng h hr
  rintro ((h2 | h2) | h2 | h2)
  · omega
  · exact e (rnN_dj h h2 hr hc)
  · omega
  · omega
theorem mkR.md {s s' : bl_Mem} {c r : Nat} (hc : c < 4) (hr : r < 4) (e : r ≠ c) (hF : eqF s s' (mdP c)) (hR : s'.2.2.1 120 r = s.2.2.1 120 r ∧ s'.2.2.1 121 r = s.2.2.1 121 r) (h : mkR s r) : mkR s' r := by
  obtain ⟨b1, b2, b3, b4⟩ := h
  exact ⟨rcX.eq b1 hF (mdP_no hc (by omega) (by omega) (by omega) (by omega) (by omega)) (mdP_no hc (by omega) (by omega) (by omega) (by omega) (by omega)) (mdP_no hc (by omega) (by omega) (by omega) (by omega) (by omega)), rnX.eq b2 hF (fun y hy => mdP_rn hc hr e hy), hR.1.trans b3, hR.2.trans b4⟩
theorem rrN_dj {c r y : Nat} (hc : c < 4) (hr : r < 4) (e : r ≠ c) (h : rrN r y) : ¬ mdP c y := by
  rcases h with h | h
  · exact mdP_no hc (by omega) (by omega) (by omega) (by omega) (by omega)
  · exact mdP_rn hc hr e h
theorem clI.made {s s' : bl_Mem} {S : cS} {h c : Nat} (hI : clI s S h) (hO : csO S) (hc : c = S.1.2.2.1) (hc4 : c < 4) (hF : eqF s s' (mdP c)) (hR : ∀ r, r ≠ c → s'.2.2.1 120 r = s.2.2.1 120 r ∧ s'.2.2.1 121 r = s.2.2.1 121 r) (hK : s'.2.2.2.1 120 = s.2.2.2.1 120 ∧ s'.2.2.2.2 120 = s.2.2.2.2 120 ∧ s'.2.2.2.1 121 = s.2.2.2.1 121 ∧ s'.2.2.2.2 121 = s.2.2.2.2 121) (hm : mkR s' c) : clI s' S h ∧ cfF s s' := by
  obtain ⟨a1, a2, a3, a4, a5, a6, a7, a8, a9, a10⟩ := hI
  have hh := a2.1
  have hn : ∀ y, (y < 1000 ∨ 5000 ≤ y) → y ≠ 120 → y ≠ 121 → ¬ (300 + 10 * c ≤ y ∧ y ≤ 302 + 10 * c) → ¬ (400 + 10 * c ≤ y ∧ y ≤ 403 + 10 * c) → s'.1 y = s.1 y ∧ s'.2.1 y = s.2.1 y ∧ s'.2.2.1 y = s.2.2.1 y ∧ s'.2.2.2.1 y = s.2.2.2.1 y ∧ s'.2.2.2.2 y = s.2.2.2.2 y := fun y h1 h2 h3 h4 h5 => hF y (mdP_no hc4 h1 h2 h3 h4 h5)
  have hI' : ∀ y, (y < 300 ∨ (900 ≤ y ∧ y < 1000)) → y ≠ 120 → y ≠ 121 → s'.1 y = s.1 y := fun y h1 h2 h3 => (hn y (by omega) h2 h3 (by omega) (by omega)).1
  have hR' : ∀ y, (y < 300 ∨ (900 ≤ y ∧ y < 1000)) → y ≠ 120 → y ≠ 121 → s'.2.2.1 y = s.2.2.1 y := fun y h1 h2 h3 => (hn y (by omega) h2 h3 (by omega) (by omega)).2.2.1
  have hK' : ∀ y, (y < 300 ∨ (900 ≤ y ∧ y < 1000)) → y ≠ 120 → y ≠ 121 → s'.2.2.2.1 y = s.2.2.2.1 y := fun y h1 h2 h3 => (hn y (by omega) h2 h3 (by omega) (by omega)).2.2.2.1
  have hN' : ∀ y, (y < 300 ∨ (900 ≤ y ∧ y < 1000)) → y ≠ 120 → y ≠ 121 → s'.2.2.2.2 y = s.2.2.2.2 y := fun y h1 h2 h3 => (hn y (by omega) h2 h3 (by omega) (by omega)).2.2.2.2
  have hki : ∀ a, a = 180 ∨ a = 190 → kiX s a → kiX s' a := fun a ha hk => kiX.eq hk hF (mdP_no hc4 (by omega) (by omega) (by omega) (by omega) (by omega)) (mdP_no hc4 (by omega) (by omega) (by omega) (by omega) (by omega)) (mdP_no hc4 (by omega) (by omega) (by omega) (by omega) (by omega)) (mdP_no hc4 (by omega) (by omega) (by omega) (by omega) (by omega))
  refine ⟨⟨?_, ?_, fun r hr => ?_, ?_, ?_, ?_, ?_, fun r hr => ?_, ?_, fun hw => ?_⟩, fun y y1 y2 => hn y (by omega) (by omega) (by omega) (by omega) (by omega)⟩
  · obtain ⟨b1, b2, b3, b4, b5, b6, b7, b8⟩ := a1
    refine ⟨?_, ?_, ?_, ?_, hki 180 (by omega) b5, hki 190 (by omega) b6, fun j hj => ?_, fun j hj => ?_⟩
    · unfold clA at b1 ⊢
      rw [hK' 100 (by omega) (by omega) (by omega), hR' 100 (by omega) (by omega) (by omega), hK.1, hK.2.1, hK.2.2.1, hK.2.2.2, hK' 130 (by omega) (by omega) (by omega), hK' 170 (by omega) (by omega) (by omega), hN' 170 (by omega) (by omega) (by omega), hK' 171 (by omega) (by omega) (by omega), hN' 171 (by omega) (by omega) (by omega)]; exact b1
    · unfold tpX tpS at b2 ⊢
      rw [hK' 110 (by omega) (by omega) (by omega), hR' 110 (by omega) (by omega) (by omega), hK' (110 + 1) (by omega) (by omega) (by omega), hN' (110 + 1) (by omega) (by omega) (by omega)]; exact b2
    · unfold unX at b3 ⊢
      rw [hK' 140 (by omega) (by omega) (by omega), hR' 140 (by omega) (by omega) (by omega), hK' 141 (by omega) (by omega) (by omega), hN' 141 (by omega) (by omega) (by omega), hK' 142 (by omega) (by omega) (by omega), hN' 142 (by omega) (by omega) (by omega), hK' 143 (by omega) (by omega) (by omega), hN' 143 (by omega) (by omega) (by omega)]; exact b3
    · unfold bnX bnS at b4 ⊢
      simp (disch := omega) only [hK', hR', hN']; exact b4
    · rw [hK' (940 + j) (by omega) (by omega) (by omega)]; exact b7 j hj
    · rw [hK' (950 + j) (by omega) (by omega) (by omega)]; exact b8 j hj
  · unfold clH; rw [hR' 100 (by omega) (by omega) (by omega)]; exact a2
  · by_cases e : r = c
    · subst e; exact Or.inl hm
    · rcases a3 r hr with b | ⟨b1, b2, b3⟩
      · exact Or.inl (b.md hc4 hr e hF (hR r e))
      · exact Or.inr ⟨(hR r e).1.trans b1, (hR r e).2.trans b2, fun y hy => ((hF y (rrN_dj hc4 hr e hy)).2.2.2.1).trans (b3 y hy)⟩
  · unfold clW at a4 ⊢; rw [hR' 100 (by omega) (by omega) (by omega)]
    rcases a4 with ⟨b1, b2⟩ | ⟨b1, b2⟩
    · exact Or.inl ⟨b1, fun y y1 y2 => by rw [hK' y (by omega) (by omega) (by omega)]; exact b2 y y1 y2⟩
    · refine Or.inr ⟨b1, ?_⟩
      unfold psX psS at b2 ⊢
      simp (disch := omega) only [hK', hR', hN']; exact b2
  · unfold clT; rw [hI' 110 (by omega) (by omega) (by omega), hI' 111 (by omega) (by omega) (by omega)]; exact a5
  · exact kiC.nm a6 (hI' _ (by omega) (by omega) (by omega)) (hI' _ (by omega) (by omega) (by omega))
  · unfold clN; rw [hI' 100 (by omega) (by omega) (by omega), hI' 170 (by omega) (by omega) (by omega), hI' 171 (by omega) (by omega) (by omega)]; exact a7
  · have e : r ≠ c := by omega
    have hD := aD_20 hO r
    obtain ⟨c1, c2, c3⟩ := a8 r hr
    exact ⟨c1.md hc4 (by omega) e hF (hR r e), c2.nm (hn _ (by omega) (by omega) (by omega) (by omega) (by omega)).1 (hn _ (by omega) (by omega) (by omega) (by omega) (by omega)).1 (hn _ (by omega) (by omega) (by omega) (by omega) (by omega)).1, c3.nm (fun y hy => ⟨(hF y (mdP_rn hc4 (by omega) e hy)).1, (hF y (mdP_rn hc4 (by omega) e hy)).2.1⟩) (by omega)⟩
  · unfold clB; rw [hI' 150 (by omega) (by omega) (by omega)]
    rcases a9 with a | ⟨a, b⟩
    · exact Or.inl a
    · exact Or.inr ⟨a, b.nm (fun y h1 h2 => hI' y (by omega) (by omega) (by omega))⟩
  · rw [hR' 100 (by omega) (by omega) (by omega)] at hw
    exact (a10 hw).nm (fun y h1 h2 => hI' y (by omega) (by omega) (by omega))
section CLSB
variable {G : bl_G} {l : Launch} {d : Nat} {I I' : Nat → Nat → Int32} {J J' : Nat → Nat → Int64} {R : Nat → Nat → Option Nat} {K N : Nat → Nat} {S : cS} {h c : Nat} {x y w a b e : Int32}
def fgt (s : bl_Mem) (c : Nat) : Prop := s.1 (400 + 10 * c) 7 = 0 ∧ s.1 (400 + 10 * c) 8 = 0 ∧ s.1 (400 + 10 * c) 9 = 0
theorem fgt_up {q : Nat} : fgt (bl_up2 (bl_up2 (bl_up2 I (400 + 10 * q) 7 0) (400 + 10 * q) 8 0) (400 + 10 * q) 9 0, J, R, K, N) q := by
  unfold fgt; dsimp only
  simp (disch := omega) only [bl_up2_at, bl_up2_nk, and_self]
theorem clI.forget (hI : clI (I, J, R, K, N) S h) (hO : csO S) (hc : S.1.2.2.1 ≤ c) (hc4 : c < 4) : clI (bl_up2 (bl_up2 (bl_up2 I (400 + 10 * c) 7 0) (400 + 10 * c) 8 0) (400 + 10 * c) 9 0, J, R, K, N) S h ∧ cfF (I, J, R, K, N) (bl_up2 (bl_up2 (bl_up2 I (400 + 10 * c) 7 0) (400 + 10 * c) 8 0) (400 + 10 * c) 9 0, J, R, K, N) := by
  have hs : ∀ y, y ≠ 400 + 10 * c → bl_up2 (bl_up2 (bl_up2 I (400 + 10 * c) 7 0) (400 + 10 * c) 8 0) (400 + 10 * c) 9 0 y = I y := fun y hy => by rw [bl_up2_ne hy, bl_up2_ne hy, bl_up2_ne hy]
  exact ⟨hI.run hO hc4 (fun y hy => ⟨hs y (fun e => hy (Or.inl e)), rfl⟩) (fun q => absurd q (by omega)), fun y y1 y2 => ⟨hs y (by omega), rfl, rfl, rfl, rfl⟩⟩
theorem c_BL_freeRecipeT (hI : clI (I, J, R, K, N) S h) (hO : csO S) (hc : c = S.1.2.2.1) (hc4 : c < 4) (hm : mkR (I, J, R, K, N) c) : bl_MC G l (d + 1) mX10_freeRecipe [.ref 100] (I, J, R, K, N) (0, 0) (fun o s' => o = .inl (some (.ref (300 + 10 * c))) ∧ clI s' S h ∧ cfF (I, J, R, K, N) s' ∧ mkR s' c ∧ fgt s' c ∧ s'.1 110 = I 110 ∧ ∃ I', s' = (I', J, R, K, N)) := by
  obtain ⟨⟨kx, ⟨rx_0, rx_1, rx_2, rx_3, rx_4, rx_5, rx_6, rx_7⟩, ⟨kxr, nxr⟩, ⟨kxn, nxn⟩, kxb, ⟨kxi, nxi⟩, ⟨kxj, nxj⟩⟩, hTp, hUn, hBn, hK1, hK2, hSt, hStr⟩ := hI.1
  have hn := hI.2.2.2.2.2.2.1.1
  rw [← hc] at hn
  obtain ⟨m1, m2, m3, m4⟩ := id hm
  have krq := m2.2.1
  have ecc : (nI c).toNatClampNeg = c := nI_clamp (by omega)
  dsimp only at kx rx_1 rx_2 kxr nxr kxn nxn hn m3 m4 krq
  obtain ⟨r1, r2⟩ := hI.forget hO (c := c) (by omega) hc4
  refine bl_MC_intro (by decide +kernel) rfl (Nat.le_of_ble_eq_true rfl) ?_
  refine bl_go oX10_freeRecipe 80 [] rfl ?_
  refine ⟨kx, _, bl_vs rx_1, kx, bl_ka kxr, (by (try dsimp only [bl_pv]); rw [nxr, hn]; exact vp_in_nI (by omega) (by omega)), _, bl_vs (by dsimp only; rw [hn, ecc]; exact m3), kx, _, bl_vs rx_2, kx, bl_ka kxn, (by (try dsimp only [bl_pv]); rw [nxn, hn]; exact vp_in_nI (by omega) (by omega)), _, bl_vs (by dsimp only; rw [hn, ecc]; exact m4), rfl, rfl, krq, (Nat.le_of_ble_eq_true rfl), (0, 0), Nat.le_of_ble_eq_true rfl, Nat.le_of_ble_eq_true rfl, bl_MC_mono (c_Run_forget (d := d) krq) (fun o65 σ65 q65 => ?_)⟩
  try dsimp only [bl_pv] at q65
  obtain ⟨rfl, rfl⟩ := q65
  refine bl_go oX10_freeRecipe 80 [] rfl ?_
  try show _ ∧ _
  try dsimp only [bl_pv]
  exact ⟨rfl, r1, r2, hm, fgt_up, by rw [bl_up2_ne (by omega), bl_up2_ne (by omega), bl_up2_ne (by omega)], _, rfl⟩
theorem c_BL_freeRecipeN (hI : clI (I, J, R, K, N) S h) (hO : csO S) (hc : c = S.1.2.2.1) (hc4 : c < 4) (hm : frR (I, J, R, K, N) c) : bl_MC G l (d + 3) mX10_freeRecipe [.ref 100] (I, J, R, K, N) (154, 4379) (fun o s' => o = .inl (some (.ref (300 + 10 * c))) ∧ clI s' S h ∧ cfF (I, J, R, K, N) s' ∧ mkR s' c ∧ fgt s' c ∧ s'.1 110 = I 110) := by
  have hI0 := hI
  obtain ⟨⟨kx, ⟨rx_0, rx_1, rx_2, rx_3, rx_4, rx_5, rx_6, rx_7⟩, ⟨kxr, nxr⟩, ⟨kxn, nxn⟩, kxb, ⟨kxi, nxi⟩, ⟨kxj, nxj⟩⟩, hTp, hUn, hBn, hK1, hK2, hSt, hStr⟩ := hI.1
  have hn := hI.2.2.2.2.2.2.1.1
  rw [← hc] at hn
  obtain ⟨m3, m4, mf⟩ := hm
  have ecc : (nI c).toNatClampNeg = c := nI_clamp (by omega)
  dsimp only at kx rx_1 rx_2 kxr nxr kxn nxn hn m3 m4 mf
  have fr0 : ∀ y, 300 + 10 * c ≤ y → y ≤ 300 + 10 * c + 2 → K y = 0 := fun y h1 h2 => mf y (Or.inl ⟨h1, h2⟩)
  have fr1 : ∀ y, rnN (400 + 10 * c) (1000 + 21 * c) y → K y = 0 := fun y hy => mf y (Or.inr hy)
  refine bl_MC_intro (by decide +kernel) rfl (Nat.le_of_ble_eq_true rfl) ?_
  have L64 : ∀ s5 : bl_Mem, clI s5 S h → cfF (I, J, R, K, N) s5 → mkR s5 c → s5.1 110 = I 110 → bl_WP G l (d + 3) mX10_freeRecipe 64 [(2, .ref (400 + 10 * c)), (1, .ref (300 + 10 * c)), (0, .ref 100)] [] s5 (0, 0) (fun o s' => o = .inl (some (.ref (300 + 10 * c))) ∧ clI s' S h ∧ cfF (I, J, R, K, N) s' ∧ mkR s' c ∧ fgt s' c ∧ s'.1 110 = I 110) := by
    intro s5 f1 f2 f3 f4
    obtain ⟨I5, J5, R5, K5, N5⟩ := s5
    have krq : K5 (400 + 10 * c) = 6 := f3.2.1.2.1
    obtain ⟨r1, r2⟩ := f1.forget hO (c := c) (by omega) hc4
    refine bl_go oX10_freeRecipe 80 [64] rfl ?_
    refine ⟨rfl, rfl, krq, (Nat.le_of_ble_eq_true rfl), (0, 0), Nat.le_of_ble_eq_true rfl, Nat.le_of_ble_eq_true rfl, bl_MC_mono (c_Run_forget (d := d + 2) krq) (fun o65 σ65 q65 => ?_)⟩
    try dsimp only [bl_pv] at q65
    obtain ⟨rfl, rfl⟩ := q65
    refine bl_go oX10_freeRecipe 80 [64] rfl ?_
    try show _ ∧ _
    try dsimp only [bl_pv]
    exact ⟨rfl, r1, f2.trans r2, f3, fgt_up, by rw [bl_up2_ne (by omega), bl_up2_ne (by omega), bl_up2_ne (by omega)]; exact f4⟩
  have L32 : ∀ s3 : bl_Mem, eqF (I, J, R, K, N) s3 (fun y => (300 + 10 * c ≤ y ∧ y ≤ 300 + 10 * c + 2) ∨ y = 120) → s3.2.2.1 120 c = some (300 + 10 * c) → (∀ r, r ≠ c → s3.2.2.1 120 r = R 120 r) → s3.2.2.2.1 120 = K 120 → s3.2.2.2.2 120 = N 120 → rcX s3 (300 + 10 * c) → bl_WP G l (d + 3) mX10_freeRecipe 32 [(1, .ref (300 + 10 * c)), (0, .ref 100)] [] s3 (151, 4336) (fun o s' => o = .inl (some (.ref (300 + 10 * c))) ∧ clI s' S h ∧ cfF (I, J, R, K, N) s' ∧ mkR s' c ∧ fgt s' c ∧ s'.1 110 = I 110) := by
    intro s3 g1 g2 g3 g4 g5 g6
    have hx := g1 100 (by omega)
    have hy := g1 121 (by omega)
    have kx3 : s3.2.2.2.1 100 = 11 := hx.2.2.2.1.trans kx
    have rx3 : s3.2.2.1 100 2 = some 121 := by rw [hx.2.2.1]; exact rx_2
    have kn3 : s3.2.2.2.1 121 = 23 := hy.2.2.2.1.trans kxn
    have nn3 : s3.2.2.2.2 121 = 4 := hy.2.2.2.2.trans nxn
    have hn3 : s3.1 100 11 = nI c := by rw [hx.1]; exact hn
    have e3 : s3.2.2.1 121 c = none := by rw [hy.2.2.1]; exact m4
    have fk : ∀ y, rnN (400 + 10 * c) (1000 + 21 * c) y → s3.2.2.2.1 y = 0 := fun y hy => by
      have := rnN_rng hy hc4
      rw [(g1 y (by omega)).2.2.2.1]; exact fr1 y hy
    refine bl_go oX10_freeRecipe 80 [64] rfl ?_
    refine ⟨kx3, _, bl_vs rx3, kx3, bl_ka kn3, (by show vp_in (s3.1 100 11) (s3.2.2.2.2 121); rw [nn3, hn3]; exact vp_in_nI (by omega) (by omega)), _, bl_v0 (by show s3.2.2.1 121 (s3.1 100 11).toNatClampNeg = none; rw [hn3, ecc]; exact e3), 400 + 10 * c, fk _ (Or.inl rfl), (by decide), (by decide +kernel), rfl, (Nat.le_of_ble_eq_true rfl), (150, 4326), _, (by decide), (by decide +kernel), bl_MC_ini (c_Run_init (d := d) (q := 400 + 10 * c) (β := 1000 + 21 * c) (by omega) (by omega) bl_mk_Keq (fun y hy hne => (bl_mk_Kne hne).trans (fk y hy))), fun s4 q4 => ?_⟩
    obtain ⟨u1, u2, u3⟩ := q4
    have hF4 : eqF s3 s4 (rnN (400 + 10 * c) (1000 + 21 * c)) := (eqF_mk.mono (fun y hy => Or.inl hy)).trans u1
    have nr : ∀ y, y < 400 → ¬ rnN (400 + 10 * c) (1000 + 21 * c) y := fun y hy h => by have := rnN_rng h hc4; omega
    have h4 := hF4 100 (nr _ (by omega))
    have h4n := hF4 121 (nr _ (by omega))
    have kx4 : s4.2.2.2.1 100 = 11 := h4.2.2.2.1.trans kx3
    have rx4 : s4.2.2.1 100 2 = some 121 := by rw [h4.2.2.1]; exact rx3
    have kn4 : s4.2.2.2.1 121 = 23 := h4n.2.2.2.1.trans kn3
    have nn4 : s4.2.2.2.2 121 = 4 := h4n.2.2.2.2.trans nn3
    have hn4 : s4.1 100 11 = nI c := by rw [h4.1]; exact hn3
    refine ⟨kx4, _, bl_vs rx4, kx4, Or.inr (Or.inl kn4), ?_, ?_, ?_⟩
    · show s4.2.2.2.1 (400 + 10 * c) = bl_elt (s4.2.2.2.1 121) + 1
      rw [kn4]; exact u3.2.1
    · show vp_in (s4.1 100 11) (s4.2.2.2.2 121)
      rw [nn4, hn4]; exact vp_in_nI (by omega) (by omega)
    show bl_rn G l (d + 3) mX10_freeRecipe _ _ _ _ _ _ _ (bl_pv s4 121 (s4.1 100 11).toNatClampNeg (.ref (400 + 10 * c))) _
    rw [hn4, ecc]
    have hpv := @eqF_pv s4 121 c (.ref (400 + 10 * c))
    have hall : eqF (I, J, R, K, N) (bl_pv s4 121 c (.ref (400 + 10 * c))) (mdP c) := (g1.mono (fun y hy => hy.elim (fun q => Or.inl (Or.inl q)) (fun q => Or.inr (Or.inl q)))).trans ((hF4.mono (fun y hy => Or.inl (Or.inr hy))).trans (hpv.mono (fun y hy => Or.inr (Or.inr hy))))
    have h120 := hF4 120 (nr _ (by omega))
    have hp120 := hpv 120 (by omega)
    have hmk : mkR (bl_pv s4 121 c (.ref (400 + 10 * c))) c := by
      refine ⟨rcX.eq (rcX.eq g6 hF4 (nr _ (by omega)) (nr _ (by omega)) (nr _ (by omega))) hpv (by omega) (by omega) (by omega), rnX.eq u3 hpv (fun y hy e => by have := rnN_rng hy hc4; omega), ?_, ?_⟩
      · rw [hp120.2.2.1, h120.2.2.1]; exact g2
      · show bl_up2 s4.2.2.1 121 c (some (400 + 10 * c)) 121 c = _
        rw [bl_up2_at]
    obtain ⟨r1, r2⟩ := hI0.made hO hc hc4 hall (fun r hr => ⟨by rw [hp120.2.2.1, h120.2.2.1]; exact g3 r hr, by
      show bl_up2 s4.2.2.1 121 c (some (400 + 10 * c)) 121 r = _
      rw [bl_up2_nk hr, h4n.2.2.1, hy.2.2.1]⟩) ⟨by rw [hp120.2.2.2.1, h120.2.2.2.1]; exact g4, by rw [hp120.2.2.2.2, h120.2.2.2.2]; exact g5, by rw [pv_K, h4n.2.2.2.1, hy.2.2.2.1], by rw [pv_N, h4n.2.2.2.2, hy.2.2.2.2]⟩ hmk
    refine bl_lv [0, 1, 2] rfl ?_
    exact bl_WP_bud (b' := (0, 0)) (by decide) (by decide +kernel) (L64 _ r1 r2 hmk (hall 110 (mdP_no hc4 (by omega) (by omega) (by omega) (by omega) (by omega))).1)
  refine bl_go oX10_freeRecipe 80 [32] rfl ?_
  refine ⟨kx, _, bl_vs rx_1, kx, bl_ka kxr, (by show vp_in (I 100 11) (N 120); rw [nxr, hn]; exact vp_in_nI (by omega) (by omega)), _, bl_v0 (by show R 120 (I 100 11).toNatClampNeg = none; rw [hn, ecc]; exact m3), 300 + 10 * c, fr0 _ (by omega) (by omega), (by decide), (by decide +kernel), rfl, (Nat.le_of_ble_eq_true rfl), (2, 40), _, (by decide), (by decide +kernel), bl_MC_ini (c_Recipe_init (d := d + 2) (o := 300 + 10 * c) bl_mk_Keq ⟨(bl_mk_Kne (by omega)).trans (fr0 _ (by omega) (by omega)), (bl_mk_Kne (by omega)).trans (fr0 _ (by omega) (by omega))⟩), fun s2 q2 => ?_⟩
  have hF2 : eqF (I, J, R, K, N) s2 (fun y => 300 + 10 * c ≤ y ∧ y ≤ 300 + 10 * c + 2) := (eqF_mk.mono (fun y hy => by omega)).trans (eqF_inF q2 (by omega) (by intro p hp; simp at hp; rcases hp with rfl | rfl <;> simp))
  have h2 := hF2 100 (by omega)
  have h2r := hF2 120 (by omega)
  have kx2 : s2.2.2.2.1 100 = 11 := h2.2.2.2.1.trans kx
  have rx2 : s2.2.2.1 100 1 = some 120 := by rw [h2.2.2.1]; exact rx_1
  have kr2 : s2.2.2.2.1 120 = 22 := h2r.2.2.2.1.trans kxr
  have nr2 : s2.2.2.2.2 120 = 4 := h2r.2.2.2.2.trans nxr
  have hn2 : s2.1 100 11 = nI c := by rw [h2.1]; exact hn
  have ko2 : s2.2.2.2.1 (300 + 10 * c) = 5 := ((q2.1 _ (by simp)).2.2.1).trans bl_mk_Keq
  have hrc : rcX s2 (300 + 10 * c) := by
    obtain ⟨a1, a2, a3, -⟩ := q2.2.2.2 (1, 300 + 10 * c + 2, 20, 20) (by simp)
    obtain ⟨b1, b2, b3, -⟩ := q2.2.2.2 (0, 300 + 10 * c + 1, 20, 20) (by simp)
    exact ⟨ko2, b1, a1, b2, b3, a2, a3⟩
  refine ⟨kx2, _, bl_vs rx2, kx2, Or.inl kr2, ?_, ?_, ?_⟩
  · show s2.2.2.2.1 (300 + 10 * c) = bl_elt (s2.2.2.2.1 120) + 1
    rw [kr2]; exact ko2
  · show vp_in (s2.1 100 11) (s2.2.2.2.2 120)
    rw [nr2, hn2]; exact vp_in_nI (by omega) (by omega)
  show bl_rn G l (d + 3) mX10_freeRecipe _ _ _ _ _ _ _ (bl_pv s2 120 (s2.1 100 11).toNatClampNeg (.ref (300 + 10 * c))) _
  rw [hn2, ecc]
  have hpv := @eqF_pv s2 120 c (.ref (300 + 10 * c))
  refine bl_lv [0, 1] rfl ?_
  refine bl_WP_bud (b' := (151, 4336)) (by decide) (by decide +kernel) (L32 _ ((hF2.mono (fun y hy => Or.inl hy)).trans (hpv.mono (fun y hy => Or.inr hy))) ?_ (fun r hr => ?_) ?_ ?_ ?_)
  · show bl_up2 s2.2.2.1 120 c (some (300 + 10 * c)) 120 c = _
    rw [bl_up2_at]
  · show bl_up2 s2.2.2.1 120 c (some (300 + 10 * c)) 120 r = _
    rw [bl_up2_nk hr, h2r.2.2.1]
  · rw [pv_K, h2r.2.2.2.1]
  · rw [pv_N, h2r.2.2.2.2]
  · exact rcX.eq hrc hpv (by omega) (by omega) (by omega)
end CLSB
