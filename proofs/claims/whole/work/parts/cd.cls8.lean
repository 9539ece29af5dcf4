/-! ===== ButterLeaves: the tape is fed; a kitchen's numbers ===== -/
/-- what a kitchen that was read holds -/
def kOk (S : kst) (tf : Nat → Nat) : Prop := (∀ k, k < 9 → S.1 k = nI (tf k)) ∧ tfO tf ∧ (tf 4 ≤ 40 ∧ tf 5 ≤ 40 ∧ tf 6 ≤ 40 ∧ tf 7 ≤ 99 ∧ tf 8 ≤ 23) ∧ ∀ k, k < 24 → S.2 k = zI (-1) ∨ ∃ g : Nat, g ≤ 40 ∧ S.2 k = nI g
theorem kOk_pcl {B : Nat → Int32} {n c : Nat} {S S' : kst} {i j : Nat} {tf : Nat → Nat} (hc : c ≤ 9 ∧ c ≠ 1 ∧ c ≠ 2) (hi : i ≤ n) (hS : kOk S tf) (hp : pcl B n c S i = .inl (S', j)) : ∃ tf', kOk S' tf' := by
  obtain ⟨s1, s2, s3, s4⟩ := hS
  unfold pcl at hp
  split at hp
  · cases h1 : pnum B n 2 12 i with
    | inr f => rw [h1] at hp; cases hp
    | inl a =>
      rw [h1] at hp
      have b1 := pnum_e hi h1
      dsimp only [pbd] at hp
      cases h2 : pnum B n 2 12 a.2 with
      | inr f => rw [h2] at hp; cases hp
      | inl b =>
        rw [h2] at hp
        have b2 := pnum_e b1.1 h2
        dsimp only [pbd] at hp
        cases h3 : pnum B n 0 (min 3 ((min a.1 b.1 - 1) / 2)) b.2 with
        | inr f => rw [h3] at hp; cases hp
        | inl r =>
          rw [h3] at hp
          have b3 := pnum_e b2.1 h3
          dsimp only [pbd] at hp
          cases hp
          refine ⟨up1 (up1 (up1 tf 0 a.1) 1 b.1) 2 r.1, fun k hk => ?_, ?_, ?_, s4⟩
          · dsimp only
            by_cases e2 : k = 2
            · subst e2; rw [up1_at, up1_at]
            · rw [up1_ne e2, up1_ne e2]
              by_cases e1 : k = 1
              · subst e1; rw [up1_at, up1_at]
              · rw [up1_ne e1, up1_ne e1]
                by_cases e0 : k = 0
                · subst e0; rw [up1_at, up1_at]
                · rw [up1_ne e0, up1_ne e0]; exact s1 k hk
          · have e0 : up1 (up1 (up1 tf 0 a.1) 1 b.1) 2 r.1 0 = a.1 := rfl
            have e1 : up1 (up1 (up1 tf 0 a.1) 1 b.1) 2 r.1 1 = b.1 := rfl
            have e2 : up1 (up1 (up1 tf 0 a.1) 1 b.1) 2 r.1 2 = r.1 := rfl
            have e3 : up1 (up1 (up1 tf 0 a.1) 1 b.1) 2 r.1 3 = tf 3 := rfl
            unfold tfO
            rw [e0, e1, e2, e3]
            have := s2.2.2.2.2
            have q := b3.2.2
            refine ⟨b1.2, b2.2, ?_, ?_, this⟩ <;> omega
          · exact s3
  · rename_i c0
    split at hp
    · cases h1 : pnum B n 0 23 i with
      | inr f => rw [h1] at hp; cases hp
      | inl a =>
        rw [h1] at hp
        have b1 := pnum_e hi h1
        dsimp only [pbd] at hp
        cases h2 : pnum B n 0 40 a.2 with
        | inr f => rw [h2] at hp; cases hp
        | inl b =>
          rw [h2] at hp
          have b2 := pnum_e b1.1 h2
          dsimp only [pbd] at hp
          cases hp
          refine ⟨tf, s1, s2, s3, fun k hk => ?_⟩
          by_cases e : k = a.1
          · subst e; right; exact ⟨b.1, b2.2.2, up1_at⟩
          · dsimp only; rw [up1_ne e]; exact s4 k hk
    · rename_i c9
      cases h1 : pnum B n (cLo c) (cHi c) i with
      | inr f => rw [h1] at hp; cases hp
      | inl a =>
        rw [h1] at hp
        have b1 := pnum_e hi h1
        dsimp only [pbd] at hp
        cases hp
        refine ⟨up1 tf c a.1, fun k hk => ?_, ?_, ?_, s4⟩
        · dsimp only
          by_cases e : k = c
          · subst e; rw [up1_at, up1_at]
          · rw [up1_ne e, up1_ne e]; exact s1 k hk
        · unfold tfO
          rw [up1_ne (show 0 ≠ c by omega), up1_ne (show 1 ≠ c by omega), up1_ne (show 2 ≠ c by omega)]
          refine ⟨s2.1, s2.2.1, s2.2.2.1, s2.2.2.2.1, ?_⟩
          by_cases e : 3 = c
          · subst e; rw [up1_at]; exact b1.2.2
          · rw [up1_ne e]; exact s2.2.2.2.2
        · obtain ⟨t4, t5, t6, t7, t8⟩ := s3
          refine ⟨?_, ?_, ?_, ?_, ?_⟩
          · by_cases e : 4 = c
            · subst e; rw [up1_at]; exact b1.2.2
            · rw [up1_ne e]; exact t4
          · by_cases e : 5 = c
            · subst e; rw [up1_at]; exact b1.2.2
            · rw [up1_ne e]; exact t5
          · by_cases e : 6 = c
            · subst e; rw [up1_at]; exact b1.2.2
            · rw [up1_ne e]; exact t6
          · by_cases e : 7 = c
            · subst e; rw [up1_at]; exact b1.2.2
            · rw [up1_ne e]; exact t7
          · by_cases e : 8 = c
            · subst e; rw [up1_at]; exact b1.2.2
            · rw [up1_ne e]; exact t8
theorem kOk_pkit {B : Nat → Int32} {n : Nat} : ∀ f c S i tf, i ≤ n → kOk S tf → ∀ S', pkit B n f c S i = .inl S' → ∃ tf', kOk S' tf' := by
  intro f
  induction f with
  | zero => intro c S i tf hi hS S' hp; cases hp
  | succ f ih =>
    intro c S i tf hi hS S' hp
    unfold pkit at hp
    have hb : skB B n i ≤ n := skB_le hi
    split at hp
    · cases hp; exact ⟨tf, hS⟩
    · split at hp
      · cases hp
      · rename_i hne
        split at hp
        · cases hp
        · obtain ⟨k, hk, k1, k2, ek⟩ := (ckd_rng B (skB B n i) (skW B n (skB B n i))).resolve_left hne
          rw [ek, nI_clamp (by omega)] at hp
          cases h1 : pcl B n k S (skW B n (skB B n i)) with
          | inr f => rw [h1] at hp; cases hp
          | inl a =>
            rw [h1] at hp
            obtain ⟨S1, j1⟩ := a
            dsimp only [pbd] at hp
            obtain ⟨tf1, h1'⟩ := kOk_pcl ⟨hk, k1, k2⟩ (skW_le hb) hS h1
            cases h2 : pend B n j1 with
            | inr f => rw [h2] at hp; cases hp
            | inl e =>
              rw [h2] at hp
              dsimp only [pbd] at hp
              exact ih (c + 1) S1 e tf1 (pend_le h2) h1' S' hp
def km_tf : Nat → Nat := fun i => ([6, 4, 0, 1000, 4, 8, 18, 10, 6] : List Nat).getD i 0
theorem kOk_0 : kOk (km_un, fun _ => zI (-1)) km_tf := by
  refine ⟨by decide, ?_, by decide, fun k _ => Or.inl rfl⟩
  unfold tfO; decide
theorem rm_ok {f : Nat → Int32} (h : ∀ k, k < 24 → f k = zI (-1) ∨ ∃ g : Nat, g ≤ 40 ∧ f k = nI g) {c : Int32} (hc : ∃ g : Nat, g ≤ 40 ∧ c = nI g) : ∀ i, i ≤ 24 → ∃ g : Nat, g ≤ 40 ∧ rm_cur f c i = nI g
  | 0, _ => hc
  | i + 1, hi => by
    show ∃ g : Nat, g ≤ 40 ∧ (if f i = zI (-1) then rm_cur f c i else f i) = nI g
    by_cases e : f i = zI (-1)
    · rw [if_pos e]; exact rm_ok h hc i (by omega)
    · rw [if_neg e]; exact (h i (by omega)).resolve_left e
theorem rm_deg_ok {f : Nat → Int32} (h : ∀ k, k < 24 → f k = zI (-1) ∨ ∃ g : Nat, g ≤ 40 ∧ f k = nI g) {i : Nat} (hi : i < 24) : ∃ g : Nat, g ≤ 40 ∧ rm_deg f i = nI g := rm_ok h (rm_ok h ⟨20, by omega, rfl⟩ 24 (by omega)) (i + 1) (by omega)
/-- all that the state wants of a kitchen -/
def kAll (S : kst) (tf g : Nat → Nat) : Prop := (∀ k, k < 9 → S.1 k = nI (tf k)) ∧ tfO tf ∧ kiO tf g ∧ tf 8 ≤ 23 ∧ ∀ h, h < 24 → rm_deg S.2 h = nI (g h)
theorem kOk.all {S : kst} {tf : Nat → Nat} (h : kOk S tf) : ∃ g, kAll S tf g := by
  have h1 : ∀ i, ∃ g : Nat, g ≤ 40 ∧ (i < 24 → rm_deg S.2 i = nI g) := fun i => by
    by_cases e : i < 24
    · obtain ⟨g, a, b⟩ := rm_deg_ok h.2.2.2 e; exact ⟨g, a, fun _ => b⟩
    · exact ⟨0, by omega, fun q => absurd q e⟩
  refine ⟨fun i => Classical.choose (h1 i), h.1, h.2.1, ⟨h.2.2.1.1, h.2.2.1.2.1, h.2.2.1.2.2.1, h.2.2.1.2.2.2.1, fun i _ => (Classical.choose_spec (h1 i)).1⟩, h.2.2.1.2.2.2.2, fun i hi => (Classical.choose_spec (h1 i)).2 hi⟩
theorem kAll_pkit {B : Nat → Int32} {n : Nat} {S' : kst} (hp : pkit B n 31 0 (km_un, fun _ => zI (-1)) 0 = .inl S') : ∃ tf g, kAll S' tf g := by
  obtain ⟨tf, h⟩ := kOk_pkit 31 0 _ 0 km_tf (Nat.zero_le _) kOk_0 S' hp
  obtain ⟨g, h2⟩ := h.all
  exact ⟨tf, g, h2⟩
section CLS8
variable {G : bl_G} {l : Launch} {d : Nat} {I I' : Nat → Nat → Int32} {J J' : Nat → Nat → Int64} {R : Nat → Nat → Option Nat} {K N : Nat → Nat} {S : cS} {h : Nat} {x y w a b c e : Int32}
theorem clI.tape {t : Nat} {B : Nat → Int32} {fp : Int32} (hI : clI (I, J, R, K, N) S h) (hO : csO S) (hF : ∀ y, y ≠ 110 → y ≠ 111 → ¬ (370 - h < y ∧ y ≤ 370 - h + 3) → I' y = I y) (hT : I' 110 1 = nI t ∧ I' 110 3 = fp ∧ I' 111 = B) : clI (I', J, R, K, N) (S.1, S.2.1, t, B, fp, S.2.2.2.2.2) h := by
  obtain ⟨a1, a2, a3, a4, a5, a6, a7, a8, a9, a10⟩ := hI
  have hh := a2.1
  have hs := hF
  refine ⟨a1, a2, a3, a4, hT, kiC.nm a6 (hs _ (by omega) (by omega) (by omega)) (hs _ (by omega) (by omega) (by omega)), ?_, fun r hr => ?_, ?_, fun hw => (a10 hw).nm (fun y h1 h2 => hs y (by omega) (by omega) (by omega))⟩
  · unfold clN; dsimp only; rw [hs 100 (by omega) (by omega) (by omega), hs 170 (by omega) (by omega) (by omega), hs 171 (by omega) (by omega) (by omega)]; exact a7
  · obtain ⟨c1, c2, c3⟩ := a8 r hr
    have hr4 : r < S.1.2.2.1 := hr
    have hc4 := hO.2.2.1
    have hD := aD_20 hO r
    exact ⟨c1, c2.nm (hs _ (by omega) (by omega) (by omega)) (hs _ (by omega) (by omega) (by omega)) (hs _ (by omega) (by omega) (by omega)), c3.nm (fun y hy => ⟨hs y (by have := rnN_rng hy (by omega); omega) (by have := rnN_rng hy (by omega); omega) (by have := rnN_rng hy (by omega); omega), rfl⟩) (by omega)⟩
  · unfold clB; dsimp only; rw [hs 150 (by omega) (by omega) (by omega)]
    rcases a9 with a | ⟨a, b⟩
    · exact Or.inl a
    · exact Or.inr ⟨a, b.nm (fun y h1 h2 => hs y (by omega) (by omega) (by omega))⟩
/-- twenty bytes fed -/
def fdS (S : cS) (a b c d e : Int32) : cS := (S.1, S.2.1, S.2.2.1 + 20, fun j => if S.2.2.1 ≤ j ∧ j < S.2.2.1 + 20 then fd20 a b c d e (j - S.2.2.1) else S.2.2.2.1 j, S.2.2.2.2)
theorem c_BL_feed {v : Int32} (hI : clI (I, J, R, K, N) S h) (hO : csO S) : bl_MC G l (d + 2) mX10_feed [.ref 100, .int a, .int b, .int c, .int v, .int e] (I, J, R, K, N) (0, 0) (fun o s' => (380 < S.2.2.1 ∧ o = .inl (some (.int (zI (-1)))) ∧ s' = (I, J, R, K, N)) ∨ (S.2.2.1 ≤ 380 ∧ o = .inl (some (.int (nI (S.2.2.1 + 20)))) ∧ ∃ I', s' = (I', J, R, K, N) ∧ clI s' (fdS S a b c v e) h ∧ cfF (I, J, R, K, N) s')) := by
  obtain ⟨⟨kx, ⟨rx_0, rx_1, rx_2, rx_3, rx_4, rx_5, rx_6, rx_7⟩, ⟨kxr, nxr⟩, ⟨kxn, nxn⟩, kxb, ⟨kxi, nxi⟩, ⟨kxj, nxj⟩⟩, hTp, hUn, hBn, hK1, hK2, hSt, hStr⟩ := hI.1
  have ht := hI.2.2.2.2.1
  have kxt := hTp.2.1
  dsimp only at kx rx_0 kxt ht
  have hap := c_Tape_append (G := G) (l := l) (d := d) (I := I) (J := J) (t := 110) (fk := I 110 2) (fp := I 110 3) (en := I 110 4) (at' := I 110 5) (wa := I 110 6) (v1 := a) (v2 := b) (v3 := c) (v4 := v) (v5 := e) (show tpS R K N 110 from hTp) ht.1 hO.2.2.2.2.2.1
  rw [tpI_eta] at hap
  refine bl_MC_intro (by decide +kernel) rfl (Nat.le_of_ble_eq_true rfl) ?_
  refine bl_go oX10_feed 80 [] rfl ?_
  refine ⟨kx, _, bl_vs rx_0, rfl, rfl, kxt, (Nat.le_of_ble_eq_true rfl), (0, 0), Nat.le_of_ble_eq_true rfl, Nat.le_of_ble_eq_true rfl, bl_MC_mono (hap) (fun o11 σ11 q11 => ?_)⟩
  rcases q11 with ⟨g1, rfl, rfl⟩ | ⟨g1, rfl, I1, rfl, g2, g3⟩
  · refine bl_go oX10_feed 80 [] rfl ?_
    refine ⟨(fun h => by cases h), ?_⟩
    try show _ ∧ _
    try dsimp only [bl_pv]
    first
    | exact Or.inl ⟨g1, rfl, rfl⟩
    | skip
      have hF : ∀ y, y ≠ 110 → y ≠ 111 → tpI I1 110 (nI (S.2.2.1 + 20)) (I 110 2) (I 110 3) (I 110 4) (I 110 5) (I 110 6) y = I y := fun y y1 y2 => by rw [tpI_ne y1]; exact g2 y y2
      refine Or.inr ⟨g1, rfl, _, rfl, hI.tape hO (fun y y1 y2 _ => hF y y1 y2) ⟨rfl, ht.2.1, ?_⟩, fun y y1 y2 => ⟨hF y (by omega) (by omega), rfl, rfl, rfl, rfl⟩⟩
      rw [tpI_ne (by omega)]
      funext j
      rw [g3 j, ht.2.2]
  · refine bl_go oX10_feed 80 [] rfl ?_
    refine ⟨(fun h => by cases h), ?_⟩
    try show _ ∧ _
    try dsimp only [bl_pv]
    first
    | exact Or.inl ⟨g1, rfl, rfl⟩
    | skip
      have hF : ∀ y, y ≠ 110 → y ≠ 111 → tpI I1 110 (nI (S.2.2.1 + 20)) (I 110 2) (I 110 3) (I 110 4) (I 110 5) (I 110 6) y = I y := fun y y1 y2 => by rw [tpI_ne y1]; exact g2 y y2
      refine Or.inr ⟨g1, rfl, _, rfl, hI.tape hO (fun y y1 y2 _ => hF y y1 y2) ⟨rfl, ht.2.1, ?_⟩, fun y y1 y2 => ⟨hF y (by omega) (by omega), rfl, rfl, rfl, rfl⟩⟩
      rw [tpI_ne (by omega)]
      funext j
      rw [g3 j, ht.2.2]

end CLS8
