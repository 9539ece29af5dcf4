/-! ===== Model: the slab as a whole, a step of it ===== -/
def slP (S : sl) : Nat → Nat → Nat := fun x y => S.1.2.2 x * S.2.1.2.2 y
def slQ (S : sl) : Nat → Nat → Nat := fun x y => S.1.2.1 x * S.2.1.2.1 y
/-- the model holds the slab S -/
def msl (I : Nat → Nat → Int32) (J : Nat → Nat → Int64) (m : Nat) (S : sl) : Prop := msC I J m S.1.1 S.2.1.1 (slP S) (slQ S) ∧ J m 29 = nJ S.2.2.1 ∧ J m 30 = nJ S.2.2.2.2 ∧ J (m + 41) 0 = nJ S.2.2.2.1 ∧ J (m + 41) 1 = 0
def slOk (S : sl) : Prop := (0 < S.1.1 ∧ S.1.1 ≤ 48) ∧ 0 < S.2.1.1 ∧ S.2.1.1 ≤ 48
theorem st_n1 {n : Nat} (hk : st_ok 1 n) : n = 2 ∨ n = 3 ∨ n = 4 := by have := hk.2.2.1 (by omega); omega
theorem slOk_step {S : sl} {k n : Nat} (h : slOk S) (hk : st_ok k n) (hc : sl_can k n S.1.1) : slOk (sl_step S k n) := by
  obtain ⟨⟨a1, a2⟩, b1, b2⟩ := h
  match k, hk, hc with
  | 0, hk, hc =>
    have hn := hk.2.2.1 (by omega)
    exact ⟨⟨Nat.mul_pos a1 (by omega), hc⟩, b1, b2⟩
  | 1, hk, hc =>
    have hc' : S.1.1 % n = 0 := hc
    rcases st_n1 hk with rfl | rfl | rfl
    · exact ⟨⟨show 0 < S.1.1 / 2 by omega, show S.1.1 / 2 ≤ 48 by omega⟩, b1, b2⟩
    · exact ⟨⟨show 0 < S.1.1 / 3 by omega, show S.1.1 / 3 ≤ 48 by omega⟩, b1, b2⟩
    · exact ⟨⟨show 0 < S.1.1 / 4 by omega, show S.1.1 / 4 ≤ 48 by omega⟩, b1, b2⟩
  | 2, hk, hc =>
    have hc' : S.1.1 % 4 = 0 := hc
    exact ⟨⟨show 0 < S.1.1 / 4 by omega, show S.1.1 / 4 ≤ 48 by omega⟩, b1, b2⟩
  | 3, hk, hc =>
    have hc' : 4 * n ≤ S.1.1 := hc
    have hn := hk.2.2.2 (by omega)
    exact ⟨⟨show 0 < S.1.1 - 2 * n by omega, show S.1.1 - 2 * n ≤ 48 by omega⟩, b1, b2⟩
  | 4, hk, hc =>
    have hc' : 2 * n < S.1.1 := hc
    exact ⟨⟨show 0 < S.1.1 - 2 * n by omega, show S.1.1 - 2 * n ≤ 48 by omega⟩, b1, b2⟩
  | 5, hk, hc => exact ⟨⟨b1, b2⟩, a1, a2⟩
  | k + 6, hk, hc => exact ⟨⟨a1, a2⟩, b1, b2⟩
theorem msC.congr {I : Nat → Nat → Int32} {J : Nat → Nat → Int64} {m w h : Nat} {B S B' S' : Nat → Nat → Nat} (hh : msC I J m w h B S) (e : ∀ x y, x < w → y < h → B x y = B' x y ∧ S x y = S' x y) : msC I J m w h B' S' := by
  refine ⟨hh.1, hh.2.1, fun x y hx hy => ?_⟩
  rw [← (e x y hx hy).1, ← (e x y hx hy).2]
  exact hh.2.2 x y hx hy
theorem smF.trans {I I1 I2 : Nat → Nat → Int32} {J J1 J2 : Nat → Nat → Int64} {m : Nat} (h : smF I I1 J J1 m) (h2 : smF I1 I2 J1 J2 m) : smF I I2 J J2 m :=
  ⟨fun x a b c e f => (h2.1 x a b c e f).trans (h.1 x a b c e f), fun j a b => (h2.2.1 j a b).trans (h.2.1 j a b), fun x a b c => (h2.2.2.1 x a b c).trans (h.2.2.1 x a b c), fun j a b => (h2.2.2.2 j a b).trans (h.2.2.2 j a b)⟩
theorem smF.refl {I : Nat → Nat → Int32} {J : Nat → Nat → Int64} {m : Nat} : smF I I J J m := ⟨fun _ _ _ _ _ _ => rfl, fun _ _ _ => rfl, fun _ _ _ _ => rfl, fun _ _ _ => rfl⟩
theorem jn_nJ {J J' : Nat → Nat → Int64} {m q s t : Nat} (h : jnC J J' m q) (h0 : J (m + 41) 0 = nJ s) (h1 : J (m + 41) 1 = 0) (e : s + q = t) : J' (m + 41) 0 = nJ t ∧ J' (m + 41) 1 = 0 := by
  refine ⟨?_, h.2.trans h1⟩
  rw [h.1, h0, nJ_add, e]
theorem smf_mul (a : Nat) (d : Nat → Nat) : ∀ h, smf (fun y => a * d y) h = a * smf d h
  | 0 => rfl
  | h + 1 => by
    show smf (fun y => a * d y) h + a * d h = a * (smf d h + d h)
    rw [smf_mul a d h, Nat.mul_add]
theorem smf_split (f : Nat → Nat) (n : Nat) : ∀ k, smf f (n + k) = smf f n + smf (fun i => f (n + i)) k
  | 0 => rfl
  | k + 1 => by
    show smf f (n + k) + f (n + k) = smf f n + (smf (fun i => f (n + i)) k + f (n + k))
    rw [smf_split f n k, Nat.add_assoc]
theorem smf_congr {f g : Nat → Nat} : ∀ n, (∀ i, i < n → f i = g i) → smf f n = smf g n
  | 0, _ => rfl
  | n + 1, h => by
    show smf f n + f n = smf g n + g n
    rw [smf_congr n (fun i hi => h i (by omega)), h n (by omega)]
theorem ctT_smf {n w h : Nat} {S : Nat → Nat → Nat} : ∀ i, ctT n w h S i = smf (fun j => if j < n ∨ w - n ≤ j then smf (S j) h else 0) i
  | 0 => rfl
  | i + 1 => by
    show ctT n w h S i + _ = smf _ i + _
    rw [ctT_smf i]
theorem smf_zero {f : Nat → Nat} : ∀ n, (∀ i, i < n → f i = 0) → smf f n = 0
  | 0, _ => rfl
  | n + 1, h => by
    show smf f n + f n = 0
    rw [smf_zero n (fun i hi => h i (by omega)), h n (by omega)]
theorem smf_mulr (b : Nat) (a : Nat → Nat) : ∀ h, smf (fun y => a y * b) h = smf a h * b
  | 0 => (Nat.zero_mul b).symm
  | h + 1 => by
    show smf (fun y => a y * b) h + a h * b = (smf a h + a h) * b
    rw [smf_mulr b a h, Nat.add_mul]
theorem ctT_cut {S : sl} {n : Nat} (hn : 2 * n < S.1.1) : ctT n S.1.1 S.2.1.1 (slQ S) S.1.1 = sl_cut S n := by
  have e : S.1.1 = n + ((S.1.1 - 2 * n) + n) := by omega
  rw [ctT_smf]
  have e1 : smf (fun j => if j < n ∨ S.1.1 - n ≤ j then smf (slQ S j) S.2.1.1 else 0) S.1.1 = smf (fun j => if j < n ∨ S.1.1 - n ≤ j then smf (slQ S j) S.2.1.1 else 0) (n + ((S.1.1 - 2 * n) + n)) := congrArg _ e
  rw [e1, smf_split, smf_split]
  have hz : smf (fun i => if n + i < n ∨ S.1.1 - n ≤ n + i then smf (slQ S (n + i)) S.2.1.1 else 0) (S.1.1 - 2 * n) = 0 := smf_zero _ (fun i hi => if_neg (by omega))
  rw [hz, Nat.zero_add]
  have ha : smf (fun j => if j < n ∨ S.1.1 - n ≤ j then smf (slQ S j) S.2.1.1 else 0) n = smf S.1.2.1 n * smf S.2.1.2.1 S.2.1.1 := by
    rw [← smf_mulr]
    exact smf_congr n (fun i hi => (if_pos (Or.inl hi)).trans (smf_mul _ _ _))
  have hb : smf (fun i => if n + (S.1.1 - 2 * n + i) < n ∨ S.1.1 - n ≤ n + (S.1.1 - 2 * n + i) then smf (slQ S (n + (S.1.1 - 2 * n + i))) S.2.1.1 else 0) n = smf (fun i => S.1.2.1 (S.1.1 - n + i)) n * smf S.2.1.2.1 S.2.1.1 := by
    rw [← smf_mulr]
    refine smf_congr n (fun i hi => (if_pos (Or.inr (by omega))).trans ?_)
    rw [show n + (S.1.1 - 2 * n + i) = S.1.1 - n + i by omega]
    exact smf_mul _ _ _
  rw [ha, hb, ← Nat.add_mul]
  rfl
section MODEL19
variable {G : bl_G} {l : Launch} {d m : Nat} {I : Nat → Nat → Int32} {J : Nat → Nat → Int64} {R : Nat → Nat → Option Nat} {K N : Nat → Nat} {S : sl}
theorem c_Model_canBe_0 {n L : Nat} {x y : Int32} (km : K m = 12) (hx : x = nI 0) (hy : y = nI n) (hz : I m 21 = nI L) (hn : n ≤ 36) (hL : L ≤ 48) : bl_MC G l d mX11_canBe [.ref m, .int x, .int y] (I, J, R, K, N) (0, 0) (fun o σ' => (∃ w, o = .inl (some (.int w)) ∧ ((w = 1 ∧ sl_can 0 n L) ∨ (w = 0 ∧ ¬ sl_can 0 n L))) ∧ σ' = (I, J, R, K, N)) := by
  subst hx hy
  have hLn : (L : Int) * (n : Int) ≤ 48 * 36 := by have := Nat.mul_le_mul hL hn; rw [← Int.natCast_mul]; omega
  have hLn0 : (L : Int) * (n : Int) = ((L * n : Nat) : Int) := (Int.natCast_mul _ _).symm
  simp only [sl_can]
  refine bl_MC_intro (by decide +kernel) rfl (Nat.le_of_ble_eq_true rfl) ?_
  refine bl_go oX11_canBe 80 [] rfl ?_
  refine ⟨fun h1 => ?_, fun j1 o1 ho1 h1 _ => ?_⟩
  · try simp (disch := omega) only [hz, zI_n, zI_o, zI_lit, zI_neg, zI_add, zI_sub, zI_mul, zI_lt, zI_le, zI_eq, zI_clamp, zI_in, zI_div, zI_rem, lg_lt0, lg_gt0, lg_eq0, lg_le0, lg_ge0, Int.toNat_natCast, ge_iff_le, gt_iff_lt, List.length_cons, List.length_nil, bl_up2_at, bl_up2_nk, bl_up2_nx, zI_toInt] at h1
    first
    | (exfalso; first | omega | exact h1 trivial)
    | (refine ⟨(fun _ => by first | exact Or.inl rfl | exact Or.inr rfl), ?_⟩
       try show _ ∧ _
       try dsimp only [bl_pv]
       refine ⟨⟨_, rfl, ?_⟩, rfl⟩
       first
       | exact Or.inl ⟨rfl, by first | trivial | omega⟩
       | exact Or.inr ⟨rfl, by omega⟩)
  · try simp (disch := omega) only [hz, zI_n, zI_o, zI_lit, zI_neg, zI_add, zI_sub, zI_mul, zI_lt, zI_le, zI_eq, zI_clamp, zI_in, zI_div, zI_rem, lg_lt0, lg_gt0, lg_eq0, lg_le0, lg_ge0, Int.toNat_natCast, ge_iff_le, gt_iff_lt, List.length_cons, List.length_nil, bl_up2_at, bl_up2_nk, bl_up2_nx, zI_toInt] at h1
    match j1, ho1, h1 with
    | 0, ho1, h1 =>
      cases ho1
      first
      | (exfalso; omega)
      | (refine ⟨km, fun h44 => ?_, fun h44 => ?_⟩
         · try simp (disch := omega) only [hz, zI_n, zI_o, zI_lit, zI_neg, zI_add, zI_sub, zI_mul, zI_lt, zI_le, zI_eq, zI_clamp, zI_in, zI_div, zI_rem, lg_lt0, lg_gt0, lg_eq0, lg_le0, lg_ge0, Int.toNat_natCast, ge_iff_le, gt_iff_lt, List.length_cons, List.length_nil, bl_up2_at, bl_up2_nk, bl_up2_nx] at h44
           first
           | (exfalso; first | omega | exact h44 trivial)
           | (refine ⟨(fun _ => by first | exact Or.inl rfl | exact Or.inr rfl), ?_⟩
              try show _ ∧ _
              try dsimp only [bl_pv]
              refine ⟨⟨_, rfl, ?_⟩, rfl⟩
              first
              | exact Or.inl ⟨rfl, by first | trivial | omega⟩
              | exact Or.inr ⟨rfl, by omega⟩)
         · try simp (disch := omega) only [hz, zI_n, zI_o, zI_lit, zI_neg, zI_add, zI_sub, zI_mul, zI_lt, zI_le, zI_eq, zI_clamp, zI_in, zI_div, zI_rem, lg_lt0, lg_gt0, lg_eq0, lg_le0, lg_ge0, Int.toNat_natCast, ge_iff_le, gt_iff_lt, List.length_cons, List.length_nil, bl_up2_at, bl_up2_nk, bl_up2_nx] at h44
           first
           | (exfalso; first | omega | exact h44 trivial)
           | (refine ⟨(fun _ => by first | exact Or.inl rfl | exact Or.inr rfl), ?_⟩
              try show _ ∧ _
              try dsimp only [bl_pv]
              refine ⟨⟨_, rfl, ?_⟩, rfl⟩
              first
              | exact Or.inl ⟨rfl, by first | trivial | omega⟩
              | exact Or.inr ⟨rfl, by omega⟩))
    | 1, ho1, h1 =>
      cases ho1
      first
      | (exfalso; omega)
      | (refine ⟨km, (by first | decide | (simp (disch := omega) only [hz, zI_n, zI_o, zI_lit, zI_neg, zI_add, zI_sub, zI_mul, zI_lt, zI_le, zI_eq, zI_clamp, zI_in, zI_div, zI_rem, lg_lt0, lg_gt0, lg_eq0, lg_le0, lg_ge0, Int.toNat_natCast, ge_iff_le, gt_iff_lt, List.length_cons, List.length_nil, bl_up2_at, bl_up2_nk, bl_up2_nx] <;> omega)), fun h59 => ?_, fun h59 => ?_⟩
         · try simp (disch := omega) only [hz, zI_n, zI_o, zI_lit, zI_neg, zI_add, zI_sub, zI_mul, zI_lt, zI_le, zI_eq, zI_clamp, zI_in, zI_div, zI_rem, lg_lt0, lg_gt0, lg_eq0, lg_le0, lg_ge0, Int.toNat_natCast, ge_iff_le, gt_iff_lt, List.length_cons, List.length_nil, bl_up2_at, bl_up2_nk, bl_up2_nx] at h59
           first
           | (exfalso; first | omega | exact h59 trivial)
           | (refine ⟨(fun _ => by first | exact Or.inl rfl | exact Or.inr rfl), ?_⟩
              try show _ ∧ _
              try dsimp only [bl_pv]
              refine ⟨⟨_, rfl, ?_⟩, rfl⟩
              first
              | exact Or.inl ⟨rfl, by first | trivial | omega⟩
              | exact Or.inr ⟨rfl, by omega⟩)
         · try simp (disch := omega) only [hz, zI_n, zI_o, zI_lit, zI_neg, zI_add, zI_sub, zI_mul, zI_lt, zI_le, zI_eq, zI_clamp, zI_in, zI_div, zI_rem, lg_lt0, lg_gt0, lg_eq0, lg_le0, lg_ge0, Int.toNat_natCast, ge_iff_le, gt_iff_lt, List.length_cons, List.length_nil, bl_up2_at, bl_up2_nk, bl_up2_nx] at h59
           first
           | (exfalso; first | omega | exact h59 trivial)
           | (refine ⟨(fun _ => by first | exact Or.inl rfl | exact Or.inr rfl), ?_⟩
              try show _ ∧ _
              try dsimp only [bl_pv]
              refine ⟨⟨_, rfl, ?_⟩, rfl⟩
              first
              | exact Or.inl ⟨rfl, by first | trivial | omega⟩
              | exact Or.inr ⟨rfl, by omega⟩))
    | 2, ho1, h1 =>
      cases ho1
      first
      | (exfalso; omega)
      | (refine ⟨km, (by first | decide | (simp (disch := omega) only [hz, zI_n, zI_o, zI_lit, zI_neg, zI_add, zI_sub, zI_mul, zI_lt, zI_le, zI_eq, zI_clamp, zI_in, zI_div, zI_rem, lg_lt0, lg_gt0, lg_eq0, lg_le0, lg_ge0, Int.toNat_natCast, ge_iff_le, gt_iff_lt, List.length_cons, List.length_nil, bl_up2_at, bl_up2_nk, bl_up2_nx] <;> omega)), fun h74 => ?_, fun h74 => ?_⟩
         · try simp (disch := omega) only [hz, zI_n, zI_o, zI_lit, zI_neg, zI_add, zI_sub, zI_mul, zI_lt, zI_le, zI_eq, zI_clamp, zI_in, zI_div, zI_rem, lg_lt0, lg_gt0, lg_eq0, lg_le0, lg_ge0, Int.toNat_natCast, ge_iff_le, gt_iff_lt, List.length_cons, List.length_nil, bl_up2_at, bl_up2_nk, bl_up2_nx] at h74
           first
           | (exfalso; first | omega | exact h74 trivial)
           | (refine ⟨(fun _ => by first | exact Or.inl rfl | exact Or.inr rfl), ?_⟩
              try show _ ∧ _
              try dsimp only [bl_pv]
              refine ⟨⟨_, rfl, ?_⟩, rfl⟩
              first
              | exact Or.inl ⟨rfl, by first | trivial | omega⟩
              | exact Or.inr ⟨rfl, by omega⟩)
         · try simp (disch := omega) only [hz, zI_n, zI_o, zI_lit, zI_neg, zI_add, zI_sub, zI_mul, zI_lt, zI_le, zI_eq, zI_clamp, zI_in, zI_div, zI_rem, lg_lt0, lg_gt0, lg_eq0, lg_le0, lg_ge0, Int.toNat_natCast, ge_iff_le, gt_iff_lt, List.length_cons, List.length_nil, bl_up2_at, bl_up2_nk, bl_up2_nx] at h74
           first
           | (exfalso; first | omega | exact h74 trivial)
           | (refine ⟨(fun _ => by first | exact Or.inl rfl | exact Or.inr rfl), ?_⟩
              try show _ ∧ _
              try dsimp only [bl_pv]
              refine ⟨⟨_, rfl, ?_⟩, rfl⟩
              first
              | exact Or.inl ⟨rfl, by first | trivial | omega⟩
              | exact Or.inr ⟨rfl, by omega⟩))
    | 3, ho1, h1 =>
      cases ho1
      first
      | (exfalso; omega)
      | (refine ⟨km, fun h90 => ?_, fun h90 => ?_⟩
         · try simp (disch := omega) only [hz, zI_n, zI_o, zI_lit, zI_neg, zI_add, zI_sub, zI_mul, zI_lt, zI_le, zI_eq, zI_clamp, zI_in, zI_div, zI_rem, lg_lt0, lg_gt0, lg_eq0, lg_le0, lg_ge0, Int.toNat_natCast, ge_iff_le, gt_iff_lt, List.length_cons, List.length_nil, bl_up2_at, bl_up2_nk, bl_up2_nx] at h90
           first
           | (exfalso; first | omega | exact h90 trivial)
           | (refine ⟨(fun _ => by first | exact Or.inl rfl | exact Or.inr rfl), ?_⟩
              try show _ ∧ _
              try dsimp only [bl_pv]
              refine ⟨⟨_, rfl, ?_⟩, rfl⟩
              first
              | exact Or.inl ⟨rfl, by first | trivial | omega⟩
              | exact Or.inr ⟨rfl, by omega⟩)
         · try simp (disch := omega) only [hz, zI_n, zI_o, zI_lit, zI_neg, zI_add, zI_sub, zI_mul, zI_lt, zI_le, zI_eq, zI_clamp, zI_in, zI_div, zI_rem, lg_lt0, lg_gt0, lg_eq0, lg_le0, lg_ge0, Int.toNat_natCast, ge_iff_le, gt_iff_lt, List.length_cons, List.length_nil, bl_up2_at, bl_up2_nk, bl_up2_nx] at h90
           first
           | (exfalso; first | omega | exact h90 trivial)
           | (refine ⟨(fun _ => by first | exact Or.inl rfl | exact Or.inr rfl), ?_⟩
              try show _ ∧ _
              try dsimp only [bl_pv]
              refine ⟨⟨_, rfl, ?_⟩, rfl⟩
              first
              | exact Or.inl ⟨rfl, by first | trivial | omega⟩
              | exact Or.inr ⟨rfl, by omega⟩))
    | 4, ho1, h1 =>
      cases ho1
      first
      | (exfalso; omega)
      | (refine ⟨km, fun h106 => ?_, fun h106 => ?_⟩
         · try simp (disch := omega) only [hz, zI_n, zI_o, zI_lit, zI_neg, zI_add, zI_sub, zI_mul, zI_lt, zI_le, zI_eq, zI_clamp, zI_in, zI_div, zI_rem, lg_lt0, lg_gt0, lg_eq0, lg_le0, lg_ge0, Int.toNat_natCast, ge_iff_le, gt_iff_lt, List.length_cons, List.length_nil, bl_up2_at, bl_up2_nk, bl_up2_nx] at h106
           first
           | (exfalso; first | omega | exact h106 trivial)
           | (refine ⟨(fun _ => by first | exact Or.inl rfl | exact Or.inr rfl), ?_⟩
              try show _ ∧ _
              try dsimp only [bl_pv]
              refine ⟨⟨_, rfl, ?_⟩, rfl⟩
              first
              | exact Or.inl ⟨rfl, by first | trivial | omega⟩
              | exact Or.inr ⟨rfl, by omega⟩)
         · try simp (disch := omega) only [hz, zI_n, zI_o, zI_lit, zI_neg, zI_add, zI_sub, zI_mul, zI_lt, zI_le, zI_eq, zI_clamp, zI_in, zI_div, zI_rem, lg_lt0, lg_gt0, lg_eq0, lg_le0, lg_ge0, Int.toNat_natCast, ge_iff_le, gt_iff_lt, List.length_cons, List.length_nil, bl_up2_at, bl_up2_nk, bl_up2_nx] at h106
           first
           | (exfalso; first | omega | exact h106 trivial)
           | (refine ⟨(fun _ => by first | exact Or.inl rfl | exact Or.inr rfl), ?_⟩
              try show _ ∧ _
              try dsimp only [bl_pv]
              refine ⟨⟨_, rfl, ?_⟩, rfl⟩
              first
              | exact Or.inl ⟨rfl, by first | trivial | omega⟩
              | exact Or.inr ⟨rfl, by omega⟩))
    | _ + 5, ho1, _ => exact absurd ho1 (by simp)
theorem c_Model_canBe_2 {n L : Nat} {x y : Int32} (km : K m = 12) (hx : x = nI 2) (hy : y = nI n) (hz : I m 21 = nI L) (hn : n ≤ 36) (hL : L ≤ 48) : bl_MC G l d mX11_canBe [.ref m, .int x, .int y] (I, J, R, K, N) (0, 0) (fun o σ' => (∃ w, o = .inl (some (.int w)) ∧ ((w = 1 ∧ sl_can 2 n L) ∨ (w = 0 ∧ ¬ sl_can 2 n L))) ∧ σ' = (I, J, R, K, N)) := by
  subst hx hy
  have hLn : (L : Int) * (n : Int) ≤ 48 * 36 := by have := Nat.mul_le_mul hL hn; rw [← Int.natCast_mul]; omega
  have hLn0 : (L : Int) * (n : Int) = ((L * n : Nat) : Int) := (Int.natCast_mul _ _).symm
  simp only [sl_can]
  refine bl_MC_intro (by decide +kernel) rfl (Nat.le_of_ble_eq_true rfl) ?_
  refine bl_go oX11_canBe 80 [] rfl ?_
  refine ⟨fun h1 => ?_, fun j1 o1 ho1 h1 _ => ?_⟩
  · try simp (disch := omega) only [hz, zI_n, zI_o, zI_lit, zI_neg, zI_add, zI_sub, zI_mul, zI_lt, zI_le, zI_eq, zI_clamp, zI_in, zI_div, zI_rem, lg_lt0, lg_gt0, lg_eq0, lg_le0, lg_ge0, Int.toNat_natCast, ge_iff_le, gt_iff_lt, List.length_cons, List.length_nil, bl_up2_at, bl_up2_nk, bl_up2_nx, zI_toInt] at h1
    first
    | (exfalso; first | omega | exact h1 trivial)
    | (refine ⟨(fun _ => by first | exact Or.inl rfl | exact Or.inr rfl), ?_⟩
       try show _ ∧ _
       try dsimp only [bl_pv]
       refine ⟨⟨_, rfl, ?_⟩, rfl⟩
       first
       | exact Or.inl ⟨rfl, by first | trivial | omega⟩
       | exact Or.inr ⟨rfl, by omega⟩)
  · try simp (disch := omega) only [hz, zI_n, zI_o, zI_lit, zI_neg, zI_add, zI_sub, zI_mul, zI_lt, zI_le, zI_eq, zI_clamp, zI_in, zI_div, zI_rem, lg_lt0, lg_gt0, lg_eq0, lg_le0, lg_ge0, Int.toNat_natCast, ge_iff_le, gt_iff_lt, List.length_cons, List.length_nil, bl_up2_at, bl_up2_nk, bl_up2_nx, zI_toInt] at h1
    match j1, ho1, h1 with
    | 0, ho1, h1 =>
      cases ho1
      first
      | (exfalso; omega)
      | (refine ⟨km, fun h44 => ?_, fun h44 => ?_⟩
         · try simp (disch := omega) only [hz, zI_n, zI_o, zI_lit, zI_neg, zI_add, zI_sub, zI_mul, zI_lt, zI_le, zI_eq, zI_clamp, zI_in, zI_div, zI_rem, lg_lt0, lg_gt0, lg_eq0, lg_le0, lg_ge0, Int.toNat_natCast, ge_iff_le, gt_iff_lt, List.length_cons, List.length_nil, bl_up2_at, bl_up2_nk, bl_up2_nx] at h44
           first
           | (exfalso; first | omega | exact h44 trivial)
           | (refine ⟨(fun _ => by first | exact Or.inl rfl | exact Or.inr rfl), ?_⟩
              try show _ ∧ _
              try dsimp only [bl_pv]
              refine ⟨⟨_, rfl, ?_⟩, rfl⟩
              first
              | exact Or.inl ⟨rfl, by first | trivial | omega⟩
              | exact Or.inr ⟨rfl, by omega⟩)
         · try simp (disch := omega) only [hz, zI_n, zI_o, zI_lit, zI_neg, zI_add, zI_sub, zI_mul, zI_lt, zI_le, zI_eq, zI_clamp, zI_in, zI_div, zI_rem, lg_lt0, lg_gt0, lg_eq0, lg_le0, lg_ge0, Int.toNat_natCast, ge_iff_le, gt_iff_lt, List.length_cons, List.length_nil, bl_up2_at, bl_up2_nk, bl_up2_nx] at h44
           first
           | (exfalso; first | omega | exact h44 trivial)
           | (refine ⟨(fun _ => by first | exact Or.inl rfl | exact Or.inr rfl), ?_⟩
              try show _ ∧ _
              try dsimp only [bl_pv]
              refine ⟨⟨_, rfl, ?_⟩, rfl⟩
              first
              | exact Or.inl ⟨rfl, by first | trivial | omega⟩
              | exact Or.inr ⟨rfl, by omega⟩))
    | 1, ho1, h1 =>
      cases ho1
      first
      | (exfalso; omega)
      | (refine ⟨km, (by first | decide | (simp (disch := omega) only [hz, zI_n, zI_o, zI_lit, zI_neg, zI_add, zI_sub, zI_mul, zI_lt, zI_le, zI_eq, zI_clamp, zI_in, zI_div, zI_rem, lg_lt0, lg_gt0, lg_eq0, lg_le0, lg_ge0, Int.toNat_natCast, ge_iff_le, gt_iff_lt, List.length_cons, List.length_nil, bl_up2_at, bl_up2_nk, bl_up2_nx] <;> omega)), fun h59 => ?_, fun h59 => ?_⟩
         · try simp (disch := omega) only [hz, zI_n, zI_o, zI_lit, zI_neg, zI_add, zI_sub, zI_mul, zI_lt, zI_le, zI_eq, zI_clamp, zI_in, zI_div, zI_rem, lg_lt0, lg_gt0, lg_eq0, lg_le0, lg_ge0, Int.toNat_natCast, ge_iff_le, gt_iff_lt, List.length_cons, List.length_nil, bl_up2_at, bl_up2_nk, bl_up2_nx] at h59
           first
           | (exfalso; first | omega | exact h59 trivial)
           | (refine ⟨(fun _ => by first | exact Or.inl rfl | exact Or.inr rfl), ?_⟩
              try show _ ∧ _
              try dsimp only [bl_pv]
              refine ⟨⟨_, rfl, ?_⟩, rfl⟩
              first
              | exact Or.inl ⟨rfl, by first | trivial | omega⟩
              | exact Or.inr ⟨rfl, by omega⟩)
         · try simp (disch := omega) only [hz, zI_n, zI_o, zI_lit, zI_neg, zI_add, zI_sub, zI_mul, zI_lt, zI_le, zI_eq, zI_clamp, zI_in, zI_div, zI_rem, lg_lt0, lg_gt0, lg_eq0, lg_le0, lg_ge0, Int.toNat_natCast, ge_iff_le, gt_iff_lt, List.length_cons, List.length_nil, bl_up2_at, bl_up2_nk, bl_up2_nx] at h59
           first
           | (exfalso; first | omega | exact h59 trivial)
           | (refine ⟨(fun _ => by first | exact Or.inl rfl | exact Or.inr rfl), ?_⟩
              try show _ ∧ _
              try dsimp only [bl_pv]
              refine ⟨⟨_, rfl, ?_⟩, rfl⟩
              first
              | exact Or.inl ⟨rfl, by first | trivial | omega⟩
              | exact Or.inr ⟨rfl, by omega⟩))
    | 2, ho1, h1 =>
      cases ho1
      first
      | (exfalso; omega)
      | (refine ⟨km, (by first | decide | (simp (disch := omega) only [hz, zI_n, zI_o, zI_lit, zI_neg, zI_add, zI_sub, zI_mul, zI_lt, zI_le, zI_eq, zI_clamp, zI_in, zI_div, zI_rem, lg_lt0, lg_gt0, lg_eq0, lg_le0, lg_ge0, Int.toNat_natCast, ge_iff_le, gt_iff_lt, List.length_cons, List.length_nil, bl_up2_at, bl_up2_nk, bl_up2_nx] <;> omega)), fun h74 => ?_, fun h74 => ?_⟩
         · try simp (disch := omega) only [hz, zI_n, zI_o, zI_lit, zI_neg, zI_add, zI_sub, zI_mul, zI_lt, zI_le, zI_eq, zI_clamp, zI_in, zI_div, zI_rem, lg_lt0, lg_gt0, lg_eq0, lg_le0, lg_ge0, Int.toNat_natCast, ge_iff_le, gt_iff_lt, List.length_cons, List.length_nil, bl_up2_at, bl_up2_nk, bl_up2_nx] at h74
           first
           | (exfalso; first | omega | exact h74 trivial)
           | (refine ⟨(fun _ => by first | exact Or.inl rfl | exact Or.inr rfl), ?_⟩
              try show _ ∧ _
              try dsimp only [bl_pv]
              refine ⟨⟨_, rfl, ?_⟩, rfl⟩
              first
              | exact Or.inl ⟨rfl, by first | trivial | omega⟩
              | exact Or.inr ⟨rfl, by omega⟩)
         · try simp (disch := omega) only [hz, zI_n, zI_o, zI_lit, zI_neg, zI_add, zI_sub, zI_mul, zI_lt, zI_le, zI_eq, zI_clamp, zI_in, zI_div, zI_rem, lg_lt0, lg_gt0, lg_eq0, lg_le0, lg_ge0, Int.toNat_natCast, ge_iff_le, gt_iff_lt, List.length_cons, List.length_nil, bl_up2_at, bl_up2_nk, bl_up2_nx] at h74
           first
           | (exfalso; first | omega | exact h74 trivial)
           | (refine ⟨(fun _ => by first | exact Or.inl rfl | exact Or.inr rfl), ?_⟩
              try show _ ∧ _
              try dsimp only [bl_pv]
              refine ⟨⟨_, rfl, ?_⟩, rfl⟩
              first
              | exact Or.inl ⟨rfl, by first | trivial | omega⟩
              | exact Or.inr ⟨rfl, by omega⟩))
    | 3, ho1, h1 =>
      cases ho1
      first
      | (exfalso; omega)
      | (refine ⟨km, fun h90 => ?_, fun h90 => ?_⟩
         · try simp (disch := omega) only [hz, zI_n, zI_o, zI_lit, zI_neg, zI_add, zI_sub, zI_mul, zI_lt, zI_le, zI_eq, zI_clamp, zI_in, zI_div, zI_rem, lg_lt0, lg_gt0, lg_eq0, lg_le0, lg_ge0, Int.toNat_natCast, ge_iff_le, gt_iff_lt, List.length_cons, List.length_nil, bl_up2_at, bl_up2_nk, bl_up2_nx] at h90
           first
           | (exfalso; first | omega | exact h90 trivial)
           | (refine ⟨(fun _ => by first | exact Or.inl rfl | exact Or.inr rfl), ?_⟩
              try show _ ∧ _
              try dsimp only [bl_pv]
              refine ⟨⟨_, rfl, ?_⟩, rfl⟩
              first
              | exact Or.inl ⟨rfl, by first | trivial | omega⟩
              | exact Or.inr ⟨rfl, by omega⟩)
         · try simp (disch := omega) only [hz, zI_n, zI_o, zI_lit, zI_neg, zI_add, zI_sub, zI_mul, zI_lt, zI_le, zI_eq, zI_clamp, zI_in, zI_div, zI_rem, lg_lt0, lg_gt0, lg_eq0, lg_le0, lg_ge0, Int.toNat_natCast, ge_iff_le, gt_iff_lt, List.length_cons, List.length_nil, bl_up2_at, bl_up2_nk, bl_up2_nx] at h90
           first
           | (exfalso; first | omega | exact h90 trivial)
           | (refine ⟨(fun _ => by first | exact Or.inl rfl | exact Or.inr rfl), ?_⟩
              try show _ ∧ _
              try dsimp only [bl_pv]
              refine ⟨⟨_, rfl, ?_⟩, rfl⟩
              first
              | exact Or.inl ⟨rfl, by first | trivial | omega⟩
              | exact Or.inr ⟨rfl, by omega⟩))
    | 4, ho1, h1 =>
      cases ho1
      first
      | (exfalso; omega)
      | (refine ⟨km, fun h106 => ?_, fun h106 => ?_⟩
         · try simp (disch := omega) only [hz, zI_n, zI_o, zI_lit, zI_neg, zI_add, zI_sub, zI_mul, zI_lt, zI_le, zI_eq, zI_clamp, zI_in, zI_div, zI_rem, lg_lt0, lg_gt0, lg_eq0, lg_le0, lg_ge0, Int.toNat_natCast, ge_iff_le, gt_iff_lt, List.length_cons, List.length_nil, bl_up2_at, bl_up2_nk, bl_up2_nx] at h106
           first
           | (exfalso; first | omega | exact h106 trivial)
           | (refine ⟨(fun _ => by first | exact Or.inl rfl | exact Or.inr rfl), ?_⟩
              try show _ ∧ _
              try dsimp only [bl_pv]
              refine ⟨⟨_, rfl, ?_⟩, rfl⟩
              first
              | exact Or.inl ⟨rfl, by first | trivial | omega⟩
              | exact Or.inr ⟨rfl, by omega⟩)
         · try simp (disch := omega) only [hz, zI_n, zI_o, zI_lit, zI_neg, zI_add, zI_sub, zI_mul, zI_lt, zI_le, zI_eq, zI_clamp, zI_in, zI_div, zI_rem, lg_lt0, lg_gt0, lg_eq0, lg_le0, lg_ge0, Int.toNat_natCast, ge_iff_le, gt_iff_lt, List.length_cons, List.length_nil, bl_up2_at, bl_up2_nk, bl_up2_nx] at h106
           first
           | (exfalso; first | omega | exact h106 trivial)
           | (refine ⟨(fun _ => by first | exact Or.inl rfl | exact Or.inr rfl), ?_⟩
              try show _ ∧ _
              try dsimp only [bl_pv]
              refine ⟨⟨_, rfl, ?_⟩, rfl⟩
              first
              | exact Or.inl ⟨rfl, by first | trivial | omega⟩
              | exact Or.inr ⟨rfl, by omega⟩))
    | _ + 5, ho1, _ => exact absurd ho1 (by simp)
theorem c_Model_canBe_3 {n L : Nat} {x y : Int32} (km : K m = 12) (hx : x = nI 3) (hy : y = nI n) (hz : I m 21 = nI L) (hn : n ≤ 36) (hL : L ≤ 48) : bl_MC G l d mX11_canBe [.ref m, .int x, .int y] (I, J, R, K, N) (0, 0) (fun o σ' => (∃ w, o = .inl (some (.int w)) ∧ ((w = 1 ∧ sl_can 3 n L) ∨ (w = 0 ∧ ¬ sl_can 3 n L))) ∧ σ' = (I, J, R, K, N)) := by
  subst hx hy
  have hLn : (L : Int) * (n : Int) ≤ 48 * 36 := by have := Nat.mul_le_mul hL hn; rw [← Int.natCast_mul]; omega
  have hLn0 : (L : Int) * (n : Int) = ((L * n : Nat) : Int) := (Int.natCast_mul _ _).symm
  simp only [sl_can]
  refine bl_MC_intro (by decide +kernel) rfl (Nat.le_of_ble_eq_true rfl) ?_
  refine bl_go oX11_canBe 80 [] rfl ?_
  refine ⟨fun h1 => ?_, fun j1 o1 ho1 h1 _ => ?_⟩
  · try simp (disch := omega) only [hz, zI_n, zI_o, zI_lit, zI_neg, zI_add, zI_sub, zI_mul, zI_lt, zI_le, zI_eq, zI_clamp, zI_in, zI_div, zI_rem, lg_lt0, lg_gt0, lg_eq0, lg_le0, lg_ge0, Int.toNat_natCast, ge_iff_le, gt_iff_lt, List.length_cons, List.length_nil, bl_up2_at, bl_up2_nk, bl_up2_nx, zI_toInt] at h1
    first
    | (exfalso; first | omega | exact h1 trivial)
    | (refine ⟨(fun _ => by first | exact Or.inl rfl | exact Or.inr rfl), ?_⟩
       try show _ ∧ _
       try dsimp only [bl_pv]
       refine ⟨⟨_, rfl, ?_⟩, rfl⟩
       first
       | exact Or.inl ⟨rfl, by first | trivial | omega⟩
       | exact Or.inr ⟨rfl, by omega⟩)
  · try simp (disch := omega) only [hz, zI_n, zI_o, zI_lit, zI_neg, zI_add, zI_sub, zI_mul, zI_lt, zI_le, zI_eq, zI_clamp, zI_in, zI_div, zI_rem, lg_lt0, lg_gt0, lg_eq0, lg_le0, lg_ge0, Int.toNat_natCast, ge_iff_le, gt_iff_lt, List.length_cons, List.length_nil, bl_up2_at, bl_up2_nk, bl_up2_nx, zI_toInt] at h1
    match j1, ho1, h1 with
    | 0, ho1, h1 =>
      cases ho1
      first
      | (exfalso; omega)
      | (refine ⟨km, fun h44 => ?_, fun h44 => ?_⟩
         · try simp (disch := omega) only [hz, zI_n, zI_o, zI_lit, zI_neg, zI_add, zI_sub, zI_mul, zI_lt, zI_le, zI_eq, zI_clamp, zI_in, zI_div, zI_rem, lg_lt0, lg_gt0, lg_eq0, lg_le0, lg_ge0, Int.toNat_natCast, ge_iff_le, gt_iff_lt, List.length_cons, List.length_nil, bl_up2_at, bl_up2_nk, bl_up2_nx] at h44
           first
           | (exfalso; first | omega | exact h44 trivial)
           | (refine ⟨(fun _ => by first | exact Or.inl rfl | exact Or.inr rfl), ?_⟩
              try show _ ∧ _
              try dsimp only [bl_pv]
              refine ⟨⟨_, rfl, ?_⟩, rfl⟩
              first
              | exact Or.inl ⟨rfl, by first | trivial | omega⟩
              | exact Or.inr ⟨rfl, by omega⟩)
         · try simp (disch := omega) only [hz, zI_n, zI_o, zI_lit, zI_neg, zI_add, zI_sub, zI_mul, zI_lt, zI_le, zI_eq, zI_clamp, zI_in, zI_div, zI_rem, lg_lt0, lg_gt0, lg_eq0, lg_le0, lg_ge0, Int.toNat_natCast, ge_iff_le, gt_iff_lt, List.length_cons, List.length_nil, bl_up2_at, bl_up2_nk, bl_up2_nx] at h44
           first
           | (exfalso; first | omega | exact h44 trivial)
           | (refine ⟨(fun _ => by first | exact Or.inl rfl | exact Or.inr rfl), ?_⟩
              try show _ ∧ _
              try dsimp only [bl_pv]
              refine ⟨⟨_, rfl, ?_⟩, rfl⟩
              first
              | exact Or.inl ⟨rfl, by first | trivial | omega⟩
              | exact Or.inr ⟨rfl, by omega⟩))
    | 1, ho1, h1 =>
      cases ho1
      first
      | (exfalso; omega)
      | (refine ⟨km, (by first | decide | (simp (disch := omega) only [hz, zI_n, zI_o, zI_lit, zI_neg, zI_add, zI_sub, zI_mul, zI_lt, zI_le, zI_eq, zI_clamp, zI_in, zI_div, zI_rem, lg_lt0, lg_gt0, lg_eq0, lg_le0, lg_ge0, Int.toNat_natCast, ge_iff_le, gt_iff_lt, List.length_cons, List.length_nil, bl_up2_at, bl_up2_nk, bl_up2_nx] <;> omega)), fun h59 => ?_, fun h59 => ?_⟩
         · try simp (disch := omega) only [hz, zI_n, zI_o, zI_lit, zI_neg, zI_add, zI_sub, zI_mul, zI_lt, zI_le, zI_eq, zI_clamp, zI_in, zI_div, zI_rem, lg_lt0, lg_gt0, lg_eq0, lg_le0, lg_ge0, Int.toNat_natCast, ge_iff_le, gt_iff_lt, List.length_cons, List.length_nil, bl_up2_at, bl_up2_nk, bl_up2_nx] at h59
           first
           | (exfalso; first | omega | exact h59 trivial)
           | (refine ⟨(fun _ => by first | exact Or.inl rfl | exact Or.inr rfl), ?_⟩
              try show _ ∧ _
              try dsimp only [bl_pv]
              refine ⟨⟨_, rfl, ?_⟩, rfl⟩
              first
              | exact Or.inl ⟨rfl, by first | trivial | omega⟩
              | exact Or.inr ⟨rfl, by omega⟩)
         · try simp (disch := omega) only [hz, zI_n, zI_o, zI_lit, zI_neg, zI_add, zI_sub, zI_mul, zI_lt, zI_le, zI_eq, zI_clamp, zI_in, zI_div, zI_rem, lg_lt0, lg_gt0, lg_eq0, lg_le0, lg_ge0, Int.toNat_natCast, ge_iff_le, gt_iff_lt, List.length_cons, List.length_nil, bl_up2_at, bl_up2_nk, bl_up2_nx] at h59
           first
           | (exfalso; first | omega | exact h59 trivial)
           | (refine ⟨(fun _ => by first | exact Or.inl rfl | exact Or.inr rfl), ?_⟩
              try show _ ∧ _
              try dsimp only [bl_pv]
              refine ⟨⟨_, rfl, ?_⟩, rfl⟩
              first
              | exact Or.inl ⟨rfl, by first | trivial | omega⟩
              | exact Or.inr ⟨rfl, by omega⟩))
    | 2, ho1, h1 =>
      cases ho1
      first
      | (exfalso; omega)
      | (refine ⟨km, (by first | decide | (simp (disch := omega) only [hz, zI_n, zI_o, zI_lit, zI_neg, zI_add, zI_sub, zI_mul, zI_lt, zI_le, zI_eq, zI_clamp, zI_in, zI_div, zI_rem, lg_lt0, lg_gt0, lg_eq0, lg_le0, lg_ge0, Int.toNat_natCast, ge_iff_le, gt_iff_lt, List.length_cons, List.length_nil, bl_up2_at, bl_up2_nk, bl_up2_nx] <;> omega)), fun h74 => ?_, fun h74 => ?_⟩
         · try simp (disch := omega) only [hz, zI_n, zI_o, zI_lit, zI_neg, zI_add, zI_sub, zI_mul, zI_lt, zI_le, zI_eq, zI_clamp, zI_in, zI_div, zI_rem, lg_lt0, lg_gt0, lg_eq0, lg_le0, lg_ge0, Int.toNat_natCast, ge_iff_le, gt_iff_lt, List.length_cons, List.length_nil, bl_up2_at, bl_up2_nk, bl_up2_nx] at h74
           first
           | (exfalso; first | omega | exact h74 trivial)
           | (refine ⟨(fun _ => by first | exact Or.inl rfl | exact Or.inr rfl), ?_⟩
              try show _ ∧ _
              try dsimp only [bl_pv]
              refine ⟨⟨_, rfl, ?_⟩, rfl⟩
              first
              | exact Or.inl ⟨rfl, by first | trivial | omega⟩
              | exact Or.inr ⟨rfl, by omega⟩)
         · try simp (disch := omega) only [hz, zI_n, zI_o, zI_lit, zI_neg, zI_add, zI_sub, zI_mul, zI_lt, zI_le, zI_eq, zI_clamp, zI_in, zI_div, zI_rem, lg_lt0, lg_gt0, lg_eq0, lg_le0, lg_ge0, Int.toNat_natCast, ge_iff_le, gt_iff_lt, List.length_cons, List.length_nil, bl_up2_at, bl_up2_nk, bl_up2_nx] at h74
           first
           | (exfalso; first | omega | exact h74 trivial)
           | (refine ⟨(fun _ => by first | exact Or.inl rfl | exact Or.inr rfl), ?_⟩
              try show _ ∧ _
              try dsimp only [bl_pv]
              refine ⟨⟨_, rfl, ?_⟩, rfl⟩
              first
              | exact Or.inl ⟨rfl, by first | trivial | omega⟩
              | exact Or.inr ⟨rfl, by omega⟩))
    | 3, ho1, h1 =>
      cases ho1
      first
      | (exfalso; omega)
      | (refine ⟨km, fun h90 => ?_, fun h90 => ?_⟩
         · try simp (disch := omega) only [hz, zI_n, zI_o, zI_lit, zI_neg, zI_add, zI_sub, zI_mul, zI_lt, zI_le, zI_eq, zI_clamp, zI_in, zI_div, zI_rem, lg_lt0, lg_gt0, lg_eq0, lg_le0, lg_ge0, Int.toNat_natCast, ge_iff_le, gt_iff_lt, List.length_cons, List.length_nil, bl_up2_at, bl_up2_nk, bl_up2_nx] at h90
           first
           | (exfalso; first | omega | exact h90 trivial)
           | (refine ⟨(fun _ => by first | exact Or.inl rfl | exact Or.inr rfl), ?_⟩
              try show _ ∧ _
              try dsimp only [bl_pv]
              refine ⟨⟨_, rfl, ?_⟩, rfl⟩
              first
              | exact Or.inl ⟨rfl, by first | trivial | omega⟩
              | exact Or.inr ⟨rfl, by omega⟩)
         · try simp (disch := omega) only [hz, zI_n, zI_o, zI_lit, zI_neg, zI_add, zI_sub, zI_mul, zI_lt, zI_le, zI_eq, zI_clamp, zI_in, zI_div, zI_rem, lg_lt0, lg_gt0, lg_eq0, lg_le0, lg_ge0, Int.toNat_natCast, ge_iff_le, gt_iff_lt, List.length_cons, List.length_nil, bl_up2_at, bl_up2_nk, bl_up2_nx] at h90
           first
           | (exfalso; first | omega | exact h90 trivial)
           | (refine ⟨(fun _ => by first | exact Or.inl rfl | exact Or.inr rfl), ?_⟩
              try show _ ∧ _
              try dsimp only [bl_pv]
              refine ⟨⟨_, rfl, ?_⟩, rfl⟩
              first
              | exact Or.inl ⟨rfl, by first | trivial | omega⟩
              | exact Or.inr ⟨rfl, by omega⟩))
    | 4, ho1, h1 =>
      cases ho1
      first
      | (exfalso; omega)
      | (refine ⟨km, fun h106 => ?_, fun h106 => ?_⟩
         · try simp (disch := omega) only [hz, zI_n, zI_o, zI_lit, zI_neg, zI_add, zI_sub, zI_mul, zI_lt, zI_le, zI_eq, zI_clamp, zI_in, zI_div, zI_rem, lg_lt0, lg_gt0, lg_eq0, lg_le0, lg_ge0, Int.toNat_natCast, ge_iff_le, gt_iff_lt, List.length_cons, List.length_nil, bl_up2_at, bl_up2_nk, bl_up2_nx] at h106
           first
           | (exfalso; first | omega | exact h106 trivial)
           | (refine ⟨(fun _ => by first | exact Or.inl rfl | exact Or.inr rfl), ?_⟩
              try show _ ∧ _
              try dsimp only [bl_pv]
              refine ⟨⟨_, rfl, ?_⟩, rfl⟩
              first
              | exact Or.inl ⟨rfl, by first | trivial | omega⟩
              | exact Or.inr ⟨rfl, by omega⟩)
         · try simp (disch := omega) only [hz, zI_n, zI_o, zI_lit, zI_neg, zI_add, zI_sub, zI_mul, zI_lt, zI_le, zI_eq, zI_clamp, zI_in, zI_div, zI_rem, lg_lt0, lg_gt0, lg_eq0, lg_le0, lg_ge0, Int.toNat_natCast, ge_iff_le, gt_iff_lt, List.length_cons, List.length_nil, bl_up2_at, bl_up2_nk, bl_up2_nx] at h106
           first
           | (exfalso; first | omega | exact h106 trivial)
           | (refine ⟨(fun _ => by first | exact Or.inl rfl | exact Or.inr rfl), ?_⟩
              try show _ ∧ _
              try dsimp only [bl_pv]
              refine ⟨⟨_, rfl, ?_⟩, rfl⟩
              first
              | exact Or.inl ⟨rfl, by first | trivial | omega⟩
              | exact Or.inr ⟨rfl, by omega⟩))
    | _ + 5, ho1, _ => exact absurd ho1 (by simp)
theorem c_Model_canBe_4 {n L : Nat} {x y : Int32} (km : K m = 12) (hx : x = nI 4) (hy : y = nI n) (hz : I m 21 = nI L) (hn : n ≤ 36) (hL : L ≤ 48) : bl_MC G l d mX11_canBe [.ref m, .int x, .int y] (I, J, R, K, N) (0, 0) (fun o σ' => (∃ w, o = .inl (some (.int w)) ∧ ((w = 1 ∧ sl_can 4 n L) ∨ (w = 0 ∧ ¬ sl_can 4 n L))) ∧ σ' = (I, J, R, K, N)) := by
  subst hx hy
  have hLn : (L : Int) * (n : Int) ≤ 48 * 36 := by have := Nat.mul_le_mul hL hn; rw [← Int.natCast_mul]; omega
  have hLn0 : (L : Int) * (n : Int) = ((L * n : Nat) : Int) := (Int.natCast_mul _ _).symm
  simp only [sl_can]
  refine bl_MC_intro (by decide +kernel) rfl (Nat.le_of_ble_eq_true rfl) ?_
  refine bl_go oX11_canBe 80 [] rfl ?_
  refine ⟨fun h1 => ?_, fun j1 o1 ho1 h1 _ => ?_⟩
  · try simp (disch := omega) only [hz, zI_n, zI_o, zI_lit, zI_neg, zI_add, zI_sub, zI_mul, zI_lt, zI_le, zI_eq, zI_clamp, zI_in, zI_div, zI_rem, lg_lt0, lg_gt0, lg_eq0, lg_le0, lg_ge0, Int.toNat_natCast, ge_iff_le, gt_iff_lt, List.length_cons, List.length_nil, bl_up2_at, bl_up2_nk, bl_up2_nx, zI_toInt] at h1
    first
    | (exfalso; first | omega | exact h1 trivial)
    | (refine ⟨(fun _ => by first | exact Or.inl rfl | exact Or.inr rfl), ?_⟩
       try show _ ∧ _
       try dsimp only [bl_pv]
       refine ⟨⟨_, rfl, ?_⟩, rfl⟩
       first
       | exact Or.inl ⟨rfl, by first | trivial | omega⟩
       | exact Or.inr ⟨rfl, by omega⟩)
  · try simp (disch := omega) only [hz, zI_n, zI_o, zI_lit, zI_neg, zI_add, zI_sub, zI_mul, zI_lt, zI_le, zI_eq, zI_clamp, zI_in, zI_div, zI_rem, lg_lt0, lg_gt0, lg_eq0, lg_le0, lg_ge0, Int.toNat_natCast, ge_iff_le, gt_iff_lt, List.length_cons, List.length_nil, bl_up2_at, bl_up2_nk, bl_up2_nx, zI_toInt] at h1
    match j1, ho1, h1 with
    | 0, ho1, h1 =>
      cases ho1
      first
      | (exfalso; omega)
      | (refine ⟨km, fun h44 => ?_, fun h44 => ?_⟩
         · try simp (disch := omega) only [hz, zI_n, zI_o, zI_lit, zI_neg, zI_add, zI_sub, zI_mul, zI_lt, zI_le, zI_eq, zI_clamp, zI_in, zI_div, zI_rem, lg_lt0, lg_gt0, lg_eq0, lg_le0, lg_ge0, Int.toNat_natCast, ge_iff_le, gt_iff_lt, List.length_cons, List.length_nil, bl_up2_at, bl_up2_nk, bl_up2_nx] at h44
           first
           | (exfalso; first | omega | exact h44 trivial)
           | (refine ⟨(fun _ => by first | exact Or.inl rfl | exact Or.inr rfl), ?_⟩
              try show _ ∧ _
              try dsimp only [bl_pv]
              refine ⟨⟨_, rfl, ?_⟩, rfl⟩
              first
              | exact Or.inl ⟨rfl, by first | trivial | omega⟩
              | exact Or.inr ⟨rfl, by omega⟩)
         · try simp (disch := omega) only [hz, zI_n, zI_o, zI_lit, zI_neg, zI_add, zI_sub, zI_mul, zI_lt, zI_le, zI_eq, zI_clamp, zI_in, zI_div, zI_rem, lg_lt0, lg_gt0, lg_eq0, lg_le0, lg_ge0, Int.toNat_natCast, ge_iff_le, gt_iff_lt, List.length_cons, List.length_nil, bl_up2_at, bl_up2_nk, bl_up2_nx] at h44
           first
           | (exfalso; first | omega | exact h44 trivial)
           | (refine ⟨(fun _ => by first | exact Or.inl rfl | exact Or.inr rfl), ?_⟩
              try show _ ∧ _
              try dsimp only [bl_pv]
              refine ⟨⟨_, rfl, ?_⟩, rfl⟩
              first
              | exact Or.inl ⟨rfl, by first | trivial | omega⟩
              | exact Or.inr ⟨rfl, by omega⟩))
    | 1, ho1, h1 =>
      cases ho1
      first
      | (exfalso; omega)
      | (refine ⟨km, (by first | decide | (simp (disch := omega) only [hz, zI_n, zI_o, zI_lit, zI_neg, zI_add, zI_sub, zI_mul, zI_lt, zI_le, zI_eq, zI_clamp, zI_in, zI_div, zI_rem, lg_lt0, lg_gt0, lg_eq0, lg_le0, lg_ge0, Int.toNat_natCast, ge_iff_le, gt_iff_lt, List.length_cons, List.length_nil, bl_up2_at, bl_up2_nk, bl_up2_nx] <;> omega)), fun h59 => ?_, fun h59 => ?_⟩
         · try simp (disch := omega) only [hz, zI_n, zI_o, zI_lit, zI_neg, zI_add, zI_sub, zI_mul, zI_lt, zI_le, zI_eq, zI_clamp, zI_in, zI_div, zI_rem, lg_lt0, lg_gt0, lg_eq0, lg_le0, lg_ge0, Int.toNat_natCast, ge_iff_le, gt_iff_lt, List.length_cons, List.length_nil, bl_up2_at, bl_up2_nk, bl_up2_nx] at h59
           first
           | (exfalso; first | omega | exact h59 trivial)
           | (refine ⟨(fun _ => by first | exact Or.inl rfl | exact Or.inr rfl), ?_⟩
              try show _ ∧ _
              try dsimp only [bl_pv]
              refine ⟨⟨_, rfl, ?_⟩, rfl⟩
              first
              | exact Or.inl ⟨rfl, by first | trivial | omega⟩
              | exact Or.inr ⟨rfl, by omega⟩)
         · try simp (disch := omega) only [hz, zI_n, zI_o, zI_lit, zI_neg, zI_add, zI_sub, zI_mul, zI_lt, zI_le, zI_eq, zI_clamp, zI_in, zI_div, zI_rem, lg_lt0, lg_gt0, lg_eq0, lg_le0, lg_ge0, Int.toNat_natCast, ge_iff_le, gt_iff_lt, List.length_cons, List.length_nil, bl_up2_at, bl_up2_nk, bl_up2_nx] at h59
           first
           | (exfalso; first | omega | exact h59 trivial)
           | (refine ⟨(fun _ => by first | exact Or.inl rfl | exact Or.inr rfl), ?_⟩
              try show _ ∧ _
              try dsimp only [bl_pv]
              refine ⟨⟨_, rfl, ?_⟩, rfl⟩
              first
              | exact Or.inl ⟨rfl, by first | trivial | omega⟩
              | exact Or.inr ⟨rfl, by omega⟩))
    | 2, ho1, h1 =>
      cases ho1
      first
      | (exfalso; omega)
      | (refine ⟨km, (by first | decide | (simp (disch := omega) only [hz, zI_n, zI_o, zI_lit, zI_neg, zI_add, zI_sub, zI_mul, zI_lt, zI_le, zI_eq, zI_clamp, zI_in, zI_div, zI_rem, lg_lt0, lg_gt0, lg_eq0, lg_le0, lg_ge0, Int.toNat_natCast, ge_iff_le, gt_iff_lt, List.length_cons, List.length_nil, bl_up2_at, bl_up2_nk, bl_up2_nx] <;> omega)), fun h74 => ?_, fun h74 => ?_⟩
         · try simp (disch := omega) only [hz, zI_n, zI_o, zI_lit, zI_neg, zI_add, zI_sub, zI_mul, zI_lt, zI_le, zI_eq, zI_clamp, zI_in, zI_div, zI_rem, lg_lt0, lg_gt0, lg_eq0, lg_le0, lg_ge0, Int.toNat_natCast, ge_iff_le, gt_iff_lt, List.length_cons, List.length_nil, bl_up2_at, bl_up2_nk, bl_up2_nx] at h74
           first
           | (exfalso; first | omega | exact h74 trivial)
           | (refine ⟨(fun _ => by first | exact Or.inl rfl | exact Or.inr rfl), ?_⟩
              try show _ ∧ _
              try dsimp only [bl_pv]
              refine ⟨⟨_, rfl, ?_⟩, rfl⟩
              first
              | exact Or.inl ⟨rfl, by first | trivial | omega⟩
              | exact Or.inr ⟨rfl, by omega⟩)
         · try simp (disch := omega) only [hz, zI_n, zI_o, zI_lit, zI_neg, zI_add, zI_sub, zI_mul, zI_lt, zI_le, zI_eq, zI_clamp, zI_in, zI_div, zI_rem, lg_lt0, lg_gt0, lg_eq0, lg_le0, lg_ge0, Int.toNat_natCast, ge_iff_le, gt_iff_lt, List.length_cons, List.length_nil, bl_up2_at, bl_up2_nk, bl_up2_nx] at h74
           first
           | (exfalso; first | omega | exact h74 trivial)
           | (refine ⟨(fun _ => by first | exact Or.inl rfl | exact Or.inr rfl), ?_⟩
              try show _ ∧ _
              try dsimp only [bl_pv]
              refine ⟨⟨_, rfl, ?_⟩, rfl⟩
              first
              | exact Or.inl ⟨rfl, by first | trivial | omega⟩
              | exact Or.inr ⟨rfl, by omega⟩))
    | 3, ho1, h1 =>
      cases ho1
      first
      | (exfalso; omega)
      | (refine ⟨km, fun h90 => ?_, fun h90 => ?_⟩
         · try simp (disch := omega) only [hz, zI_n, zI_o, zI_lit, zI_neg, zI_add, zI_sub, zI_mul, zI_lt, zI_le, zI_eq, zI_clamp, zI_in, zI_div, zI_rem, lg_lt0, lg_gt0, lg_eq0, lg_le0, lg_ge0, Int.toNat_natCast, ge_iff_le, gt_iff_lt, List.length_cons, List.length_nil, bl_up2_at, bl_up2_nk, bl_up2_nx] at h90
           first
           | (exfalso; first | omega | exact h90 trivial)
           | (refine ⟨(fun _ => by first | exact Or.inl rfl | exact Or.inr rfl), ?_⟩
              try show _ ∧ _
              try dsimp only [bl_pv]
              refine ⟨⟨_, rfl, ?_⟩, rfl⟩
              first
              | exact Or.inl ⟨rfl, by first | trivial | omega⟩
              | exact Or.inr ⟨rfl, by omega⟩)
         · try simp (disch := omega) only [hz, zI_n, zI_o, zI_lit, zI_neg, zI_add, zI_sub, zI_mul, zI_lt, zI_le, zI_eq, zI_clamp, zI_in, zI_div, zI_rem, lg_lt0, lg_gt0, lg_eq0, lg_le0, lg_ge0, Int.toNat_natCast, ge_iff_le, gt_iff_lt, List.length_cons, List.length_nil, bl_up2_at, bl_up2_nk, bl_up2_nx] at h90
           first
           | (exfalso; first | omega | exact h90 trivial)
           | (refine ⟨(fun _ => by first | exact Or.inl rfl | exact Or.inr rfl), ?_⟩
              try show _ ∧ _
              try dsimp only [bl_pv]
              refine ⟨⟨_, rfl, ?_⟩, rfl⟩
              first
              | exact Or.inl ⟨rfl, by first | trivial | omega⟩
              | exact Or.inr ⟨rfl, by omega⟩))
    | 4, ho1, h1 =>
      cases ho1
      first
      | (exfalso; omega)
      | (refine ⟨km, fun h106 => ?_, fun h106 => ?_⟩
         · try simp (disch := omega) only [hz, zI_n, zI_o, zI_lit, zI_neg, zI_add, zI_sub, zI_mul, zI_lt, zI_le, zI_eq, zI_clamp, zI_in, zI_div, zI_rem, lg_lt0, lg_gt0, lg_eq0, lg_le0, lg_ge0, Int.toNat_natCast, ge_iff_le, gt_iff_lt, List.length_cons, List.length_nil, bl_up2_at, bl_up2_nk, bl_up2_nx] at h106
           first
           | (exfalso; first | omega | exact h106 trivial)
           | (refine ⟨(fun _ => by first | exact Or.inl rfl | exact Or.inr rfl), ?_⟩
              try show _ ∧ _
              try dsimp only [bl_pv]
              refine ⟨⟨_, rfl, ?_⟩, rfl⟩
              first
              | exact Or.inl ⟨rfl, by first | trivial | omega⟩
              | exact Or.inr ⟨rfl, by omega⟩)
         · try simp (disch := omega) only [hz, zI_n, zI_o, zI_lit, zI_neg, zI_add, zI_sub, zI_mul, zI_lt, zI_le, zI_eq, zI_clamp, zI_in, zI_div, zI_rem, lg_lt0, lg_gt0, lg_eq0, lg_le0, lg_ge0, Int.toNat_natCast, ge_iff_le, gt_iff_lt, List.length_cons, List.length_nil, bl_up2_at, bl_up2_nk, bl_up2_nx] at h106
           first
           | (exfalso; first | omega | exact h106 trivial)
           | (refine ⟨(fun _ => by first | exact Or.inl rfl | exact Or.inr rfl), ?_⟩
              try show _ ∧ _
              try dsimp only [bl_pv]
              refine ⟨⟨_, rfl, ?_⟩, rfl⟩
              first
              | exact Or.inl ⟨rfl, by first | trivial | omega⟩
              | exact Or.inr ⟨rfl, by omega⟩))
    | _ + 5, ho1, _ => exact absurd ho1 (by simp)
theorem c_Model_canBe_5 {n L : Nat} {x y : Int32} (km : K m = 12) (hx : x = nI 5) (hy : y = nI n) (hz : I m 21 = nI L) (hn : n ≤ 36) (hL : L ≤ 48) : bl_MC G l d mX11_canBe [.ref m, .int x, .int y] (I, J, R, K, N) (0, 0) (fun o σ' => (∃ w, o = .inl (some (.int w)) ∧ ((w = 1 ∧ sl_can 5 n L) ∨ (w = 0 ∧ ¬ sl_can 5 n L))) ∧ σ' = (I, J, R, K, N)) := by
  subst hx hy
  have hLn : (L : Int) * (n : Int) ≤ 48 * 36 := by have := Nat.mul_le_mul hL hn; rw [← Int.natCast_mul]; omega
  have hLn0 : (L : Int) * (n : Int) = ((L * n : Nat) : Int) := (Int.natCast_mul _ _).symm
  simp only [sl_can]
  refine bl_MC_intro (by decide +kernel) rfl (Nat.le_of_ble_eq_true rfl) ?_
  refine bl_go oX11_canBe 80 [] rfl ?_
  refine ⟨fun h1 => ?_, fun j1 o1 ho1 h1 _ => ?_⟩
  · try simp (disch := omega) only [hz, zI_n, zI_o, zI_lit, zI_neg, zI_add, zI_sub, zI_mul, zI_lt, zI_le, zI_eq, zI_clamp, zI_in, zI_div, zI_rem, lg_lt0, lg_gt0, lg_eq0, lg_le0, lg_ge0, Int.toNat_natCast, ge_iff_le, gt_iff_lt, List.length_cons, List.length_nil, bl_up2_at, bl_up2_nk, bl_up2_nx, zI_toInt] at h1
    first
    | (exfalso; first | omega | exact h1 trivial)
    | (refine ⟨(fun _ => by first | exact Or.inl rfl | exact Or.inr rfl), ?_⟩
       try show _ ∧ _
       try dsimp only [bl_pv]
       refine ⟨⟨_, rfl, ?_⟩, rfl⟩
       first
       | exact Or.inl ⟨rfl, by first | trivial | omega⟩
       | exact Or.inr ⟨rfl, by omega⟩)
  · try simp (disch := omega) only [hz, zI_n, zI_o, zI_lit, zI_neg, zI_add, zI_sub, zI_mul, zI_lt, zI_le, zI_eq, zI_clamp, zI_in, zI_div, zI_rem, lg_lt0, lg_gt0, lg_eq0, lg_le0, lg_ge0, Int.toNat_natCast, ge_iff_le, gt_iff_lt, List.length_cons, List.length_nil, bl_up2_at, bl_up2_nk, bl_up2_nx, zI_toInt] at h1
    match j1, ho1, h1 with
    | 0, ho1, h1 =>
      cases ho1
      first
      | (exfalso; omega)
      | (refine ⟨km, fun h44 => ?_, fun h44 => ?_⟩
         · try simp (disch := omega) only [hz, zI_n, zI_o, zI_lit, zI_neg, zI_add, zI_sub, zI_mul, zI_lt, zI_le, zI_eq, zI_clamp, zI_in, zI_div, zI_rem, lg_lt0, lg_gt0, lg_eq0, lg_le0, lg_ge0, Int.toNat_natCast, ge_iff_le, gt_iff_lt, List.length_cons, List.length_nil, bl_up2_at, bl_up2_nk, bl_up2_nx] at h44
           first
           | (exfalso; first | omega | exact h44 trivial)
           | (refine ⟨(fun _ => by first | exact Or.inl rfl | exact Or.inr rfl), ?_⟩
              try show _ ∧ _
              try dsimp only [bl_pv]
              refine ⟨⟨_, rfl, ?_⟩, rfl⟩
              first
              | exact Or.inl ⟨rfl, by first | trivial | omega⟩
              | exact Or.inr ⟨rfl, by omega⟩)
         · try simp (disch := omega) only [hz, zI_n, zI_o, zI_lit, zI_neg, zI_add, zI_sub, zI_mul, zI_lt, zI_le, zI_eq, zI_clamp, zI_in, zI_div, zI_rem, lg_lt0, lg_gt0, lg_eq0, lg_le0, lg_ge0, Int.toNat_natCast, ge_iff_le, gt_iff_lt, List.length_cons, List.length_nil, bl_up2_at, bl_up2_nk, bl_up2_nx] at h44
           first
           | (exfalso; first | omega | exact h44 trivial)
           | (refine ⟨(fun _ => by first | exact Or.inl rfl | exact Or.inr rfl), ?_⟩
              try show _ ∧ _
              try dsimp only [bl_pv]
              refine ⟨⟨_, rfl, ?_⟩, rfl⟩
              first
              | exact Or.inl ⟨rfl, by first | trivial | omega⟩
              | exact Or.inr ⟨rfl, by omega⟩))
    | 1, ho1, h1 =>
      cases ho1
      first
      | (exfalso; omega)
      | (refine ⟨km, (by first | decide | (simp (disch := omega) only [hz, zI_n, zI_o, zI_lit, zI_neg, zI_add, zI_sub, zI_mul, zI_lt, zI_le, zI_eq, zI_clamp, zI_in, zI_div, zI_rem, lg_lt0, lg_gt0, lg_eq0, lg_le0, lg_ge0, Int.toNat_natCast, ge_iff_le, gt_iff_lt, List.length_cons, List.length_nil, bl_up2_at, bl_up2_nk, bl_up2_nx] <;> omega)), fun h59 => ?_, fun h59 => ?_⟩
         · try simp (disch := omega) only [hz, zI_n, zI_o, zI_lit, zI_neg, zI_add, zI_sub, zI_mul, zI_lt, zI_le, zI_eq, zI_clamp, zI_in, zI_div, zI_rem, lg_lt0, lg_gt0, lg_eq0, lg_le0, lg_ge0, Int.toNat_natCast, ge_iff_le, gt_iff_lt, List.length_cons, List.length_nil, bl_up2_at, bl_up2_nk, bl_up2_nx] at h59
           first
           | (exfalso; first | omega | exact h59 trivial)
           | (refine ⟨(fun _ => by first | exact Or.inl rfl | exact Or.inr rfl), ?_⟩
              try show _ ∧ _
              try dsimp only [bl_pv]
              refine ⟨⟨_, rfl, ?_⟩, rfl⟩
              first
              | exact Or.inl ⟨rfl, by first | trivial | omega⟩
              | exact Or.inr ⟨rfl, by omega⟩)
         · try simp (disch := omega) only [hz, zI_n, zI_o, zI_lit, zI_neg, zI_add, zI_sub, zI_mul, zI_lt, zI_le, zI_eq, zI_clamp, zI_in, zI_div, zI_rem, lg_lt0, lg_gt0, lg_eq0, lg_le0, lg_ge0, Int.toNat_natCast, ge_iff_le, gt_iff_lt, List.length_cons, List.length_nil, bl_up2_at, bl_up2_nk, bl_up2_nx] at h59
           first
           | (exfalso; first | omega | exact h59 trivial)
           | (refine ⟨(fun _ => by first | exact Or.inl rfl | exact Or.inr rfl), ?_⟩
              try show _ ∧ _
              try dsimp only [bl_pv]
              refine ⟨⟨_, rfl, ?_⟩, rfl⟩
              first
              | exact Or.inl ⟨rfl, by first | trivial | omega⟩
              | exact Or.inr ⟨rfl, by omega⟩))
    | 2, ho1, h1 =>
      cases ho1
      first
      | (exfalso; omega)
      | (refine ⟨km, (by first | decide | (simp (disch := omega) only [hz, zI_n, zI_o, zI_lit, zI_neg, zI_add, zI_sub, zI_mul, zI_lt, zI_le, zI_eq, zI_clamp, zI_in, zI_div, zI_rem, lg_lt0, lg_gt0, lg_eq0, lg_le0, lg_ge0, Int.toNat_natCast, ge_iff_le, gt_iff_lt, List.length_cons, List.length_nil, bl_up2_at, bl_up2_nk, bl_up2_nx] <;> omega)), fun h74 => ?_, fun h74 => ?_⟩
         · try simp (disch := omega) only [hz, zI_n, zI_o, zI_lit, zI_neg, zI_add, zI_sub, zI_mul, zI_lt, zI_le, zI_eq, zI_clamp, zI_in, zI_div, zI_rem, lg_lt0, lg_gt0, lg_eq0, lg_le0, lg_ge0, Int.toNat_natCast, ge_iff_le, gt_iff_lt, List.length_cons, List.length_nil, bl_up2_at, bl_up2_nk, bl_up2_nx] at h74
           first
           | (exfalso; first | omega | exact h74 trivial)
           | (refine ⟨(fun _ => by first | exact Or.inl rfl | exact Or.inr rfl), ?_⟩
              try show _ ∧ _
              try dsimp only [bl_pv]
              refine ⟨⟨_, rfl, ?_⟩, rfl⟩
              first
              | exact Or.inl ⟨rfl, by first | trivial | omega⟩
              | exact Or.inr ⟨rfl, by omega⟩)
         · try simp (disch := omega) only [hz, zI_n, zI_o, zI_lit, zI_neg, zI_add, zI_sub, zI_mul, zI_lt, zI_le, zI_eq, zI_clamp, zI_in, zI_div, zI_rem, lg_lt0, lg_gt0, lg_eq0, lg_le0, lg_ge0, Int.toNat_natCast, ge_iff_le, gt_iff_lt, List.length_cons, List.length_nil, bl_up2_at, bl_up2_nk, bl_up2_nx] at h74
           first
           | (exfalso; first | omega | exact h74 trivial)
           | (refine ⟨(fun _ => by first | exact Or.inl rfl | exact Or.inr rfl), ?_⟩
              try show _ ∧ _
              try dsimp only [bl_pv]
              refine ⟨⟨_, rfl, ?_⟩, rfl⟩
              first
              | exact Or.inl ⟨rfl, by first | trivial | omega⟩
              | exact Or.inr ⟨rfl, by omega⟩))
    | 3, ho1, h1 =>
      cases ho1
      first
      | (exfalso; omega)
      | (refine ⟨km, fun h90 => ?_, fun h90 => ?_⟩
         · try simp (disch := omega) only [hz, zI_n, zI_o, zI_lit, zI_neg, zI_add, zI_sub, zI_mul, zI_lt, zI_le, zI_eq, zI_clamp, zI_in, zI_div, zI_rem, lg_lt0, lg_gt0, lg_eq0, lg_le0, lg_ge0, Int.toNat_natCast, ge_iff_le, gt_iff_lt, List.length_cons, List.length_nil, bl_up2_at, bl_up2_nk, bl_up2_nx] at h90
           first
           | (exfalso; first | omega | exact h90 trivial)
           | (refine ⟨(fun _ => by first | exact Or.inl rfl | exact Or.inr rfl), ?_⟩
              try show _ ∧ _
              try dsimp only [bl_pv]
              refine ⟨⟨_, rfl, ?_⟩, rfl⟩
              first
              | exact Or.inl ⟨rfl, by first | trivial | omega⟩
              | exact Or.inr ⟨rfl, by omega⟩)
         · try simp (disch := omega) only [hz, zI_n, zI_o, zI_lit, zI_neg, zI_add, zI_sub, zI_mul, zI_lt, zI_le, zI_eq, zI_clamp, zI_in, zI_div, zI_rem, lg_lt0, lg_gt0, lg_eq0, lg_le0, lg_ge0, Int.toNat_natCast, ge_iff_le, gt_iff_lt, List.length_cons, List.length_nil, bl_up2_at, bl_up2_nk, bl_up2_nx] at h90
           first
           | (exfalso; first | omega | exact h90 trivial)
           | (refine ⟨(fun _ => by first | exact Or.inl rfl | exact Or.inr rfl), ?_⟩
              try show _ ∧ _
              try dsimp only [bl_pv]
              refine ⟨⟨_, rfl, ?_⟩, rfl⟩
              first
              | exact Or.inl ⟨rfl, by first | trivial | omega⟩
              | exact Or.inr ⟨rfl, by omega⟩))
    | 4, ho1, h1 =>
      cases ho1
      first
      | (exfalso; omega)
      | (refine ⟨km, fun h106 => ?_, fun h106 => ?_⟩
         · try simp (disch := omega) only [hz, zI_n, zI_o, zI_lit, zI_neg, zI_add, zI_sub, zI_mul, zI_lt, zI_le, zI_eq, zI_clamp, zI_in, zI_div, zI_rem, lg_lt0, lg_gt0, lg_eq0, lg_le0, lg_ge0, Int.toNat_natCast, ge_iff_le, gt_iff_lt, List.length_cons, List.length_nil, bl_up2_at, bl_up2_nk, bl_up2_nx] at h106
           first
           | (exfalso; first | omega | exact h106 trivial)
           | (refine ⟨(fun _ => by first | exact Or.inl rfl | exact Or.inr rfl), ?_⟩
              try show _ ∧ _
              try dsimp only [bl_pv]
              refine ⟨⟨_, rfl, ?_⟩, rfl⟩
              first
              | exact Or.inl ⟨rfl, by first | trivial | omega⟩
              | exact Or.inr ⟨rfl, by omega⟩)
         · try simp (disch := omega) only [hz, zI_n, zI_o, zI_lit, zI_neg, zI_add, zI_sub, zI_mul, zI_lt, zI_le, zI_eq, zI_clamp, zI_in, zI_div, zI_rem, lg_lt0, lg_gt0, lg_eq0, lg_le0, lg_ge0, Int.toNat_natCast, ge_iff_le, gt_iff_lt, List.length_cons, List.length_nil, bl_up2_at, bl_up2_nk, bl_up2_nx] at h106
           first
           | (exfalso; first | omega | exact h106 trivial)
           | (refine ⟨(fun _ => by first | exact Or.inl rfl | exact Or.inr rfl), ?_⟩
              try show _ ∧ _
              try dsimp only [bl_pv]
              refine ⟨⟨_, rfl, ?_⟩, rfl⟩
              first
              | exact Or.inl ⟨rfl, by first | trivial | omega⟩
              | exact Or.inr ⟨rfl, by omega⟩))
    | _ + 5, ho1, _ => exact absurd ho1 (by simp)
theorem c_Model_canBe_6 {n L : Nat} {x y : Int32} (km : K m = 12) (hx : x = nI 6) (hy : y = nI n) (hz : I m 21 = nI L) (hn : n ≤ 36) (hL : L ≤ 48) : bl_MC G l d mX11_canBe [.ref m, .int x, .int y] (I, J, R, K, N) (0, 0) (fun o σ' => (∃ w, o = .inl (some (.int w)) ∧ ((w = 1 ∧ sl_can 6 n L) ∨ (w = 0 ∧ ¬ sl_can 6 n L))) ∧ σ' = (I, J, R, K, N)) := by
  subst hx hy
  have hLn : (L : Int) * (n : Int) ≤ 48 * 36 := by have := Nat.mul_le_mul hL hn; rw [← Int.natCast_mul]; omega
  have hLn0 : (L : Int) * (n : Int) = ((L * n : Nat) : Int) := (Int.natCast_mul _ _).symm
  simp only [sl_can]
  refine bl_MC_intro (by decide +kernel) rfl (Nat.le_of_ble_eq_true rfl) ?_
  refine bl_go oX11_canBe 80 [] rfl ?_
  refine ⟨fun h1 => ?_, fun j1 o1 ho1 h1 _ => ?_⟩
  · try simp (disch := omega) only [hz, zI_n, zI_o, zI_lit, zI_neg, zI_add, zI_sub, zI_mul, zI_lt, zI_le, zI_eq, zI_clamp, zI_in, zI_div, zI_rem, lg_lt0, lg_gt0, lg_eq0, lg_le0, lg_ge0, Int.toNat_natCast, ge_iff_le, gt_iff_lt, List.length_cons, List.length_nil, bl_up2_at, bl_up2_nk, bl_up2_nx, zI_toInt] at h1
    first
    | (exfalso; first | omega | exact h1 trivial)
    | (refine ⟨(fun _ => by first | exact Or.inl rfl | exact Or.inr rfl), ?_⟩
       try show _ ∧ _
       try dsimp only [bl_pv]
       refine ⟨⟨_, rfl, ?_⟩, rfl⟩
       first
       | exact Or.inl ⟨rfl, by first | trivial | omega⟩
       | exact Or.inr ⟨rfl, by omega⟩)
  · try simp (disch := omega) only [hz, zI_n, zI_o, zI_lit, zI_neg, zI_add, zI_sub, zI_mul, zI_lt, zI_le, zI_eq, zI_clamp, zI_in, zI_div, zI_rem, lg_lt0, lg_gt0, lg_eq0, lg_le0, lg_ge0, Int.toNat_natCast, ge_iff_le, gt_iff_lt, List.length_cons, List.length_nil, bl_up2_at, bl_up2_nk, bl_up2_nx, zI_toInt] at h1
    match j1, ho1, h1 with
    | 0, ho1, h1 =>
      cases ho1
      first
      | (exfalso; omega)
      | (refine ⟨km, fun h44 => ?_, fun h44 => ?_⟩
         · try simp (disch := omega) only [hz, zI_n, zI_o, zI_lit, zI_neg, zI_add, zI_sub, zI_mul, zI_lt, zI_le, zI_eq, zI_clamp, zI_in, zI_div, zI_rem, lg_lt0, lg_gt0, lg_eq0, lg_le0, lg_ge0, Int.toNat_natCast, ge_iff_le, gt_iff_lt, List.length_cons, List.length_nil, bl_up2_at, bl_up2_nk, bl_up2_nx] at h44
           first
           | (exfalso; first | omega | exact h44 trivial)
           | (refine ⟨(fun _ => by first | exact Or.inl rfl | exact Or.inr rfl), ?_⟩
              try show _ ∧ _
              try dsimp only [bl_pv]
              refine ⟨⟨_, rfl, ?_⟩, rfl⟩
              first
              | exact Or.inl ⟨rfl, by first | trivial | omega⟩
              | exact Or.inr ⟨rfl, by omega⟩)
         · try simp (disch := omega) only [hz, zI_n, zI_o, zI_lit, zI_neg, zI_add, zI_sub, zI_mul, zI_lt, zI_le, zI_eq, zI_clamp, zI_in, zI_div, zI_rem, lg_lt0, lg_gt0, lg_eq0, lg_le0, lg_ge0, Int.toNat_natCast, ge_iff_le, gt_iff_lt, List.length_cons, List.length_nil, bl_up2_at, bl_up2_nk, bl_up2_nx] at h44
           first
           | (exfalso; first | omega | exact h44 trivial)
           | (refine ⟨(fun _ => by first | exact Or.inl rfl | exact Or.inr rfl), ?_⟩
              try show _ ∧ _
              try dsimp only [bl_pv]
              refine ⟨⟨_, rfl, ?_⟩, rfl⟩
              first
              | exact Or.inl ⟨rfl, by first | trivial | omega⟩
              | exact Or.inr ⟨rfl, by omega⟩))
    | 1, ho1, h1 =>
      cases ho1
      first
      | (exfalso; omega)
      | (refine ⟨km, (by first | decide | (simp (disch := omega) only [hz, zI_n, zI_o, zI_lit, zI_neg, zI_add, zI_sub, zI_mul, zI_lt, zI_le, zI_eq, zI_clamp, zI_in, zI_div, zI_rem, lg_lt0, lg_gt0, lg_eq0, lg_le0, lg_ge0, Int.toNat_natCast, ge_iff_le, gt_iff_lt, List.length_cons, List.length_nil, bl_up2_at, bl_up2_nk, bl_up2_nx] <;> omega)), fun h59 => ?_, fun h59 => ?_⟩
         · try simp (disch := omega) only [hz, zI_n, zI_o, zI_lit, zI_neg, zI_add, zI_sub, zI_mul, zI_lt, zI_le, zI_eq, zI_clamp, zI_in, zI_div, zI_rem, lg_lt0, lg_gt0, lg_eq0, lg_le0, lg_ge0, Int.toNat_natCast, ge_iff_le, gt_iff_lt, List.length_cons, List.length_nil, bl_up2_at, bl_up2_nk, bl_up2_nx] at h59
           first
           | (exfalso; first | omega | exact h59 trivial)
           | (refine ⟨(fun _ => by first | exact Or.inl rfl | exact Or.inr rfl), ?_⟩
              try show _ ∧ _
              try dsimp only [bl_pv]
              refine ⟨⟨_, rfl, ?_⟩, rfl⟩
              first
              | exact Or.inl ⟨rfl, by first | trivial | omega⟩
              | exact Or.inr ⟨rfl, by omega⟩)
         · try simp (disch := omega) only [hz, zI_n, zI_o, zI_lit, zI_neg, zI_add, zI_sub, zI_mul, zI_lt, zI_le, zI_eq, zI_clamp, zI_in, zI_div, zI_rem, lg_lt0, lg_gt0, lg_eq0, lg_le0, lg_ge0, Int.toNat_natCast, ge_iff_le, gt_iff_lt, List.length_cons, List.length_nil, bl_up2_at, bl_up2_nk, bl_up2_nx] at h59
           first
           | (exfalso; first | omega | exact h59 trivial)
           | (refine ⟨(fun _ => by first | exact Or.inl rfl | exact Or.inr rfl), ?_⟩
              try show _ ∧ _
              try dsimp only [bl_pv]
              refine ⟨⟨_, rfl, ?_⟩, rfl⟩
              first
              | exact Or.inl ⟨rfl, by first | trivial | omega⟩
              | exact Or.inr ⟨rfl, by omega⟩))
    | 2, ho1, h1 =>
      cases ho1
      first
      | (exfalso; omega)
      | (refine ⟨km, (by first | decide | (simp (disch := omega) only [hz, zI_n, zI_o, zI_lit, zI_neg, zI_add, zI_sub, zI_mul, zI_lt, zI_le, zI_eq, zI_clamp, zI_in, zI_div, zI_rem, lg_lt0, lg_gt0, lg_eq0, lg_le0, lg_ge0, Int.toNat_natCast, ge_iff_le, gt_iff_lt, List.length_cons, List.length_nil, bl_up2_at, bl_up2_nk, bl_up2_nx] <;> omega)), fun h74 => ?_, fun h74 => ?_⟩
         · try simp (disch := omega) only [hz, zI_n, zI_o, zI_lit, zI_neg, zI_add, zI_sub, zI_mul, zI_lt, zI_le, zI_eq, zI_clamp, zI_in, zI_div, zI_rem, lg_lt0, lg_gt0, lg_eq0, lg_le0, lg_ge0, Int.toNat_natCast, ge_iff_le, gt_iff_lt, List.length_cons, List.length_nil, bl_up2_at, bl_up2_nk, bl_up2_nx] at h74
           first
           | (exfalso; first | omega | exact h74 trivial)
           | (refine ⟨(fun _ => by first | exact Or.inl rfl | exact Or.inr rfl), ?_⟩
              try show _ ∧ _
              try dsimp only [bl_pv]
              refine ⟨⟨_, rfl, ?_⟩, rfl⟩
              first
              | exact Or.inl ⟨rfl, by first | trivial | omega⟩
              | exact Or.inr ⟨rfl, by omega⟩)
         · try simp (disch := omega) only [hz, zI_n, zI_o, zI_lit, zI_neg, zI_add, zI_sub, zI_mul, zI_lt, zI_le, zI_eq, zI_clamp, zI_in, zI_div, zI_rem, lg_lt0, lg_gt0, lg_eq0, lg_le0, lg_ge0, Int.toNat_natCast, ge_iff_le, gt_iff_lt, List.length_cons, List.length_nil, bl_up2_at, bl_up2_nk, bl_up2_nx] at h74
           first
           | (exfalso; first | omega | exact h74 trivial)
           | (refine ⟨(fun _ => by first | exact Or.inl rfl | exact Or.inr rfl), ?_⟩
              try show _ ∧ _
              try dsimp only [bl_pv]
              refine ⟨⟨_, rfl, ?_⟩, rfl⟩
              first
              | exact Or.inl ⟨rfl, by first | trivial | omega⟩
              | exact Or.inr ⟨rfl, by omega⟩))
    | 3, ho1, h1 =>
      cases ho1
      first
      | (exfalso; omega)
      | (refine ⟨km, fun h90 => ?_, fun h90 => ?_⟩
         · try simp (disch := omega) only [hz, zI_n, zI_o, zI_lit, zI_neg, zI_add, zI_sub, zI_mul, zI_lt, zI_le, zI_eq, zI_clamp, zI_in, zI_div, zI_rem, lg_lt0, lg_gt0, lg_eq0, lg_le0, lg_ge0, Int.toNat_natCast, ge_iff_le, gt_iff_lt, List.length_cons, List.length_nil, bl_up2_at, bl_up2_nk, bl_up2_nx] at h90
           first
           | (exfalso; first | omega | exact h90 trivial)
           | (refine ⟨(fun _ => by first | exact Or.inl rfl | exact Or.inr rfl), ?_⟩
              try show _ ∧ _
              try dsimp only [bl_pv]
              refine ⟨⟨_, rfl, ?_⟩, rfl⟩
              first
              | exact Or.inl ⟨rfl, by first | trivial | omega⟩
              | exact Or.inr ⟨rfl, by omega⟩)
         · try simp (disch := omega) only [hz, zI_n, zI_o, zI_lit, zI_neg, zI_add, zI_sub, zI_mul, zI_lt, zI_le, zI_eq, zI_clamp, zI_in, zI_div, zI_rem, lg_lt0, lg_gt0, lg_eq0, lg_le0, lg_ge0, Int.toNat_natCast, ge_iff_le, gt_iff_lt, List.length_cons, List.length_nil, bl_up2_at, bl_up2_nk, bl_up2_nx] at h90
           first
           | (exfalso; first | omega | exact h90 trivial)
           | (refine ⟨(fun _ => by first | exact Or.inl rfl | exact Or.inr rfl), ?_⟩
              try show _ ∧ _
              try dsimp only [bl_pv]
              refine ⟨⟨_, rfl, ?_⟩, rfl⟩
              first
              | exact Or.inl ⟨rfl, by first | trivial | omega⟩
              | exact Or.inr ⟨rfl, by omega⟩))
    | 4, ho1, h1 =>
      cases ho1
      first
      | (exfalso; omega)
      | (refine ⟨km, fun h106 => ?_, fun h106 => ?_⟩
         · try simp (disch := omega) only [hz, zI_n, zI_o, zI_lit, zI_neg, zI_add, zI_sub, zI_mul, zI_lt, zI_le, zI_eq, zI_clamp, zI_in, zI_div, zI_rem, lg_lt0, lg_gt0, lg_eq0, lg_le0, lg_ge0, Int.toNat_natCast, ge_iff_le, gt_iff_lt, List.length_cons, List.length_nil, bl_up2_at, bl_up2_nk, bl_up2_nx] at h106
           first
           | (exfalso; first | omega | exact h106 trivial)
           | (refine ⟨(fun _ => by first | exact Or.inl rfl | exact Or.inr rfl), ?_⟩
              try show _ ∧ _
              try dsimp only [bl_pv]
              refine ⟨⟨_, rfl, ?_⟩, rfl⟩
              first
              | exact Or.inl ⟨rfl, by first | trivial | omega⟩
              | exact Or.inr ⟨rfl, by omega⟩)
         · try simp (disch := omega) only [hz, zI_n, zI_o, zI_lit, zI_neg, zI_add, zI_sub, zI_mul, zI_lt, zI_le, zI_eq, zI_clamp, zI_in, zI_div, zI_rem, lg_lt0, lg_gt0, lg_eq0, lg_le0, lg_ge0, Int.toNat_natCast, ge_iff_le, gt_iff_lt, List.length_cons, List.length_nil, bl_up2_at, bl_up2_nk, bl_up2_nx] at h106
           first
           | (exfalso; first | omega | exact h106 trivial)
           | (refine ⟨(fun _ => by first | exact Or.inl rfl | exact Or.inr rfl), ?_⟩
              try show _ ∧ _
              try dsimp only [bl_pv]
              refine ⟨⟨_, rfl, ?_⟩, rfl⟩
              first
              | exact Or.inl ⟨rfl, by first | trivial | omega⟩
              | exact Or.inr ⟨rfl, by omega⟩))
    | _ + 5, ho1, _ => exact absurd ho1 (by simp)
theorem c_Model_canBe_7 {n L : Nat} {x y : Int32} (km : K m = 12) (hx : x = nI 7) (hy : y = nI n) (hz : I m 21 = nI L) (hn : n ≤ 36) (hL : L ≤ 48) : bl_MC G l d mX11_canBe [.ref m, .int x, .int y] (I, J, R, K, N) (0, 0) (fun o σ' => (∃ w, o = .inl (some (.int w)) ∧ ((w = 1 ∧ sl_can 7 n L) ∨ (w = 0 ∧ ¬ sl_can 7 n L))) ∧ σ' = (I, J, R, K, N)) := by
  subst hx hy
  have hLn : (L : Int) * (n : Int) ≤ 48 * 36 := by have := Nat.mul_le_mul hL hn; rw [← Int.natCast_mul]; omega
  have hLn0 : (L : Int) * (n : Int) = ((L * n : Nat) : Int) := (Int.natCast_mul _ _).symm
  simp only [sl_can]
  refine bl_MC_intro (by decide +kernel) rfl (Nat.le_of_ble_eq_true rfl) ?_
  refine bl_go oX11_canBe 80 [] rfl ?_
  refine ⟨fun h1 => ?_, fun j1 o1 ho1 h1 _ => ?_⟩
  · try simp (disch := omega) only [hz, zI_n, zI_o, zI_lit, zI_neg, zI_add, zI_sub, zI_mul, zI_lt, zI_le, zI_eq, zI_clamp, zI_in, zI_div, zI_rem, lg_lt0, lg_gt0, lg_eq0, lg_le0, lg_ge0, Int.toNat_natCast, ge_iff_le, gt_iff_lt, List.length_cons, List.length_nil, bl_up2_at, bl_up2_nk, bl_up2_nx, zI_toInt] at h1
    first
    | (exfalso; first | omega | exact h1 trivial)
    | (refine ⟨(fun _ => by first | exact Or.inl rfl | exact Or.inr rfl), ?_⟩
       try show _ ∧ _
       try dsimp only [bl_pv]
       refine ⟨⟨_, rfl, ?_⟩, rfl⟩
       first
       | exact Or.inl ⟨rfl, by first | trivial | omega⟩
       | exact Or.inr ⟨rfl, by omega⟩)
  · try simp (disch := omega) only [hz, zI_n, zI_o, zI_lit, zI_neg, zI_add, zI_sub, zI_mul, zI_lt, zI_le, zI_eq, zI_clamp, zI_in, zI_div, zI_rem, lg_lt0, lg_gt0, lg_eq0, lg_le0, lg_ge0, Int.toNat_natCast, ge_iff_le, gt_iff_lt, List.length_cons, List.length_nil, bl_up2_at, bl_up2_nk, bl_up2_nx, zI_toInt] at h1
    match j1, ho1, h1 with
    | 0, ho1, h1 =>
      cases ho1
      first
      | (exfalso; omega)
      | (refine ⟨km, fun h44 => ?_, fun h44 => ?_⟩
         · try simp (disch := omega) only [hz, zI_n, zI_o, zI_lit, zI_neg, zI_add, zI_sub, zI_mul, zI_lt, zI_le, zI_eq, zI_clamp, zI_in, zI_div, zI_rem, lg_lt0, lg_gt0, lg_eq0, lg_le0, lg_ge0, Int.toNat_natCast, ge_iff_le, gt_iff_lt, List.length_cons, List.length_nil, bl_up2_at, bl_up2_nk, bl_up2_nx] at h44
           first
           | (exfalso; first | omega | exact h44 trivial)
           | (refine ⟨(fun _ => by first | exact Or.inl rfl | exact Or.inr rfl), ?_⟩
              try show _ ∧ _
              try dsimp only [bl_pv]
              refine ⟨⟨_, rfl, ?_⟩, rfl⟩
              first
              | exact Or.inl ⟨rfl, by first | trivial | omega⟩
              | exact Or.inr ⟨rfl, by omega⟩)
         · try simp (disch := omega) only [hz, zI_n, zI_o, zI_lit, zI_neg, zI_add, zI_sub, zI_mul, zI_lt, zI_le, zI_eq, zI_clamp, zI_in, zI_div, zI_rem, lg_lt0, lg_gt0, lg_eq0, lg_le0, lg_ge0, Int.toNat_natCast, ge_iff_le, gt_iff_lt, List.length_cons, List.length_nil, bl_up2_at, bl_up2_nk, bl_up2_nx] at h44
           first
           | (exfalso; first | omega | exact h44 trivial)
           | (refine ⟨(fun _ => by first | exact Or.inl rfl | exact Or.inr rfl), ?_⟩
              try show _ ∧ _
              try dsimp only [bl_pv]
              refine ⟨⟨_, rfl, ?_⟩, rfl⟩
              first
              | exact Or.inl ⟨rfl, by first | trivial | omega⟩
              | exact Or.inr ⟨rfl, by omega⟩))
    | 1, ho1, h1 =>
      cases ho1
      first
      | (exfalso; omega)
      | (refine ⟨km, (by first | decide | (simp (disch := omega) only [hz, zI_n, zI_o, zI_lit, zI_neg, zI_add, zI_sub, zI_mul, zI_lt, zI_le, zI_eq, zI_clamp, zI_in, zI_div, zI_rem, lg_lt0, lg_gt0, lg_eq0, lg_le0, lg_ge0, Int.toNat_natCast, ge_iff_le, gt_iff_lt, List.length_cons, List.length_nil, bl_up2_at, bl_up2_nk, bl_up2_nx] <;> omega)), fun h59 => ?_, fun h59 => ?_⟩
         · try simp (disch := omega) only [hz, zI_n, zI_o, zI_lit, zI_neg, zI_add, zI_sub, zI_mul, zI_lt, zI_le, zI_eq, zI_clamp, zI_in, zI_div, zI_rem, lg_lt0, lg_gt0, lg_eq0, lg_le0, lg_ge0, Int.toNat_natCast, ge_iff_le, gt_iff_lt, List.length_cons, List.length_nil, bl_up2_at, bl_up2_nk, bl_up2_nx] at h59
           first
           | (exfalso; first | omega | exact h59 trivial)
           | (refine ⟨(fun _ => by first | exact Or.inl rfl | exact Or.inr rfl), ?_⟩
              try show _ ∧ _
              try dsimp only [bl_pv]
              refine ⟨⟨_, rfl, ?_⟩, rfl⟩
              first
              | exact Or.inl ⟨rfl, by first | trivial | omega⟩
              | exact Or.inr ⟨rfl, by omega⟩)
         · try simp (disch := omega) only [hz, zI_n, zI_o, zI_lit, zI_neg, zI_add, zI_sub, zI_mul, zI_lt, zI_le, zI_eq, zI_clamp, zI_in, zI_div, zI_rem, lg_lt0, lg_gt0, lg_eq0, lg_le0, lg_ge0, Int.toNat_natCast, ge_iff_le, gt_iff_lt, List.length_cons, List.length_nil, bl_up2_at, bl_up2_nk, bl_up2_nx] at h59
           first
           | (exfalso; first | omega | exact h59 trivial)
           | (refine ⟨(fun _ => by first | exact Or.inl rfl | exact Or.inr rfl), ?_⟩
              try show _ ∧ _
              try dsimp only [bl_pv]
              refine ⟨⟨_, rfl, ?_⟩, rfl⟩
              first
              | exact Or.inl ⟨rfl, by first | trivial | omega⟩
              | exact Or.inr ⟨rfl, by omega⟩))
    | 2, ho1, h1 =>
      cases ho1
      first
      | (exfalso; omega)
      | (refine ⟨km, (by first | decide | (simp (disch := omega) only [hz, zI_n, zI_o, zI_lit, zI_neg, zI_add, zI_sub, zI_mul, zI_lt, zI_le, zI_eq, zI_clamp, zI_in, zI_div, zI_rem, lg_lt0, lg_gt0, lg_eq0, lg_le0, lg_ge0, Int.toNat_natCast, ge_iff_le, gt_iff_lt, List.length_cons, List.length_nil, bl_up2_at, bl_up2_nk, bl_up2_nx] <;> omega)), fun h74 => ?_, fun h74 => ?_⟩
         · try simp (disch := omega) only [hz, zI_n, zI_o, zI_lit, zI_neg, zI_add, zI_sub, zI_mul, zI_lt, zI_le, zI_eq, zI_clamp, zI_in, zI_div, zI_rem, lg_lt0, lg_gt0, lg_eq0, lg_le0, lg_ge0, Int.toNat_natCast, ge_iff_le, gt_iff_lt, List.length_cons, List.length_nil, bl_up2_at, bl_up2_nk, bl_up2_nx] at h74
           first
           | (exfalso; first | omega | exact h74 trivial)
           | (refine ⟨(fun _ => by first | exact Or.inl rfl | exact Or.inr rfl), ?_⟩
              try show _ ∧ _
              try dsimp only [bl_pv]
              refine ⟨⟨_, rfl, ?_⟩, rfl⟩
              first
              | exact Or.inl ⟨rfl, by first | trivial | omega⟩
              | exact Or.inr ⟨rfl, by omega⟩)
         · try simp (disch := omega) only [hz, zI_n, zI_o, zI_lit, zI_neg, zI_add, zI_sub, zI_mul, zI_lt, zI_le, zI_eq, zI_clamp, zI_in, zI_div, zI_rem, lg_lt0, lg_gt0, lg_eq0, lg_le0, lg_ge0, Int.toNat_natCast, ge_iff_le, gt_iff_lt, List.length_cons, List.length_nil, bl_up2_at, bl_up2_nk, bl_up2_nx] at h74
           first
           | (exfalso; first | omega | exact h74 trivial)
           | (refine ⟨(fun _ => by first | exact Or.inl rfl | exact Or.inr rfl), ?_⟩
              try show _ ∧ _
              try dsimp only [bl_pv]
              refine ⟨⟨_, rfl, ?_⟩, rfl⟩
              first
              | exact Or.inl ⟨rfl, by first | trivial | omega⟩
              | exact Or.inr ⟨rfl, by omega⟩))
    | 3, ho1, h1 =>
      cases ho1
      first
      | (exfalso; omega)
      | (refine ⟨km, fun h90 => ?_, fun h90 => ?_⟩
         · try simp (disch := omega) only [hz, zI_n, zI_o, zI_lit, zI_neg, zI_add, zI_sub, zI_mul, zI_lt, zI_le, zI_eq, zI_clamp, zI_in, zI_div, zI_rem, lg_lt0, lg_gt0, lg_eq0, lg_le0, lg_ge0, Int.toNat_natCast, ge_iff_le, gt_iff_lt, List.length_cons, List.length_nil, bl_up2_at, bl_up2_nk, bl_up2_nx] at h90
           first
           | (exfalso; first | omega | exact h90 trivial)
           | (refine ⟨(fun _ => by first | exact Or.inl rfl | exact Or.inr rfl), ?_⟩
              try show _ ∧ _
              try dsimp only [bl_pv]
              refine ⟨⟨_, rfl, ?_⟩, rfl⟩
              first
              | exact Or.inl ⟨rfl, by first | trivial | omega⟩
              | exact Or.inr ⟨rfl, by omega⟩)
         · try simp (disch := omega) only [hz, zI_n, zI_o, zI_lit, zI_neg, zI_add, zI_sub, zI_mul, zI_lt, zI_le, zI_eq, zI_clamp, zI_in, zI_div, zI_rem, lg_lt0, lg_gt0, lg_eq0, lg_le0, lg_ge0, Int.toNat_natCast, ge_iff_le, gt_iff_lt, List.length_cons, List.length_nil, bl_up2_at, bl_up2_nk, bl_up2_nx] at h90
           first
           | (exfalso; first | omega | exact h90 trivial)
           | (refine ⟨(fun _ => by first | exact Or.inl rfl | exact Or.inr rfl), ?_⟩
              try show _ ∧ _
              try dsimp only [bl_pv]
              refine ⟨⟨_, rfl, ?_⟩, rfl⟩
              first
              | exact Or.inl ⟨rfl, by first | trivial | omega⟩
              | exact Or.inr ⟨rfl, by omega⟩))
    | 4, ho1, h1 =>
      cases ho1
      first
      | (exfalso; omega)
      | (refine ⟨km, fun h106 => ?_, fun h106 => ?_⟩
         · try simp (disch := omega) only [hz, zI_n, zI_o, zI_lit, zI_neg, zI_add, zI_sub, zI_mul, zI_lt, zI_le, zI_eq, zI_clamp, zI_in, zI_div, zI_rem, lg_lt0, lg_gt0, lg_eq0, lg_le0, lg_ge0, Int.toNat_natCast, ge_iff_le, gt_iff_lt, List.length_cons, List.length_nil, bl_up2_at, bl_up2_nk, bl_up2_nx] at h106
           first
           | (exfalso; first | omega | exact h106 trivial)
           | (refine ⟨(fun _ => by first | exact Or.inl rfl | exact Or.inr rfl), ?_⟩
              try show _ ∧ _
              try dsimp only [bl_pv]
              refine ⟨⟨_, rfl, ?_⟩, rfl⟩
              first
              | exact Or.inl ⟨rfl, by first | trivial | omega⟩
              | exact Or.inr ⟨rfl, by omega⟩)
         · try simp (disch := omega) only [hz, zI_n, zI_o, zI_lit, zI_neg, zI_add, zI_sub, zI_mul, zI_lt, zI_le, zI_eq, zI_clamp, zI_in, zI_div, zI_rem, lg_lt0, lg_gt0, lg_eq0, lg_le0, lg_ge0, Int.toNat_natCast, ge_iff_le, gt_iff_lt, List.length_cons, List.length_nil, bl_up2_at, bl_up2_nk, bl_up2_nx] at h106
           first
           | (exfalso; first | omega | exact h106 trivial)
           | (refine ⟨(fun _ => by first | exact Or.inl rfl | exact Or.inr rfl), ?_⟩
              try show _ ∧ _
              try dsimp only [bl_pv]
              refine ⟨⟨_, rfl, ?_⟩, rfl⟩
              first
              | exact Or.inl ⟨rfl, by first | trivial | omega⟩
              | exact Or.inr ⟨rfl, by omega⟩))
    | _ + 5, ho1, _ => exact absurd ho1 (by simp)
theorem c_Model_canBe_1_2 {L : Nat} {x y : Int32} (km : K m = 12) (hx : x = nI 1) (hy : y = nI 2) (hz : I m 21 = nI L) (hL : L ≤ 48) : bl_MC G l d mX11_canBe [.ref m, .int x, .int y] (I, J, R, K, N) (0, 0) (fun o σ' => (∃ w, o = .inl (some (.int w)) ∧ ((w = 1 ∧ sl_can 1 2 L) ∨ (w = 0 ∧ ¬ sl_can 1 2 L))) ∧ σ' = (I, J, R, K, N)) := by
  subst hx hy
  simp only [sl_can]
  refine bl_MC_intro (by decide +kernel) rfl (Nat.le_of_ble_eq_true rfl) ?_
  refine bl_go oX11_canBe 80 [] rfl ?_
  refine ⟨fun h1 => ?_, fun j1 o1 ho1 h1 _ => ?_⟩
  · try simp (disch := omega) only [hz, zI_n, zI_o, zI_lit, zI_neg, zI_add, zI_sub, zI_mul, zI_lt, zI_le, zI_eq, zI_clamp, zI_in, zI_div, zI_rem, lg_lt0, lg_gt0, lg_eq0, lg_le0, lg_ge0, Int.toNat_natCast, ge_iff_le, gt_iff_lt, List.length_cons, List.length_nil, bl_up2_at, bl_up2_nk, bl_up2_nx, zI_toInt] at h1
    first
    | (exfalso; first | omega | exact h1 trivial)
    | (refine ⟨(fun _ => by first | exact Or.inl rfl | exact Or.inr rfl), ?_⟩
       try show _ ∧ _
       try dsimp only [bl_pv]
       refine ⟨⟨_, rfl, ?_⟩, rfl⟩
       first
       | exact Or.inl ⟨rfl, by first | trivial | omega⟩
       | exact Or.inr ⟨rfl, by omega⟩)
  · try simp (disch := omega) only [hz, zI_n, zI_o, zI_lit, zI_neg, zI_add, zI_sub, zI_mul, zI_lt, zI_le, zI_eq, zI_clamp, zI_in, zI_div, zI_rem, lg_lt0, lg_gt0, lg_eq0, lg_le0, lg_ge0, Int.toNat_natCast, ge_iff_le, gt_iff_lt, List.length_cons, List.length_nil, bl_up2_at, bl_up2_nk, bl_up2_nx, zI_toInt] at h1
    match j1, ho1, h1 with
    | 0, ho1, h1 =>
      cases ho1
      first
      | (exfalso; omega)
      | (refine ⟨km, fun h44 => ?_, fun h44 => ?_⟩
         · try simp (disch := omega) only [hz, zI_n, zI_o, zI_lit, zI_neg, zI_add, zI_sub, zI_mul, zI_lt, zI_le, zI_eq, zI_clamp, zI_in, zI_div, zI_rem, lg_lt0, lg_gt0, lg_eq0, lg_le0, lg_ge0, Int.toNat_natCast, ge_iff_le, gt_iff_lt, List.length_cons, List.length_nil, bl_up2_at, bl_up2_nk, bl_up2_nx] at h44
           first
           | (exfalso; first | omega | exact h44 trivial)
           | (refine ⟨(fun _ => by first | exact Or.inl rfl | exact Or.inr rfl), ?_⟩
              try show _ ∧ _
              try dsimp only [bl_pv]
              refine ⟨⟨_, rfl, ?_⟩, rfl⟩
              first
              | exact Or.inl ⟨rfl, by first | trivial | omega⟩
              | exact Or.inr ⟨rfl, by omega⟩)
         · try simp (disch := omega) only [hz, zI_n, zI_o, zI_lit, zI_neg, zI_add, zI_sub, zI_mul, zI_lt, zI_le, zI_eq, zI_clamp, zI_in, zI_div, zI_rem, lg_lt0, lg_gt0, lg_eq0, lg_le0, lg_ge0, Int.toNat_natCast, ge_iff_le, gt_iff_lt, List.length_cons, List.length_nil, bl_up2_at, bl_up2_nk, bl_up2_nx] at h44
           first
           | (exfalso; first | omega | exact h44 trivial)
           | (refine ⟨(fun _ => by first | exact Or.inl rfl | exact Or.inr rfl), ?_⟩
              try show _ ∧ _
              try dsimp only [bl_pv]
              refine ⟨⟨_, rfl, ?_⟩, rfl⟩
              first
              | exact Or.inl ⟨rfl, by first | trivial | omega⟩
              | exact Or.inr ⟨rfl, by omega⟩))
    | 1, ho1, h1 =>
      cases ho1
      first
      | (exfalso; omega)
      | (refine ⟨km, (by first | decide | (simp (disch := omega) only [hz, zI_n, zI_o, zI_lit, zI_neg, zI_add, zI_sub, zI_mul, zI_lt, zI_le, zI_eq, zI_clamp, zI_in, zI_div, zI_rem, lg_lt0, lg_gt0, lg_eq0, lg_le0, lg_ge0, Int.toNat_natCast, ge_iff_le, gt_iff_lt, List.length_cons, List.length_nil, bl_up2_at, bl_up2_nk, bl_up2_nx] <;> omega)), fun h59 => ?_, fun h59 => ?_⟩
         · try simp (disch := omega) only [hz, zI_n, zI_o, zI_lit, zI_neg, zI_add, zI_sub, zI_mul, zI_lt, zI_le, zI_eq, zI_clamp, zI_in, zI_div, zI_rem, lg_lt0, lg_gt0, lg_eq0, lg_le0, lg_ge0, Int.toNat_natCast, ge_iff_le, gt_iff_lt, List.length_cons, List.length_nil, bl_up2_at, bl_up2_nk, bl_up2_nx] at h59
           first
           | (exfalso; first | omega | exact h59 trivial)
           | (refine ⟨(fun _ => by first | exact Or.inl rfl | exact Or.inr rfl), ?_⟩
              try show _ ∧ _
              try dsimp only [bl_pv]
              refine ⟨⟨_, rfl, ?_⟩, rfl⟩
              first
              | exact Or.inl ⟨rfl, by first | trivial | omega⟩
              | exact Or.inr ⟨rfl, by omega⟩)
         · try simp (disch := omega) only [hz, zI_n, zI_o, zI_lit, zI_neg, zI_add, zI_sub, zI_mul, zI_lt, zI_le, zI_eq, zI_clamp, zI_in, zI_div, zI_rem, lg_lt0, lg_gt0, lg_eq0, lg_le0, lg_ge0, Int.toNat_natCast, ge_iff_le, gt_iff_lt, List.length_cons, List.length_nil, bl_up2_at, bl_up2_nk, bl_up2_nx] at h59
           first
           | (exfalso; first | omega | exact h59 trivial)
           | (refine ⟨(fun _ => by first | exact Or.inl rfl | exact Or.inr rfl), ?_⟩
              try show _ ∧ _
              try dsimp only [bl_pv]
              refine ⟨⟨_, rfl, ?_⟩, rfl⟩
              first
              | exact Or.inl ⟨rfl, by first | trivial | omega⟩
              | exact Or.inr ⟨rfl, by omega⟩))
    | 2, ho1, h1 =>
      cases ho1
      first
      | (exfalso; omega)
      | (refine ⟨km, (by first | decide | (simp (disch := omega) only [hz, zI_n, zI_o, zI_lit, zI_neg, zI_add, zI_sub, zI_mul, zI_lt, zI_le, zI_eq, zI_clamp, zI_in, zI_div, zI_rem, lg_lt0, lg_gt0, lg_eq0, lg_le0, lg_ge0, Int.toNat_natCast, ge_iff_le, gt_iff_lt, List.length_cons, List.length_nil, bl_up2_at, bl_up2_nk, bl_up2_nx] <;> omega)), fun h74 => ?_, fun h74 => ?_⟩
         · try simp (disch := omega) only [hz, zI_n, zI_o, zI_lit, zI_neg, zI_add, zI_sub, zI_mul, zI_lt, zI_le, zI_eq, zI_clamp, zI_in, zI_div, zI_rem, lg_lt0, lg_gt0, lg_eq0, lg_le0, lg_ge0, Int.toNat_natCast, ge_iff_le, gt_iff_lt, List.length_cons, List.length_nil, bl_up2_at, bl_up2_nk, bl_up2_nx] at h74
           first
           | (exfalso; first | omega | exact h74 trivial)
           | (refine ⟨(fun _ => by first | exact Or.inl rfl | exact Or.inr rfl), ?_⟩
              try show _ ∧ _
              try dsimp only [bl_pv]
              refine ⟨⟨_, rfl, ?_⟩, rfl⟩
              first
              | exact Or.inl ⟨rfl, by first | trivial | omega⟩
              | exact Or.inr ⟨rfl, by omega⟩)
         · try simp (disch := omega) only [hz, zI_n, zI_o, zI_lit, zI_neg, zI_add, zI_sub, zI_mul, zI_lt, zI_le, zI_eq, zI_clamp, zI_in, zI_div, zI_rem, lg_lt0, lg_gt0, lg_eq0, lg_le0, lg_ge0, Int.toNat_natCast, ge_iff_le, gt_iff_lt, List.length_cons, List.length_nil, bl_up2_at, bl_up2_nk, bl_up2_nx] at h74
           first
           | (exfalso; first | omega | exact h74 trivial)
           | (refine ⟨(fun _ => by first | exact Or.inl rfl | exact Or.inr rfl), ?_⟩
              try show _ ∧ _
              try dsimp only [bl_pv]
              refine ⟨⟨_, rfl, ?_⟩, rfl⟩
              first
              | exact Or.inl ⟨rfl, by first | trivial | omega⟩
              | exact Or.inr ⟨rfl, by omega⟩))
    | 3, ho1, h1 =>
      cases ho1
      first
      | (exfalso; omega)
      | (refine ⟨km, fun h90 => ?_, fun h90 => ?_⟩
         · try simp (disch := omega) only [hz, zI_n, zI_o, zI_lit, zI_neg, zI_add, zI_sub, zI_mul, zI_lt, zI_le, zI_eq, zI_clamp, zI_in, zI_div, zI_rem, lg_lt0, lg_gt0, lg_eq0, lg_le0, lg_ge0, Int.toNat_natCast, ge_iff_le, gt_iff_lt, List.length_cons, List.length_nil, bl_up2_at, bl_up2_nk, bl_up2_nx] at h90
           first
           | (exfalso; first | omega | exact h90 trivial)
           | (refine ⟨(fun _ => by first | exact Or.inl rfl | exact Or.inr rfl), ?_⟩
              try show _ ∧ _
              try dsimp only [bl_pv]
              refine ⟨⟨_, rfl, ?_⟩, rfl⟩
              first
              | exact Or.inl ⟨rfl, by first | trivial | omega⟩
              | exact Or.inr ⟨rfl, by omega⟩)
         · try simp (disch := omega) only [hz, zI_n, zI_o, zI_lit, zI_neg, zI_add, zI_sub, zI_mul, zI_lt, zI_le, zI_eq, zI_clamp, zI_in, zI_div, zI_rem, lg_lt0, lg_gt0, lg_eq0, lg_le0, lg_ge0, Int.toNat_natCast, ge_iff_le, gt_iff_lt, List.length_cons, List.length_nil, bl_up2_at, bl_up2_nk, bl_up2_nx] at h90
           first
           | (exfalso; first | omega | exact h90 trivial)
           | (refine ⟨(fun _ => by first | exact Or.inl rfl | exact Or.inr rfl), ?_⟩
              try show _ ∧ _
              try dsimp only [bl_pv]
              refine ⟨⟨_, rfl, ?_⟩, rfl⟩
              first
              | exact Or.inl ⟨rfl, by first | trivial | omega⟩
              | exact Or.inr ⟨rfl, by omega⟩))
    | 4, ho1, h1 =>
      cases ho1
      first
      | (exfalso; omega)
      | (refine ⟨km, fun h106 => ?_, fun h106 => ?_⟩
         · try simp (disch := omega) only [hz, zI_n, zI_o, zI_lit, zI_neg, zI_add, zI_sub, zI_mul, zI_lt, zI_le, zI_eq, zI_clamp, zI_in, zI_div, zI_rem, lg_lt0, lg_gt0, lg_eq0, lg_le0, lg_ge0, Int.toNat_natCast, ge_iff_le, gt_iff_lt, List.length_cons, List.length_nil, bl_up2_at, bl_up2_nk, bl_up2_nx] at h106
           first
           | (exfalso; first | omega | exact h106 trivial)
           | (refine ⟨(fun _ => by first | exact Or.inl rfl | exact Or.inr rfl), ?_⟩
              try show _ ∧ _
              try dsimp only [bl_pv]
              refine ⟨⟨_, rfl, ?_⟩, rfl⟩
              first
              | exact Or.inl ⟨rfl, by first | trivial | omega⟩
              | exact Or.inr ⟨rfl, by omega⟩)
         · try simp (disch := omega) only [hz, zI_n, zI_o, zI_lit, zI_neg, zI_add, zI_sub, zI_mul, zI_lt, zI_le, zI_eq, zI_clamp, zI_in, zI_div, zI_rem, lg_lt0, lg_gt0, lg_eq0, lg_le0, lg_ge0, Int.toNat_natCast, ge_iff_le, gt_iff_lt, List.length_cons, List.length_nil, bl_up2_at, bl_up2_nk, bl_up2_nx] at h106
           first
           | (exfalso; first | omega | exact h106 trivial)
           | (refine ⟨(fun _ => by first | exact Or.inl rfl | exact Or.inr rfl), ?_⟩
              try show _ ∧ _
              try dsimp only [bl_pv]
              refine ⟨⟨_, rfl, ?_⟩, rfl⟩
              first
              | exact Or.inl ⟨rfl, by first | trivial | omega⟩
              | exact Or.inr ⟨rfl, by omega⟩))
    | _ + 5, ho1, _ => exact absurd ho1 (by simp)
theorem c_Model_canBe_1_3 {L : Nat} {x y : Int32} (km : K m = 12) (hx : x = nI 1) (hy : y = nI 3) (hz : I m 21 = nI L) (hL : L ≤ 48) : bl_MC G l d mX11_canBe [.ref m, .int x, .int y] (I, J, R, K, N) (0, 0) (fun o σ' => (∃ w, o = .inl (some (.int w)) ∧ ((w = 1 ∧ sl_can 1 3 L) ∨ (w = 0 ∧ ¬ sl_can 1 3 L))) ∧ σ' = (I, J, R, K, N)) := by
  subst hx hy
  simp only [sl_can]
  refine bl_MC_intro (by decide +kernel) rfl (Nat.le_of_ble_eq_true rfl) ?_
  refine bl_go oX11_canBe 80 [] rfl ?_
  refine ⟨fun h1 => ?_, fun j1 o1 ho1 h1 _ => ?_⟩
  · try simp (disch := omega) only [hz, zI_n, zI_o, zI_lit, zI_neg, zI_add, zI_sub, zI_mul, zI_lt, zI_le, zI_eq, zI_clamp, zI_in, zI_div, zI_rem, lg_lt0, lg_gt0, lg_eq0, lg_le0, lg_ge0, Int.toNat_natCast, ge_iff_le, gt_iff_lt, List.length_cons, List.length_nil, bl_up2_at, bl_up2_nk, bl_up2_nx, zI_toInt] at h1
    first
    | (exfalso; first | omega | exact h1 trivial)
    | (refine ⟨(fun _ => by first | exact Or.inl rfl | exact Or.inr rfl), ?_⟩
       try show _ ∧ _
       try dsimp only [bl_pv]
       refine ⟨⟨_, rfl, ?_⟩, rfl⟩
       first
       | exact Or.inl ⟨rfl, by first | trivial | omega⟩
       | exact Or.inr ⟨rfl, by omega⟩)
  · try simp (disch := omega) only [hz, zI_n, zI_o, zI_lit, zI_neg, zI_add, zI_sub, zI_mul, zI_lt, zI_le, zI_eq, zI_clamp, zI_in, zI_div, zI_rem, lg_lt0, lg_gt0, lg_eq0, lg_le0, lg_ge0, Int.toNat_natCast, ge_iff_le, gt_iff_lt, List.length_cons, List.length_nil, bl_up2_at, bl_up2_nk, bl_up2_nx, zI_toInt] at h1
    match j1, ho1, h1 with
    | 0, ho1, h1 =>
      cases ho1
      first
      | (exfalso; omega)
      | (refine ⟨km, fun h44 => ?_, fun h44 => ?_⟩
         · try simp (disch := omega) only [hz, zI_n, zI_o, zI_lit, zI_neg, zI_add, zI_sub, zI_mul, zI_lt, zI_le, zI_eq, zI_clamp, zI_in, zI_div, zI_rem, lg_lt0, lg_gt0, lg_eq0, lg_le0, lg_ge0, Int.toNat_natCast, ge_iff_le, gt_iff_lt, List.length_cons, List.length_nil, bl_up2_at, bl_up2_nk, bl_up2_nx] at h44
           first
           | (exfalso; first | omega | exact h44 trivial)
           | (refine ⟨(fun _ => by first | exact Or.inl rfl | exact Or.inr rfl), ?_⟩
              try show _ ∧ _
              try dsimp only [bl_pv]
              refine ⟨⟨_, rfl, ?_⟩, rfl⟩
              first
              | exact Or.inl ⟨rfl, by first | trivial | omega⟩
              | exact Or.inr ⟨rfl, by omega⟩)
         · try simp (disch := omega) only [hz, zI_n, zI_o, zI_lit, zI_neg, zI_add, zI_sub, zI_mul, zI_lt, zI_le, zI_eq, zI_clamp, zI_in, zI_div, zI_rem, lg_lt0, lg_gt0, lg_eq0, lg_le0, lg_ge0, Int.toNat_natCast, ge_iff_le, gt_iff_lt, List.length_cons, List.length_nil, bl_up2_at, bl_up2_nk, bl_up2_nx] at h44
           first
           | (exfalso; first | omega | exact h44 trivial)
           | (refine ⟨(fun _ => by first | exact Or.inl rfl | exact Or.inr rfl), ?_⟩
              try show _ ∧ _
              try dsimp only [bl_pv]
              refine ⟨⟨_, rfl, ?_⟩, rfl⟩
              first
              | exact Or.inl ⟨rfl, by first | trivial | omega⟩
              | exact Or.inr ⟨rfl, by omega⟩))
    | 1, ho1, h1 =>
      cases ho1
      first
      | (exfalso; omega)
      | (refine ⟨km, (by first | decide | (simp (disch := omega) only [hz, zI_n, zI_o, zI_lit, zI_neg, zI_add, zI_sub, zI_mul, zI_lt, zI_le, zI_eq, zI_clamp, zI_in, zI_div, zI_rem, lg_lt0, lg_gt0, lg_eq0, lg_le0, lg_ge0, Int.toNat_natCast, ge_iff_le, gt_iff_lt, List.length_cons, List.length_nil, bl_up2_at, bl_up2_nk, bl_up2_nx] <;> omega)), fun h59 => ?_, fun h59 => ?_⟩
         · try simp (disch := omega) only [hz, zI_n, zI_o, zI_lit, zI_neg, zI_add, zI_sub, zI_mul, zI_lt, zI_le, zI_eq, zI_clamp, zI_in, zI_div, zI_rem, lg_lt0, lg_gt0, lg_eq0, lg_le0, lg_ge0, Int.toNat_natCast, ge_iff_le, gt_iff_lt, List.length_cons, List.length_nil, bl_up2_at, bl_up2_nk, bl_up2_nx] at h59
           first
           | (exfalso; first | omega | exact h59 trivial)
           | (refine ⟨(fun _ => by first | exact Or.inl rfl | exact Or.inr rfl), ?_⟩
              try show _ ∧ _
              try dsimp only [bl_pv]
              refine ⟨⟨_, rfl, ?_⟩, rfl⟩
              first
              | exact Or.inl ⟨rfl, by first | trivial | omega⟩
              | exact Or.inr ⟨rfl, by omega⟩)
         · try simp (disch := omega) only [hz, zI_n, zI_o, zI_lit, zI_neg, zI_add, zI_sub, zI_mul, zI_lt, zI_le, zI_eq, zI_clamp, zI_in, zI_div, zI_rem, lg_lt0, lg_gt0, lg_eq0, lg_le0, lg_ge0, Int.toNat_natCast, ge_iff_le, gt_iff_lt, List.length_cons, List.length_nil, bl_up2_at, bl_up2_nk, bl_up2_nx] at h59
           first
           | (exfalso; first | omega | exact h59 trivial)
           | (refine ⟨(fun _ => by first | exact Or.inl rfl | exact Or.inr rfl), ?_⟩
              try show _ ∧ _
              try dsimp only [bl_pv]
              refine ⟨⟨_, rfl, ?_⟩, rfl⟩
              first
              | exact Or.inl ⟨rfl, by first | trivial | omega⟩
              | exact Or.inr ⟨rfl, by omega⟩))
    | 2, ho1, h1 =>
      cases ho1
      first
      | (exfalso; omega)
      | (refine ⟨km, (by first | decide | (simp (disch := omega) only [hz, zI_n, zI_o, zI_lit, zI_neg, zI_add, zI_sub, zI_mul, zI_lt, zI_le, zI_eq, zI_clamp, zI_in, zI_div, zI_rem, lg_lt0, lg_gt0, lg_eq0, lg_le0, lg_ge0, Int.toNat_natCast, ge_iff_le, gt_iff_lt, List.length_cons, List.length_nil, bl_up2_at, bl_up2_nk, bl_up2_nx] <;> omega)), fun h74 => ?_, fun h74 => ?_⟩
         · try simp (disch := omega) only [hz, zI_n, zI_o, zI_lit, zI_neg, zI_add, zI_sub, zI_mul, zI_lt, zI_le, zI_eq, zI_clamp, zI_in, zI_div, zI_rem, lg_lt0, lg_gt0, lg_eq0, lg_le0, lg_ge0, Int.toNat_natCast, ge_iff_le, gt_iff_lt, List.length_cons, List.length_nil, bl_up2_at, bl_up2_nk, bl_up2_nx] at h74
           first
           | (exfalso; first | omega | exact h74 trivial)
           | (refine ⟨(fun _ => by first | exact Or.inl rfl | exact Or.inr rfl), ?_⟩
              try show _ ∧ _
              try dsimp only [bl_pv]
              refine ⟨⟨_, rfl, ?_⟩, rfl⟩
              first
              | exact Or.inl ⟨rfl, by first | trivial | omega⟩
              | exact Or.inr ⟨rfl, by omega⟩)
         · try simp (disch := omega) only [hz, zI_n, zI_o, zI_lit, zI_neg, zI_add, zI_sub, zI_mul, zI_lt, zI_le, zI_eq, zI_clamp, zI_in, zI_div, zI_rem, lg_lt0, lg_gt0, lg_eq0, lg_le0, lg_ge0, Int.toNat_natCast, ge_iff_le, gt_iff_lt, List.length_cons, List.length_nil, bl_up2_at, bl_up2_nk, bl_up2_nx] at h74
           first
           | (exfalso; first | omega | exact h74 trivial)
           | (refine ⟨(fun _ => by first | exact Or.inl rfl | exact Or.inr rfl), ?_⟩
              try show _ ∧ _
              try dsimp only [bl_pv]
              refine ⟨⟨_, rfl, ?_⟩, rfl⟩
              first
              | exact Or.inl ⟨rfl, by first | trivial | omega⟩
              | exact Or.inr ⟨rfl, by omega⟩))
    | 3, ho1, h1 =>
      cases ho1
      first
      | (exfalso; omega)
      | (refine ⟨km, fun h90 => ?_, fun h90 => ?_⟩
         · try simp (disch := omega) only [hz, zI_n, zI_o, zI_lit, zI_neg, zI_add, zI_sub, zI_mul, zI_lt, zI_le, zI_eq, zI_clamp, zI_in, zI_div, zI_rem, lg_lt0, lg_gt0, lg_eq0, lg_le0, lg_ge0, Int.toNat_natCast, ge_iff_le, gt_iff_lt, List.length_cons, List.length_nil, bl_up2_at, bl_up2_nk, bl_up2_nx] at h90
           first
           | (exfalso; first | omega | exact h90 trivial)
           | (refine ⟨(fun _ => by first | exact Or.inl rfl | exact Or.inr rfl), ?_⟩
              try show _ ∧ _
              try dsimp only [bl_pv]
              refine ⟨⟨_, rfl, ?_⟩, rfl⟩
              first
              | exact Or.inl ⟨rfl, by first | trivial | omega⟩
              | exact Or.inr ⟨rfl, by omega⟩)
         · try simp (disch := omega) only [hz, zI_n, zI_o, zI_lit, zI_neg, zI_add, zI_sub, zI_mul, zI_lt, zI_le, zI_eq, zI_clamp, zI_in, zI_div, zI_rem, lg_lt0, lg_gt0, lg_eq0, lg_le0, lg_ge0, Int.toNat_natCast, ge_iff_le, gt_iff_lt, List.length_cons, List.length_nil, bl_up2_at, bl_up2_nk, bl_up2_nx] at h90
           first
           | (exfalso; first | omega | exact h90 trivial)
           | (refine ⟨(fun _ => by first | exact Or.inl rfl | exact Or.inr rfl), ?_⟩
              try show _ ∧ _
              try dsimp only [bl_pv]
              refine ⟨⟨_, rfl, ?_⟩, rfl⟩
              first
              | exact Or.inl ⟨rfl, by first | trivial | omega⟩
              | exact Or.inr ⟨rfl, by omega⟩))
    | 4, ho1, h1 =>
      cases ho1
      first
      | (exfalso; omega)
      | (refine ⟨km, fun h106 => ?_, fun h106 => ?_⟩
         · try simp (disch := omega) only [hz, zI_n, zI_o, zI_lit, zI_neg, zI_add, zI_sub, zI_mul, zI_lt, zI_le, zI_eq, zI_clamp, zI_in, zI_div, zI_rem, lg_lt0, lg_gt0, lg_eq0, lg_le0, lg_ge0, Int.toNat_natCast, ge_iff_le, gt_iff_lt, List.length_cons, List.length_nil, bl_up2_at, bl_up2_nk, bl_up2_nx] at h106
           first
           | (exfalso; first | omega | exact h106 trivial)
           | (refine ⟨(fun _ => by first | exact Or.inl rfl | exact Or.inr rfl), ?_⟩
              try show _ ∧ _
              try dsimp only [bl_pv]
              refine ⟨⟨_, rfl, ?_⟩, rfl⟩
              first
              | exact Or.inl ⟨rfl, by first | trivial | omega⟩
              | exact Or.inr ⟨rfl, by omega⟩)
         · try simp (disch := omega) only [hz, zI_n, zI_o, zI_lit, zI_neg, zI_add, zI_sub, zI_mul, zI_lt, zI_le, zI_eq, zI_clamp, zI_in, zI_div, zI_rem, lg_lt0, lg_gt0, lg_eq0, lg_le0, lg_ge0, Int.toNat_natCast, ge_iff_le, gt_iff_lt, List.length_cons, List.length_nil, bl_up2_at, bl_up2_nk, bl_up2_nx] at h106
           first
           | (exfalso; first | omega | exact h106 trivial)
           | (refine ⟨(fun _ => by first | exact Or.inl rfl | exact Or.inr rfl), ?_⟩
              try show _ ∧ _
              try dsimp only [bl_pv]
              refine ⟨⟨_, rfl, ?_⟩, rfl⟩
              first
              | exact Or.inl ⟨rfl, by first | trivial | omega⟩
              | exact Or.inr ⟨rfl, by omega⟩))
    | _ + 5, ho1, _ => exact absurd ho1 (by simp)
theorem c_Model_canBe_1_4 {L : Nat} {x y : Int32} (km : K m = 12) (hx : x = nI 1) (hy : y = nI 4) (hz : I m 21 = nI L) (hL : L ≤ 48) : bl_MC G l d mX11_canBe [.ref m, .int x, .int y] (I, J, R, K, N) (0, 0) (fun o σ' => (∃ w, o = .inl (some (.int w)) ∧ ((w = 1 ∧ sl_can 1 4 L) ∨ (w = 0 ∧ ¬ sl_can 1 4 L))) ∧ σ' = (I, J, R, K, N)) := by
  subst hx hy
  simp only [sl_can]
  refine bl_MC_intro (by decide +kernel) rfl (Nat.le_of_ble_eq_true rfl) ?_
  refine bl_go oX11_canBe 80 [] rfl ?_
  refine ⟨fun h1 => ?_, fun j1 o1 ho1 h1 _ => ?_⟩
  · try simp (disch := omega) only [hz, zI_n, zI_o, zI_lit, zI_neg, zI_add, zI_sub, zI_mul, zI_lt, zI_le, zI_eq, zI_clamp, zI_in, zI_div, zI_rem, lg_lt0, lg_gt0, lg_eq0, lg_le0, lg_ge0, Int.toNat_natCast, ge_iff_le, gt_iff_lt, List.length_cons, List.length_nil, bl_up2_at, bl_up2_nk, bl_up2_nx, zI_toInt] at h1
    first
    | (exfalso; first | omega | exact h1 trivial)
    | (refine ⟨(fun _ => by first | exact Or.inl rfl | exact Or.inr rfl), ?_⟩
       try show _ ∧ _
       try dsimp only [bl_pv]
       refine ⟨⟨_, rfl, ?_⟩, rfl⟩
       first
       | exact Or.inl ⟨rfl, by first | trivial | omega⟩
       | exact Or.inr ⟨rfl, by omega⟩)
  · try simp (disch := omega) only [hz, zI_n, zI_o, zI_lit, zI_neg, zI_add, zI_sub, zI_mul, zI_lt, zI_le, zI_eq, zI_clamp, zI_in, zI_div, zI_rem, lg_lt0, lg_gt0, lg_eq0, lg_le0, lg_ge0, Int.toNat_natCast, ge_iff_le, gt_iff_lt, List.length_cons, List.length_nil, bl_up2_at, bl_up2_nk, bl_up2_nx, zI_toInt] at h1
    match j1, ho1, h1 with
    | 0, ho1, h1 =>
      cases ho1
      first
      | (exfalso; omega)
      | (refine ⟨km, fun h44 => ?_, fun h44 => ?_⟩
         · try simp (disch := omega) only [hz, zI_n, zI_o, zI_lit, zI_neg, zI_add, zI_sub, zI_mul, zI_lt, zI_le, zI_eq, zI_clamp, zI_in, zI_div, zI_rem, lg_lt0, lg_gt0, lg_eq0, lg_le0, lg_ge0, Int.toNat_natCast, ge_iff_le, gt_iff_lt, List.length_cons, List.length_nil, bl_up2_at, bl_up2_nk, bl_up2_nx] at h44
           first
           | (exfalso; first | omega | exact h44 trivial)
           | (refine ⟨(fun _ => by first | exact Or.inl rfl | exact Or.inr rfl), ?_⟩
              try show _ ∧ _
              try dsimp only [bl_pv]
              refine ⟨⟨_, rfl, ?_⟩, rfl⟩
              first
              | exact Or.inl ⟨rfl, by first | trivial | omega⟩
              | exact Or.inr ⟨rfl, by omega⟩)
         · try simp (disch := omega) only [hz, zI_n, zI_o, zI_lit, zI_neg, zI_add, zI_sub, zI_mul, zI_lt, zI_le, zI_eq, zI_clamp, zI_in, zI_div, zI_rem, lg_lt0, lg_gt0, lg_eq0, lg_le0, lg_ge0, Int.toNat_natCast, ge_iff_le, gt_iff_lt, List.length_cons, List.length_nil, bl_up2_at, bl_up2_nk, bl_up2_nx] at h44
           first
           | (exfalso; first | omega | exact h44 trivial)
           | (refine ⟨(fun _ => by first | exact Or.inl rfl | exact Or.inr rfl), ?_⟩
              try show _ ∧ _
              try dsimp only [bl_pv]
              refine ⟨⟨_, rfl, ?_⟩, rfl⟩
              first
              | exact Or.inl ⟨rfl, by first | trivial | omega⟩
              | exact Or.inr ⟨rfl, by omega⟩))
    | 1, ho1, h1 =>
      cases ho1
      first
      | (exfalso; omega)
      | (refine ⟨km, (by first | decide | (simp (disch := omega) only [hz, zI_n, zI_o, zI_lit, zI_neg, zI_add, zI_sub, zI_mul, zI_lt, zI_le, zI_eq, zI_clamp, zI_in, zI_div, zI_rem, lg_lt0, lg_gt0, lg_eq0, lg_le0, lg_ge0, Int.toNat_natCast, ge_iff_le, gt_iff_lt, List.length_cons, List.length_nil, bl_up2_at, bl_up2_nk, bl_up2_nx] <;> omega)), fun h59 => ?_, fun h59 => ?_⟩
         · try simp (disch := omega) only [hz, zI_n, zI_o, zI_lit, zI_neg, zI_add, zI_sub, zI_mul, zI_lt, zI_le, zI_eq, zI_clamp, zI_in, zI_div, zI_rem, lg_lt0, lg_gt0, lg_eq0, lg_le0, lg_ge0, Int.toNat_natCast, ge_iff_le, gt_iff_lt, List.length_cons, List.length_nil, bl_up2_at, bl_up2_nk, bl_up2_nx] at h59
           first
           | (exfalso; first | omega | exact h59 trivial)
           | (refine ⟨(fun _ => by first | exact Or.inl rfl | exact Or.inr rfl), ?_⟩
              try show _ ∧ _
              try dsimp only [bl_pv]
              refine ⟨⟨_, rfl, ?_⟩, rfl⟩
              first
              | exact Or.inl ⟨rfl, by first | trivial | omega⟩
              | exact Or.inr ⟨rfl, by omega⟩)
         · try simp (disch := omega) only [hz, zI_n, zI_o, zI_lit, zI_neg, zI_add, zI_sub, zI_mul, zI_lt, zI_le, zI_eq, zI_clamp, zI_in, zI_div, zI_rem, lg_lt0, lg_gt0, lg_eq0, lg_le0, lg_ge0, Int.toNat_natCast, ge_iff_le, gt_iff_lt, List.length_cons, List.length_nil, bl_up2_at, bl_up2_nk, bl_up2_nx] at h59
           first
           | (exfalso; first | omega | exact h59 trivial)
           | (refine ⟨(fun _ => by first | exact Or.inl rfl | exact Or.inr rfl), ?_⟩
              try show _ ∧ _
              try dsimp only [bl_pv]
              refine ⟨⟨_, rfl, ?_⟩, rfl⟩
              first
              | exact Or.inl ⟨rfl, by first | trivial | omega⟩
              | exact Or.inr ⟨rfl, by omega⟩))
    | 2, ho1, h1 =>
      cases ho1
      first
      | (exfalso; omega)
      | (refine ⟨km, (by first | decide | (simp (disch := omega) only [hz, zI_n, zI_o, zI_lit, zI_neg, zI_add, zI_sub, zI_mul, zI_lt, zI_le, zI_eq, zI_clamp, zI_in, zI_div, zI_rem, lg_lt0, lg_gt0, lg_eq0, lg_le0, lg_ge0, Int.toNat_natCast, ge_iff_le, gt_iff_lt, List.length_cons, List.length_nil, bl_up2_at, bl_up2_nk, bl_up2_nx] <;> omega)), fun h74 => ?_, fun h74 => ?_⟩
         · try simp (disch := omega) only [hz, zI_n, zI_o, zI_lit, zI_neg, zI_add, zI_sub, zI_mul, zI_lt, zI_le, zI_eq, zI_clamp, zI_in, zI_div, zI_rem, lg_lt0, lg_gt0, lg_eq0, lg_le0, lg_ge0, Int.toNat_natCast, ge_iff_le, gt_iff_lt, List.length_cons, List.length_nil, bl_up2_at, bl_up2_nk, bl_up2_nx] at h74
           first
           | (exfalso; first | omega | exact h74 trivial)
           | (refine ⟨(fun _ => by first | exact Or.inl rfl | exact Or.inr rfl), ?_⟩
              try show _ ∧ _
              try dsimp only [bl_pv]
              refine ⟨⟨_, rfl, ?_⟩, rfl⟩
              first
              | exact Or.inl ⟨rfl, by first | trivial | omega⟩
              | exact Or.inr ⟨rfl, by omega⟩)
         · try simp (disch := omega) only [hz, zI_n, zI_o, zI_lit, zI_neg, zI_add, zI_sub, zI_mul, zI_lt, zI_le, zI_eq, zI_clamp, zI_in, zI_div, zI_rem, lg_lt0, lg_gt0, lg_eq0, lg_le0, lg_ge0, Int.toNat_natCast, ge_iff_le, gt_iff_lt, List.length_cons, List.length_nil, bl_up2_at, bl_up2_nk, bl_up2_nx] at h74
           first
           | (exfalso; first | omega | exact h74 trivial)
           | (refine ⟨(fun _ => by first | exact Or.inl rfl | exact Or.inr rfl), ?_⟩
              try show _ ∧ _
              try dsimp only [bl_pv]
              refine ⟨⟨_, rfl, ?_⟩, rfl⟩
              first
              | exact Or.inl ⟨rfl, by first | trivial | omega⟩
              | exact Or.inr ⟨rfl, by omega⟩))
    | 3, ho1, h1 =>
      cases ho1
      first
      | (exfalso; omega)
      | (refine ⟨km, fun h90 => ?_, fun h90 => ?_⟩
         · try simp (disch := omega) only [hz, zI_n, zI_o, zI_lit, zI_neg, zI_add, zI_sub, zI_mul, zI_lt, zI_le, zI_eq, zI_clamp, zI_in, zI_div, zI_rem, lg_lt0, lg_gt0, lg_eq0, lg_le0, lg_ge0, Int.toNat_natCast, ge_iff_le, gt_iff_lt, List.length_cons, List.length_nil, bl_up2_at, bl_up2_nk, bl_up2_nx] at h90
           first
           | (exfalso; first | omega | exact h90 trivial)
           | (refine ⟨(fun _ => by first | exact Or.inl rfl | exact Or.inr rfl), ?_⟩
              try show _ ∧ _
              try dsimp only [bl_pv]
              refine ⟨⟨_, rfl, ?_⟩, rfl⟩
              first
              | exact Or.inl ⟨rfl, by first | trivial | omega⟩
              | exact Or.inr ⟨rfl, by omega⟩)
         · try simp (disch := omega) only [hz, zI_n, zI_o, zI_lit, zI_neg, zI_add, zI_sub, zI_mul, zI_lt, zI_le, zI_eq, zI_clamp, zI_in, zI_div, zI_rem, lg_lt0, lg_gt0, lg_eq0, lg_le0, lg_ge0, Int.toNat_natCast, ge_iff_le, gt_iff_lt, List.length_cons, List.length_nil, bl_up2_at, bl_up2_nk, bl_up2_nx] at h90
           first
           | (exfalso; first | omega | exact h90 trivial)
           | (refine ⟨(fun _ => by first | exact Or.inl rfl | exact Or.inr rfl), ?_⟩
              try show _ ∧ _
              try dsimp only [bl_pv]
              refine ⟨⟨_, rfl, ?_⟩, rfl⟩
              first
              | exact Or.inl ⟨rfl, by first | trivial | omega⟩
              | exact Or.inr ⟨rfl, by omega⟩))
    | 4, ho1, h1 =>
      cases ho1
      first
      | (exfalso; omega)
      | (refine ⟨km, fun h106 => ?_, fun h106 => ?_⟩
         · try simp (disch := omega) only [hz, zI_n, zI_o, zI_lit, zI_neg, zI_add, zI_sub, zI_mul, zI_lt, zI_le, zI_eq, zI_clamp, zI_in, zI_div, zI_rem, lg_lt0, lg_gt0, lg_eq0, lg_le0, lg_ge0, Int.toNat_natCast, ge_iff_le, gt_iff_lt, List.length_cons, List.length_nil, bl_up2_at, bl_up2_nk, bl_up2_nx] at h106
           first
           | (exfalso; first | omega | exact h106 trivial)
           | (refine ⟨(fun _ => by first | exact Or.inl rfl | exact Or.inr rfl), ?_⟩
              try show _ ∧ _
              try dsimp only [bl_pv]
              refine ⟨⟨_, rfl, ?_⟩, rfl⟩
              first
              | exact Or.inl ⟨rfl, by first | trivial | omega⟩
              | exact Or.inr ⟨rfl, by omega⟩)
         · try simp (disch := omega) only [hz, zI_n, zI_o, zI_lit, zI_neg, zI_add, zI_sub, zI_mul, zI_lt, zI_le, zI_eq, zI_clamp, zI_in, zI_div, zI_rem, lg_lt0, lg_gt0, lg_eq0, lg_le0, lg_ge0, Int.toNat_natCast, ge_iff_le, gt_iff_lt, List.length_cons, List.length_nil, bl_up2_at, bl_up2_nk, bl_up2_nx] at h106
           first
           | (exfalso; first | omega | exact h106 trivial)
           | (refine ⟨(fun _ => by first | exact Or.inl rfl | exact Or.inr rfl), ?_⟩
              try show _ ∧ _
              try dsimp only [bl_pv]
              refine ⟨⟨_, rfl, ?_⟩, rfl⟩
              first
              | exact Or.inl ⟨rfl, by first | trivial | omega⟩
              | exact Or.inr ⟨rfl, by omega⟩))
    | _ + 5, ho1, _ => exact absurd ho1 (by simp)
theorem c_Model_canBe {k n L : Nat} {x y : Int32} (km : K m = 12) (hx : x = nI k) (hy : y = nI n) (hz : I m 21 = nI L) (hk : st_ok k n) (hL : L ≤ 48) : bl_MC G l d mX11_canBe [.ref m, .int x, .int y] (I, J, R, K, N) (0, 0) (fun o σ' => (∃ w, o = .inl (some (.int w)) ∧ ((w = 1 ∧ sl_can k n L) ∨ (w = 0 ∧ ¬ sl_can k n L))) ∧ σ' = (I, J, R, K, N)) := by
  have hn := hk.2.1
  match k, hk, hx with
  | 0, hk, hx => exact c_Model_canBe_0 km hx hy hz hn hL
  | 1, hk, hx =>
    rcases st_n1 hk with rfl | rfl | rfl
    · exact c_Model_canBe_1_2 km hx hy hz hL
    · exact c_Model_canBe_1_3 km hx hy hz hL
    · exact c_Model_canBe_1_4 km hx hy hz hL
  | 2, hk, hx => exact c_Model_canBe_2 km hx hy hz hn hL
  | 3, hk, hx => exact c_Model_canBe_3 km hx hy hz hn hL
  | 4, hk, hx => exact c_Model_canBe_4 km hx hy hz hn hL
  | 5, hk, hx => exact c_Model_canBe_5 km hx hy hz hn hL
  | 6, hk, hx => exact c_Model_canBe_6 km hx hy hz hn hL
  | 7, hk, hx => exact c_Model_canBe_7 km hx hy hz hn hL
  | k + 8, hk, _ => exact absurd hk.1 (by omega)
end MODEL19
