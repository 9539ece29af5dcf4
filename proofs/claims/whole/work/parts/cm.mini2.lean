/-! ===== the model's constructor: the rows in their order ===== -/
def mL9 (m : Nat) : List mEn := []
def mL18 (m : Nat) : List mEn := [mR1 m 8 20 400]
def mL26 (m : Nat) : List mEn := [mR1 m 9 20 9, mR1 m 8 20 400]
def mL34 (m : Nat) : List mEn := [mR1 m 10 20 9, mR1 m 9 20 9, mR1 m 8 20 400]
def mL42 (m : Nat) : List mEn := [mR1 m 11 20 24, mR1 m 10 20 9, mR1 m 9 20 9, mR1 m 8 20 400]
def mL50 (m : Nat) : List mEn := [mR1 m 12 20 24, mR1 m 11 20 24, mR1 m 10 20 9, mR1 m 9 20 9, mR1 m 8 20 400]
def mL57 (m : Nat) : List mEn := [mR1 m 16 20 4, mR1 m 12 20 24, mR1 m 11 20 24, mR1 m 10 20 9, mR1 m 9 20 9, mR1 m 8 20 400]
def mL65 (m : Nat) : List mEn := [mR1 m 17 20 40, mR1 m 16 20 4, mR1 m 12 20 24, mR1 m 11 20 24, mR1 m 10 20 9, mR1 m 9 20 9, mR1 m 8 20 400]
def mL76 (m : Nat) : List mEn := [mR2 m 18 100 4 40, mR1 m 17 20 40, mR1 m 16 20 4, mR1 m 12 20 24, mR1 m 11 20 24, mR1 m 10 20 9, mR1 m 9 20 9, mR1 m 8 20 400]
def mL86 (m : Nat) : List mEn := [mR2 m 19 110 3 2, mR2 m 18 100 4 40, mR1 m 17 20 40, mR1 m 16 20 4, mR1 m 12 20 24, mR1 m 11 20 24, mR1 m 10 20 9, mR1 m 9 20 9, mR1 m 8 20 400]
def mL95 (m : Nat) : List mEn := [mR1 m 31 21 2304, mR2 m 19 110 3 2, mR2 m 18 100 4 40, mR1 m 17 20 40, mR1 m 16 20 4, mR1 m 12 20 24, mR1 m 11 20 24, mR1 m 10 20 9, mR1 m 9 20 9, mR1 m 8 20 400]
def mL104 (m : Nat) : List mEn := [mR1 m 32 21 2304, mR1 m 31 21 2304, mR2 m 19 110 3 2, mR2 m 18 100 4 40, mR1 m 17 20 40, mR1 m 16 20 4, mR1 m 12 20 24, mR1 m 11 20 24, mR1 m 10 20 9, mR1 m 9 20 9, mR1 m 8 20 400]
def mL113 (m : Nat) : List mEn := [mR1 m 33 21 2304, mR1 m 32 21 2304, mR1 m 31 21 2304, mR2 m 19 110 3 2, mR2 m 18 100 4 40, mR1 m 17 20 40, mR1 m 16 20 4, mR1 m 12 20 24, mR1 m 11 20 24, mR1 m 10 20 9, mR1 m 9 20 9, mR1 m 8 20 400]
def mL122 (m : Nat) : List mEn := [mR1 m 34 21 2304, mR1 m 33 21 2304, mR1 m 32 21 2304, mR1 m 31 21 2304, mR2 m 19 110 3 2, mR2 m 18 100 4 40, mR1 m 17 20 40, mR1 m 16 20 4, mR1 m 12 20 24, mR1 m 11 20 24, mR1 m 10 20 9, mR1 m 9 20 9, mR1 m 8 20 400]
def mL131 (m : Nat) : List mEn := [mR1 m 35 21 2304, mR1 m 34 21 2304, mR1 m 33 21 2304, mR1 m 32 21 2304, mR1 m 31 21 2304, mR2 m 19 110 3 2, mR2 m 18 100 4 40, mR1 m 17 20 40, mR1 m 16 20 4, mR1 m 12 20 24, mR1 m 11 20 24, mR1 m 10 20 9, mR1 m 9 20 9, mR1 m 8 20 400]
def mL140 (m : Nat) : List mEn := [mR1 m 36 21 2304, mR1 m 35 21 2304, mR1 m 34 21 2304, mR1 m 33 21 2304, mR1 m 32 21 2304, mR1 m 31 21 2304, mR2 m 19 110 3 2, mR2 m 18 100 4 40, mR1 m 17 20 40, mR1 m 16 20 4, mR1 m 12 20 24, mR1 m 11 20 24, mR1 m 10 20 9, mR1 m 9 20 9, mR1 m 8 20 400]
def mL149 (m : Nat) : List mEn := [mR1 m 37 20 2304, mR1 m 36 21 2304, mR1 m 35 21 2304, mR1 m 34 21 2304, mR1 m 33 21 2304, mR1 m 32 21 2304, mR1 m 31 21 2304, mR2 m 19 110 3 2, mR2 m 18 100 4 40, mR1 m 17 20 40, mR1 m 16 20 4, mR1 m 12 20 24, mR1 m 11 20 24, mR1 m 10 20 9, mR1 m 9 20 9, mR1 m 8 20 400]
def mL158 (m : Nat) : List mEn := [mR1 m 38 20 2304, mR1 m 37 20 2304, mR1 m 36 21 2304, mR1 m 35 21 2304, mR1 m 34 21 2304, mR1 m 33 21 2304, mR1 m 32 21 2304, mR1 m 31 21 2304, mR2 m 19 110 3 2, mR2 m 18 100 4 40, mR1 m 17 20 40, mR1 m 16 20 4, mR1 m 12 20 24, mR1 m 11 20 24, mR1 m 10 20 9, mR1 m 9 20 9, mR1 m 8 20 400]
def mL167 (m : Nat) : List mEn := [mR1 m 39 20 2304, mR1 m 38 20 2304, mR1 m 37 20 2304, mR1 m 36 21 2304, mR1 m 35 21 2304, mR1 m 34 21 2304, mR1 m 33 21 2304, mR1 m 32 21 2304, mR1 m 31 21 2304, mR2 m 19 110 3 2, mR2 m 18 100 4 40, mR1 m 17 20 40, mR1 m 16 20 4, mR1 m 12 20 24, mR1 m 11 20 24, mR1 m 10 20 9, mR1 m 9 20 9, mR1 m 8 20 400]
def mL176 (m : Nat) : List mEn := [mR1 m 40 20 2304, mR1 m 39 20 2304, mR1 m 38 20 2304, mR1 m 37 20 2304, mR1 m 36 21 2304, mR1 m 35 21 2304, mR1 m 34 21 2304, mR1 m 33 21 2304, mR1 m 32 21 2304, mR1 m 31 21 2304, mR2 m 19 110 3 2, mR2 m 18 100 4 40, mR1 m 17 20 40, mR1 m 16 20 4, mR1 m 12 20 24, mR1 m 11 20 24, mR1 m 10 20 9, mR1 m 9 20 9, mR1 m 8 20 400]
def mL183 (m : Nat) : List mEn := [mR1 m 41 21 2, mR1 m 40 20 2304, mR1 m 39 20 2304, mR1 m 38 20 2304, mR1 m 37 20 2304, mR1 m 36 21 2304, mR1 m 35 21 2304, mR1 m 34 21 2304, mR1 m 33 21 2304, mR1 m 32 21 2304, mR1 m 31 21 2304, mR2 m 19 110 3 2, mR2 m 18 100 4 40, mR1 m 17 20 40, mR1 m 16 20 4, mR1 m 12 20 24, mR1 m 11 20 24, mR1 m 10 20 9, mR1 m 9 20 9, mR1 m 8 20 400]
def mL191 (m : Nat) : List mEn := [mR1 m 42 20 48, mR1 m 41 21 2, mR1 m 40 20 2304, mR1 m 39 20 2304, mR1 m 38 20 2304, mR1 m 37 20 2304, mR1 m 36 21 2304, mR1 m 35 21 2304, mR1 m 34 21 2304, mR1 m 33 21 2304, mR1 m 32 21 2304, mR1 m 31 21 2304, mR2 m 19 110 3 2, mR2 m 18 100 4 40, mR1 m 17 20 40, mR1 m 16 20 4, mR1 m 12 20 24, mR1 m 11 20 24, mR1 m 10 20 9, mR1 m 9 20 9, mR1 m 8 20 400]
def mL206 (m : Nat) : List mEn := [mR3 m, mR1 m 42 20 48, mR1 m 41 21 2, mR1 m 40 20 2304, mR1 m 39 20 2304, mR1 m 38 20 2304, mR1 m 37 20 2304, mR1 m 36 21 2304, mR1 m 35 21 2304, mR1 m 34 21 2304, mR1 m 33 21 2304, mR1 m 32 21 2304, mR1 m 31 21 2304, mR2 m 19 110 3 2, mR2 m 18 100 4 40, mR1 m 17 20 40, mR1 m 16 20 4, mR1 m 12 20 24, mR1 m 11 20 24, mR1 m 10 20 9, mR1 m 9 20 9, mR1 m 8 20 400]
def mL214 (m : Nat) : List mEn := [mR1 m 44 20 32, mR3 m, mR1 m 42 20 48, mR1 m 41 21 2, mR1 m 40 20 2304, mR1 m 39 20 2304, mR1 m 38 20 2304, mR1 m 37 20 2304, mR1 m 36 21 2304, mR1 m 35 21 2304, mR1 m 34 21 2304, mR1 m 33 21 2304, mR1 m 32 21 2304, mR1 m 31 21 2304, mR2 m 19 110 3 2, mR2 m 18 100 4 40, mR1 m 17 20 40, mR1 m 16 20 4, mR1 m 12 20 24, mR1 m 11 20 24, mR1 m 10 20 9, mR1 m 9 20 9, mR1 m 8 20 400]
def mL225 (m : Nat) : List mEn := [mR2 m 51 120 4 20, mR1 m 44 20 32, mR3 m, mR1 m 42 20 48, mR1 m 41 21 2, mR1 m 40 20 2304, mR1 m 39 20 2304, mR1 m 38 20 2304, mR1 m 37 20 2304, mR1 m 36 21 2304, mR1 m 35 21 2304, mR1 m 34 21 2304, mR1 m 33 21 2304, mR1 m 32 21 2304, mR1 m 31 21 2304, mR2 m 19 110 3 2, mR2 m 18 100 4 40, mR1 m 17 20 40, mR1 m 16 20 4, mR1 m 12 20 24, mR1 m 11 20 24, mR1 m 10 20 9, mR1 m 9 20 9, mR1 m 8 20 400]
def mL236 (m : Nat) : List mEn := [mR2 m 52 130 4 21, mR2 m 51 120 4 20, mR1 m 44 20 32, mR3 m, mR1 m 42 20 48, mR1 m 41 21 2, mR1 m 40 20 2304, mR1 m 39 20 2304, mR1 m 38 20 2304, mR1 m 37 20 2304, mR1 m 36 21 2304, mR1 m 35 21 2304, mR1 m 34 21 2304, mR1 m 33 21 2304, mR1 m 32 21 2304, mR1 m 31 21 2304, mR2 m 19 110 3 2, mR2 m 18 100 4 40, mR1 m 17 20 40, mR1 m 16 20 4, mR1 m 12 20 24, mR1 m 11 20 24, mR1 m 10 20 9, mR1 m 9 20 9, mR1 m 8 20 400]
def mL243 (m : Nat) : List mEn := [mR1 m 53 20 4, mR2 m 52 130 4 21, mR2 m 51 120 4 20, mR1 m 44 20 32, mR3 m, mR1 m 42 20 48, mR1 m 41 21 2, mR1 m 40 20 2304, mR1 m 39 20 2304, mR1 m 38 20 2304, mR1 m 37 20 2304, mR1 m 36 21 2304, mR1 m 35 21 2304, mR1 m 34 21 2304, mR1 m 33 21 2304, mR1 m 32 21 2304, mR1 m 31 21 2304, mR2 m 19 110 3 2, mR2 m 18 100 4 40, mR1 m 17 20 40, mR1 m 16 20 4, mR1 m 12 20 24, mR1 m 11 20 24, mR1 m 10 20 9, mR1 m 9 20 9, mR1 m 8 20 400]
def mL250 (m : Nat) : List mEn := [mR1 m 54 20 4, mR1 m 53 20 4, mR2 m 52 130 4 21, mR2 m 51 120 4 20, mR1 m 44 20 32, mR3 m, mR1 m 42 20 48, mR1 m 41 21 2, mR1 m 40 20 2304, mR1 m 39 20 2304, mR1 m 38 20 2304, mR1 m 37 20 2304, mR1 m 36 21 2304, mR1 m 35 21 2304, mR1 m 34 21 2304, mR1 m 33 21 2304, mR1 m 32 21 2304, mR1 m 31 21 2304, mR2 m 19 110 3 2, mR2 m 18 100 4 40, mR1 m 17 20 40, mR1 m 16 20 4, mR1 m 12 20 24, mR1 m 11 20 24, mR1 m 10 20 9, mR1 m 9 20 9, mR1 m 8 20 400]
def mL257 (m : Nat) : List mEn := [mR1 m 55 20 4, mR1 m 54 20 4, mR1 m 53 20 4, mR2 m 52 130 4 21, mR2 m 51 120 4 20, mR1 m 44 20 32, mR3 m, mR1 m 42 20 48, mR1 m 41 21 2, mR1 m 40 20 2304, mR1 m 39 20 2304, mR1 m 38 20 2304, mR1 m 37 20 2304, mR1 m 36 21 2304, mR1 m 35 21 2304, mR1 m 34 21 2304, mR1 m 33 21 2304, mR1 m 32 21 2304, mR1 m 31 21 2304, mR2 m 19 110 3 2, mR2 m 18 100 4 40, mR1 m 17 20 40, mR1 m 16 20 4, mR1 m 12 20 24, mR1 m 11 20 24, mR1 m 10 20 9, mR1 m 9 20 9, mR1 m 8 20 400]
def mL265 (m : Nat) : List mEn := [mR1 m 56 20 12, mR1 m 55 20 4, mR1 m 54 20 4, mR1 m 53 20 4, mR2 m 52 130 4 21, mR2 m 51 120 4 20, mR1 m 44 20 32, mR3 m, mR1 m 42 20 48, mR1 m 41 21 2, mR1 m 40 20 2304, mR1 m 39 20 2304, mR1 m 38 20 2304, mR1 m 37 20 2304, mR1 m 36 21 2304, mR1 m 35 21 2304, mR1 m 34 21 2304, mR1 m 33 21 2304, mR1 m 32 21 2304, mR1 m 31 21 2304, mR2 m 19 110 3 2, mR2 m 18 100 4 40, mR1 m 17 20 40, mR1 m 16 20 4, mR1 m 12 20 24, mR1 m 11 20 24, mR1 m 10 20 9, mR1 m 9 20 9, mR1 m 8 20 400]
def mL273 (m : Nat) : List mEn := [mR1 m 57 20 12, mR1 m 56 20 12, mR1 m 55 20 4, mR1 m 54 20 4, mR1 m 53 20 4, mR2 m 52 130 4 21, mR2 m 51 120 4 20, mR1 m 44 20 32, mR3 m, mR1 m 42 20 48, mR1 m 41 21 2, mR1 m 40 20 2304, mR1 m 39 20 2304, mR1 m 38 20 2304, mR1 m 37 20 2304, mR1 m 36 21 2304, mR1 m 35 21 2304, mR1 m 34 21 2304, mR1 m 33 21 2304, mR1 m 32 21 2304, mR1 m 31 21 2304, mR2 m 19 110 3 2, mR2 m 18 100 4 40, mR1 m 17 20 40, mR1 m 16 20 4, mR1 m 12 20 24, mR1 m 11 20 24, mR1 m 10 20 9, mR1 m 9 20 9, mR1 m 8 20 400]
def mL281 (m : Nat) : List mEn := [mR1 m 58 20 12, mR1 m 57 20 12, mR1 m 56 20 12, mR1 m 55 20 4, mR1 m 54 20 4, mR1 m 53 20 4, mR2 m 52 130 4 21, mR2 m 51 120 4 20, mR1 m 44 20 32, mR3 m, mR1 m 42 20 48, mR1 m 41 21 2, mR1 m 40 20 2304, mR1 m 39 20 2304, mR1 m 38 20 2304, mR1 m 37 20 2304, mR1 m 36 21 2304, mR1 m 35 21 2304, mR1 m 34 21 2304, mR1 m 33 21 2304, mR1 m 32 21 2304, mR1 m 31 21 2304, mR2 m 19 110 3 2, mR2 m 18 100 4 40, mR1 m 17 20 40, mR1 m 16 20 4, mR1 m 12 20 24, mR1 m 11 20 24, mR1 m 10 20 9, mR1 m 9 20 9, mR1 m 8 20 400]
def mL289 (m : Nat) : List mEn := [mR1 m 59 20 12, mR1 m 58 20 12, mR1 m 57 20 12, mR1 m 56 20 12, mR1 m 55 20 4, mR1 m 54 20 4, mR1 m 53 20 4, mR2 m 52 130 4 21, mR2 m 51 120 4 20, mR1 m 44 20 32, mR3 m, mR1 m 42 20 48, mR1 m 41 21 2, mR1 m 40 20 2304, mR1 m 39 20 2304, mR1 m 38 20 2304, mR1 m 37 20 2304, mR1 m 36 21 2304, mR1 m 35 21 2304, mR1 m 34 21 2304, mR1 m 33 21 2304, mR1 m 32 21 2304, mR1 m 31 21 2304, mR2 m 19 110 3 2, mR2 m 18 100 4 40, mR1 m 17 20 40, mR1 m 16 20 4, mR1 m 12 20 24, mR1 m 11 20 24, mR1 m 10 20 9, mR1 m 9 20 9, mR1 m 8 20 400]
section MINI
variable {G : bl_G} {l : Launch} {d m : Nat} {s : bl_Mem} {Q : bl_Out → bl_Mem → Prop}
theorem mIn.fr {s1 : bl_Mem} {L : List mEn} (h : mIn s s1 m L) (hf : ∀ y, m < y → y < m + 49763 → s.2.2.2.1 y = 0) {y : Nat} (y1 : m < y) (y2 : y < m + 49763) (hL : ∀ e ∈ L, ¬ e.2.1 y) : s1.2.2.2.1 y = 0 := ((h.1 y (fun q => q.elim (fun e => by omega) (fun ⟨e, he, q⟩ => hL e he q))).2.2.2.1).trans (hf y y1 y2)
theorem mini_281 (hf : ∀ y, m < y → y < m + 49763 → s.2.2.2.1 y = 0) (hE : ∀ s1, mIn s s1 m (mL289 m) → bl_WP G l d mX11_init 289 [(0, .ref m)] [] s1 (0, 0) Q) : ∀ s1, mIn s s1 m (mL281 m) → bl_WP G l d mX11_init 281 [(0, .ref m)] [] s1 (1, 12) Q := by
  intro s1 h
  have hfr := @mIn.fr m s s1 _ h hf
  have hnx := hE
  have k0 : s1.2.2.2.1 (m + 59) = 0 := hfr (by omega) (by omega) (by simp [mL281, mR1, mR2, mR3] <;> omega)
  refine bl_go oX11_init 80 [289] rfl ?_
  refine ⟨m + 59, k0, (by decide), (by decide +kernel), (by decide), (by decide +kernel), (bl_mk_Kne (by omega)).trans h.2.1, Or.inl ⟨rfl, Or.inl ⟨_, rfl⟩⟩, (fun h => by cases h), ?_⟩
  exact bl_WP_bud (b' := (0, 0)) (by decide +kernel) (by decide +kernel) (hnx _ (h.row (k := 59) (kd := 20) (n := 12) (by omega) (by omega) (by decide +kernel) k0 (by simp [mL281, mR1, mR2, mR3])))
theorem mini_273 (hf : ∀ y, m < y → y < m + 49763 → s.2.2.2.1 y = 0) (hE : ∀ s1, mIn s s1 m (mL289 m) → bl_WP G l d mX11_init 289 [(0, .ref m)] [] s1 (0, 0) Q) : ∀ s1, mIn s s1 m (mL273 m) → bl_WP G l d mX11_init 273 [(0, .ref m)] [] s1 (2, 24) Q := by
  intro s1 h
  have hfr := @mIn.fr m s s1 _ h hf
  have hnx := mini_281 (G := G) (l := l) (d := d) (m := m) (s := s) (Q := Q) hf hE
  have k0 : s1.2.2.2.1 (m + 58) = 0 := hfr (by omega) (by omega) (by simp [mL273, mR1, mR2, mR3] <;> omega)
  refine bl_go oX11_init 80 [281] rfl ?_
  refine ⟨m + 58, k0, (by decide), (by decide +kernel), (by decide), (by decide +kernel), (bl_mk_Kne (by omega)).trans h.2.1, Or.inl ⟨rfl, Or.inl ⟨_, rfl⟩⟩, (fun h => by cases h), ?_⟩
  exact bl_WP_bud (b' := (1, 12)) (by decide +kernel) (by decide +kernel) (hnx _ (h.row (k := 58) (kd := 20) (n := 12) (by omega) (by omega) (by decide +kernel) k0 (by simp [mL273, mR1, mR2, mR3])))
theorem mini_265 (hf : ∀ y, m < y → y < m + 49763 → s.2.2.2.1 y = 0) (hE : ∀ s1, mIn s s1 m (mL289 m) → bl_WP G l d mX11_init 289 [(0, .ref m)] [] s1 (0, 0) Q) : ∀ s1, mIn s s1 m (mL265 m) → bl_WP G l d mX11_init 265 [(0, .ref m)] [] s1 (3, 36) Q := by
  intro s1 h
  have hfr := @mIn.fr m s s1 _ h hf
  have hnx := mini_273 (G := G) (l := l) (d := d) (m := m) (s := s) (Q := Q) hf hE
  have k0 : s1.2.2.2.1 (m + 57) = 0 := hfr (by omega) (by omega) (by simp [mL265, mR1, mR2, mR3] <;> omega)
  refine bl_go oX11_init 80 [273] rfl ?_
  refine ⟨m + 57, k0, (by decide), (by decide +kernel), (by decide), (by decide +kernel), (bl_mk_Kne (by omega)).trans h.2.1, Or.inl ⟨rfl, Or.inl ⟨_, rfl⟩⟩, (fun h => by cases h), ?_⟩
  exact bl_WP_bud (b' := (2, 24)) (by decide +kernel) (by decide +kernel) (hnx _ (h.row (k := 57) (kd := 20) (n := 12) (by omega) (by omega) (by decide +kernel) k0 (by simp [mL265, mR1, mR2, mR3])))
theorem mini_257 (hf : ∀ y, m < y → y < m + 49763 → s.2.2.2.1 y = 0) (hE : ∀ s1, mIn s s1 m (mL289 m) → bl_WP G l d mX11_init 289 [(0, .ref m)] [] s1 (0, 0) Q) : ∀ s1, mIn s s1 m (mL257 m) → bl_WP G l d mX11_init 257 [(0, .ref m)] [] s1 (4, 48) Q := by
  intro s1 h
  have hfr := @mIn.fr m s s1 _ h hf
  have hnx := mini_265 (G := G) (l := l) (d := d) (m := m) (s := s) (Q := Q) hf hE
  have k0 : s1.2.2.2.1 (m + 56) = 0 := hfr (by omega) (by omega) (by simp [mL257, mR1, mR2, mR3] <;> omega)
  refine bl_go oX11_init 80 [265] rfl ?_
  refine ⟨m + 56, k0, (by decide), (by decide +kernel), (by decide), (by decide +kernel), (bl_mk_Kne (by omega)).trans h.2.1, Or.inl ⟨rfl, Or.inl ⟨_, rfl⟩⟩, (fun h => by cases h), ?_⟩
  exact bl_WP_bud (b' := (3, 36)) (by decide +kernel) (by decide +kernel) (hnx _ (h.row (k := 56) (kd := 20) (n := 12) (by omega) (by omega) (by decide +kernel) k0 (by simp [mL257, mR1, mR2, mR3])))
theorem mini_250 (hf : ∀ y, m < y → y < m + 49763 → s.2.2.2.1 y = 0) (hE : ∀ s1, mIn s s1 m (mL289 m) → bl_WP G l d mX11_init 289 [(0, .ref m)] [] s1 (0, 0) Q) : ∀ s1, mIn s s1 m (mL250 m) → bl_WP G l d mX11_init 250 [(0, .ref m)] [] s1 (5, 52) Q := by
  intro s1 h
  have hfr := @mIn.fr m s s1 _ h hf
  have hnx := mini_257 (G := G) (l := l) (d := d) (m := m) (s := s) (Q := Q) hf hE
  have k0 : s1.2.2.2.1 (m + 55) = 0 := hfr (by omega) (by omega) (by simp [mL250, mR1, mR2, mR3] <;> omega)
  refine bl_go oX11_init 80 [257] rfl ?_
  refine ⟨m + 55, k0, (by decide), (by decide +kernel), (by decide), (by decide +kernel), (bl_mk_Kne (by omega)).trans h.2.1, Or.inl ⟨rfl, Or.inl ⟨_, rfl⟩⟩, (fun h => by cases h), ?_⟩
  exact bl_WP_bud (b' := (4, 48)) (by decide +kernel) (by decide +kernel) (hnx _ (h.row (k := 55) (kd := 20) (n := 4) (by omega) (by omega) (by decide +kernel) k0 (by simp [mL250, mR1, mR2, mR3])))
theorem mini_243 (hf : ∀ y, m < y → y < m + 49763 → s.2.2.2.1 y = 0) (hE : ∀ s1, mIn s s1 m (mL289 m) → bl_WP G l d mX11_init 289 [(0, .ref m)] [] s1 (0, 0) Q) : ∀ s1, mIn s s1 m (mL243 m) → bl_WP G l d mX11_init 243 [(0, .ref m)] [] s1 (6, 56) Q := by
  intro s1 h
  have hfr := @mIn.fr m s s1 _ h hf
  have hnx := mini_250 (G := G) (l := l) (d := d) (m := m) (s := s) (Q := Q) hf hE
  have k0 : s1.2.2.2.1 (m + 54) = 0 := hfr (by omega) (by omega) (by simp [mL243, mR1, mR2, mR3] <;> omega)
  refine bl_go oX11_init 80 [250] rfl ?_
  refine ⟨m + 54, k0, (by decide), (by decide +kernel), (by decide), (by decide +kernel), (bl_mk_Kne (by omega)).trans h.2.1, Or.inl ⟨rfl, Or.inl ⟨_, rfl⟩⟩, (fun h => by cases h), ?_⟩
  exact bl_WP_bud (b' := (5, 52)) (by decide +kernel) (by decide +kernel) (hnx _ (h.row (k := 54) (kd := 20) (n := 4) (by omega) (by omega) (by decide +kernel) k0 (by simp [mL243, mR1, mR2, mR3])))
theorem mini_236 (hf : ∀ y, m < y → y < m + 49763 → s.2.2.2.1 y = 0) (hE : ∀ s1, mIn s s1 m (mL289 m) → bl_WP G l d mX11_init 289 [(0, .ref m)] [] s1 (0, 0) Q) : ∀ s1, mIn s s1 m (mL236 m) → bl_WP G l d mX11_init 236 [(0, .ref m)] [] s1 (7, 60) Q := by
  intro s1 h
  have hfr := @mIn.fr m s s1 _ h hf
  have hnx := mini_243 (G := G) (l := l) (d := d) (m := m) (s := s) (Q := Q) hf hE
  have k0 : s1.2.2.2.1 (m + 53) = 0 := hfr (by omega) (by omega) (by simp [mL236, mR1, mR2, mR3] <;> omega)
  refine bl_go oX11_init 80 [243] rfl ?_
  refine ⟨m + 53, k0, (by decide), (by decide +kernel), (by decide), (by decide +kernel), (bl_mk_Kne (by omega)).trans h.2.1, Or.inl ⟨rfl, Or.inl ⟨_, rfl⟩⟩, (fun h => by cases h), ?_⟩
  exact bl_WP_bud (b' := (6, 56)) (by decide +kernel) (by decide +kernel) (hnx _ (h.row (k := 53) (kd := 20) (n := 4) (by omega) (by omega) (by decide +kernel) k0 (by simp [mL236, mR1, mR2, mR3])))
theorem mini_225 (hf : ∀ y, m < y → y < m + 49763 → s.2.2.2.1 y = 0) (hE : ∀ s1, mIn s s1 m (mL289 m) → bl_WP G l d mX11_init 289 [(0, .ref m)] [] s1 (0, 0) Q) : ∀ s1, mIn s s1 m (mL225 m) → bl_WP G l d mX11_init 225 [(0, .ref m)] [] s1 (12, 148) Q := by
  intro s1 h
  have hfr := @mIn.fr m s s1 _ h hf
  have hnx := mini_236 (G := G) (l := l) (d := d) (m := m) (s := s) (Q := Q) hf hE
  have k0 : s1.2.2.2.1 (m + 52) = 0 := hfr (by omega) (by omega) (by simp [mL225, mR1, mR2, mR3] <;> omega)
  refine bl_go oX11_init 80 [236] rfl ?_
  have k1 : ∀ y, m + 130 ≤ y → y < m + 130 + 4 → s1.2.2.2.1 y = 0 := fun y y1 y2 => hfr (by omega) (by omega) (by simp [mL225, mR1, mR2, mR3] <;> omega)
  refine ⟨m + 52, m + 130, (by decide +kernel), ⟨Or.inl (by omega), k0, fun y y1 y2 => k1 y y1 (Nat.lt_of_lt_of_eq y2 (congrArg (fun t => m + 130 + t) (show _ = 4 from by decide +kernel)))⟩, (by decide +kernel), ((eqF_mk2 m (by omega)).2.2.2.1).trans h.2.1, Or.inl ⟨rfl, Or.inl ⟨_, rfl⟩⟩, (fun h => by cases h), ?_⟩
  exact bl_WP_bud (b' := (7, 60)) (by decide +kernel) (by decide +kernel) (hnx _ (h.row2 (by omega) (by omega) (by decide +kernel) (by decide +kernel) k0 k1 (by simp [mL225, mR1, mR2, mR3])))
theorem mini_214 (hf : ∀ y, m < y → y < m + 49763 → s.2.2.2.1 y = 0) (hE : ∀ s1, mIn s s1 m (mL289 m) → bl_WP G l d mX11_init 289 [(0, .ref m)] [] s1 (0, 0) Q) : ∀ s1, mIn s s1 m (mL214 m) → bl_WP G l d mX11_init 214 [(0, .ref m)] [] s1 (17, 232) Q := by
  intro s1 h
  have hfr := @mIn.fr m s s1 _ h hf
  have hnx := mini_225 (G := G) (l := l) (d := d) (m := m) (s := s) (Q := Q) hf hE
  have k0 : s1.2.2.2.1 (m + 51) = 0 := hfr (by omega) (by omega) (by simp [mL214, mR1, mR2, mR3] <;> omega)
  refine bl_go oX11_init 80 [225] rfl ?_
  have k1 : ∀ y, m + 120 ≤ y → y < m + 120 + 4 → s1.2.2.2.1 y = 0 := fun y y1 y2 => hfr (by omega) (by omega) (by simp [mL214, mR1, mR2, mR3] <;> omega)
  refine ⟨m + 51, m + 120, (by decide +kernel), ⟨Or.inl (by omega), k0, fun y y1 y2 => k1 y y1 (Nat.lt_of_lt_of_eq y2 (congrArg (fun t => m + 120 + t) (show _ = 4 from by decide +kernel)))⟩, (by decide +kernel), ((eqF_mk2 m (by omega)).2.2.2.1).trans h.2.1, Or.inl ⟨rfl, Or.inl ⟨_, rfl⟩⟩, (fun h => by cases h), ?_⟩
  exact bl_WP_bud (b' := (12, 148)) (by decide +kernel) (by decide +kernel) (hnx _ (h.row2 (by omega) (by omega) (by decide +kernel) (by decide +kernel) k0 k1 (by simp [mL214, mR1, mR2, mR3])))
theorem mini_206 (hf : ∀ y, m < y → y < m + 49763 → s.2.2.2.1 y = 0) (hE : ∀ s1, mIn s s1 m (mL289 m) → bl_WP G l d mX11_init 289 [(0, .ref m)] [] s1 (0, 0) Q) : ∀ s1, mIn s s1 m (mL206 m) → bl_WP G l d mX11_init 206 [(0, .ref m)] [] s1 (18, 264) Q := by
  intro s1 h
  have hfr := @mIn.fr m s s1 _ h hf
  have hnx := mini_214 (G := G) (l := l) (d := d) (m := m) (s := s) (Q := Q) hf hE
  have k0 : s1.2.2.2.1 (m + 44) = 0 := hfr (by omega) (by omega) (by simp [mL206, mR1, mR2, mR3] <;> omega)
  refine bl_go oX11_init 80 [214] rfl ?_
  refine ⟨m + 44, k0, (by decide), (by decide +kernel), (by decide), (by decide +kernel), (bl_mk_Kne (by omega)).trans h.2.1, Or.inl ⟨rfl, Or.inl ⟨_, rfl⟩⟩, (fun h => by cases h), ?_⟩
  exact bl_WP_bud (b' := (17, 232)) (by decide +kernel) (by decide +kernel) (hnx _ (h.row (k := 44) (kd := 20) (n := 32) (by omega) (by omega) (by decide +kernel) k0 (by simp [mL206, mR1, mR2, mR3])))
theorem mini_191 (hf : ∀ y, m < y → y < m + 49763 → s.2.2.2.1 y = 0) (hE : ∀ s1, mIn s s1 m (mL289 m) → bl_WP G l d mX11_init 289 [(0, .ref m)] [] s1 (0, 0) Q) : ∀ s1, mIn s s1 m (mL191 m) → bl_WP G l d mX11_init 191 [(0, .ref m)] [] s1 (48903, 1609564) Q := by
  intro s1 h
  have hfr := @mIn.fr m s s1 _ h hf
  have hnx := mini_206 (G := G) (l := l) (d := d) (m := m) (s := s) (Q := Q) hf hE
  have k0 : s1.2.2.2.1 (m + 43) = 0 := hfr (by omega) (by omega) (by simp [mL191, mR1, mR2, mR3] <;> omega)
  refine bl_go oX11_init 80 [206] rfl ?_
  have k1 : ∀ y, m + 200 ≤ y → y < m + 321 → s1.2.2.2.1 y = 0 := fun y y1 y2 => hfr (by omega) (by omega) (by simp [mL191, mR1, mR2, mR3] <;> omega)
  have k2 : ∀ y, m + 1000 ≤ y → y < m + 49763 → s1.2.2.2.1 y = 0 := fun y y1 y2 => hfr (by omega) (by omega) (by simp [mL191, mR1, mR2, mR3] <;> omega)
  refine ⟨m + 43, m + 200, m + 1000, (by decide +kernel), ⟨⟨by omega, Nat.le_trans (Nat.le_of_eq (congrArg (fun t => m + 200 + t) (show _ = 121 from by decide +kernel))) (by omega)⟩, k0, fun y y1 y2 => k1 y y1 (Nat.lt_of_lt_of_eq (Nat.lt_of_lt_of_eq y2 (congrArg (fun t => m + 200 + t) (show _ = 121 from by decide +kernel))) (by omega)), fun y y1 y2 => k2 y y1 (Nat.lt_of_lt_of_eq (Nat.lt_of_lt_of_eq y2 (congrArg (fun t => m + 1000 + t) (show _ = 48763 from by decide +kernel))) (by omega))⟩, (by decide +kernel), ?_, Or.inl ⟨rfl, Or.inl ⟨_, rfl⟩⟩, (fun h => by cases h), ?_⟩
  · refine ((eqF_mk3 m ?_).2.2.2.1).trans h.2.1
    omega
  · exact bl_WP_bud (b' := (18, 264)) (by decide +kernel) (by decide +kernel) (hnx _ (h.row3 (by decide +kernel) (by decide +kernel) (by decide +kernel) k0 k1 k2 (by simp [mL191, mR1, mR2, mR3])))
theorem mini_183 (hf : ∀ y, m < y → y < m + 49763 → s.2.2.2.1 y = 0) (hE : ∀ s1, mIn s s1 m (mL289 m) → bl_WP G l d mX11_init 289 [(0, .ref m)] [] s1 (0, 0) Q) : ∀ s1, mIn s s1 m (mL183 m) → bl_WP G l d mX11_init 183 [(0, .ref m)] [] s1 (48904, 1609612) Q := by
  intro s1 h
  have hfr := @mIn.fr m s s1 _ h hf
  have hnx := mini_191 (G := G) (l := l) (d := d) (m := m) (s := s) (Q := Q) hf hE
  have k0 : s1.2.2.2.1 (m + 42) = 0 := hfr (by omega) (by omega) (by simp [mL183, mR1, mR2, mR3] <;> omega)
  refine bl_go oX11_init 80 [191] rfl ?_
  refine ⟨m + 42, k0, (by decide), (by decide +kernel), (by decide), (by decide +kernel), (bl_mk_Kne (by omega)).trans h.2.1, Or.inl ⟨rfl, Or.inl ⟨_, rfl⟩⟩, (fun h => by cases h), ?_⟩
  exact bl_WP_bud (b' := (48903, 1609564)) (by decide +kernel) (by decide +kernel) (hnx _ (h.row (k := 42) (kd := 20) (n := 48) (by omega) (by omega) (by decide +kernel) k0 (by simp [mL183, mR1, mR2, mR3])))
theorem mini_176 (hf : ∀ y, m < y → y < m + 49763 → s.2.2.2.1 y = 0) (hE : ∀ s1, mIn s s1 m (mL289 m) → bl_WP G l d mX11_init 289 [(0, .ref m)] [] s1 (0, 0) Q) : ∀ s1, mIn s s1 m (mL176 m) → bl_WP G l d mX11_init 176 [(0, .ref m)] [] s1 (48905, 1609614) Q := by
  intro s1 h
  have hfr := @mIn.fr m s s1 _ h hf
  have hnx := mini_183 (G := G) (l := l) (d := d) (m := m) (s := s) (Q := Q) hf hE
  have k0 : s1.2.2.2.1 (m + 41) = 0 := hfr (by omega) (by omega) (by simp [mL176, mR1, mR2, mR3] <;> omega)
  refine bl_go oX11_init 80 [183] rfl ?_
  refine ⟨m + 41, k0, (by decide), (by decide +kernel), (by decide), (by decide +kernel), (bl_mk_Kne (by omega)).trans h.2.1, Or.inl ⟨rfl, Or.inl ⟨_, rfl⟩⟩, (fun h => by cases h), ?_⟩
  exact bl_WP_bud (b' := (48904, 1609612)) (by decide +kernel) (by decide +kernel) (hnx _ (h.row (k := 41) (kd := 21) (n := 2) (by omega) (by omega) (by decide +kernel) k0 (by simp [mL176, mR1, mR2, mR3])))
theorem mini_167 (hf : ∀ y, m < y → y < m + 49763 → s.2.2.2.1 y = 0) (hE : ∀ s1, mIn s s1 m (mL289 m) → bl_WP G l d mX11_init 289 [(0, .ref m)] [] s1 (0, 0) Q) : ∀ s1, mIn s s1 m (mL167 m) → bl_WP G l d mX11_init 167 [(0, .ref m)] [] s1 (48906, 1611918) Q := by
  intro s1 h
  have hfr := @mIn.fr m s s1 _ h hf
  have hnx := mini_176 (G := G) (l := l) (d := d) (m := m) (s := s) (Q := Q) hf hE
  have k0 : s1.2.2.2.1 (m + 40) = 0 := hfr (by omega) (by omega) (by simp [mL167, mR1, mR2, mR3] <;> omega)
  refine bl_go oX11_init 80 [176] rfl ?_
  refine ⟨m + 40, k0, (by decide), (by decide +kernel), (by decide), (by decide +kernel), (bl_mk_Kne (by omega)).trans h.2.1, Or.inl ⟨rfl, Or.inl ⟨_, rfl⟩⟩, (fun h => by cases h), ?_⟩
  exact bl_WP_bud (b' := (48905, 1609614)) (by decide +kernel) (by decide +kernel) (hnx _ (h.row (k := 40) (kd := 20) (n := 2304) (by omega) (by omega) (by decide +kernel) k0 (by simp [mL167, mR1, mR2, mR3])))
theorem mini_158 (hf : ∀ y, m < y → y < m + 49763 → s.2.2.2.1 y = 0) (hE : ∀ s1, mIn s s1 m (mL289 m) → bl_WP G l d mX11_init 289 [(0, .ref m)] [] s1 (0, 0) Q) : ∀ s1, mIn s s1 m (mL158 m) → bl_WP G l d mX11_init 158 [(0, .ref m)] [] s1 (48907, 1614222) Q := by
  intro s1 h
  have hfr := @mIn.fr m s s1 _ h hf
  have hnx := mini_167 (G := G) (l := l) (d := d) (m := m) (s := s) (Q := Q) hf hE
  have k0 : s1.2.2.2.1 (m + 39) = 0 := hfr (by omega) (by omega) (by simp [mL158, mR1, mR2, mR3] <;> omega)
  refine bl_go oX11_init 80 [167] rfl ?_
  refine ⟨m + 39, k0, (by decide), (by decide +kernel), (by decide), (by decide +kernel), (bl_mk_Kne (by omega)).trans h.2.1, Or.inl ⟨rfl, Or.inl ⟨_, rfl⟩⟩, (fun h => by cases h), ?_⟩
  exact bl_WP_bud (b' := (48906, 1611918)) (by decide +kernel) (by decide +kernel) (hnx _ (h.row (k := 39) (kd := 20) (n := 2304) (by omega) (by omega) (by decide +kernel) k0 (by simp [mL158, mR1, mR2, mR3])))
theorem mini_149 (hf : ∀ y, m < y → y < m + 49763 → s.2.2.2.1 y = 0) (hE : ∀ s1, mIn s s1 m (mL289 m) → bl_WP G l d mX11_init 289 [(0, .ref m)] [] s1 (0, 0) Q) : ∀ s1, mIn s s1 m (mL149 m) → bl_WP G l d mX11_init 149 [(0, .ref m)] [] s1 (48908, 1616526) Q := by
  intro s1 h
  have hfr := @mIn.fr m s s1 _ h hf
  have hnx := mini_158 (G := G) (l := l) (d := d) (m := m) (s := s) (Q := Q) hf hE
  have k0 : s1.2.2.2.1 (m + 38) = 0 := hfr (by omega) (by omega) (by simp [mL149, mR1, mR2, mR3] <;> omega)
  refine bl_go oX11_init 80 [158] rfl ?_
  refine ⟨m + 38, k0, (by decide), (by decide +kernel), (by decide), (by decide +kernel), (bl_mk_Kne (by omega)).trans h.2.1, Or.inl ⟨rfl, Or.inl ⟨_, rfl⟩⟩, (fun h => by cases h), ?_⟩
  exact bl_WP_bud (b' := (48907, 1614222)) (by decide +kernel) (by decide +kernel) (hnx _ (h.row (k := 38) (kd := 20) (n := 2304) (by omega) (by omega) (by decide +kernel) k0 (by simp [mL149, mR1, mR2, mR3])))
theorem mini_140 (hf : ∀ y, m < y → y < m + 49763 → s.2.2.2.1 y = 0) (hE : ∀ s1, mIn s s1 m (mL289 m) → bl_WP G l d mX11_init 289 [(0, .ref m)] [] s1 (0, 0) Q) : ∀ s1, mIn s s1 m (mL140 m) → bl_WP G l d mX11_init 140 [(0, .ref m)] [] s1 (48909, 1618830) Q := by
  intro s1 h
  have hfr := @mIn.fr m s s1 _ h hf
  have hnx := mini_149 (G := G) (l := l) (d := d) (m := m) (s := s) (Q := Q) hf hE
  have k0 : s1.2.2.2.1 (m + 37) = 0 := hfr (by omega) (by omega) (by simp [mL140, mR1, mR2, mR3] <;> omega)
  refine bl_go oX11_init 80 [149] rfl ?_
  refine ⟨m + 37, k0, (by decide), (by decide +kernel), (by decide), (by decide +kernel), (bl_mk_Kne (by omega)).trans h.2.1, Or.inl ⟨rfl, Or.inl ⟨_, rfl⟩⟩, (fun h => by cases h), ?_⟩
  exact bl_WP_bud (b' := (48908, 1616526)) (by decide +kernel) (by decide +kernel) (hnx _ (h.row (k := 37) (kd := 20) (n := 2304) (by omega) (by omega) (by decide +kernel) k0 (by simp [mL140, mR1, mR2, mR3])))
theorem mini_131 (hf : ∀ y, m < y → y < m + 49763 → s.2.2.2.1 y = 0) (hE : ∀ s1, mIn s s1 m (mL289 m) → bl_WP G l d mX11_init 289 [(0, .ref m)] [] s1 (0, 0) Q) : ∀ s1, mIn s s1 m (mL131 m) → bl_WP G l d mX11_init 131 [(0, .ref m)] [] s1 (48910, 1621134) Q := by
  intro s1 h
  have hfr := @mIn.fr m s s1 _ h hf
  have hnx := mini_140 (G := G) (l := l) (d := d) (m := m) (s := s) (Q := Q) hf hE
  have k0 : s1.2.2.2.1 (m + 36) = 0 := hfr (by omega) (by omega) (by simp [mL131, mR1, mR2, mR3] <;> omega)
  refine bl_go oX11_init 80 [140] rfl ?_
  refine ⟨m + 36, k0, (by decide), (by decide +kernel), (by decide), (by decide +kernel), (bl_mk_Kne (by omega)).trans h.2.1, Or.inl ⟨rfl, Or.inl ⟨_, rfl⟩⟩, (fun h => by cases h), ?_⟩
  exact bl_WP_bud (b' := (48909, 1618830)) (by decide +kernel) (by decide +kernel) (hnx _ (h.row (k := 36) (kd := 21) (n := 2304) (by omega) (by omega) (by decide +kernel) k0 (by simp [mL131, mR1, mR2, mR3])))
theorem mini_122 (hf : ∀ y, m < y → y < m + 49763 → s.2.2.2.1 y = 0) (hE : ∀ s1, mIn s s1 m (mL289 m) → bl_WP G l d mX11_init 289 [(0, .ref m)] [] s1 (0, 0) Q) : ∀ s1, mIn s s1 m (mL122 m) → bl_WP G l d mX11_init 122 [(0, .ref m)] [] s1 (48911, 1623438) Q := by
  intro s1 h
  have hfr := @mIn.fr m s s1 _ h hf
  have hnx := mini_131 (G := G) (l := l) (d := d) (m := m) (s := s) (Q := Q) hf hE
  have k0 : s1.2.2.2.1 (m + 35) = 0 := hfr (by omega) (by omega) (by simp [mL122, mR1, mR2, mR3] <;> omega)
  refine bl_go oX11_init 80 [131] rfl ?_
  refine ⟨m + 35, k0, (by decide), (by decide +kernel), (by decide), (by decide +kernel), (bl_mk_Kne (by omega)).trans h.2.1, Or.inl ⟨rfl, Or.inl ⟨_, rfl⟩⟩, (fun h => by cases h), ?_⟩
  exact bl_WP_bud (b' := (48910, 1621134)) (by decide +kernel) (by decide +kernel) (hnx _ (h.row (k := 35) (kd := 21) (n := 2304) (by omega) (by omega) (by decide +kernel) k0 (by simp [mL122, mR1, mR2, mR3])))
theorem mini_113 (hf : ∀ y, m < y → y < m + 49763 → s.2.2.2.1 y = 0) (hE : ∀ s1, mIn s s1 m (mL289 m) → bl_WP G l d mX11_init 289 [(0, .ref m)] [] s1 (0, 0) Q) : ∀ s1, mIn s s1 m (mL113 m) → bl_WP G l d mX11_init 113 [(0, .ref m)] [] s1 (48912, 1625742) Q := by
  intro s1 h
  have hfr := @mIn.fr m s s1 _ h hf
  have hnx := mini_122 (G := G) (l := l) (d := d) (m := m) (s := s) (Q := Q) hf hE
  have k0 : s1.2.2.2.1 (m + 34) = 0 := hfr (by omega) (by omega) (by simp [mL113, mR1, mR2, mR3] <;> omega)
  refine bl_go oX11_init 80 [122] rfl ?_
  refine ⟨m + 34, k0, (by decide), (by decide +kernel), (by decide), (by decide +kernel), (bl_mk_Kne (by omega)).trans h.2.1, Or.inl ⟨rfl, Or.inl ⟨_, rfl⟩⟩, (fun h => by cases h), ?_⟩
  exact bl_WP_bud (b' := (48911, 1623438)) (by decide +kernel) (by decide +kernel) (hnx _ (h.row (k := 34) (kd := 21) (n := 2304) (by omega) (by omega) (by decide +kernel) k0 (by simp [mL113, mR1, mR2, mR3])))
theorem mini_104 (hf : ∀ y, m < y → y < m + 49763 → s.2.2.2.1 y = 0) (hE : ∀ s1, mIn s s1 m (mL289 m) → bl_WP G l d mX11_init 289 [(0, .ref m)] [] s1 (0, 0) Q) : ∀ s1, mIn s s1 m (mL104 m) → bl_WP G l d mX11_init 104 [(0, .ref m)] [] s1 (48913, 1628046) Q := by
  intro s1 h
  have hfr := @mIn.fr m s s1 _ h hf
  have hnx := mini_113 (G := G) (l := l) (d := d) (m := m) (s := s) (Q := Q) hf hE
  have k0 : s1.2.2.2.1 (m + 33) = 0 := hfr (by omega) (by omega) (by simp [mL104, mR1, mR2, mR3] <;> omega)
  refine bl_go oX11_init 80 [113] rfl ?_
  refine ⟨m + 33, k0, (by decide), (by decide +kernel), (by decide), (by decide +kernel), (bl_mk_Kne (by omega)).trans h.2.1, Or.inl ⟨rfl, Or.inl ⟨_, rfl⟩⟩, (fun h => by cases h), ?_⟩
  exact bl_WP_bud (b' := (48912, 1625742)) (by decide +kernel) (by decide +kernel) (hnx _ (h.row (k := 33) (kd := 21) (n := 2304) (by omega) (by omega) (by decide +kernel) k0 (by simp [mL104, mR1, mR2, mR3])))
theorem mini_95 (hf : ∀ y, m < y → y < m + 49763 → s.2.2.2.1 y = 0) (hE : ∀ s1, mIn s s1 m (mL289 m) → bl_WP G l d mX11_init 289 [(0, .ref m)] [] s1 (0, 0) Q) : ∀ s1, mIn s s1 m (mL95 m) → bl_WP G l d mX11_init 95 [(0, .ref m)] [] s1 (48914, 1630350) Q := by
  intro s1 h
  have hfr := @mIn.fr m s s1 _ h hf
  have hnx := mini_104 (G := G) (l := l) (d := d) (m := m) (s := s) (Q := Q) hf hE
  have k0 : s1.2.2.2.1 (m + 32) = 0 := hfr (by omega) (by omega) (by simp [mL95, mR1, mR2, mR3] <;> omega)
  refine bl_go oX11_init 80 [104] rfl ?_
  refine ⟨m + 32, k0, (by decide), (by decide +kernel), (by decide), (by decide +kernel), (bl_mk_Kne (by omega)).trans h.2.1, Or.inl ⟨rfl, Or.inl ⟨_, rfl⟩⟩, (fun h => by cases h), ?_⟩
  exact bl_WP_bud (b' := (48913, 1628046)) (by decide +kernel) (by decide +kernel) (hnx _ (h.row (k := 32) (kd := 21) (n := 2304) (by omega) (by omega) (by decide +kernel) k0 (by simp [mL95, mR1, mR2, mR3])))
theorem mini_86 (hf : ∀ y, m < y → y < m + 49763 → s.2.2.2.1 y = 0) (hE : ∀ s1, mIn s s1 m (mL289 m) → bl_WP G l d mX11_init 289 [(0, .ref m)] [] s1 (0, 0) Q) : ∀ s1, mIn s s1 m (mL86 m) → bl_WP G l d mX11_init 86 [(0, .ref m)] [] s1 (48915, 1632654) Q := by
  intro s1 h
  have hfr := @mIn.fr m s s1 _ h hf
  have hnx := mini_95 (G := G) (l := l) (d := d) (m := m) (s := s) (Q := Q) hf hE
  have k0 : s1.2.2.2.1 (m + 31) = 0 := hfr (by omega) (by omega) (by simp [mL86, mR1, mR2, mR3] <;> omega)
  refine bl_go oX11_init 80 [95] rfl ?_
  refine ⟨m + 31, k0, (by decide), (by decide +kernel), (by decide), (by decide +kernel), (bl_mk_Kne (by omega)).trans h.2.1, Or.inl ⟨rfl, Or.inl ⟨_, rfl⟩⟩, (fun h => by cases h), ?_⟩
  exact bl_WP_bud (b' := (48914, 1630350)) (by decide +kernel) (by decide +kernel) (hnx _ (h.row (k := 31) (kd := 21) (n := 2304) (by omega) (by omega) (by decide +kernel) k0 (by simp [mL86, mR1, mR2, mR3])))
theorem mini_76 (hf : ∀ y, m < y → y < m + 49763 → s.2.2.2.1 y = 0) (hE : ∀ s1, mIn s s1 m (mL289 m) → bl_WP G l d mX11_init 289 [(0, .ref m)] [] s1 (0, 0) Q) : ∀ s1, mIn s s1 m (mL76 m) → bl_WP G l d mX11_init 76 [(0, .ref m)] [] s1 (48919, 1632663) Q := by
  intro s1 h
  have hfr := @mIn.fr m s s1 _ h hf
  have hnx := mini_86 (G := G) (l := l) (d := d) (m := m) (s := s) (Q := Q) hf hE
  have k0 : s1.2.2.2.1 (m + 19) = 0 := hfr (by omega) (by omega) (by simp [mL76, mR1, mR2, mR3] <;> omega)
  refine bl_go oX11_init 80 [86] rfl ?_
  have k1 : ∀ y, m + 110 ≤ y → y < m + 110 + 3 → s1.2.2.2.1 y = 0 := fun y y1 y2 => hfr (by omega) (by omega) (by simp [mL76, mR1, mR2, mR3] <;> omega)
  refine ⟨m + 19, m + 110, (by decide +kernel), ⟨Or.inl (by omega), k0, fun y y1 y2 => k1 y y1 (Nat.lt_of_lt_of_eq y2 (congrArg (fun t => m + 110 + t) (show _ = 3 from by decide +kernel)))⟩, (by decide +kernel), ((eqF_mk2 m (by omega)).2.2.2.1).trans h.2.1, Or.inl ⟨rfl, Or.inl ⟨_, rfl⟩⟩, (fun h => by cases h), ?_⟩
  exact bl_WP_bud (b' := (48915, 1632654)) (by decide +kernel) (by decide +kernel) (hnx _ (h.row2 (by omega) (by omega) (by decide +kernel) (by decide +kernel) k0 k1 (by simp [mL76, mR1, mR2, mR3])))
theorem mini_65 (hf : ∀ y, m < y → y < m + 49763 → s.2.2.2.1 y = 0) (hE : ∀ s1, mIn s s1 m (mL289 m) → bl_WP G l d mX11_init 289 [(0, .ref m)] [] s1 (0, 0) Q) : ∀ s1, mIn s s1 m (mL65 m) → bl_WP G l d mX11_init 65 [(0, .ref m)] [] s1 (48924, 1632827) Q := by
  intro s1 h
  have hfr := @mIn.fr m s s1 _ h hf
  have hnx := mini_76 (G := G) (l := l) (d := d) (m := m) (s := s) (Q := Q) hf hE
  have k0 : s1.2.2.2.1 (m + 18) = 0 := hfr (by omega) (by omega) (by simp [mL65, mR1, mR2, mR3] <;> omega)
  refine bl_go oX11_init 80 [76] rfl ?_
  have k1 : ∀ y, m + 100 ≤ y → y < m + 100 + 4 → s1.2.2.2.1 y = 0 := fun y y1 y2 => hfr (by omega) (by omega) (by simp [mL65, mR1, mR2, mR3] <;> omega)
  refine ⟨m + 18, m + 100, (by decide +kernel), ⟨Or.inl (by omega), k0, fun y y1 y2 => k1 y y1 (Nat.lt_of_lt_of_eq y2 (congrArg (fun t => m + 100 + t) (show _ = 4 from by decide +kernel)))⟩, (by decide +kernel), ((eqF_mk2 m (by omega)).2.2.2.1).trans h.2.1, Or.inl ⟨rfl, Or.inl ⟨_, rfl⟩⟩, (fun h => by cases h), ?_⟩
  exact bl_WP_bud (b' := (48919, 1632663)) (by decide +kernel) (by decide +kernel) (hnx _ (h.row2 (by omega) (by omega) (by decide +kernel) (by decide +kernel) k0 k1 (by simp [mL65, mR1, mR2, mR3])))
theorem mini_57 (hf : ∀ y, m < y → y < m + 49763 → s.2.2.2.1 y = 0) (hE : ∀ s1, mIn s s1 m (mL289 m) → bl_WP G l d mX11_init 289 [(0, .ref m)] [] s1 (0, 0) Q) : ∀ s1, mIn s s1 m (mL57 m) → bl_WP G l d mX11_init 57 [(0, .ref m)] [] s1 (48925, 1632867) Q := by
  intro s1 h
  have hfr := @mIn.fr m s s1 _ h hf
  have hnx := mini_65 (G := G) (l := l) (d := d) (m := m) (s := s) (Q := Q) hf hE
  have k0 : s1.2.2.2.1 (m + 17) = 0 := hfr (by omega) (by omega) (by simp [mL57, mR1, mR2, mR3] <;> omega)
  refine bl_go oX11_init 80 [65] rfl ?_
  refine ⟨m + 17, k0, (by decide), (by decide +kernel), (by decide), (by decide +kernel), (bl_mk_Kne (by omega)).trans h.2.1, Or.inl ⟨rfl, Or.inl ⟨_, rfl⟩⟩, (fun h => by cases h), ?_⟩
  exact bl_WP_bud (b' := (48924, 1632827)) (by decide +kernel) (by decide +kernel) (hnx _ (h.row (k := 17) (kd := 20) (n := 40) (by omega) (by omega) (by decide +kernel) k0 (by simp [mL57, mR1, mR2, mR3])))
theorem mini_50 (hf : ∀ y, m < y → y < m + 49763 → s.2.2.2.1 y = 0) (hE : ∀ s1, mIn s s1 m (mL289 m) → bl_WP G l d mX11_init 289 [(0, .ref m)] [] s1 (0, 0) Q) : ∀ s1, mIn s s1 m (mL50 m) → bl_WP G l d mX11_init 50 [(0, .ref m)] [] s1 (48926, 1632871) Q := by
  intro s1 h
  have hfr := @mIn.fr m s s1 _ h hf
  have hnx := mini_57 (G := G) (l := l) (d := d) (m := m) (s := s) (Q := Q) hf hE
  have k0 : s1.2.2.2.1 (m + 16) = 0 := hfr (by omega) (by omega) (by simp [mL50, mR1, mR2, mR3] <;> omega)
  refine bl_go oX11_init 80 [57] rfl ?_
  refine ⟨m + 16, k0, (by decide), (by decide +kernel), (by decide), (by decide +kernel), (bl_mk_Kne (by omega)).trans h.2.1, Or.inl ⟨rfl, Or.inl ⟨_, rfl⟩⟩, (fun h => by cases h), ?_⟩
  exact bl_WP_bud (b' := (48925, 1632867)) (by decide +kernel) (by decide +kernel) (hnx _ (h.row (k := 16) (kd := 20) (n := 4) (by omega) (by omega) (by decide +kernel) k0 (by simp [mL50, mR1, mR2, mR3])))
theorem mini_42 (hf : ∀ y, m < y → y < m + 49763 → s.2.2.2.1 y = 0) (hE : ∀ s1, mIn s s1 m (mL289 m) → bl_WP G l d mX11_init 289 [(0, .ref m)] [] s1 (0, 0) Q) : ∀ s1, mIn s s1 m (mL42 m) → bl_WP G l d mX11_init 42 [(0, .ref m)] [] s1 (48927, 1632895) Q := by
  intro s1 h
  have hfr := @mIn.fr m s s1 _ h hf
  have hnx := mini_50 (G := G) (l := l) (d := d) (m := m) (s := s) (Q := Q) hf hE
  have k0 : s1.2.2.2.1 (m + 12) = 0 := hfr (by omega) (by omega) (by simp [mL42, mR1, mR2, mR3] <;> omega)
  refine bl_go oX11_init 80 [50] rfl ?_
  refine ⟨m + 12, k0, (by decide), (by decide +kernel), (by decide), (by decide +kernel), (bl_mk_Kne (by omega)).trans h.2.1, Or.inl ⟨rfl, Or.inl ⟨_, rfl⟩⟩, (fun h => by cases h), ?_⟩
  exact bl_WP_bud (b' := (48926, 1632871)) (by decide +kernel) (by decide +kernel) (hnx _ (h.row (k := 12) (kd := 20) (n := 24) (by omega) (by omega) (by decide +kernel) k0 (by simp [mL42, mR1, mR2, mR3])))
theorem mini_34 (hf : ∀ y, m < y → y < m + 49763 → s.2.2.2.1 y = 0) (hE : ∀ s1, mIn s s1 m (mL289 m) → bl_WP G l d mX11_init 289 [(0, .ref m)] [] s1 (0, 0) Q) : ∀ s1, mIn s s1 m (mL34 m) → bl_WP G l d mX11_init 34 [(0, .ref m)] [] s1 (48928, 1632919) Q := by
  intro s1 h
  have hfr := @mIn.fr m s s1 _ h hf
  have hnx := mini_42 (G := G) (l := l) (d := d) (m := m) (s := s) (Q := Q) hf hE
  have k0 : s1.2.2.2.1 (m + 11) = 0 := hfr (by omega) (by omega) (by simp [mL34, mR1, mR2, mR3] <;> omega)
  refine bl_go oX11_init 80 [42] rfl ?_
  refine ⟨m + 11, k0, (by decide), (by decide +kernel), (by decide), (by decide +kernel), (bl_mk_Kne (by omega)).trans h.2.1, Or.inl ⟨rfl, Or.inl ⟨_, rfl⟩⟩, (fun h => by cases h), ?_⟩
  exact bl_WP_bud (b' := (48927, 1632895)) (by decide +kernel) (by decide +kernel) (hnx _ (h.row (k := 11) (kd := 20) (n := 24) (by omega) (by omega) (by decide +kernel) k0 (by simp [mL34, mR1, mR2, mR3])))
theorem mini_26 (hf : ∀ y, m < y → y < m + 49763 → s.2.2.2.1 y = 0) (hE : ∀ s1, mIn s s1 m (mL289 m) → bl_WP G l d mX11_init 289 [(0, .ref m)] [] s1 (0, 0) Q) : ∀ s1, mIn s s1 m (mL26 m) → bl_WP G l d mX11_init 26 [(0, .ref m)] [] s1 (48929, 1632928) Q := by
  intro s1 h
  have hfr := @mIn.fr m s s1 _ h hf
  have hnx := mini_34 (G := G) (l := l) (d := d) (m := m) (s := s) (Q := Q) hf hE
  have k0 : s1.2.2.2.1 (m + 10) = 0 := hfr (by omega) (by omega) (by simp [mL26, mR1, mR2, mR3] <;> omega)
  refine bl_go oX11_init 80 [34] rfl ?_
  refine ⟨m + 10, k0, (by decide), (by decide +kernel), (by decide), (by decide +kernel), (bl_mk_Kne (by omega)).trans h.2.1, Or.inl ⟨rfl, Or.inl ⟨_, rfl⟩⟩, (fun h => by cases h), ?_⟩
  exact bl_WP_bud (b' := (48928, 1632919)) (by decide +kernel) (by decide +kernel) (hnx _ (h.row (k := 10) (kd := 20) (n := 9) (by omega) (by omega) (by decide +kernel) k0 (by simp [mL26, mR1, mR2, mR3])))
theorem mini_18 (hf : ∀ y, m < y → y < m + 49763 → s.2.2.2.1 y = 0) (hE : ∀ s1, mIn s s1 m (mL289 m) → bl_WP G l d mX11_init 289 [(0, .ref m)] [] s1 (0, 0) Q) : ∀ s1, mIn s s1 m (mL18 m) → bl_WP G l d mX11_init 18 [(0, .ref m)] [] s1 (48930, 1632937) Q := by
  intro s1 h
  have hfr := @mIn.fr m s s1 _ h hf
  have hnx := mini_26 (G := G) (l := l) (d := d) (m := m) (s := s) (Q := Q) hf hE
  have k0 : s1.2.2.2.1 (m + 9) = 0 := hfr (by omega) (by omega) (by simp [mL18, mR1, mR2, mR3] <;> omega)
  refine bl_go oX11_init 80 [26] rfl ?_
  refine ⟨m + 9, k0, (by decide), (by decide +kernel), (by decide), (by decide +kernel), (bl_mk_Kne (by omega)).trans h.2.1, Or.inl ⟨rfl, Or.inl ⟨_, rfl⟩⟩, (fun h => by cases h), ?_⟩
  exact bl_WP_bud (b' := (48929, 1632928)) (by decide +kernel) (by decide +kernel) (hnx _ (h.row (k := 9) (kd := 20) (n := 9) (by omega) (by omega) (by decide +kernel) k0 (by simp [mL18, mR1, mR2, mR3])))
theorem mini_9 (hf : ∀ y, m < y → y < m + 49763 → s.2.2.2.1 y = 0) (hE : ∀ s1, mIn s s1 m (mL289 m) → bl_WP G l d mX11_init 289 [(0, .ref m)] [] s1 (0, 0) Q) : ∀ s1, mIn s s1 m (mL9 m) → bl_WP G l d mX11_init 9 [(0, .ref m)] [] s1 (48931, 1633337) Q := by
  intro s1 h
  have hfr := @mIn.fr m s s1 _ h hf
  have hnx := mini_18 (G := G) (l := l) (d := d) (m := m) (s := s) (Q := Q) hf hE
  have k0 : s1.2.2.2.1 (m + 8) = 0 := hfr (by omega) (by omega) (by simp [mL9, mR1, mR2, mR3] <;> omega)
  refine bl_go oX11_init 80 [18] rfl ?_
  refine ⟨m + 8, k0, (by decide), (by decide +kernel), (by decide), (by decide +kernel), (bl_mk_Kne (by omega)).trans h.2.1, Or.inl ⟨rfl, Or.inl ⟨_, rfl⟩⟩, (fun h => by cases h), ?_⟩
  exact bl_WP_bud (b' := (48930, 1632937)) (by decide +kernel) (by decide +kernel) (hnx _ (h.row (k := 8) (kd := 20) (n := 400) (by omega) (by omega) (by decide +kernel) k0 (by simp [mL9, mR1, mR2, mR3])))
end MINI
