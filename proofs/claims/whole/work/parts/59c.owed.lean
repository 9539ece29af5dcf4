/-! ===== rows of rows, String.length, String.charAt: the steps ===== -/
/-- n rows of k ints, named r0, r0 + 1 .., under a row of rows named o -/
def bl_mk2 (σ : bl_Mem) (o r0 n k : Nat) : bl_Mem :=
  (fun x j => if x = o ∨ (r0 ≤ x ∧ x < r0 + n) then 0 else σ.1 x j, fun x j => if x = o ∨ (r0 ≤ x ∧ x < r0 + n) then 0 else σ.2.1 x j,
   fun x j => if x = o then (if j < n then some (r0 + j) else none) else if r0 ≤ x ∧ x < r0 + n then none else σ.2.2.1 x j,
   fun x => if x = o then 25 else if r0 ≤ x ∧ x < r0 + n then 20 else σ.2.2.2.1 x, fun x => if x = o then n else if r0 ≤ x ∧ x < r0 + n then k else σ.2.2.2.2 x)
/-- the same one dimension more: rows of rows named m0 .., rows named r0 .. -/
def bl_mk3 (σ : bl_Mem) (o m0 r0 n k h : Nat) : bl_Mem :=
  (fun x j => if x = o ∨ (m0 ≤ x ∧ x < m0 + n) ∨ (r0 ≤ x ∧ x < r0 + n * k) then 0 else σ.1 x j, fun x j => if x = o ∨ (m0 ≤ x ∧ x < m0 + n) ∨ (r0 ≤ x ∧ x < r0 + n * k) then 0 else σ.2.1 x j,
   fun x j => if x = o then (if j < n then some (m0 + j) else none) else if m0 ≤ x ∧ x < m0 + n then (if j < k then some (r0 + (x - m0) * k + j) else none) else if r0 ≤ x ∧ x < r0 + n * k then none else σ.2.2.1 x j,
   fun x => if x = o then 26 else if m0 ≤ x ∧ x < m0 + n then 25 else if r0 ≤ x ∧ x < r0 + n * k then 20 else σ.2.2.2.1 x, fun x => if x = o then n else if m0 ≤ x ∧ x < m0 + n then k else if r0 ≤ x ∧ x < r0 + n * k then h else σ.2.2.2.2 x)
section BLW
variable {G : bl_G} {l : Launch} {d : Nat} {M : bl_MR} {pc : Nat} {lv : List (Nat × Value)} {st : List Value} {σ : bl_Mem} {b : Nat × Nat} {Q : bl_Out → bl_Mem → Prop}
theorem bl_s_mna2 {idx : Nat} {k n : Int32} {o r0 : Nat} (hd : decode M.2.1 pc = .ok (.multianewarray idx 2, 4)) (w1 : Cond.arrayClass .int ∈ bl_gw) (w2 : Cond.classLink M.1.cls idx "[[I" ∈ bl_gw) (hn : (¬ n < 0 ∧ n.toNatClampNeg ≤ 1000) ∧ (¬ k < 0 ∧ k.toNatClampNeg ≤ 1000)) (hf : (o < r0 ∨ r0 + n.toNatClampNeg ≤ o) ∧ σ.2.2.2.1 o = 0 ∧ ∀ x, r0 ≤ x → x < r0 + n.toNatClampNeg → σ.2.2.2.1 x = 0) (hb : 1 + n.toNatClampNeg ≤ b.1 ∧ n.toNatClampNeg + n.toNatClampNeg * k.toNatClampNeg ≤ b.2) (h : bl_WP G l d M (pc + 4) lv (.ref o :: st) (bl_mk2 σ o r0 n.toNatClampNeg k.toNatClampNeg) (b.1 - (1 + n.toNatClampNeg), b.2 - (n.toNatClampNeg + n.toNatClampNeg * k.toNatClampNeg)) Q) : bl_WP G l d M pc lv (.int k :: .int n :: st) σ b Q := by
  sorry
theorem bl_s_mna3 {idx : Nat} {h k n : Int32} {o m0 r0 : Nat} (hd : decode M.2.1 pc = .ok (.multianewarray idx 3, 4)) (w1 : Cond.arrayClass .int ∈ bl_gw) (w2 : Cond.classLink M.1.cls idx "[[[I" ∈ bl_gw) (hn : (¬ n < 0 ∧ n.toNatClampNeg ≤ 1000) ∧ (¬ k < 0 ∧ k.toNatClampNeg ≤ 1000) ∧ (¬ h < 0 ∧ h.toNatClampNeg ≤ 1000)) (hf : (o < m0 ∧ m0 + n.toNatClampNeg ≤ r0) ∧ σ.2.2.2.1 o = 0 ∧ (∀ x, m0 ≤ x → x < m0 + n.toNatClampNeg → σ.2.2.2.1 x = 0) ∧ ∀ x, r0 ≤ x → x < r0 + n.toNatClampNeg * k.toNatClampNeg → σ.2.2.2.1 x = 0) (hb : 1 + n.toNatClampNeg + n.toNatClampNeg * k.toNatClampNeg ≤ b.1 ∧ n.toNatClampNeg + n.toNatClampNeg * k.toNatClampNeg + n.toNatClampNeg * k.toNatClampNeg * h.toNatClampNeg ≤ b.2) (hK : bl_WP G l d M (pc + 4) lv (.ref o :: st) (bl_mk3 σ o m0 r0 n.toNatClampNeg k.toNatClampNeg h.toNatClampNeg) (b.1 - (1 + n.toNatClampNeg + n.toNatClampNeg * k.toNatClampNeg), b.2 - (n.toNatClampNeg + n.toNatClampNeg * k.toNatClampNeg + n.toNatClampNeg * k.toNatClampNeg * h.toNatClampNeg)) Q) : bl_WP G l d M pc lv (.int h :: .int k :: .int n :: st) σ b Q := by
  sorry
theorem bl_s_strlen {idx a j : Nat} {q : List Int32} (hd : decode M.2.1 pc = .ok (.invokevirtual idx, 3)) (w : Cond.methodLink M.1.cls idx ⟨"java/lang/String", "length", "()I"⟩ ∈ bl_gw) (hj : bl_byt[j]? = some q) (hK : σ.2.2.2.1 a = 110 + j) (hrs : (st.map fun v => v.category).sum ≤ 8) (h : bl_WP G l d M (pc + 3) lv (.int (Int32.ofNat q.length) :: st) σ b Q) : bl_WP G l d M pc lv (.ref a :: st) σ b Q := by
  sorry
theorem bl_s_charAt {idx a j : Nat} {q : List Int32} {x : Int32} (hd : decode M.2.1 pc = .ok (.invokevirtual idx, 3)) (w : Cond.methodLink M.1.cls idx ⟨"java/lang/String", "charAt", "(I)C"⟩ ∈ bl_gw) (hj : bl_byt[j]? = some q) (hK : σ.2.2.2.1 a = 110 + j) (hx : vp_in x q.length) (hrs : (st.map fun v => v.category).sum ≤ 8) (h : bl_WP G l d M (pc + 3) lv (.int (q.getD x.toNatClampNeg 0) :: st) σ b Q) : bl_WP G l d M pc lv (.int x :: .ref a :: st) σ b Q := by
  sorry
end BLW
