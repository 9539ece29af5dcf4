/-! ===== Bench: marks ===== -/
/-- marks below those counts keep what is not so good away -/
def bnV (I : Nat → Nat → Int32) (q : Nat) (D : bD) (T n B : Nat) : Prop := ∀ k s, k + n < T → bOk D k s → bSm D k s → prt D s.1 D.1 < 256 → ∀ i, i < 2 → ∀ c, c < 2147483648 → I (q + 10) (prt D s.1 D.1) = nI c → i < c → (∀ r, r < D.1 → I (q + 9) ((prt D s.1 D.1 * 2 + i) * 4 + r) ≤ nI (cgo D s r)) → B ≤ mnb D k s
def bnC (I : Nat → Nat → Int32) (q c : Nat) : Prop := ∀ p, p < 256 → ∃ x, I (q + 10) p = nI x ∧ x ≤ c
/-- I' has, beside the marks of I, at most one more, at p, of the state s -/
def bnU (I I' : Nat → Nat → Int32) (q : Nat) (D : bD) (s : bs) : Prop := ∀ p, p < 256 → ∀ i, i < 2 → ∀ c', c' < 2147483648 → I' (q + 10) p = nI c' → i < c' → (p = prt D s.1 D.1 ∧ ∀ r, r < D.1 → I' (q + 9) ((p * 2 + i) * 4 + r) = nI (cgo D s r)) ∨ (∃ c, c < 2147483648 ∧ I (q + 10) p = nI c ∧ i < c ∧ ∀ r, r < D.1 → I' (q + 9) ((p * 2 + i) * 4 + r) = I (q + 9) ((p * 2 + i) * 4 + r))
/-- marks of what is done of n blocks or fewer are as they were -/
def bnK (I I' : Nat → Nat → Int32) (q : Nat) (D : bD) (T n : Nat) : Prop := ∀ k s, T ≤ k + n → bOk D k s → prt D s.1 D.1 < 256 → I' (q + 10) (prt D s.1 D.1) = I (q + 10) (prt D s.1 D.1) ∧ ∀ i, i < 2 → ∀ r, r < D.1 → I' (q + 9) ((prt D s.1 D.1 * 2 + i) * 4 + r) = I (q + 9) ((prt D s.1 D.1 * 2 + i) * 4 + r)
section BENCH2
variable {G : bl_G} {l : Launch} {d q T k : Nat} {I : Nat → Nat → Int32} {J : Nat → Nat → Int64} {R : Nat → Nat → Option Nat} {K N : Nat → Nat} {D : bD} {s : bs}
theorem prt_le (hk : ∀ r, r < D.1 → s.1 r ≤ D.2.1 r ∧ D.2.1 r ≤ 20) : ∀ n, n ≤ D.1 → n ≤ 4 → prt D s.1 n ≤ 21 ^ n
  | 0, _, _ => Nat.zero_le _
  | n + 1, h, h4 => by
    have a := prt_le hk n (by omega) (by omega)
    obtain ⟨b, c⟩ := hk n (by omega)
    have e := Nat.mul_le_mul a (show D.2.1 n + 1 ≤ 21 by omega)
    have f := prt_le hk n (by omega) (by omega)
    show prt D s.1 n * (D.2.1 n + 1) + s.1 n ≤ 21 ^ n * 21
    sorry
theorem c_Bench_outdone {c : Nat} {y : Int32} (hq : bnS R K N q) (hD : bnD I q D T) (hT : bnT I q D s) (hk : bOk D k s) (hs : bSm D k s) (hy : y = nI s.2.2) (hc : bnC I q c) (hcb : c < 2000000000) : bl_MC G l (d + 2) mX0_outdone [.ref q, .int y] (I, J, R, K, N) (0, 0) (fun o σ' => (∃ i x, o = .inl (some (.int 1)) ∧ σ' = (I, J, R, K, N) ∧ prt D s.1 D.1 < 256 ∧ i < 2 ∧ x < 2147483648 ∧ I (q + 10) (prt D s.1 D.1) = nI x ∧ i < x ∧ ∀ r, r < D.1 → I (q + 9) ((prt D s.1 D.1 * 2 + i) * 4 + r) ≤ nI (cgo D s r)) ∨ (∃ I', o = .inl (some (.int 0)) ∧ σ' = (I', J, R, K, N) ∧ (∀ x, x ≠ q + 9 → x ≠ q + 10 → I' x = I x) ∧ bnC I' q (c + 1) ∧ bnU I I' q D s ∧ (∀ p, p < 256 → p ≠ prt D s.1 D.1 → I' (q + 10) p = I (q + 10) p ∧ ∀ i, i < 2 → ∀ r, r < 4 → I' (q + 9) ((p * 2 + i) * 4 + r) = I (q + 9) ((p * 2 + i) * 4 + r)))) := by
  have hq' := hq
  obtain ⟨hq0, kq, ⟨rq_0, rq_1, rq_2, rq_3, rq_4, rq_5, rq_6, rq_7, rq_8, rq_9, rq_10, rq_11⟩, ⟨kq1, kq2, kq3, kq4, kq5, kq6, kq7, kq8, kq9, kq10, kq11, kq12⟩, ⟨nq1, nq2, nq3, nq4, nq5, nq6, nq7, nq8, nq9, nq10, nq11, nq12⟩⟩ := hq
  have h4 := hD.2.1
  have h12 := hD.1
  subst hy
  refine bl_MC_intro (by decide +kernel) rfl (Nat.le_of_ble_eq_true rfl) ?_
  sorry
end BENCH2
