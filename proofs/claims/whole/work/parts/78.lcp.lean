/-! a script's word: which case it is -/
theorem x_a31 (x : Int32) : ∃ q : Nat, q ≤ 31 ∧ x &&& 31 = nI q := by
  obtain ⟨j, hj, e⟩ := pk_andE x (m := 31) 5 (by decide)
  exact ⟨j, by omega, e⟩
theorem x_rng {j : Int32} {a N : Nat} (h0 : ¬ j < nI a) (h1 : ¬ nI N < j) (ha : a < 2 ^ 31) (hN : N < 2 ^ 31) : ∃ n : Nat, (a ≤ n ∧ n ≤ N) ∧ j = nI n := by
  rw [Int32.lt_iff_toInt_lt, nI_toInt ha] at h0
  rw [Int32.lt_iff_toInt_lt, nI_toInt hN] at h1
  refine ⟨j.toInt.toNat, ⟨by omega, by omega⟩, ?_⟩
  apply Int32.toInt_inj.mp
  rw [nI_toInt (by omega)]; omega
theorem x_le {j : Int32} {N : Nat} (h : ¬ (j < 0 ∨ ¬ j ≤ nI N)) (hN : N < 2 ^ 31) : ∃ n : Nat, n ≤ N ∧ j = nI n := by
  obtain ⟨n, h1, h2⟩ := x_rng (j := j) (a := 0) (N := N) (fun q => h (Or.inl q)) (fun q => h (Or.inr (by rw [Int32.not_le]; exact q))) (by decide) hN
  exact ⟨n, h1.2, h2⟩
theorem x_ltn {j : Int32} {N : Nat} (h : ¬ (j < 0 ∨ ¬ j < nI N)) (hN : N < 2 ^ 31) : ∃ n : Nat, n < N ∧ j = nI n := x_nat (fun q => h (Or.inl q)) (Classical.not_not.mp (fun q => h (Or.inr q))) hN
theorem lt_le {z : Int32} {N : Nat} (hN : N + 1 < 2 ^ 31) : z < nI (N + 1) ↔ z ≤ nI N := by
  rw [Int32.lt_iff_toInt_lt, Int32.le_iff_toInt_le, nI_toInt hN, nI_toInt (by omega)]; omega
theorem x_big {z : Int32} {N : Nat} (hN : N + 1 < 2 ^ 31) (h : z < 0 ∨ ¬ z < nI (N + 1)) : z < 0 ∨ ¬ z ≤ nI N := h.imp id (mt (lt_le hN).mpr)
theorem x_big' {z : Int32} {N : Nat} (hN : N + 1 < 2 ^ 31) (h : z < 0 ∨ ¬ z < nI (N + 1)) : z < 0 ∨ nI N < z := h.imp id (fun q => by rw [← Int32.not_le]; exact mt (lt_le hN).mpr q)
theorem lp_gt {L j : Nat} (hL : L ≤ 2048) (hj : 4 * j ≤ L) : nI L - 4 < nI (4 * j) ↔ ¬ 4 * j + 4 ≤ L := by
  rw [Int32.lt_iff_toInt_lt, show (4 : Int32) = nI 4 by decide, pk_sub_toInt (by omega) (by decide), nI_toInt (by omega)]; omega
