/-! the shifts by whole bytes -/
theorem sh_0 (z : Nat) : 8 * (nI z - 1) = nI (8 * z) - 8 := by
  rw [Int32.mul_sub, ← pk_mul]
  rfl
theorem sh_s (k : Nat) : nI (8 * (k + 1)) - 8 = nI (8 * k) := by
  rw [show 8 * (k + 1) = 8 * k + 8 by omega, ← nI_add, show nI 8 = 8 from rfl, Int32.add_sub_cancel]
theorem sh_d (k : Nat) : (nI (8 * (k + 1)) - 8) + Int32.ofInt (-8) = nI (8 * k) - 8 := by
  rw [sh_s, Int32.sub_eq_add_neg]
  rfl
theorem sh_neg : ∀ n : Nat, n ≤ 8 → (nI (8 * n) - 8 < 0 ↔ n = 0) := by decide +kernel
