/-! the shifts by whole bytes -/
theorem sh_0 (z : Nat) : 8 * (nI z - 1) = nI (8 * z) - 8 := by
  rw [Int32.mul_sub, ← pk_mul]
  rfl
theorem sh_s (k : Nat) : nI (8 * (k + 1)) - 8 = nI (8 * k) := by
  rw [show 8 * (k + 1) = 8 * k + 8 by omega, ← nI_add, show nI 8 = 8 from rfl, Int32.add_sub_cancel]
theorem sh_d (k : Nat) : (nI (8 * (k + 1)) - 8) + Int32.ofInt (-8) = nI (8 * k) - 8 := by
  rw [sh_s, Int32.sub_eq_add_neg]
  rfl
theorem sh_neg : ∀ n : Nat, n ≤ 8 → (nI (8 * n) - 8 < 0 ↔ n = 0) := by decide +kernel
abbrev TS : Type := (Nat → Int32) × (Nat → Int32) × (Nat → Int32)
theorem x_ci {D : va_G} {cl : List vw_C} {tys : List (ClassId × FieldType)} {s : State} (hK : va_K D cl tys s) {a b : ClassId} (i j : Nat) (hi : tys[i]? = some (a, .int)) (hj : tys[j]? = some (b, .int)) : a = b := by
  have h1 : s.vm.findClass ("[" ++ FieldType.int.toString) = some a := (hK.2 i _ hi).2
  have h2 : s.vm.findClass ("[" ++ FieldType.int.toString) = some b := (hK.2 j _ hj).2
  exact Option.some.inj (h1.symm.trans h2)
