/-! the text buffer as functions -/
def n_at (f : Nat → Int32) (j : Nat) : Nat := (f j).toNatClampNeg
def f_ok (f : Nat → Int32) (n m : Nat) : Prop := ∀ j, j < n → 0 ≤ f j ∧ f j ≤ nI m
def t_ok (t : TS) : Prop := f_ok t.1 40 65535 ∧ f_ok t.2.1 120 255 ∧ f_ok t.2.2 40 65535
theorem n_at_eq {f : Nat → Int32} {n m j : Nat} (h : f_ok f n m) (hj : j < n) : f j = nI (n_at f j) := nI_clampI (h j hj).1
theorem n_at_le {f : Nat → Int32} {n m j : Nat} (h : f_ok f n m) (hj : j < n) (hm : m < 2 ^ 31) : n_at f j ≤ m := by
  have h1 := (h j hj).2
  rw [n_at_eq h hj] at h1
  exact (nI_leI (clamp_lt _) hm).mp h1
theorem f_ok_upd {f : Nat → Int32} {n m k v : Nat} (h : f_ok f n m) (hv : v ≤ m) (hm : m < 2 ^ 31) : f_ok (upd f k (nI v)) n m := by
  intro j hj
  by_cases e : j = k
  · rw [e, pk_us]; exact ⟨nI_pos' (by omega), nI_le hv hm⟩
  · rw [pk_un e]; exact h j hj
def ksz (k : Nat) : Nat := if 1 ≤ k ∧ k ≤ 127 then 1 else if k ≤ 2047 then 2 else 3
theorem ksz_in (k : Nat) : 1 ≤ ksz k ∧ ksz k ≤ 3 := by
  unfold ksz
  split
  · omega
  · split <;> omega
def t_sum (f : Nat → Int32) : Nat → Nat
  | 0 => 0
  | i + 1 => t_sum f i + ksz (n_at f i)
theorem t_sum_le (f : Nat → Int32) (i : Nat) : t_sum f i ≤ 3 * i := by
  induction i with
  | zero => exact Nat.le_refl _
  | succ i ih => have := ksz_in (n_at f i); show t_sum f i + ksz (n_at f i) ≤ _; omega
def o_enc (o : OS) (k : Nat) : OS :=
  if ksz k = 1 then o_byte o (nI k) else if ksz k = 2 then o_byte (o_byte o (nI (192 + k / 64))) (nI (128 + k % 64))
  else o_byte (o_byte (o_byte o (nI (224 + k / 4096))) (nI (128 + k / 64 % 64))) (nI (128 + k % 64))
theorem o_enc_ok {o : OS} (h : o_ok o) (k : Nat) : o_ok (o_enc o k) := by
  unfold o_enc
  split
  · exact o_byte_ok h _
  · split
    · exact o_byte_ok (o_byte_ok h _) _
    · exact o_byte_ok (o_byte_ok (o_byte_ok h _) _) _
def o_encs (o : OS) (f : Nat → Int32) : Nat → OS
  | 0 => o
  | i + 1 => o_enc (o_encs o f i) (n_at f i)
theorem o_encs_ok {o : OS} (h : o_ok o) (f : Nat → Int32) (i : Nat) : o_ok (o_encs o f i) := by
  induction i with
  | zero => exact h
  | succ i ih => exact o_enc_ok ih _
def t_keep (t : TS) (j : Nat) (x : Int32) : TS := if j < 120 then (t.1, upd t.2.1 j x, t.2.2) else t
def szb (k : Nat) : Nat := if k < 128 then 1 else if k < 192 ∨ 239 < k then 0 else if k < 224 then 2 else 3
theorem szb_le (k : Nat) : szb k ≤ 3 := by
  unfold szb
  split
  · omega
  · split
    · omega
    · split <;> omega
def dc_go (f : Nat → Nat) (a : Nat) : Nat → Nat → Nat → Option Nat
  | 0, _, v => some v
  | r + 1, i, v => if f (a + i) < 128 ∨ 191 < f (a + i) then none else dc_go f a r (i + 1) (v * 64 + f (a + i) % 64)
def dc_0 (f : Nat → Nat) (a z : Nat) : Nat := if z ≤ 1 then f a else if z = 2 then f a % 2 ^ 5 else f a % 2 ^ 4
def dc (f : Nat → Nat) (a z : Nat) : Option Nat := dc_go f a (z - 1) 1 (dc_0 f a z)
def oI : Option Nat → Int32
  | none => -1
  | some v => nI v
def td (f : Nat → Nat) (z : Nat) : Nat → Nat → Nat → (Nat → Int32) → Int32 × (Nat → Int32)
  | 0, c, _, d => (nI c, d)
  | n + 1, c, a, d =>
    if z ≤ a then (nI c, d)
    else if szb (f a) = 0 ∨ z - a < szb (f a) ∨ 40 ≤ c then (-1, d)
    else match dc f a (szb (f a)) with
      | none => (-1, d)
      | some v => td f z n (c + 1) (a + szb (f a)) (upd d c (nI v))
def t_dec (t : TS) (z : Nat) : Int32 × (Nat → Int32) := if 120 < z then (-1, t.2.2) else td (n_at t.2.1) z (z + 1) 0 0 t.2.2
theorem dc_go_lt (f : Nat → Nat) (a : Nat) : ∀ (r i v w : Nat), dc_go f a r i v = some w → w < (v + 1) * 64 ^ r := by
  intro r
  induction r with
  | zero => intro i v w h; cases h; simp
  | succ r ih =>
    intro i v w h
    rw [dc_go] at h
    split at h
    · cases h
    · have h1 := ih _ _ _ h
      have h2 : f (a + i) % 64 < 64 := Nat.mod_lt _ (by decide)
      have h3 : v * 64 + f (a + i) % 64 + 1 ≤ (v + 1) * 64 := by omega
      have h4 := Nat.mul_le_mul_right (64 ^ r) h3
      rw [Nat.pow_succ, Nat.mul_comm (64 ^ r) 64, ← Nat.mul_assoc]
      omega
theorem dc_lt {f : Nat → Nat} {a z w : Nat} (hz : 1 ≤ z) (hz3 : z ≤ 3) (h1 : z = 1 → f a < 128) (h : dc f a z = some w) : w ≤ 65535 := by
  have h2 := dc_go_lt _ _ _ _ _ _ h
  rcases (show z = 1 ∨ z = 2 ∨ z = 3 by omega) with rfl | rfl | rfl
  · have := h1 rfl
    simp [dc_0] at h2
    omega
  · simp [dc_0] at h2
    omega
  · simp [dc_0] at h2
    omega
