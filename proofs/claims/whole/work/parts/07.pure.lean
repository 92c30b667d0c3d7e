/-! the class as functions: what each of its methods does to its numbers and rows -/
def bI (b : Bool) : Int32 := if b then 1 else 0
theorem bI_0 {b : Bool} : bI b = 0 ↔ b = false := by cases b <;> decide
theorem bI_n0 {b : Bool} : ¬ bI b = 0 ↔ b = true := by cases b <;> decide
theorem bI_nar (b : Bool) : narrow .boolean (.int (bI b)) = .int (bI b) := by cases b <;> rfl
theorem bI_fit (b : Bool) : fits .boolean (.int (bI b)) = true := by cases b <;> rfl
/-- comparisons of ints that are numbers -/
theorem cg_lt {x y : Int32} (a b : Nat) (hx : x = nI a) (hy : y = nI b) (ha : a < 2 ^ 31) (hb : b < 2 ^ 31) : x < y ↔ a < b := by rw [hx, hy]; exact nI_ltI ha hb
theorem cg_le {x y : Int32} (a b : Nat) (hx : x = nI a) (hy : y = nI b) (ha : a < 2 ^ 31) (hb : b < 2 ^ 31) : x ≤ y ↔ a ≤ b := by rw [hx, hy]; exact nI_leI ha hb
theorem cg_eq {x y : Int32} (a b : Nat) (hx : x = nI a) (hy : y = nI b) (ha : a < 2 ^ 31) (hb : b < 2 ^ 31) : x = y ↔ a = b := by rw [hx, hy]; exact nI_eq ha hb
theorem x_in {j : Int32} {n N : Nat} (h0 : ¬ j < 0) (h1 : ¬ nI n ≤ j) (hn : n ≤ N) (hN : N < 2 ^ 31) : vp_in j N := by
  obtain ⟨k, hk, rfl⟩ := nI_of h0
  rw [nI_leI (by omega) hk] at h1
  exact vp_in_nI (by omega) hN
-- Output: log, length, pending, pendingCount, blockMode
abbrev OS : Type := (Nat → Int32) × Nat × (Nat → Int32) × Nat × Bool
def o_ok (o : OS) : Prop := o.2.1 ≤ 1507 ∧ o.2.2.2.1 ≤ 1024
def o_at (o : OS) (j : Nat) : Int32 := if j < o.2.1 then o.1 j else -1
def o_atI (o : OS) (j : Int32) : Int32 := if ¬ j < 0 ∧ ¬ nI o.2.1 ≤ j then o.1 j.toNatClampNeg else -1
theorem o_atI_n {o : OS} {k : Nat} (hk : k < 2 ^ 31) (ho : o.2.1 < 2 ^ 31) : o_atI o (nI k) = o_at o k := by
  unfold o_atI o_at
  by_cases h : k < o.2.1
  · rw [if_pos ⟨nI_pos hk, fun z => absurd ((nI_leI ho hk).mp z) (by omega)⟩, if_pos h, nI_clamp hk]
  · rw [if_neg (fun z => z.2 ((nI_leI ho hk).mpr (by omega))), if_neg h]
def o_add (o : OS) (x : Int32) : OS := if o.2.1 < 1507 then (upd o.1 o.2.1 x, o.2.1 + 1, o.2.2) else o
def o_hdr (o : OS) (c : Nat) : OS :=
  if c ≤ 255 then o_add (o_add o 119) (nI c) else o_add (o_add (o_add (o_add (o_add o 122) (nI (c / 2 ^ 24 % 2 ^ 8))) (nI (c / 2 ^ 16 % 2 ^ 8))) (nI (c / 2 ^ 8 % 2 ^ 8))) (nI (c / 2 ^ 0 % 2 ^ 8))
def o_puts (o : OS) (f : Nat → Int32) : Nat → OS
  | 0 => o
  | i + 1 => o_add (o_puts o f i) (f i)
def o_block (o : OS) : OS :=
  if o.2.2.2.1 = 0 then o else
    let q := o_puts (o_hdr o o.2.2.2.1) o.2.2.1 o.2.2.2.1
    (q.1, q.2.1, q.2.2.1, 0, q.2.2.2.2)
def o_pend (o : OS) (x : Int32) : OS := if o.2.2.2.1 < 1024 then (o.1, o.2.1, upd o.2.2.1 o.2.2.2.1 x, o.2.2.2.1 + 1, o.2.2.2.2) else o
def o_byte (o : OS) (x : Int32) : OS :=
  if o.2.2.2.2 = false then o_add o x else if 1024 ≤ (o_pend o x).2.2.2.1 then o_block (o_pend o x) else o_pend o x
def l_byte (v : Int64) (n : Nat) : Int32 := (v.toUInt64 >>> ((nI (8 * n)).toInt64.toUInt64 &&& Int64.toUInt64 63)).toInt64.toInt32 &&& 255
def o_num (o : OS) (v : Int64) : Nat → OS
  | 0 => o
  | n + 1 => o_num (o_byte o (l_byte v n)) v n
theorem o_add_22 (o : OS) (x : Int32) : (o_add o x).2.2 = o.2.2 := by unfold o_add; split <;> rfl
theorem o_add_ok {o : OS} (h : o_ok o) (x : Int32) : o_ok (o_add o x) := by
  unfold o_ok at h ⊢
  rw [o_add_22]
  refine ⟨?_, h.2⟩
  unfold o_add
  split
  · show o.2.1 + 1 ≤ 1507; omega
  · exact h.1
theorem o_hdr_22 (o : OS) (c : Nat) : (o_hdr o c).2.2 = o.2.2 := by
  unfold o_hdr
  split <;> simp only [o_add_22]
theorem o_hdr_ok {o : OS} (h : o_ok o) (c : Nat) : o_ok (o_hdr o c) := by
  unfold o_hdr
  split
  · exact o_add_ok (o_add_ok h _) _
  · exact o_add_ok (o_add_ok (o_add_ok (o_add_ok (o_add_ok h _) _) _) _) _
theorem o_puts_22 (o : OS) (f : Nat → Int32) (i : Nat) : (o_puts o f i).2.2 = o.2.2 := by
  induction i with
  | zero => rfl
  | succ i ih => rw [o_puts, o_add_22, ih]
theorem o_puts_ok {o : OS} (h : o_ok o) (f : Nat → Int32) (i : Nat) : o_ok (o_puts o f i) := by
  induction i with
  | zero => exact h
  | succ i ih => exact o_add_ok ih _
theorem o_block_ok {o : OS} (h : o_ok o) : o_ok (o_block o) := by
  unfold o_block
  split
  · exact h
  · exact ⟨(o_puts_ok (o_hdr_ok h _) _ _).1, Nat.zero_le _⟩
theorem o_pend_ok {o : OS} (h : o_ok o) (x : Int32) : o_ok (o_pend o x) := by
  unfold o_pend
  split
  · exact ⟨h.1, by show o.2.2.2.1 + 1 ≤ 1024; omega⟩
  · exact h
theorem o_byte_ok {o : OS} (h : o_ok o) (x : Int32) : o_ok (o_byte o x) := by
  unfold o_byte
  split
  · exact o_add_ok h x
  · split
    · exact o_block_ok (o_pend_ok h x)
    · exact o_pend_ok h x
-- Cursor: place, left, resets, blockMode
abbrev CS : Type := Nat × Nat × Int32 × Bool
def c_ok (o : OS) (c : CS) : Prop := c.1 ≤ o.2.1 ∧ c.2.1 < 2 ^ 31
def c_end (k : Int32) : Int32 := if k = -1 ∨ (¬ k < 112 ∧ ¬ 126 < k) then -1 else -2
def c_cnt (o : OS) (p : Nat) : Nat → Int32
  | 0 => 0
  | i + 1 => (c_cnt o p i <<< (8 &&& 31)) ||| o_at o (p + (i + 1))
def c_open (o : OS) (c : CS) (z : Nat) : Bool × CS :=
  if o.2.1 - c.1 < z + 1 then (false, c)
  else if c_cnt o c.1 z < 0 then (false, c)
  else (true, c.1 + (1 + z), (c_cnt o c.1 z).toNatClampNeg, c.2.2)
def c_find (o : OS) : Nat → CS → Int32 × CS
  | 0, c => (if c.2.1 = 0 then -1 else 0, c)
  | t + 1, c =>
    if ¬ c.2.1 = 0 then (0, c)
    else if o_at o c.1 = 121 then c_find o t (c.1 + 1, c.2.1, c.2.2.1 + 1, c.2.2.2)
    else if o_at o c.1 = 119 ∨ o_at o c.1 = 122 then
      if (c_open o c (if o_at o c.1 = 119 then 1 else 4)).1 = true then c_find o t (c_open o c (if o_at o c.1 = 119 then 1 else 4)).2 else (-2, c)
    else (c_end (o_at o c.1), c)
def c_look (o : OS) (c : CS) : Int32 × CS := if c.2.2.2 = true then c_find o (o.2.1 - c.1) c else (0, c)
def c_next (o : OS) (c : CS) : Int32 × CS :=
  let r := c_look o c
  if ¬ r.1 = 0 then r
  else if o.2.1 ≤ r.2.1 then (-1, r.2)
  else (o_at o r.2.1, r.2.1 + 1, if r.2.2.2.2 = true then r.2.2.1 - 1 else r.2.2.1, r.2.2.2)
