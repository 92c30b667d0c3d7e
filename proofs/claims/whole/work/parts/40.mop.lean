/-! the reference writes as the class does: lengths, bytes, room -/
abbrev T3 : Type := Nat × Nat × Int32
theorem b255 {y : Nat} (h : y ≤ 255) : nI y &&& 255 = nI y := by
  rw [pk_andN (by omega) 8 (by decide), Nat.mod_eq_of_lt (by omega)]
theorem f_b255 {f : Nat → Int32} {n j : Nat} (h : f_ok f n 255) (hj : j < n) : f j &&& 255 = f j := by
  rw [n_at_eq h hj]; exact b255 (n_at_le h hj (by decide))
theorem x_b255 (x : Int32) : ∃ y : Nat, y ≤ 255 ∧ x &&& 255 = nI y := by
  obtain ⟨j, hj, e⟩ := pk_andE x (m := 255) 8 (by decide)
  exact ⟨j, by omega, e⟩
theorem o_add_n {o : OS} {x : Int32} (h : o.2.1 < 1507) : o_add o x = (upd o.1 o.2.1 x, o.2.1 + 1, o.2.2) := by rw [o_add, if_pos h]
theorem o_add_l {o : OS} {x : Int32} (h : o.2.1 < 1507) : (o_add o x).2.1 = o.2.1 + 1 := by rw [o_add_n h]
theorem o_puts_l {o : OS} {f : Nat → Int32} : ∀ (i : Nat), o.2.1 + i ≤ 1507 → (o_puts o f i).2.1 = o.2.1 + i := by
  intro i
  induction i with
  | zero => intro _; rfl
  | succ i ih =>
    intro h
    have e := ih (by omega)
    rw [o_puts, o_add_l (by omega), e]
    omega
def hsz (k : Nat) : Nat := if k ≤ 255 then 2 else 5
theorem o_hdr_l {o : OS} {k : Nat} (h : o.2.1 + hsz k ≤ 1507) : (o_hdr o k).2.1 = o.2.1 + hsz k := by
  unfold hsz at h ⊢
  unfold o_hdr
  split
  · rename_i hk
    rw [if_pos hk] at h
    have e1 := o_add_l (o := o) (x := 119) (by omega)
    rw [o_add_l (by omega), e1]
  · rename_i hk
    rw [if_neg hk] at h
    have e1 := o_add_l (o := o) (x := 122) (by omega)
    have e2 := o_add_l (o := o_add o 122) (x := nI (k / 2 ^ 24 % 2 ^ 8)) (by omega)
    have e3 := o_add_l (o := o_add (o_add o 122) (nI (k / 2 ^ 24 % 2 ^ 8))) (x := nI (k / 2 ^ 16 % 2 ^ 8)) (by omega)
    have e4 := o_add_l (o := o_add (o_add (o_add o 122) (nI (k / 2 ^ 24 % 2 ^ 8))) (nI (k / 2 ^ 16 % 2 ^ 8))) (x := nI (k / 2 ^ 8 % 2 ^ 8)) (by omega)
    rw [o_add_l (by omega), e4, e3, e2, e1]
theorem o_hdr_big {o : OS} {k : Nat} (h : ¬ k ≤ 255) (hk : k ≤ 1024) : o_hdr o k = o_add (o_add (o_add (o_add (o_add o (122 &&& 255)) (0 &&& 255)) (0 &&& 255)) (nI (k / 256) &&& 255)) (nI (k % 256) &&& 255) := by
  rw [o_hdr, if_neg h, b255 (show k / 256 ≤ 255 by omega), b255 (show k % 256 ≤ 255 by omega)]
  rw [show k / 2 ^ 24 % 2 ^ 8 = 0 by omega, show k / 2 ^ 16 % 2 ^ 8 = 0 by omega, show k / 2 ^ 8 % 2 ^ 8 = k / 256 by omega, show k / 2 ^ 0 % 2 ^ 8 = k % 256 by omega]
  rfl
theorem o_hdr_small {o : OS} {k : Nat} (h : k ≤ 255) : o_hdr o k = o_add (o_add o (119 &&& 255)) (nI k &&& 255) := by
  rw [o_hdr, if_pos h, b255 h]
  rfl
/-- room for what is pending, and for its header -/
def o_cap (o : OS) : Prop := o.2.2.2.1 ≤ 1024 ∧ (¬ o.2.2.2.1 = 0 → o.2.1 + o.2.2.2.1 + hsz o.2.2.2.1 ≤ 1507)
def o_pv (o : OS) : Prop := f_ok o.2.2.1 o.2.2.2.1 255
/-- room for one byte of data -/
def o_d1 (o : OS) : Prop := o.2.2.2.1 < 1024 ∧ (o.2.2.2.2 = false → o.2.1 < 1507) ∧ (o.2.2.2.2 = true → o.2.2.2.1 = 1023 → o.2.1 + 1029 ≤ 1507)
/-- room for j bytes of data -/
def o_r1 (o : OS) (j : Nat) : Prop := j ≤ 200 ∧ o.2.2.2.1 < 1024 ∧ (o.2.1 + o.2.2.2.1 + j ≤ 1500 ∨ (o.2.1 + o.2.2.2.1 + j ≤ 1505 ∧ o.2.2.2.1 + j ≤ 255 ∧ o.2.2.2.2 = true))
theorem o_r1_d1 {o : OS} {j : Nat} (h : o_r1 o (j + 1)) : o_d1 o := by
  obtain ⟨_, h1, h2⟩ := h
  refine ⟨h1, fun hm => ?_, fun hm hk => ?_⟩
  · rcases h2 with h2 | h2
    · omega
    · omega
  · rcases h2 with h2 | h2 <;> omega
theorem o_block_k {o : OS} (h : ¬ o.2.2.2.1 = 0) : (o_block o).2.2 = (o.2.2.1, 0, o.2.2.2.2) := by
  rw [o_block, if_neg h]
  show ((o_puts (o_hdr o o.2.2.2.1) o.2.2.1 o.2.2.2.1).2.2.1, 0, (o_puts (o_hdr o o.2.2.2.1) o.2.2.1 o.2.2.2.1).2.2.2.2) = _
  rw [o_puts_22, o_hdr_22]
theorem o_block_l {o : OS} (h : ¬ o.2.2.2.1 = 0) (hc : o_cap o) : (o_block o).2.1 = o.2.1 + o.2.2.2.1 + hsz o.2.2.2.1 := by
  have h2 := hc.2 h
  rw [o_block, if_neg h]
  show (o_puts (o_hdr o o.2.2.2.1) o.2.2.1 o.2.2.2.1).2.1 = _
  rw [o_puts_l _ (by rw [o_hdr_l (by omega)]; omega), o_hdr_l (by omega)]
  omega
theorem o_pend_n {o : OS} {x : Int32} (h : o.2.2.2.1 < 1024) : o_pend o x = (o.1, o.2.1, upd o.2.2.1 o.2.2.2.1 x, o.2.2.2.1 + 1, o.2.2.2.2) := by rw [o_pend, if_pos h]
theorem o_byte_0 {o : OS} {x : Int32} (h : o.2.2.2.2 = false) : o_byte o x = o_add o x := by rw [o_byte, if_pos h]
theorem o_byte_1 {o : OS} {x : Int32} (h : o.2.2.2.2 = true) (hd : o.2.2.2.1 < 1024) : o_byte o x = if o.2.2.2.1 + 1 = 1024 then o_block (o.1, o.2.1, upd o.2.2.1 o.2.2.2.1 x, o.2.2.2.1 + 1, o.2.2.2.2) else (o.1, o.2.1, upd o.2.2.1 o.2.2.2.1 x, o.2.2.2.1 + 1, o.2.2.2.2) := by
  rw [o_byte, if_neg (by rw [h]; decide), o_pend_n hd]
  by_cases e : o.2.2.2.1 + 1 = 1024
  · rw [if_pos e, if_pos (show 1024 ≤ o.2.2.2.1 + 1 by omega)]
  · rw [if_neg e, if_neg (show ¬ 1024 ≤ o.2.2.2.1 + 1 by omega)]
theorem o_d1_cap {o : OS} {x : Int32} (hd : o_d1 o) (hm : o.2.2.2.2 = true) (e : o.2.2.2.1 + 1 = 1024) : o_cap (o.1, o.2.1, upd o.2.2.1 o.2.2.2.1 x, o.2.2.2.1 + 1, o.2.2.2.2) := by
  have h3 := hd.2.2 hm (by omega)
  refine ⟨by show o.2.2.2.1 + 1 ≤ 1024; omega, fun _ => ?_⟩
  show o.2.1 + (o.2.2.2.1 + 1) + hsz (o.2.2.2.1 + 1) ≤ 1507
  rw [e]
  show o.2.1 + 1024 + 5 ≤ 1507
  omega
theorem o_r1_step {o : OS} {j : Nat} (x : Int32) (h : o_r1 o (j + 1)) : o_r1 (o_byte o x) j := by
  have hd := o_r1_d1 h
  obtain ⟨h0, h1, h2⟩ := h
  cases hm : o.2.2.2.2 with
  | false =>
    have hn := hd.2.1 hm
    rw [o_byte_0 hm, o_add_n hn]
    refine ⟨by omega, h1, ?_⟩
    show o.2.1 + 1 + o.2.2.2.1 + j ≤ 1500 ∨ _
    rcases h2 with h2 | h2
    · exact Or.inl (by omega)
    · rw [hm] at h2; exact absurd h2.2.2 (by decide)
  | true =>
    rw [o_byte_1 hm h1]
    by_cases e : o.2.2.2.1 + 1 = 1024
    · rw [if_pos e]
      have hc := o_d1_cap (x := x) hd hm e
      have hk : ¬ (o.1, o.2.1, upd o.2.2.1 o.2.2.2.1 x, o.2.2.2.1 + 1, o.2.2.2.2).2.2.2.1 = 0 := by show ¬ o.2.2.2.1 + 1 = 0; omega
      have e1 := o_block_l hk hc
      have e2 := o_block_k hk
      have e3 : hsz (o.2.2.2.1 + 1) = 5 := by rw [e]; rfl
      have e1' : (o_block (o.1, o.2.1, upd o.2.2.1 o.2.2.2.1 x, o.2.2.2.1 + 1, o.2.2.2.2)).2.1 = o.2.1 + (o.2.2.2.1 + 1) + 5 := by rw [e1, ← e3]
      refine ⟨by omega, ?_, Or.inr ⟨?_, ?_, ?_⟩⟩
      · rw [e2]; show (0 : Nat) < 1024; omega
      · rw [e1', e2]; show o.2.1 + (o.2.2.2.1 + 1) + 5 + 0 + j ≤ 1505; omega
      · rw [e2]; show 0 + j ≤ 255; omega
      · rw [e2]; exact hm
    · rw [if_neg e]
      refine ⟨by omega, by show o.2.2.2.1 + 1 < 1024; omega, ?_⟩
      show o.2.1 + (o.2.2.2.1 + 1) + j ≤ 1500 ∨ (o.2.1 + (o.2.2.2.1 + 1) + j ≤ 1505 ∧ o.2.2.2.1 + 1 + j ≤ 255 ∧ o.2.2.2.2 = true)
      rcases h2 with h2 | h2
      · exact Or.inl (by omega)
      · exact Or.inr ⟨by omega, by omega, hm⟩
theorem o_r1_cap {o : OS} (h : o_r1 o 0) : o_cap o := by
  obtain ⟨_, h1, h2⟩ := h
  refine ⟨by omega, fun _ => ?_⟩
  unfold hsz
  rcases h2 with h2 | h2
  · split <;> omega
  · rw [if_pos (by omega)]; omega
theorem o_pv_add {o : OS} (h : o_pv o) (x : Int32) : o_pv (o_add o x) := by unfold o_pv; rw [o_add_22]; exact h
theorem o_pv_byte {o : OS} (h : o_pv o) (hk : o.2.2.2.1 < 1024) (x : Int32) : o_pv (o_byte o (x &&& 255)) := by
  cases hm : o.2.2.2.2 with
  | false => rw [o_byte_0 hm]; exact o_pv_add h _
  | true =>
    rw [o_byte_1 hm hk]
    by_cases e : o.2.2.2.1 + 1 = 1024
    · rw [if_pos e]
      unfold o_pv
      rw [o_block_k (by show ¬ o.2.2.2.1 + 1 = 0; omega)]
      intro j hj
      exact absurd hj (Nat.not_lt_zero _)
    · rw [if_neg e]
      intro j hj
      show 0 ≤ upd o.2.2.1 o.2.2.2.1 (x &&& 255) j ∧ upd o.2.2.1 o.2.2.2.1 (x &&& 255) j ≤ nI 255
      by_cases q : j = o.2.2.2.1
      · obtain ⟨y, hy, ey⟩ := x_b255 x
        rw [q, pk_us, ey]
        exact ⟨nI_pos' (by omega), nI_le hy (by decide)⟩
      · rw [pk_un q]
        have hj' : j < o.2.2.2.1 + 1 := hj
        exact h j (by omega)
