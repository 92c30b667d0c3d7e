/-! the cursor as functions: what its steps keep -/
theorem op_ge {d z : Nat} (hd : d < 2 ^ 30) (hz : z < 2 ^ 30) : nI z ≤ nI d - 1 ↔ z + 1 ≤ d := by
  have h1 := pk_sub_toInt (a := d) (b := 1) hd (by decide)
  have h2 := nI_toInt (n := z) (by omega)
  rw [Int32.le_iff_toInt_le, h2, show (1 : Int32) = nI 1 from rfl, h1]
  omega
theorem nI_clampI {x : Int32} (h : 0 ≤ x) : x = nI x.toNatClampNeg := by
  obtain ⟨k, hk, rfl⟩ := nI_of (x := x) (by rw [Int32.not_lt]; exact h)
  rw [nI_clamp hk]
theorem clamp_lt (x : Int32) : x.toNatClampNeg < 2 ^ 31 := by
  by_cases h : x < 0
  · have h1 : x.toInt < 0 := by rw [Int32.lt_iff_toInt_lt] at h; exact h
    have h2 : x.toNatClampNeg = x.toInt.toNat := rfl
    omega
  · obtain ⟨k, hk, rfl⟩ := nI_of h
    rw [nI_clamp hk]; exact hk
theorem nI_pd {a : Nat} (h : 1 ≤ a) : nI a - 1 = nI (a - 1) := pk_sub h
theorem o_at_lt {o : OS} {j : Nat} (h : ¬ o_at o j = -1) : j < o.2.1 := by
  unfold o_at at h
  split at h
  · assumption
  · exact absurd rfl h
theorem c_open_f {o : OS} {c : CS} {z : Nat} (h : (c_open o c z).1 = false) : (c_open o c z).2 = c := by
  unfold c_open at h ⊢
  split
  · rfl
  · split
    · rfl
    · rename_i h1 h2
      rw [if_neg h1, if_neg h2] at h
      exact absurd (show true = false from h) (by decide)
theorem c_open_ok {o : OS} {c : CS} {z : Nat} (h : c_ok o c) : c_ok o (c_open o c z).2 := by
  unfold c_open
  split
  · exact h
  · split
    · exact h
    · rename_i h1 h2
      exact ⟨by show c.1 + (1 + z) ≤ o.2.1; omega, clamp_lt _⟩
theorem c_open_mode (o : OS) (c : CS) (z : Nat) : (c_open o c z).2.2.2.2 = c.2.2.2 := by
  unfold c_open
  split
  · rfl
  · split <;> rfl
theorem c_find_0 {o : OS} {t : Nat} {d : CS} (h : t ≤ 0 ∨ ¬ d.2.1 = 0) : c_find o t d = (if d.2.1 = 0 then -1 else 0, d) := by
  cases t with
  | zero => rfl
  | succ t =>
    rcases h with h | h
    · omega
    · rw [c_find, if_pos h, if_neg h]
theorem c_find_r {o : OS} {t : Nat} {d : CS} (ht : ¬ t ≤ 0) (hl : d.2.1 = 0) (hm : o_at o d.1 = 121) : c_find o (t - 1) (d.1 + 1, d.2.1, d.2.2.1 + 1, d.2.2.2) = c_find o t d := by
  obtain ⟨k, rfl⟩ : ∃ k, t = k + 1 := ⟨t - 1, by omega⟩
  rw [c_find, if_neg (fun z => z hl), if_pos hm]
  rfl
theorem c_find_b {o : OS} {t : Nat} {d : CS} {z : Nat} (ht : ¬ t ≤ 0) (hl : d.2.1 = 0) (hm : ¬ o_at o d.1 = 121) (hz : (o_at o d.1 = 119 ∧ z = 1) ∨ (¬ o_at o d.1 = 119 ∧ o_at o d.1 = 122 ∧ z = 4)) :
    c_find o t d = if (c_open o d z).1 = true then c_find o (t - 1) (c_open o d z).2 else (-2, d) := by
  obtain ⟨k, rfl⟩ : ∃ k, t = k + 1 := ⟨t - 1, by omega⟩
  rcases hz with ⟨h1, rfl⟩ | ⟨h1, h2, rfl⟩
  · rw [c_find, if_neg (fun z => z hl), if_neg hm, if_pos (Or.inl h1), if_pos h1]
    rfl
  · rw [c_find, if_neg (fun z => z hl), if_neg hm, if_pos (Or.inr h2), if_neg h1]
    rfl
theorem c_find_e {o : OS} {t : Nat} {d : CS} (ht : ¬ t ≤ 0) (hl : d.2.1 = 0) (hm : ¬ o_at o d.1 = 121) (h1 : ¬ o_at o d.1 = 119) (h2 : ¬ o_at o d.1 = 122) : c_find o t d = (c_end (o_at o d.1), d) := by
  obtain ⟨k, rfl⟩ : ∃ k, t = k + 1 := ⟨t - 1, by omega⟩
  rw [c_find, if_neg (fun z => z hl), if_neg hm, if_neg (fun z => z.elim h1 h2)]
theorem c_find_keep (o : OS) : ∀ (t : Nat) (d : CS), c_ok o d → c_ok o (c_find o t d).2 ∧ (c_find o t d).2.2.2.2 = d.2.2.2 ∧ ((c_find o t d).1 = 0 → ¬ (c_find o t d).2.2.1 = 0) := by
  intro t
  induction t with
  | zero =>
    intro d h
    refine ⟨h, rfl, fun h0 => ?_⟩
    rw [c_find_0 (Or.inl (Nat.le_refl 0))] at h0 ⊢
    by_cases hl : d.2.1 = 0
    · rw [if_pos hl] at h0; exact absurd (show (-1 : Int32) = 0 from h0) (by decide)
    · exact hl
  | succ t ih =>
    intro d h
    by_cases hl : d.2.1 = 0
    · by_cases hm : o_at o d.1 = 121
      · rw [← c_find_r (t := t + 1) (by omega) hl hm]
        exact ih _ ⟨o_at_lt (by rw [hm]; decide), by show d.2.1 < 2 ^ 31; omega⟩
      · by_cases h1 : o_at o d.1 = 119
        · rw [c_find_b (t := t + 1) (z := 1) (by omega) hl hm (Or.inl ⟨h1, rfl⟩)]
          by_cases hb : (c_open o d 1).1 = true
          · rw [if_pos hb]
            have q := ih _ (c_open_ok (z := 1) h)
            rw [c_open_mode] at q
            exact q
          · rw [if_neg hb]
            exact ⟨h, rfl, fun z => absurd (show (-2 : Int32) = 0 from z) (by decide)⟩
        · by_cases h2 : o_at o d.1 = 122
          · rw [c_find_b (t := t + 1) (z := 4) (by omega) hl hm (Or.inr ⟨h1, h2, rfl⟩)]
            by_cases hb : (c_open o d 4).1 = true
            · rw [if_pos hb]
              have q := ih _ (c_open_ok (z := 4) h)
              rw [c_open_mode] at q
              exact q
            · rw [if_neg hb]
              exact ⟨h, rfl, fun z => absurd (show (-2 : Int32) = 0 from z) (by decide)⟩
          · rw [c_find_e (t := t + 1) (by omega) hl hm h1 h2]
            refine ⟨h, rfl, fun z => absurd z ?_⟩
            show ¬ c_end (o_at o d.1) = 0
            unfold c_end
            split <;> decide
    · rw [c_find_0 (Or.inr hl)]
      exact ⟨h, rfl, fun _ => hl⟩
theorem c_look_keep {o : OS} {c : CS} (h : c_ok o c) : c_ok o (c_look o c).2 ∧ (c_look o c).2.2.2.2 = c.2.2.2 ∧ (c.2.2.2 = true → (c_look o c).1 = 0 → 1 ≤ (c_look o c).2.2.1) := by
  unfold c_look
  split
  · have q := c_find_keep o (o.2.1 - c.1) c h
    exact ⟨q.1, q.2.1, fun _ h0 => by have := q.2.2 h0; omega⟩
  · rename_i hm
    exact ⟨h, rfl, fun z => absurd z hm⟩
