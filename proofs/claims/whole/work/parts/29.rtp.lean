/-! reading bytes as numbers; texts -/
def o_by (o : OS) : Prop := f_ok o.1 o.2.1 255
theorem c_end_in (k : Int32) : c_end k = -1 ∨ c_end k = -2 := by
  unfold c_end
  split
  · exact Or.inl rfl
  · exact Or.inr rfl
theorem c_find_in (o : OS) : ∀ (t : Nat) (d : CS), (c_find o t d).1 = 0 ∨ (c_find o t d).1 = -1 ∨ (c_find o t d).1 = -2 := by
  intro t
  induction t with
  | zero =>
    intro d
    rw [c_find_0 (Or.inl (Nat.le_refl 0))]
    by_cases hl : d.2.1 = 0
    · rw [if_pos hl]; exact Or.inr (Or.inl rfl)
    · rw [if_neg hl]; exact Or.inl rfl
  | succ t ih =>
    intro d
    by_cases hl : d.2.1 = 0
    · by_cases hm : o_at o d.1 = 121
      · rw [← c_find_r (t := t + 1) (by omega) hl hm]; exact ih _
      · by_cases h1 : o_at o d.1 = 119
        · rw [c_find_b (t := t + 1) (z := 1) (by omega) hl hm (Or.inl ⟨h1, rfl⟩)]
          split
          · exact ih _
          · exact Or.inr (Or.inr rfl)
        · by_cases h2 : o_at o d.1 = 122
          · rw [c_find_b (t := t + 1) (z := 4) (by omega) hl hm (Or.inr ⟨h1, h2, rfl⟩)]
            split
            · exact ih _
            · exact Or.inr (Or.inr rfl)
          · rw [c_find_e (t := t + 1) (by omega) hl hm h1 h2]
            exact Or.inr (c_end_in _)
    · rw [c_find_0 (Or.inr hl), if_neg hl]; exact Or.inl rfl
theorem c_next_b {o : OS} {c : CS} (hb : o_by o) (h : ¬ nf o c) : ∃ k : Nat, k ≤ 255 ∧ (c_next o c).1 = nI k := by
  unfold nf c_next at h
  unfold c_next
  dsimp only at h ⊢
  by_cases h0 : (c_look o c).1 = 0
  · rw [if_neg (fun z => z h0)] at h ⊢
    by_cases h1 : o.2.1 ≤ (c_look o c).2.1
    · rw [if_pos h1] at h
      exact absurd (Or.inr rfl) h
    · rw [if_neg h1]
      have hj : (c_look o c).2.1 < o.2.1 := by omega
      refine ⟨n_at o.1 (c_look o c).2.1, n_at_le hb hj (by decide), ?_⟩
      show o_at o (c_look o c).2.1 = _
      rw [o_at, if_pos hj]
      exact n_at_eq hb hj
  · rw [if_pos h0] at h
    exfalso
    unfold c_look at h h0
    split at h
    · rename_i hm
      rw [if_pos hm] at h0
      rcases c_find_in o (o.2.1 - c.1) c with q | q | q
      · exact h0 q
      · exact h (Or.inr q)
      · exact h (Or.inl q)
    · rename_i hm
      rw [if_neg hm] at h0
      exact h0 rfl
theorem rn_v_eq {o : OS} {t : CS} {V k : Nat} (hk : k ≤ 255) (h : (c_next o t).1 = nI k) (hV : V * 256 + 256 ≤ 2 ^ 64) : rn_v o t (lN V) = lN (V * 256 + k) := by
  unfold rn_v
  rw [h, show (8 : Int32) = nI 8 from rfl, wb_shl V (by decide), nI_l (by omega), wb_or (by omega) (by omega)]
  congr 1
  have e := Nat.shiftLeft_add_eq_or_of_lt (i := 8) (b := k) (by omega) V
  rw [Nat.shiftLeft_eq] at e
  omega
theorem rn_lN {o : OS} (hb : o_by o) : ∀ (n : Nat) (t : CS) (V : Nat), (V + 1) * 256 ^ n ≤ 2 ^ 64 → (rn o n t (lN V)).1 = 0 → ∃ N : Nat, N < (V + 1) * 256 ^ n ∧ (rn o n t (lN V)).2.2 = lN N := by
  intro n
  induction n with
  | zero => intro t V _ _; exact ⟨V, by simp, rfl⟩
  | succ n ih =>
    intro t V hV h
    have hn := rn_n (by omega) h
    obtain ⟨k, hk, hke⟩ := c_next_b hb hn
    have h256 : 1 ≤ 256 ^ n := Nat.pow_pos (by decide)
    have hs : (V + 1) * 256 ^ (n + 1) = ((V + 1) * 256) * 256 ^ n := by rw [Nat.pow_succ, Nat.mul_comm (256 ^ n) 256, ← Nat.mul_assoc]
    have h3 : (V + 1) * 256 ≤ ((V + 1) * 256) * 256 ^ n := Nat.le_mul_of_pos_right _ (by omega)
    have h1 : V * 256 + 256 ≤ 2 ^ 64 := by omega
    rw [rn_s (by omega) hn, rn_v_eq hk hke h1] at h ⊢
    have h2 : (V * 256 + k + 1) * 256 ^ n ≤ (V + 1) * 256 * 256 ^ n := Nat.mul_le_mul_right _ (by omega)
    obtain ⟨N, hN, hNe⟩ := ih (c_next o t).2 (V * 256 + k) (by omega) h
    exact ⟨N, by omega, hNe⟩
def n2 (o : OS) (c : CS) : Nat := (rn o 2 c 0).2.2.toInt32.toNatClampNeg
theorem n2_eq {o : OS} {c : CS} (hb : o_by o) (h : (rn o 2 c 0).1 = 0) : (rn o 2 c 0).2.2.toInt32 = nI (n2 o c) ∧ n2 o c ≤ 65535 := by
  obtain ⟨N, hN, e⟩ := rn_lN hb 2 c 0 (by decide) h
  have e' : (rn o 2 c 0).2.2.toInt32 = nI N := by
    rw [show (rn o 2 c 0).2.2 = lN N from e]
    exact lN_i N
  unfold n2
  rw [e', nI_clamp (by omega)]
  exact ⟨rfl, by omega⟩
theorem cnt_s (x : Int32) {b : Nat} (hb : b ≤ 255) : x * (256 : Int32) + nI b = (x <<< ((8 : Int32) &&& 31)) ||| nI b := by
  apply Int32.toBitVec_inj.mp
  rw [Int32.toBitVec_or, Int32.toBitVec_shiftLeft, Int32.toBitVec_add, Int32.toBitVec_mul]
  have e1 : (8 &&& 31 : Int32).toBitVec.smod 32 = 8#32 := by decide
  have e2 : (256 : Int32).toBitVec = 256#32 := rfl
  have e3 : (nI b).toBitVec = BitVec.ofNat 32 b := rfl
  rw [e1, e2, e3]
  have e4 : x.toBitVec <<< 8#32 = x.toBitVec * 256#32 := by
    apply BitVec.eq_of_toNat_eq
    rw [BitVec.shiftLeft_eq', BitVec.toNat_shiftLeft, BitVec.toNat_mul, Nat.shiftLeft_eq]
    rfl
  rw [← e4]
  apply BitVec.add_eq_or_of_and_eq_zero
  apply BitVec.eq_of_getLsbD_eq
  intro i hi
  rw [BitVec.getLsbD_and, BitVec.getLsbD_zero, BitVec.shiftLeft_eq', BitVec.getLsbD_shiftLeft, BitVec.getLsbD_ofNat]
  by_cases h8 : i < 8
  · have : decide (i < (8#32).toNat) = true := by simp; exact h8
    rw [this]; simp
  · rw [Nat.testBit_lt_two_pow (show b < 2 ^ i from Nat.lt_of_le_of_lt hb (Nat.lt_of_lt_of_le (show 255 < 2 ^ 8 by decide) (Nat.pow_le_pow_right (show 0 < 2 by decide) (show 8 ≤ i by omega))))]
    simp
theorem n2_sh {a b : Nat} (hb : b ≤ 255) : (nI a <<< ((8 : Int32) &&& 31)) ||| nI b = nI (a * 256 + b) := by
  rw [← cnt_s _ hb, show (256 : Int32) = nI 256 from rfl, pk_mul, nI_add]
theorem n2_nf {o : OS} {c : CS} (h : (rn o 2 c 0).1 = 0) : ¬ nf o c ∧ ¬ nf o (c_next o c).2 := by
  have h1 := rn_n (by decide) h
  rw [rn_s (by decide) h1] at h
  exact ⟨h1, rn_n (by decide) h⟩
theorem n2_two {o : OS} {c : CS} (hb : o_by o) (h1 : ¬ nf o c) (h2 : ¬ nf o (c_next o c).2) : (rn o 2 c 0).1 = 0 ∧ (rn o 2 c 0).2.1 = (c_next o (c_next o c).2).2 ∧ ((c_next o c).1 <<< ((8 : Int32) &&& 31)) ||| (c_next o (c_next o c).2).1 = nI (n2 o c) ∧ n2 o c ≤ 65535 := by
  obtain ⟨a, ha, ea⟩ := c_next_b hb h1
  obtain ⟨b, hb2, eb⟩ := c_next_b hb h2
  have e : rn o 2 c 0 = (0, (c_next o (c_next o c).2).2, lN (a * 256 + b)) := by
    rw [rn_s (by decide) h1, show rn_v o c 0 = lN (0 * 256 + a) from rn_v_eq (V := 0) ha ea (by decide), rn_s (by decide) h2, rn_v_eq hb2 eb (by omega), Nat.zero_mul, Nat.zero_add]
    try rfl
  have en : n2 o c = a * 256 + b := by
    unfold n2
    rw [e]
    show (lN (a * 256 + b)).toInt32.toNatClampNeg = _
    rw [lN_i, nI_clamp (by omega)]
  refine ⟨by rw [e], by rw [e], ?_, by omega⟩
  rw [ea, eb, en]
  exact n2_sh hb2
def tl (o : OS) : Nat → Nat → CS → TS → Int32 × CS × TS
  | 0, _, d, t => (0, d, t)
  | n + 1, i, d, t => if (c_next o d).1 = -2 ∨ (c_next o d).1 = -1 then ((c_next o d).1, (c_next o d).2, t) else tl o n (i + 1) (c_next o d).2 (t_keep t i (c_next o d).1)
theorem tl_f {o : OS} {n i : Nat} {d : CS} {t : TS} (hn : 0 < n) (h : nf o d) : tl o n i d t = ((c_next o d).1, (c_next o d).2, t) := by
  obtain ⟨k, rfl⟩ : ∃ k, n = k + 1 := ⟨n - 1, by omega⟩
  rw [tl]; exact if_pos h
theorem tl_s {o : OS} {n i : Nat} {d : CS} {t : TS} (hn : 0 < n) (h : ¬ nf o d) : tl o n i d t = tl o (n - 1) (i + 1) (c_next o d).2 (t_keep t i (c_next o d).1) := by
  obtain ⟨k, rfl⟩ : ∃ k, n = k + 1 := ⟨n - 1, by omega⟩
  rw [tl]; exact if_neg h
theorem tl_n {o : OS} {n i : Nat} {d : CS} {t : TS} (hn : 0 < n) (h : (tl o n i d t).1 = 0) : ¬ nf o d := by
  intro z
  rw [tl_f hn z] at h
  exact nf_ne z h
theorem t_keep_ok {t : TS} {j k : Nat} (h : t_ok t) (hk : k ≤ 255) : t_ok (t_keep t j (nI k)) := by
  unfold t_keep
  split
  · exact ⟨h.1, f_ok_upd h.2.1 hk (by decide), h.2.2⟩
  · exact h
theorem t_keep_1 (t : TS) (j : Nat) (x : Int32) : (t_keep t j x).1 = t.1 := by
  unfold t_keep
  split <;> rfl
theorem t_keep_nf {o : OS} {d : CS} {t : TS} {j : Nat} (hb : o_by o) (h : t_ok t) (hn : ¬ nf o d) : t_ok (t_keep t j (c_next o d).1) := by
  obtain ⟨k, hk, e⟩ := c_next_b hb hn
  rw [e]; exact t_keep_ok h hk
theorem td_keep {f : Nat → Nat} {z : Nat} : ∀ (n c a : Nat) (d : Nat → Int32), c ≤ 40 → f_ok d 40 65535 → f_ok (td f z n c a d).2 40 65535 ∧ ((td f z n c a d).1 = -1 ∨ ∃ k : Nat, k ≤ 40 ∧ (td f z n c a d).1 = nI k) := by
  intro n
  induction n with
  | zero => intro c a d hc hd; exact ⟨hd, Or.inr ⟨c, hc, rfl⟩⟩
  | succ n ih =>
    intro c a d hc hd
    by_cases h : z ≤ a
    · rw [td_end h]; exact ⟨hd, Or.inr ⟨c, hc, rfl⟩⟩
    · by_cases hb : szb (f a) = 0 ∨ z - a < szb (f a) ∨ 40 ≤ c
      · rw [td_bad (by omega) h hb]; exact ⟨hd, Or.inl rfl⟩
      · cases hv : dc f a (szb (f a)) with
        | none => rw [td_none (by omega) h hb hv]; exact ⟨hd, Or.inl rfl⟩
        | some v =>
          rw [td_some (by omega) h hb hv]
          have hs := szb_le (f a)
          exact ih _ _ _ (by omega) (f_ok_upd hd (dc_lt (by omega) hs szb_1 hv) (by decide))
theorem t_dec_keep {t : TS} (h : t_ok t) (z : Nat) : f_ok (t_dec t z).2 40 65535 ∧ ((t_dec t z).1 = -1 ∨ ∃ k : Nat, k ≤ 40 ∧ (t_dec t z).1 = nI k) := by
  unfold t_dec
  split
  · exact ⟨h.2.2, Or.inl rfl⟩
  · exact td_keep _ _ _ _ (by omega) h.2.2
