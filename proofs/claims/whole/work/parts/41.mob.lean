/-! the reference's bytes are the class's -/
theorem oa_lt {o : OS} {x : Int32} {n : Nat} (h : o.2.1 < n) : (o_add o x).2.1 < n + 1 := by
  unfold o_add
  split
  · show o.2.1 + 1 < n + 1; omega
  · omega
theorem o_pv_p {o : OS} (h : o_pv o) (x : Int32) : o_pv (o.1, o.2.1, upd o.2.2.1 o.2.2.2.1 (x &&& 255), o.2.2.2.1 + 1, o.2.2.2.2) := by
  intro j hj
  show 0 ≤ upd o.2.2.1 o.2.2.2.1 (x &&& 255) j ∧ upd o.2.2.1 o.2.2.2.1 (x &&& 255) j ≤ nI 255
  by_cases q : j = o.2.2.2.1
  · obtain ⟨y, hy, ey⟩ := x_b255 x
    rw [q, pk_us, ey]
    exact ⟨nI_pos' (by omega), nI_le hy (by decide)⟩
  · rw [pk_un q]
    have hj' : j < o.2.2.2.1 + 1 := hj
    exact h j (by omega)
theorem sm_s (k : Nat) : nI (k + 1) - 1 = nI k := nI_pred k
theorem sm_d (k : Nat) : nI (k + 1) - 1 + (-1) = nI k - 1 := by rw [sm_s, Int32.sub_eq_add_neg]
theorem sm_neg : ∀ n : Nat, n ≤ 8 → (nI n - 1 < 0 ↔ n = 0) := by decide +kernel
theorem ash_b (v : Int64) {k : Nat} (hk : k < 8) : (v >>> ((nI (8 * k)).toInt64 &&& 63)).toInt32 &&& 255 = l_byte v k := by
  unfold l_byte
  rw [wb_c (8 * k) (by omega), wb_cu (8 * k) (by omega)]
  apply Int32.toBitVec_inj.mp
  apply BitVec.eq_of_getLsbD_eq
  intro i hi
  rw [Int32.toBitVec_and, Int32.toBitVec_and, BitVec.getLsbD_and, BitVec.getLsbD_and]
  by_cases h8 : i < 8
  · congr 1
    have e1 : (v >>> lN (8 * k)).toInt32.toBitVec.getLsbD i = v.toBitVec.getLsbD (8 * k + i) := by
      rw [Int64.toBitVec_toInt32, BitVec.getLsbD_signExtend, Int64.toBitVec_shiftRight, wb_tb, wb_sm (8 * k) (by omega), BitVec.sshiftRight_eq', BitVec.getLsbD_sshiftRight, BitVec.toNat_ofNat, Nat.mod_eq_of_lt (show 8 * k < 2 ^ 64 by omega)]
      rw [if_pos (show i < 64 by omega), if_pos (show 8 * k + i < 64 by omega)]
      simp [hi, show ¬ 64 ≤ i by omega]
    have e2 : (v.toUInt64 >>> UInt64.ofNat (8 * k)).toInt64.toInt32.toBitVec.getLsbD i = v.toBitVec.getLsbD (8 * k + i) := by
      rw [Int64.toBitVec_toInt32, BitVec.getLsbD_signExtend]
      show (decide (i < 32) && if i < 64 then ((v.toUInt64 >>> UInt64.ofNat (8 * k)).toBitVec).getLsbD i else _) = _
      rw [UInt64.toBitVec_shiftRight, BitVec.ushiftRight_eq', BitVec.getLsbD_ushiftRight]
      have : ((UInt64.ofNat (8 * k)).toBitVec % 64).toNat = 8 * k := by
        rw [BitVec.toNat_umod]
        show (8 * k) % 2 ^ 64 % 64 = 8 * k
        omega
      rw [this, if_pos (show i < 64 by omega)]
      simp [hi]
    rw [e1, e2]
  · have : (Int32.toBitVec 255).getLsbD i = false := by
      show (BitVec.ofNat 32 255).getLsbD i = false
      rw [BitVec.getLsbD_ofNat]
      simp [Nat.testBit_lt_two_pow (show 255 < 2 ^ i from Nat.lt_of_lt_of_le (by decide) (Nat.pow_le_pow_right (show 0 < 2 by decide) (show 8 ≤ i by omega)))]
    rw [this]; simp
theorem o_r1_in {o : OS} {z : Nat} (hk : o.2.2.2.1 < 1024) (h : o.2.1 + o.2.2.2.1 + z ≤ 1500) (hz : z ≤ 200) : o_r1 o z := ⟨hz, hk, Or.inl h⟩
theorem ks_1 {k : Nat} (h : k < 2) : ks k = 1 := if_pos (by omega)
theorem ks_2 {k : Nat} (h : ¬ k < 2) (h1 : k < 4) : ks k = 2 := by rw [ks, if_neg (by omega), if_pos (by omega)]
theorem ks_4 {k : Nat} (h1 : k = 4) : ks k = 4 := by subst h1; rfl
theorem ks_8 {k : Nat} (h1 : ¬ k < 4) (h2 : ¬ k = 4) : ks k = 8 := by rw [ks, if_neg (by omega), if_neg (by omega), if_neg h2]
theorem lb_1 {S : Nat} (h : S < 2 ^ 31) : l_byte (nI S).toInt64 1 = nI (S / 256) &&& 255 := by
  unfold l_byte
  rw [nI_l h, wb_shr (by omega) (by decide), lN_i]
theorem lb_0 {S : Nat} (h : S < 2 ^ 31) : l_byte (nI S).toInt64 0 = nI (S % 256) &&& 255 := by
  unfold l_byte
  rw [nI_l h, wb_shr (by omega) (by decide), lN_i, b255 (show S % 256 ≤ 255 by omega), show S / 2 ^ (8 * 0) = S by omega]
  exact pk_andN (by omega) 8 (by decide)
theorem t_sum_mono {f : Nat → Int32} {a b : Nat} (h : a ≤ b) : t_sum f a ≤ t_sum f b := by
  induction b with
  | zero => rw [show a = 0 by omega]; exact Nat.le_refl _
  | succ b ih =>
    by_cases e : a = b + 1
    · rw [e]; exact Nat.le_refl _
    · have := ih (by omega)
      show t_sum f a ≤ t_sum f b + ksz (n_at f b)
      omega
theorem ksz_1 {k : Nat} (h : ksz k = 1) : k ≤ 127 := by
  unfold ksz at h
  split at h
  · omega
  · split at h <;> omega
theorem ksz_2 {k : Nat} (h : ksz k = 2) : k ≤ 2047 := by
  unfold ksz at h
  split at h
  · omega
  · split at h <;> omega
