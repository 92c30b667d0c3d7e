/-! floating values, as the reference takes them apart -/
theorem ash_m (v : Int64) {k w M : Nat} (hk : k < 64) (hw : k + w ≤ 64) (hM : M < 2 ^ w) : (v >>> ((nI k).toInt64 &&& 63)) &&& lN M = (v.toUInt64 >>> ((nI k).toInt64.toUInt64 &&& Int64.toUInt64 63)).toInt64 &&& lN M := by
  rw [wb_c k hk, wb_cu k hk]
  apply Int64.toBitVec_inj.mp
  apply BitVec.eq_of_getLsbD_eq
  intro i hi
  rw [Int64.toBitVec_and, Int64.toBitVec_and, BitVec.getLsbD_and, BitVec.getLsbD_and]
  by_cases h8 : i < w
  · congr 1
    have e1 : (v >>> lN k).toBitVec.getLsbD i = v.toBitVec.getLsbD (k + i) := by
      rw [Int64.toBitVec_shiftRight, wb_tb, wb_sm k hk, BitVec.sshiftRight_eq', BitVec.getLsbD_sshiftRight, BitVec.toNat_ofNat, Nat.mod_eq_of_lt (show k < 2 ^ 64 by omega)]
      rw [if_pos (show k + i < 64 by omega)]
      simp [show ¬ 64 ≤ i by omega]
    have e2 : (v.toUInt64 >>> UInt64.ofNat k).toInt64.toBitVec.getLsbD i = v.toBitVec.getLsbD (k + i) := by
      show ((v.toUInt64 >>> UInt64.ofNat k).toBitVec).getLsbD i = _
      rw [UInt64.toBitVec_shiftRight, BitVec.ushiftRight_eq', BitVec.getLsbD_ushiftRight]
      have : ((UInt64.ofNat k).toBitVec % 64).toNat = k := by
        rw [BitVec.toNat_umod]
        show k % 2 ^ 64 % 64 = k
        omega
      rw [this]
      rfl
    rw [e1, e2]
  · have : (lN M).toBitVec.getLsbD i = false := by
      rw [wb_tb, BitVec.getLsbD_ofNat, Nat.testBit_lt_two_pow (Nat.lt_of_lt_of_le hM (Nat.pow_le_pow_right (show 0 < 2 by decide) (show w ≤ i by omega)))]
      simp
    rw [this]; simp
theorem on_v {i : Nat} : (nI (2 * lb i + 1)).toInt64 = lN (2 * lb i + 1) := nI_l (by have := lb_in (i := i); omega)
theorem ash_e {i : Nat} (hi : i < 2) (v : Int64) : (v >>> ((nI (lw i)).toInt64 &&& 63)) &&& lN (2 * lb i + 1) = exI i v := by
  rw [exI, on_v]
  rcases l_cases hi with ⟨_, h1, h2, _⟩ | ⟨_, h1, h2, _⟩
  · rw [h1, h2]; exact ash_m v (w := 8) (by decide) (by decide) (by decide)
  · rw [h1, h2]; exact ash_m v (w := 11) (by decide) (by decide) (by decide)
def sgI (i : Nat) (v : Int64) : Int64 := (v >>> ((nI (lw i)).toInt64 &&& 63)) &&& (lN (2 * lb i + 1) + 1)
theorem and_pw {x j : Nat} : x &&& 2 ^ j = 0 ↔ x / 2 ^ j % 2 = 0 := by
  have e : x.testBit j = decide (x / 2 ^ j % 2 = 1) := Nat.testBit_eq_decide_div_mod_eq
  constructor
  · intro h
    have h1 : (x &&& 2 ^ j).testBit j = false := by rw [h]; exact Nat.zero_testBit _
    rw [Nat.testBit_and, Nat.testBit_two_pow_self, Bool.and_true, e] at h1
    have := of_decide_eq_false h1
    omega
  · intro h
    apply Nat.eq_of_testBit_eq
    intro k
    rw [Nat.testBit_and, Nat.testBit_two_pow, Nat.zero_testBit]
    by_cases q : j = k
    · subst q
      rw [e, decide_eq_false (by omega), Bool.false_and]
    · rw [decide_eq_false q, Bool.and_false]
theorem lN_0 {n : Nat} (h : n < 2 ^ 63) : lN n = 0 ↔ n = 0 := pk_lEQ (b := 0) h (by decide)
theorem sg_iff {i : Nat} (hi : i < 2) (v : Int64) : sgI i v = 0 ↔ (v.toUInt64 >>> ((nI (8 * lz i) - 1).toInt64.toUInt64 &&& Int64.toUInt64 63)).toInt64 &&& 1 = 0 := by
  obtain ⟨N, hN, rfl⟩ := wb_of v
  rcases l_cases hi with ⟨_, h1, h2, h3⟩ | ⟨_, h1, h2, h3⟩
  · rw [sgI, h1, h2, h3, show lN (2 * 127 + 1) + 1 = lN (2 ^ 8) from rfl, show nI (8 * 4) - 1 = nI 31 from rfl, ash_m _ (w := 9) (by decide) (by decide) (by decide), wb_shr hN (by decide), wb_shr hN (by decide)]
    have hd : N / 2 ^ 23 < 2 ^ 64 := Nat.lt_of_le_of_lt (Nat.div_le_self _ _) hN
    rw [wb_and hd (by decide), wb_a1 (Nat.lt_of_le_of_lt (Nat.div_le_self _ _) hN)]
    have hle : N / 2 ^ 23 &&& 2 ^ 8 ≤ 2 ^ 8 := Nat.and_le_right
    rw [lN_0 (by omega), lN_0 (by omega), and_pw, Nat.div_div_eq_div_mul]
  · rw [sgI, h1, h2, h3, show lN (2 * 1023 + 1) + 1 = lN (2 ^ 11) from rfl, show nI (8 * 8) - 1 = nI 63 from rfl, ash_m _ (w := 12) (by decide) (by decide) (by decide), wb_shr hN (by decide), wb_shr hN (by decide)]
    have hd : N / 2 ^ 52 < 2 ^ 64 := Nat.lt_of_le_of_lt (Nat.div_le_self _ _) hN
    rw [wb_and hd (by decide), wb_a1 (Nat.lt_of_le_of_lt (Nat.div_le_self _ _) hN)]
    have hle : N / 2 ^ 52 &&& 2 ^ 11 ≤ 2 ^ 11 := Nat.and_le_right
    rw [lN_0 (by omega), lN_0 (by omega), and_pw, Nat.div_div_eq_div_mul]
theorem frI_n (i : Nat) (v : Int64) : ∃ n : Nat, n < 2 ^ lw i ∧ frI i v = lN n := by
  obtain ⟨N, hN, rfl⟩ := wb_of v
  have hw := lw_in (i := i)
  have hp : 1 ≤ 2 ^ lw i := Nat.two_pow_pos _
  refine ⟨N % 2 ^ lw i, Nat.mod_lt _ (by omega), ?_⟩
  rw [frI, show lN (2 ^ lw i) - 1 = lN (2 ^ lw i - 1) from lN_sub (b := 1) hp, wb_mask hN (by omega)]
theorem da_v {i : Nat} (v : Int64) : FP.dadd (FP.l2d (frI i v)) (FP.l2d ((1 : Int64) <<< ((nI (lw i)).toInt64 &&& 63))) = FP.l2d (lN (2 ^ lw i) + frI i v) := by
  obtain ⟨n, hn, e⟩ := frI_n i v
  have hw := lw_in (i := i)
  have hp : 2 ^ lw i ≤ 2 ^ 52 := Nat.pow_le_pow_right (by decide) hw.2
  have h1 : FP.Core.Small53 (lN n) := by unfold FP.Core.Small53; rw [lN_tI (by omega)]; omega
  have h2 : FP.Core.Small53 (lN (2 ^ lw i)) := by unfold FP.Core.Small53; rw [lN_tI (by omega)]; omega
  rw [one_v, e, Int64.add_comm]
  exact FP.Core.dadd_l2d h1 h2
theorem ex_lt {i : Nat} {v : Int64} (h : ¬ exI i v = lN (2 * lb i + 1)) : ¬ lN (2 * lb i + 1) ≤ exI i v := by
  obtain ⟨n, hn, e⟩ := exI_n i v
  have hl := lb_in (i := i)
  rw [e] at h ⊢
  rw [pk_lLE (by omega) (by omega)]
  rw [pk_lEQ (by omega) (by omega)] at h
  omega
theorem ex_le {i : Nat} {v : Int64} : exI i v ≤ 0 ↔ exI i v = 0 := by
  obtain ⟨n, hn, e⟩ := exI_n i v
  have hl := lb_in (i := i)
  rw [e, lN_0 (by omega), show (0 : Int64) = lN 0 from rfl, pk_lLE (by omega) (by omega)]
  omega
theorem x_sub (a b c : Int32) : a - 1 + (1 - b) - c = a - b - c := by
  rw [Int32.sub_eq_add_neg a 1, Int32.sub_eq_add_neg 1 b, Int32.add_assoc a, ← Int32.add_assoc (-1), show (-1 : Int32) + 1 = 0 from rfl, Int32.zero_add, ← Int32.sub_eq_add_neg]
def nd : Nat → Int32
  | 0 => 0
  | n + 1 => -nI (n + 1)
theorem nd_eq (n : Nat) : nd n = -nI n := by cases n <;> rfl
theorem nd_s (n : Nat) : nd n + (-1) = nd (n + 1) := by rw [nd_eq, nd_eq, dn_s]
theorem nd_le {s : Int32} {i : Nat} (hi : i ≤ (-s.toInt).toNat) (h : (-s.toInt).toNat < 2 ^ 30) : nd i ≤ s ↔ (-s.toInt).toNat ≤ i := by rw [nd_eq]; exact dn_le hi h
theorem up_ge {s : Int32} {i : Nat} (hi : i ≤ s.toInt.toNat) : s ≤ nI i ↔ s.toInt.toNat ≤ i := by
  rw [← Int32.not_lt, up_lt hi]; omega
def xd (x : Nat) : Nat → Int32
  | 0 => nI x
  | y + 1 => nI x - nI (y + 1)
theorem xd_eq (x y : Nat) : xd x y = nI x - nI y := by
  cases y with
  | zero => exact (Int32.sub_zero _).symm
  | succ y => rfl
theorem xd_s (x y : Nat) : xd x y + (-1) = xd x (y + 1) := by
  rw [xd_eq, xd_eq, ← nI_1, Int32.sub_eq_add_neg, Int32.sub_eq_add_neg, Int32.neg_add, Int32.sub_eq_add_neg (-nI y), Int32.add_assoc]
theorem xd_toInt {x y : Nat} (hx : x ≤ 2000) (hy : y ≤ 4000) : (xd x y).toInt = (x : Int) - y := by
  rw [xd_eq, Int32.toInt_sub, nI_toInt (by omega), nI_toInt (by omega)]
  simp only [Int.bmod_def]
  split <;> omega
theorem lst_toInt {i : Nat} : (1 - nI (lb i)).toInt = 1 - (lb i : Int) := by
  have hl := lb_in (i := i)
  rw [Int32.toInt_sub, nI_toInt (by omega), show (1 : Int32).toInt = 1 from rfl]
  simp only [Int.bmod_def]
  split <;> omega
theorem xd_le {x y i : Nat} (hx : x ≤ 2000) (hy : y ≤ x + lb i - 1) : xd x y ≤ 1 - nI (lb i) ↔ x + lb i - 1 ≤ y := by
  have hl := lb_in (i := i)
  rw [Int32.le_iff_toInt_le, xd_toInt hx (by omega), lst_toInt]
  omega
def rbv (i : Nat) (b : UInt64) : UInt64 × Nat := dv ((hv 2000 b).2 + lb i - 1) (hv 2000 b).1
def rbe (i : Nat) (b : UInt64) : Int64 :=
  if 0 < Op.cmpValue (FP.dcmp b DM) .g then lN (2 * lb i + 1)
  else if 0 ≤ Op.cmpValue (FP.dcmp (rbv i b).1 FP.dconst1) .g then (xd (hv 2000 b).2 (rbv i b).2 - (1 - nI (lb i))).toInt64 + 1 else 0
def rbp (i : Nat) (b : UInt64) : Int64 :=
  if 0 < Op.cmpValue (FP.dcmp b DM) .g then 0
  else if 0 ≤ Op.cmpValue (FP.dcmp (rbv i b).1 FP.dconst1) .g then FP.d2l (FP.dmul (FP.dsub (rbv i b).1 FP.dconst1) (FP.l2d ((1 : Int64) <<< ((nI (lw i)).toInt64 &&& 63))))
  else FP.d2l (FP.dmul (rbv i b).1 (FP.l2d ((1 : Int64) <<< ((nI (lw i)).toInt64 &&& 63))))
def rbo (i : Nat) (a : UInt64) : Int64 :=
  if Op.cmpValue (FP.dcmp a FP.dconst0) .l = 0 then 0
  else if 0 ≤ Op.cmpValue (FP.dcmp a FP.dconst0) .g then (0 ||| (rbe i a <<< ((nI (lw i)).toInt64 &&& 63))) ||| rbp i a
  else (((lN (2 * lb i + 1) + 1) <<< ((nI (lw i)).toInt64 &&& 63)) ||| (rbe i (FP.dneg a) <<< ((nI (lw i)).toInt64 &&& 63))) ||| rbp i (FP.dneg a)
theorem onz_v {i : Nat} : ¬ (1 : Int64) <<< ((nI (lw i)).toInt64 &&& 63) = 0 := by rw [one_v]; exact one_nz
theorem sc_bx {i n : Nat} (h : n ≤ 2047) : ((lN n).toInt32 - nI (lb i) - nI (lw i)).toInt.natAbs < 2 ^ 30 := by
  have hl := lb_in (i := i)
  have hw := lw_in (i := i)
  rw [lN_i, Int32.toInt_sub, Int32.toInt_sub, nI_toInt (by omega), nI_toInt (by omega), nI_toInt (by omega)]
  simp only [Int.bmod_def]
  split <;> split <;> omega
theorem sc_bx0 {i : Nat} : (1 - nI (lb i) - nI (lw i)).toInt.natAbs < 2 ^ 30 := by
  have := sc_bx (i := i) (n := 1) (by omega)
  rw [lN_i] at this
  exact this
theorem sc_bxe {i : Nat} {v : Int64} : ((exI i v).toInt32 - nI (lb i) - nI (lw i)).toInt.natAbs < 2 ^ 30 := by
  obtain ⟨n, hn, e⟩ := exI_n i v
  have hl := lb_in (i := i)
  rw [e]; exact sc_bx (by omega)
