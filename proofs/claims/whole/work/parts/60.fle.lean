/-! the reference's bits of a floating value are the class's -/
abbrev uz (c : Nat) (q : Int) : Nat := FP.Core.inUnits c q FP.Core.b64.qmin
abbrev o64 : Nat := FP.Core.one64
theorem uz_eq (c : Nat) (q : Int) : uz c q = c * 2 ^ (q + 1074).toNat := by
  unfold uz FP.Core.inUnits
  rw [FP.Core.qmin_b64, show q - -1074 = q + 1074 by omega]
theorem o64_eq : o64 = 2 ^ 1074 := rfl
theorem o64_big : 2 ^ 53 ≤ o64 := by rw [o64_eq]; exact Nat.pow_le_pow_right (by decide) (by decide)
theorem b_fits {a : UInt64} {s : Bool} {c : Nat} {q : Int} (h : FP.Core.val64 a = .fin s c q) : c < 2 ^ 53 ∧ -1074 ≤ q ∧ q ≤ 971 ∧ (q = -1074 ∨ 2 ^ 52 ≤ c) := by
  have h1 := FP.Core.val64_fits a
  rw [h] at h1
  exact h1
theorem sc_val {a b : UInt64} {s : Bool} {c : Nat} {q k : Int} (ha : FP.Core.val64 a = .fin s c q) (hb : FP.Core.val64 b = .fin false (2 ^ 52) (k - 52)) : FP.Core.val64 (FP.dmul a b) = FP.Core.round FP.Core.b64 (.fin s c (q + k)) := by
  have h := FP.Core.val64_dmul a b
  rw [ha, hb] at h
  have e1 : (s != false) = s := by cases s <;> rfl
  have e2 : FP.Core.inUnits c (q + k) (q + k - 52) = c * 2 ^ 52 := by
    unfold FP.Core.inUnits
    rw [show (q + k - (q + k - 52)).toNat = 52 by omega]
  have e3 : FP.Core.exactProduct (.fin s c q) (.fin false (2 ^ 52) (k - 52)) = .fin s (FP.Core.inUnits c (q + k) (q + k - 52)) (q + k - 52) := by
    show FP.Core.Datum.fin (s != false) (c * 2 ^ 52) (q + (k - 52)) = _
    rw [e1, e2, show q + (k - 52) = q + k - 52 by omega]
  rw [e3] at h
  exact h.trans (FP.Core.round_inUnits s c (by omega))
theorem sc_u {a b : UInt64} {s : Bool} {c : Nat} {q k : Int} (ha : FP.Core.val64 a = .fin s c q) (hb : FP.Core.val64 b = .fin false (2 ^ 52) (k - 52)) (h1 : -1074 ≤ q + k) (h2 : q + k ≤ 971) :
    ∃ c' q', FP.Core.val64 (FP.dmul a b) = .fin s c' q' ∧ uz c' q' = uz c (q + k) := by
  obtain ⟨c', q', e1, e2⟩ := FP.Core.round_exact FP.Core.good_b64 s (c := c) (q := q + k) (b_fits ha).1 h1 h2
  exact ⟨c', q', (sc_val ha hb).trans e1, e2⟩
theorem v_D2 : FP.Core.val64 D2 = .fin false (2 ^ 52) (1 - 52) := by decide +kernel
theorem v_DH : FP.Core.val64 DH = .fin false (2 ^ 52) (-1 - 52) := by decide +kernel
theorem v_w {i : Nat} (hi : i < 2) : FP.Core.val64 (FP.l2d (lN (2 ^ lw i))) = .fin false (2 ^ 52) ((lw i : Int) - 52) := by
  rcases (show i = 0 ∨ i = 1 by omega) with rfl | rfl <;> decide +kernel
theorem z_fin {a : UInt64} {c : Nat} {q : Int} (h : FP.Core.val64 a = .fin false c q) : FP.Core.zval FP.Core.b64 (FP.Core.val64 a) = ((uz c q : Nat) : Int) := by rw [h]; rfl
theorem z_D2 : FP.Core.zval FP.Core.b64 (FP.Core.val64 D2) = ((2 * o64 : Nat) : Int) := by decide +kernel
theorem z_D1 : FP.Core.zval FP.Core.b64 (FP.Core.val64 FP.dconst1) = ((o64 : Nat) : Int) := by decide +kernel
theorem nn_fin {a : UInt64} {s : Bool} {c : Nat} {q : Int} (h : FP.Core.val64 a = .fin s c q) : FP.Core.val64 a ≠ .nan := by rw [h]; exact FP.Core.Datum.noConfusion
theorem nn_D2 : FP.Core.val64 D2 ≠ .nan := nn_fin v_D2
theorem nn_D1 : FP.Core.val64 FP.dconst1 ≠ .nan := nn_fin FP.Core.val64_dconst1
theorem clt2 {a : UInt64} {c : Nat} {q : Int} (h : FP.Core.val64 a = .fin false c q) : Op.cmpValue (FP.dcmp a D2) .l < 0 ↔ uz c q < 2 * o64 := by
  have hn := nn_fin h
  constructor
  · intro hc
    by_cases hz : uz c q < 2 * o64
    · exact hz
    · exfalso
      have h1 := FP.Core.dcmp_ge.mpr ⟨hn, nn_D2, by rw [z_fin h, z_D2]; omega⟩
      rcases h1 with h1 | h1
      · rw [show FP.dcmp a D2 = some .gt from h1] at hc; exact absurd hc (by decide)
      · rw [show FP.dcmp a D2 = some .eq from h1] at hc; exact absurd hc (by decide)
  · intro hz
    rw [show FP.dcmp a D2 = some .lt from FP.Core.dcmp_lt.mpr ⟨hn, nn_D2, by rw [z_fin h, z_D2]; omega⟩]
    decide
theorem cge1 {a : UInt64} {c : Nat} {q : Int} (h : FP.Core.val64 a = .fin false c q) : 0 ≤ Op.cmpValue (FP.dcmp a FP.dconst1) .g ↔ o64 ≤ uz c q := by
  have hn := nn_fin h
  constructor
  · intro hc
    by_cases hz : o64 ≤ uz c q
    · exact hz
    · exfalso
      rw [show FP.dcmp a FP.dconst1 = some .lt from FP.Core.dcmp_lt.mpr ⟨hn, nn_D1, by rw [z_fin h, z_D1]; omega⟩] at hc
      exact absurd hc (by decide)
  · intro hz
    have h1 := FP.Core.dcmp_ge.mpr ⟨hn, nn_D1, by rw [z_fin h, z_D1]; omega⟩
    rcases h1 with h1 | h1
    · rw [show FP.dcmp a FP.dconst1 = some .gt from h1]; decide
    · rw [show FP.dcmp a FP.dconst1 = some .eq from h1]; decide
theorem uz_up {c : Nat} {q : Int} (hq : -1074 ≤ q) : uz c (q + 1) = 2 * uz c q := by
  rw [uz_eq, uz_eq, show (q + 1 + 1074).toNat = (q + 1074).toNat + 1 by omega, Nat.pow_succ, ← Nat.mul_assoc, Nat.mul_comm]
theorem hv_lt : ∀ (n : Nat) (a : UInt64) (c : Nat) (q : Int), FP.Core.val64 a = .fin false c q → uz c q < 2 ^ (n + 1) * o64 → ∃ c' q', FP.Core.val64 (hv n a).1 = .fin false c' q' ∧ uz c' q' < 2 * o64 := by
  intro n
  induction n with
  | zero => intro a c q h hu; exact ⟨c, q, h, by rw [Nat.zero_add, Nat.pow_one] at hu; exact hu⟩
  | succ n ih =>
    intro a c q h hu
    by_cases hc : Op.cmpValue (FP.dcmp a D2) .l < 0
    · rw [hv_e hc]; exact ⟨c, q, h, (clt2 h).mp hc⟩
    · rw [hv_s (by omega) hc]
      have hf := b_fits h
      have hz : ¬ uz c q < 2 * o64 := fun z => hc ((clt2 h).mpr z)
      have hb := o64_big
      have hq : -1074 < q := by
        rcases Int.lt_or_eq_of_le hf.2.1 with r | r
        · exact r
        · exfalso
          rw [uz_eq, ← r] at hz
          have : c * 2 ^ ((-1074 : Int) + 1074).toNat = c := by simp
          omega
      obtain ⟨c', q', e1, e2⟩ := sc_u (k := -1) h v_DH (by omega) (by omega)
      have e3 := uz_up (c := c) (q := q + -1) (by omega)
      rw [show q + -1 + 1 = q by omega] at e3
      have e4 : 2 ^ (n + 1 + 1) * o64 = 2 * (2 ^ (n + 1) * o64) := by rw [Nat.pow_succ 2 (n + 1), Nat.mul_comm (2 ^ (n + 1)) 2, Nat.mul_assoc]
      exact ih _ c' q' e1 (by omega)
theorem uz_neg {c : Nat} {q : Int} {K : Nat} (hc : 0 < c) (h : uz c q < 2 ^ K) : (q + 1074).toNat < K := by
  rw [uz_eq] at h
  by_cases z : (q + 1074).toNat < K
  · exact z
  · exfalso
    have h1 : 2 ^ K ≤ 2 ^ (q + 1074).toNat := Nat.pow_le_pow_right (by decide) (by omega)
    have h2 : 2 ^ (q + 1074).toNat ≤ c * 2 ^ (q + 1074).toNat := Nat.le_mul_of_pos_left _ hc
    omega
theorem q_small {a : UInt64} {s : Bool} {c : Nat} {q : Int} (h : FP.Core.val64 a = .fin s c q) (hu : uz c q < 2 ^ 1074) : q < 0 := by
  have hf := b_fits h
  by_cases hc : c = 0
  · rcases hf.2.2.2 with r | r <;> omega
  · have := uz_neg (by omega) hu
    omega
theorem dv_lt : ∀ (n : Nat) (a : UInt64) (c : Nat) (q : Int), FP.Core.val64 a = .fin false c q → uz c q < 2 * o64 → ∃ c' q', FP.Core.val64 (dv n a).1 = .fin false c' q' ∧ uz c' q' < 2 * o64 := by
  intro n
  induction n with
  | zero => intro a c q h hu; exact ⟨c, q, h, hu⟩
  | succ n ih =>
    intro a c q h hu
    by_cases hc : 0 ≤ Op.cmpValue (FP.dcmp a FP.dconst1) .g
    · rw [dv_e hc]; exact ⟨c, q, h, hu⟩
    · rw [dv_s (by omega) hc]
      have hf := b_fits h
      have hz : ¬ o64 ≤ uz c q := fun z => hc ((cge1 h).mpr z)
      have hq := q_small h (show uz c q < 2 ^ 1074 by rw [← o64_eq]; omega)
      obtain ⟨c', q', e1, e2⟩ := sc_u (k := 1) h v_D2 (by omega) (by omega)
      have e3 := uz_up (c := c) (q := q) (by omega)
      exact ih _ c' q' e1 (by omega)
theorem unit_q {a : UInt64} {c : Nat} {q : Int} (h : FP.Core.val64 a = .fin false c q) (h1 : o64 ≤ uz c q) (h2 : uz c q < 2 * o64) : q = -52 ∧ 2 ^ 52 ≤ c ∧ c < 2 ^ 53 := by
  have hf := b_fits h
  have hb := o64_big
  have hc : 2 ^ 52 ≤ c := by
    rcases hf.2.2.2 with r | r
    · exfalso
      rw [uz_eq, r] at h1
      have : c * 2 ^ ((-1074 : Int) + 1074).toNat = c := by simp
      have hx : (2 : Nat) ^ 53 < o64 := by rw [o64_eq]; exact Nat.pow_lt_pow_right (by decide) (by decide)
      omega
    · exact r
  refine ⟨?_, hc, hf.1⟩
  rw [uz_eq] at h1 h2
  have g1 : ¬ 1023 ≤ (q + 1074).toNat := fun z => by
    have a1 : 2 ^ 1023 ≤ 2 ^ (q + 1074).toNat := Nat.pow_le_pow_right (by decide) z
    have a2 : 2 ^ 52 * 2 ^ 1023 ≤ c * 2 ^ (q + 1074).toNat := Nat.mul_le_mul hc a1
    have a3 : 2 ^ 52 * 2 ^ 1023 = 2 * o64 := by rw [o64_eq, ← Nat.pow_add, ← Nat.pow_succ']
    omega
  have g2 : ¬ (q + 1074).toNat ≤ 1021 := fun z => by
    have a1 : 2 ^ (q + 1074).toNat ≤ 2 ^ 1021 := Nat.pow_le_pow_right (by decide) z
    have a2 : c * 2 ^ (q + 1074).toNat ≤ c * 2 ^ 1021 := Nat.mul_le_mul_left _ a1
    have a3 : c * 2 ^ 1021 < 2 ^ 53 * 2 ^ 1021 := Nat.mul_lt_mul_of_pos_right hf.1 (Nat.two_pow_pos _)
    have a4 : 2 ^ 53 * 2 ^ 1021 = o64 := by rw [o64_eq, ← Nat.pow_add]
    omega
  omega
theorem part_lt {r : UInt64} {c : Nat} {q : Int} (h : FP.Core.val64 r = .fin false c q) (h1 : o64 ≤ uz c q) (h2 : uz c q < 2 * o64) {i : Nat} (hi : i < 2) :
    ∃ P : Nat, P < 2 ^ lw i ∧ FP.d2l (FP.dmul (FP.dsub r FP.dconst1) (FP.l2d (lN (2 ^ lw i)))) = lN P := by
  obtain ⟨rfl, hc1, hc2⟩ := unit_q h h1 h2
  have hw := lw_in (i := i)
  have hs : FP.Core.exactSum (.fin false c (-52)) (.fin true (2 ^ 52) (-52)) = .fin false (c - 2 ^ 52) (-52) := by
    have e1 : FP.Core.sumUnits false c (-52) true (2 ^ 52) (-52) (min (-52) (-52)) = ((c - 2 ^ 52 : Nat) : Int) := by
      show FP.Core.signed false (FP.Core.inUnits c (-52) (min (-52) (-52))) + FP.Core.signed true (FP.Core.inUnits (2 ^ 52) (-52) (min (-52) (-52))) = _
      have e2 : ∀ x : Nat, FP.Core.inUnits x (-52) (min (-52) (-52)) = x := by
        intro x
        unfold FP.Core.inUnits
        rw [show ((-52 : Int) - min (-52) (-52)).toNat = 0 by omega]
        simp
      rw [e2, e2]
      show (c : Int) + -((2 ^ 52 : Nat) : Int) = _
      omega
    show FP.Core.Datum.fin (FP.Core.sumSign false true (FP.Core.sumUnits false c (-52) true (2 ^ 52) (-52) (min (-52) (-52)))) (FP.Core.sumUnits false c (-52) true (2 ^ 52) (-52) (min (-52) (-52))).natAbs (min (-52) (-52)) = _
    rw [e1]
    have e3 : FP.Core.sumSign false true ((c - 2 ^ 52 : Nat) : Int) = false := by
      unfold FP.Core.sumSign
      split
      · rfl
      · exact decide_eq_false (by omega)
    rw [e3, Int.natAbs_natCast]
    rfl
  have hv1 : FP.Core.val64 (FP.dsub r FP.dconst1) = FP.Core.round FP.Core.b64 (.fin false (c - 2 ^ 52) (-52)) := by
    have e := FP.Core.val64_dsub r FP.dconst1
    rw [h, show FP.Core.val64 FP.dconst1 = .fin false (2 ^ 52) (-52) from FP.Core.val64_dconst1] at e
    rw [← hs]
    exact e
  obtain ⟨c1, q1, e1, u1⟩ := FP.Core.round_exact FP.Core.good_b64 false (c := c - 2 ^ 52) (q := -52) (show c - 2 ^ 52 < 2 ^ 53 by omega) (show (-1074 : Int) ≤ -52 by decide) (show (-52 : Int) ≤ 971 by decide)
  rw [e1] at hv1
  have u1' : uz c1 q1 = (c - 2 ^ 52) * 2 ^ 1022 := u1.trans (uz_eq _ _)
  have u1l : uz c1 q1 < 2 ^ 1074 := by
    rw [u1', show 2 ^ 1074 = 2 ^ 52 * 2 ^ 1022 by rw [← Nat.pow_add]]
    exact Nat.mul_lt_mul_of_pos_right (by omega) (Nat.two_pow_pos _)
  have hq1 := q_small hv1 u1l
  have hf1 := b_fits hv1
  obtain ⟨c2, q2, e2, u2⟩ := sc_u (k := (lw i : Int)) hv1 (v_w hi) (by omega) (by omega)
  have u2' : uz c2 q2 = uz c1 q1 * 2 ^ lw i := by
    rw [u2, uz_eq, uz_eq, show (q1 + (lw i : Int) + 1074).toNat = (q1 + 1074).toNat + lw i by omega, Nat.pow_add, Nat.mul_assoc]
  have hd := FP.Core.d2l_val (nn_fin e2)
  have hz : FP.Core.zmag FP.Core.b64 (FP.Core.val64 (FP.dmul (FP.dsub r FP.dconst1) (FP.l2d (lN (2 ^ lw i))))) = uz c2 q2 := by rw [e2]; rfl
  have hsg : FP.Core.sgn (FP.Core.val64 (FP.dmul (FP.dsub r FP.dconst1) (FP.l2d (lN (2 ^ lw i))))) = false := by rw [e2]; rfl
  rw [hz, hsg] at hd
  have hP : uz c2 q2 / o64 < 2 ^ lw i := by
    apply Nat.div_lt_of_lt_mul
    rw [u2', o64_eq]
    exact Nat.mul_lt_mul_of_pos_right u1l (Nat.two_pow_pos _)
  have hp : 2 ^ lw i ≤ 2 ^ 52 := Nat.pow_le_pow_right (by decide) hw.2
  refine ⟨uz c2 q2 / o64, hP, ?_⟩
  apply Int64.toInt_inj.mp
  rw [lN_tI (by omega)]
  refine hd.trans ?_
  have key : ∀ P : Nat, P < 2 ^ 52 → max (-2 ^ 63 : Int) (min (2 ^ 63 - 1) (P : Int)) = P := by intro P h; omega
  exact key _ (Nat.lt_of_lt_of_le hP hp)
/-- between 1 and 2, or less than 1 at the end: the loops of both, and the parts -/
theorem or_0 (x : Int64) : x ||| 0 = x := by
  apply Int64.toBitVec_inj.mp
  rw [Int64.toBitVec_or]
  show x.toBitVec ||| 0#64 = _
  exact BitVec.or_zero
theorem zero_or (x : Int64) : 0 ||| x = x := by
  apply Int64.toBitVec_inj.mp
  rw [Int64.toBitVec_or]
  show 0#64 ||| x.toBitVec = _
  exact BitVec.zero_or
theorem or_as (x y z : Int64) : x ||| y ||| z = x ||| (y ||| z) := by
  apply Int64.toBitVec_inj.mp
  rw [Int64.toBitVec_or, Int64.toBitVec_or, Int64.toBitVec_or, Int64.toBitVec_or, BitVec.or_assoc]
theorem v_DM : FP.Core.val64 DM = .fin false (2 ^ 53 - 1) 971 := by decide +kernel
theorem cm_iff {b : UInt64} (hN : dN b) : Op.cmpValue (FP.dcmp b DM) .l ≤ 0 ↔ ¬ 0 < Op.cmpValue (FP.dcmp b DM) .g := by
  obtain ⟨r, e⟩ := FP.Core.dcmp_of_notNaN (a := b) (b := DM) hN (dN_v.mpr (nn_fin v_DM))
  rw [show FP.dcmp b DM = some r from e]
  cases r <;> decide
theorem cm_inf {b : UInt64} (h : FP.Core.val64 b = .inf false) : 0 < Op.cmpValue (FP.dcmp b DM) .g := by
  have e : FP.dcmp b DM = some .gt := by
    show FP.Core.order (FP.Core.val64 b) (FP.Core.val64 DM) = _
    rw [h, v_DM]
    rfl
  rw [e]; decide
theorem mag_eq {i : Nat} (hi : i < 2) {b : UInt64} (hN : dN b) (hs : (∃ c q, FP.Core.val64 b = .fin false c q) ∨ FP.Core.val64 b = .inf false)
    (hbd : ∀ c q, FP.Core.val64 b = .fin false c q → uz c q < 2 ^ (lb i + 1) * o64) :
    (rbe i b <<< ((nI (lw i)).toInt64 &&& 63)) ||| rbp i b = mgb i b := by
  have hl := lb_in (i := i)
  have hw := lw_in (i := i)
  have hp : 2 ^ lw i ≤ 2 ^ 52 := Nat.pow_le_pow_right (by decide) hw.2
  by_cases hm : 0 < Op.cmpValue (FP.dcmp b DM) .g
  · rw [rbe, if_pos hm, rbp, if_pos hm, mgb, if_neg (fun z => (cm_iff hN).mp z hm), or_0, wb_shl _ (by omega), on_v, lN_mul]
  · obtain ⟨c, q, hv0⟩ : ∃ c q, FP.Core.val64 b = .fin false c q := by
      rcases hs with hs | hs
      · exact hs
      · exact absurd (cm_inf hs) hm
    obtain ⟨c1, q1, e1, u1⟩ := hv_lt (lb i) b c q hv0 (hbd c q hv0)
    have eh : hv 2000 b = hv (lb i) b := hv_more _ _ _ (by omega) ((clt2 e1).mpr u1)
    obtain ⟨c2, q2, e2, u2⟩ := dv_lt (lb i + (hv (lb i) b).2 - 1) _ c1 q1 e1 u1
    have ev : rbv i b = mgv i b := by rw [rbv, mgv, eh, Nat.add_comm]
    have e2' : FP.Core.val64 (mgv i b).1 = .fin false c2 q2 := e2
    rw [rbe, if_neg hm, rbp, if_neg hm, mgb, if_pos ((cm_iff hN).mpr hm), ev, eh, one_v]
    by_cases hg : 0 ≤ Op.cmpValue (FP.dcmp (mgv i b).1 FP.dconst1) .g
    · rw [if_pos hg, if_pos hg, if_pos hg]
      obtain ⟨P, hP, eP⟩ := part_lt e2' ((cge1 e2').mp hg) u2 hi
      have hx := hv_le (lb i) b
      have hy : (mgv i b).2 ≤ lb i + (hv (lb i) b).2 - 1 := dv_le _ _
      have eE : (xd (hv (lb i) b).2 (mgv i b).2 - (1 - nI (lb i))).toInt64 + 1 = lN (lb i + (hv (lb i) b).2 - (mgv i b).2) := by
        apply Int64.toInt_inj.mp
        rw [Int64.toInt_add, Int32.toInt_toInt64, Int32.toInt_sub, xd_toInt (by omega) (by omega), lst_toInt, lN_tI (by omega), show (1 : Int64).toInt = 1 from rfl]
        simp only [Int.bmod_def]
        split <;> split <;> omega
      have hE : lb i + (hv (lb i) b).2 - (mgv i b).2 ≤ 2046 := by omega
      have hb : (lb i + (hv (lb i) b).2 - (mgv i b).2) * 2 ^ lw i + P < 2 ^ 64 := by
        have g1 : (lb i + (hv (lb i) b).2 - (mgv i b).2) * 2 ^ lw i ≤ 2046 * 2 ^ 52 := Nat.mul_le_mul hE hp
        omega
      rw [eE, eP, wb_shl _ (by omega), g_or rfl hP hb, nI_l (by omega), lN_mul, lN_add]
    · rw [if_neg hg, if_neg hg, if_neg hg]
      have e0 : (0 : Int64) <<< ((nI (lw i)).toInt64 &&& 63) = 0 := by
        have := wb_shl 0 (k := lw i) (by omega)
        rw [Nat.zero_mul] at this
        exact this
      rw [e0, zero_or]
theorem pos_shape {b : UInt64} (h : FP.dcmp b FP.dconst0 = some .gt) : (∃ c q, FP.Core.val64 b = .fin false c q) ∨ FP.Core.val64 b = .inf false := by
  obtain ⟨h1, _, h3⟩ := FP.Core.dcmp_gt.mp h
  have hz : FP.Core.zval FP.Core.b64 (FP.Core.val64 FP.dconst0) = 0 := FP.Core.zval64_zero
  rw [hz] at h3
  cases hv : FP.Core.val64 b with
  | nan => exact absurd hv h1
  | inf s =>
    cases s with
    | false => exact Or.inr rfl
    | true => rw [hv] at h3; exact absurd h3 (by decide +kernel)
  | fin s c q =>
    cases s with
    | false => exact Or.inl ⟨c, q, rfl⟩
    | true =>
      exfalso
      rw [hv] at h3
      have : FP.Core.zval FP.Core.b64 (.fin true c q) = -((uz c q : Nat) : Int) := rfl
      omega
theorem neg_shape {a : UInt64} (h : FP.dcmp a FP.dconst0 = some .lt) : (∃ c q, FP.Core.val64 (FP.dneg a) = .fin false c q) ∨ FP.Core.val64 (FP.dneg a) = .inf false := by
  obtain ⟨h1, _, h3⟩ := FP.Core.dcmp_lt.mp h
  have hz : FP.Core.zval FP.Core.b64 (FP.Core.val64 FP.dconst0) = 0 := FP.Core.zval64_zero
  rw [hz] at h3
  rw [FP.val64_dneg]
  cases hv : FP.Core.val64 a with
  | nan => exact absurd hv h1
  | inf s =>
    cases s with
    | true => exact Or.inr rfl
    | false => rw [hv] at h3; exact absurd h3 (by decide +kernel)
  | fin s c q =>
    cases s with
    | true => exact Or.inl ⟨c, q, rfl⟩
    | false =>
      exfalso
      rw [hv] at h3
      have : FP.Core.zval FP.Core.b64 (.fin false c q) = ((uz c q : Nat) : Int) := rfl
      omega
theorem sign_v {i : Nat} (hi : i < 2) : (lN (2 * lb i + 1) + 1) <<< ((nI (lw i)).toInt64 &&& 63) = (1 : Int64) <<< ((nI (8 * lz i) - 1).toInt64 &&& 63) := by
  rcases (show i = 0 ∨ i = 1 by omega) with rfl | rfl <;> decide +kernel
/-- bound on a magnitude: what the halving loop needs -/
def mbd (i : Nat) (a : UInt64) : Prop := ∀ s c q, FP.Core.val64 a = .fin s c q → uz c q < 2 ^ (lb i + 1) * o64
theorem bits_eq {i : Nat} (hi : i < 2) {a : UInt64} (hN : dN a) (hb : mbd i a) : rbo i a = bof i a := by
  have hv0 : FP.Core.val64 FP.dconst0 ≠ .nan := dN_v.mp D0_N
  obtain ⟨r, e⟩ := FP.Core.dcmp_of_notNaN (a := a) (b := FP.dconst0) hN D0_N
  have e : FP.dcmp a FP.dconst0 = some r := e
  unfold rbo bof
  cases r with
  | eq => rw [e, if_pos (by decide), if_pos (by decide)]
  | gt =>
    have hm := mag_eq hi hN (pos_shape e) (fun c q h => hb _ c q h)
    rw [e, if_neg (by decide), if_pos (by decide), if_neg (by decide), if_pos (by decide), zero_or]
    exact hm
  | lt =>
    have hm := mag_eq hi (dN_neg hN) (neg_shape e) (fun c q h => by
      rw [FP.val64_dneg] at h
      cases hv : FP.Core.val64 a with
      | nan => rw [hv] at h; exact absurd h (by exact FP.Core.Datum.noConfusion)
      | inf s => rw [hv] at h; exact absurd h (by exact FP.Core.Datum.noConfusion)
      | fin s c' q' =>
        rw [hv] at h
        have h9 := hb s c' q' hv
        injection h with _ ha hb'
        subst ha; subst hb'
        exact h9)
    rw [e, if_neg (by decide), if_neg (by decide), if_neg (by decide), if_neg (by decide), sign_v hi, or_as, hm]
theorem mbd_1 (a : UInt64) : mbd 1 a := by
  intro s c q h
  have hf := b_fits h
  rw [uz_eq, show lb 1 = 1023 from rfl, o64_eq, ← Nat.pow_add]
  have a1 : 2 ^ (q + 1074).toNat ≤ 2 ^ 2045 := Nat.pow_le_pow_right (by decide) (by omega)
  have a2 : c * 2 ^ (q + 1074).toNat ≤ c * 2 ^ 2045 := Nat.mul_le_mul_left _ a1
  have a3 : c * 2 ^ 2045 < 2 ^ 53 * 2 ^ 2045 := Nat.mul_lt_mul_of_pos_right hf.1 (Nat.two_pow_pos _)
  rw [← Nat.pow_add] at a3
  exact Nat.lt_of_le_of_lt a2 a3
theorem mbd_0 {w : UInt32} (hw : fN w) : mbd 0 (FP.f2d w) := by
  intro s c q h
  rw [FP.f2d_core hw, FP.Core.val64_f2d] at h
  have hfit := FP.Core.val32_fits w
  cases hv : FP.Core.val32 w with
  | nan => exact absurd hv (fN_v.mp hw)
  | inf s' => rw [hv] at h; exact absurd h (by exact FP.Core.Datum.noConfusion)
  | fin s' c' q' =>
    rw [hv] at h hfit
    obtain ⟨f1, f2, f3, _⟩ := hfit
    have f1 : c' < 2 ^ 24 := f1
    have f2 : -149 ≤ q' := f2
    have f3 : q' ≤ 104 := f3
    obtain ⟨c1, q1, e1, u1⟩ := FP.Core.round_exact FP.Core.good_b64 s' (c := c') (q := q') (show c' < 2 ^ 53 by omega) (show (-1074 : Int) ≤ q' by omega) (show q' ≤ (971 : Int) by omega)
    rw [e1] at h
    injection h with _ ha hb'
    subst ha; subst hb'
    have u1 : uz c1 q1 = uz c' q' := u1
    rw [u1, uz_eq, show lb 0 = 127 from rfl, o64_eq, ← Nat.pow_add]
    have a1 : 2 ^ (q' + 1074).toNat ≤ 2 ^ 1178 := Nat.pow_le_pow_right (by decide) (by omega)
    have a2 : c' * 2 ^ (q' + 1074).toNat ≤ c' * 2 ^ 1178 := Nat.mul_le_mul_left _ a1
    have a3 : c' * 2 ^ 1178 < 2 ^ 24 * 2 ^ 1178 := Nat.mul_lt_mul_of_pos_right f1 (Nat.two_pow_pos _)
    rw [← Nat.pow_add] at a3
    exact Nat.lt_of_le_of_lt a2 a3
