/-! floating values: what is no NaN stays none; halving, doubling, whole powers of two -/
abbrev D2 : UInt64 := 4611686018427387904
abbrev DH : UInt64 := 4602678819172646912
abbrev DM : UInt64 := 9218868437227405311
abbrev DI : UInt64 := 9218868437227405312
abbrev FH : UInt32 := 1056964608
def dN (a : UInt64) : Prop := FP.dIsNaN a = false
def fN (a : UInt32) : Prop := FP.fIsNaN a = false
theorem dN_v {a : UInt64} : dN a ↔ FP.Core.val64 a ≠ .nan := FP.Core.notNaN_iff a
theorem fN_v {a : UInt32} : fN a ↔ FP.Core.val32 a ≠ .nan := FP.Core.notNaN_iff32 a
theorem dN_n {a : UInt64} (h : dN a) : vf_n64 a := by
  have h1 := (FP.Core.ne_nan a).mp (dN_v.mp h)
  unfold vf_n64
  rw [UInt64.le_iff_toNat_le, FP.Core.mask_toNat]
  exact h1
theorem fN_n {a : UInt32} (h : fN a) : vf_n32 a := by
  have h1 := (FP.Core.ne_nan32 a).mp (fN_v.mp h)
  unfold vf_n32
  rw [UInt32.le_iff_toNat_le, FP.Core.mask_toNat32]
  exact h1
theorem D2_fin : FP.Core.DFin D2 := (FP.Core.fin_bits _).mpr (by decide)
theorem DH_fin : FP.Core.DFin DH := (FP.Core.fin_bits _).mpr (by decide)
theorem D1_fin : FP.Core.DFin FP.dconst1 := (FP.Core.fin_bits _).mpr (by decide)
theorem D2_nz : ¬ FP.Core.DZero D2 := fun h => absurd ((FP.Core.zero_bits2 _).mp h) (by decide)
theorem DH_nz : ¬ FP.Core.DZero DH := fun h => absurd ((FP.Core.zero_bits2 _).mp h) (by decide)
theorem F2_fin : FP.Core.FFin FP.fconst2 := (FP.Core.fin_bits32 _).mpr (by decide)
theorem FH_fin : FP.Core.FFin FH := (FP.Core.fin_bits32 _).mpr (by decide)
theorem F2_nz : ¬ FP.Core.FZero FP.fconst2 := fun h => absurd ((FP.Core.zero_bits232 _).mp h) (by decide)
theorem FH_nz : ¬ FP.Core.FZero FH := fun h => absurd ((FP.Core.zero_bits232 _).mp h) (by decide)
theorem dN_2 {a : UInt64} (h : dN a) : dN (FP.dmul a D2) := FP.Core.dmul_out' h D2_fin D2_nz
theorem dN_H {a : UInt64} (h : dN a) : dN (FP.dmul a DH) := FP.Core.dmul_out' h DH_fin DH_nz
theorem fN_2 {a : UInt32} (h : fN a) : fN (FP.fmul a FP.fconst2) := FP.Core.fmul_out' h F2_fin F2_nz
theorem fN_H {a : UInt32} (h : fN a) : fN (FP.fmul a FH) := FP.Core.fmul_out' h FH_fin FH_nz
theorem dN_neg {a : UInt64} (h : dN a) : dN (FP.dneg a) := by unfold dN; rw [FP.dneg_nan]; exact h
theorem dN_f2d {a : UInt32} (h : fN a) : dN (FP.f2d a) := by unfold dN; rw [FP.f2d_nan]; exact h
theorem fN_d2f {a : UInt64} (h : dN a) : fN (FP.d2f a) := by unfold fN; rw [FP.d2f_nan]; exact h
theorem dN_l2d (x : Int64) : dN (FP.l2d x) := FP.Core.l2d_notNaN x
theorem dN_sub1 {a : UInt64} (h : dN a) : dN (FP.dsub a FP.dconst1) := FP.Core.dsub_out h D1_fin
theorem dN_mulw {a : UInt64} (h : dN a) {x : Int64} (hx : ¬ x = 0) : dN (FP.dmul a (FP.l2d x)) := FP.Core.dmul_out' h (FP.Core.l2d_fin x) (fun z => FP.Core.l2d_ne_zero hx ((FP.Core.zero_bits2 _).mp z))
theorem cv_self {a : UInt64} (h : dN a) : Op.cmpValue (FP.dcmp a a) .l = 0 := by
  rw [show FP.dcmp a a = some .eq from FP.Core.dcmp_refl h]; rfl
theorem cv_selff {a : UInt32} (h : fN a) : Op.cmpValue (FP.fcmp a a) .l = 0 := by
  rw [show FP.fcmp a a = some .eq from FP.Core.fcmp_refl h]; rfl
-- scaling by twos
def sfl (f : UInt32) : Nat → UInt32 → UInt32
  | 0, v => v
  | n + 1, v => sfl f n (FP.fmul v f)
def sdl (f : UInt64) : Nat → UInt64 → UInt64
  | 0, v => v
  | n + 1, v => sdl f n (FP.dmul v f)
def scF (v : UInt32) (s : Int32) : UInt32 := sfl FH (-s.toInt).toNat (sfl FP.fconst2 s.toInt.toNat v)
def scD (v : UInt64) (s : Int32) : UInt64 := sdl DH (-s.toInt).toNat (sdl D2 s.toInt.toNat v)
theorem sfl_s {f : UInt32} {n : Nat} {v : UInt32} (h : 0 < n) : sfl f n v = sfl f (n - 1) (FP.fmul v f) := by
  obtain ⟨k, rfl⟩ : ∃ k, n = k + 1 := ⟨n - 1, by omega⟩
  rfl
theorem sdl_s {f : UInt64} {n : Nat} {v : UInt64} (h : 0 < n) : sdl f n v = sdl f (n - 1) (FP.dmul v f) := by
  obtain ⟨k, rfl⟩ : ∃ k, n = k + 1 := ⟨n - 1, by omega⟩
  rfl
theorem sfl_N {f : UInt32} (hf : FP.Core.FFin f) (hz : ¬ FP.Core.FZero f) : ∀ (n : Nat) (v : UInt32), fN v → fN (sfl f n v) := by
  intro n
  induction n with
  | zero => intro v h; exact h
  | succ n ih => intro v h; exact ih _ (FP.Core.fmul_out' h hf hz)
theorem sdl_N {f : UInt64} (hf : FP.Core.DFin f) (hz : ¬ FP.Core.DZero f) : ∀ (n : Nat) (v : UInt64), dN v → dN (sdl f n v) := by
  intro n
  induction n with
  | zero => intro v h; exact h
  | succ n ih => intro v h; exact ih _ (FP.Core.dmul_out' h hf hz)
theorem scF_N {v : UInt32} (s : Int32) (h : fN v) : fN (scF v s) := sfl_N FH_fin FH_nz _ _ (sfl_N F2_fin F2_nz _ _ h)
theorem scD_N {v : UInt64} (s : Int32) (h : dN v) : dN (scD v s) := sdl_N DH_fin DH_nz _ _ (sdl_N D2_fin D2_nz _ _ h)
theorem scF_pos {v : UInt32} {s : Int32} {n : Nat} (h : ¬ s ≤ 0) (hn : s.toInt.natAbs = n) : sfl FP.fconst2 n v = scF v s := by
  have h1 : 0 < s.toInt := by rw [Int32.not_le, Int32.lt_iff_toInt_lt] at h; exact h
  unfold scF
  rw [show (-s.toInt).toNat = 0 by omega, show s.toInt.toNat = n by omega]
  rfl
theorem scF_neg {v : UInt32} {s : Int32} {n : Nat} (h : s ≤ 0) (hn : s.toInt.natAbs = n) : sfl FH n v = scF v s := by
  have h1 : s.toInt ≤ 0 := by rw [Int32.le_iff_toInt_le] at h; exact h
  unfold scF
  rw [show s.toInt.toNat = 0 by omega, show (-s.toInt).toNat = n by omega]
  rfl
theorem scD_pos {v : UInt64} {s : Int32} {n : Nat} (h : ¬ s ≤ 0) (hn : s.toInt.natAbs = n) : sdl D2 n v = scD v s := by
  have h1 : 0 < s.toInt := by rw [Int32.not_le, Int32.lt_iff_toInt_lt] at h; exact h
  unfold scD
  rw [show (-s.toInt).toNat = 0 by omega, show s.toInt.toNat = n by omega]
  rfl
theorem scD_neg {v : UInt64} {s : Int32} {n : Nat} (h : s ≤ 0) (hn : s.toInt.natAbs = n) : sdl DH n v = scD v s := by
  have h1 : s.toInt ≤ 0 := by rw [Int32.le_iff_toInt_le] at h; exact h
  unfold scD
  rw [show s.toInt.toNat = 0 by omega, show (-s.toInt).toNat = n by omega]
  rfl
theorem mabs_n {s : Int32} (h : s.toInt.natAbs < 2 ^ 31) : (if 0 ≤ s then s else 0 - s) = nI s.toInt.natAbs := by
  apply Int32.toInt_inj.mp
  rw [nI_toInt h]
  by_cases h0 : 0 ≤ s
  · rw [if_pos h0]
    have : 0 ≤ s.toInt := by rw [Int32.le_iff_toInt_le] at h0; exact h0
    omega
  · rw [if_neg h0, Int32.toInt_sub]
    have : ¬ 0 ≤ s.toInt := fun z => h0 (by rw [Int32.le_iff_toInt_le]; exact z)
    rw [show (0 : Int32).toInt = 0 from rfl]
    simp only [Int.bmod_def]
    split <;> omega
theorem up_lt {s : Int32} {i : Nat} (hi : i ≤ s.toInt.toNat) : nI i < s ↔ i < s.toInt.toNat := by
  have := s.toInt_lt
  rw [Int32.lt_iff_toInt_lt, nI_toInt (by omega)]
  omega
theorem dn_le {s : Int32} {i : Nat} (hi : i ≤ (-s.toInt).toNat) (h : (-s.toInt).toNat < 2 ^ 30) : -nI i ≤ s ↔ (-s.toInt).toNat ≤ i := by
  rw [Int32.le_iff_toInt_le, Int32.toInt_neg, nI_toInt (by omega)]
  simp only [Int.bmod_def]
  split <;> omega
theorem dn_s (i : Nat) : -nI i + (-1) = -nI (i + 1) := by
  rw [← nI_1, Int32.neg_add]
  exact (Int32.sub_eq_add_neg _ _).symm
theorem dn_0 : (0 : Int32) = -nI 0 := rfl
-- the layouts' numbers
def lb (i : Nat) : Nat := if i = 0 then 127 else 1023
def lw (i : Nat) : Nat := if i = 0 then 23 else 52
def lz (i : Nat) : Nat := if i = 0 then 4 else 8
theorem l_cases {i : Nat} (h : i < 2) : (i = 0 ∧ lb i = 127 ∧ lw i = 23 ∧ lz i = 4) ∨ (i = 1 ∧ lb i = 1023 ∧ lw i = 52 ∧ lz i = 8) := by
  rcases (show i = 0 ∨ i = 1 by omega) with rfl | rfl
  · exact Or.inl ⟨rfl, rfl, rfl, rfl⟩
  · exact Or.inr ⟨rfl, rfl, rfl, rfl⟩
theorem lz_v {i : Nat} (h : i < 2) : ([4, 8] : List Int32).getD i 0 = nI (lz i) := by rcases (show i = 0 ∨ i = 1 by omega) with rfl | rfl <;> rfl
theorem lb_v {i : Nat} (h : i < 2) : ([127, 1023] : List Int32).getD i 0 = nI (lb i) := by rcases (show i = 0 ∨ i = 1 by omega) with rfl | rfl <;> rfl
theorem lw_v {i : Nat} (h : i < 2) : ([23, 52] : List Int32).getD i 0 = nI (lw i) := by rcases (show i = 0 ∨ i = 1 by omega) with rfl | rfl <;> rfl
theorem lw_in {i : Nat} : 23 ≤ lw i ∧ lw i ≤ 52 := by unfold lw; split <;> omega
theorem lb_in {i : Nat} : 127 ≤ lb i ∧ lb i ≤ 1023 := by unfold lb; split <;> omega
theorem lz_in {i : Nat} : 4 ≤ lz i ∧ lz i ≤ 8 := by unfold lz; split <;> omega
theorem one_v {i : Nat} : (1 : Int64) <<< ((nI (lw i)).toInt64 &&& 63) = lN (2 ^ lw i) := by
  have := wb_shl 1 (k := lw i) (by have := lw_in (i := i); omega)
  rw [Nat.one_mul] at this
  exact this
theorem one_nz {i : Nat} : ¬ lN (2 ^ lw i) = 0 := by unfold lw; split <;> decide
-- the loops that bring a magnitude between 1 and 2
def hv : Nat → UInt64 → UInt64 × Nat
  | 0, a => (a, 0)
  | n + 1, a => if Op.cmpValue (FP.dcmp a D2) .l < 0 then (a, 0) else ((hv n (FP.dmul a DH)).1, (hv n (FP.dmul a DH)).2 + 1)
def dv : Nat → UInt64 → UInt64 × Nat
  | 0, a => (a, 0)
  | n + 1, a => if 0 ≤ Op.cmpValue (FP.dcmp a FP.dconst1) .g then (a, 0) else ((dv n (FP.dmul a D2)).1, (dv n (FP.dmul a D2)).2 + 1)
theorem hv_e {n : Nat} {a : UInt64} (h : Op.cmpValue (FP.dcmp a D2) .l < 0) : hv n a = (a, 0) := by
  cases n with
  | zero => rfl
  | succ n => rw [hv, if_pos h]
theorem hv_s {n : Nat} {a : UInt64} (hn : 0 < n) (h : ¬ Op.cmpValue (FP.dcmp a D2) .l < 0) : hv n a = ((hv (n - 1) (FP.dmul a DH)).1, (hv (n - 1) (FP.dmul a DH)).2 + 1) := by
  obtain ⟨k, rfl⟩ : ∃ k, n = k + 1 := ⟨n - 1, by omega⟩
  rw [hv, if_neg h]; rfl
theorem dv_e {n : Nat} {a : UInt64} (h : 0 ≤ Op.cmpValue (FP.dcmp a FP.dconst1) .g) : dv n a = (a, 0) := by
  cases n with
  | zero => rfl
  | succ n => rw [dv, if_pos h]
theorem dv_s {n : Nat} {a : UInt64} (hn : 0 < n) (h : ¬ 0 ≤ Op.cmpValue (FP.dcmp a FP.dconst1) .g) : dv n a = ((dv (n - 1) (FP.dmul a D2)).1, (dv (n - 1) (FP.dmul a D2)).2 + 1) := by
  obtain ⟨k, rfl⟩ : ∃ k, n = k + 1 := ⟨n - 1, by omega⟩
  rw [dv, if_neg h]; rfl
theorem hv_le : ∀ (n : Nat) (a : UInt64), (hv n a).2 ≤ n := by
  intro n
  induction n with
  | zero => intro a; exact Nat.le_refl _
  | succ n ih =>
    intro a
    by_cases h : Op.cmpValue (FP.dcmp a D2) .l < 0
    · rw [hv_e h]; exact Nat.zero_le _
    · rw [hv_s (by omega) h]; exact Nat.succ_le_succ (ih _)
theorem dv_le : ∀ (n : Nat) (a : UInt64), (dv n a).2 ≤ n := by
  intro n
  induction n with
  | zero => intro a; exact Nat.le_refl _
  | succ n ih =>
    intro a
    by_cases h : 0 ≤ Op.cmpValue (FP.dcmp a FP.dconst1) .g
    · rw [dv_e h]; exact Nat.zero_le _
    · rw [dv_s (by omega) h]; exact Nat.succ_le_succ (ih _)
theorem hv_N : ∀ (n : Nat) (a : UInt64), dN a → dN (hv n a).1 := by
  intro n
  induction n with
  | zero => intro a h; exact h
  | succ n ih =>
    intro a ha
    by_cases h : Op.cmpValue (FP.dcmp a D2) .l < 0
    · rw [hv_e h]; exact ha
    · rw [hv_s (by omega) h]; exact ih _ (dN_H ha)
theorem dv_N : ∀ (n : Nat) (a : UInt64), dN a → dN (dv n a).1 := by
  intro n
  induction n with
  | zero => intro a h; exact h
  | succ n ih =>
    intro a ha
    by_cases h : 0 ≤ Op.cmpValue (FP.dcmp a FP.dconst1) .g
    · rw [dv_e h]; exact ha
    · rw [dv_s (by omega) h]; exact ih _ (dN_2 ha)
theorem hv_more : ∀ (n k : Nat) (a : UInt64), n ≤ k → Op.cmpValue (FP.dcmp (hv n a).1 D2) .l < 0 → hv k a = hv n a := by
  intro n
  induction n with
  | zero => intro k a _ h; exact hv_e h
  | succ n ih =>
    intro k a hk hh
    by_cases h : Op.cmpValue (FP.dcmp a D2) .l < 0
    · rw [hv_e h, hv_e h]
    · rw [hv_s (by omega) h] at hh ⊢
      rw [hv_s (by omega) h, ih (k - 1) (FP.dmul a DH) (by omega) hh]
      rfl
/-- the bits of a magnitude, as the class finds them -/
def mgv (i : Nat) (a : UInt64) : UInt64 × Nat := dv (lb i + (hv (lb i) a).2 - 1) (hv (lb i) a).1
def mgb (i : Nat) (a : UInt64) : Int64 :=
  if Op.cmpValue (FP.dcmp a DM) .l ≤ 0 then
    (if 0 ≤ Op.cmpValue (FP.dcmp (mgv i a).1 FP.dconst1) .g then (nI (lb i + (hv (lb i) a).2 - (mgv i a).2)).toInt64 * lN (2 ^ lw i) + FP.d2l (FP.dmul (FP.dsub (mgv i a).1 FP.dconst1) (FP.l2d (lN (2 ^ lw i))))
     else FP.d2l (FP.dmul (mgv i a).1 (FP.l2d (lN (2 ^ lw i)))))
  else (nI (2 * lb i + 1)).toInt64 * lN (2 ^ lw i)
def bof (i : Nat) (a : UInt64) : Int64 :=
  if Op.cmpValue (FP.dcmp a FP.dconst0) .l = 0 then 0
  else if 0 ≤ Op.cmpValue (FP.dcmp a FP.dconst0) .g then mgb i a
  else ((1 : Int64) <<< ((nI (8 * lz i) - 1).toInt64 &&& 63)) ||| mgb i (FP.dneg a)
def exI (i : Nat) (v : Int64) : Int64 := (v.toUInt64 >>> ((nI (lw i)).toInt64.toUInt64 &&& Int64.toUInt64 63)).toInt64 &&& (nI (2 * lb i + 1)).toInt64
def frI (i : Nat) (v : Int64) : Int64 := v &&& (lN (2 ^ lw i) - 1)
def nnI (i : Nat) (v : Int64) : Bool := decide (exI i v = (nI (2 * lb i + 1)).toInt64 ∧ ¬ frI i v = 0)
def mgo (i : Nat) (e f : Int64) : UInt64 :=
  if e = (nI (2 * lb i + 1)).toInt64 then DI
  else if e = 0 then scD (FP.l2d f) (1 - nI (lb i) - nI (lw i)) else scD (FP.l2d (lN (2 ^ lw i) + f)) (e.toInt32 - nI (lb i) - nI (lw i))
def vin (i : Nat) (v : Int64) : UInt64 :=
  if (v.toUInt64 >>> ((nI (8 * lz i) - 1).toInt64.toUInt64 &&& Int64.toUInt64 63)).toInt64 &&& 1 = 0 then mgo i (exI i v) (frI i v) else FP.dneg (mgo i (exI i v) (frI i v))
theorem DI_N : dN DI := by unfold dN; decide +kernel
theorem mgo_N (i : Nat) (e f : Int64) : dN (mgo i e f) := by
  unfold mgo
  split
  · exact DI_N
  · split <;> exact scD_N _ (dN_l2d _)
theorem vin_N (i : Nat) (v : Int64) : dN (vin i v) := by
  unfold vin
  split
  · exact mgo_N _ _ _
  · exact dN_neg (mgo_N _ _ _)
theorem x_getEN {p : Program} {l : Launch} {e : Env} {R : Room} {s : State} {m : MethodId} {args : Array Value} {below : List Frame} {meth : Method} {c : Code} {H : Heap} {locs : List Loc} {cells slots : Nat} {Q : State → Prop} {cc : ByteArray} {pc : Nat} {ls : Array Slot} {rest : List Value} {A : Nat → Prop}
    (hexec : p.tables.exec = Jvm.exec) (hb : c.code = cc) {E d own ref host : String} {nm : List String} {F : List (String × String × String × List Int32)} {ad : Nat → Nat} {index i : Nat} (hE : va_En E d nm F ad A s s.heap) (hi : i < nm.length) (hS : va_S A s.heap H locs) (hown : s.vm.findClass own = some m.cls) {q : String × String × String × List Int32} (hq : q ∈ F) (hlink : (Cond.fieldLinkNest own index ref q.2.1 q.2.2.1 host).before args s = true) (hsame : ∀ x, s.fieldFound? q.1 q.2.1 q.2.2.1 = some x → s.fieldFound? ref q.2.1 q.2.2.1 = some x) (hdg : decode cc pc = .ok (.getfield index, 3))
    (kk : W p l e R s m args below meth c H locs cells slots Q (F0 m (pc + 3) ls (.int (q.2.2.2.getD i 0) :: rest))) : W p l e R s m args below meth c H locs cells slots Q (F0 m pc ls (.ref (ad i) :: rest)) := by
  obtain ⟨cf, k, fi, f, cell, h1, h2, h3, h4, h5, h6⟩ := ((hE.1 i hi).2.2 q hq).kept hS.2.1
  exact va_Wgetf hexec hb hown hlink (hsame _ h1) h2 h3 h4 (v := .int (q.2.2.2.getD i 0)) h5 rfl rfl hdg kk
theorem x_topd {p : Program} {l : Launch} {e : Env} {R : Room} {s : State} {m : MethodId} {args : Array Value} {below : List Frame} {meth : Method} {c : Code} {H : Heap} {locs : List Loc} {cells slots : Nat} {Q : State → Prop} {pc : Nat} {ls : Array Slot} {rest : List Value} {x y : UInt64} (h : x = y) (k : W p l e R s m args below meth c H locs cells slots Q (F0 m pc ls (.double y :: rest))) : W p l e R s m args below meth c H locs cells slots Q (F0 m pc ls (.double x :: rest)) := by rw [h]; exact k
theorem x_topf {p : Program} {l : Launch} {e : Env} {R : Room} {s : State} {m : MethodId} {args : Array Value} {below : List Frame} {meth : Method} {c : Code} {H : Heap} {locs : List Loc} {cells slots : Nat} {Q : State → Prop} {pc : Nat} {ls : Array Slot} {rest : List Value} {x y : UInt32} (h : x = y) (k : W p l e R s m args below meth c H locs cells slots Q (F0 m pc ls (.float y :: rest))) : W p l e R s m args below meth c H locs cells slots Q (F0 m pc ls (.float x :: rest)) := by rw [h]; exact k
theorem exI_n (i : Nat) (v : Int64) : ∃ n : Nat, n ≤ 2 * lb i + 1 ∧ exI i v = lN n := by
  obtain ⟨N, hN, rfl⟩ := wb_of v
  unfold exI
  have hl := lb_in (i := i)
  have hw := lw_in (i := i)
  rw [wb_shr hN (by omega), nI_l (by omega)]
  have hd : N / 2 ^ lw i < 2 ^ 64 := Nat.lt_of_le_of_lt (Nat.div_le_self _ _) hN
  rw [wb_and hd (by omega)]
  exact ⟨_, Nat.and_le_right, rfl⟩
theorem sc_bd {i n : Nat} (h : n ≤ 2047) : ((lN n).toInt32 - nI (lb i) - nI (lw i)).toInt.natAbs < 2 ^ 31 := by
  have hl := lb_in (i := i)
  have hw := lw_in (i := i)
  rw [lN_i, Int32.toInt_sub, Int32.toInt_sub, nI_toInt (by omega), nI_toInt (by omega), nI_toInt (by omega)]
  simp only [Int.bmod_def]
  split <;> split <;> omega
theorem sc_bd0 {i : Nat} : (1 - nI (lb i) - nI (lw i)).toInt.natAbs < 2 ^ 31 := by
  have := sc_bd (i := i) (n := 1) (by omega)
  rw [lN_i] at this
  exact this
def rfv (i : Nat) (v : Int64) : UInt64 := if nnI i v = true then FP.dconst0 else vin i v
theorem D0_N : dN FP.dconst0 := by unfold dN; decide +kernel
theorem rfv_N (i : Nat) (v : Int64) : dN (rfv i v) := by
  unfold rfv
  split
  · exact D0_N
  · exact vin_N _ _
