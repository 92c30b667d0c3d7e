/-! the law's body: names, small facts, what it carries -/
abbrev D8 : UInt64 := 4593671619917905920
abbrev F8 : UInt32 := 1040187392
theorem D8_fin : FP.Core.DFin D8 := (FP.Core.fin_bits _).mpr (by decide)
theorem F8_fin : FP.Core.FFin F8 := (FP.Core.fin_bits32 _).mpr (by decide)
theorem dN_8 (x : Int32) : dN (FP.dmul (FP.i2d x) D8) := FP.Core.dmul_out (FP.Core.i2d_fin x) D8_fin
theorem fN_8 (x : Int32) : fN (FP.fmul (FP.i2f x) F8) := FP.Core.fmul_out (FP.Core.i2f_fin x) F8_fin
theorem upd0L (f : Nat → Int64) (v : Int64) : vp_updL f 0 v (0 : Int32).toNatClampNeg = v := by
  rw [show (0 : Int32).toNatClampNeg = 0 by decide]; exact if_pos rfl
theorem upd0D (f : Nat → UInt64) (v : UInt64) : vf_upd f 0 v (0 : Int32).toNatClampNeg = v := by
  rw [show (0 : Int32).toNatClampNeg = 0 by decide]; exact if_pos rfl
theorem j4 (j : Nat) : nI (4 * j) + 4 = nI (4 * (j + 1)) := nI_add (4 * j) 4
theorem rbC {a : Nat} (h : a ≤ 10000) : a ≤ room_1.cells := Nat.le_trans h (by decide)
theorem rbS {a : Nat} (h : a ≤ 100000) : a ≤ room_1.slots := Nat.le_trans h (by decide)
theorem rn_fail {o : OS} : ∀ (n : Nat) (t : CS) (v : Int64), ¬ (rn o n t v).1 = 0 → (rn o n t v).1 = -2 ∨ (rn o n t v).1 = -1 := by
  intro n
  induction n with
  | zero => intro t v h; exact absurd rfl h
  | succ n ih =>
    intro t v h
    by_cases z : nf o t
    · rw [rn_f (by omega) z]; exact z
    · rw [rn_s (by omega) z] at h ⊢; exact ih _ _ h
theorem tl_fail {o : OS} : ∀ (n i : Nat) (d : CS) (t : TS), ¬ (tl o n i d t).1 = 0 → (tl o n i d t).1 = -2 ∨ (tl o n i d t).1 = -1 := by
  intro n
  induction n with
  | zero => intro i d t h; exact absurd rfl h
  | succ n ih =>
    intro i d t h
    by_cases z : nf o d
    · rw [tl_f (by omega) z]; exact z
    · rw [tl_s (by omega) z] at h ⊢; exact ih _ _ _ h
/-- the reference's reading of a text beside the class's -/
theorem rt_ok {o : OS} {c : CS} {y : TS} (gt : Nat → Int32) (hby : o_by o) (ho : o_ok o) (hc : c_ok o c) (h1 : (rn o 2 c 0).1 = 0) (h2 : (tl o (n2 o c) 0 (rn o 2 c 0).2.1 y).1 = 0) :
    (rg o c.2.2.2 (n2 o c) 0 (t3 (rn o 2 c 0).2.1) gt).1 = 0 ∧ cs (rg o c.2.2.2 (n2 o c) 0 (t3 (rn o 2 c 0).2.1) gt).2.1 c.2.2.2 = (tl o (n2 o c) 0 (rn o 2 c 0).2.1 y).2.1 ∧
    (f_ok (rg o c.2.2.2 (n2 o c) 0 (t3 (rn o 2 c 0).2.1) gt).2.2 (n2 o c) 255 ∧ n2 o c ≤ 1600) ∧ ∀ j, j < n2 o c → j < 120 → (tl o (n2 o c) 0 (rn o 2 c 0).2.1 y).2.2.2.1 j = (rg o c.2.2.2 (n2 o c) 0 (t3 (rn o 2 c 0).2.1) gt).2.2 j := by
  have hm : (rn o 2 c 0).2.1.2.2.2 = c.2.2.2 := (rn_rm hc h1).2
  have e : cs (t3 (rn o 2 c 0).2.1) c.2.2.2 = (rn o 2 c 0).2.1 := cs_t3 hm
  have q := (rg_tl (o := o) (m := c.2.2.2) hby (n2 o c) 0 (t3 (rn o 2 c 0).2.1) gt y (by rw [e]; exact rn_keep 2 c 0 hc) (fun j hj => absurd hj (Nat.not_lt_zero _)) (fun j hj => absurd hj (Nat.not_lt_zero _))).1
  rw [e] at q
  obtain ⟨q1, q2, q3, q4, q5, q6⟩ := q h2
  rw [Nat.zero_add] at q5 q6
  have q7 : (rg o c.2.2.2 (n2 o c) 0 (t3 (rn o 2 c 0).2.1) gt).2.1.1 ≤ o.2.1 := q3.1
  have q8 := ho.1
  exact ⟨q1, q2, ⟨q5, by omega⟩, q6⟩
theorem rt_bad {o : OS} {c : CS} {y : TS} (gt : Nat → Int32) (hby : o_by o) (hc : c_ok o c) (h1 : (rn o 2 c 0).1 = 0) (h2 : ¬ (tl o (n2 o c) 0 (rn o 2 c 0).2.1 y).1 = 0) :
    ¬ (rg o c.2.2.2 (n2 o c) 0 (t3 (rn o 2 c 0).2.1) gt).1 = 0 ∧ ((rg o c.2.2.2 (n2 o c) 0 (t3 (rn o 2 c 0).2.1) gt).1 = 2 ↔ (tl o (n2 o c) 0 (rn o 2 c 0).2.1 y).1 = -2) := by
  have hm : (rn o 2 c 0).2.1.2.2.2 = c.2.2.2 := (rn_rm hc h1).2
  have e : cs (t3 (rn o 2 c 0).2.1) c.2.2.2 = (rn o 2 c 0).2.1 := cs_t3 hm
  have q := (rg_tl (o := o) (m := c.2.2.2) hby (n2 o c) 0 (t3 (rn o 2 c 0).2.1) gt y (by rw [e]; exact rn_keep 2 c 0 hc) (fun j hj => absurd hj (Nat.not_lt_zero _)) (fun j hj => absurd hj (Nat.not_lt_zero _))).2
  rw [e] at q
  exact q h2
theorem rt_dec {y : TS} {z : Nat} {G md f0 : Nat → Int32} (hG : ∀ j, j < z → j < 120 → y.2.1 j = G j) :
    (td (n_at G) z (z + 1) 0 0 md).1 = (t_dec y z).1 ∧ (¬ (t_dec y z).1 = -1 → va_cpy (td (n_at G) z (z + 1) 0 0 md).2 f0 0 0 (td (n_at G) z (z + 1) 0 0 md).1.toNatClampNeg = va_cpy (t_dec y z).2 f0 0 0 (t_dec y z).1.toNatClampNeg) := by
  unfold t_dec
  by_cases hz : 120 < z
  · rw [if_pos hz]
    exact ⟨td_long _ 0 0 _ (by omega) (by omega) (by omega), fun q => absurd rfl q⟩
  · rw [if_neg hz]
    have hs := td_same (f := n_at G) (f' := n_at y.2.1) (z := z) (fun j hj => by unfold n_at; rw [hG j hj (by omega)]) (z + 1) 0 0 md y.2.2 (by omega) (fun j hj => absurd hj (Nat.not_lt_zero _))
    refine ⟨hs.1, fun h => ?_⟩
    obtain ⟨k, hk, ek⟩ := (td_cnt (f := n_at G) (z := z) (z + 1) 0 0 md (by omega)).resolve_left (by rw [hs.1]; exact h)
    have e1 : (td (n_at G) z (z + 1) 0 0 md).1.toNatClampNeg = k := by rw [ek, nI_clamp (by omega)]
    rw [← hs.1, e1]
    exact cpy_eq (fun j hj => hs.2 k ek hk j hj)
theorem t_mk {f g d : Nat → Int32} (h1 : f_ok f 40 65535) (h2 : f_ok g 120 255) (h3 : f_ok d 40 65535) : t_ok (f, g, d) := ⟨h1, h2, h3⟩
theorem sk_sm {o : OS} {c : CS} {z : Nat} (hc : c_ok o c) : (sk o z 0 c).1 = -2 ↔ (sm o c.2.2.2 z 0 (t3 c)).1 = 2 := by
  have e : sk o z 0 c = _ := (sm_sk (o := o) (m := c.2.2.2) z 0 (t3 c) hc).1
  rw [e]
  show (if (sm o c.2.2.2 z 0 (t3 c)).1 = 2 then (-2 : Int32) else 0) = -2 ↔ _
  by_cases h : (sm o c.2.2.2 z 0 (t3 c)).1 = 2
  · rw [if_pos h]; exact ⟨fun _ => h, fun _ => rfl⟩
  · rw [if_neg h]; exact ⟨fun q => absurd q (by decide), fun q => absurd q h⟩
def R_law : String := "WireDataLaw"
def lw_P (b : Addr) (xs : List Int32) (args : Array Value) (s : State) : Prop := args = #[.ref b] ∧ s.IntsAt b xs ∧ xs.length ≤ 2048 ∧ (Jvm.Cond.and given_1 narrow_1).before args s = true
def lw_Q (_ : Array Value) (s : State) (o : Outcome) (t : State) : Prop := o = .returned (some (.int 1)) ∧ Framed s o t [] 601024 7293034
def lw_Z (below : List Frame) (a : Array Value) (s : State) : State → Prop := fun t => ∃ o, t.status = .running ∧ Ended t below o ∧ lw_Q a s o t
/-- the law's own end, with 1 on the stack, nothing written that was there before, its room as the claim has it -/
theorem lw_ret {p : Program} {l : Launch} {e : Env} {s : State} {m : MethodId} {below : List Frame} {meth : Method} {c : Code} {b : Nat} (hx : p.tables.exec = Jvm.exec) (hb : c.code = code) (hr : meth.sig.returnType = ret) (hlocks : meth.locks = false) {pc : Nat} {H : Heap} {ls : Array Slot} (hdg : decode code pc = .ok (.ireturn, 1)) : W p l e room_1 s m #[Value.ref b] below meth c H [] 601024 7293034 (lw_Z below #[Value.ref b] s) (F0 m pc ls [.int 1]) := by
  intro T hT X
  obtain ⟨fs, hret, hrun, hended, hW, hframe⟩ := X.leave (v := some (.int 1)) (hlocks := hlocks) (fun h => by rw [hr] at h; cases h)
  have hmeth' : T.vm.method? m = some meth := X.method'
  refine ⟨T.setFrames fs, ?_, .returned (some (.int 1)), hrun, hended, rfl, ⟨_, rfl⟩, hW, hframe⟩
  jvm_step X.here [X.here.top, hx, hb, hdg, hmeth', hr, ret, narrow_b1]
  (try refine ⟨rfl, ?_⟩); (try refine ⟨rfl, ?_⟩)
  first | (intro acts; rw [hret _ acts rfl rfl rfl]) | rw [hret _ _ rfl rfl rfl]
  exact Steps.refl _
/-- what holds at the law's entry: the machine, the code, the tables' words, the script of L ints xs at the cell b, what the Statement gives of the start -/
def lw_At (p : Program) (s : State) (m : MethodId) (meth : Method) (c : Code) (b L : Nat) (xs : Nat → Int32) : Prop :=
  p.tables.exec = Jvm.exec ∧ c.code = code ∧ meth.sig.returnType = ret ∧ c.maxLocals = 9 ∧ s.vm.findClass R_law = some m.cls ∧ (∀ w ∈ lw_tbl, w.before #[Value.ref b] s = true) ∧ va_X b L xs s s.heap ∧ b < s.heap.size ∧ meth.locks = false ∧ (Jvm.Cond.and given_1 narrow_1).before #[Value.ref b] s = true
/-- what stays the same all along the loop -/
def lCt (p : Program) (s : State) (m : MethodId) (cd : Code) (A : Nat → Prop) (D : va_G) (g : GP) (b9 L9 : Nat) (xs : Nat → Int32) (cI cL cD : ClassId) : Prop :=
  p.tables.exec = Jvm.exec ∧ cd.code = c_L_law ∧ cd.maxLocals = 9 ∧ s.vm.findClass R_L = some m.cls ∧ (∀ w ∈ xW, w.before #[Value.ref b9] s = true) ∧ (∀ q, s.heap.size ≤ q → A q) ∧ va_K D vwCl [(cI, .int), (cL, .long), (cD, .double)] s ∧ gZ g A s s.heap ∧ va_X b9 L9 xs s s.heap ∧ b9 < s.heap.size ∧ ¬ A b9 ∧ L9 ≤ 2048
