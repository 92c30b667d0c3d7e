/-! the start: what nothing changes, out of the tables and of what is given -/
def hgC : List Cond := flatC (Jvm.Cond.and given_1 narrow_1)
theorem nest_in : ∀ w ∈ nestW, w ∈ lw_tbl := by decide +kernel
theorem nest_on : ∀ w ∈ nestW, w.onTables = true := by decide +kernel
theorem str_in : ∀ q ∈ strT, Cond.stringRef R_Wd q.1 q.2 ∈ lw_tbl := by decide +kernel
theorem str_ex : ∀ q ∈ strT, Cond.exactly (.string R_Wd q.1) "java/lang/String" ∈ hgC := by decide +kernel
theorem nc_in : ∀ q ∈ ncT, Cond.not (.castable q.1 q.2) ∈ hgC := by decide +kernel
theorem cs_in : ∀ q ∈ csT, Cond.castable q.1 q.2 ∈ lw_tbl := by decide +kernel
theorem ls_in : ∀ q ∈ [(Bundle.tN, "UNASSIGNED_STACK", Bundle.steD), (Bundle.tN, "SUPPRESSED_SENTINEL", Bundle.listD), ("WireData", "KIND_SIZES", "[I")], Cond.laysStatic q.1 q.2.1 q.2.2 ∈ lw_tbl ∧ Cond.initialized q.1 ∈ lw_tbl ∧ Cond.isRef (.static q.1 q.2.1 q.2.2) ∈ hgC := by decide +kernel
theorem en_in : ∀ i, i < 2 → Cond.laysStatic "WireData$Layout" (["FLOAT", "DOUBLE"].getD i "") "LWireData$Layout;" ∈ lw_tbl := by decide +kernel
theorem en_ex : ∀ i, i < 2 → Cond.exactly (.static "WireData$Layout" (["FLOAT", "DOUBLE"].getD i "") "LWireData$Layout;") "WireData$Layout" ∈ hgC := by decide +kernel
theorem en_f : ∀ q ∈ laF, ∀ i, i < 2 → Cond.eq (.field (.static "WireData$Layout" (["FLOAT", "DOUBLE"].getD i "") "LWireData$Layout;") q.1 q.2.1 q.2.2.1) (.int (q.2.2.2.getD i 0)) ∈ hgC := by decide +kernel
theorem en_n : Cond.not (.eq (.static "WireData$Layout" "FLOAT" "LWireData$Layout;") (.static "WireData$Layout" "DOUBLE" "LWireData$Layout;")) ∈ hgC := by decide +kernel
theorem en_i : Cond.initialized "WireData$Layout" ∈ lw_tbl := by decide +kernel
theorem ks_a : Cond.arrayOf (.static "WireData" "KIND_SIZES" "[I") .int ∈ hgC := by decide +kernel
theorem ks_l : Cond.eq (.length (.static "WireData" "KIND_SIZES" "[I")) (.int 6) ∈ hgC := by decide +kernel
theorem ks_e : ∀ j, j < 6 → Cond.eq (.elem (.static "WireData" "KIND_SIZES" "[I") (.int (Int32.ofNat j))) (.int (ksT.getD j 0)) ∈ hgC := by decide +kernel
theorem gZ_start {s : State} {b9 : Nat} {A : Nat → Prop} (hts : ∀ w ∈ lw_tbl, w.before #[Value.ref b9] s = true) (hgv : (Jvm.Cond.and given_1 narrow_1).before #[Value.ref b9] s = true) (hA : ∀ a : Nat, a < s.heap.size → ¬ A a) : ∃ g : GP, gZ g A s s.heap := by
  have hs : ∀ w ∈ hgC, w.before #[Value.ref b9] s = true := flat_of_before _ hgv
  obtain ⟨ad, hEn⟩ := va_Enof (args := #[Value.ref b9]) (s := s) (E := "WireData$Layout") (d := "LWireData$Layout;") (nm := ["FLOAT", "DOUBLE"]) (F := laF) (A := A) (fun i hi => hts _ (en_in i hi)) (hts _ en_i) (fun i hi => hs _ (en_ex i hi)) (fun q hq i hi => hs _ (en_f q hq i hi))
    (fun i j hi hj hij => by
      have hi : i < 2 := hi
      have hj : j < 2 := hj
      have h := hs _ en_n
      rcases (show (i = 0 ∧ j = 1) ∨ (i = 1 ∧ j = 0) by omega) with ⟨rfl, rfl⟩ | ⟨rfl, rfl⟩
      · exact Or.inl h
      · exact Or.inr h) hA
  obtain ⟨t, ht, hT⟩ := va_Tof (args := #[Value.ref b9]) (s := s) (tm := .static "WireData" "KIND_SIZES" "[I") (ty := .int) (N := 6) (f := fun j => .int (ksT.getD j 0)) (A := A) (by decide) (hs _ ks_a) (va_eqt (hs _ ks_l)) (fun j hj => va_eqt (hs _ (ks_e j hj))) hA
  have h0 : ∀ k : Nat, ∃ a : Nat, (∃ tx, (k, tx) ∈ strT) → (Term.string R_Wd k).eval #[Value.ref b9] s none [] s = some (.ref a) := by
    intro k
    by_cases h : ∃ tx, (k, tx) ∈ strT
    · obtain ⟨tx, h⟩ := h
      obtain ⟨a, c, cell, kk, q1, -⟩ := Cond.exactly_spec (hs _ (str_ex (k, tx) h))
      exact ⟨a, fun _ => q1⟩
    · exact ⟨0, fun q => absurd q h⟩
  obtain ⟨sa, hsa⟩ := Classical.axiomOfChoice h0
  have l1 := ls_in _ (List.mem_of_getElem? (i := 0) rfl)
  have l2 := ls_in _ (List.mem_of_getElem? (i := 1) rfl)
  have l3 := ls_in _ (List.mem_of_getElem? (i := 2) rfl)
  refine ⟨(ad, t, sa), fun w hw => va_Nw.of (nest_on w hw) (hts w (nest_in w hw)), vx_Zqof (hts _ l1.1) (hts _ l1.2.1) (hs _ l1.2.2) hA, vx_Zqof (hts _ l2.1) (hts _ l2.2.1) (hs _ l2.2.2) hA, fun q hq => vk_R.of (hts _ (str_in q hq)) (hsa q.1 ⟨q.2, hq⟩), va_Zref (hts _ l3.1) (hts _ l3.2.1) ht hA, hT, hEn, fun q hq => va_Nc.of (hs _ (nc_in q hq)), fun q hq => ?_⟩
  obtain ⟨c3, c4, h3, h4, h5⟩ := Cond.castable_spec (hts _ (cs_in q hq))
  simp [Cond.before, Cond.holds, Cond.value, h3, h4, h5]
theorem arr_int {args : Array Value} {s : State} (h : (Cond.arrayClass .int).before args s = true) : ∃ cA : ClassId, ArrOfT s cA .int ∧ va_RA s cA .int := by
  obtain ⟨cA, kA, comp, h1, h2, h3⟩ := Cond.arrayClass_spec h
  exact ⟨cA, fun n z => ⟨fun k h => (by cases h), kA, h2, comp, h3⟩, h1⟩
theorem ins_in : ∀ q ∈ vwCl, Cond.instantiable q.1 q.2.2 ∈ lw_tbl := by decide +kernel
theorem ai_in : Cond.arrayClass .int ∈ lw_tbl := by decide +kernel
theorem K_start {s : State} {args : Array Value} (hts : ∀ w ∈ lw_tbl, w.before args s = true) : ∃ (D : va_G) (cI : ClassId), va_K D vwCl [(cI, .int)] s := by
  have hW : ∀ w ∈ xW, w.before args s = true := fun w h => hts w (xW_in w h)
  obtain ⟨c0, i0, k0⟩ := u_known hW in_Cu (hts _ (ins_in _ (List.mem_of_getElem? (i := 0) rfl)))
  obtain ⟨c1, i1, k1⟩ := u_known hW in_Ou (hts _ (ins_in _ (List.mem_of_getElem? (i := 1) rfl)))
  obtain ⟨c2, i2, k2⟩ := u_known hW in_Te (hts _ (ins_in _ (List.mem_of_getElem? (i := 2) rfl)))
  obtain ⟨c3, i3, k3⟩ := u_known hW in_Wd (hts _ (ins_in _ (List.mem_of_getElem? (i := 3) rfl)))
  obtain ⟨c4, i4, k4⟩ := u_known hW in_Mo (hts _ (ins_in _ (List.mem_of_getElem? (i := 4) rfl)))
  obtain ⟨cI, hI⟩ := arr_int (hts _ ai_in)
  refine ⟨(fun c => if c = 0 then c0 else if c = 1 then c1 else if c = 2 then c2 else if c = 3 then c3 else c4, fun c => if c = 0 then i0 else if c = 1 then i1 else if c = 2 then i2 else if c = 3 then i3 else i4), cI, fun c q h => ?_, fun k q h => ?_⟩
  · have hc : c < 5 := (List.getElem?_eq_some_iff.mp h).1
    rcases (show c = 0 ∨ c = 1 ∨ c = 2 ∨ c = 3 ∨ c = 4 by omega) with rfl | rfl | rfl | rfl | rfl <;> cases h
    · exact k0
    · exact k1
    · exact k2
    · exact k3
    · exact k4
  · have hk : k < 1 := (List.getElem?_eq_some_iff.mp h).1
    obtain rfl : k = 0 := by omega
    cases h
    exact hI
