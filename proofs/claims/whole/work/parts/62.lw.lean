/-! the law's own methods: they have tables of handlers -/
theorem gZ_nc {g : GP} {A : Nat → Prop} {s : State} {H : Heap} (h : gZ g A s H) {C T : String} (i : Nat) (hw : ncT[i]? = some (C, T)) : va_Nc C T s := h.2.2.2.2.2.2.2.1 (C, T) (List.mem_of_getElem? hw)
theorem gWW {own : String} {i : Nat} {y : MethodName} {b : ByteArray} {n : Nat} {r : Option FieldType} {hh : List (Nat × Nat × Nat × Nat)} (h1 : Cond.methodLink own i y ∈ xW) (h2 : Cond.static y ∈ xW) (h3 : Cond.initialized y.cls ∈ xW) (h : Cond.codeWith y b n r hh ∈ xW) : GoodIn xW (va_wsS own i y (Cond.codeWith y b n r hh :: xW)) := by
  have g : ∀ {w}, w ∈ xW → w ∈ xW ∧ ((w.onTables && w.keeps) = true ∨ ∃ ty, w = .arrayClass ty) := fun hw => ⟨hw, good_of_word (xW_good _ hw)⟩
  intro w hw
  rcases List.mem_append.mp hw with hw | hw
  · simp only [List.mem_cons, List.not_mem_nil, or_false] at hw
    rcases hw with rfl | rfl | rfl
    · exact g h1
    · exact g h2
    · exact g h3
  · rcases List.mem_cons.mp hw with rfl | hw
    · exact g h
    · exact g hw
theorem ps_n {α : Type} {P : α → Prop} : ∀ z ∈ ([] : List α), P z := fun _ h => nomatch h
theorem ps_c {α : Type} {P : α → Prop} {a : α} {l : List α} (h1 : P a) (h2 : ∀ z ∈ l, P z) : ∀ z ∈ a :: l, P z := fun z h => (List.mem_cons.mp h).elim (fun e => by rw [e]; exact h1) (h2 z)
section XOpenW
variable {l : Launch}
theorem x_openW {y : MethodName} {w w' : List Cond} {rm : Room} {Z : xZ} {D : va_G} {cl : List vw_C} {As : List Value} {ws : va_W} {tys : List (ClassId × FieldType)} {sz : Nat} {Qc : (Nat → Prop) → Array Value → State → Outcome → State → Prop} {mc ms : Nat} {cc : ByteArray} {maxL : Nat} {ret : Option FieldType} {own : String} {hh : List (Nat × Nat × Nat × Nat)}
    (hy : plainName y.cls = true) (hw : w = Cond.codeWith y cc maxL ret hh :: w') (hown : y.cls = own) (hn : (lg_sl As).length ≤ maxL)
    (body : ∀ (p : Program) (e : Env) (s : State) (m : MethodId) (below : List Frame) (meth : Method) (c : Code) (A : Nat → Prop) (ls : Array Slot), c.exceptionTable.toList = tableOf hh → p.tables.exec = Jvm.exec → c.code = cc → meth.sig.returnType = ret → c.maxLocals = maxL → s.vm.findClass own = some m.cls → (∀ x ∈ w, x.before As.toArray s = true) → meth.locks = false → meth.name = y.name →
      (∀ q, s.heap.size ≤ q → A q) → va_P D cl ws s.heap → va_K D cl tys s → va_D A ws → va_S A s.heap s.heap [] → Z A s s.heap → lv_has ls maxL (lv_args 0 As) →
      W p l e rm s m As.toArray below meth c s.heap [] 0 0 (MQ below (Qc A) As.toArray s mc ms A) (F0 m 0 ls [])) : Met l y w rm (xPc Z D cl As ws tys sz) (Qc (va_A ws sz)) mc ms (va_A ws sz) := by
  refine va_MetW (cc := cc) (maxL := maxL) (ret := ret) (hh := hh) hy hw ?_
  intro p e s m args below meth c s₁ B hml hv
  obtain ⟨rfl, hsz, hP, hK, hD0, hZ⟩ := hv
  have hts := atoms_spec (ws := w) B.pre
  have hte := vx_table (x := y) B (hts _ (by rw [hw]; exact List.mem_cons_self))
  have hown' : s.vm.findClass own = some m.cls := by rw [← hown]; exact findClass_of_methodNamed B.named
  have hl := lv_entry As (n := maxL) hn
  rw [lg_entry_eq]
  exact body p e s m below meth c (va_A ws sz) _ hte B.exec B.bytes B.returns hml hown' hts B.notSynchronized (name_of_methodNamed B.named B.method).1 (fun q h => Or.inr (by rw [← hsz]; exact h)) hP hK (hD0.self) va_S.rf hZ hl
end XOpenW
