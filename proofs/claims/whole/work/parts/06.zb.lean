/-! what nothing changes, as one proposition: links across the nest, the two statics of Throwable, the texts, the table of sizes, the two layouts, which exception is which -/
abbrev GP : Type := (Nat → Nat) × Nat × (Nat → Nat)
def laF : List (String × String × String × List Int32) := [("WireData$Layout", "size", "I", [4, 8]), ("WireData$Layout", "bias", "I", [127, 1023]), ("WireData$Layout", "width", "I", [23, 52])]
def ksT : List Int32 := [1, 1, 2, 2, 4, 8]
def gZ (g : GP) : xZ := fun A U H =>
  (∀ w ∈ nestW, va_Nw w U) ∧ vx_Zq Bundle.tN "UNASSIGNED_STACK" Bundle.steD A U H ∧ vx_Zq Bundle.tN "SUPPRESSED_SENTINEL" Bundle.listD A U H ∧
  (∀ q ∈ strT, vk_R R_Wd q.1 q.2 (g.2.2 q.1) U) ∧ va_Z "WireData" "KIND_SIZES" "[I" (.ref g.2.1) A U H ∧ va_T .int g.2.1 6 (fun j => .int (ksT.getD j 0)) A U H ∧
  va_En "WireData$Layout" "LWireData$Layout;" ["FLOAT", "DOUBLE"] laF g.1 A U H ∧ (∀ q ∈ ncT, va_Nc q.1 q.2 U) ∧ ∀ q ∈ csT, (Cond.castable q.1 q.2).before #[] U = true
def isNest : Cond → Bool
  | .fieldLinkNest _ _ _ _ _ _ => true
  | .methodLinkNest _ _ _ _ => true
  | .declares _ => true
  | _ => false
theorem nest_warm {w : Cond} (h : isNest w = true) {s U : State} (hW : s.WarmedH U.vm) (hZ : va_Nw w s) : va_Nw w U := by
  cases w <;> first | exact va_Nw.warmF hW hZ | exact va_Nw.warmM hW hZ | exact va_Nw.warmD hW hZ | exact absurd h Bool.false_ne_true
theorem nest_same {w : Cond} (h : isNest w = true) {s U : State} (hv : s.vm = U.vm) (hZ : va_Nw w s) : va_Nw w U := by
  cases w <;> first | exact absurd h Bool.false_ne_true | exact va_Nw.same rfl hv hZ
theorem nestW_all : ∀ w ∈ nestW, isNest w = true := by decide +kernel
theorem cast_moved {C T : String} {u U : State} (hvm : u.vm.Alike U.vm) (h : (Cond.castable C T).before #[] u = true) : (Cond.castable C T).before #[] U = true := by
  obtain ⟨c3, c4, h3, h4, h5⟩ := Cond.castable_spec h
  have e3 : U.vm.findClass C = some c3 := by rw [hvm.findClass]; exact h3
  have e4 : U.vm.findClass T = some c4 := by rw [hvm.findClass]; exact h4
  have e5 : U.vm.assignable c3 c4 = true := by rw [hvm.assignable]; exact h5
  simp [Cond.before, Cond.holds, Cond.value, e3, e4, e5]
theorem gZ_ok (g : GP) : xZok (gZ g) := by
  refine ⟨fun A u U H hv h => ?_, fun A u U H hW h => ?_, fun A U H H1 hq h => ?_, fun A B U H hAB h => ?_⟩
  · obtain ⟨h1, h2, h3, h4, h5, h6, h7, h8, h9⟩ := h
    have hvm : u.vm.Alike U.vm := by rw [hv]; exact Vm.Alike.refl _
    exact ⟨fun w hw => nest_same (nestW_all w hw) hv (h1 w hw), h2.moved hvm, h3.moved hvm, fun q hq => vk_R.same hv.symm (h4 q hq), va_Z.moved hvm h5, va_T.moved hvm h6, va_En.moved hvm h7, fun q hq => (h8 q hq).moved hvm, fun q hq => cast_moved hvm (h9 q hq)⟩
  · obtain ⟨h1, h2, h3, h4, h5, h6, h7, h8, h9⟩ := h
    have hvm : u.vm.Alike U.vm := hW.alike
    exact ⟨fun w hw => nest_warm (nestW_all w hw) hW (h1 w hw), h2.moved hvm, h3.moved hvm, fun q hq => vk_R.warm hW (h4 q hq), va_Z.moved hvm h5, va_T.moved hvm h6, va_En.moved hvm h7, fun q hq => (h8 q hq).moved hvm, fun q hq => cast_moved hvm (h9 q hq)⟩
  · obtain ⟨h1, h2, h3, h4, h5, h6, h7, h8, h9⟩ := h
    exact ⟨h1, h2.kept hq, h3.kept hq, h4, va_Z.kept h5 hq, va_T.kept h6 hq, va_En.kept h7 hq, h8, h9⟩
  · obtain ⟨h1, h2, h3, h4, h5, h6, h7, h8, h9⟩ := h
    exact ⟨h1, h2.narrow hAB, h3.narrow hAB, h4, va_Z.narrow h5 hAB, va_T.narrow h6 hAB, va_En.narrow h7 hAB, h8, h9⟩
theorem gZ_nest {g : GP} {A : Nat → Prop} {s : State} {H : Heap} (h : gZ g A s H) {w : Cond} (i : Nat) (hw : nestW[i]? = some w) : va_Nw w s := h.1 w (List.mem_of_getElem? hw)
theorem gZ_link {g : GP} {A : Nat → Prop} {s : State} {H : Heap} {args : Array Value} (h : gZ g A s H) {w : Cond} (i : Nat) (hw : nestW[i]? = some w) : w.before args s = true := by
  have h1 := h.1 w (List.mem_of_getElem? hw)
  have h2 := nestW_all w (List.mem_of_getElem? hw)
  cases w <;> first | exact absurd h2 Bool.false_ne_true | exact va_Nw.use rfl h1
/-- the words of a callee out of the same list -/
theorem gW {y : MethodName} {b : ByteArray} {n : Nat} {r : Option FieldType} (h : Cond.code y b n r ∈ xW) : GoodIn xW (Cond.code y b n r :: xW) := fun w hw => by
  rcases List.mem_cons.mp hw with rfl | hw
  · exact ⟨h, good_of_word (xW_good _ h)⟩
  · exact ⟨hw, good_of_word (xW_good _ hw)⟩
theorem gWV {own C : String} {i : Nat} {y : MethodName} {b : ByteArray} {n : Nat} {r : Option FieldType} (h1 : Cond.methodLink own i y ∈ xW) (h2 : Cond.instanceMethod y ∈ xW) (h3 : Cond.selects C y y ∈ xW) (h4 : Cond.initialized C ∈ xW) (h : Cond.code y b n r ∈ xW) : GoodIn xW (wsV own i C y (Cond.code y b n r :: xW)) := by
  have g : ∀ {w}, w ∈ xW → w ∈ xW ∧ ((w.onTables && w.keeps) = true ∨ ∃ ty, w = .arrayClass ty) := fun hw => ⟨hw, good_of_word (xW_good _ hw)⟩
  intro w hw
  rcases List.mem_append.mp hw with hw | hw
  · simp only [List.mem_cons, List.not_mem_nil, or_false] at hw
    rcases hw with rfl | rfl | rfl | rfl
    · exact g h1
    · exact g h2
    · exact g h3
    · exact g h4
  · exact gW h w hw
theorem gWS {own : String} {i : Nat} {y : MethodName} {b : ByteArray} {n : Nat} {r : Option FieldType} (h1 : Cond.methodLink own i y ∈ xW) (h2 : Cond.static y ∈ xW) (h3 : Cond.initialized own ∈ xW) (h : Cond.code y b n r ∈ xW) : GoodIn xW (wsS own i y (Cond.code y b n r :: xW)) := by
  have g : ∀ {w}, w ∈ xW → w ∈ xW ∧ ((w.onTables && w.keeps) = true ∨ ∃ ty, w = .arrayClass ty) := fun hw => ⟨hw, good_of_word (xW_good _ hw)⟩
  intro w hw
  rcases List.mem_append.mp hw with hw | hw
  · simp only [List.mem_cons, List.not_mem_nil, or_false] at hw
    rcases hw with rfl | rfl | rfl
    · exact g h1
    · exact g h2
    · exact g h3
  · exact gW h w hw
