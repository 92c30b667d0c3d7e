/-! the class's calls as functions: reading -/
theorem c_next_ok {o : OS} {c : CS} (h : c_ok o c) : c_ok o (c_next o c).2 := by
  obtain ⟨h1, h2, h3⟩ := c_look_keep h
  obtain ⟨a1, a2⟩ := h1
  unfold c_next
  dsimp only
  split
  · exact ⟨a1, a2⟩
  · split
    · exact ⟨a1, a2⟩
    · refine ⟨by show (c_look o c).2.1 + 1 ≤ o.2.1; omega, ?_⟩
      show (if (c_look o c).2.2.2.2 = true then (c_look o c).2.2.1 - 1 else (c_look o c).2.2.1) < 2 ^ 31
      split <;> omega
def exE (r : Int32) : String := if r = -2 then "java/lang/IllegalStateException" else "java/util/NoSuchElementException"
def nf (o : OS) (t : CS) : Prop := (c_next o t).1 = -2 ∨ (c_next o t).1 = -1
def rn_v (o : OS) (t : CS) (v : Int64) : Int64 := (v <<< ((8 : Int32).toInt64 &&& 63)) ||| (c_next o t).1.toInt64
def rn (o : OS) : Nat → CS → Int64 → Int32 × CS × Int64
  | 0, t, v => (0, t, v)
  | n + 1, t, v => if (c_next o t).1 = -2 ∨ (c_next o t).1 = -1 then ((c_next o t).1, (c_next o t).2, v) else rn o n (c_next o t).2 (rn_v o t v)
theorem rn_f {o : OS} {n : Nat} {t : CS} {v : Int64} (hn : 0 < n) (h : nf o t) : rn o n t v = ((c_next o t).1, (c_next o t).2, v) := by
  obtain ⟨k, rfl⟩ : ∃ k, n = k + 1 := ⟨n - 1, by omega⟩
  rw [rn]; exact if_pos h
theorem rn_s {o : OS} {n : Nat} {t : CS} {v : Int64} (hn : 0 < n) (h : ¬ nf o t) : rn o n t v = rn o (n - 1) (c_next o t).2 (rn_v o t v) := by
  obtain ⟨k, rfl⟩ : ∃ k, n = k + 1 := ⟨n - 1, by omega⟩
  rw [rn]; exact if_neg h
theorem nf_ne {o : OS} {t : CS} (h : nf o t) : ¬ (c_next o t).1 = 0 := by
  rcases h with h | h <;> rw [h] <;> decide
theorem rn_n {o : OS} {n : Nat} {t : CS} {v : Int64} (hn : 0 < n) (h : (rn o n t v).1 = 0) : ¬ nf o t := by
  intro z
  rw [rn_f hn z] at h
  exact nf_ne z h
theorem rn_keep {o : OS} : ∀ (n : Nat) (t : CS) (v : Int64), c_ok o t → c_ok o (rn o n t v).2.1 := by
  intro n
  induction n with
  | zero => intro t v h; exact h
  | succ n ih =>
    intro t v h
    by_cases z : nf o t
    · rw [rn_f (by omega) z]; exact c_next_ok h
    · rw [rn_s (by omega) z]; exact ih _ _ (c_next_ok h)
def rd_val (k : Nat) (v : Int64) : Int64 := if k = 0 then (if v = 0 then 0 else 1) else if k = 1 then v.toInt32.toInt8.toInt32.toInt64 else if k = 3 then v.toInt32.toInt16.toInt32.toInt64 else if k = 4 then v.toInt32.toInt64 else v
def sk (o : OS) : Nat → Nat → CS → Int32 × Nat × CS
  | 0, a, d => (0, a, d)
  | n + 1, a, d => if (c_next o d).1 = -2 then (-2, a, (c_next o d).2) else if (c_next o d).1 = -1 then (0, a, (c_next o d).2) else sk o n (a + 1) (c_next o d).2
theorem sk_c {o : OS} {n a : Nat} {d : CS} (hn : 0 < n) (h : (c_next o d).1 = -2) : sk o n a d = (-2, a, (c_next o d).2) := by
  obtain ⟨k, rfl⟩ : ∃ k, n = k + 1 := ⟨n - 1, by omega⟩
  rw [sk, if_pos h]
theorem sk_e {o : OS} {n a : Nat} {d : CS} (hn : 0 < n) (h : ¬ (c_next o d).1 = -2) (h1 : (c_next o d).1 = -1) : sk o n a d = (0, a, (c_next o d).2) := by
  obtain ⟨k, rfl⟩ : ∃ k, n = k + 1 := ⟨n - 1, by omega⟩
  rw [sk, if_neg h, if_pos h1]
theorem sk_s {o : OS} {n a : Nat} {d : CS} (hn : 0 < n) (h : ¬ (c_next o d).1 = -2) (h1 : ¬ (c_next o d).1 = -1) : sk o n a d = sk o (n - 1) (a + 1) (c_next o d).2 := by
  obtain ⟨k, rfl⟩ : ∃ k, n = k + 1 := ⟨n - 1, by omega⟩
  rw [sk, if_neg h, if_neg h1]
  rfl
