/-! the class's calls as functions: writing -/
theorem bI_eq {a b : Bool} : bI a = bI b ↔ a = b := by cases a <;> cases b <;> decide
theorem lcmp_0 {x y : Int64} : lg_cmp x y = 0 ↔ x = y := by
  unfold lg_cmp
  constructor
  · intro h
    split at h
    · exact absurd h (by decide)
    · split at h
      · assumption
      · exact absurd h (by decide)
  · intro h
    subst h
    rw [if_neg (by simp [Int64.lt_irrefl]), if_pos rfl]
def w_room (o : OS) (z : Nat) : Prop := o.2.1 + o.2.2.2.1 + z ≤ 1500
theorem o_num_ok {o : OS} (h : o_ok o) (v : Int64) (z : Nat) : o_ok (o_num o v z) := by
  induction z generalizing o with
  | zero => exact h
  | succ z ih => exact ih (o_byte_ok h _)
def w_num (o : OS) (v : Int64) (z : Nat) : OS := if o.2.1 + o.2.2.2.1 + z ≤ 1500 then o_num o v z else o
def w_res (o : OS) (z : Nat) : Int32 := if o.2.1 + o.2.2.2.1 + z ≤ 1500 then nI z else -2
theorem w_num_ok {o : OS} (h : o_ok o) (v : Int64) (z : Nat) : o_ok (w_num o v z) := by
  unfold w_num
  split
  · exact o_num_ok h v z
  · exact h
theorem nI_m2 {z : Nat} (h : z < 2 ^ 31) : ¬ nI z = -2 := by
  intro e
  have h2 := nI_toInt h
  rw [e] at h2
  exact absurd h2 (by rw [show (-2 : Int32).toInt = -2 from rfl]; omega)
theorem w_res_2 {o : OS} {z : Nat} (hz : z ≤ 4000) : w_res o z = -2 ↔ ¬ o.2.1 + o.2.2.2.1 + z ≤ 1500 := by
  unfold w_res
  split
  · exact ⟨fun e => absurd e (nI_m2 (by omega)), fun e => absurd (by assumption) e⟩
  · exact ⟨fun _ => by assumption, fun _ => rfl⟩
def w_raw (o : OS) (v : Int64) (z : Nat) : Int32 := if o.2.1 + o.2.2.2.1 + z ≤ 1500 then nI (o_num o v z).2.1 else -2
def o_mode (o : OS) (b : Bool) : OS := (o.1, o.2.1, o.2.2.1, o.2.2.2.1, b)
def w_blocks (o : OS) (b : Bool) : OS := if b = o.2.2.2.2 then o else o_mode (o_block o) b
def w_val (k : Nat) (v : Int64) : Int64 := if k = 0 then (if v = 0 then 0 else 1) else v
def w_text (o : OS) (f : Nat → Int32) (z : Nat) : OS := if o.2.1 + o.2.2.2.1 + (2 + t_sum f z) ≤ 1500 then o_encs (o_num o (nI (t_sum f z)).toInt64 2) f z else o
def w_textr (o : OS) (f : Nat → Int32) (z : Nat) : Int32 := if o.2.1 + o.2.2.2.1 + (2 + t_sum f z) ≤ 1500 then nI (2 + t_sum f z) else -2
def s_ans (o : OS) (c : CS) (b : Bool) (k : Nat) : Int32 :=
  if k = 0 then nI o.2.1 else if k = 1 then nI o.2.2.2.1 else if k = 2 then nI c.1 else if k = 3 then nI c.2.1 else if k = 4 then c.2.2.1 else bI b
theorem x_nat {j : Int32} {N : Nat} (h0 : ¬ j < 0) (h1 : j < nI N) (hN : N < 2 ^ 31) : ∃ n : Nat, n < N ∧ j = nI n := by
  obtain ⟨n, hn, rfl⟩ := nI_of h0
  exact ⟨n, (nI_ltI hn hN).mp h1, rfl⟩
theorem x_out {j : Int32} {N : Nat} (hN : N < 2 ^ 31) (h : j < 0 ∨ ¬ j < nI (N + 1)) (hN1 : N + 1 < 2 ^ 31) : j.toInt < 0 ∨ (N : Int) < j.toInt := by
  rcases h with h | h
  · left; rw [Int32.lt_iff_toInt_lt] at h; exact h
  · right
    rw [Int32.lt_iff_toInt_lt, nI_toInt hN1] at h
    omega
