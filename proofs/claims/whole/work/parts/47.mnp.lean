/-! numbers and skipping, as the reference reads them -/
theorem c_find_mono (o : OS) : ∀ (t : Nat) (d : CS), d.1 ≤ (c_find o t d).2.1 := by
  intro t
  induction t with
  | zero => intro d; exact Nat.le_refl _
  | succ t ih =>
    intro d
    by_cases hl : d.2.1 = 0
    · by_cases hm : o_at o d.1 = 121
      · rw [← c_find_r (t := t + 1) (by omega) hl hm]
        exact Nat.le_trans (Nat.le_succ d.1) (ih (d.1 + 1, d.2.1, d.2.2.1 + 1, d.2.2.2))
      · by_cases h1 : o_at o d.1 = 119
        · rw [c_find_b (t := t + 1) (z := 1) (by omega) hl hm (Or.inl ⟨h1, rfl⟩)]
          by_cases hb : (c_open o d 1).1 = true
          · rw [if_pos hb]
            have := ih (c_open o d 1).2
            rw [c_open_p hb] at this
            exact Nat.le_trans (by omega) this
          · rw [if_neg hb]; exact Nat.le_refl _
        · by_cases h2 : o_at o d.1 = 122
          · rw [c_find_b (t := t + 1) (z := 4) (by omega) hl hm (Or.inr ⟨h1, h2, rfl⟩)]
            by_cases hb : (c_open o d 4).1 = true
            · rw [if_pos hb]
              have := ih (c_open o d 4).2
              rw [c_open_p hb] at this
              exact Nat.le_trans (by omega) this
            · rw [if_neg hb]; exact Nat.le_refl _
          · rw [c_find_e (t := t + 1) (by omega) hl hm h1 h2]; exact Nat.le_refl _
    · rw [c_find_0 (Or.inr hl)]; exact Nat.le_refl _
theorem c_look_mono (o : OS) (d : CS) : d.1 ≤ (c_look o d).2.1 := by
  unfold c_look
  split
  · exact c_find_mono o _ d
  · exact Nat.le_refl _
theorem c_next_p {o : OS} {d : CS} (h : ¬ nf o d) : d.1 + 1 ≤ (c_next o d).2.1 := by
  have hm := c_look_mono o d
  unfold nf c_next at h
  unfold c_next
  dsimp only at h ⊢
  by_cases h0 : (c_look o d).1 = 0
  · rw [if_neg (fun z => z h0)] at h ⊢
    by_cases h1 : o.2.1 ≤ (c_look o d).2.1
    · rw [if_pos h1] at h
      exact absurd (Or.inr rfl) h
    · rw [if_neg h1]
      show d.1 + 1 ≤ (c_look o d).2.1 + 1
      omega
  · rw [if_pos h0] at h
    exfalso
    unfold c_look at h h0
    split at h
    · rename_i hm
      rw [if_pos hm] at h0
      rcases c_find_in o (o.2.1 - d.1) d with q | q | q
      · exact h0 q
      · exact h (Or.inr q)
      · exact h (Or.inl q)
    · rename_i hm
      rw [if_neg hm] at h0
      exact h0 rfl
theorem c_next_mode {o : OS} {c : CS} (h : c_ok o c) : (c_next o c).2.2.2.2 = c.2.2.2 := by
  have h2 := (c_look_keep h).2.1
  unfold c_next
  dsimp only
  split
  · exact h2
  · split
    · exact h2
    · exact h2
theorem nbe_nf {o : OS} {d : CS} : nbe (c_next o d).1 = 0 ↔ ¬ nf o d := by
  unfold nbe nf
  constructor
  · intro h
    split at h
    · exact absurd h (by decide)
    · split at h
      · exact absurd h (by decide)
      · rename_i h1 h2
        exact fun z => z.elim h1 h2
  · intro h
    rw [if_neg (fun z => h (Or.inl z)), if_neg (fun z => h (Or.inr z))]
theorem nbv_nf {o : OS} {d : CS} (h : ¬ nf o d) : nbv (c_next o d).1 = (c_next o d).1 := if_neg h
theorem nbe_le (r : Int32) : nbe r ≤ 2 := by
  unfold nbe
  split
  · omega
  · split <;> omega
theorem cs_next {o : OS} {t : T3} {m : Bool} (h : c_ok o (cs t m)) : cs (t3 (c_next o (cs t m)).2) m = (c_next o (cs t m)).2 := cs_t3 (c_next_mode h)
def rm_v (r : Int32) (v : Int64) : Int64 := (v <<< ((8 : Int32).toInt64 &&& 63)) ||| (nbv r).toInt64
def rm (o : OS) (m : Bool) : Nat → T3 → Int64 → Nat × T3 × Int64
  | 0, t, v => (0, t, v)
  | n + 1, t, v => if nbe (c_next o (cs t m)).1 = 0 then rm o m n (t3 (c_next o (cs t m)).2) (rm_v (c_next o (cs t m)).1 v) else (nbe (c_next o (cs t m)).1, t3 (c_next o (cs t m)).2, rm_v (c_next o (cs t m)).1 v)
theorem rm_s {o : OS} {m : Bool} {n : Nat} {t : T3} {v : Int64} (hn : 0 < n) : rm o m n t v = (if nbe (c_next o (cs t m)).1 = 0 then rm o m (n - 1) (t3 (c_next o (cs t m)).2) (rm_v (c_next o (cs t m)).1 v) else (nbe (c_next o (cs t m)).1, t3 (c_next o (cs t m)).2, rm_v (c_next o (cs t m)).1 v)) := by
  obtain ⟨k, rfl⟩ : ∃ k, n = k + 1 := ⟨n - 1, by omega⟩
  rw [rm]; rfl
theorem rm_rn {o : OS} {m : Bool} : ∀ (n : Nat) (t : T3) (v : Int64), c_ok o (cs t m) →
    ((rn o n (cs t m) v).1 = 0 → rm o m n t v = (0, t3 (rn o n (cs t m) v).2.1, (rn o n (cs t m) v).2.2) ∧ (rn o n (cs t m) v).2.1.2.2.2 = m) ∧
    (¬ (rn o n (cs t m) v).1 = 0 → (rm o m n t v).1 = nbe (rn o n (cs t m) v).1 ∧ ((rn o n (cs t m) v).1 = -1 ∨ (rn o n (cs t m) v).1 = -2)) := by
  intro n
  induction n with
  | zero => intro t v h; exact ⟨fun _ => ⟨rfl, rfl⟩, fun z => absurd rfl z⟩
  | succ n ih =>
    intro t v h
    by_cases z : nf o (cs t m)
    · rw [rn_f (by omega) z, rm_s (by omega), if_neg (fun q => (nbe_nf.mp q) z)]
      exact ⟨fun q => absurd q (nf_ne z), fun _ => ⟨rfl, z.elim Or.inr Or.inl⟩⟩
    · rw [rn_s (by omega) z, rm_s (by omega), if_pos (nbe_nf.mpr z)]
      have q := ih (t3 (c_next o (cs t m)).2) (rn_v o (cs t m) v) (by rw [cs_next h]; exact c_next_ok h)
      rw [cs_next h] at q
      have e : rm_v (c_next o (cs t m)).1 v = rn_v o (cs t m) v := by
        unfold rm_v rn_v; rw [nbv_nf z]
      rw [e]
      exact q
theorem rn_rm {o : OS} {n : Nat} {c : CS} {v : Int64} (h : c_ok o c) (h0 : (rn o n c v).1 = 0) : rm o c.2.2.2 n (t3 c) v = (0, t3 (rn o n c v).2.1, (rn o n c v).2.2) ∧ (rn o n c v).2.1.2.2.2 = c.2.2.2 := (rm_rn n (t3 c) v h).1 h0
theorem nbe_2 {r : Int32} : nbe r = 2 ↔ r = -2 := by
  unfold nbe
  constructor
  · intro h
    split at h
    · assumption
    · split at h <;> omega
  · intro h; rw [if_pos h]
theorem rn_rmf {o : OS} {n : Nat} {c : CS} {v : Int64} (h : c_ok o c) (h0 : ¬ (rn o n c v).1 = 0) : ¬ (rm o c.2.2.2 n (t3 c) v).1 = 0 ∧ ((rm o c.2.2.2 n (t3 c) v).1 = 2 ↔ (rn o n c v).1 = -2) := by
  obtain ⟨e, h1⟩ := (rm_rn n (t3 c) v h).2 h0
  rw [e]
  refine ⟨?_, nbe_2⟩
  show ¬ nbe (rn o n c v).1 = 0
  have h1 : (rn o n c v).1 = -1 ∨ (rn o n c v).1 = -2 := h1
  rcases h1 with q | q <;> rw [q] <;> decide
theorem rm_le {o : OS} {m : Bool} : ∀ (n : Nat) (t : T3) (v : Int64), (rm o m n t v).1 ≤ 2 := by
  intro n
  induction n with
  | zero => intro t v; exact Nat.zero_le _
  | succ n ih =>
    intro t v
    rw [rm_s (by omega)]
    split
    · exact ih _ _
    · exact nbe_le _
theorem rd_N {o : OS} {c : CS} {z : Nat} (hb : o_by o) (h : (rn o (ks z) c 0).1 = 0) : ∃ N : Nat, N < 256 ^ (ks z) ∧ (rn o (ks z) c 0).2.2 = lN N := by
  have hk := (ks_in z).2
  have hp : 256 ^ (ks z) ≤ 256 ^ 8 := Nat.pow_le_pow_right (by decide) hk
  obtain ⟨N, hN, e⟩ := rn_lN hb (ks z) c 0 (by rw [Nat.zero_add, Nat.one_mul]; exact hp) h
  exact ⟨N, by rw [Nat.zero_add, Nat.one_mul] at hN; exact hN, e⟩
theorem lN_tI {N : Nat} (h : N < 2 ^ 63) : (lN N).toInt = (N : Int) := lg_ofNat_toInt h
theorem rd_0 {z : Nat} {v : Int64} (h : z = 0) : rd_val z v = if v = 0 then 0 else 1 := by rw [rd_val, if_pos h]
theorem rd_o {z : Nat} {v : Int64} (h0 : ¬ z = 0) (h1 : ¬ z = 1) (h3 : ¬ z = 3) (h4 : ¬ z = 4) : rd_val z v = v := by rw [rd_val, if_neg h0, if_neg h1, if_neg h3, if_neg h4]
theorem rd_1 {z N : Nat} {v : Int64} (e : v = lN N) (hN : N < 256 ^ (ks z)) (h : z = 1) : (v ≤ 127 → rd_val z v = v) ∧ (¬ v ≤ 127 → rd_val z v = v - 256) := by
  subst h
  have hN : N < 256 := hN
  have hv : rd_val 1 v = v.toInt32.toInt8.toInt32.toInt64 := rfl
  have hi := lN_tI (N := N) (by omega)
  have e1 : (v.toInt32.toInt8.toInt32.toInt64).toInt = if N ≤ 127 then (N : Int) else (N : Int) - 256 := by
    rw [e, Int32.toInt_toInt64, Int8.toInt_toInt32, Int32.toInt_toInt8, Int64.toInt_toInt32, hi]
    simp only [Int.bmod_def]
    split <;> split <;> split <;> omega
  have hc : v ≤ 127 ↔ N ≤ 127 := by rw [e]; exact pk_lLE (b := 127) (by omega) (by decide)
  constructor
  · intro h
    rw [hv]
    apply Int64.toInt_inj.mp
    rw [e1, if_pos (hc.mp h), e, hi]
  · intro h
    rw [hv]
    apply Int64.toInt_inj.mp
    rw [e1, if_neg (fun q => h (hc.mpr q)), Int64.toInt_sub, e, hi]
    have : ¬ N ≤ 127 := fun q => h (hc.mpr q)
    rw [show (256 : Int64).toInt = 256 from rfl]
    simp only [Int.bmod_def]
    split <;> omega
theorem rd_3 {z N : Nat} {v : Int64} (e : v = lN N) (hN : N < 256 ^ (ks z)) (h : z = 3) : (v ≤ 32767 → rd_val z v = v) ∧ (¬ v ≤ 32767 → rd_val z v = v - 65536) := by
  subst h
  have hN : N < 65536 := hN
  have hv : rd_val 3 v = v.toInt32.toInt16.toInt32.toInt64 := rfl
  have hi := lN_tI (N := N) (by omega)
  have e1 : (v.toInt32.toInt16.toInt32.toInt64).toInt = if N ≤ 32767 then (N : Int) else (N : Int) - 65536 := by
    rw [e, Int32.toInt_toInt64, Int16.toInt_toInt32, Int32.toInt_toInt16, Int64.toInt_toInt32, hi]
    simp only [Int.bmod_def]
    split <;> split <;> split <;> omega
  have hc : v ≤ 32767 ↔ N ≤ 32767 := by rw [e]; exact pk_lLE (b := 32767) (by omega) (by decide)
  constructor
  · intro h
    rw [hv]
    apply Int64.toInt_inj.mp
    rw [e1, if_pos (hc.mp h), e, hi]
  · intro h
    rw [hv]
    apply Int64.toInt_inj.mp
    rw [e1, if_neg (fun q => h (hc.mpr q)), Int64.toInt_sub, e, hi]
    have : ¬ N ≤ 32767 := fun q => h (hc.mpr q)
    rw [show (65536 : Int64).toInt = 65536 from rfl]
    simp only [Int.bmod_def]
    split <;> omega
theorem rd_4 {z N : Nat} {v : Int64} (e : v = lN N) (hN : N < 256 ^ (ks z)) (h : z = 4) : (v ≤ 2147483647 → rd_val z v = v) ∧ (¬ v ≤ 2147483647 → rd_val z v = v - 4294967296) := by
  subst h
  have hN : N < 4294967296 := hN
  have hv : rd_val 4 v = v.toInt32.toInt64 := rfl
  have hi := lN_tI (N := N) (by omega)
  have e1 : (v.toInt32.toInt64).toInt = if N ≤ 2147483647 then (N : Int) else (N : Int) - 4294967296 := by
    rw [e, Int32.toInt_toInt64, Int64.toInt_toInt32, hi]
    simp only [Int.bmod_def]
    split <;> split <;> omega
  have hc : v ≤ 2147483647 ↔ N ≤ 2147483647 := by rw [e]; exact pk_lLE (b := 2147483647) (by omega) (by decide)
  constructor
  · intro h
    rw [hv]
    apply Int64.toInt_inj.mp
    rw [e1, if_pos (hc.mp h), e, hi]
  · intro h
    rw [hv]
    apply Int64.toInt_inj.mp
    rw [e1, if_neg (fun q => h (hc.mpr q)), Int64.toInt_sub, e, hi]
    have : ¬ N ≤ 2147483647 := fun q => h (hc.mpr q)
    rw [show (4294967296 : Int64).toInt = 4294967296 from rfl]
    simp only [Int.bmod_def]
    split <;> omega
def sm (o : OS) (m : Bool) : Nat → Nat → T3 → Nat × Nat × T3
  | 0, a, t => (0, a, t)
  | n + 1, a, t => if nbe (c_next o (cs t m)).1 = 0 then sm o m n (a + 1) (t3 (c_next o (cs t m)).2) else (nbe (c_next o (cs t m)).1, a, t3 (c_next o (cs t m)).2)
theorem smk_s {o : OS} {m : Bool} {n a : Nat} {t : T3} (hn : 0 < n) : sm o m n a t = if nbe (c_next o (cs t m)).1 = 0 then sm o m (n - 1) (a + 1) (t3 (c_next o (cs t m)).2) else (nbe (c_next o (cs t m)).1, a, t3 (c_next o (cs t m)).2) := by
  obtain ⟨k, rfl⟩ : ∃ k, n = k + 1 := ⟨n - 1, by omega⟩
  rw [sm]; rfl
theorem sm_sk {o : OS} {m : Bool} : ∀ (n a : Nat) (t : T3), c_ok o (cs t m) →
    sk o n a (cs t m) = (if (sm o m n a t).1 = 2 then -2 else 0, (sm o m n a t).2.1, cs (sm o m n a t).2.2 m) ∧ (sm o m n a t).1 ≤ 2 ∧ (sm o m n a t).2.1 ≤ a + n := by
  intro n
  induction n with
  | zero => intro a t h; exact ⟨rfl, Nat.zero_le _, Nat.le_refl _⟩
  | succ n ih =>
    intro a t h
    by_cases h2 : (c_next o (cs t m)).1 = -2
    · have hn : ¬ nbe (c_next o (cs t m)).1 = 0 := fun q => (nbe_nf.mp q) (Or.inl h2)
      rw [sk_c (by omega) h2, smk_s (by omega), if_neg hn]
      refine ⟨?_, nbe_le _, by show a ≤ _; omega⟩
      rw [if_pos (nbe_2.mpr h2)]
      show _ = (-2, a, cs (t3 (c_next o (cs t m)).2) m)
      rw [cs_next h]
    · by_cases h1 : (c_next o (cs t m)).1 = -1
      · have hn : ¬ nbe (c_next o (cs t m)).1 = 0 := fun q => (nbe_nf.mp q) (Or.inr h1)
        rw [sk_e (by omega) h2 h1, smk_s (by omega), if_neg hn]
        refine ⟨?_, nbe_le _, by show a ≤ _; omega⟩
        rw [if_neg (fun q => h2 (nbe_2.mp q))]
        show _ = (0, a, cs (t3 (c_next o (cs t m)).2) m)
        rw [cs_next h]
      · have z : ¬ nf o (cs t m) := fun q => q.elim h2 h1
        rw [sk_s (by omega) h2 h1, smk_s (by omega), if_pos (nbe_nf.mpr z)]
        have q := ih (a + 1) (t3 (c_next o (cs t m)).2) (by rw [cs_next h]; exact c_next_ok h)
        rw [cs_next h] at q
        exact ⟨q.1, q.2.1, Nat.le_trans q.2.2 (by omega)⟩
