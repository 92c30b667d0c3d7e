/-! texts, as the reference reads them -/
theorem dc_1 {f : Nat → Nat} {a : Nat} : dc f a 1 = some (f a) := rfl
theorem dc_2 {f : Nat → Nat} {a v : Nat} (h : ¬ (f (a + 1) < 128 ∨ 191 < f (a + 1))) (hv : v = f a % 32 * 64 + f (a + 1) % 64) : dc f a 2 = some v := by
  subst hv
  show dc_go f a 1 1 (f a % 2 ^ 5) = _
  rw [dc_go, if_neg h]
  rfl
theorem dc_2n {f : Nat → Nat} {a : Nat} (h : f (a + 1) < 128 ∨ 191 < f (a + 1)) : dc f a 2 = none := by
  show dc_go f a 1 1 (f a % 2 ^ 5) = _
  rw [dc_go, if_pos h]
theorem dc_3 {f : Nat → Nat} {a v : Nat} (h : ¬ (f (a + 1) < 128 ∨ 191 < f (a + 1))) (h2 : ¬ (f (a + 2) < 128 ∨ 191 < f (a + 2))) (hv : v = (f a % 16 * 64 + f (a + 1) % 64) * 64 + f (a + 2) % 64) : dc f a 3 = some v := by
  subst hv
  show dc_go f a 2 1 (f a % 2 ^ 4) = _
  rw [dc_go, if_neg h, dc_go, if_neg h2]
  rfl
theorem dc_3n {f : Nat → Nat} {a : Nat} (h : (f (a + 1) < 128 ∨ 191 < f (a + 1)) ∨ (f (a + 2) < 128 ∨ 191 < f (a + 2))) : dc f a 3 = none := by
  show dc_go f a 2 1 (f a % 2 ^ 4) = _
  by_cases h1 : f (a + 1) < 128 ∨ 191 < f (a + 1)
  · rw [dc_go, if_pos h1]
  · rw [dc_go, if_neg h1, dc_go, if_pos (h.resolve_left h1)]
theorem td_t2 {f : Nat → Nat} {z n c a : Nat} {d : Nat → Int32} (hn : 0 < n) (h : ¬ z ≤ a) (hc : c < 40) (hs : szb (f a) = 2) (hb : ¬ (a + 1 < z ∧ 128 ≤ f (a + 1) ∧ f (a + 1) ≤ 191)) : td f z n c a d = (-1, d) := by
  by_cases h1 : a + 1 < z
  · exact td_none hn h (by omega) (by rw [hs]; exact dc_2n (by omega))
  · exact td_bad hn h (by omega)
theorem td_t3 {f : Nat → Nat} {z n c a : Nat} {d : Nat → Int32} (hn : 0 < n) (h : ¬ z ≤ a) (hc : c < 40) (hs : szb (f a) = 3) (hb : ¬ (a + 1 < z ∧ 128 ≤ f (a + 1) ∧ f (a + 1) ≤ 191) ∨ ¬ (a + 2 < z ∧ 128 ≤ f (a + 2) ∧ f (a + 2) ≤ 191)) : td f z n c a d = (-1, d) := by
  by_cases h1 : a + 2 < z
  · exact td_none hn h (by omega) (by rw [hs]; exact dc_3n (by omega))
  · exact td_bad hn h (by omega)
theorem td_cnt {f : Nat → Nat} {z : Nat} : ∀ (n c a : Nat) (d : Nat → Int32), c ≤ 40 → ((td f z n c a d).1 = -1 ∨ ∃ k : Nat, k ≤ 40 ∧ (td f z n c a d).1 = nI k) := by
  intro n
  induction n with
  | zero => intro c a d hc; exact Or.inr ⟨c, hc, rfl⟩
  | succ n ih =>
    intro c a d hc
    by_cases h : z ≤ a
    · rw [td_end h]; exact Or.inr ⟨c, hc, rfl⟩
    · by_cases hb : szb (f a) = 0 ∨ z - a < szb (f a) ∨ 40 ≤ c
      · rw [td_bad (by omega) h hb]; exact Or.inl rfl
      · cases hv : dc f a (szb (f a)) with
        | none => rw [td_none (by omega) h hb hv]; exact Or.inl rfl
        | some v =>
          rw [td_some (by omega) h hb hv]
          exact ih _ _ _ (by omega)
theorem nI_m1 {z : Nat} (h : z < 2 ^ 31) : ¬ nI z = -1 := by
  intro e
  have h2 := nI_toInt h
  rw [e] at h2
  exact absurd h2 (by rw [show (-1 : Int32).toInt = -1 from rfl]; omega)
/-- what is decoded doesn't hang on what lay there, nor on bytes behind the end -/
theorem td_same {f f' : Nat → Nat} {z : Nat} (hf : ∀ j, j < z → f j = f' j) : ∀ (n c a : Nat) (d d' : Nat → Int32), c ≤ 40 → (∀ j, j < c → d j = d' j) →
    (td f z n c a d).1 = (td f' z n c a d').1 ∧ ∀ k : Nat, (td f z n c a d).1 = nI k → k ≤ 40 → ∀ j, j < k → (td f z n c a d).2 j = (td f' z n c a d').2 j := by
  intro n
  induction n with
  | zero =>
    intro c a d d' hc hd
    refine ⟨rfl, fun k hk hk2 j hj => hd j ?_⟩
    have : c = k := (nI_eq (by omega) (by omega)).mp hk
    omega
  | succ n ih =>
    intro c a d d' hc hd
    by_cases h : z ≤ a
    · rw [td_end h, td_end h]
      refine ⟨rfl, fun k hk hk2 j hj => hd j ?_⟩
      have : c = k := (nI_eq (by omega) (by omega)).mp hk
      omega
    · have ea := hf a (by omega)
      by_cases hb : szb (f a) = 0 ∨ z - a < szb (f a) ∨ 40 ≤ c
      · rw [td_bad (by omega) h hb, td_bad (by omega) h (by rw [← ea]; exact hb)]
        exact ⟨rfl, fun k hk hk2 => absurd hk.symm (nI_m1 (by omega))⟩
      · have e2 : dc f' a (szb (f' a)) = dc f a (szb (f a)) := by
          rw [← ea]
          have hs := szb_le (f a)
          rcases (show szb (f a) = 1 ∨ szb (f a) = 2 ∨ szb (f a) = 3 by omega) with q | q | q
          · rw [q, dc_1, dc_1, ea]
          · rw [q]
            show dc_go f' a 1 1 (f' a % 2 ^ 5) = dc_go f a 1 1 (f a % 2 ^ 5)
            simp only [dc_go, ea, hf (a + 1) (by omega)]
          · rw [q]
            show dc_go f' a 2 1 (f' a % 2 ^ 4) = dc_go f a 2 1 (f a % 2 ^ 4)
            simp only [dc_go, ea, hf (a + 1) (by omega), hf (a + (1 + 1)) (by omega)]
        cases hv : dc f a (szb (f a)) with
        | none =>
          rw [td_none (by omega) h hb hv, td_none (by omega) h (by rw [← ea]; exact hb) (by rw [e2]; exact hv)]
          exact ⟨rfl, fun k hk hk2 => absurd hk.symm (nI_m1 (by omega))⟩
        | some v =>
          rw [td_some (by omega) h hb hv, td_some (by omega) h (by rw [← ea]; exact hb) (by rw [e2]; exact hv), ← ea]
          refine ih (c + 1) _ _ _ (by omega) (fun j hj => ?_)
          by_cases q : j = c
          · rw [q, pk_us, pk_us]
          · rw [pk_un q, pk_un q]; exact hd j (by omega)
/-- a text too long for forty codes is malformed -/
theorem td_long {f : Nat → Nat} {z : Nat} : ∀ (n c a : Nat) (d : Nat → Int32), c ≤ 40 → z < a + n → 3 * (40 - c) < z - a → (td f z n c a d).1 = -1 := by
  intro n
  induction n with
  | zero => intro c a d hc hz hl; omega
  | succ n ih =>
    intro c a d hc hz hl
    have h : ¬ z ≤ a := by omega
    by_cases hb : szb (f a) = 0 ∨ z - a < szb (f a) ∨ 40 ≤ c
    · rw [td_bad (by omega) h hb]
    · have hs := szb_le (f a)
      cases hv : dc f a (szb (f a)) with
      | none => rw [td_none (by omega) h hb hv]
      | some v =>
        rw [td_some (by omega) h hb hv]
        exact ih _ _ _ (by omega) (by omega) (by omega)
def rg (o : OS) (m : Bool) : Nat → Nat → T3 → (Nat → Int32) → Nat × T3 × (Nat → Int32)
  | 0, _, t, f => (0, t, f)
  | n + 1, i, t, f => if nbe (c_next o (cs t m)).1 = 0 then rg o m n (i + 1) (t3 (c_next o (cs t m)).2) (upd f i (nbv (c_next o (cs t m)).1)) else (nbe (c_next o (cs t m)).1, t3 (c_next o (cs t m)).2, upd f i (nbv (c_next o (cs t m)).1))
theorem rg_s {o : OS} {m : Bool} {n i : Nat} {t : T3} {f : Nat → Int32} (hn : 0 < n) : rg o m n i t f = if nbe (c_next o (cs t m)).1 = 0 then rg o m (n - 1) (i + 1) (t3 (c_next o (cs t m)).2) (upd f i (nbv (c_next o (cs t m)).1)) else (nbe (c_next o (cs t m)).1, t3 (c_next o (cs t m)).2, upd f i (nbv (c_next o (cs t m)).1)) := by
  obtain ⟨k, rfl⟩ : ∃ k, n = k + 1 := ⟨n - 1, by omega⟩
  rw [rg]; rfl
theorem rg_le {o : OS} {m : Bool} : ∀ (n i : Nat) (t : T3) (f : Nat → Int32), (rg o m n i t f).1 ≤ 2 := by
  intro n
  induction n with
  | zero => intro i t f; exact Nat.zero_le _
  | succ n ih =>
    intro i t f
    rw [rg_s (by omega)]
    split
    · exact ih _ _ _
    · exact nbe_le _
theorem rg_tl {o : OS} {m : Bool} (hb : o_by o) : ∀ (n i : Nat) (t : T3) (f : Nat → Int32) (y : TS), c_ok o (cs t m) → f_ok f i 255 → (∀ j, j < i → j < 120 → y.2.1 j = f j) →
    ((tl o n i (cs t m) y).1 = 0 → (rg o m n i t f).1 = 0 ∧ cs (rg o m n i t f).2.1 m = (tl o n i (cs t m) y).2.1 ∧ c_ok o (cs (rg o m n i t f).2.1 m) ∧ t.1 + n ≤ (rg o m n i t f).2.1.1 ∧ f_ok (rg o m n i t f).2.2 (i + n) 255 ∧ (∀ j, j < i + n → j < 120 → (tl o n i (cs t m) y).2.2.2.1 j = (rg o m n i t f).2.2 j)) ∧
    (¬ (tl o n i (cs t m) y).1 = 0 → ¬ (rg o m n i t f).1 = 0 ∧ ((rg o m n i t f).1 = 2 ↔ (tl o n i (cs t m) y).1 = -2)) := by
  intro n
  induction n with
  | zero => intro i t f y hc hf hy; exact ⟨fun _ => ⟨rfl, rfl, hc, Nat.le_refl _, hf, hy⟩, fun z => absurd rfl z⟩
  | succ n ih =>
    intro i t f y hc hf hy
    by_cases z : nf o (cs t m)
    · have hn : ¬ nbe (c_next o (cs t m)).1 = 0 := fun q => (nbe_nf.mp q) z
      rw [tl_f (by omega) z, rg_s (by omega), if_neg hn]
      exact ⟨fun q => absurd q (nf_ne z), fun _ => ⟨hn, nbe_2⟩⟩
    · obtain ⟨k, hk, ek⟩ := c_next_b hb z
      have hp : t.1 + 1 ≤ (c_next o (cs t m)).2.1 := c_next_p z
      rw [tl_s (by omega) z, rg_s (by omega), if_pos (nbe_nf.mpr z), nbv_nf z]
      have q := ih (i + 1) (t3 (c_next o (cs t m)).2) (upd f i (c_next o (cs t m)).1) (t_keep y i (c_next o (cs t m)).1) (by rw [cs_next hc]; exact c_next_ok hc)
        (by
          intro j hj
          by_cases e : j = i
          · rw [e, pk_us, ek]; exact ⟨nI_pos' (by omega), nI_le hk (by decide)⟩
          · rw [pk_un e]; exact hf j (by omega))
        (by
          intro j hj hj2
          by_cases e : j = i
          · rw [e, pk_us, t_keep, if_pos (by omega)]; exact pk_us
          · rw [pk_un e]
            unfold t_keep
            split
            · exact (pk_un e).trans (hy j (by omega) hj2)
            · exact hy j (by omega) hj2)
      rw [cs_next hc] at q
      refine ⟨fun h0 => ?_, q.2⟩
      obtain ⟨q1, q2, q3, q4, q5, q6⟩ := q.1 h0
      refine ⟨q1, q2, q3, ?_, ?_, ?_⟩
      · have q4 : (c_next o (cs t m)).2.1 + n ≤ _ := q4
        exact Nat.le_trans (by omega) q4
      · rw [show i + (n + 1) = i + 1 + n by omega]; exact q5
      · rw [show i + (n + 1) = i + 1 + n by omega]; exact q6
theorem cpy_0 (g f : Nat → Int32) : va_cpy g f 0 0 0 = f := by
  funext k
  rw [va_cpy, if_neg (by omega)]
theorem cpy_s (g f : Nat → Int32) (j : Nat) : upd (va_cpy g f 0 0 j) j (g j) = va_cpy g f 0 0 (j + 1) := by
  funext k
  by_cases e : k = j
  · rw [e, pk_us, va_cpy, if_pos (by omega)]
    congr 1
    omega
  · rw [pk_un e]
    unfold va_cpy
    by_cases h : 0 ≤ k ∧ k < 0 + j
    · rw [if_pos h, if_pos (by omega)]
    · rw [if_neg h, if_neg (by omega)]
theorem cpy_eq {g g' f : Nat → Int32} {n : Nat} (h : ∀ j, j < n → g j = g' j) : va_cpy g f 0 0 n = va_cpy g' f 0 0 n := by
  funext k
  unfold va_cpy
  split
  · exact h _ (by omega)
  · rfl
