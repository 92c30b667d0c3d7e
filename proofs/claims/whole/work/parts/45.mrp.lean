/-! the reference reads as the class does -/
def cs (t : T3) (m : Bool) : CS := (t.1, t.2.1, t.2.2, m)
def t3 (c : CS) : T3 := (c.1, c.2.1, c.2.2.1)
theorem cs_t3 {c : CS} {m : Bool} (h : c.2.2.2 = m) : cs (t3 c) m = c := by subst h; rfl
theorem o_at_n {o : OS} {j : Nat} (hb : o_by o) (hj : j < o.2.1) : o_at o j = nI (n_at o.1 j) ∧ n_at o.1 j ≤ 255 := by
  rw [o_at, if_pos hj]
  exact ⟨n_at_eq hb hj, n_at_le hb hj (by decide)⟩
theorem o_at_out {o : OS} {j : Nat} (hj : ¬ j < o.2.1) : o_at o j = -1 := by rw [o_at, if_neg hj]
theorem c_find_len {o : OS} {t : Nat} {d : CS} (h : ¬ d.1 < o.2.1) (hl : d.2.1 = 0) : c_find o t d = (-1, d) := by
  cases t with
  | zero => rw [c_find_0 (Or.inl (Nat.le_refl 0)), if_pos hl]
  | succ t =>
    have e := o_at_out h
    rw [c_find_e (by omega) hl (by rw [e]; decide) (by rw [e]; decide) (by rw [e]; decide), e]
    rfl
theorem c_open_p {o : OS} {d : CS} {z : Nat} (h : (c_open o d z).1 = true) : (c_open o d z).2.1 = d.1 + (1 + z) := by
  unfold c_open at h ⊢
  split at h
  · exact absurd (show false = true from h) (by decide)
  · split at h
    · exact absurd (show false = true from h) (by decide)
    · rename_i h1 h2
      rw [if_neg h1, if_neg h2]
theorem c_find_fuel (o : OS) : ∀ (t t' : Nat) (d : CS), c_ok o d → o.2.1 - d.1 ≤ t → o.2.1 - d.1 ≤ t' → c_find o t d = c_find o t' d := by
  intro t
  induction t with
  | zero =>
    intro t' d hd h1 h2
    by_cases hl : d.2.1 = 0
    · rw [c_find_len (by omega) hl, c_find_len (by omega) hl]
    · rw [c_find_0 (Or.inr hl), c_find_0 (Or.inr hl)]
  | succ t ih =>
    intro t' d hd h1 h2
    by_cases hl : d.2.1 = 0
    · by_cases hp : d.1 < o.2.1
      · have ht' : ¬ t' ≤ 0 := by omega
        by_cases hm : o_at o d.1 = 121
        · rw [← c_find_r (t := t + 1) (by omega) hl hm, ← c_find_r ht' hl hm]
          exact ih _ _ ⟨by show d.1 + 1 ≤ o.2.1; omega, hd.2⟩ (by show o.2.1 - (d.1 + 1) ≤ t; omega) (by show o.2.1 - (d.1 + 1) ≤ t' - 1; omega)
        · by_cases h1' : o_at o d.1 = 119
          · rw [c_find_b (t := t + 1) (z := 1) (by omega) hl hm (Or.inl ⟨h1', rfl⟩), c_find_b (t := t') (z := 1) ht' hl hm (Or.inl ⟨h1', rfl⟩)]
            by_cases hb : (c_open o d 1).1 = true
            · rw [if_pos hb, if_pos hb]
              have hq := c_open_p hb
              exact ih _ _ (c_open_ok hd) (by rw [hq]; omega) (by rw [hq]; omega)
            · rw [if_neg hb, if_neg hb]
          · by_cases h2' : o_at o d.1 = 122
            · rw [c_find_b (t := t + 1) (z := 4) (by omega) hl hm (Or.inr ⟨h1', h2', rfl⟩), c_find_b (t := t') (z := 4) ht' hl hm (Or.inr ⟨h1', h2', rfl⟩)]
              by_cases hb : (c_open o d 4).1 = true
              · rw [if_pos hb, if_pos hb]
                have hq := c_open_p hb
                exact ih _ _ (c_open_ok hd) (by rw [hq]; omega) (by rw [hq]; omega)
              · rw [if_neg hb, if_neg hb]
            · rw [c_find_e (t := t + 1) (by omega) hl hm h1' h2', c_find_e ht' hl hm h1' h2']
      · rw [c_find_len hp hl, c_find_len hp hl]
    · rw [c_find_0 (Or.inr hl), c_find_0 (Or.inr hl)]
def h_z (o : OS) (p : Nat) : Nat := if o_at o p = 119 then 1 else 4
def h_st (o : OS) (t : T3) : Nat × T3 :=
  if o_at o t.1 = 121 then (0, t.1 + 1, t.2.1, t.2.2 + 1)
  else if o_at o t.1 = 119 ∨ o_at o t.1 = 122 then
    (if o.2.1 - t.1 < h_z o t.1 + 1 ∨ c_cnt o t.1 (h_z o t.1) < 0 then (2, t) else (0, t.1 + (1 + h_z o t.1), (c_cnt o t.1 (h_z o t.1)).toNatClampNeg, t.2.2))
  else (if c_end (o_at o t.1) = -1 then 1 else 2, t)
theorem hd_r {o : OS} {t : T3} {B : Nat} (hB : o_at o t.1 = nI B) (hb : B ≤ 255) (h : B = 121) : h_st o t = (0, t.1 + 1, t.2.1, t.2.2 + 1) := by
  rw [h_st, if_pos (by rw [hB, h]; rfl)]
theorem hd_z {o : OS} {t : T3} {B z : Nat} (hB : o_at o t.1 = nI B) (hb : B ≤ 255) (hz : (B = 119 ∧ z = 1) ∨ (B = 122 ∧ z = 4)) :
    h_st o t = (if o.2.1 - t.1 < z + 1 ∨ c_cnt o t.1 z < 0 then (2, t) else (0, t.1 + (1 + z), (c_cnt o t.1 z).toNatClampNeg, t.2.2)) := by
  rcases hz with ⟨rfl, rfl⟩ | ⟨rfl, rfl⟩
  · have hB : o_at o t.1 = 119 := hB
    rw [h_st, if_neg (by rw [hB]; decide), if_pos (Or.inl hB), h_z, if_pos hB]
  · have hB : o_at o t.1 = 122 := hB
    rw [h_st, if_neg (by rw [hB]; decide), if_pos (Or.inr hB), h_z, if_neg (show ¬ o_at o t.1 = 119 by rw [hB]; decide)]
theorem hd_e {o : OS} {t : T3} {B : Nat} (hB : o_at o t.1 = nI B) (hb : B ≤ 255) (h1 : ¬ B = 121) (h2 : ¬ B = 119) (h3 : ¬ B = 122) :
    h_st o t = (if B < 112 ∨ 126 < B then 2 else 1, t) := by
  have a1 : ¬ o_at o t.1 = 121 := by rw [hB]; exact fun z => h1 ((nI_eq (b := 121) (by omega) (by decide)).mp z)
  have a2 : ¬ o_at o t.1 = 119 := by rw [hB]; exact fun z => h2 ((nI_eq (b := 119) (by omega) (by decide)).mp z)
  have a3 : ¬ o_at o t.1 = 122 := by rw [hB]; exact fun z => h3 ((nI_eq (b := 122) (by omega) (by decide)).mp z)
  rw [h_st, if_neg a1, if_neg (fun z => z.elim a2 a3), hB]
  have a4 : ¬ nI B = -1 := fun z => by
    have := nI_toInt (n := B) (by omega)
    rw [z] at this
    exact absurd this (by rw [show (-1 : Int32).toInt = -1 from rfl]; omega)
  have a5 : nI B < 112 ↔ B < 112 := nI_ltI (b := 112) (by omega) (by decide)
  have a6 : 126 < nI B ↔ 126 < B := nI_ltI (a := 126) (by decide) (by omega)
  by_cases hx : B < 112 ∨ 126 < B
  · have e : c_end (nI B) = -2 := by rw [c_end, if_neg (fun z => z.elim a4 (fun w => hx.elim (fun q => w.1 (a5.mpr q)) (fun q => w.2 (a6.mpr q))))]
    rw [if_pos hx, e, if_neg (by decide)]
  · have e : c_end (nI B) = -1 := by rw [c_end, if_pos (Or.inr ⟨fun q => hx (Or.inl (a5.mp q)), fun q => hx (Or.inr (a6.mp q))⟩)]
    rw [if_neg hx, e, if_pos rfl]
theorem hd_out {o : OS} {t : T3} (h : ¬ t.1 < o.2.1) : h_st o t = (1, t) := by
  have e := o_at_out h
  rw [h_st, if_neg (by rw [e]; decide), if_neg (by rw [e]; decide), e]
  rfl
def fi2 (m : Bool) (t : T3) (e : Nat) : Int32 × CS := (if e = 0 then 0 else if e = 1 then -1 else -2, cs t m)
theorem hs_step {o : OS} {m : Bool} {t : T3} (hc : c_ok o (cs t m)) (hl : t.2.1 = 0) :
    c_ok o (cs (h_st o t).2 m) ∧ (h_st o t).1 ≤ 2 ∧ ((h_st o t).1 = 0 → o.2.1 - (h_st o t).2.1 + 1 ≤ o.2.1 - t.1) ∧
    c_find o (o.2.1 - t.1) (cs t m) = if (h_st o t).1 = 0 then c_find o (o.2.1 - (h_st o t).2.1) (cs (h_st o t).2 m) else fi2 m (h_st o t).2 (h_st o t).1 := by
  have hl' : (cs t m).2.1 = 0 := hl
  by_cases hp : t.1 < o.2.1
  · have ht : ¬ o.2.1 - t.1 ≤ 0 := by omega
    by_cases hm : o_at o t.1 = 121
    · have e : h_st o t = (0, t.1 + 1, t.2.1, t.2.2 + 1) := by rw [h_st, if_pos hm]
      rw [e]
      have hk : c_ok o (t.1 + 1, t.2.1, t.2.2 + 1, m) := ⟨by show t.1 + 1 ≤ o.2.1; omega, hc.2⟩
      refine ⟨hk, by show 0 ≤ 2; omega, fun _ => by show o.2.1 - (t.1 + 1) + 1 ≤ _; omega, ?_⟩
      rw [if_pos rfl, ← c_find_r (t := o.2.1 - t.1) (d := cs t m) ht hl' hm]
      exact c_find_fuel o _ _ _ hk (by show o.2.1 - (t.1 + 1) ≤ _; omega) (by show o.2.1 - (t.1 + 1) ≤ o.2.1 - (t.1 + 1); omega)
    · have hblk : ∀ z, ((o_at o t.1 = 119 ∧ z = 1) ∨ (¬ o_at o t.1 = 119 ∧ o_at o t.1 = 122 ∧ z = 4)) →
          c_ok o (cs (h_st o t).2 m) ∧ (h_st o t).1 ≤ 2 ∧ ((h_st o t).1 = 0 → o.2.1 - (h_st o t).2.1 + 1 ≤ o.2.1 - t.1) ∧
          c_find o (o.2.1 - t.1) (cs t m) = if (h_st o t).1 = 0 then c_find o (o.2.1 - (h_st o t).2.1) (cs (h_st o t).2 m) else fi2 m (h_st o t).2 (h_st o t).1 := by
        intro z hz
        have ez : h_z o t.1 = z := by
          rcases hz with ⟨h1, rfl⟩ | ⟨h1, h2, rfl⟩
          · rw [h_z, if_pos h1]
          · rw [h_z, if_neg h1]
        have e : h_st o t = (if o.2.1 - t.1 < z + 1 ∨ c_cnt o t.1 z < 0 then (2, t) else (0, t.1 + (1 + z), (c_cnt o t.1 z).toNatClampNeg, t.2.2)) := by
          rw [h_st, if_neg hm, if_pos (by rcases hz with ⟨h1, _⟩ | ⟨_, h2, _⟩; exact Or.inl h1; exact Or.inr h2), ez]
        rw [c_find_b (t := o.2.1 - t.1) (d := cs t m) (z := z) ht hl' hm hz, e]
        by_cases hx : o.2.1 - t.1 < z + 1 ∨ c_cnt o t.1 z < 0
        · have eo : (c_open o (cs t m) z).1 = false := by
            unfold c_open
            rcases hx with hx | hx
            · rw [if_pos (show o.2.1 - (cs t m).1 < z + 1 from hx)]
            · by_cases h9 : o.2.1 - (cs t m).1 < z + 1
              · rw [if_pos h9]
              · rw [if_neg h9, if_pos (show c_cnt o (cs t m).1 z < 0 from hx)]
          rw [if_pos hx, if_neg (by rw [eo]; decide)]
          refine ⟨hc, by show 2 ≤ 2; omega, fun h => absurd (show 2 = 0 from h) (by decide), ?_⟩
          rw [if_neg (show ¬ ((2, t) : Nat × T3).1 = 0 from fun z => absurd (show 2 = 0 from z) (by decide))]
          rfl
        · have eo : c_open o (cs t m) z = (true, t.1 + (1 + z), (c_cnt o t.1 z).toNatClampNeg, t.2.2, m) := by
            unfold c_open
            rw [if_neg (show ¬ o.2.1 - (cs t m).1 < z + 1 from fun q => hx (Or.inl q)), if_neg (show ¬ c_cnt o (cs t m).1 z < 0 from fun q => hx (Or.inr q))]
            rfl
          have hk := c_open_ok (z := z) hc
          rw [if_neg hx, eo, if_pos rfl]
          rw [eo] at hk
          refine ⟨hk, by show 0 ≤ 2; omega, fun _ => by show o.2.1 - (t.1 + (1 + z)) + 1 ≤ _; omega, ?_⟩
          rw [if_pos rfl]
          exact c_find_fuel o _ _ _ hk (by show o.2.1 - (t.1 + (1 + z)) ≤ _; omega) (by show o.2.1 - (t.1 + (1 + z)) ≤ o.2.1 - (t.1 + (1 + z)); omega)
      by_cases h1 : o_at o t.1 = 119
      · exact hblk 1 (Or.inl ⟨h1, rfl⟩)
      · by_cases h2 : o_at o t.1 = 122
        · exact hblk 4 (Or.inr ⟨h1, h2, rfl⟩)
        · have e : h_st o t = (if c_end (o_at o t.1) = -1 then 1 else 2, t) := by rw [h_st, if_neg hm, if_neg (fun z => z.elim h1 h2)]
          rw [e, c_find_e (t := o.2.1 - t.1) (d := cs t m) ht hl' hm h1 h2]
          rcases c_end_in (o_at o t.1) with q | q
          · rw [if_pos q]
            refine ⟨hc, by show 1 ≤ 2; omega, fun h => absurd (show 1 = 0 from h) (by decide), ?_⟩
            rw [if_neg (show ¬ ((1, t) : Nat × T3).1 = 0 from fun z => absurd (show 1 = 0 from z) (by decide))]
            show (c_end (o_at o t.1), cs t m) = _
            rw [q]; rfl
          · rw [if_neg (by rw [q]; decide)]
            refine ⟨hc, by show 2 ≤ 2; omega, fun h => absurd (show 2 = 0 from h) (by decide), ?_⟩
            rw [if_neg (show ¬ ((2, t) : Nat × T3).1 = 0 from fun z => absurd (show 2 = 0 from z) (by decide))]
            show (c_end (o_at o t.1), cs t m) = _
            rw [q]; rfl
  · rw [hd_out hp, c_find_len (d := cs t m) hp hl']
    refine ⟨hc, by show 1 ≤ 2; omega, fun h => absurd (show 1 = 0 from h) (by decide), ?_⟩
    rw [if_neg (show ¬ ((1, t) : Nat × T3).1 = 0 from fun z => absurd (show 1 = 0 from z) (by decide))]
    rfl
def nbv (r : Int32) : Int32 := if r = -2 ∨ r = -1 then 0 else r
def nbe (r : Int32) : Nat := if r = -2 then 2 else if r = -1 then 1 else 0
theorem nb_f {o : OS} {d : CS} {m : Bool} {t : T3} {e : Nat} (h0 : ¬ e = 0) (h2 : e ≤ 2) (h : c_look o d = fi2 m t e) : 0 = nbv (c_next o d).1 ∧ t = t3 (c_next o d).2 ∧ e = nbe (c_next o d).1 := by
  rcases (show e = 1 ∨ e = 2 by omega) with rfl | rfl
  · have e1 : c_next o d = (-1, cs t m) := by
      unfold c_next; rw [h]; rfl
    rw [e1]; exact ⟨rfl, rfl, rfl⟩
  · have e1 : c_next o d = (-2, cs t m) := by
      unfold c_next; rw [h]; rfl
    rw [e1]; exact ⟨rfl, rfl, rfl⟩
theorem nb_end {o : OS} {d : CS} {m : Bool} {t : T3} (h : c_look o d = (0, cs t m)) (hp : ¬ t.1 < o.2.1) : 0 = nbv (c_next o d).1 ∧ t = t3 (c_next o d).2 ∧ 1 = nbe (c_next o d).1 := by
  have e1 : c_next o d = (-1, cs t m) := by
    unfold c_next
    rw [h]
    dsimp only
    rw [if_neg (fun z => z rfl), if_pos (show o.2.1 ≤ (cs t m).1 by show o.2.1 ≤ t.1; omega)]
  rw [e1]; exact ⟨rfl, rfl, rfl⟩
theorem nb_ok {o : OS} {d : CS} {m : Bool} {t : T3} (hb : o_by o) (h : c_look o d = (0, cs t m)) (hp : t.1 < o.2.1) : o.1 t.1 = nbv (c_next o d).1 ∧ (t.1 + 1, (if m = true then t.2.1 - 1 else t.2.1), t.2.2) = t3 (c_next o d).2 ∧ 0 = nbe (c_next o d).1 := by
  have e1 : c_next o d = (o_at o t.1, t.1 + 1, (if m = true then t.2.1 - 1 else t.2.1), t.2.2, m) := by
    unfold c_next
    rw [h]
    dsimp only
    rw [if_neg (fun z => z rfl), if_neg (show ¬ o.2.1 ≤ (cs t m).1 by show ¬ o.2.1 ≤ t.1; omega)]
    rfl
  obtain ⟨e2, h2⟩ := o_at_n hb hp
  have e3 : o.1 t.1 = nI (n_at o.1 t.1) := n_at_eq hb hp
  rw [e1]
  have a1 : ¬ nI (n_at o.1 t.1) = -1 := fun z => by
    have := nI_toInt (n := n_at o.1 t.1) (by omega)
    rw [z] at this
    exact absurd this (by rw [show (-1 : Int32).toInt = -1 from rfl]; omega)
  have a2 := nI_m2 (z := n_at o.1 t.1) (by omega)
  refine ⟨?_, rfl, ?_⟩
  · show o.1 t.1 = nbv (o_at o t.1)
    rw [e2, e3, nbv, if_neg (fun z => z.elim a2 a1)]
  · show 0 = nbe (o_at o t.1)
    rw [e2, nbe, if_neg a2, if_neg a1]
