/-! what holds of the shared state at the head of the law's loop, and that every call keeps it -/
def isB (x : Int32) : Prop := ∃ y : Nat, y ≤ 255 ∧ x = nI y
theorem isB_n {y : Nat} (h : y ≤ 255) : isB (nI y) := ⟨y, h, rfl⟩
theorem ob_add {o : OS} (h : o_by o) {x : Int32} (hx : isB x) : o_by (o_add o x) := by
  obtain ⟨y, hy, rfl⟩ := hx
  unfold o_add
  split
  · intro j hj
    have hj : j < o.2.1 + 1 := hj
    by_cases e : j = o.2.1
    · show 0 ≤ upd o.1 o.2.1 (nI y) j ∧ upd o.1 o.2.1 (nI y) j ≤ nI 255
      rw [e, pk_us]; exact ⟨nI_pos' (by omega), nI_le hy (by decide)⟩
    · show 0 ≤ upd o.1 o.2.1 (nI y) j ∧ upd o.1 o.2.1 (nI y) j ≤ nI 255
      rw [pk_un e]; exact h j (by omega)
  · exact h
theorem ob_hdr {o : OS} (h : o_by o) (k : Nat) : o_by (o_hdr o k) := by
  unfold o_hdr
  split
  · rename_i hk
    exact ob_add (ob_add h (isB_n (y := 119) (by decide))) (isB_n hk)
  · exact ob_add (ob_add (ob_add (ob_add (ob_add h (isB_n (y := 122) (by decide))) (isB_n (by omega))) (isB_n (by omega))) (isB_n (by omega))) (isB_n (by omega))
theorem ob_puts {o : OS} (h : o_by o) {f : Nat → Int32} : ∀ (i : Nat), f_ok f i 255 → o_by (o_puts o f i) := by
  intro i
  induction i with
  | zero => intro _; exact h
  | succ i ih =>
    intro hf
    have h1 := n_at_eq hf (show i < i + 1 by omega)
    have h2 := n_at_le hf (show i < i + 1 by omega) (by decide)
    exact ob_add (ih (fun j hj => hf j (by omega))) ⟨_, h2, h1⟩
theorem ob_block {o : OS} (h : o_by o) (hp : o_pv o) : o_by (o_block o) := by
  unfold o_block
  split
  · exact h
  · exact ob_puts (ob_hdr h _) _ hp
theorem o_pv_px {o : OS} (h : o_pv o) {x : Int32} (hx : isB x) : o_pv (o.1, o.2.1, upd o.2.2.1 o.2.2.2.1 x, o.2.2.2.1 + 1, o.2.2.2.2) := by
  obtain ⟨y, hy, rfl⟩ := hx
  have := o_pv_p h (nI y)
  rw [b255 hy] at this
  exact this
theorem ob_byte {o : OS} (h : o_by o) (hp : o_pv o) (hk : o.2.2.2.1 < 1024) {x : Int32} (hx : isB x) : o_by (o_byte o x) := by
  cases hm : o.2.2.2.2 with
  | false => rw [o_byte_0 hm]; exact ob_add h hx
  | true =>
    rw [o_byte_1 hm hk]
    split
    · exact ob_block (o := (o.1, o.2.1, upd o.2.2.1 o.2.2.2.1 x, o.2.2.2.1 + 1, o.2.2.2.2)) h (o_pv_px hp hx)
    · exact h
theorem op_byte {o : OS} (h : o_pv o) (hk : o.2.2.2.1 < 1024) {x : Int32} (hx : isB x) : o_pv (o_byte o x) := by
  obtain ⟨y, hy, rfl⟩ := hx
  rw [← b255 hy]; exact o_pv_byte h hk _
theorem ol_add (o : OS) (x : Int32) : o.2.1 ≤ (o_add o x).2.1 := by
  unfold o_add
  split
  · exact Nat.le_succ _
  · exact Nat.le_refl _
theorem ol_hdr (o : OS) (k : Nat) : o.2.1 ≤ (o_hdr o k).2.1 := by
  unfold o_hdr
  split
  · exact Nat.le_trans (ol_add _ _) (ol_add _ _)
  · exact Nat.le_trans (ol_add _ _) (Nat.le_trans (ol_add _ _) (Nat.le_trans (ol_add _ _) (Nat.le_trans (ol_add _ _) (ol_add _ _))))
theorem ol_puts (o : OS) (f : Nat → Int32) (i : Nat) : o.2.1 ≤ (o_puts o f i).2.1 := by
  induction i with
  | zero => exact Nat.le_refl _
  | succ i ih => exact Nat.le_trans ih (ol_add _ _)
theorem ol_block (o : OS) : o.2.1 ≤ (o_block o).2.1 := by
  unfold o_block
  split
  · exact Nat.le_refl _
  · exact Nat.le_trans (ol_hdr _ _) (ol_puts _ _ _)
theorem ol_byte (o : OS) (x : Int32) : o.2.1 ≤ (o_byte o x).2.1 := by
  have hp : (o_pend o x).2.1 = o.2.1 := by unfold o_pend; split <;> rfl
  unfold o_byte
  split
  · exact ol_add _ _
  · split
    · rw [← hp]; exact ol_block _
    · rw [hp]; exact Nat.le_refl _
/-- the writer's part -/
def oJ (o : OS) : Prop := o_ok o ∧ o_by o ∧ o_pv o ∧ o_cap o ∧ o.2.2.2.1 < 1024
/-- one step of writing, with room for j more -/
def oS (o0 o : OS) (j : Nat) : Prop := o_ok o ∧ o_by o ∧ o_pv o ∧ o_r1 o j ∧ o0.2.1 ≤ o.2.1
theorem oS_step {o0 o : OS} {j : Nat} (h : oS o0 o (j + 1)) {x : Int32} (hx : isB x) : oS o0 (o_byte o x) j := by
  obtain ⟨h1, h2, h3, h4, h5⟩ := h
  exact ⟨o_byte_ok h1 _, ob_byte h2 h3 h4.2.1 hx, op_byte h3 h4.2.1 hx, o_r1_step _ h4, Nat.le_trans h5 (ol_byte _ _)⟩
theorem oS_end {o0 o : OS} (h : oS o0 o 0) : oJ o ∧ o0.2.1 ≤ o.2.1 := ⟨⟨h.1, h.2.1, h.2.2.1, o_r1_cap h.2.2.2.1, h.2.2.2.1.2.1⟩, h.2.2.2.2⟩
theorem oS_in {o : OS} {z : Nat} (h : oJ o) (hr : o.2.1 + o.2.2.2.1 + z ≤ 1500) (hz : z ≤ 200) : oS o o z := ⟨h.1, h.2.1, h.2.2.1, o_r1_in h.2.2.2.2 hr hz, Nat.le_refl _⟩
theorem l_byte_B (v : Int64) (n : Nat) : isB (l_byte v n) := x_b255 _
theorem oS_num {o0 : OS} (v : Int64) : ∀ (z : Nat) (o : OS) (j : Nat), oS o0 o (z + j) → oS o0 (o_num o v z) j := by
  intro z
  induction z with
  | zero => intro o j h; rw [Nat.zero_add] at h; exact h
  | succ z ih =>
    intro o j h
    rw [show z + 1 + j = z + j + 1 by omega] at h
    exact ih _ j (oS_step h (l_byte_B v z))
theorem oJ_num {o : OS} (h : oJ o) (v : Int64) {z : Nat} (hz : z ≤ 8) : oJ (w_num o v z) ∧ o.2.1 ≤ (w_num o v z).2.1 := by
  unfold w_num
  split
  · rename_i hr
    exact oS_end (oS_num v z o 0 (oS_in h hr (by omega)))
  · exact ⟨h, Nat.le_refl _⟩
theorem oS_enc {o0 o : OS} {k j : Nat} (hk : k ≤ 65535) (h : oS o0 o (ksz k + j)) : oS o0 (o_enc o k) j := by
  unfold o_enc
  have hi := ksz_in k
  split
  · rename_i e
    rw [e, show 1 + j = j + 1 by omega] at h
    exact oS_step h (isB_n (by have := ksz_1 e; omega))
  · rename_i e1
    split
    · rename_i e
      rw [e, show 2 + j = j + 1 + 1 by omega] at h
      have := ksz_2 e
      exact oS_step (oS_step h (isB_n (by omega))) (isB_n (by omega))
    · rename_i e
      rw [show ksz k + j = j + 1 + 1 + 1 by omega] at h
      exact oS_step (oS_step (oS_step h (isB_n (by omega))) (isB_n (by omega))) (isB_n (by omega))
theorem oS_encs {o0 o : OS} {f : Nat → Int32} (hf : f_ok f 40 65535) : ∀ (i j : Nat), i ≤ 40 → oS o0 o (t_sum f i + j) → oS o0 (o_encs o f i) j := by
  intro i
  induction i with
  | zero => intro j _ h; rw [show t_sum f 0 + j = j from Nat.zero_add j] at h; exact h
  | succ i ih =>
    intro j hi h
    refine oS_enc (n_at_le hf (by omega) (by decide)) (ih _ (by omega) ?_)
    rw [show t_sum f (i + 1) + j = t_sum f i + (ksz (n_at f i) + j) from Nat.add_assoc _ _ _] at h
    exact h
theorem oJ_text {o : OS} (h : oJ o) {f : Nat → Int32} (hf : f_ok f 40 65535) {z : Nat} (hz : z ≤ 40) : oJ (w_text o f z) ∧ o.2.1 ≤ (w_text o f z).2.1 := by
  unfold w_text
  have hs := t_sum_le f z
  split
  · rename_i hr
    have h1 := oS_num (o0 := o) (nI (t_sum f z)).toInt64 2 o (t_sum f z + 0) (oS_in h hr (by omega))
    exact oS_end (oS_encs hf z 0 hz h1)
  · exact ⟨h, Nat.le_refl _⟩
theorem oJ_block {o : OS} (h : oJ o) : oJ (o_block o) ∧ o.2.1 ≤ (o_block o).2.1 := by
  refine ⟨⟨o_block_ok h.1, ob_block h.2.1 h.2.2.1, ?_, ?_, ?_⟩, ol_block o⟩
  · by_cases e : o.2.2.2.1 = 0
    · rw [o_block, if_pos e]; exact h.2.2.1
    · unfold o_pv; rw [o_block_k e]; intro j hj; exact absurd hj (Nat.not_lt_zero _)
  · by_cases e : o.2.2.2.1 = 0
    · rw [o_block, if_pos e]; exact h.2.2.2.1
    · unfold o_cap; rw [o_block_k e]; exact ⟨Nat.zero_le _, fun z => absurd rfl z⟩
  · by_cases e : o.2.2.2.1 = 0
    · rw [o_block, if_pos e]; exact h.2.2.2.2
    · rw [o_block_k e]; show (0 : Nat) < 1024; decide
theorem oJ_blocks {o : OS} (h : oJ o) (b : Bool) : oJ (w_blocks o b) ∧ o.2.1 ≤ (w_blocks o b).2.1 := by
  unfold w_blocks
  split
  · exact ⟨h, Nat.le_refl _⟩
  · exact oJ_block h
/-- the reader's part: outside block mode no block is open -/
def cI0 (o : OS) (c : CS) : Prop := c_ok o c ∧ (c.2.2.2 = false → c.2.1 = 0)
theorem c_ok_mono {o o' : OS} {c : CS} (h : c_ok o c) (hl : o.2.1 ≤ o'.2.1) : c_ok o' c := ⟨Nat.le_trans h.1 hl, h.2⟩
theorem cI0_next {o : OS} {c : CS} (h : cI0 o c) : cI0 o (c_next o c).2 := by
  refine ⟨c_next_ok h.1, fun hm => ?_⟩
  rw [c_next_mode h.1] at hm
  have e : c_look o c = (0, c) := by rw [c_look, if_neg (by rw [hm]; decide)]
  unfold c_next
  rw [e]
  dsimp only
  rw [if_neg (fun z => z rfl)]
  split
  · exact h.2 hm
  · show (if c.2.2.2 = true then c.2.1 - 1 else c.2.1) = 0
    rw [if_neg (by rw [hm]; decide)]; exact h.2 hm
theorem cI0_rn {o : OS} : ∀ (n : Nat) (t : CS) (v : Int64), cI0 o t → cI0 o (rn o n t v).2.1 := by
  intro n
  induction n with
  | zero => intro t v h; exact h
  | succ n ih =>
    intro t v h
    by_cases z : nf o t
    · rw [rn_f (by omega) z]; exact cI0_next h
    · rw [rn_s (by omega) z]; exact ih _ _ (cI0_next h)
theorem cI0_sk {o : OS} : ∀ (n a : Nat) (t : CS), cI0 o t → cI0 o (sk o n a t).2.2 := by
  intro n
  induction n with
  | zero => intro a t h; exact h
  | succ n ih =>
    intro a t h
    by_cases h2 : (c_next o t).1 = -2
    · rw [sk_c (by omega) h2]; exact cI0_next h
    · by_cases h1 : (c_next o t).1 = -1
      · rw [sk_e (by omega) h2 h1]; exact cI0_next h
      · rw [sk_s (by omega) h2 h1]; exact ih _ _ (cI0_next h)
theorem cI0_tl {o : OS} : ∀ (n i : Nat) (d : CS) (t : TS), cI0 o d → cI0 o (tl o n i d t).2.1 := by
  intro n
  induction n with
  | zero => intro i d t h; exact h
  | succ n ih =>
    intro i d t h
    by_cases z : nf o d
    · rw [tl_f (by omega) z]; exact cI0_next h
    · rw [tl_s (by omega) z]; exact ih _ _ _ (cI0_next h)
theorem tl_ok {o : OS} (hb : o_by o) : ∀ (n i : Nat) (d : CS) (t : TS), t_ok t → t_ok (tl o n i d t).2.2 := by
  intro n
  induction n with
  | zero => intro i d t h; exact h
  | succ n ih =>
    intro i d t h
    by_cases z : nf o d
    · rw [tl_f (by omega) z]; exact h
    · rw [tl_s (by omega) z]; exact ih _ _ _ (t_keep_nf hb h z)
def lI (o : OS) (c t : CS) (y : TS) : Prop := oJ o ∧ cI0 o c ∧ c_ok o t ∧ t_ok y
theorem lI_o {o o' : OS} {c t : CS} {y : TS} (h : lI o c t y) (h2 : oJ o' ∧ o.2.1 ≤ o'.2.1) : lI o' c t y := ⟨h2.1, ⟨c_ok_mono h.2.1.1 h2.2, h.2.1.2⟩, c_ok_mono h.2.2.1 h2.2, h.2.2.2⟩
theorem f_ok_cpy {g f : Nat → Int32} {n m k : Nat} (hg : f_ok g n m) (hf : f_ok f n m) : f_ok (va_cpy g f 0 0 k) n m := by
  intro j hj
  unfold va_cpy
  split
  · rw [show 0 + (j - 0) = j by omega]; exact hg j hj
  · exact hf j hj
