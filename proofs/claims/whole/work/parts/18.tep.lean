/-! decoding, step by step -/
theorem dc_none {f : Nat → Nat} {a r i v : Nat} (hr : 0 < r) (h : f (a + i) < 128 ∨ 191 < f (a + i)) : dc_go f a r i v = none := by
  obtain ⟨k, rfl⟩ : ∃ k, r = k + 1 := ⟨r - 1, by omega⟩
  rw [dc_go, if_pos h]
theorem dc_step {f : Nat → Nat} {a r i v : Nat} (hr : 0 < r) (h : ¬ (f (a + i) < 128 ∨ 191 < f (a + i))) : dc_go f a (r - 1) (i + 1) (v * 64 + f (a + i) % 64) = dc_go f a r i v := by
  obtain ⟨k, rfl⟩ : ∃ k, r = k + 1 := ⟨r - 1, by omega⟩
  rw [dc_go, if_neg h]
  rfl
theorem oI_none {x : Option Nat} (hb : ∀ w, x = some w → w ≤ 65535) : oI x = -1 ↔ x = none := by
  cases x with
  | none => exact ⟨fun _ => rfl, fun _ => rfl⟩
  | some w =>
    refine ⟨fun h => ?_, fun h => by cases h⟩
    have hw := hb w rfl
    have h1 : nI w = -1 := h
    have h2 := nI_toInt (n := w) (by omega)
    rw [h1] at h2
    exact absurd h2 (by rw [show (-1 : Int32).toInt = -1 from rfl]; omega)
theorem td_end {f : Nat → Nat} {z n c a : Nat} {d : Nat → Int32} (h : z ≤ a) : td f z n c a d = (nI c, d) := by
  cases n with
  | zero => rfl
  | succ n => rw [td, if_pos h]
theorem td_bad {f : Nat → Nat} {z n c a : Nat} {d : Nat → Int32} (hn : 0 < n) (h : ¬ z ≤ a) (hb : szb (f a) = 0 ∨ z - a < szb (f a) ∨ 40 ≤ c) : td f z n c a d = (-1, d) := by
  obtain ⟨k, rfl⟩ : ∃ k, n = k + 1 := ⟨n - 1, by omega⟩
  rw [td, if_neg h, if_pos hb]
theorem td_none {f : Nat → Nat} {z n c a : Nat} {d : Nat → Int32} (hn : 0 < n) (h : ¬ z ≤ a) (hb : ¬ (szb (f a) = 0 ∨ z - a < szb (f a) ∨ 40 ≤ c)) (hd : dc f a (szb (f a)) = none) : td f z n c a d = (-1, d) := by
  obtain ⟨k, rfl⟩ : ∃ k, n = k + 1 := ⟨n - 1, by omega⟩
  rw [td, if_neg h, if_neg hb, hd]
theorem td_some {f : Nat → Nat} {z n c a v : Nat} {d : Nat → Int32} (hn : 0 < n) (h : ¬ z ≤ a) (hb : ¬ (szb (f a) = 0 ∨ z - a < szb (f a) ∨ 40 ≤ c)) (hd : dc f a (szb (f a)) = some v) : td f z n c a d = td f z (n - 1) (c + 1) (a + szb (f a)) (upd d c (nI v)) := by
  obtain ⟨k, rfl⟩ : ∃ k, n = k + 1 := ⟨n - 1, by omega⟩
  rw [td, if_neg h, if_neg hb, hd]
  rfl
theorem szb_1 {k : Nat} (h : szb k = 1) : k < 128 := by
  unfold szb at h
  split at h
  · assumption
  · split at h
    · omega
    · split at h <;> omega
