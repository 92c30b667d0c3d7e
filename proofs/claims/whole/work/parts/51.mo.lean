set_option maxHeartbeats 4000000 in
set_option maxRecDepth 100000 in
theorem k_Mo_tail (l : Launch) (D : va_G) (g : GP) (a0 al aw ac ag am : Nat) (cI : ClassId) (o : OS) (c : CS) (f : Nat → Int32) (b : Bool) (k : Int32) (t : T3) (en : Nat) (gt md : Nat → Int32) (j z : Nat) (hg : f_ok gt z 255) (hz : z ≤ 1600) (hj : j ≤ 2000) (sz : Nat) : Met l y_Mo_tail (.code y_Mo_tail c_Mo_tail 3 (some .boolean) :: xW) ({ frames := 0, cells := 0, slots := 0, locals := 0 }) (xPc (gZ g) D vwCl [.ref a0, .int (nI j), .int (nI z)] [(a0, .inr (4, [.ref al, .int (nI o.2.1), .ref aw, .int (nI o.2.2.2.1), .int (bI o.2.2.2.2), .ref ac, .int (nI c.1), .int (nI c.2.1), .int c.2.2.1, .int (bI c.2.2.2), .int (bI b), .int k, .int (nI t.1), .int (nI t.2.1), .int t.2.2, .int (nI en), .ref ag, .ref am])), (al, .inl (cI, 1600, .inl o.1)), (aw, .inl (cI, 1024, .inl o.2.2.1)), (ac, .inl (cI, 40, .inl f)), (ag, .inl (cI, 1600, .inl gt)), (am, .inl (cI, 40, .inl md))] [(cI, .int)] sz) (va_Qi (fun (r : Int32) (u : Unit) => r = bI (decide (j < z ∧ 128 ≤ n_at gt j ∧ n_at gt j ≤ 191))) (xB D vwCl [(cI, .int)] (fun u : Unit => [(a0, .inr (4, [.ref al, .int (nI o.2.1), .ref aw, .int (nI o.2.2.2.1), .int (bI o.2.2.2.2), .ref ac, .int (nI c.1), .int (nI c.2.1), .int c.2.2.1, .int (bI c.2.2.2), .int (bI b), .int k, .int (nI t.1), .int (nI t.2.1), .int t.2.2, .int (nI en), .ref ag, .ref am])), (al, .inl (cI, 1600, .inl o.1)), (aw, .inl (cI, 1024, .inl o.2.2.1)), (ac, .inl (cI, 40, .inl f)), (ag, .inl (cI, 1600, .inl gt)), (am, .inl (cI, 40, .inl md))]) (va_A [(a0, .inr (4, [.ref al, .int (nI o.2.1), .ref aw, .int (nI o.2.2.2.1), .int (bI o.2.2.2.2), .ref ac, .int (nI c.1), .int (nI c.2.1), .int c.2.2.1, .int (bI c.2.2.2), .int (bI b), .int k, .int (nI t.1), .int (nI t.2.1), .int t.2.2, .int (nI en), .ref ag, .ref am])), (al, .inl (cI, 1600, .inl o.1)), (aw, .inl (cI, 1024, .inl o.2.2.1)), (ac, .inl (cI, 40, .inl f)), (ag, .inl (cI, 1600, .inl gt)), (am, .inl (cI, 40, .inl md))] sz)) (va_A [(a0, .inr (4, [.ref al, .int (nI o.2.1), .ref aw, .int (nI o.2.2.2.1), .int (bI o.2.2.2.2), .ref ac, .int (nI c.1), .int (nI c.2.1), .int c.2.2.1, .int (bI c.2.2.2), .int (bI b), .int k, .int (nI t.1), .int (nI t.2.1), .int t.2.2, .int (nI en), .ref ag, .ref am])), (al, .inl (cI, 1600, .inl o.1)), (aw, .inl (cI, 1024, .inl o.2.2.1)), (ac, .inl (cI, 40, .inl f)), (ag, .inl (cI, 1600, .inl gt)), (am, .inl (cI, 40, .inl md))] sz)) 0 0 (va_A [(a0, .inr (4, [.ref al, .int (nI o.2.1), .ref aw, .int (nI o.2.2.2.1), .int (bI o.2.2.2.2), .ref ac, .int (nI c.1), .int (nI c.2.1), .int c.2.2.1, .int (bI c.2.2.2), .int (bI b), .int k, .int (nI t.1), .int (nI t.2.1), .int t.2.2, .int (nI en), .ref ag, .ref am])), (al, .inl (cI, 1600, .inl o.1)), (aw, .inl (cI, 1024, .inl o.2.2.1)), (ac, .inl (cI, 40, .inl f)), (ag, .inl (cI, 1600, .inl gt)), (am, .inl (cI, 40, .inl md))] sz) := by
  refine x_open (Qc := fun A => va_Qi (fun (r : Int32) (u : Unit) => r = bI (decide (j < z ∧ 128 ≤ n_at gt j ∧ n_at gt j ≤ 191))) (xB D vwCl [(cI, .int)] (fun u : Unit => [(a0, .inr (4, [.ref al, .int (nI o.2.1), .ref aw, .int (nI o.2.2.2.1), .int (bI o.2.2.2.2), .ref ac, .int (nI c.1), .int (nI c.2.1), .int c.2.2.1, .int (bI c.2.2.2), .int (bI b), .int k, .int (nI t.1), .int (nI t.2.1), .int t.2.2, .int (nI en), .ref ag, .ref am])), (al, .inl (cI, 1600, .inl o.1)), (aw, .inl (cI, 1024, .inl o.2.2.1)), (ac, .inl (cI, 40, .inl f)), (ag, .inl (cI, 1600, .inl gt)), (am, .inl (cI, 40, .inl md))]) A) A) (cc := c_Mo_tail) (maxL := 3) (ret := (some .boolean)) (own := R_Mo) (by decide) rfl rfl (Nat.le_of_ble_eq_true rfl) ?_
  intro p e s m below meth cd A ls hsz hAe hx hb hr hml hown hts hlk hnm hA hP hK hD hS hZ hl
  clear hsz hAe
  have hW : ∀ w ∈ xW, w.before _ s = true := fun w h => hts w (List.mem_cons_of_mem _ h)
  have hl : lv_has ls 3 [(0, .ref a0), (1, .int (nI j)), (2, .int (nI z))] := hl
  refine lv_iload_n hx hb d_Mo_tail_0 rfl (lv_at hl 1 rfl) ?_
  refine lv_iload_n hx hb d_Mo_tail_1 rfl (lv_at hl 2 rfl) ?_
  refine lv_icmp_ge (tgt := 33) hx hb d_Mo_tail_2 (by decide) (fun c_2 => ?_) (fun c_2 => ?_)
  · replace c_2 := (cg_le z j rfl rfl (by omega) (by omega)).mp c_2
    refine lv_iconst (v := 0) hx hb d_Mo_tail_33 (by decide) ?_
    exact W.zret (v := 0) (ty := .boolean) hx hb hr (by decide) (fun t9 ht9 hW9 => ⟨⟨0, (() : Unit), rfl, by rw [decide_eq_false (by omega)]; rfl, by rw [ht9]; exact hP.sub [0, 1, 2, 3, 4, 5] rfl, va_K.moved hW9.alike hK, hD.sub [0, 1, 2, 3, 4, 5] (by decide) rfl⟩, hS.F ht9⟩) hS.2.2 d_Mo_tail_34
  · replace c_2 := mt (cg_le z j rfl rfl (by omega) (by omega)).mpr c_2
    have hnl := n_at_le hg (show j < z by omega) (by decide)
    refine lv_aload_n hx hb d_Mo_tail_5 rfl (lv_at hl 0 rfl) ?_
    refine va_get (D := D) (ci := 4) (v := .ref ag) (C := R_Mo) (T := F_Mo) (N := 18) hx hb hW in_Mo hown hK hP 0 rfl rfl 16 (by decide) (hW _ mw_580) (fun _ h9 => h9) rfl d_Mo_tail_6 ?_
    refine lv_iload_n hx hb d_Mo_tail_9 rfl (lv_at hl 1 rfl) ?_
    refine va_iald (D := D) hx hb hK hP 4 0 rfl rfl (vp_in_nI (by omega) (by decide)) d_Mo_tail_10 ?_
    refine x_topi (y := gt j) (by rw [nI_clamp (by omega)]) ?_
    refine x_topi (y := nI (n_at gt j)) (n_at_eq hg (by omega)) ?_
    refine lv_sipush (v := 128) hx hb d_Mo_tail_11 (by decide) ?_
    refine lv_icmp_lt (tgt := 33) hx hb d_Mo_tail_14 (by decide) (fun c_14 => ?_) (fun c_14 => ?_)
    · replace c_14 := (cg_lt (n_at gt j) 128 rfl rfl (by omega) (by omega)).mp c_14
      refine lv_iconst (v := 0) hx hb d_Mo_tail_33 (by decide) ?_
      exact W.zret (v := 0) (ty := .boolean) hx hb hr (by decide) (fun t9 ht9 hW9 => ⟨⟨0, (() : Unit), rfl, by rw [decide_eq_false (by omega)]; rfl, by rw [ht9]; exact hP.sub [0, 1, 2, 3, 4, 5] rfl, va_K.moved hW9.alike hK, hD.sub [0, 1, 2, 3, 4, 5] (by decide) rfl⟩, hS.F ht9⟩) hS.2.2 d_Mo_tail_34
    · replace c_14 := mt (cg_lt (n_at gt j) 128 rfl rfl (by omega) (by omega)).mpr c_14
      refine lv_aload_n hx hb d_Mo_tail_17 rfl (lv_at hl 0 rfl) ?_
      refine va_get (D := D) (ci := 4) (v := .ref ag) (C := R_Mo) (T := F_Mo) (N := 18) hx hb hW in_Mo hown hK hP 0 rfl rfl 16 (by decide) (hW _ mw_580) (fun _ h9 => h9) rfl d_Mo_tail_18 ?_
      refine lv_iload_n hx hb d_Mo_tail_21 rfl (lv_at hl 1 rfl) ?_
      refine va_iald (D := D) hx hb hK hP 4 0 rfl rfl (vp_in_nI (by omega) (by decide)) d_Mo_tail_22 ?_
      refine x_topi (y := gt j) (by rw [nI_clamp (by omega)]) ?_
      refine x_topi (y := nI (n_at gt j)) (n_at_eq hg (by omega)) ?_
      refine lv_sipush (v := 191) hx hb d_Mo_tail_23 (by decide) ?_
      refine lv_icmp_gt (tgt := 33) hx hb d_Mo_tail_26 (by decide) (fun c_26 => ?_) (fun c_26 => ?_)
      · replace c_26 := (cg_lt 191 (n_at gt j) rfl rfl (by omega) (by omega)).mp c_26
        refine lv_iconst (v := 0) hx hb d_Mo_tail_33 (by decide) ?_
        exact W.zret (v := 0) (ty := .boolean) hx hb hr (by decide) (fun t9 ht9 hW9 => ⟨⟨0, (() : Unit), rfl, by rw [decide_eq_false (by omega)]; rfl, by rw [ht9]; exact hP.sub [0, 1, 2, 3, 4, 5] rfl, va_K.moved hW9.alike hK, hD.sub [0, 1, 2, 3, 4, 5] (by decide) rfl⟩, hS.F ht9⟩) hS.2.2 d_Mo_tail_34
      · replace c_26 := mt (cg_lt 191 (n_at gt j) rfl rfl (by omega) (by omega)).mpr c_26
        refine lv_iconst (v := 1) hx hb d_Mo_tail_29 (by decide) ?_
        refine lv_goto (tgt := 34) hx hb d_Mo_tail_30 (by decide) ?_
        exact W.zret (v := 1) (ty := .boolean) hx hb hr (by decide) (fun t9 ht9 hW9 => ⟨⟨1, (() : Unit), rfl, by rw [decide_eq_true (by omega)]; rfl, by rw [ht9]; exact hP.sub [0, 1, 2, 3, 4, 5] rfl, va_K.moved hW9.alike hK, hD.sub [0, 1, 2, 3, 4, 5] (by decide) rfl⟩, hS.F ht9⟩) hS.2.2 d_Mo_tail_34
set_option maxHeartbeats 4000000 in
set_option maxRecDepth 100000 in
theorem k_Mo_decode (l : Launch) (D : va_G) (g : GP) (a0 al aw ac ag am : Nat) (cI : ClassId) (o : OS) (c : CS) (f : Nat → Int32) (b : Bool) (k : Int32) (t : T3) (en : Nat) (gt md : Nat → Int32) (z : Nat) (hg : f_ok gt z 255) (hz : z ≤ 1600) (sz : Nat) : Met l y_Mo_decode (.code y_Mo_decode c_Mo_decode 8 (some .int) :: xW) ({ frames := 1, cells := 0, slots := 0, locals := 22 }) (xPc (gZ g) D vwCl [.ref a0, .int (nI z)] [(a0, .inr (4, [.ref al, .int (nI o.2.1), .ref aw, .int (nI o.2.2.2.1), .int (bI o.2.2.2.2), .ref ac, .int (nI c.1), .int (nI c.2.1), .int c.2.2.1, .int (bI c.2.2.2), .int (bI b), .int k, .int (nI t.1), .int (nI t.2.1), .int t.2.2, .int (nI en), .ref ag, .ref am])), (al, .inl (cI, 1600, .inl o.1)), (aw, .inl (cI, 1024, .inl o.2.2.1)), (ac, .inl (cI, 40, .inl f)), (ag, .inl (cI, 1600, .inl gt)), (am, .inl (cI, 40, .inl md))] [(cI, .int)] sz) (va_Qi (fun (r : Int32) (u : (Nat → Int32)) => r = (td (n_at gt) z (z + 1) 0 0 md).1 ∧ u = (td (n_at gt) z (z + 1) 0 0 md).2) (xB D vwCl [(cI, .int)] (fun u : (Nat → Int32) => [(a0, .inr (4, [.ref al, .int (nI o.2.1), .ref aw, .int (nI o.2.2.2.1), .int (bI o.2.2.2.2), .ref ac, .int (nI c.1), .int (nI c.2.1), .int c.2.2.1, .int (bI c.2.2.2), .int (bI b), .int k, .int (nI t.1), .int (nI t.2.1), .int t.2.2, .int (nI en), .ref ag, .ref am])), (al, .inl (cI, 1600, .inl o.1)), (aw, .inl (cI, 1024, .inl o.2.2.1)), (ac, .inl (cI, 40, .inl f)), (ag, .inl (cI, 1600, .inl gt)), (am, .inl (cI, 40, .inl u))]) (va_A [(a0, .inr (4, [.ref al, .int (nI o.2.1), .ref aw, .int (nI o.2.2.2.1), .int (bI o.2.2.2.2), .ref ac, .int (nI c.1), .int (nI c.2.1), .int c.2.2.1, .int (bI c.2.2.2), .int (bI b), .int k, .int (nI t.1), .int (nI t.2.1), .int t.2.2, .int (nI en), .ref ag, .ref am])), (al, .inl (cI, 1600, .inl o.1)), (aw, .inl (cI, 1024, .inl o.2.2.1)), (ac, .inl (cI, 40, .inl f)), (ag, .inl (cI, 1600, .inl gt)), (am, .inl (cI, 40, .inl md))] sz)) (va_A [(a0, .inr (4, [.ref al, .int (nI o.2.1), .ref aw, .int (nI o.2.2.2.1), .int (bI o.2.2.2.2), .ref ac, .int (nI c.1), .int (nI c.2.1), .int c.2.2.1, .int (bI c.2.2.2), .int (bI b), .int k, .int (nI t.1), .int (nI t.2.1), .int t.2.2, .int (nI en), .ref ag, .ref am])), (al, .inl (cI, 1600, .inl o.1)), (aw, .inl (cI, 1024, .inl o.2.2.1)), (ac, .inl (cI, 40, .inl f)), (ag, .inl (cI, 1600, .inl gt)), (am, .inl (cI, 40, .inl md))] sz)) 0 0 (va_A [(a0, .inr (4, [.ref al, .int (nI o.2.1), .ref aw, .int (nI o.2.2.2.1), .int (bI o.2.2.2.2), .ref ac, .int (nI c.1), .int (nI c.2.1), .int c.2.2.1, .int (bI c.2.2.2), .int (bI b), .int k, .int (nI t.1), .int (nI t.2.1), .int t.2.2, .int (nI en), .ref ag, .ref am])), (al, .inl (cI, 1600, .inl o.1)), (aw, .inl (cI, 1024, .inl o.2.2.1)), (ac, .inl (cI, 40, .inl f)), (ag, .inl (cI, 1600, .inl gt)), (am, .inl (cI, 40, .inl md))] sz) := by
  refine x_open (Qc := fun A => va_Qi (fun (r : Int32) (u : (Nat → Int32)) => r = (td (n_at gt) z (z + 1) 0 0 md).1 ∧ u = (td (n_at gt) z (z + 1) 0 0 md).2) (xB D vwCl [(cI, .int)] (fun u : (Nat → Int32) => [(a0, .inr (4, [.ref al, .int (nI o.2.1), .ref aw, .int (nI o.2.2.2.1), .int (bI o.2.2.2.2), .ref ac, .int (nI c.1), .int (nI c.2.1), .int c.2.2.1, .int (bI c.2.2.2), .int (bI b), .int k, .int (nI t.1), .int (nI t.2.1), .int t.2.2, .int (nI en), .ref ag, .ref am])), (al, .inl (cI, 1600, .inl o.1)), (aw, .inl (cI, 1024, .inl o.2.2.1)), (ac, .inl (cI, 40, .inl f)), (ag, .inl (cI, 1600, .inl gt)), (am, .inl (cI, 40, .inl u))]) A) A) (cc := c_Mo_decode) (maxL := 8) (ret := (some .int)) (own := R_Mo) (by decide) rfl rfl (Nat.le_of_ble_eq_true rfl) ?_
  intro p e s m below meth cd A ls hsz hAe hx hb hr hml hown hts hlk hnm hA hP hK hD hS hZ hl
  clear hsz hAe
  have hW : ∀ w ∈ xW, w.before _ s = true := fun w h => hts w (List.mem_cons_of_mem _ h)
  have hl : lv_has ls 8 [(0, .ref a0), (1, .int (nI z))] := hl
  refine lv_iconst (v := 0) hx hb d_Mo_decode_0 (by decide) ?_
  refine lv_istore_n (lv' := [(2, .int 0), (0, .ref a0), (1, .int (nI z))]) hx hb d_Mo_decode_1 rfl hl (by decide) rfl (fun ls hl => ?_)
  refine lv_iconst (v := 0) hx hb d_Mo_decode_2 (by decide) ?_
  refine lv_istore_n (lv' := [(3, .int 0), (2, .int 0), (0, .ref a0), (1, .int (nI z))]) hx hb d_Mo_decode_3 rfl hl (by decide) rfl (fun ls hl => ?_)
  have hlp_4 : ∀ (n : Nat) (f9 : Nat) (q : Nat) (a : Nat) (d : Nat → Int32), (q ≤ 40) → (a ≤ z) → (z < a + f9) → (td (n_at gt) z f9 q a d = td (n_at gt) z (z + 1) 0 0 md) → f9 < n → ∀ (H : Heap) (locs : List Loc), va_P D vwCl [(a0, .inr (4, [.ref al, .int (nI o.2.1), .ref aw, .int (nI o.2.2.2.1), .int (bI o.2.2.2.2), .ref ac, .int (nI c.1), .int (nI c.2.1), .int c.2.2.1, .int (bI c.2.2.2), .int (bI b), .int k, .int (nI t.1), .int (nI t.2.1), .int t.2.2, .int (nI en), .ref ag, .ref am])), (al, .inl (cI, 1600, .inl o.1)), (aw, .inl (cI, 1024, .inl o.2.2.1)), (ac, .inl (cI, 40, .inl f)), (ag, .inl (cI, 1600, .inl gt)), (am, .inl (cI, 40, .inl d))] H → va_D A [(a0, .inr (4, [.ref al, .int (nI o.2.1), .ref aw, .int (nI o.2.2.2.1), .int (bI o.2.2.2.2), .ref ac, .int (nI c.1), .int (nI c.2.1), .int c.2.2.1, .int (bI c.2.2.2), .int (bI b), .int k, .int (nI t.1), .int (nI t.2.1), .int t.2.2, .int (nI en), .ref ag, .ref am])), (al, .inl (cI, 1600, .inl o.1)), (aw, .inl (cI, 1024, .inl o.2.2.1)), (ac, .inl (cI, 40, .inl f)), (ag, .inl (cI, 1600, .inl gt)), (am, .inl (cI, 40, .inl d))] → va_S A s.heap H locs → ∀ (ls : Array Slot), lv_has ls 8 [(3, .int (nI a)), (2, .int (nI q)), (0, .ref a0), (1, .int (nI z))] → W p l e ({ frames := 1, cells := 0, slots := 0, locals := 22 }) s m [.ref a0, .int (nI z)].toArray below meth cd H locs 0 0 (MQ below ((fun A => va_Qi (fun (r : Int32) (u : (Nat → Int32)) => r = (td (n_at gt) z (z + 1) 0 0 md).1 ∧ u = (td (n_at gt) z (z + 1) 0 0 md).2) (xB D vwCl [(cI, .int)] (fun u : (Nat → Int32) => [(a0, .inr (4, [.ref al, .int (nI o.2.1), .ref aw, .int (nI o.2.2.2.1), .int (bI o.2.2.2.2), .ref ac, .int (nI c.1), .int (nI c.2.1), .int c.2.2.1, .int (bI c.2.2.2), .int (bI b), .int k, .int (nI t.1), .int (nI t.2.1), .int t.2.2, .int (nI en), .ref ag, .ref am])), (al, .inl (cI, 1600, .inl o.1)), (aw, .inl (cI, 1024, .inl o.2.2.1)), (ac, .inl (cI, 40, .inl f)), (ag, .inl (cI, 1600, .inl gt)), (am, .inl (cI, 40, .inl u))]) A) A) A) [.ref a0, .int (nI z)].toArray s 0 0 A) (F0 m 4 ls []) := by
    intro n
    induction n with
    | zero => intro f9 q a d hq ha hf he hms; exact absurd hms (Nat.not_lt_zero _)
    | succ n ih =>
      intro f9 q a d hq ha hf he hms H locs hP hD hS ls hl
      refine lv_iload_n hx hb d_Mo_decode_4 rfl (lv_at hl 0 rfl) ?_
      refine lv_iload_n hx hb d_Mo_decode_5 rfl (lv_at hl 3 rfl) ?_
      refine lv_icmp_ge (tgt := 203) hx hb d_Mo_decode_6 (by decide) (fun c_6 => ?_) (fun c_6 => ?_)
      · replace c_6 := (cg_le z a rfl rfl (by omega) (by omega)).mp c_6
        refine lv_iload_n hx hb d_Mo_decode_203 rfl (lv_at hl 1 rfl) ?_
        exact W.iret (v := nI q) hx hb hr (fun t9 ht9 hW9 => ⟨⟨nI q, (d : (Nat → Int32)), rfl, by rw [← he, td_end c_6]; exact ⟨rfl, rfl⟩, by rw [ht9]; exact hP.sub [0, 1, 2, 3, 4, 5] rfl, va_K.moved hW9.alike hK, hD.sub [0, 1, 2, 3, 4, 5] (by decide) rfl⟩, hS.F ht9⟩) hS.2.2 d_Mo_decode_204
      · replace c_6 := mt (cg_le z a rfl rfl (by omega) (by omega)).mpr c_6
        have hba := n_at_le hg (show a < z by omega) (by decide)
        refine lv_aload_n hx hb d_Mo_decode_9 rfl (lv_at hl 2 rfl) ?_
        refine va_get (D := D) (ci := 4) (v := .ref ag) (C := R_Mo) (T := F_Mo) (N := 18) hx hb hW in_Mo hown hK hP 0 rfl rfl 16 (by decide) (hW _ mw_580) (fun _ h9 => h9) rfl d_Mo_decode_10 ?_
        refine lv_iload_n hx hb d_Mo_decode_13 rfl (lv_at hl 0 rfl) ?_
        refine va_iald (D := D) hx hb hK hP 4 0 rfl rfl (vp_in_nI (by omega) (by decide)) d_Mo_decode_14 ?_
        refine x_topi (y := gt a) (by rw [nI_clamp (by omega)]) ?_
        refine x_topi (y := nI (n_at gt a)) (n_at_eq hg (by omega)) ?_
        refine lv_istore (lv' := [(4, .int (nI (n_at gt a))), (3, .int (nI a)), (2, .int (nI q)), (0, .ref a0), (1, .int (nI z))]) hx hb d_Mo_decode_15 hl (by decide) rfl (fun ls hl => ?_)
        refine lv_iload hx hb d_Mo_decode_17 (lv_at hl 0 rfl) ?_
        refine lv_sipush (v := 128) hx hb d_Mo_decode_19 (by decide) ?_
        refine lv_icmp_ge (tgt := 29) hx hb d_Mo_decode_22 (by decide) (fun c_22 => ?_) (fun c_22 => ?_)
        · replace c_22 := (cg_le 128 (n_at gt a) rfl rfl (by omega) (by omega)).mp c_22
          refine lv_iload hx hb d_Mo_decode_29 (lv_at hl 0 rfl) ?_
          refine lv_sipush (v := 192) hx hb d_Mo_decode_31 (by decide) ?_
          refine lv_icmp_lt (tgt := 45) hx hb d_Mo_decode_34 (by decide) (fun c_34 => ?_) (fun c_34 => ?_)
          · replace c_34 := (cg_lt (n_at gt a) 192 rfl rfl (by omega) (by omega)).mp c_34
            refine lv_iconst (v := -1) hx hb d_Mo_decode_45 (by decide) ?_
            refine lv_goto (tgt := 62) hx hb d_Mo_decode_46 (by decide) ?_
            refine lv_istore (lv' := [(5, .int (-1)), (4, .int (nI (n_at gt a))), (3, .int (nI a)), (2, .int (nI q)), (0, .ref a0), (1, .int (nI z))]) hx hb d_Mo_decode_62 hl (by decide) rfl (fun ls hl => ?_)
            have hsz : szb (n_at gt a) = 0 := by rw [szb, if_neg (by omega), if_pos (by omega)]
            refine lv_iload hx hb d_Mo_decode_64 (lv_at hl 0 rfl) ?_
            refine lv_if_lt (tgt := 75) hx hb d_Mo_decode_66 (by decide) (fun c_66 => ?_) (fun c_66 => ?_)
            · refine lv_iconst (v := -1) hx hb d_Mo_decode_75 (by decide) ?_
              exact W.iret (v := -1) hx hb hr (fun t9 ht9 hW9 => ⟨⟨-1, (d : (Nat → Int32)), rfl, by rw [← he, td_bad (by omega) c_6 (by omega)]; exact ⟨rfl, rfl⟩, by rw [ht9]; exact hP.sub [0, 1, 2, 3, 4, 5] rfl, va_K.moved hW9.alike hK, hD.sub [0, 1, 2, 3, 4, 5] (by decide) rfl⟩, hS.F ht9⟩) hS.2.2 d_Mo_decode_76
            · exact absurd c_66 (by decide)
          · replace c_34 := mt (cg_lt (n_at gt a) 192 rfl rfl (by omega) (by omega)).mpr c_34
            refine lv_iload hx hb d_Mo_decode_37 (lv_at hl 0 rfl) ?_
            refine lv_sipush (v := 239) hx hb d_Mo_decode_39 (by decide) ?_
            refine lv_icmp_le (tgt := 49) hx hb d_Mo_decode_42 (by decide) (fun c_42 => ?_) (fun c_42 => ?_)
            · replace c_42 := (cg_le (n_at gt a) 239 rfl rfl (by omega) (by omega)).mp c_42
              refine lv_iload hx hb d_Mo_decode_49 (lv_at hl 0 rfl) ?_
              refine lv_sipush (v := 224) hx hb d_Mo_decode_51 (by decide) ?_
              refine lv_icmp_ge (tgt := 61) hx hb d_Mo_decode_54 (by decide) (fun c_54 => ?_) (fun c_54 => ?_)
              · replace c_54 := (cg_le 224 (n_at gt a) rfl rfl (by omega) (by omega)).mp c_54
                refine lv_iconst (v := 2) hx hb d_Mo_decode_61 (by decide) ?_
                refine lv_istore (lv' := [(5, .int 2), (4, .int (nI (n_at gt a))), (3, .int (nI a)), (2, .int (nI q)), (0, .ref a0), (1, .int (nI z))]) hx hb d_Mo_decode_62 hl (by decide) rfl (fun ls hl => ?_)
                have hsz : szb (n_at gt a) = 3 := by rw [szb, if_neg (by omega), if_neg (by omega), if_neg (by omega)]
                refine lv_iload hx hb d_Mo_decode_64 (lv_at hl 0 rfl) ?_
                refine lv_if_lt (tgt := 75) hx hb d_Mo_decode_66 (by decide) (fun c_66 => ?_) (fun c_66 => ?_)
                · exact absurd c_66 (by decide)
                · refine lv_iload_n hx hb d_Mo_decode_69 rfl (lv_at hl 3 rfl) ?_
                  refine lv_bipush (v := 40) hx hb d_Mo_decode_70 (by decide) ?_
                  refine lv_icmp_ne (tgt := 77) hx hb d_Mo_decode_72 (by decide) (fun c_72 => ?_) (fun c_72 => ?_)
                  · replace c_72 := mt (cg_eq q 40 rfl rfl (by omega) (by omega)).mpr c_72
                    refine lv_iload hx hb d_Mo_decode_77 (lv_at hl 0 rfl) ?_
                    refine lv_if_le (tgt := 93) hx hb d_Mo_decode_79 (by decide) (fun c_79 => ?_) (fun c_79 => ?_)
                    · exact absurd c_79 (by decide)
                    · refine lv_aload_n hx hb d_Mo_decode_82 rfl (lv_at hl 4 rfl) ?_
                      refine lv_iload_n hx hb d_Mo_decode_83 rfl (lv_at hl 2 rfl) ?_
                      refine lv_iconst (v := 1) hx hb d_Mo_decode_84 (by decide) ?_
                      refine lv_iadd hx hb d_Mo_decode_85 ?_
                      refine x_topi (y := nI (a + 1)) (nI_1 _) ?_
                      refine lv_iload_n hx hb d_Mo_decode_86 rfl (lv_at hl 5 rfl) ?_
                      refine x_calli (D := D) (wc := [(a0, .inr (4, [.ref al, .int (nI o.2.1), .ref aw, .int (nI o.2.2.2.1), .int (bI o.2.2.2.2), .ref ac, .int (nI c.1), .int (nI c.2.1), .int c.2.2.1, .int (bI c.2.2.2), .int (bI b), .int k, .int (nI t.1), .int (nI t.2.1), .int t.2.2, .int (nI en), .ref ag, .ref am])), (al, .inl (cI, 1600, .inl o.1)), (aw, .inl (cI, 1024, .inl o.2.2.1)), (ac, .inl (cI, 40, .inl f)), (ag, .inl (cI, 1600, .inl gt)), (am, .inl (cI, 40, .inl d))]) (wr := []) (va_runV (C := R_Mo) (As := [.int (nI (a + 1)), .int (nI z)]) (rest := []) ⟨hx, hb, hml, hown, hW⟩ (k_Mo_tail l D g a0 al aw ac ag am cI o c f b k t en gt d (a + 1) z hg hz (by omega) H.size) (cwV 2 hW (gWV mw_749 mw_751 mw_48 mw_54 mw_752) rfl rfl rfl (by decide +kernel) ⟨Nat.le_of_ble_eq_true rfl, Nat.le_of_ble_eq_true rfl⟩) ⟨xPc_blind (gZ_ok g), va_recv hK hP (ci := 4) (q0 := 0) rfl rfl, x_pre (gZ_ok g) hP hK hD hS hA hZ [0, 1, 2, 3, 4, 5] [0] rfl rfl rfl⟩ rfl rfl hl.1 rfl (lv_room (Nat.le_of_ble_eq_true rfl)) d_Mo_decode_87 ⟨Nat.le_of_ble_eq_true rfl, Nat.le_of_ble_eq_true rfl⟩) hP hD hS hA [0, 1, 2, 3, 4, 5] [] rfl rfl rfl (by decide) (fun r_87 u_87 H locs hw_87 hP hD hS => ?_)
                      replace hw_87 := hw_87.symm
                      subst hw_87
                      have hP : va_P D vwCl [(a0, .inr (4, [.ref al, .int (nI o.2.1), .ref aw, .int (nI o.2.2.2.1), .int (bI o.2.2.2.2), .ref ac, .int (nI c.1), .int (nI c.2.1), .int c.2.2.1, .int (bI c.2.2.2), .int (bI b), .int k, .int (nI t.1), .int (nI t.2.1), .int t.2.2, .int (nI en), .ref ag, .ref am])), (al, .inl (cI, 1600, .inl o.1)), (aw, .inl (cI, 1024, .inl o.2.2.1)), (ac, .inl (cI, 40, .inl f)), (ag, .inl (cI, 1600, .inl gt)), (am, .inl (cI, 40, .inl d))] H := hP
                      have hD : va_D A [(a0, .inr (4, [.ref al, .int (nI o.2.1), .ref aw, .int (nI o.2.2.2.1), .int (bI o.2.2.2.2), .ref ac, .int (nI c.1), .int (nI c.2.1), .int c.2.2.1, .int (bI c.2.2.2), .int (bI b), .int k, .int (nI t.1), .int (nI t.2.1), .int t.2.2, .int (nI en), .ref ag, .ref am])), (al, .inl (cI, 1600, .inl o.1)), (aw, .inl (cI, 1024, .inl o.2.2.1)), (ac, .inl (cI, 40, .inl f)), (ag, .inl (cI, 1600, .inl gt)), (am, .inl (cI, 40, .inl d))] := hD
                      refine lv_if_eq (tgt := 110) hx hb d_Mo_decode_90 (by decide) (fun c_90 => ?_) (fun c_90 => ?_)
                      · rw [bI_0] at c_90
                        have hn9 := of_decide_eq_false c_90
                        refine lv_iconst (v := -1) hx hb d_Mo_decode_110 (by decide) ?_
                        exact W.iret (v := -1) hx hb hr (fun t9 ht9 hW9 => ⟨⟨-1, (d : (Nat → Int32)), rfl, by rw [← he, td_t3 (by omega) c_6 (by omega) hsz (by first | exact Or.inl hn9 | exact Or.inr hm9)]; exact ⟨rfl, rfl⟩, by rw [ht9]; exact hP.sub [0, 1, 2, 3, 4, 5] rfl, va_K.moved hW9.alike hK, hD.sub [0, 1, 2, 3, 4, 5] (by decide) rfl⟩, hS.F ht9⟩) hS.2.2 d_Mo_decode_111
                      · rw [bI_n0] at c_90
                        have ht9_ := of_decide_eq_true c_90
                        refine lv_iload hx hb d_Mo_decode_93 (lv_at hl 0 rfl) ?_
                        refine lv_iconst (v := 1) hx hb d_Mo_decode_95 (by decide) ?_
                        refine lv_icmp_le (tgt := 112) hx hb d_Mo_decode_96 (by decide) (fun c_96 => ?_) (fun c_96 => ?_)
                        · exact absurd c_96 (by decide)
                        · refine lv_aload_n hx hb d_Mo_decode_99 rfl (lv_at hl 4 rfl) ?_
                          refine lv_iload_n hx hb d_Mo_decode_100 rfl (lv_at hl 2 rfl) ?_
                          refine lv_iconst (v := 2) hx hb d_Mo_decode_101 (by decide) ?_
                          refine lv_iadd hx hb d_Mo_decode_102 ?_
                          refine x_topi (y := nI (a + 2)) (by rw [show (2 : Int32) = nI 2 by decide]; exact nI_add _ _) ?_
                          refine lv_iload_n hx hb d_Mo_decode_103 rfl (lv_at hl 5 rfl) ?_
                          refine x_calli (D := D) (wc := [(a0, .inr (4, [.ref al, .int (nI o.2.1), .ref aw, .int (nI o.2.2.2.1), .int (bI o.2.2.2.2), .ref ac, .int (nI c.1), .int (nI c.2.1), .int c.2.2.1, .int (bI c.2.2.2), .int (bI b), .int k, .int (nI t.1), .int (nI t.2.1), .int t.2.2, .int (nI en), .ref ag, .ref am])), (al, .inl (cI, 1600, .inl o.1)), (aw, .inl (cI, 1024, .inl o.2.2.1)), (ac, .inl (cI, 40, .inl f)), (ag, .inl (cI, 1600, .inl gt)), (am, .inl (cI, 40, .inl d))]) (wr := []) (va_runV (C := R_Mo) (As := [.int (nI (a + 2)), .int (nI z)]) (rest := []) ⟨hx, hb, hml, hown, hW⟩ (k_Mo_tail l D g a0 al aw ac ag am cI o c f b k t en gt d (a + 2) z hg hz (by omega) H.size) (cwV 2 hW (gWV mw_749 mw_751 mw_48 mw_54 mw_752) rfl rfl rfl (by decide +kernel) ⟨Nat.le_of_ble_eq_true rfl, Nat.le_of_ble_eq_true rfl⟩) ⟨xPc_blind (gZ_ok g), va_recv hK hP (ci := 4) (q0 := 0) rfl rfl, x_pre (gZ_ok g) hP hK hD hS hA hZ [0, 1, 2, 3, 4, 5] [0] rfl rfl rfl⟩ rfl rfl hl.1 rfl (lv_room (Nat.le_of_ble_eq_true rfl)) d_Mo_decode_104 ⟨Nat.le_of_ble_eq_true rfl, Nat.le_of_ble_eq_true rfl⟩) hP hD hS hA [0, 1, 2, 3, 4, 5] [] rfl rfl rfl (by decide) (fun r_104 u_104 H locs hw_104 hP hD hS => ?_)
                          replace hw_104 := hw_104.symm
                          subst hw_104
                          have hP : va_P D vwCl [(a0, .inr (4, [.ref al, .int (nI o.2.1), .ref aw, .int (nI o.2.2.2.1), .int (bI o.2.2.2.2), .ref ac, .int (nI c.1), .int (nI c.2.1), .int c.2.2.1, .int (bI c.2.2.2), .int (bI b), .int k, .int (nI t.1), .int (nI t.2.1), .int t.2.2, .int (nI en), .ref ag, .ref am])), (al, .inl (cI, 1600, .inl o.1)), (aw, .inl (cI, 1024, .inl o.2.2.1)), (ac, .inl (cI, 40, .inl f)), (ag, .inl (cI, 1600, .inl gt)), (am, .inl (cI, 40, .inl d))] H := hP
                          have hD : va_D A [(a0, .inr (4, [.ref al, .int (nI o.2.1), .ref aw, .int (nI o.2.2.2.1), .int (bI o.2.2.2.2), .ref ac, .int (nI c.1), .int (nI c.2.1), .int c.2.2.1, .int (bI c.2.2.2), .int (bI b), .int k, .int (nI t.1), .int (nI t.2.1), .int t.2.2, .int (nI en), .ref ag, .ref am])), (al, .inl (cI, 1600, .inl o.1)), (aw, .inl (cI, 1024, .inl o.2.2.1)), (ac, .inl (cI, 40, .inl f)), (ag, .inl (cI, 1600, .inl gt)), (am, .inl (cI, 40, .inl d))] := hD
                          refine lv_if_ne (tgt := 112) hx hb d_Mo_decode_107 (by decide) (fun c_107 => ?_) (fun c_107 => ?_)
                          · rw [bI_n0] at c_107
                            have hu9 := of_decide_eq_true c_107
                            refine lv_iload hx hb d_Mo_decode_112 (lv_at hl 0 rfl) ?_
                            refine lv_if_ne (tgt := 122) hx hb d_Mo_decode_114 (by decide) (fun c_114 => ?_) (fun c_114 => ?_)
                            · refine lv_iload hx hb d_Mo_decode_122 (lv_at hl 0 rfl) ?_
                              refine lv_iconst (v := 1) hx hb d_Mo_decode_124 (by decide) ?_
                              refine lv_icmp_ne (tgt := 137) hx hb d_Mo_decode_125 (by decide) (fun c_125 => ?_) (fun c_125 => ?_)
                              · refine lv_iload hx hb d_Mo_decode_137 (lv_at hl 1 rfl) ?_
                                refine lv_sipush (v := 224) hx hb d_Mo_decode_139 (by decide) ?_
                                refine lv_isub hx hb d_Mo_decode_142 ?_
                                refine x_topi (y := nI ((n_at gt a) - 224)) (by rw [show (224 : Int32) = nI 224 by decide]; exact pk_sub (by omega)) ?_
                                refine lv_istore (lv' := [(6, .int (nI ((n_at gt a) - 224))), (5, .int 2), (4, .int (nI (n_at gt a))), (3, .int (nI a)), (2, .int (nI q)), (0, .ref a0), (1, .int (nI z))]) hx hb d_Mo_decode_143 hl (by decide) rfl (fun ls hl => ?_)
                                refine lv_iconst (v := 1) hx hb d_Mo_decode_145 (by decide) ?_
                                refine lv_istore (lv' := [(7, .int 1), (6, .int (nI ((n_at gt a) - 224))), (5, .int 2), (4, .int (nI (n_at gt a))), (3, .int (nI a)), (2, .int (nI q)), (0, .ref a0), (1, .int (nI z))]) hx hb d_Mo_decode_146 hl (by decide) rfl (fun ls hl => ?_)
                                refine lv_iload hx hb d_Mo_decode_148 (lv_at hl 0 rfl) ?_
                                refine lv_iload hx hb d_Mo_decode_150 (lv_at hl 2 rfl) ?_
                                refine lv_icmp_gt (tgt := 182) hx hb d_Mo_decode_152 (by decide) (fun c_152 => ?_) (fun c_152 => ?_)
                                · exact absurd c_152 (by decide)
                                · have hbj := n_at_le hg (show a + 1 < z by omega) (by decide)
                                  refine lv_iload hx hb d_Mo_decode_155 (lv_at hl 1 rfl) ?_
                                  refine lv_bipush (v := 64) hx hb d_Mo_decode_157 (by decide) ?_
                                  refine lv_imul hx hb d_Mo_decode_159 ?_
                                  refine x_topi (y := nI (((n_at gt a) - 224) * 64)) (by rw [show (64 : Int32) = nI 64 by decide]; exact pk_mul _ _) ?_
                                  refine lv_aload_n hx hb d_Mo_decode_160 rfl (lv_at hl 6 rfl) ?_
                                  refine va_get (D := D) (ci := 4) (v := .ref ag) (C := R_Mo) (T := F_Mo) (N := 18) hx hb hW in_Mo hown hK hP 0 rfl rfl 16 (by decide) (hW _ mw_580) (fun _ h9 => h9) rfl d_Mo_decode_161 ?_
                                  refine lv_iload_n hx hb d_Mo_decode_164 rfl (lv_at hl 4 rfl) ?_
                                  refine lv_iload hx hb d_Mo_decode_165 (lv_at hl 0 rfl) ?_
                                  refine lv_iadd hx hb d_Mo_decode_167 ?_
                                  refine x_topi (y := nI (a + 1)) (nI_1 _) ?_
                                  refine va_iald (D := D) hx hb hK hP 4 0 rfl rfl (vp_in_nI (by omega) (by decide)) d_Mo_decode_168 ?_
                                  refine x_topi (y := gt (a + 1)) (by rw [nI_clamp (by omega)]) ?_
                                  refine x_topi (y := nI (n_at gt (a + 1))) (n_at_eq hg (by omega)) ?_
                                  refine lv_iadd hx hb d_Mo_decode_169 ?_
                                  refine x_topi (y := nI ((((n_at gt a) - 224) * 64) + (n_at gt (a + 1)))) (nI_add _ _) ?_
                                  refine lv_sipush (v := 128) hx hb d_Mo_decode_170 (by decide) ?_
                                  refine lv_isub hx hb d_Mo_decode_173 ?_
                                  refine x_topi (y := nI (((((n_at gt a) - 224) * 64) + (n_at gt (a + 1))) - 128)) (by rw [show (128 : Int32) = nI 128 by decide]; exact pk_sub (by omega)) ?_
                                  refine lv_istore (lv' := [(6, .int (nI (((((n_at gt a) - 224) * 64) + (n_at gt (a + 1))) - 128))), (7, .int 1), (5, .int 2), (4, .int (nI (n_at gt a))), (3, .int (nI a)), (2, .int (nI q)), (0, .ref a0), (1, .int (nI z))]) hx hb d_Mo_decode_174 hl (by decide) rfl (fun ls hl => ?_)
                                  refine lv_iinc (v := 2) (lv' := [(7, .int 2), (6, .int (nI (((((n_at gt a) - 224) * 64) + (n_at gt (a + 1))) - 128))), (5, .int 2), (4, .int (nI (n_at gt a))), (3, .int (nI a)), (2, .int (nI q)), (0, .ref a0), (1, .int (nI z))]) hx hb d_Mo_decode_176 hl (k := 1) rfl (by decide) (by decide) rfl (fun ls hl => ?_)
                                  refine lv_goto (tgt := 148) hx hb d_Mo_decode_179 (by decide) ?_
                                  refine lv_iload hx hb d_Mo_decode_148 (lv_at hl 0 rfl) ?_
                                  refine lv_iload hx hb d_Mo_decode_150 (lv_at hl 2 rfl) ?_
                                  refine lv_icmp_gt (tgt := 182) hx hb d_Mo_decode_152 (by decide) (fun c_152 => ?_) (fun c_152 => ?_)
                                  · exact absurd c_152 (by decide)
                                  · have hbj := n_at_le hg (show a + 2 < z by omega) (by decide)
                                    refine lv_iload hx hb d_Mo_decode_155 (lv_at hl 1 rfl) ?_
                                    refine lv_bipush (v := 64) hx hb d_Mo_decode_157 (by decide) ?_
                                    refine lv_imul hx hb d_Mo_decode_159 ?_
                                    refine x_topi (y := nI ((((((n_at gt a) - 224) * 64) + (n_at gt (a + 1))) - 128) * 64)) (by rw [show (64 : Int32) = nI 64 by decide]; exact pk_mul _ _) ?_
                                    refine lv_aload_n hx hb d_Mo_decode_160 rfl (lv_at hl 6 rfl) ?_
                                    refine va_get (D := D) (ci := 4) (v := .ref ag) (C := R_Mo) (T := F_Mo) (N := 18) hx hb hW in_Mo hown hK hP 0 rfl rfl 16 (by decide) (hW _ mw_580) (fun _ h9 => h9) rfl d_Mo_decode_161 ?_
                                    refine lv_iload_n hx hb d_Mo_decode_164 rfl (lv_at hl 4 rfl) ?_
                                    refine lv_iload hx hb d_Mo_decode_165 (lv_at hl 0 rfl) ?_
                                    refine lv_iadd hx hb d_Mo_decode_167 ?_
                                    refine x_topi (y := nI (a + 2)) (by rw [show (2 : Int32) = nI 2 by decide]; exact nI_add _ _) ?_
                                    refine va_iald (D := D) hx hb hK hP 4 0 rfl rfl (vp_in_nI (by omega) (by decide)) d_Mo_decode_168 ?_
                                    refine x_topi (y := gt (a + 2)) (by rw [nI_clamp (by omega)]) ?_
                                    refine x_topi (y := nI (n_at gt (a + 2))) (n_at_eq hg (by omega)) ?_
                                    refine lv_iadd hx hb d_Mo_decode_169 ?_
                                    refine x_topi (y := nI (((((((n_at gt a) - 224) * 64) + (n_at gt (a + 1))) - 128) * 64) + (n_at gt (a + 2)))) (nI_add _ _) ?_
                                    refine lv_sipush (v := 128) hx hb d_Mo_decode_170 (by decide) ?_
                                    refine lv_isub hx hb d_Mo_decode_173 ?_
                                    refine x_topi (y := nI ((((((((n_at gt a) - 224) * 64) + (n_at gt (a + 1))) - 128) * 64) + (n_at gt (a + 2))) - 128)) (by rw [show (128 : Int32) = nI 128 by decide]; exact pk_sub (by omega)) ?_
                                    refine lv_istore (lv' := [(6, .int (nI ((((((((n_at gt a) - 224) * 64) + (n_at gt (a + 1))) - 128) * 64) + (n_at gt (a + 2))) - 128))), (7, .int 2), (5, .int 2), (4, .int (nI (n_at gt a))), (3, .int (nI a)), (2, .int (nI q)), (0, .ref a0), (1, .int (nI z))]) hx hb d_Mo_decode_174 hl (by decide) rfl (fun ls hl => ?_)
                                    refine lv_iinc (v := 3) (lv' := [(7, .int 3), (6, .int (nI ((((((((n_at gt a) - 224) * 64) + (n_at gt (a + 1))) - 128) * 64) + (n_at gt (a + 2))) - 128))), (5, .int 2), (4, .int (nI (n_at gt a))), (3, .int (nI a)), (2, .int (nI q)), (0, .ref a0), (1, .int (nI z))]) hx hb d_Mo_decode_176 hl (k := 1) rfl (by decide) (by decide) rfl (fun ls hl => ?_)
                                    refine lv_goto (tgt := 148) hx hb d_Mo_decode_179 (by decide) ?_
                                    refine lv_iload hx hb d_Mo_decode_148 (lv_at hl 0 rfl) ?_
                                    refine lv_iload hx hb d_Mo_decode_150 (lv_at hl 2 rfl) ?_
                                    refine lv_icmp_gt (tgt := 182) hx hb d_Mo_decode_152 (by decide) (fun c_152 => ?_) (fun c_152 => ?_)
                                    · have hv : dc (n_at gt) a (szb (n_at gt a)) = some ((((((((n_at gt a) - 224) * 64) + (n_at gt (a + 1))) - 128) * 64) + (n_at gt (a + 2))) - 128) := by rw [hsz]; exact dc_3 (by omega) (by omega) (by omega)
                                      refine lv_aload_n hx hb d_Mo_decode_182 rfl (lv_at hl 6 rfl) ?_
                                      refine va_get (D := D) (ci := 4) (v := .ref am) (C := R_Mo) (T := F_Mo) (N := 18) hx hb hW in_Mo hown hK hP 0 rfl rfl 17 (by decide) (hW _ mw_581) (fun _ h9 => h9) rfl d_Mo_decode_183 ?_
                                      refine lv_iload_n hx hb d_Mo_decode_186 rfl (lv_at hl 5 rfl) ?_
                                      refine lv_iload hx hb d_Mo_decode_187 (lv_at hl 1 rfl) ?_
                                      refine va_iast (D := D) hx hb hK hP hD hS 5 0 rfl rfl (vp_in_nI (by omega) (by decide)) d_Mo_decode_189 (fun H locs hP hD hS => ?_)
                                      rw [nI_clamp (by omega)] at hP hD
                                      have hP : va_P D vwCl [(a0, .inr (4, [.ref al, .int (nI o.2.1), .ref aw, .int (nI o.2.2.2.1), .int (bI o.2.2.2.2), .ref ac, .int (nI c.1), .int (nI c.2.1), .int c.2.2.1, .int (bI c.2.2.2), .int (bI b), .int k, .int (nI t.1), .int (nI t.2.1), .int t.2.2, .int (nI en), .ref ag, .ref am])), (al, .inl (cI, 1600, .inl o.1)), (aw, .inl (cI, 1024, .inl o.2.2.1)), (ac, .inl (cI, 40, .inl f)), (ag, .inl (cI, 1600, .inl gt)), (am, .inl (cI, 40, .inl (upd d q (nI ((((((((n_at gt a) - 224) * 64) + (n_at gt (a + 1))) - 128) * 64) + (n_at gt (a + 2))) - 128)))))] H := hP
                                      have hD : va_D A [(a0, .inr (4, [.ref al, .int (nI o.2.1), .ref aw, .int (nI o.2.2.2.1), .int (bI o.2.2.2.2), .ref ac, .int (nI c.1), .int (nI c.2.1), .int c.2.2.1, .int (bI c.2.2.2), .int (bI b), .int k, .int (nI t.1), .int (nI t.2.1), .int t.2.2, .int (nI en), .ref ag, .ref am])), (al, .inl (cI, 1600, .inl o.1)), (aw, .inl (cI, 1024, .inl o.2.2.1)), (ac, .inl (cI, 40, .inl f)), (ag, .inl (cI, 1600, .inl gt)), (am, .inl (cI, 40, .inl (upd d q (nI ((((((((n_at gt a) - 224) * 64) + (n_at gt (a + 1))) - 128) * 64) + (n_at gt (a + 2))) - 128)))))] := hD
                                      refine lv_iinc (v := nI (q + 1)) (lv' := [(2, .int (nI (q + 1))), (7, .int 3), (6, .int (nI ((((((((n_at gt a) - 224) * 64) + (n_at gt (a + 1))) - 128) * 64) + (n_at gt (a + 2))) - 128))), (5, .int 2), (4, .int (nI (n_at gt a))), (3, .int (nI a)), (0, .ref a0), (1, .int (nI z))]) hx hb d_Mo_decode_190 hl (k := 5) rfl (nI_1 _) (by decide) rfl (fun ls hl => ?_)
                                      refine lv_iload_n hx hb d_Mo_decode_193 rfl (lv_at hl 5 rfl) ?_
                                      refine lv_iload hx hb d_Mo_decode_194 (lv_at hl 3 rfl) ?_
                                      refine lv_iconst (v := 1) hx hb d_Mo_decode_196 (by decide) ?_
                                      refine lv_iadd hx hb d_Mo_decode_197 ?_
                                      refine x_topi (y := nI 3) (by decide) ?_
                                      refine lv_iadd hx hb d_Mo_decode_198 ?_
                                      refine x_topi (y := nI (a + 3)) (nI_add _ _) ?_
                                      refine lv_istore_n (lv' := [(3, .int (nI (a + 3))), (2, .int (nI (q + 1))), (7, .int 3), (6, .int (nI ((((((((n_at gt a) - 224) * 64) + (n_at gt (a + 1))) - 128) * 64) + (n_at gt (a + 2))) - 128))), (5, .int 2), (4, .int (nI (n_at gt a))), (0, .ref a0), (1, .int (nI z))]) hx hb d_Mo_decode_199 rfl hl (by decide) rfl (fun ls hl => ?_)
                                      refine lv_goto (tgt := 4) hx hb d_Mo_decode_200 (by decide) ?_
                                      exact ih (f9 - 1) (q + 1) (a + 3) (upd d q (nI ((((((((n_at gt a) - 224) * 64) + (n_at gt (a + 1))) - 128) * 64) + (n_at gt (a + 2))) - 128))) (by omega) (by omega) (by omega) (by rw [← he, td_some (by omega) c_6 (by omega) hv, hsz]) (by omega) H locs (hP.sub [0, 1, 2, 3, 4, 5] rfl) (hD.sub [0, 1, 2, 3, 4, 5] (by decide) rfl) hS ls (lv_sub hl [0, 1, 6, 7] rfl)
                                    · exact absurd c_152 (by decide)
                              · exact absurd c_125 (by decide)
                            · exact absurd c_114 (by decide)
                          · rw [bI_0] at c_107
                            have hm9 := of_decide_eq_false c_107
                            refine lv_iconst (v := -1) hx hb d_Mo_decode_110 (by decide) ?_
                            exact W.iret (v := -1) hx hb hr (fun t9 ht9 hW9 => ⟨⟨-1, (d : (Nat → Int32)), rfl, by rw [← he, td_t3 (by omega) c_6 (by omega) hsz (by first | exact Or.inl hn9 | exact Or.inr hm9)]; exact ⟨rfl, rfl⟩, by rw [ht9]; exact hP.sub [0, 1, 2, 3, 4, 5] rfl, va_K.moved hW9.alike hK, hD.sub [0, 1, 2, 3, 4, 5] (by decide) rfl⟩, hS.F ht9⟩) hS.2.2 d_Mo_decode_111
                  · replace c_72 := (cg_eq q 40 rfl rfl (by omega) (by omega)).mp c_72
                    refine lv_iconst (v := -1) hx hb d_Mo_decode_75 (by decide) ?_
                    exact W.iret (v := -1) hx hb hr (fun t9 ht9 hW9 => ⟨⟨-1, (d : (Nat → Int32)), rfl, by rw [← he, td_bad (by omega) c_6 (by omega)]; exact ⟨rfl, rfl⟩, by rw [ht9]; exact hP.sub [0, 1, 2, 3, 4, 5] rfl, va_K.moved hW9.alike hK, hD.sub [0, 1, 2, 3, 4, 5] (by decide) rfl⟩, hS.F ht9⟩) hS.2.2 d_Mo_decode_76
              · replace c_54 := mt (cg_le 224 (n_at gt a) rfl rfl (by omega) (by omega)).mpr c_54
                refine lv_iconst (v := 1) hx hb d_Mo_decode_57 (by decide) ?_
                refine lv_goto (tgt := 62) hx hb d_Mo_decode_58 (by decide) ?_
                refine lv_istore (lv' := [(5, .int 1), (4, .int (nI (n_at gt a))), (3, .int (nI a)), (2, .int (nI q)), (0, .ref a0), (1, .int (nI z))]) hx hb d_Mo_decode_62 hl (by decide) rfl (fun ls hl => ?_)
                have hsz : szb (n_at gt a) = 2 := by rw [szb, if_neg (by omega), if_neg (by omega), if_pos (by omega)]
                refine lv_iload hx hb d_Mo_decode_64 (lv_at hl 0 rfl) ?_
                refine lv_if_lt (tgt := 75) hx hb d_Mo_decode_66 (by decide) (fun c_66 => ?_) (fun c_66 => ?_)
                · exact absurd c_66 (by decide)
                · refine lv_iload_n hx hb d_Mo_decode_69 rfl (lv_at hl 3 rfl) ?_
                  refine lv_bipush (v := 40) hx hb d_Mo_decode_70 (by decide) ?_
                  refine lv_icmp_ne (tgt := 77) hx hb d_Mo_decode_72 (by decide) (fun c_72 => ?_) (fun c_72 => ?_)
                  · replace c_72 := mt (cg_eq q 40 rfl rfl (by omega) (by omega)).mpr c_72
                    refine lv_iload hx hb d_Mo_decode_77 (lv_at hl 0 rfl) ?_
                    refine lv_if_le (tgt := 93) hx hb d_Mo_decode_79 (by decide) (fun c_79 => ?_) (fun c_79 => ?_)
                    · exact absurd c_79 (by decide)
                    · refine lv_aload_n hx hb d_Mo_decode_82 rfl (lv_at hl 4 rfl) ?_
                      refine lv_iload_n hx hb d_Mo_decode_83 rfl (lv_at hl 2 rfl) ?_
                      refine lv_iconst (v := 1) hx hb d_Mo_decode_84 (by decide) ?_
                      refine lv_iadd hx hb d_Mo_decode_85 ?_
                      refine x_topi (y := nI (a + 1)) (nI_1 _) ?_
                      refine lv_iload_n hx hb d_Mo_decode_86 rfl (lv_at hl 5 rfl) ?_
                      refine x_calli (D := D) (wc := [(a0, .inr (4, [.ref al, .int (nI o.2.1), .ref aw, .int (nI o.2.2.2.1), .int (bI o.2.2.2.2), .ref ac, .int (nI c.1), .int (nI c.2.1), .int c.2.2.1, .int (bI c.2.2.2), .int (bI b), .int k, .int (nI t.1), .int (nI t.2.1), .int t.2.2, .int (nI en), .ref ag, .ref am])), (al, .inl (cI, 1600, .inl o.1)), (aw, .inl (cI, 1024, .inl o.2.2.1)), (ac, .inl (cI, 40, .inl f)), (ag, .inl (cI, 1600, .inl gt)), (am, .inl (cI, 40, .inl d))]) (wr := []) (va_runV (C := R_Mo) (As := [.int (nI (a + 1)), .int (nI z)]) (rest := []) ⟨hx, hb, hml, hown, hW⟩ (k_Mo_tail l D g a0 al aw ac ag am cI o c f b k t en gt d (a + 1) z hg hz (by omega) H.size) (cwV 2 hW (gWV mw_749 mw_751 mw_48 mw_54 mw_752) rfl rfl rfl (by decide +kernel) ⟨Nat.le_of_ble_eq_true rfl, Nat.le_of_ble_eq_true rfl⟩) ⟨xPc_blind (gZ_ok g), va_recv hK hP (ci := 4) (q0 := 0) rfl rfl, x_pre (gZ_ok g) hP hK hD hS hA hZ [0, 1, 2, 3, 4, 5] [0] rfl rfl rfl⟩ rfl rfl hl.1 rfl (lv_room (Nat.le_of_ble_eq_true rfl)) d_Mo_decode_87 ⟨Nat.le_of_ble_eq_true rfl, Nat.le_of_ble_eq_true rfl⟩) hP hD hS hA [0, 1, 2, 3, 4, 5] [] rfl rfl rfl (by decide) (fun r_87 u_87 H locs hw_87 hP hD hS => ?_)
                      replace hw_87 := hw_87.symm
                      subst hw_87
                      have hP : va_P D vwCl [(a0, .inr (4, [.ref al, .int (nI o.2.1), .ref aw, .int (nI o.2.2.2.1), .int (bI o.2.2.2.2), .ref ac, .int (nI c.1), .int (nI c.2.1), .int c.2.2.1, .int (bI c.2.2.2), .int (bI b), .int k, .int (nI t.1), .int (nI t.2.1), .int t.2.2, .int (nI en), .ref ag, .ref am])), (al, .inl (cI, 1600, .inl o.1)), (aw, .inl (cI, 1024, .inl o.2.2.1)), (ac, .inl (cI, 40, .inl f)), (ag, .inl (cI, 1600, .inl gt)), (am, .inl (cI, 40, .inl d))] H := hP
                      have hD : va_D A [(a0, .inr (4, [.ref al, .int (nI o.2.1), .ref aw, .int (nI o.2.2.2.1), .int (bI o.2.2.2.2), .ref ac, .int (nI c.1), .int (nI c.2.1), .int c.2.2.1, .int (bI c.2.2.2), .int (bI b), .int k, .int (nI t.1), .int (nI t.2.1), .int t.2.2, .int (nI en), .ref ag, .ref am])), (al, .inl (cI, 1600, .inl o.1)), (aw, .inl (cI, 1024, .inl o.2.2.1)), (ac, .inl (cI, 40, .inl f)), (ag, .inl (cI, 1600, .inl gt)), (am, .inl (cI, 40, .inl d))] := hD
                      refine lv_if_eq (tgt := 110) hx hb d_Mo_decode_90 (by decide) (fun c_90 => ?_) (fun c_90 => ?_)
                      · rw [bI_0] at c_90
                        have hn9 := of_decide_eq_false c_90
                        refine lv_iconst (v := -1) hx hb d_Mo_decode_110 (by decide) ?_
                        exact W.iret (v := -1) hx hb hr (fun t9 ht9 hW9 => ⟨⟨-1, (d : (Nat → Int32)), rfl, by rw [← he, td_t2 (by omega) c_6 (by omega) hsz hn9]; exact ⟨rfl, rfl⟩, by rw [ht9]; exact hP.sub [0, 1, 2, 3, 4, 5] rfl, va_K.moved hW9.alike hK, hD.sub [0, 1, 2, 3, 4, 5] (by decide) rfl⟩, hS.F ht9⟩) hS.2.2 d_Mo_decode_111
                      · rw [bI_n0] at c_90
                        have ht9_ := of_decide_eq_true c_90
                        refine lv_iload hx hb d_Mo_decode_93 (lv_at hl 0 rfl) ?_
                        refine lv_iconst (v := 1) hx hb d_Mo_decode_95 (by decide) ?_
                        refine lv_icmp_le (tgt := 112) hx hb d_Mo_decode_96 (by decide) (fun c_96 => ?_) (fun c_96 => ?_)
                        · refine lv_iload hx hb d_Mo_decode_112 (lv_at hl 0 rfl) ?_
                          refine lv_if_ne (tgt := 122) hx hb d_Mo_decode_114 (by decide) (fun c_114 => ?_) (fun c_114 => ?_)
                          · refine lv_iload hx hb d_Mo_decode_122 (lv_at hl 0 rfl) ?_
                            refine lv_iconst (v := 1) hx hb d_Mo_decode_124 (by decide) ?_
                            refine lv_icmp_ne (tgt := 137) hx hb d_Mo_decode_125 (by decide) (fun c_125 => ?_) (fun c_125 => ?_)
                            · exact absurd c_125 (by decide)
                            · refine lv_iload hx hb d_Mo_decode_128 (lv_at hl 1 rfl) ?_
                              refine lv_sipush (v := 192) hx hb d_Mo_decode_130 (by decide) ?_
                              refine lv_isub hx hb d_Mo_decode_133 ?_
                              refine x_topi (y := nI ((n_at gt a) - 192)) (by rw [show (192 : Int32) = nI 192 by decide]; exact pk_sub (by omega)) ?_
                              refine lv_goto (tgt := 143) hx hb d_Mo_decode_134 (by decide) ?_
                              refine lv_istore (lv' := [(6, .int (nI ((n_at gt a) - 192))), (5, .int 1), (4, .int (nI (n_at gt a))), (3, .int (nI a)), (2, .int (nI q)), (0, .ref a0), (1, .int (nI z))]) hx hb d_Mo_decode_143 hl (by decide) rfl (fun ls hl => ?_)
                              refine lv_iconst (v := 1) hx hb d_Mo_decode_145 (by decide) ?_
                              refine lv_istore (lv' := [(7, .int 1), (6, .int (nI ((n_at gt a) - 192))), (5, .int 1), (4, .int (nI (n_at gt a))), (3, .int (nI a)), (2, .int (nI q)), (0, .ref a0), (1, .int (nI z))]) hx hb d_Mo_decode_146 hl (by decide) rfl (fun ls hl => ?_)
                              refine lv_iload hx hb d_Mo_decode_148 (lv_at hl 0 rfl) ?_
                              refine lv_iload hx hb d_Mo_decode_150 (lv_at hl 2 rfl) ?_
                              refine lv_icmp_gt (tgt := 182) hx hb d_Mo_decode_152 (by decide) (fun c_152 => ?_) (fun c_152 => ?_)
                              · exact absurd c_152 (by decide)
                              · have hbj := n_at_le hg (show a + 1 < z by omega) (by decide)
                                refine lv_iload hx hb d_Mo_decode_155 (lv_at hl 1 rfl) ?_
                                refine lv_bipush (v := 64) hx hb d_Mo_decode_157 (by decide) ?_
                                refine lv_imul hx hb d_Mo_decode_159 ?_
                                refine x_topi (y := nI (((n_at gt a) - 192) * 64)) (by rw [show (64 : Int32) = nI 64 by decide]; exact pk_mul _ _) ?_
                                refine lv_aload_n hx hb d_Mo_decode_160 rfl (lv_at hl 6 rfl) ?_
                                refine va_get (D := D) (ci := 4) (v := .ref ag) (C := R_Mo) (T := F_Mo) (N := 18) hx hb hW in_Mo hown hK hP 0 rfl rfl 16 (by decide) (hW _ mw_580) (fun _ h9 => h9) rfl d_Mo_decode_161 ?_
                                refine lv_iload_n hx hb d_Mo_decode_164 rfl (lv_at hl 4 rfl) ?_
                                refine lv_iload hx hb d_Mo_decode_165 (lv_at hl 0 rfl) ?_
                                refine lv_iadd hx hb d_Mo_decode_167 ?_
                                refine x_topi (y := nI (a + 1)) (nI_1 _) ?_
                                refine va_iald (D := D) hx hb hK hP 4 0 rfl rfl (vp_in_nI (by omega) (by decide)) d_Mo_decode_168 ?_
                                refine x_topi (y := gt (a + 1)) (by rw [nI_clamp (by omega)]) ?_
                                refine x_topi (y := nI (n_at gt (a + 1))) (n_at_eq hg (by omega)) ?_
                                refine lv_iadd hx hb d_Mo_decode_169 ?_
                                refine x_topi (y := nI ((((n_at gt a) - 192) * 64) + (n_at gt (a + 1)))) (nI_add _ _) ?_
                                refine lv_sipush (v := 128) hx hb d_Mo_decode_170 (by decide) ?_
                                refine lv_isub hx hb d_Mo_decode_173 ?_
                                refine x_topi (y := nI (((((n_at gt a) - 192) * 64) + (n_at gt (a + 1))) - 128)) (by rw [show (128 : Int32) = nI 128 by decide]; exact pk_sub (by omega)) ?_
                                refine lv_istore (lv' := [(6, .int (nI (((((n_at gt a) - 192) * 64) + (n_at gt (a + 1))) - 128))), (7, .int 1), (5, .int 1), (4, .int (nI (n_at gt a))), (3, .int (nI a)), (2, .int (nI q)), (0, .ref a0), (1, .int (nI z))]) hx hb d_Mo_decode_174 hl (by decide) rfl (fun ls hl => ?_)
                                refine lv_iinc (v := 2) (lv' := [(7, .int 2), (6, .int (nI (((((n_at gt a) - 192) * 64) + (n_at gt (a + 1))) - 128))), (5, .int 1), (4, .int (nI (n_at gt a))), (3, .int (nI a)), (2, .int (nI q)), (0, .ref a0), (1, .int (nI z))]) hx hb d_Mo_decode_176 hl (k := 1) rfl (by decide) (by decide) rfl (fun ls hl => ?_)
                                refine lv_goto (tgt := 148) hx hb d_Mo_decode_179 (by decide) ?_
                                refine lv_iload hx hb d_Mo_decode_148 (lv_at hl 0 rfl) ?_
                                refine lv_iload hx hb d_Mo_decode_150 (lv_at hl 2 rfl) ?_
                                refine lv_icmp_gt (tgt := 182) hx hb d_Mo_decode_152 (by decide) (fun c_152 => ?_) (fun c_152 => ?_)
                                · have hv : dc (n_at gt) a (szb (n_at gt a)) = some (((((n_at gt a) - 192) * 64) + (n_at gt (a + 1))) - 128) := by rw [hsz]; exact dc_2 (by omega) (by omega)
                                  refine lv_aload_n hx hb d_Mo_decode_182 rfl (lv_at hl 6 rfl) ?_
                                  refine va_get (D := D) (ci := 4) (v := .ref am) (C := R_Mo) (T := F_Mo) (N := 18) hx hb hW in_Mo hown hK hP 0 rfl rfl 17 (by decide) (hW _ mw_581) (fun _ h9 => h9) rfl d_Mo_decode_183 ?_
                                  refine lv_iload_n hx hb d_Mo_decode_186 rfl (lv_at hl 5 rfl) ?_
                                  refine lv_iload hx hb d_Mo_decode_187 (lv_at hl 1 rfl) ?_
                                  refine va_iast (D := D) hx hb hK hP hD hS 5 0 rfl rfl (vp_in_nI (by omega) (by decide)) d_Mo_decode_189 (fun H locs hP hD hS => ?_)
                                  rw [nI_clamp (by omega)] at hP hD
                                  have hP : va_P D vwCl [(a0, .inr (4, [.ref al, .int (nI o.2.1), .ref aw, .int (nI o.2.2.2.1), .int (bI o.2.2.2.2), .ref ac, .int (nI c.1), .int (nI c.2.1), .int c.2.2.1, .int (bI c.2.2.2), .int (bI b), .int k, .int (nI t.1), .int (nI t.2.1), .int t.2.2, .int (nI en), .ref ag, .ref am])), (al, .inl (cI, 1600, .inl o.1)), (aw, .inl (cI, 1024, .inl o.2.2.1)), (ac, .inl (cI, 40, .inl f)), (ag, .inl (cI, 1600, .inl gt)), (am, .inl (cI, 40, .inl (upd d q (nI (((((n_at gt a) - 192) * 64) + (n_at gt (a + 1))) - 128)))))] H := hP
                                  have hD : va_D A [(a0, .inr (4, [.ref al, .int (nI o.2.1), .ref aw, .int (nI o.2.2.2.1), .int (bI o.2.2.2.2), .ref ac, .int (nI c.1), .int (nI c.2.1), .int c.2.2.1, .int (bI c.2.2.2), .int (bI b), .int k, .int (nI t.1), .int (nI t.2.1), .int t.2.2, .int (nI en), .ref ag, .ref am])), (al, .inl (cI, 1600, .inl o.1)), (aw, .inl (cI, 1024, .inl o.2.2.1)), (ac, .inl (cI, 40, .inl f)), (ag, .inl (cI, 1600, .inl gt)), (am, .inl (cI, 40, .inl (upd d q (nI (((((n_at gt a) - 192) * 64) + (n_at gt (a + 1))) - 128)))))] := hD
                                  refine lv_iinc (v := nI (q + 1)) (lv' := [(2, .int (nI (q + 1))), (7, .int 2), (6, .int (nI (((((n_at gt a) - 192) * 64) + (n_at gt (a + 1))) - 128))), (5, .int 1), (4, .int (nI (n_at gt a))), (3, .int (nI a)), (0, .ref a0), (1, .int (nI z))]) hx hb d_Mo_decode_190 hl (k := 5) rfl (nI_1 _) (by decide) rfl (fun ls hl => ?_)
                                  refine lv_iload_n hx hb d_Mo_decode_193 rfl (lv_at hl 5 rfl) ?_
                                  refine lv_iload hx hb d_Mo_decode_194 (lv_at hl 3 rfl) ?_
                                  refine lv_iconst (v := 1) hx hb d_Mo_decode_196 (by decide) ?_
                                  refine lv_iadd hx hb d_Mo_decode_197 ?_
                                  refine x_topi (y := nI 2) (by decide) ?_
                                  refine lv_iadd hx hb d_Mo_decode_198 ?_
                                  refine x_topi (y := nI (a + 2)) (nI_add _ _) ?_
                                  refine lv_istore_n (lv' := [(3, .int (nI (a + 2))), (2, .int (nI (q + 1))), (7, .int 2), (6, .int (nI (((((n_at gt a) - 192) * 64) + (n_at gt (a + 1))) - 128))), (5, .int 1), (4, .int (nI (n_at gt a))), (0, .ref a0), (1, .int (nI z))]) hx hb d_Mo_decode_199 rfl hl (by decide) rfl (fun ls hl => ?_)
                                  refine lv_goto (tgt := 4) hx hb d_Mo_decode_200 (by decide) ?_
                                  exact ih (f9 - 1) (q + 1) (a + 2) (upd d q (nI (((((n_at gt a) - 192) * 64) + (n_at gt (a + 1))) - 128))) (by omega) (by omega) (by omega) (by rw [← he, td_some (by omega) c_6 (by omega) hv, hsz]) (by omega) H locs (hP.sub [0, 1, 2, 3, 4, 5] rfl) (hD.sub [0, 1, 2, 3, 4, 5] (by decide) rfl) hS ls (lv_sub hl [0, 1, 6, 7] rfl)
                                · exact absurd c_152 (by decide)
                          · exact absurd c_114 (by decide)
                        · exact absurd c_96 (by decide)
                  · replace c_72 := (cg_eq q 40 rfl rfl (by omega) (by omega)).mp c_72
                    refine lv_iconst (v := -1) hx hb d_Mo_decode_75 (by decide) ?_
                    exact W.iret (v := -1) hx hb hr (fun t9 ht9 hW9 => ⟨⟨-1, (d : (Nat → Int32)), rfl, by rw [← he, td_bad (by omega) c_6 (by omega)]; exact ⟨rfl, rfl⟩, by rw [ht9]; exact hP.sub [0, 1, 2, 3, 4, 5] rfl, va_K.moved hW9.alike hK, hD.sub [0, 1, 2, 3, 4, 5] (by decide) rfl⟩, hS.F ht9⟩) hS.2.2 d_Mo_decode_76
            · replace c_42 := mt (cg_le (n_at gt a) 239 rfl rfl (by omega) (by omega)).mpr c_42
              refine lv_iconst (v := -1) hx hb d_Mo_decode_45 (by decide) ?_
              refine lv_goto (tgt := 62) hx hb d_Mo_decode_46 (by decide) ?_
              refine lv_istore (lv' := [(5, .int (-1)), (4, .int (nI (n_at gt a))), (3, .int (nI a)), (2, .int (nI q)), (0, .ref a0), (1, .int (nI z))]) hx hb d_Mo_decode_62 hl (by decide) rfl (fun ls hl => ?_)
              have hsz : szb (n_at gt a) = 0 := by rw [szb, if_neg (by omega), if_pos (by omega)]
              refine lv_iload hx hb d_Mo_decode_64 (lv_at hl 0 rfl) ?_
              refine lv_if_lt (tgt := 75) hx hb d_Mo_decode_66 (by decide) (fun c_66 => ?_) (fun c_66 => ?_)
              · refine lv_iconst (v := -1) hx hb d_Mo_decode_75 (by decide) ?_
                exact W.iret (v := -1) hx hb hr (fun t9 ht9 hW9 => ⟨⟨-1, (d : (Nat → Int32)), rfl, by rw [← he, td_bad (by omega) c_6 (by omega)]; exact ⟨rfl, rfl⟩, by rw [ht9]; exact hP.sub [0, 1, 2, 3, 4, 5] rfl, va_K.moved hW9.alike hK, hD.sub [0, 1, 2, 3, 4, 5] (by decide) rfl⟩, hS.F ht9⟩) hS.2.2 d_Mo_decode_76
              · exact absurd c_66 (by decide)
        · replace c_22 := mt (cg_le 128 (n_at gt a) rfl rfl (by omega) (by omega)).mpr c_22
          refine lv_iconst (v := 0) hx hb d_Mo_decode_25 (by decide) ?_
          refine lv_goto (tgt := 62) hx hb d_Mo_decode_26 (by decide) ?_
          refine lv_istore (lv' := [(5, .int 0), (4, .int (nI (n_at gt a))), (3, .int (nI a)), (2, .int (nI q)), (0, .ref a0), (1, .int (nI z))]) hx hb d_Mo_decode_62 hl (by decide) rfl (fun ls hl => ?_)
          have hsz : szb (n_at gt a) = 1 := by rw [szb, if_pos (by omega)]
          refine lv_iload hx hb d_Mo_decode_64 (lv_at hl 0 rfl) ?_
          refine lv_if_lt (tgt := 75) hx hb d_Mo_decode_66 (by decide) (fun c_66 => ?_) (fun c_66 => ?_)
          · exact absurd c_66 (by decide)
          · refine lv_iload_n hx hb d_Mo_decode_69 rfl (lv_at hl 3 rfl) ?_
            refine lv_bipush (v := 40) hx hb d_Mo_decode_70 (by decide) ?_
            refine lv_icmp_ne (tgt := 77) hx hb d_Mo_decode_72 (by decide) (fun c_72 => ?_) (fun c_72 => ?_)
            · replace c_72 := mt (cg_eq q 40 rfl rfl (by omega) (by omega)).mpr c_72
              refine lv_iload hx hb d_Mo_decode_77 (lv_at hl 0 rfl) ?_
              refine lv_if_le (tgt := 93) hx hb d_Mo_decode_79 (by decide) (fun c_79 => ?_) (fun c_79 => ?_)
              · refine lv_iload hx hb d_Mo_decode_93 (lv_at hl 0 rfl) ?_
                refine lv_iconst (v := 1) hx hb d_Mo_decode_95 (by decide) ?_
                refine lv_icmp_le (tgt := 112) hx hb d_Mo_decode_96 (by decide) (fun c_96 => ?_) (fun c_96 => ?_)
                · refine lv_iload hx hb d_Mo_decode_112 (lv_at hl 0 rfl) ?_
                  refine lv_if_ne (tgt := 122) hx hb d_Mo_decode_114 (by decide) (fun c_114 => ?_) (fun c_114 => ?_)
                  · exact absurd c_114 (by decide)
                  · refine lv_iload hx hb d_Mo_decode_117 (lv_at hl 1 rfl) ?_
                    refine lv_goto (tgt := 143) hx hb d_Mo_decode_119 (by decide) ?_
                    refine lv_istore (lv' := [(6, .int (nI (n_at gt a))), (5, .int 0), (4, .int (nI (n_at gt a))), (3, .int (nI a)), (2, .int (nI q)), (0, .ref a0), (1, .int (nI z))]) hx hb d_Mo_decode_143 hl (by decide) rfl (fun ls hl => ?_)
                    refine lv_iconst (v := 1) hx hb d_Mo_decode_145 (by decide) ?_
                    refine lv_istore (lv' := [(7, .int 1), (6, .int (nI (n_at gt a))), (5, .int 0), (4, .int (nI (n_at gt a))), (3, .int (nI a)), (2, .int (nI q)), (0, .ref a0), (1, .int (nI z))]) hx hb d_Mo_decode_146 hl (by decide) rfl (fun ls hl => ?_)
                    refine lv_iload hx hb d_Mo_decode_148 (lv_at hl 0 rfl) ?_
                    refine lv_iload hx hb d_Mo_decode_150 (lv_at hl 2 rfl) ?_
                    refine lv_icmp_gt (tgt := 182) hx hb d_Mo_decode_152 (by decide) (fun c_152 => ?_) (fun c_152 => ?_)
                    · have hv : dc (n_at gt) a (szb (n_at gt a)) = some (n_at gt a) := by rw [hsz]; exact dc_1
                      refine lv_aload_n hx hb d_Mo_decode_182 rfl (lv_at hl 6 rfl) ?_
                      refine va_get (D := D) (ci := 4) (v := .ref am) (C := R_Mo) (T := F_Mo) (N := 18) hx hb hW in_Mo hown hK hP 0 rfl rfl 17 (by decide) (hW _ mw_581) (fun _ h9 => h9) rfl d_Mo_decode_183 ?_
                      refine lv_iload_n hx hb d_Mo_decode_186 rfl (lv_at hl 5 rfl) ?_
                      refine lv_iload hx hb d_Mo_decode_187 (lv_at hl 1 rfl) ?_
                      refine va_iast (D := D) hx hb hK hP hD hS 5 0 rfl rfl (vp_in_nI (by omega) (by decide)) d_Mo_decode_189 (fun H locs hP hD hS => ?_)
                      rw [nI_clamp (by omega)] at hP hD
                      have hP : va_P D vwCl [(a0, .inr (4, [.ref al, .int (nI o.2.1), .ref aw, .int (nI o.2.2.2.1), .int (bI o.2.2.2.2), .ref ac, .int (nI c.1), .int (nI c.2.1), .int c.2.2.1, .int (bI c.2.2.2), .int (bI b), .int k, .int (nI t.1), .int (nI t.2.1), .int t.2.2, .int (nI en), .ref ag, .ref am])), (al, .inl (cI, 1600, .inl o.1)), (aw, .inl (cI, 1024, .inl o.2.2.1)), (ac, .inl (cI, 40, .inl f)), (ag, .inl (cI, 1600, .inl gt)), (am, .inl (cI, 40, .inl (upd d q (nI (n_at gt a)))))] H := hP
                      have hD : va_D A [(a0, .inr (4, [.ref al, .int (nI o.2.1), .ref aw, .int (nI o.2.2.2.1), .int (bI o.2.2.2.2), .ref ac, .int (nI c.1), .int (nI c.2.1), .int c.2.2.1, .int (bI c.2.2.2), .int (bI b), .int k, .int (nI t.1), .int (nI t.2.1), .int t.2.2, .int (nI en), .ref ag, .ref am])), (al, .inl (cI, 1600, .inl o.1)), (aw, .inl (cI, 1024, .inl o.2.2.1)), (ac, .inl (cI, 40, .inl f)), (ag, .inl (cI, 1600, .inl gt)), (am, .inl (cI, 40, .inl (upd d q (nI (n_at gt a)))))] := hD
                      refine lv_iinc (v := nI (q + 1)) (lv' := [(2, .int (nI (q + 1))), (7, .int 1), (6, .int (nI (n_at gt a))), (5, .int 0), (4, .int (nI (n_at gt a))), (3, .int (nI a)), (0, .ref a0), (1, .int (nI z))]) hx hb d_Mo_decode_190 hl (k := 5) rfl (nI_1 _) (by decide) rfl (fun ls hl => ?_)
                      refine lv_iload_n hx hb d_Mo_decode_193 rfl (lv_at hl 5 rfl) ?_
                      refine lv_iload hx hb d_Mo_decode_194 (lv_at hl 3 rfl) ?_
                      refine lv_iconst (v := 1) hx hb d_Mo_decode_196 (by decide) ?_
                      refine lv_iadd hx hb d_Mo_decode_197 ?_
                      refine x_topi (y := nI 1) (by decide) ?_
                      refine lv_iadd hx hb d_Mo_decode_198 ?_
                      refine x_topi (y := nI (a + 1)) (nI_add _ _) ?_
                      refine lv_istore_n (lv' := [(3, .int (nI (a + 1))), (2, .int (nI (q + 1))), (7, .int 1), (6, .int (nI (n_at gt a))), (5, .int 0), (4, .int (nI (n_at gt a))), (0, .ref a0), (1, .int (nI z))]) hx hb d_Mo_decode_199 rfl hl (by decide) rfl (fun ls hl => ?_)
                      refine lv_goto (tgt := 4) hx hb d_Mo_decode_200 (by decide) ?_
                      exact ih (f9 - 1) (q + 1) (a + 1) (upd d q (nI (n_at gt a))) (by omega) (by omega) (by omega) (by rw [← he, td_some (by omega) c_6 (by omega) hv, hsz]) (by omega) H locs (hP.sub [0, 1, 2, 3, 4, 5] rfl) (hD.sub [0, 1, 2, 3, 4, 5] (by decide) rfl) hS ls (lv_sub hl [0, 1, 6, 7] rfl)
                    · exact absurd c_152 (by decide)
                · exact absurd c_96 (by decide)
              · exact absurd c_79 (by decide)
            · replace c_72 := (cg_eq q 40 rfl rfl (by omega) (by omega)).mp c_72
              refine lv_iconst (v := -1) hx hb d_Mo_decode_75 (by decide) ?_
              exact W.iret (v := -1) hx hb hr (fun t9 ht9 hW9 => ⟨⟨-1, (d : (Nat → Int32)), rfl, by rw [← he, td_bad (by omega) c_6 (by omega)]; exact ⟨rfl, rfl⟩, by rw [ht9]; exact hP.sub [0, 1, 2, 3, 4, 5] rfl, va_K.moved hW9.alike hK, hD.sub [0, 1, 2, 3, 4, 5] (by decide) rfl⟩, hS.F ht9⟩) hS.2.2 d_Mo_decode_76
  exact hlp_4 _ (z + 1) 0 0 md (by omega) (by omega) (by omega) rfl (Nat.lt_succ_self _) s.heap [] (hP.sub [0, 1, 2, 3, 4, 5] rfl) (hD.sub [0, 1, 2, 3, 4, 5] (by decide) rfl) hS ls (lv_sub hl [0, 1, 2, 3] rfl)
