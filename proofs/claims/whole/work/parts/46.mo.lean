set_option maxHeartbeats 4000000 in
set_option maxRecDepth 100000 in
theorem k_Mo_beginRead (l : Launch) (D : va_G) (g : GP) (a0 al aw ac ag am : Nat) (cI : ClassId) (o : OS) (c : CS) (f : Nat → Int32) (b : Bool) (k : Int32) (t : T3) (en : Nat) (gt md : Nat → Int32) (sz : Nat) : Met l y_Mo_beginRead (.code y_Mo_beginRead c_Mo_beginRead 1 none :: xW) ({ frames := 0, cells := 0, slots := 0, locals := 0 }) (xPc (gZ g) D vwCl [.ref a0] [(a0, .inr (4, [.ref al, .int (nI o.2.1), .ref aw, .int (nI o.2.2.2.1), .int (bI o.2.2.2.2), .ref ac, .int (nI c.1), .int (nI c.2.1), .int c.2.2.1, .int (bI c.2.2.2), .int (bI b), .int k, .int (nI t.1), .int (nI t.2.1), .int t.2.2, .int (nI en), .ref ag, .ref am])), (al, .inl (cI, 1600, .inl o.1)), (aw, .inl (cI, 1024, .inl o.2.2.1)), (ac, .inl (cI, 40, .inl f)), (ag, .inl (cI, 1600, .inl gt)), (am, .inl (cI, 40, .inl md))] [(cI, .int)] sz) (va_Qv (fun (u : Int32 × T3 × Nat) => u = (0, t3 c, 0)) (xB D vwCl [(cI, .int)] (fun u : Int32 × T3 × Nat => [(a0, .inr (4, [.ref al, .int (nI o.2.1), .ref aw, .int (nI o.2.2.2.1), .int (bI o.2.2.2.2), .ref ac, .int (nI c.1), .int (nI c.2.1), .int c.2.2.1, .int (bI c.2.2.2), .int (bI b), .int u.1, .int (nI u.2.1.1), .int (nI u.2.1.2.1), .int u.2.1.2.2, .int (nI u.2.2), .ref ag, .ref am])), (al, .inl (cI, 1600, .inl o.1)), (aw, .inl (cI, 1024, .inl o.2.2.1)), (ac, .inl (cI, 40, .inl f)), (ag, .inl (cI, 1600, .inl gt)), (am, .inl (cI, 40, .inl md))]) (va_A [(a0, .inr (4, [.ref al, .int (nI o.2.1), .ref aw, .int (nI o.2.2.2.1), .int (bI o.2.2.2.2), .ref ac, .int (nI c.1), .int (nI c.2.1), .int c.2.2.1, .int (bI c.2.2.2), .int (bI b), .int k, .int (nI t.1), .int (nI t.2.1), .int t.2.2, .int (nI en), .ref ag, .ref am])), (al, .inl (cI, 1600, .inl o.1)), (aw, .inl (cI, 1024, .inl o.2.2.1)), (ac, .inl (cI, 40, .inl f)), (ag, .inl (cI, 1600, .inl gt)), (am, .inl (cI, 40, .inl md))] sz)) (va_A [(a0, .inr (4, [.ref al, .int (nI o.2.1), .ref aw, .int (nI o.2.2.2.1), .int (bI o.2.2.2.2), .ref ac, .int (nI c.1), .int (nI c.2.1), .int c.2.2.1, .int (bI c.2.2.2), .int (bI b), .int k, .int (nI t.1), .int (nI t.2.1), .int t.2.2, .int (nI en), .ref ag, .ref am])), (al, .inl (cI, 1600, .inl o.1)), (aw, .inl (cI, 1024, .inl o.2.2.1)), (ac, .inl (cI, 40, .inl f)), (ag, .inl (cI, 1600, .inl gt)), (am, .inl (cI, 40, .inl md))] sz)) 0 0 (va_A [(a0, .inr (4, [.ref al, .int (nI o.2.1), .ref aw, .int (nI o.2.2.2.1), .int (bI o.2.2.2.2), .ref ac, .int (nI c.1), .int (nI c.2.1), .int c.2.2.1, .int (bI c.2.2.2), .int (bI b), .int k, .int (nI t.1), .int (nI t.2.1), .int t.2.2, .int (nI en), .ref ag, .ref am])), (al, .inl (cI, 1600, .inl o.1)), (aw, .inl (cI, 1024, .inl o.2.2.1)), (ac, .inl (cI, 40, .inl f)), (ag, .inl (cI, 1600, .inl gt)), (am, .inl (cI, 40, .inl md))] sz) := by
  refine x_open (Qc := fun A => va_Qv (fun (u : Int32 × T3 × Nat) => u = (0, t3 c, 0)) (xB D vwCl [(cI, .int)] (fun u : Int32 × T3 × Nat => [(a0, .inr (4, [.ref al, .int (nI o.2.1), .ref aw, .int (nI o.2.2.2.1), .int (bI o.2.2.2.2), .ref ac, .int (nI c.1), .int (nI c.2.1), .int c.2.2.1, .int (bI c.2.2.2), .int (bI b), .int u.1, .int (nI u.2.1.1), .int (nI u.2.1.2.1), .int u.2.1.2.2, .int (nI u.2.2), .ref ag, .ref am])), (al, .inl (cI, 1600, .inl o.1)), (aw, .inl (cI, 1024, .inl o.2.2.1)), (ac, .inl (cI, 40, .inl f)), (ag, .inl (cI, 1600, .inl gt)), (am, .inl (cI, 40, .inl md))]) A) A) (cc := c_Mo_beginRead) (maxL := 1) (ret := none) (own := R_Mo) (by decide) rfl rfl (Nat.le_of_ble_eq_true rfl) ?_
  intro p e s m below meth cd A ls hsz hAe hx hb hr hml hown hts hlk hnm hA hP hK hD hS hZ hl
  clear hsz hAe
  have hW : ∀ w ∈ xW, w.before _ s = true := fun w h => hts w (List.mem_cons_of_mem _ h)
  have hl : lv_has ls 1 [(0, .ref a0)] := hl
  refine lv_aload_n hx hb d_Mo_beginRead_0 rfl (lv_at hl 0 rfl) ?_
  refine lv_iconst (v := 0) hx hb d_Mo_beginRead_1 (by decide) ?_
  refine va_put (D := D) (ci := 4) (v := .int 0) (ty := .int) (C := R_Mo) (T := F_Mo) (N := 18) hx hb hW in_Mo t_Mo t_Mo_ok nm_Mo hown hK hP hD hS 0 rfl rfl 11 (by decide) (hW _ mw_575) (fun _ h9 => h9) rfl (by decide +kernel) (rfl) (rfl) (Nat.le_of_ble_eq_true rfl) d_Mo_beginRead_2 (fun H locs hP hD hS => ?_)
  have hP : va_P D vwCl [(a0, .inr (4, [.ref al, .int (nI o.2.1), .ref aw, .int (nI o.2.2.2.1), .int (bI o.2.2.2.2), .ref ac, .int (nI c.1), .int (nI c.2.1), .int c.2.2.1, .int (bI c.2.2.2), .int (bI b), .int 0, .int (nI t.1), .int (nI t.2.1), .int t.2.2, .int (nI en), .ref ag, .ref am])), (al, .inl (cI, 1600, .inl o.1)), (aw, .inl (cI, 1024, .inl o.2.2.1)), (ac, .inl (cI, 40, .inl f)), (ag, .inl (cI, 1600, .inl gt)), (am, .inl (cI, 40, .inl md))] H := hP
  have hD : va_D A [(a0, .inr (4, [.ref al, .int (nI o.2.1), .ref aw, .int (nI o.2.2.2.1), .int (bI o.2.2.2.2), .ref ac, .int (nI c.1), .int (nI c.2.1), .int c.2.2.1, .int (bI c.2.2.2), .int (bI b), .int 0, .int (nI t.1), .int (nI t.2.1), .int t.2.2, .int (nI en), .ref ag, .ref am])), (al, .inl (cI, 1600, .inl o.1)), (aw, .inl (cI, 1024, .inl o.2.2.1)), (ac, .inl (cI, 40, .inl f)), (ag, .inl (cI, 1600, .inl gt)), (am, .inl (cI, 40, .inl md))] := hD
  refine lv_aload_n hx hb d_Mo_beginRead_5 rfl (lv_at hl 0 rfl) ?_
  refine lv_aload_n hx hb d_Mo_beginRead_6 rfl (lv_at hl 0 rfl) ?_
  refine va_get (D := D) (ci := 4) (v := .int (nI c.1)) (C := R_Mo) (T := F_Mo) (N := 18) hx hb hW in_Mo hown hK hP 0 rfl rfl 6 (by decide) (hW _ mw_570) (fun _ h9 => h9) rfl d_Mo_beginRead_7 ?_
  refine va_put (D := D) (ci := 4) (v := .int (nI c.1)) (ty := .int) (C := R_Mo) (T := F_Mo) (N := 18) hx hb hW in_Mo t_Mo t_Mo_ok nm_Mo hown hK hP hD hS 0 rfl rfl 12 (by decide) (hW _ mw_576) (fun _ h9 => h9) rfl (by decide +kernel) (rfl) (rfl) (Nat.le_of_ble_eq_true rfl) d_Mo_beginRead_10 (fun H locs hP hD hS => ?_)
  have hP : va_P D vwCl [(a0, .inr (4, [.ref al, .int (nI o.2.1), .ref aw, .int (nI o.2.2.2.1), .int (bI o.2.2.2.2), .ref ac, .int (nI c.1), .int (nI c.2.1), .int c.2.2.1, .int (bI c.2.2.2), .int (bI b), .int 0, .int (nI c.1), .int (nI t.2.1), .int t.2.2, .int (nI en), .ref ag, .ref am])), (al, .inl (cI, 1600, .inl o.1)), (aw, .inl (cI, 1024, .inl o.2.2.1)), (ac, .inl (cI, 40, .inl f)), (ag, .inl (cI, 1600, .inl gt)), (am, .inl (cI, 40, .inl md))] H := hP
  have hD : va_D A [(a0, .inr (4, [.ref al, .int (nI o.2.1), .ref aw, .int (nI o.2.2.2.1), .int (bI o.2.2.2.2), .ref ac, .int (nI c.1), .int (nI c.2.1), .int c.2.2.1, .int (bI c.2.2.2), .int (bI b), .int 0, .int (nI c.1), .int (nI t.2.1), .int t.2.2, .int (nI en), .ref ag, .ref am])), (al, .inl (cI, 1600, .inl o.1)), (aw, .inl (cI, 1024, .inl o.2.2.1)), (ac, .inl (cI, 40, .inl f)), (ag, .inl (cI, 1600, .inl gt)), (am, .inl (cI, 40, .inl md))] := hD
  refine lv_aload_n hx hb d_Mo_beginRead_13 rfl (lv_at hl 0 rfl) ?_
  refine lv_aload_n hx hb d_Mo_beginRead_14 rfl (lv_at hl 0 rfl) ?_
  refine va_get (D := D) (ci := 4) (v := .int (nI c.2.1)) (C := R_Mo) (T := F_Mo) (N := 18) hx hb hW in_Mo hown hK hP 0 rfl rfl 7 (by decide) (hW _ mw_571) (fun _ h9 => h9) rfl d_Mo_beginRead_15 ?_
  refine va_put (D := D) (ci := 4) (v := .int (nI c.2.1)) (ty := .int) (C := R_Mo) (T := F_Mo) (N := 18) hx hb hW in_Mo t_Mo t_Mo_ok nm_Mo hown hK hP hD hS 0 rfl rfl 13 (by decide) (hW _ mw_577) (fun _ h9 => h9) rfl (by decide +kernel) (rfl) (rfl) (Nat.le_of_ble_eq_true rfl) d_Mo_beginRead_18 (fun H locs hP hD hS => ?_)
  have hP : va_P D vwCl [(a0, .inr (4, [.ref al, .int (nI o.2.1), .ref aw, .int (nI o.2.2.2.1), .int (bI o.2.2.2.2), .ref ac, .int (nI c.1), .int (nI c.2.1), .int c.2.2.1, .int (bI c.2.2.2), .int (bI b), .int 0, .int (nI c.1), .int (nI c.2.1), .int t.2.2, .int (nI en), .ref ag, .ref am])), (al, .inl (cI, 1600, .inl o.1)), (aw, .inl (cI, 1024, .inl o.2.2.1)), (ac, .inl (cI, 40, .inl f)), (ag, .inl (cI, 1600, .inl gt)), (am, .inl (cI, 40, .inl md))] H := hP
  have hD : va_D A [(a0, .inr (4, [.ref al, .int (nI o.2.1), .ref aw, .int (nI o.2.2.2.1), .int (bI o.2.2.2.2), .ref ac, .int (nI c.1), .int (nI c.2.1), .int c.2.2.1, .int (bI c.2.2.2), .int (bI b), .int 0, .int (nI c.1), .int (nI c.2.1), .int t.2.2, .int (nI en), .ref ag, .ref am])), (al, .inl (cI, 1600, .inl o.1)), (aw, .inl (cI, 1024, .inl o.2.2.1)), (ac, .inl (cI, 40, .inl f)), (ag, .inl (cI, 1600, .inl gt)), (am, .inl (cI, 40, .inl md))] := hD
  refine lv_aload_n hx hb d_Mo_beginRead_21 rfl (lv_at hl 0 rfl) ?_
  refine lv_aload_n hx hb d_Mo_beginRead_22 rfl (lv_at hl 0 rfl) ?_
  refine va_get (D := D) (ci := 4) (v := .int c.2.2.1) (C := R_Mo) (T := F_Mo) (N := 18) hx hb hW in_Mo hown hK hP 0 rfl rfl 8 (by decide) (hW _ mw_572) (fun _ h9 => h9) rfl d_Mo_beginRead_23 ?_
  refine va_put (D := D) (ci := 4) (v := .int c.2.2.1) (ty := .int) (C := R_Mo) (T := F_Mo) (N := 18) hx hb hW in_Mo t_Mo t_Mo_ok nm_Mo hown hK hP hD hS 0 rfl rfl 14 (by decide) (hW _ mw_578) (fun _ h9 => h9) rfl (by decide +kernel) (rfl) (rfl) (Nat.le_of_ble_eq_true rfl) d_Mo_beginRead_26 (fun H locs hP hD hS => ?_)
  have hP : va_P D vwCl [(a0, .inr (4, [.ref al, .int (nI o.2.1), .ref aw, .int (nI o.2.2.2.1), .int (bI o.2.2.2.2), .ref ac, .int (nI c.1), .int (nI c.2.1), .int c.2.2.1, .int (bI c.2.2.2), .int (bI b), .int 0, .int (nI c.1), .int (nI c.2.1), .int c.2.2.1, .int (nI en), .ref ag, .ref am])), (al, .inl (cI, 1600, .inl o.1)), (aw, .inl (cI, 1024, .inl o.2.2.1)), (ac, .inl (cI, 40, .inl f)), (ag, .inl (cI, 1600, .inl gt)), (am, .inl (cI, 40, .inl md))] H := hP
  have hD : va_D A [(a0, .inr (4, [.ref al, .int (nI o.2.1), .ref aw, .int (nI o.2.2.2.1), .int (bI o.2.2.2.2), .ref ac, .int (nI c.1), .int (nI c.2.1), .int c.2.2.1, .int (bI c.2.2.2), .int (bI b), .int 0, .int (nI c.1), .int (nI c.2.1), .int c.2.2.1, .int (nI en), .ref ag, .ref am])), (al, .inl (cI, 1600, .inl o.1)), (aw, .inl (cI, 1024, .inl o.2.2.1)), (ac, .inl (cI, 40, .inl f)), (ag, .inl (cI, 1600, .inl gt)), (am, .inl (cI, 40, .inl md))] := hD
  refine lv_aload_n hx hb d_Mo_beginRead_29 rfl (lv_at hl 0 rfl) ?_
  refine lv_iconst (v := 0) hx hb d_Mo_beginRead_30 (by decide) ?_
  refine x_topi (y := nI 0) (by decide) ?_
  refine va_put (D := D) (ci := 4) (v := .int (nI 0)) (ty := .int) (C := R_Mo) (T := F_Mo) (N := 18) hx hb hW in_Mo t_Mo t_Mo_ok nm_Mo hown hK hP hD hS 0 rfl rfl 15 (by decide) (hW _ mw_579) (fun _ h9 => h9) rfl (by decide +kernel) (rfl) (rfl) (Nat.le_of_ble_eq_true rfl) d_Mo_beginRead_31 (fun H locs hP hD hS => ?_)
  have hP : va_P D vwCl [(a0, .inr (4, [.ref al, .int (nI o.2.1), .ref aw, .int (nI o.2.2.2.1), .int (bI o.2.2.2.2), .ref ac, .int (nI c.1), .int (nI c.2.1), .int c.2.2.1, .int (bI c.2.2.2), .int (bI b), .int 0, .int (nI c.1), .int (nI c.2.1), .int c.2.2.1, .int (nI 0), .ref ag, .ref am])), (al, .inl (cI, 1600, .inl o.1)), (aw, .inl (cI, 1024, .inl o.2.2.1)), (ac, .inl (cI, 40, .inl f)), (ag, .inl (cI, 1600, .inl gt)), (am, .inl (cI, 40, .inl md))] H := hP
  have hD : va_D A [(a0, .inr (4, [.ref al, .int (nI o.2.1), .ref aw, .int (nI o.2.2.2.1), .int (bI o.2.2.2.2), .ref ac, .int (nI c.1), .int (nI c.2.1), .int c.2.2.1, .int (bI c.2.2.2), .int (bI b), .int 0, .int (nI c.1), .int (nI c.2.1), .int c.2.2.1, .int (nI 0), .ref ag, .ref am])), (al, .inl (cI, 1600, .inl o.1)), (aw, .inl (cI, 1024, .inl o.2.2.1)), (ac, .inl (cI, 40, .inl f)), (ag, .inl (cI, 1600, .inl gt)), (am, .inl (cI, 40, .inl md))] := hD
  exact W.vret hx hb hr (fun t9 ht9 hW9 => ⟨⟨((0, (c.1, c.2.1, c.2.2.1), 0) : Int32 × T3 × Nat), rfl, rfl, by rw [ht9]; exact hP.sub [0, 1, 2, 3, 4, 5] rfl, va_K.moved hW9.alike hK, hD.sub [0, 1, 2, 3, 4, 5] (by decide) rfl⟩, hS.F ht9⟩) hS.2.2 d_Mo_beginRead_34
set_option maxHeartbeats 4000000 in
set_option maxRecDepth 100000 in
theorem k_Mo_keep (l : Launch) (D : va_G) (g : GP) (a0 al aw ac ag am : Nat) (cI : ClassId) (o : OS) (c : CS) (f : Nat → Int32) (b : Bool) (k : Int32) (t : T3) (en : Nat) (gt md : Nat → Int32) (sz : Nat) : Met l y_Mo_keep (.code y_Mo_keep c_Mo_keep 1 none :: xW) ({ frames := 0, cells := 0, slots := 0, locals := 0 }) (xPc (gZ g) D vwCl [.ref a0] [(a0, .inr (4, [.ref al, .int (nI o.2.1), .ref aw, .int (nI o.2.2.2.1), .int (bI o.2.2.2.2), .ref ac, .int (nI c.1), .int (nI c.2.1), .int c.2.2.1, .int (bI c.2.2.2), .int (bI b), .int k, .int (nI t.1), .int (nI t.2.1), .int t.2.2, .int (nI en), .ref ag, .ref am])), (al, .inl (cI, 1600, .inl o.1)), (aw, .inl (cI, 1024, .inl o.2.2.1)), (ac, .inl (cI, 40, .inl f)), (ag, .inl (cI, 1600, .inl gt)), (am, .inl (cI, 40, .inl md))] [(cI, .int)] sz) (va_Qv (fun (u : CS) => u = (t.1, t.2.1, t.2.2, c.2.2.2)) (xB D vwCl [(cI, .int)] (fun u : CS => [(a0, .inr (4, [.ref al, .int (nI o.2.1), .ref aw, .int (nI o.2.2.2.1), .int (bI o.2.2.2.2), .ref ac, .int (nI u.1), .int (nI u.2.1), .int u.2.2.1, .int (bI u.2.2.2), .int (bI b), .int k, .int (nI t.1), .int (nI t.2.1), .int t.2.2, .int (nI en), .ref ag, .ref am])), (al, .inl (cI, 1600, .inl o.1)), (aw, .inl (cI, 1024, .inl o.2.2.1)), (ac, .inl (cI, 40, .inl f)), (ag, .inl (cI, 1600, .inl gt)), (am, .inl (cI, 40, .inl md))]) (va_A [(a0, .inr (4, [.ref al, .int (nI o.2.1), .ref aw, .int (nI o.2.2.2.1), .int (bI o.2.2.2.2), .ref ac, .int (nI c.1), .int (nI c.2.1), .int c.2.2.1, .int (bI c.2.2.2), .int (bI b), .int k, .int (nI t.1), .int (nI t.2.1), .int t.2.2, .int (nI en), .ref ag, .ref am])), (al, .inl (cI, 1600, .inl o.1)), (aw, .inl (cI, 1024, .inl o.2.2.1)), (ac, .inl (cI, 40, .inl f)), (ag, .inl (cI, 1600, .inl gt)), (am, .inl (cI, 40, .inl md))] sz)) (va_A [(a0, .inr (4, [.ref al, .int (nI o.2.1), .ref aw, .int (nI o.2.2.2.1), .int (bI o.2.2.2.2), .ref ac, .int (nI c.1), .int (nI c.2.1), .int c.2.2.1, .int (bI c.2.2.2), .int (bI b), .int k, .int (nI t.1), .int (nI t.2.1), .int t.2.2, .int (nI en), .ref ag, .ref am])), (al, .inl (cI, 1600, .inl o.1)), (aw, .inl (cI, 1024, .inl o.2.2.1)), (ac, .inl (cI, 40, .inl f)), (ag, .inl (cI, 1600, .inl gt)), (am, .inl (cI, 40, .inl md))] sz)) 0 0 (va_A [(a0, .inr (4, [.ref al, .int (nI o.2.1), .ref aw, .int (nI o.2.2.2.1), .int (bI o.2.2.2.2), .ref ac, .int (nI c.1), .int (nI c.2.1), .int c.2.2.1, .int (bI c.2.2.2), .int (bI b), .int k, .int (nI t.1), .int (nI t.2.1), .int t.2.2, .int (nI en), .ref ag, .ref am])), (al, .inl (cI, 1600, .inl o.1)), (aw, .inl (cI, 1024, .inl o.2.2.1)), (ac, .inl (cI, 40, .inl f)), (ag, .inl (cI, 1600, .inl gt)), (am, .inl (cI, 40, .inl md))] sz) := by
  refine x_open (Qc := fun A => va_Qv (fun (u : CS) => u = (t.1, t.2.1, t.2.2, c.2.2.2)) (xB D vwCl [(cI, .int)] (fun u : CS => [(a0, .inr (4, [.ref al, .int (nI o.2.1), .ref aw, .int (nI o.2.2.2.1), .int (bI o.2.2.2.2), .ref ac, .int (nI u.1), .int (nI u.2.1), .int u.2.2.1, .int (bI u.2.2.2), .int (bI b), .int k, .int (nI t.1), .int (nI t.2.1), .int t.2.2, .int (nI en), .ref ag, .ref am])), (al, .inl (cI, 1600, .inl o.1)), (aw, .inl (cI, 1024, .inl o.2.2.1)), (ac, .inl (cI, 40, .inl f)), (ag, .inl (cI, 1600, .inl gt)), (am, .inl (cI, 40, .inl md))]) A) A) (cc := c_Mo_keep) (maxL := 1) (ret := none) (own := R_Mo) (by decide) rfl rfl (Nat.le_of_ble_eq_true rfl) ?_
  intro p e s m below meth cd A ls hsz hAe hx hb hr hml hown hts hlk hnm hA hP hK hD hS hZ hl
  clear hsz hAe
  have hW : ∀ w ∈ xW, w.before _ s = true := fun w h => hts w (List.mem_cons_of_mem _ h)
  have hl : lv_has ls 1 [(0, .ref a0)] := hl
  refine lv_aload_n hx hb d_Mo_keep_0 rfl (lv_at hl 0 rfl) ?_
  refine lv_aload_n hx hb d_Mo_keep_1 rfl (lv_at hl 0 rfl) ?_
  refine va_get (D := D) (ci := 4) (v := .int (nI t.1)) (C := R_Mo) (T := F_Mo) (N := 18) hx hb hW in_Mo hown hK hP 0 rfl rfl 12 (by decide) (hW _ mw_576) (fun _ h9 => h9) rfl d_Mo_keep_2 ?_
  refine va_put (D := D) (ci := 4) (v := .int (nI t.1)) (ty := .int) (C := R_Mo) (T := F_Mo) (N := 18) hx hb hW in_Mo t_Mo t_Mo_ok nm_Mo hown hK hP hD hS 0 rfl rfl 6 (by decide) (hW _ mw_570) (fun _ h9 => h9) rfl (by decide +kernel) (rfl) (rfl) (Nat.le_of_ble_eq_true rfl) d_Mo_keep_5 (fun H locs hP hD hS => ?_)
  have hP : va_P D vwCl [(a0, .inr (4, [.ref al, .int (nI o.2.1), .ref aw, .int (nI o.2.2.2.1), .int (bI o.2.2.2.2), .ref ac, .int (nI t.1), .int (nI c.2.1), .int c.2.2.1, .int (bI c.2.2.2), .int (bI b), .int k, .int (nI t.1), .int (nI t.2.1), .int t.2.2, .int (nI en), .ref ag, .ref am])), (al, .inl (cI, 1600, .inl o.1)), (aw, .inl (cI, 1024, .inl o.2.2.1)), (ac, .inl (cI, 40, .inl f)), (ag, .inl (cI, 1600, .inl gt)), (am, .inl (cI, 40, .inl md))] H := hP
  have hD : va_D A [(a0, .inr (4, [.ref al, .int (nI o.2.1), .ref aw, .int (nI o.2.2.2.1), .int (bI o.2.2.2.2), .ref ac, .int (nI t.1), .int (nI c.2.1), .int c.2.2.1, .int (bI c.2.2.2), .int (bI b), .int k, .int (nI t.1), .int (nI t.2.1), .int t.2.2, .int (nI en), .ref ag, .ref am])), (al, .inl (cI, 1600, .inl o.1)), (aw, .inl (cI, 1024, .inl o.2.2.1)), (ac, .inl (cI, 40, .inl f)), (ag, .inl (cI, 1600, .inl gt)), (am, .inl (cI, 40, .inl md))] := hD
  refine lv_aload_n hx hb d_Mo_keep_8 rfl (lv_at hl 0 rfl) ?_
  refine lv_aload_n hx hb d_Mo_keep_9 rfl (lv_at hl 0 rfl) ?_
  refine va_get (D := D) (ci := 4) (v := .int (nI t.2.1)) (C := R_Mo) (T := F_Mo) (N := 18) hx hb hW in_Mo hown hK hP 0 rfl rfl 13 (by decide) (hW _ mw_577) (fun _ h9 => h9) rfl d_Mo_keep_10 ?_
  refine va_put (D := D) (ci := 4) (v := .int (nI t.2.1)) (ty := .int) (C := R_Mo) (T := F_Mo) (N := 18) hx hb hW in_Mo t_Mo t_Mo_ok nm_Mo hown hK hP hD hS 0 rfl rfl 7 (by decide) (hW _ mw_571) (fun _ h9 => h9) rfl (by decide +kernel) (rfl) (rfl) (Nat.le_of_ble_eq_true rfl) d_Mo_keep_13 (fun H locs hP hD hS => ?_)
  have hP : va_P D vwCl [(a0, .inr (4, [.ref al, .int (nI o.2.1), .ref aw, .int (nI o.2.2.2.1), .int (bI o.2.2.2.2), .ref ac, .int (nI t.1), .int (nI t.2.1), .int c.2.2.1, .int (bI c.2.2.2), .int (bI b), .int k, .int (nI t.1), .int (nI t.2.1), .int t.2.2, .int (nI en), .ref ag, .ref am])), (al, .inl (cI, 1600, .inl o.1)), (aw, .inl (cI, 1024, .inl o.2.2.1)), (ac, .inl (cI, 40, .inl f)), (ag, .inl (cI, 1600, .inl gt)), (am, .inl (cI, 40, .inl md))] H := hP
  have hD : va_D A [(a0, .inr (4, [.ref al, .int (nI o.2.1), .ref aw, .int (nI o.2.2.2.1), .int (bI o.2.2.2.2), .ref ac, .int (nI t.1), .int (nI t.2.1), .int c.2.2.1, .int (bI c.2.2.2), .int (bI b), .int k, .int (nI t.1), .int (nI t.2.1), .int t.2.2, .int (nI en), .ref ag, .ref am])), (al, .inl (cI, 1600, .inl o.1)), (aw, .inl (cI, 1024, .inl o.2.2.1)), (ac, .inl (cI, 40, .inl f)), (ag, .inl (cI, 1600, .inl gt)), (am, .inl (cI, 40, .inl md))] := hD
  refine lv_aload_n hx hb d_Mo_keep_16 rfl (lv_at hl 0 rfl) ?_
  refine lv_aload_n hx hb d_Mo_keep_17 rfl (lv_at hl 0 rfl) ?_
  refine va_get (D := D) (ci := 4) (v := .int t.2.2) (C := R_Mo) (T := F_Mo) (N := 18) hx hb hW in_Mo hown hK hP 0 rfl rfl 14 (by decide) (hW _ mw_578) (fun _ h9 => h9) rfl d_Mo_keep_18 ?_
  refine va_put (D := D) (ci := 4) (v := .int t.2.2) (ty := .int) (C := R_Mo) (T := F_Mo) (N := 18) hx hb hW in_Mo t_Mo t_Mo_ok nm_Mo hown hK hP hD hS 0 rfl rfl 8 (by decide) (hW _ mw_572) (fun _ h9 => h9) rfl (by decide +kernel) (rfl) (rfl) (Nat.le_of_ble_eq_true rfl) d_Mo_keep_21 (fun H locs hP hD hS => ?_)
  have hP : va_P D vwCl [(a0, .inr (4, [.ref al, .int (nI o.2.1), .ref aw, .int (nI o.2.2.2.1), .int (bI o.2.2.2.2), .ref ac, .int (nI t.1), .int (nI t.2.1), .int t.2.2, .int (bI c.2.2.2), .int (bI b), .int k, .int (nI t.1), .int (nI t.2.1), .int t.2.2, .int (nI en), .ref ag, .ref am])), (al, .inl (cI, 1600, .inl o.1)), (aw, .inl (cI, 1024, .inl o.2.2.1)), (ac, .inl (cI, 40, .inl f)), (ag, .inl (cI, 1600, .inl gt)), (am, .inl (cI, 40, .inl md))] H := hP
  have hD : va_D A [(a0, .inr (4, [.ref al, .int (nI o.2.1), .ref aw, .int (nI o.2.2.2.1), .int (bI o.2.2.2.2), .ref ac, .int (nI t.1), .int (nI t.2.1), .int t.2.2, .int (bI c.2.2.2), .int (bI b), .int k, .int (nI t.1), .int (nI t.2.1), .int t.2.2, .int (nI en), .ref ag, .ref am])), (al, .inl (cI, 1600, .inl o.1)), (aw, .inl (cI, 1024, .inl o.2.2.1)), (ac, .inl (cI, 40, .inl f)), (ag, .inl (cI, 1600, .inl gt)), (am, .inl (cI, 40, .inl md))] := hD
  exact W.vret hx hb hr (fun t9 ht9 hW9 => ⟨⟨((t.1, t.2.1, t.2.2, c.2.2.2) : CS), rfl, rfl, by rw [ht9]; exact hP.sub [0, 1, 2, 3, 4, 5] rfl, va_K.moved hW9.alike hK, hD.sub [0, 1, 2, 3, 4, 5] (by decide) rfl⟩, hS.F ht9⟩) hS.2.2 d_Mo_keep_24
set_option maxHeartbeats 4000000 in
set_option maxRecDepth 100000 in
theorem k_Mo_header (l : Launch) (D : va_G) (g : GP) (a0 al aw ac ag am : Nat) (cI : ClassId) (o : OS) (c : CS) (f : Nat → Int32) (b : Bool) (k : Int32) (t : T3) (en : Nat) (gt md : Nat → Int32) (ho : o_ok o) (hby : o_by o) (ht : t.1 ≤ o.2.1) (hen : en = 0) (sz : Nat) : Met l y_Mo_header (.code y_Mo_header c_Mo_header 5 none :: xW) ({ frames := 0, cells := 0, slots := 0, locals := 0 }) (xPc (gZ g) D vwCl [.ref a0] [(a0, .inr (4, [.ref al, .int (nI o.2.1), .ref aw, .int (nI o.2.2.2.1), .int (bI o.2.2.2.2), .ref ac, .int (nI c.1), .int (nI c.2.1), .int c.2.2.1, .int (bI c.2.2.2), .int (bI b), .int k, .int (nI t.1), .int (nI t.2.1), .int t.2.2, .int (nI en), .ref ag, .ref am])), (al, .inl (cI, 1600, .inl o.1)), (aw, .inl (cI, 1024, .inl o.2.2.1)), (ac, .inl (cI, 40, .inl f)), (ag, .inl (cI, 1600, .inl gt)), (am, .inl (cI, 40, .inl md))] [(cI, .int)] sz) (va_Qv (fun (u : T3 × Nat) => u = ((h_st o t).2, (h_st o t).1)) (xB D vwCl [(cI, .int)] (fun u : T3 × Nat => [(a0, .inr (4, [.ref al, .int (nI o.2.1), .ref aw, .int (nI o.2.2.2.1), .int (bI o.2.2.2.2), .ref ac, .int (nI c.1), .int (nI c.2.1), .int c.2.2.1, .int (bI c.2.2.2), .int (bI b), .int k, .int (nI u.1.1), .int (nI u.1.2.1), .int u.1.2.2, .int (nI u.2), .ref ag, .ref am])), (al, .inl (cI, 1600, .inl o.1)), (aw, .inl (cI, 1024, .inl o.2.2.1)), (ac, .inl (cI, 40, .inl f)), (ag, .inl (cI, 1600, .inl gt)), (am, .inl (cI, 40, .inl md))]) (va_A [(a0, .inr (4, [.ref al, .int (nI o.2.1), .ref aw, .int (nI o.2.2.2.1), .int (bI o.2.2.2.2), .ref ac, .int (nI c.1), .int (nI c.2.1), .int c.2.2.1, .int (bI c.2.2.2), .int (bI b), .int k, .int (nI t.1), .int (nI t.2.1), .int t.2.2, .int (nI en), .ref ag, .ref am])), (al, .inl (cI, 1600, .inl o.1)), (aw, .inl (cI, 1024, .inl o.2.2.1)), (ac, .inl (cI, 40, .inl f)), (ag, .inl (cI, 1600, .inl gt)), (am, .inl (cI, 40, .inl md))] sz)) (va_A [(a0, .inr (4, [.ref al, .int (nI o.2.1), .ref aw, .int (nI o.2.2.2.1), .int (bI o.2.2.2.2), .ref ac, .int (nI c.1), .int (nI c.2.1), .int c.2.2.1, .int (bI c.2.2.2), .int (bI b), .int k, .int (nI t.1), .int (nI t.2.1), .int t.2.2, .int (nI en), .ref ag, .ref am])), (al, .inl (cI, 1600, .inl o.1)), (aw, .inl (cI, 1024, .inl o.2.2.1)), (ac, .inl (cI, 40, .inl f)), (ag, .inl (cI, 1600, .inl gt)), (am, .inl (cI, 40, .inl md))] sz)) 0 0 (va_A [(a0, .inr (4, [.ref al, .int (nI o.2.1), .ref aw, .int (nI o.2.2.2.1), .int (bI o.2.2.2.2), .ref ac, .int (nI c.1), .int (nI c.2.1), .int c.2.2.1, .int (bI c.2.2.2), .int (bI b), .int k, .int (nI t.1), .int (nI t.2.1), .int t.2.2, .int (nI en), .ref ag, .ref am])), (al, .inl (cI, 1600, .inl o.1)), (aw, .inl (cI, 1024, .inl o.2.2.1)), (ac, .inl (cI, 40, .inl f)), (ag, .inl (cI, 1600, .inl gt)), (am, .inl (cI, 40, .inl md))] sz) := by
  refine x_open (Qc := fun A => va_Qv (fun (u : T3 × Nat) => u = ((h_st o t).2, (h_st o t).1)) (xB D vwCl [(cI, .int)] (fun u : T3 × Nat => [(a0, .inr (4, [.ref al, .int (nI o.2.1), .ref aw, .int (nI o.2.2.2.1), .int (bI o.2.2.2.2), .ref ac, .int (nI c.1), .int (nI c.2.1), .int c.2.2.1, .int (bI c.2.2.2), .int (bI b), .int k, .int (nI u.1.1), .int (nI u.1.2.1), .int u.1.2.2, .int (nI u.2), .ref ag, .ref am])), (al, .inl (cI, 1600, .inl o.1)), (aw, .inl (cI, 1024, .inl o.2.2.1)), (ac, .inl (cI, 40, .inl f)), (ag, .inl (cI, 1600, .inl gt)), (am, .inl (cI, 40, .inl md))]) A) A) (cc := c_Mo_header) (maxL := 5) (ret := none) (own := R_Mo) (by decide) rfl rfl (Nat.le_of_ble_eq_true rfl) ?_
  intro p e s m below meth cd A ls hsz hAe hx hb hr hml hown hts hlk hnm hA hP hK hD hS hZ hl
  clear hsz hAe
  have hW : ∀ w ∈ xW, w.before _ s = true := fun w h => hts w (List.mem_cons_of_mem _ h)
  have hl : lv_has ls 5 [(0, .ref a0)] := hl
  obtain ⟨ho1, ho2⟩ := id ho
  refine lv_aload_n hx hb d_Mo_header_0 rfl (lv_at hl 0 rfl) ?_
  refine va_get (D := D) (ci := 4) (v := .int (nI t.1)) (C := R_Mo) (T := F_Mo) (N := 18) hx hb hW in_Mo hown hK hP 0 rfl rfl 12 (by decide) (hW _ mw_576) (fun _ h9 => h9) rfl d_Mo_header_1 ?_
  refine lv_aload_n hx hb d_Mo_header_4 rfl (lv_at hl 0 rfl) ?_
  refine va_get (D := D) (ci := 4) (v := .int (nI o.2.1)) (C := R_Mo) (T := F_Mo) (N := 18) hx hb hW in_Mo hown hK hP 0 rfl rfl 1 (by decide) (hW _ mw_565) (fun _ h9 => h9) rfl d_Mo_header_5 ?_
  refine lv_icmp_ge (tgt := 23) hx hb d_Mo_header_8 (by decide) (fun c_8 => ?_) (fun c_8 => ?_)
  · replace c_8 := (cg_le o.2.1 t.1 rfl rfl (by omega) (by omega)).mp c_8
    refine lv_iconst (v := -1) hx hb d_Mo_header_23 (by decide) ?_
    refine lv_istore_n (lv' := [(1, .int (-1)), (0, .ref a0)]) hx hb d_Mo_header_24 rfl hl (by decide) rfl (fun ls hl => ?_)
    refine lv_iload_n hx hb d_Mo_header_25 rfl (lv_at hl 0 rfl) ?_
    refine lv_bipush (v := 121) hx hb d_Mo_header_26 (by decide) ?_
    refine lv_icmp_ne (tgt := 54) hx hb d_Mo_header_28 (by decide) (fun c_28 => ?_) (fun c_28 => ?_)
    · refine lv_iload_n hx hb d_Mo_header_54 rfl (lv_at hl 0 rfl) ?_
      refine lv_bipush (v := 119) hx hb d_Mo_header_55 (by decide) ?_
      refine lv_icmp_eq (tgt := 66) hx hb d_Mo_header_57 (by decide) (fun c_57 => ?_) (fun c_57 => ?_)
      · exact absurd c_57 (by decide)
      · refine lv_iload_n hx hb d_Mo_header_60 rfl (lv_at hl 0 rfl) ?_
        refine lv_bipush (v := 122) hx hb d_Mo_header_61 (by decide) ?_
        refine lv_icmp_ne (tgt := 175) hx hb d_Mo_header_63 (by decide) (fun c_63 => ?_) (fun c_63 => ?_)
        · refine lv_aload_n hx hb d_Mo_header_175 rfl (lv_at hl 1 rfl) ?_
          refine lv_iload_n hx hb d_Mo_header_176 rfl (lv_at hl 0 rfl) ?_
          refine lv_if_lt (tgt := 196) hx hb d_Mo_header_177 (by decide) (fun c_177 => ?_) (fun c_177 => ?_)
          · refine lv_iconst (v := 1) hx hb d_Mo_header_196 (by decide) ?_
            refine x_topi (y := nI 1) (by decide) ?_
            refine va_put (D := D) (ci := 4) (v := .int (nI 1)) (ty := .int) (C := R_Mo) (T := F_Mo) (N := 18) hx hb hW in_Mo t_Mo t_Mo_ok nm_Mo hown hK hP hD hS 0 rfl rfl 15 (by decide) (hW _ mw_579) (fun _ h9 => h9) rfl (by decide +kernel) (rfl) (rfl) (Nat.le_of_ble_eq_true rfl) d_Mo_header_197 (fun H locs hP hD hS => ?_)
            have hP : va_P D vwCl [(a0, .inr (4, [.ref al, .int (nI o.2.1), .ref aw, .int (nI o.2.2.2.1), .int (bI o.2.2.2.2), .ref ac, .int (nI c.1), .int (nI c.2.1), .int c.2.2.1, .int (bI c.2.2.2), .int (bI b), .int k, .int (nI t.1), .int (nI t.2.1), .int t.2.2, .int (nI 1), .ref ag, .ref am])), (al, .inl (cI, 1600, .inl o.1)), (aw, .inl (cI, 1024, .inl o.2.2.1)), (ac, .inl (cI, 40, .inl f)), (ag, .inl (cI, 1600, .inl gt)), (am, .inl (cI, 40, .inl md))] H := hP
            have hD : va_D A [(a0, .inr (4, [.ref al, .int (nI o.2.1), .ref aw, .int (nI o.2.2.2.1), .int (bI o.2.2.2.2), .ref ac, .int (nI c.1), .int (nI c.2.1), .int c.2.2.1, .int (bI c.2.2.2), .int (bI b), .int k, .int (nI t.1), .int (nI t.2.1), .int t.2.2, .int (nI 1), .ref ag, .ref am])), (al, .inl (cI, 1600, .inl o.1)), (aw, .inl (cI, 1024, .inl o.2.2.1)), (ac, .inl (cI, 40, .inl f)), (ag, .inl (cI, 1600, .inl gt)), (am, .inl (cI, 40, .inl md))] := hD
            exact W.vret hx hb hr (fun t9 ht9 hW9 => ⟨⟨((t, 1) : T3 × Nat), rfl, by rw [hd_out (by omega)], by rw [ht9]; exact hP.sub [0, 1, 2, 3, 4, 5] rfl, va_K.moved hW9.alike hK, hD.sub [0, 1, 2, 3, 4, 5] (by decide) rfl⟩, hS.F ht9⟩) hS.2.2 d_Mo_header_200
          · exact absurd c_177 (by decide)
        · exact absurd c_63 (by decide)
    · exact absurd c_28 (by decide)
  · replace c_8 := mt (cg_le o.2.1 t.1 rfl rfl (by omega) (by omega)).mpr c_8
    obtain ⟨e_b, h_b⟩ := o_at_n hby (show t.1 < o.2.1 by omega)
    refine lv_aload_n hx hb d_Mo_header_11 rfl (lv_at hl 0 rfl) ?_
    refine va_get (D := D) (ci := 4) (v := .ref al) (C := R_Mo) (T := F_Mo) (N := 18) hx hb hW in_Mo hown hK hP 0 rfl rfl 0 (by decide) (hW _ mw_564) (fun _ h9 => h9) rfl d_Mo_header_12 ?_
    refine lv_aload_n hx hb d_Mo_header_15 rfl (lv_at hl 0 rfl) ?_
    refine va_get (D := D) (ci := 4) (v := .int (nI t.1)) (C := R_Mo) (T := F_Mo) (N := 18) hx hb hW in_Mo hown hK hP 0 rfl rfl 12 (by decide) (hW _ mw_576) (fun _ h9 => h9) rfl d_Mo_header_16 ?_
    refine va_iald (D := D) hx hb hK hP 1 0 rfl rfl (vp_in_nI (by omega) (by decide)) d_Mo_header_19 ?_
    refine x_topi (y := o.1 t.1) (by rw [nI_clamp (by omega)]) ?_
    refine x_topi (y := nI (n_at o.1 t.1)) (n_at_eq hby (by omega)) ?_
    refine lv_goto (tgt := 24) hx hb d_Mo_header_20 (by decide) ?_
    refine lv_istore_n (lv' := [(1, .int (nI (n_at o.1 t.1))), (0, .ref a0)]) hx hb d_Mo_header_24 rfl hl (by decide) rfl (fun ls hl => ?_)
    refine lv_iload_n hx hb d_Mo_header_25 rfl (lv_at hl 0 rfl) ?_
    refine lv_bipush (v := 121) hx hb d_Mo_header_26 (by decide) ?_
    refine lv_icmp_ne (tgt := 54) hx hb d_Mo_header_28 (by decide) (fun c_28 => ?_) (fun c_28 => ?_)
    · replace c_28 := mt (cg_eq (n_at o.1 t.1) 121 rfl rfl (by omega) (by omega)).mpr c_28
      refine lv_iload_n hx hb d_Mo_header_54 rfl (lv_at hl 0 rfl) ?_
      refine lv_bipush (v := 119) hx hb d_Mo_header_55 (by decide) ?_
      refine lv_icmp_eq (tgt := 66) hx hb d_Mo_header_57 (by decide) (fun c_57 => ?_) (fun c_57 => ?_)
      · replace c_57 := (cg_eq (n_at o.1 t.1) 119 rfl rfl (by omega) (by omega)).mp c_57
        refine lv_iload_n hx hb d_Mo_header_66 rfl (lv_at hl 0 rfl) ?_
        refine lv_bipush (v := 119) hx hb d_Mo_header_67 (by decide) ?_
        refine lv_icmp_ne (tgt := 76) hx hb d_Mo_header_69 (by decide) (fun c_69 => ?_) (fun c_69 => ?_)
        · replace c_69 := mt (cg_eq (n_at o.1 t.1) 119 rfl rfl (by omega) (by omega)).mpr c_69
          exact absurd c_57 c_69
        · replace c_69 := (cg_eq (n_at o.1 t.1) 119 rfl rfl (by omega) (by omega)).mp c_69
          refine lv_iconst (v := 1) hx hb d_Mo_header_72 (by decide) ?_
          refine lv_goto (tgt := 77) hx hb d_Mo_header_73 (by decide) ?_
          refine lv_istore_n (lv' := [(2, .int 1), (1, .int (nI (n_at o.1 t.1))), (0, .ref a0)]) hx hb d_Mo_header_77 rfl hl (by decide) rfl (fun ls hl => ?_)
          refine lv_iconst (v := 0) hx hb d_Mo_header_78 (by decide) ?_
          refine lv_istore_n (lv' := [(3, .int 0), (2, .int 1), (1, .int (nI (n_at o.1 t.1))), (0, .ref a0)]) hx hb d_Mo_header_79 rfl hl (by decide) rfl (fun ls hl => ?_)
          refine lv_aload_n hx hb d_Mo_header_80 rfl (lv_at hl 3 rfl) ?_
          refine va_get (D := D) (ci := 4) (v := .int (nI t.1)) (C := R_Mo) (T := F_Mo) (N := 18) hx hb hW in_Mo hown hK hP 0 rfl rfl 12 (by decide) (hW _ mw_576) (fun _ h9 => h9) rfl d_Mo_header_81 ?_
          refine lv_iload_n hx hb d_Mo_header_84 rfl (lv_at hl 1 rfl) ?_
          refine lv_iadd hx hb d_Mo_header_85 ?_
          refine x_topi (y := nI (t.1 + 1)) (nI_1 _) ?_
          refine lv_aload_n hx hb d_Mo_header_86 rfl (lv_at hl 3 rfl) ?_
          refine va_get (D := D) (ci := 4) (v := .int (nI o.2.1)) (C := R_Mo) (T := F_Mo) (N := 18) hx hb hW in_Mo hown hK hP 0 rfl rfl 1 (by decide) (hW _ mw_565) (fun _ h9 => h9) rfl d_Mo_header_87 ?_
          refine lv_icmp_lt (tgt := 98) hx hb d_Mo_header_90 (by decide) (fun c_90 => ?_) (fun c_90 => ?_)
          · replace c_90 := (cg_lt (t.1 + 1) o.2.1 rfl rfl (by omega) (by omega)).mp c_90
            refine lv_iconst (v := 1) hx hb d_Mo_header_98 (by decide) ?_
            refine lv_istore (lv' := [(4, .int 1), (3, .int 0), (2, .int 1), (1, .int (nI (n_at o.1 t.1))), (0, .ref a0)]) hx hb d_Mo_header_99 hl (by decide) rfl (fun ls hl => ?_)
            have hlp_101 : ∀ (n : Nat) (i : Nat), (i ≤ 1) → 1 - i < n → ∀ (H : Heap) (locs : List Loc), va_P D vwCl [(a0, .inr (4, [.ref al, .int (nI o.2.1), .ref aw, .int (nI o.2.2.2.1), .int (bI o.2.2.2.2), .ref ac, .int (nI c.1), .int (nI c.2.1), .int c.2.2.1, .int (bI c.2.2.2), .int (bI b), .int k, .int (nI t.1), .int (nI t.2.1), .int t.2.2, .int (nI en), .ref ag, .ref am])), (al, .inl (cI, 1600, .inl o.1)), (aw, .inl (cI, 1024, .inl o.2.2.1)), (ac, .inl (cI, 40, .inl f)), (ag, .inl (cI, 1600, .inl gt)), (am, .inl (cI, 40, .inl md))] H → va_D A [(a0, .inr (4, [.ref al, .int (nI o.2.1), .ref aw, .int (nI o.2.2.2.1), .int (bI o.2.2.2.2), .ref ac, .int (nI c.1), .int (nI c.2.1), .int c.2.2.1, .int (bI c.2.2.2), .int (bI b), .int k, .int (nI t.1), .int (nI t.2.1), .int t.2.2, .int (nI en), .ref ag, .ref am])), (al, .inl (cI, 1600, .inl o.1)), (aw, .inl (cI, 1024, .inl o.2.2.1)), (ac, .inl (cI, 40, .inl f)), (ag, .inl (cI, 1600, .inl gt)), (am, .inl (cI, 40, .inl md))] → va_S A s.heap H locs → ∀ (ls : Array Slot), lv_has ls 5 [(4, .int (nI (i + 1))), (3, .int (c_cnt o t.1 i)), (2, .int 1), (1, .int (nI (n_at o.1 t.1))), (0, .ref a0)] → W p l e ({ frames := 0, cells := 0, slots := 0, locals := 0 }) s m [.ref a0].toArray below meth cd H locs 0 0 (MQ below ((fun A => va_Qv (fun (u : T3 × Nat) => u = ((h_st o t).2, (h_st o t).1)) (xB D vwCl [(cI, .int)] (fun u : T3 × Nat => [(a0, .inr (4, [.ref al, .int (nI o.2.1), .ref aw, .int (nI o.2.2.2.1), .int (bI o.2.2.2.2), .ref ac, .int (nI c.1), .int (nI c.2.1), .int c.2.2.1, .int (bI c.2.2.2), .int (bI b), .int k, .int (nI u.1.1), .int (nI u.1.2.1), .int u.1.2.2, .int (nI u.2), .ref ag, .ref am])), (al, .inl (cI, 1600, .inl o.1)), (aw, .inl (cI, 1024, .inl o.2.2.1)), (ac, .inl (cI, 40, .inl f)), (ag, .inl (cI, 1600, .inl gt)), (am, .inl (cI, 40, .inl md))]) A) A) A) [.ref a0].toArray s 0 0 A) (F0 m 101 ls []) := by
              intro n
              induction n with
              | zero => intro i hi hms; exact absurd hms (Nat.not_lt_zero _)
              | succ n ih =>
                intro i hi hms H locs hP hD hS ls hl
                refine lv_iload hx hb d_Mo_header_101 (lv_at hl 0 rfl) ?_
                refine lv_iload_n hx hb d_Mo_header_103 rfl (lv_at hl 2 rfl) ?_
                refine lv_icmp_gt (tgt := 139) hx hb d_Mo_header_104 (by decide) (fun c_104 => ?_) (fun c_104 => ?_)
                · replace c_104 := (cg_lt 1 (i + 1) rfl rfl (by omega) (by omega)).mp c_104
                  have e_i : i = 1 := by omega
                  refine lv_iload_n hx hb d_Mo_header_139 rfl (lv_at hl 1 rfl) ?_
                  refine x_topi (y := c_cnt o t.1 1) (by rw [e_i]) ?_
                  refine lv_if_ge (tgt := 148) hx hb d_Mo_header_140 (by decide) (fun c_140 => ?_) (fun c_140 => ?_)
                  · refine lv_aload_n hx hb d_Mo_header_148 rfl (lv_at hl 4 rfl) ?_
                    refine va_get (D := D) (ci := 4) (v := .int (nI en)) (C := R_Mo) (T := F_Mo) (N := 18) hx hb hW in_Mo hown hK hP 0 rfl rfl 15 (by decide) (hW _ mw_579) (fun _ h9 => h9) rfl d_Mo_header_149 ?_
                    refine lv_if_ne (tgt := 172) hx hb d_Mo_header_152 (by decide) (fun c_152 => ?_) (fun c_152 => ?_)
                    · replace c_152 := mt (cg_eq en 0 rfl rfl (by omega) (by omega)).mpr c_152
                      exact absurd hen (by omega)
                    · replace c_152 := (cg_eq en 0 rfl rfl (by omega) (by omega)).mp c_152
                      refine lv_aload_n hx hb d_Mo_header_155 rfl (lv_at hl 4 rfl) ?_
                      refine lv_dup hx hb d_Mo_header_156 rfl ?_
                      refine va_get (D := D) (ci := 4) (v := .int (nI t.1)) (C := R_Mo) (T := F_Mo) (N := 18) hx hb hW in_Mo hown hK hP 0 rfl rfl 12 (by decide) (hW _ mw_576) (fun _ h9 => h9) rfl d_Mo_header_157 ?_
                      refine lv_iload_n hx hb d_Mo_header_160 rfl (lv_at hl 2 rfl) ?_
                      refine lv_iconst (v := 1) hx hb d_Mo_header_161 (by decide) ?_
                      refine lv_iadd hx hb d_Mo_header_162 ?_
                      refine x_topi (y := nI (1 + 1)) (by decide) ?_
                      refine lv_iadd hx hb d_Mo_header_163 ?_
                      refine x_topi (y := nI (t.1 + (1 + 1))) (nI_add _ _) ?_
                      refine va_put (D := D) (ci := 4) (v := .int (nI (t.1 + (1 + 1)))) (ty := .int) (C := R_Mo) (T := F_Mo) (N := 18) hx hb hW in_Mo t_Mo t_Mo_ok nm_Mo hown hK hP hD hS 0 rfl rfl 12 (by decide) (hW _ mw_576) (fun _ h9 => h9) rfl (by decide +kernel) (rfl) (rfl) (Nat.le_of_ble_eq_true rfl) d_Mo_header_164 (fun H locs hP hD hS => ?_)
                      have hP : va_P D vwCl [(a0, .inr (4, [.ref al, .int (nI o.2.1), .ref aw, .int (nI o.2.2.2.1), .int (bI o.2.2.2.2), .ref ac, .int (nI c.1), .int (nI c.2.1), .int c.2.2.1, .int (bI c.2.2.2), .int (bI b), .int k, .int (nI (t.1 + (1 + 1))), .int (nI t.2.1), .int t.2.2, .int (nI en), .ref ag, .ref am])), (al, .inl (cI, 1600, .inl o.1)), (aw, .inl (cI, 1024, .inl o.2.2.1)), (ac, .inl (cI, 40, .inl f)), (ag, .inl (cI, 1600, .inl gt)), (am, .inl (cI, 40, .inl md))] H := hP
                      have hD : va_D A [(a0, .inr (4, [.ref al, .int (nI o.2.1), .ref aw, .int (nI o.2.2.2.1), .int (bI o.2.2.2.2), .ref ac, .int (nI c.1), .int (nI c.2.1), .int c.2.2.1, .int (bI c.2.2.2), .int (bI b), .int k, .int (nI (t.1 + (1 + 1))), .int (nI t.2.1), .int t.2.2, .int (nI en), .ref ag, .ref am])), (al, .inl (cI, 1600, .inl o.1)), (aw, .inl (cI, 1024, .inl o.2.2.1)), (ac, .inl (cI, 40, .inl f)), (ag, .inl (cI, 1600, .inl gt)), (am, .inl (cI, 40, .inl md))] := hD
                      refine lv_aload_n hx hb d_Mo_header_167 rfl (lv_at hl 4 rfl) ?_
                      refine lv_iload_n hx hb d_Mo_header_168 rfl (lv_at hl 1 rfl) ?_
                      refine x_topi (y := nI ((c_cnt o t.1 1).toNatClampNeg)) (by rw [e_i]; exact nI_clampI c_140) ?_
                      refine va_put (D := D) (ci := 4) (v := .int (nI ((c_cnt o t.1 1).toNatClampNeg))) (ty := .int) (C := R_Mo) (T := F_Mo) (N := 18) hx hb hW in_Mo t_Mo t_Mo_ok nm_Mo hown hK hP hD hS 0 rfl rfl 13 (by decide) (hW _ mw_577) (fun _ h9 => h9) rfl (by decide +kernel) (rfl) (rfl) (Nat.le_of_ble_eq_true rfl) d_Mo_header_169 (fun H locs hP hD hS => ?_)
                      have hP : va_P D vwCl [(a0, .inr (4, [.ref al, .int (nI o.2.1), .ref aw, .int (nI o.2.2.2.1), .int (bI o.2.2.2.2), .ref ac, .int (nI c.1), .int (nI c.2.1), .int c.2.2.1, .int (bI c.2.2.2), .int (bI b), .int k, .int (nI (t.1 + (1 + 1))), .int (nI ((c_cnt o t.1 1).toNatClampNeg)), .int t.2.2, .int (nI en), .ref ag, .ref am])), (al, .inl (cI, 1600, .inl o.1)), (aw, .inl (cI, 1024, .inl o.2.2.1)), (ac, .inl (cI, 40, .inl f)), (ag, .inl (cI, 1600, .inl gt)), (am, .inl (cI, 40, .inl md))] H := hP
                      have hD : va_D A [(a0, .inr (4, [.ref al, .int (nI o.2.1), .ref aw, .int (nI o.2.2.2.1), .int (bI o.2.2.2.2), .ref ac, .int (nI c.1), .int (nI c.2.1), .int c.2.2.1, .int (bI c.2.2.2), .int (bI b), .int k, .int (nI (t.1 + (1 + 1))), .int (nI ((c_cnt o t.1 1).toNatClampNeg)), .int t.2.2, .int (nI en), .ref ag, .ref am])), (al, .inl (cI, 1600, .inl o.1)), (aw, .inl (cI, 1024, .inl o.2.2.1)), (ac, .inl (cI, 40, .inl f)), (ag, .inl (cI, 1600, .inl gt)), (am, .inl (cI, 40, .inl md))] := hD
                      refine lv_goto (tgt := 200) hx hb d_Mo_header_172 (by decide) ?_
                      exact W.vret hx hb hr (fun t9 ht9 hW9 => ⟨⟨(((t.1 + (1 + 1), (c_cnt o t.1 1).toNatClampNeg, t.2.2), en) : T3 × Nat), rfl, by rw [hd_z (z := 1) e_b h_b (Or.inl ⟨by omega, rfl⟩), if_neg (fun q => q.elim (fun r => absurd r (by omega)) (fun r => absurd c_140 (by rw [Int32.not_le]; exact r))), hen], by rw [ht9]; exact hP.sub [0, 1, 2, 3, 4, 5] rfl, va_K.moved hW9.alike hK, hD.sub [0, 1, 2, 3, 4, 5] (by decide) rfl⟩, hS.F ht9⟩) hS.2.2 d_Mo_header_200
                  · refine lv_aload_n hx hb d_Mo_header_143 rfl (lv_at hl 4 rfl) ?_
                    refine lv_iconst (v := 2) hx hb d_Mo_header_144 (by decide) ?_
                    refine x_topi (y := nI 2) (by decide) ?_
                    refine va_put (D := D) (ci := 4) (v := .int (nI 2)) (ty := .int) (C := R_Mo) (T := F_Mo) (N := 18) hx hb hW in_Mo t_Mo t_Mo_ok nm_Mo hown hK hP hD hS 0 rfl rfl 15 (by decide) (hW _ mw_579) (fun _ h9 => h9) rfl (by decide +kernel) (rfl) (rfl) (Nat.le_of_ble_eq_true rfl) d_Mo_header_145 (fun H locs hP hD hS => ?_)
                    have hP : va_P D vwCl [(a0, .inr (4, [.ref al, .int (nI o.2.1), .ref aw, .int (nI o.2.2.2.1), .int (bI o.2.2.2.2), .ref ac, .int (nI c.1), .int (nI c.2.1), .int c.2.2.1, .int (bI c.2.2.2), .int (bI b), .int k, .int (nI t.1), .int (nI t.2.1), .int t.2.2, .int (nI 2), .ref ag, .ref am])), (al, .inl (cI, 1600, .inl o.1)), (aw, .inl (cI, 1024, .inl o.2.2.1)), (ac, .inl (cI, 40, .inl f)), (ag, .inl (cI, 1600, .inl gt)), (am, .inl (cI, 40, .inl md))] H := hP
                    have hD : va_D A [(a0, .inr (4, [.ref al, .int (nI o.2.1), .ref aw, .int (nI o.2.2.2.1), .int (bI o.2.2.2.2), .ref ac, .int (nI c.1), .int (nI c.2.1), .int c.2.2.1, .int (bI c.2.2.2), .int (bI b), .int k, .int (nI t.1), .int (nI t.2.1), .int t.2.2, .int (nI 2), .ref ag, .ref am])), (al, .inl (cI, 1600, .inl o.1)), (aw, .inl (cI, 1024, .inl o.2.2.1)), (ac, .inl (cI, 40, .inl f)), (ag, .inl (cI, 1600, .inl gt)), (am, .inl (cI, 40, .inl md))] := hD
                    refine lv_aload_n hx hb d_Mo_header_148 rfl (lv_at hl 4 rfl) ?_
                    refine va_get (D := D) (ci := 4) (v := .int (nI 2)) (C := R_Mo) (T := F_Mo) (N := 18) hx hb hW in_Mo hown hK hP 0 rfl rfl 15 (by decide) (hW _ mw_579) (fun _ h9 => h9) rfl d_Mo_header_149 ?_
                    refine lv_if_ne (tgt := 172) hx hb d_Mo_header_152 (by decide) (fun c_152 => ?_) (fun c_152 => ?_)
                    · replace c_152 := mt (cg_eq 2 0 rfl rfl (by omega) (by omega)).mpr c_152
                      refine lv_goto (tgt := 200) hx hb d_Mo_header_172 (by decide) ?_
                      exact W.vret hx hb hr (fun t9 ht9 hW9 => ⟨⟨((t, 2) : T3 × Nat), rfl, by first | (rw [hd_z (z := 1) e_b h_b (Or.inl ⟨by omega, rfl⟩), if_pos (Or.inl (by omega))]; done) | (rw [hd_z (z := 1) e_b h_b (Or.inl ⟨by omega, rfl⟩), if_pos (Or.inr (by rw [← Int32.not_le]; exact c_140))]; done), by rw [ht9]; exact hP.sub [0, 1, 2, 3, 4, 5] rfl, va_K.moved hW9.alike hK, hD.sub [0, 1, 2, 3, 4, 5] (by decide) rfl⟩, hS.F ht9⟩) hS.2.2 d_Mo_header_200
                    · replace c_152 := (cg_eq 2 0 rfl rfl (by omega) (by omega)).mp c_152
                      exact absurd (show (2 : Nat) = 0 by omega) (by decide)
                · replace c_104 := mt (cg_lt 1 (i + 1) rfl rfl (by omega) (by omega)).mpr c_104
                  refine lv_aload_n hx hb d_Mo_header_107 rfl (lv_at hl 4 rfl) ?_
                  refine va_get (D := D) (ci := 4) (v := .int (nI en)) (C := R_Mo) (T := F_Mo) (N := 18) hx hb hW in_Mo hown hK hP 0 rfl rfl 15 (by decide) (hW _ mw_579) (fun _ h9 => h9) rfl d_Mo_header_108 ?_
                  refine lv_if_ne (tgt := 139) hx hb d_Mo_header_111 (by decide) (fun c_111 => ?_) (fun c_111 => ?_)
                  · replace c_111 := mt (cg_eq en 0 rfl rfl (by omega) (by omega)).mpr c_111
                    exact absurd hen (by omega)
                  · replace c_111 := (cg_eq en 0 rfl rfl (by omega) (by omega)).mp c_111
                    refine lv_iload_n hx hb d_Mo_header_114 rfl (lv_at hl 1 rfl) ?_
                    refine lv_sipush (v := 256) hx hb d_Mo_header_115 (by decide) ?_
                    refine lv_imul hx hb d_Mo_header_118 ?_
                    refine lv_aload_n hx hb d_Mo_header_119 rfl (lv_at hl 4 rfl) ?_
                    refine va_get (D := D) (ci := 4) (v := .ref al) (C := R_Mo) (T := F_Mo) (N := 18) hx hb hW in_Mo hown hK hP 0 rfl rfl 0 (by decide) (hW _ mw_564) (fun _ h9 => h9) rfl d_Mo_header_120 ?_
                    refine lv_aload_n hx hb d_Mo_header_123 rfl (lv_at hl 4 rfl) ?_
                    refine va_get (D := D) (ci := 4) (v := .int (nI t.1)) (C := R_Mo) (T := F_Mo) (N := 18) hx hb hW in_Mo hown hK hP 0 rfl rfl 12 (by decide) (hW _ mw_576) (fun _ h9 => h9) rfl d_Mo_header_124 ?_
                    refine lv_iload hx hb d_Mo_header_127 (lv_at hl 0 rfl) ?_
                    refine lv_iadd hx hb d_Mo_header_129 ?_
                    refine x_topi (y := nI (t.1 + (i + 1))) (nI_add _ _) ?_
                    refine va_iald (D := D) hx hb hK hP 1 0 rfl rfl (vp_in_nI (by omega) (by decide)) d_Mo_header_130 ?_
                    refine x_topi (y := o.1 (t.1 + (i + 1))) (by rw [nI_clamp (by omega)]) ?_
                    refine x_topi (y := nI (n_at o.1 (t.1 + (i + 1)))) (n_at_eq hby (by omega)) ?_
                    refine lv_iadd hx hb d_Mo_header_131 ?_
                    refine x_topi (y := c_cnt o t.1 (i + 1)) (by obtain ⟨e9, h9⟩ := o_at_n hby (show t.1 + (i + 1) < o.2.1 by omega); rw [c_cnt, e9]; exact cnt_s _ h9) ?_
                    refine lv_istore_n (lv' := [(3, .int (c_cnt o t.1 (i + 1))), (4, .int (nI (i + 1))), (2, .int 1), (1, .int (nI (n_at o.1 t.1))), (0, .ref a0)]) hx hb d_Mo_header_132 rfl hl (by decide) rfl (fun ls hl => ?_)
                    refine lv_iinc (v := nI (i + 1 + 1)) (lv' := [(4, .int (nI (i + 1 + 1))), (3, .int (c_cnt o t.1 (i + 1))), (2, .int 1), (1, .int (nI (n_at o.1 t.1))), (0, .ref a0)]) hx hb d_Mo_header_133 hl (k := 1) rfl (nI_1 _) (by decide) rfl (fun ls hl => ?_)
                    refine lv_goto (tgt := 101) hx hb d_Mo_header_136 (by decide) ?_
                    exact ih (i + 1) (by omega) (by omega) H locs (hP.sub [0, 1, 2, 3, 4, 5] rfl) (hD.sub [0, 1, 2, 3, 4, 5] (by decide) rfl) hS ls (lv_sub hl [0, 1, 2, 3, 4] rfl)
            exact hlp_101 _ 0 (Nat.zero_le _) (Nat.lt_succ_self _) s.heap [] (hP.sub [0, 1, 2, 3, 4, 5] rfl) (hD.sub [0, 1, 2, 3, 4, 5] (by decide) rfl) hS ls (lv_sub hl [0, 1, 2, 3, 4] rfl)
          · replace c_90 := mt (cg_lt (t.1 + 1) o.2.1 rfl rfl (by omega) (by omega)).mpr c_90
            refine lv_aload_n hx hb d_Mo_header_93 rfl (lv_at hl 3 rfl) ?_
            refine lv_iconst (v := 2) hx hb d_Mo_header_94 (by decide) ?_
            refine x_topi (y := nI 2) (by decide) ?_
            refine va_put (D := D) (ci := 4) (v := .int (nI 2)) (ty := .int) (C := R_Mo) (T := F_Mo) (N := 18) hx hb hW in_Mo t_Mo t_Mo_ok nm_Mo hown hK hP hD hS 0 rfl rfl 15 (by decide) (hW _ mw_579) (fun _ h9 => h9) rfl (by decide +kernel) (rfl) (rfl) (Nat.le_of_ble_eq_true rfl) d_Mo_header_95 (fun H locs hP hD hS => ?_)
            have hP : va_P D vwCl [(a0, .inr (4, [.ref al, .int (nI o.2.1), .ref aw, .int (nI o.2.2.2.1), .int (bI o.2.2.2.2), .ref ac, .int (nI c.1), .int (nI c.2.1), .int c.2.2.1, .int (bI c.2.2.2), .int (bI b), .int k, .int (nI t.1), .int (nI t.2.1), .int t.2.2, .int (nI 2), .ref ag, .ref am])), (al, .inl (cI, 1600, .inl o.1)), (aw, .inl (cI, 1024, .inl o.2.2.1)), (ac, .inl (cI, 40, .inl f)), (ag, .inl (cI, 1600, .inl gt)), (am, .inl (cI, 40, .inl md))] H := hP
            have hD : va_D A [(a0, .inr (4, [.ref al, .int (nI o.2.1), .ref aw, .int (nI o.2.2.2.1), .int (bI o.2.2.2.2), .ref ac, .int (nI c.1), .int (nI c.2.1), .int c.2.2.1, .int (bI c.2.2.2), .int (bI b), .int k, .int (nI t.1), .int (nI t.2.1), .int t.2.2, .int (nI 2), .ref ag, .ref am])), (al, .inl (cI, 1600, .inl o.1)), (aw, .inl (cI, 1024, .inl o.2.2.1)), (ac, .inl (cI, 40, .inl f)), (ag, .inl (cI, 1600, .inl gt)), (am, .inl (cI, 40, .inl md))] := hD
            refine lv_iconst (v := 1) hx hb d_Mo_header_98 (by decide) ?_
            refine lv_istore (lv' := [(4, .int 1), (3, .int 0), (2, .int 1), (1, .int (nI (n_at o.1 t.1))), (0, .ref a0)]) hx hb d_Mo_header_99 hl (by decide) rfl (fun ls hl => ?_)
            refine lv_iload hx hb d_Mo_header_101 (lv_at hl 0 rfl) ?_
            refine lv_iload_n hx hb d_Mo_header_103 rfl (lv_at hl 2 rfl) ?_
            refine lv_icmp_gt (tgt := 139) hx hb d_Mo_header_104 (by decide) (fun c_104 => ?_) (fun c_104 => ?_)
            · exact absurd c_104 (by decide)
            · refine lv_aload_n hx hb d_Mo_header_107 rfl (lv_at hl 4 rfl) ?_
              refine va_get (D := D) (ci := 4) (v := .int (nI 2)) (C := R_Mo) (T := F_Mo) (N := 18) hx hb hW in_Mo hown hK hP 0 rfl rfl 15 (by decide) (hW _ mw_579) (fun _ h9 => h9) rfl d_Mo_header_108 ?_
              refine lv_if_ne (tgt := 139) hx hb d_Mo_header_111 (by decide) (fun c_111 => ?_) (fun c_111 => ?_)
              · replace c_111 := mt (cg_eq 2 0 rfl rfl (by omega) (by omega)).mpr c_111
                refine lv_iload_n hx hb d_Mo_header_139 rfl (lv_at hl 1 rfl) ?_
                refine lv_if_ge (tgt := 148) hx hb d_Mo_header_140 (by decide) (fun c_140 => ?_) (fun c_140 => ?_)
                · refine lv_aload_n hx hb d_Mo_header_148 rfl (lv_at hl 4 rfl) ?_
                  refine va_get (D := D) (ci := 4) (v := .int (nI 2)) (C := R_Mo) (T := F_Mo) (N := 18) hx hb hW in_Mo hown hK hP 0 rfl rfl 15 (by decide) (hW _ mw_579) (fun _ h9 => h9) rfl d_Mo_header_149 ?_
                  refine lv_if_ne (tgt := 172) hx hb d_Mo_header_152 (by decide) (fun c_152 => ?_) (fun c_152 => ?_)
                  · replace c_152 := mt (cg_eq 2 0 rfl rfl (by omega) (by omega)).mpr c_152
                    refine lv_goto (tgt := 200) hx hb d_Mo_header_172 (by decide) ?_
                    exact W.vret hx hb hr (fun t9 ht9 hW9 => ⟨⟨((t, 2) : T3 × Nat), rfl, by first | (rw [hd_z (z := 1) e_b h_b (Or.inl ⟨by omega, rfl⟩), if_pos (Or.inl (by omega))]; done) | (rw [hd_z (z := 1) e_b h_b (Or.inl ⟨by omega, rfl⟩), if_pos (Or.inr (by rw [← Int32.not_le]; exact c_140))]; done), by rw [ht9]; exact hP.sub [0, 1, 2, 3, 4, 5] rfl, va_K.moved hW9.alike hK, hD.sub [0, 1, 2, 3, 4, 5] (by decide) rfl⟩, hS.F ht9⟩) hS.2.2 d_Mo_header_200
                  · replace c_152 := (cg_eq 2 0 rfl rfl (by omega) (by omega)).mp c_152
                    exact absurd (show (2 : Nat) = 0 by omega) (by decide)
                · exact absurd c_140 (by decide)
              · replace c_111 := (cg_eq 2 0 rfl rfl (by omega) (by omega)).mp c_111
                exact absurd (show (2 : Nat) = 0 by omega) (by decide)
      · replace c_57 := mt (cg_eq (n_at o.1 t.1) 119 rfl rfl (by omega) (by omega)).mpr c_57
        refine lv_iload_n hx hb d_Mo_header_60 rfl (lv_at hl 0 rfl) ?_
        refine lv_bipush (v := 122) hx hb d_Mo_header_61 (by decide) ?_
        refine lv_icmp_ne (tgt := 175) hx hb d_Mo_header_63 (by decide) (fun c_63 => ?_) (fun c_63 => ?_)
        · replace c_63 := mt (cg_eq (n_at o.1 t.1) 122 rfl rfl (by omega) (by omega)).mpr c_63
          refine lv_aload_n hx hb d_Mo_header_175 rfl (lv_at hl 1 rfl) ?_
          refine lv_iload_n hx hb d_Mo_header_176 rfl (lv_at hl 0 rfl) ?_
          refine lv_if_lt (tgt := 196) hx hb d_Mo_header_177 (by decide) (fun c_177 => ?_) (fun c_177 => ?_)
          · replace c_177 := (cg_lt (n_at o.1 t.1) 0 rfl rfl (by omega) (by omega)).mp c_177
            exact absurd c_177 (by omega)
          · replace c_177 := mt (cg_lt (n_at o.1 t.1) 0 rfl rfl (by omega) (by omega)).mpr c_177
            refine lv_iload_n hx hb d_Mo_header_180 rfl (lv_at hl 0 rfl) ?_
            refine lv_bipush (v := 112) hx hb d_Mo_header_181 (by decide) ?_
            refine lv_icmp_lt (tgt := 192) hx hb d_Mo_header_183 (by decide) (fun c_183 => ?_) (fun c_183 => ?_)
            · replace c_183 := (cg_lt (n_at o.1 t.1) 112 rfl rfl (by omega) (by omega)).mp c_183
              refine lv_iconst (v := 2) hx hb d_Mo_header_192 (by decide) ?_
              refine lv_goto (tgt := 197) hx hb d_Mo_header_193 (by decide) ?_
              refine x_topi (y := nI 2) (by decide) ?_
              refine va_put (D := D) (ci := 4) (v := .int (nI 2)) (ty := .int) (C := R_Mo) (T := F_Mo) (N := 18) hx hb hW in_Mo t_Mo t_Mo_ok nm_Mo hown hK hP hD hS 0 rfl rfl 15 (by decide) (hW _ mw_579) (fun _ h9 => h9) rfl (by decide +kernel) (rfl) (rfl) (Nat.le_of_ble_eq_true rfl) d_Mo_header_197 (fun H locs hP hD hS => ?_)
              have hP : va_P D vwCl [(a0, .inr (4, [.ref al, .int (nI o.2.1), .ref aw, .int (nI o.2.2.2.1), .int (bI o.2.2.2.2), .ref ac, .int (nI c.1), .int (nI c.2.1), .int c.2.2.1, .int (bI c.2.2.2), .int (bI b), .int k, .int (nI t.1), .int (nI t.2.1), .int t.2.2, .int (nI 2), .ref ag, .ref am])), (al, .inl (cI, 1600, .inl o.1)), (aw, .inl (cI, 1024, .inl o.2.2.1)), (ac, .inl (cI, 40, .inl f)), (ag, .inl (cI, 1600, .inl gt)), (am, .inl (cI, 40, .inl md))] H := hP
              have hD : va_D A [(a0, .inr (4, [.ref al, .int (nI o.2.1), .ref aw, .int (nI o.2.2.2.1), .int (bI o.2.2.2.2), .ref ac, .int (nI c.1), .int (nI c.2.1), .int c.2.2.1, .int (bI c.2.2.2), .int (bI b), .int k, .int (nI t.1), .int (nI t.2.1), .int t.2.2, .int (nI 2), .ref ag, .ref am])), (al, .inl (cI, 1600, .inl o.1)), (aw, .inl (cI, 1024, .inl o.2.2.1)), (ac, .inl (cI, 40, .inl f)), (ag, .inl (cI, 1600, .inl gt)), (am, .inl (cI, 40, .inl md))] := hD
              exact W.vret hx hb hr (fun t9 ht9 hW9 => ⟨⟨((t, 2) : T3 × Nat), rfl, by rw [hd_e e_b h_b c_28 c_57 c_63, if_pos (by omega)], by rw [ht9]; exact hP.sub [0, 1, 2, 3, 4, 5] rfl, va_K.moved hW9.alike hK, hD.sub [0, 1, 2, 3, 4, 5] (by decide) rfl⟩, hS.F ht9⟩) hS.2.2 d_Mo_header_200
            · replace c_183 := mt (cg_lt (n_at o.1 t.1) 112 rfl rfl (by omega) (by omega)).mpr c_183
              refine lv_iload_n hx hb d_Mo_header_186 rfl (lv_at hl 0 rfl) ?_
              refine lv_bipush (v := 126) hx hb d_Mo_header_187 (by decide) ?_
              refine lv_icmp_le (tgt := 196) hx hb d_Mo_header_189 (by decide) (fun c_189 => ?_) (fun c_189 => ?_)
              · replace c_189 := (cg_le (n_at o.1 t.1) 126 rfl rfl (by omega) (by omega)).mp c_189
                refine lv_iconst (v := 1) hx hb d_Mo_header_196 (by decide) ?_
                refine x_topi (y := nI 1) (by decide) ?_
                refine va_put (D := D) (ci := 4) (v := .int (nI 1)) (ty := .int) (C := R_Mo) (T := F_Mo) (N := 18) hx hb hW in_Mo t_Mo t_Mo_ok nm_Mo hown hK hP hD hS 0 rfl rfl 15 (by decide) (hW _ mw_579) (fun _ h9 => h9) rfl (by decide +kernel) (rfl) (rfl) (Nat.le_of_ble_eq_true rfl) d_Mo_header_197 (fun H locs hP hD hS => ?_)
                have hP : va_P D vwCl [(a0, .inr (4, [.ref al, .int (nI o.2.1), .ref aw, .int (nI o.2.2.2.1), .int (bI o.2.2.2.2), .ref ac, .int (nI c.1), .int (nI c.2.1), .int c.2.2.1, .int (bI c.2.2.2), .int (bI b), .int k, .int (nI t.1), .int (nI t.2.1), .int t.2.2, .int (nI 1), .ref ag, .ref am])), (al, .inl (cI, 1600, .inl o.1)), (aw, .inl (cI, 1024, .inl o.2.2.1)), (ac, .inl (cI, 40, .inl f)), (ag, .inl (cI, 1600, .inl gt)), (am, .inl (cI, 40, .inl md))] H := hP
                have hD : va_D A [(a0, .inr (4, [.ref al, .int (nI o.2.1), .ref aw, .int (nI o.2.2.2.1), .int (bI o.2.2.2.2), .ref ac, .int (nI c.1), .int (nI c.2.1), .int c.2.2.1, .int (bI c.2.2.2), .int (bI b), .int k, .int (nI t.1), .int (nI t.2.1), .int t.2.2, .int (nI 1), .ref ag, .ref am])), (al, .inl (cI, 1600, .inl o.1)), (aw, .inl (cI, 1024, .inl o.2.2.1)), (ac, .inl (cI, 40, .inl f)), (ag, .inl (cI, 1600, .inl gt)), (am, .inl (cI, 40, .inl md))] := hD
                exact W.vret hx hb hr (fun t9 ht9 hW9 => ⟨⟨((t, 1) : T3 × Nat), rfl, by rw [hd_e e_b h_b c_28 c_57 c_63, if_neg (by omega)], by rw [ht9]; exact hP.sub [0, 1, 2, 3, 4, 5] rfl, va_K.moved hW9.alike hK, hD.sub [0, 1, 2, 3, 4, 5] (by decide) rfl⟩, hS.F ht9⟩) hS.2.2 d_Mo_header_200
              · replace c_189 := mt (cg_le (n_at o.1 t.1) 126 rfl rfl (by omega) (by omega)).mpr c_189
                refine lv_iconst (v := 2) hx hb d_Mo_header_192 (by decide) ?_
                refine lv_goto (tgt := 197) hx hb d_Mo_header_193 (by decide) ?_
                refine x_topi (y := nI 2) (by decide) ?_
                refine va_put (D := D) (ci := 4) (v := .int (nI 2)) (ty := .int) (C := R_Mo) (T := F_Mo) (N := 18) hx hb hW in_Mo t_Mo t_Mo_ok nm_Mo hown hK hP hD hS 0 rfl rfl 15 (by decide) (hW _ mw_579) (fun _ h9 => h9) rfl (by decide +kernel) (rfl) (rfl) (Nat.le_of_ble_eq_true rfl) d_Mo_header_197 (fun H locs hP hD hS => ?_)
                have hP : va_P D vwCl [(a0, .inr (4, [.ref al, .int (nI o.2.1), .ref aw, .int (nI o.2.2.2.1), .int (bI o.2.2.2.2), .ref ac, .int (nI c.1), .int (nI c.2.1), .int c.2.2.1, .int (bI c.2.2.2), .int (bI b), .int k, .int (nI t.1), .int (nI t.2.1), .int t.2.2, .int (nI 2), .ref ag, .ref am])), (al, .inl (cI, 1600, .inl o.1)), (aw, .inl (cI, 1024, .inl o.2.2.1)), (ac, .inl (cI, 40, .inl f)), (ag, .inl (cI, 1600, .inl gt)), (am, .inl (cI, 40, .inl md))] H := hP
                have hD : va_D A [(a0, .inr (4, [.ref al, .int (nI o.2.1), .ref aw, .int (nI o.2.2.2.1), .int (bI o.2.2.2.2), .ref ac, .int (nI c.1), .int (nI c.2.1), .int c.2.2.1, .int (bI c.2.2.2), .int (bI b), .int k, .int (nI t.1), .int (nI t.2.1), .int t.2.2, .int (nI 2), .ref ag, .ref am])), (al, .inl (cI, 1600, .inl o.1)), (aw, .inl (cI, 1024, .inl o.2.2.1)), (ac, .inl (cI, 40, .inl f)), (ag, .inl (cI, 1600, .inl gt)), (am, .inl (cI, 40, .inl md))] := hD
                exact W.vret hx hb hr (fun t9 ht9 hW9 => ⟨⟨((t, 2) : T3 × Nat), rfl, by rw [hd_e e_b h_b c_28 c_57 c_63, if_pos (by omega)], by rw [ht9]; exact hP.sub [0, 1, 2, 3, 4, 5] rfl, va_K.moved hW9.alike hK, hD.sub [0, 1, 2, 3, 4, 5] (by decide) rfl⟩, hS.F ht9⟩) hS.2.2 d_Mo_header_200
        · replace c_63 := (cg_eq (n_at o.1 t.1) 122 rfl rfl (by omega) (by omega)).mp c_63
          refine lv_iload_n hx hb d_Mo_header_66 rfl (lv_at hl 0 rfl) ?_
          refine lv_bipush (v := 119) hx hb d_Mo_header_67 (by decide) ?_
          refine lv_icmp_ne (tgt := 76) hx hb d_Mo_header_69 (by decide) (fun c_69 => ?_) (fun c_69 => ?_)
          · replace c_69 := mt (cg_eq (n_at o.1 t.1) 119 rfl rfl (by omega) (by omega)).mpr c_69
            refine lv_iconst (v := 4) hx hb d_Mo_header_76 (by decide) ?_
            refine lv_istore_n (lv' := [(2, .int 4), (1, .int (nI (n_at o.1 t.1))), (0, .ref a0)]) hx hb d_Mo_header_77 rfl hl (by decide) rfl (fun ls hl => ?_)
            refine lv_iconst (v := 0) hx hb d_Mo_header_78 (by decide) ?_
            refine lv_istore_n (lv' := [(3, .int 0), (2, .int 4), (1, .int (nI (n_at o.1 t.1))), (0, .ref a0)]) hx hb d_Mo_header_79 rfl hl (by decide) rfl (fun ls hl => ?_)
            refine lv_aload_n hx hb d_Mo_header_80 rfl (lv_at hl 3 rfl) ?_
            refine va_get (D := D) (ci := 4) (v := .int (nI t.1)) (C := R_Mo) (T := F_Mo) (N := 18) hx hb hW in_Mo hown hK hP 0 rfl rfl 12 (by decide) (hW _ mw_576) (fun _ h9 => h9) rfl d_Mo_header_81 ?_
            refine lv_iload_n hx hb d_Mo_header_84 rfl (lv_at hl 1 rfl) ?_
            refine lv_iadd hx hb d_Mo_header_85 ?_
            refine x_topi (y := nI (t.1 + 4)) (by rw [show (4 : Int32) = nI 4 by decide]; exact nI_add _ _) ?_
            refine lv_aload_n hx hb d_Mo_header_86 rfl (lv_at hl 3 rfl) ?_
            refine va_get (D := D) (ci := 4) (v := .int (nI o.2.1)) (C := R_Mo) (T := F_Mo) (N := 18) hx hb hW in_Mo hown hK hP 0 rfl rfl 1 (by decide) (hW _ mw_565) (fun _ h9 => h9) rfl d_Mo_header_87 ?_
            refine lv_icmp_lt (tgt := 98) hx hb d_Mo_header_90 (by decide) (fun c_90 => ?_) (fun c_90 => ?_)
            · replace c_90 := (cg_lt (t.1 + 4) o.2.1 rfl rfl (by omega) (by omega)).mp c_90
              refine lv_iconst (v := 1) hx hb d_Mo_header_98 (by decide) ?_
              refine lv_istore (lv' := [(4, .int 1), (3, .int 0), (2, .int 4), (1, .int (nI (n_at o.1 t.1))), (0, .ref a0)]) hx hb d_Mo_header_99 hl (by decide) rfl (fun ls hl => ?_)
              have hlp_101 : ∀ (n : Nat) (i : Nat), (i ≤ 4) → 4 - i < n → ∀ (H : Heap) (locs : List Loc), va_P D vwCl [(a0, .inr (4, [.ref al, .int (nI o.2.1), .ref aw, .int (nI o.2.2.2.1), .int (bI o.2.2.2.2), .ref ac, .int (nI c.1), .int (nI c.2.1), .int c.2.2.1, .int (bI c.2.2.2), .int (bI b), .int k, .int (nI t.1), .int (nI t.2.1), .int t.2.2, .int (nI en), .ref ag, .ref am])), (al, .inl (cI, 1600, .inl o.1)), (aw, .inl (cI, 1024, .inl o.2.2.1)), (ac, .inl (cI, 40, .inl f)), (ag, .inl (cI, 1600, .inl gt)), (am, .inl (cI, 40, .inl md))] H → va_D A [(a0, .inr (4, [.ref al, .int (nI o.2.1), .ref aw, .int (nI o.2.2.2.1), .int (bI o.2.2.2.2), .ref ac, .int (nI c.1), .int (nI c.2.1), .int c.2.2.1, .int (bI c.2.2.2), .int (bI b), .int k, .int (nI t.1), .int (nI t.2.1), .int t.2.2, .int (nI en), .ref ag, .ref am])), (al, .inl (cI, 1600, .inl o.1)), (aw, .inl (cI, 1024, .inl o.2.2.1)), (ac, .inl (cI, 40, .inl f)), (ag, .inl (cI, 1600, .inl gt)), (am, .inl (cI, 40, .inl md))] → va_S A s.heap H locs → ∀ (ls : Array Slot), lv_has ls 5 [(4, .int (nI (i + 1))), (3, .int (c_cnt o t.1 i)), (2, .int 4), (1, .int (nI (n_at o.1 t.1))), (0, .ref a0)] → W p l e ({ frames := 0, cells := 0, slots := 0, locals := 0 }) s m [.ref a0].toArray below meth cd H locs 0 0 (MQ below ((fun A => va_Qv (fun (u : T3 × Nat) => u = ((h_st o t).2, (h_st o t).1)) (xB D vwCl [(cI, .int)] (fun u : T3 × Nat => [(a0, .inr (4, [.ref al, .int (nI o.2.1), .ref aw, .int (nI o.2.2.2.1), .int (bI o.2.2.2.2), .ref ac, .int (nI c.1), .int (nI c.2.1), .int c.2.2.1, .int (bI c.2.2.2), .int (bI b), .int k, .int (nI u.1.1), .int (nI u.1.2.1), .int u.1.2.2, .int (nI u.2), .ref ag, .ref am])), (al, .inl (cI, 1600, .inl o.1)), (aw, .inl (cI, 1024, .inl o.2.2.1)), (ac, .inl (cI, 40, .inl f)), (ag, .inl (cI, 1600, .inl gt)), (am, .inl (cI, 40, .inl md))]) A) A) A) [.ref a0].toArray s 0 0 A) (F0 m 101 ls []) := by
                intro n
                induction n with
                | zero => intro i hi hms; exact absurd hms (Nat.not_lt_zero _)
                | succ n ih =>
                  intro i hi hms H locs hP hD hS ls hl
                  refine lv_iload hx hb d_Mo_header_101 (lv_at hl 0 rfl) ?_
                  refine lv_iload_n hx hb d_Mo_header_103 rfl (lv_at hl 2 rfl) ?_
                  refine lv_icmp_gt (tgt := 139) hx hb d_Mo_header_104 (by decide) (fun c_104 => ?_) (fun c_104 => ?_)
                  · replace c_104 := (cg_lt 4 (i + 1) rfl rfl (by omega) (by omega)).mp c_104
                    have e_i : i = 4 := by omega
                    refine lv_iload_n hx hb d_Mo_header_139 rfl (lv_at hl 1 rfl) ?_
                    refine x_topi (y := c_cnt o t.1 4) (by rw [e_i]) ?_
                    refine lv_if_ge (tgt := 148) hx hb d_Mo_header_140 (by decide) (fun c_140 => ?_) (fun c_140 => ?_)
                    · refine lv_aload_n hx hb d_Mo_header_148 rfl (lv_at hl 4 rfl) ?_
                      refine va_get (D := D) (ci := 4) (v := .int (nI en)) (C := R_Mo) (T := F_Mo) (N := 18) hx hb hW in_Mo hown hK hP 0 rfl rfl 15 (by decide) (hW _ mw_579) (fun _ h9 => h9) rfl d_Mo_header_149 ?_
                      refine lv_if_ne (tgt := 172) hx hb d_Mo_header_152 (by decide) (fun c_152 => ?_) (fun c_152 => ?_)
                      · replace c_152 := mt (cg_eq en 0 rfl rfl (by omega) (by omega)).mpr c_152
                        exact absurd hen (by omega)
                      · replace c_152 := (cg_eq en 0 rfl rfl (by omega) (by omega)).mp c_152
                        refine lv_aload_n hx hb d_Mo_header_155 rfl (lv_at hl 4 rfl) ?_
                        refine lv_dup hx hb d_Mo_header_156 rfl ?_
                        refine va_get (D := D) (ci := 4) (v := .int (nI t.1)) (C := R_Mo) (T := F_Mo) (N := 18) hx hb hW in_Mo hown hK hP 0 rfl rfl 12 (by decide) (hW _ mw_576) (fun _ h9 => h9) rfl d_Mo_header_157 ?_
                        refine lv_iload_n hx hb d_Mo_header_160 rfl (lv_at hl 2 rfl) ?_
                        refine lv_iconst (v := 1) hx hb d_Mo_header_161 (by decide) ?_
                        refine lv_iadd hx hb d_Mo_header_162 ?_
                        refine x_topi (y := nI (1 + 4)) (by decide) ?_
                        refine lv_iadd hx hb d_Mo_header_163 ?_
                        refine x_topi (y := nI (t.1 + (1 + 4))) (nI_add _ _) ?_
                        refine va_put (D := D) (ci := 4) (v := .int (nI (t.1 + (1 + 4)))) (ty := .int) (C := R_Mo) (T := F_Mo) (N := 18) hx hb hW in_Mo t_Mo t_Mo_ok nm_Mo hown hK hP hD hS 0 rfl rfl 12 (by decide) (hW _ mw_576) (fun _ h9 => h9) rfl (by decide +kernel) (rfl) (rfl) (Nat.le_of_ble_eq_true rfl) d_Mo_header_164 (fun H locs hP hD hS => ?_)
                        have hP : va_P D vwCl [(a0, .inr (4, [.ref al, .int (nI o.2.1), .ref aw, .int (nI o.2.2.2.1), .int (bI o.2.2.2.2), .ref ac, .int (nI c.1), .int (nI c.2.1), .int c.2.2.1, .int (bI c.2.2.2), .int (bI b), .int k, .int (nI (t.1 + (1 + 4))), .int (nI t.2.1), .int t.2.2, .int (nI en), .ref ag, .ref am])), (al, .inl (cI, 1600, .inl o.1)), (aw, .inl (cI, 1024, .inl o.2.2.1)), (ac, .inl (cI, 40, .inl f)), (ag, .inl (cI, 1600, .inl gt)), (am, .inl (cI, 40, .inl md))] H := hP
                        have hD : va_D A [(a0, .inr (4, [.ref al, .int (nI o.2.1), .ref aw, .int (nI o.2.2.2.1), .int (bI o.2.2.2.2), .ref ac, .int (nI c.1), .int (nI c.2.1), .int c.2.2.1, .int (bI c.2.2.2), .int (bI b), .int k, .int (nI (t.1 + (1 + 4))), .int (nI t.2.1), .int t.2.2, .int (nI en), .ref ag, .ref am])), (al, .inl (cI, 1600, .inl o.1)), (aw, .inl (cI, 1024, .inl o.2.2.1)), (ac, .inl (cI, 40, .inl f)), (ag, .inl (cI, 1600, .inl gt)), (am, .inl (cI, 40, .inl md))] := hD
                        refine lv_aload_n hx hb d_Mo_header_167 rfl (lv_at hl 4 rfl) ?_
                        refine lv_iload_n hx hb d_Mo_header_168 rfl (lv_at hl 1 rfl) ?_
                        refine x_topi (y := nI ((c_cnt o t.1 4).toNatClampNeg)) (by rw [e_i]; exact nI_clampI c_140) ?_
                        refine va_put (D := D) (ci := 4) (v := .int (nI ((c_cnt o t.1 4).toNatClampNeg))) (ty := .int) (C := R_Mo) (T := F_Mo) (N := 18) hx hb hW in_Mo t_Mo t_Mo_ok nm_Mo hown hK hP hD hS 0 rfl rfl 13 (by decide) (hW _ mw_577) (fun _ h9 => h9) rfl (by decide +kernel) (rfl) (rfl) (Nat.le_of_ble_eq_true rfl) d_Mo_header_169 (fun H locs hP hD hS => ?_)
                        have hP : va_P D vwCl [(a0, .inr (4, [.ref al, .int (nI o.2.1), .ref aw, .int (nI o.2.2.2.1), .int (bI o.2.2.2.2), .ref ac, .int (nI c.1), .int (nI c.2.1), .int c.2.2.1, .int (bI c.2.2.2), .int (bI b), .int k, .int (nI (t.1 + (1 + 4))), .int (nI ((c_cnt o t.1 4).toNatClampNeg)), .int t.2.2, .int (nI en), .ref ag, .ref am])), (al, .inl (cI, 1600, .inl o.1)), (aw, .inl (cI, 1024, .inl o.2.2.1)), (ac, .inl (cI, 40, .inl f)), (ag, .inl (cI, 1600, .inl gt)), (am, .inl (cI, 40, .inl md))] H := hP
                        have hD : va_D A [(a0, .inr (4, [.ref al, .int (nI o.2.1), .ref aw, .int (nI o.2.2.2.1), .int (bI o.2.2.2.2), .ref ac, .int (nI c.1), .int (nI c.2.1), .int c.2.2.1, .int (bI c.2.2.2), .int (bI b), .int k, .int (nI (t.1 + (1 + 4))), .int (nI ((c_cnt o t.1 4).toNatClampNeg)), .int t.2.2, .int (nI en), .ref ag, .ref am])), (al, .inl (cI, 1600, .inl o.1)), (aw, .inl (cI, 1024, .inl o.2.2.1)), (ac, .inl (cI, 40, .inl f)), (ag, .inl (cI, 1600, .inl gt)), (am, .inl (cI, 40, .inl md))] := hD
                        refine lv_goto (tgt := 200) hx hb d_Mo_header_172 (by decide) ?_
                        exact W.vret hx hb hr (fun t9 ht9 hW9 => ⟨⟨(((t.1 + (1 + 4), (c_cnt o t.1 4).toNatClampNeg, t.2.2), en) : T3 × Nat), rfl, by rw [hd_z (z := 4) e_b h_b (Or.inr ⟨by omega, rfl⟩), if_neg (fun q => q.elim (fun r => absurd r (by omega)) (fun r => absurd c_140 (by rw [Int32.not_le]; exact r))), hen], by rw [ht9]; exact hP.sub [0, 1, 2, 3, 4, 5] rfl, va_K.moved hW9.alike hK, hD.sub [0, 1, 2, 3, 4, 5] (by decide) rfl⟩, hS.F ht9⟩) hS.2.2 d_Mo_header_200
                    · refine lv_aload_n hx hb d_Mo_header_143 rfl (lv_at hl 4 rfl) ?_
                      refine lv_iconst (v := 2) hx hb d_Mo_header_144 (by decide) ?_
                      refine x_topi (y := nI 2) (by decide) ?_
                      refine va_put (D := D) (ci := 4) (v := .int (nI 2)) (ty := .int) (C := R_Mo) (T := F_Mo) (N := 18) hx hb hW in_Mo t_Mo t_Mo_ok nm_Mo hown hK hP hD hS 0 rfl rfl 15 (by decide) (hW _ mw_579) (fun _ h9 => h9) rfl (by decide +kernel) (rfl) (rfl) (Nat.le_of_ble_eq_true rfl) d_Mo_header_145 (fun H locs hP hD hS => ?_)
                      have hP : va_P D vwCl [(a0, .inr (4, [.ref al, .int (nI o.2.1), .ref aw, .int (nI o.2.2.2.1), .int (bI o.2.2.2.2), .ref ac, .int (nI c.1), .int (nI c.2.1), .int c.2.2.1, .int (bI c.2.2.2), .int (bI b), .int k, .int (nI t.1), .int (nI t.2.1), .int t.2.2, .int (nI 2), .ref ag, .ref am])), (al, .inl (cI, 1600, .inl o.1)), (aw, .inl (cI, 1024, .inl o.2.2.1)), (ac, .inl (cI, 40, .inl f)), (ag, .inl (cI, 1600, .inl gt)), (am, .inl (cI, 40, .inl md))] H := hP
                      have hD : va_D A [(a0, .inr (4, [.ref al, .int (nI o.2.1), .ref aw, .int (nI o.2.2.2.1), .int (bI o.2.2.2.2), .ref ac, .int (nI c.1), .int (nI c.2.1), .int c.2.2.1, .int (bI c.2.2.2), .int (bI b), .int k, .int (nI t.1), .int (nI t.2.1), .int t.2.2, .int (nI 2), .ref ag, .ref am])), (al, .inl (cI, 1600, .inl o.1)), (aw, .inl (cI, 1024, .inl o.2.2.1)), (ac, .inl (cI, 40, .inl f)), (ag, .inl (cI, 1600, .inl gt)), (am, .inl (cI, 40, .inl md))] := hD
                      refine lv_aload_n hx hb d_Mo_header_148 rfl (lv_at hl 4 rfl) ?_
                      refine va_get (D := D) (ci := 4) (v := .int (nI 2)) (C := R_Mo) (T := F_Mo) (N := 18) hx hb hW in_Mo hown hK hP 0 rfl rfl 15 (by decide) (hW _ mw_579) (fun _ h9 => h9) rfl d_Mo_header_149 ?_
                      refine lv_if_ne (tgt := 172) hx hb d_Mo_header_152 (by decide) (fun c_152 => ?_) (fun c_152 => ?_)
                      · replace c_152 := mt (cg_eq 2 0 rfl rfl (by omega) (by omega)).mpr c_152
                        refine lv_goto (tgt := 200) hx hb d_Mo_header_172 (by decide) ?_
                        exact W.vret hx hb hr (fun t9 ht9 hW9 => ⟨⟨((t, 2) : T3 × Nat), rfl, by first | (rw [hd_z (z := 4) e_b h_b (Or.inr ⟨by omega, rfl⟩), if_pos (Or.inl (by omega))]; done) | (rw [hd_z (z := 4) e_b h_b (Or.inr ⟨by omega, rfl⟩), if_pos (Or.inr (by rw [← Int32.not_le]; exact c_140))]; done), by rw [ht9]; exact hP.sub [0, 1, 2, 3, 4, 5] rfl, va_K.moved hW9.alike hK, hD.sub [0, 1, 2, 3, 4, 5] (by decide) rfl⟩, hS.F ht9⟩) hS.2.2 d_Mo_header_200
                      · replace c_152 := (cg_eq 2 0 rfl rfl (by omega) (by omega)).mp c_152
                        exact absurd (show (2 : Nat) = 0 by omega) (by decide)
                  · replace c_104 := mt (cg_lt 4 (i + 1) rfl rfl (by omega) (by omega)).mpr c_104
                    refine lv_aload_n hx hb d_Mo_header_107 rfl (lv_at hl 4 rfl) ?_
                    refine va_get (D := D) (ci := 4) (v := .int (nI en)) (C := R_Mo) (T := F_Mo) (N := 18) hx hb hW in_Mo hown hK hP 0 rfl rfl 15 (by decide) (hW _ mw_579) (fun _ h9 => h9) rfl d_Mo_header_108 ?_
                    refine lv_if_ne (tgt := 139) hx hb d_Mo_header_111 (by decide) (fun c_111 => ?_) (fun c_111 => ?_)
                    · replace c_111 := mt (cg_eq en 0 rfl rfl (by omega) (by omega)).mpr c_111
                      exact absurd hen (by omega)
                    · replace c_111 := (cg_eq en 0 rfl rfl (by omega) (by omega)).mp c_111
                      refine lv_iload_n hx hb d_Mo_header_114 rfl (lv_at hl 1 rfl) ?_
                      refine lv_sipush (v := 256) hx hb d_Mo_header_115 (by decide) ?_
                      refine lv_imul hx hb d_Mo_header_118 ?_
                      refine lv_aload_n hx hb d_Mo_header_119 rfl (lv_at hl 4 rfl) ?_
                      refine va_get (D := D) (ci := 4) (v := .ref al) (C := R_Mo) (T := F_Mo) (N := 18) hx hb hW in_Mo hown hK hP 0 rfl rfl 0 (by decide) (hW _ mw_564) (fun _ h9 => h9) rfl d_Mo_header_120 ?_
                      refine lv_aload_n hx hb d_Mo_header_123 rfl (lv_at hl 4 rfl) ?_
                      refine va_get (D := D) (ci := 4) (v := .int (nI t.1)) (C := R_Mo) (T := F_Mo) (N := 18) hx hb hW in_Mo hown hK hP 0 rfl rfl 12 (by decide) (hW _ mw_576) (fun _ h9 => h9) rfl d_Mo_header_124 ?_
                      refine lv_iload hx hb d_Mo_header_127 (lv_at hl 0 rfl) ?_
                      refine lv_iadd hx hb d_Mo_header_129 ?_
                      refine x_topi (y := nI (t.1 + (i + 1))) (nI_add _ _) ?_
                      refine va_iald (D := D) hx hb hK hP 1 0 rfl rfl (vp_in_nI (by omega) (by decide)) d_Mo_header_130 ?_
                      refine x_topi (y := o.1 (t.1 + (i + 1))) (by rw [nI_clamp (by omega)]) ?_
                      refine x_topi (y := nI (n_at o.1 (t.1 + (i + 1)))) (n_at_eq hby (by omega)) ?_
                      refine lv_iadd hx hb d_Mo_header_131 ?_
                      refine x_topi (y := c_cnt o t.1 (i + 1)) (by obtain ⟨e9, h9⟩ := o_at_n hby (show t.1 + (i + 1) < o.2.1 by omega); rw [c_cnt, e9]; exact cnt_s _ h9) ?_
                      refine lv_istore_n (lv' := [(3, .int (c_cnt o t.1 (i + 1))), (4, .int (nI (i + 1))), (2, .int 4), (1, .int (nI (n_at o.1 t.1))), (0, .ref a0)]) hx hb d_Mo_header_132 rfl hl (by decide) rfl (fun ls hl => ?_)
                      refine lv_iinc (v := nI (i + 1 + 1)) (lv' := [(4, .int (nI (i + 1 + 1))), (3, .int (c_cnt o t.1 (i + 1))), (2, .int 4), (1, .int (nI (n_at o.1 t.1))), (0, .ref a0)]) hx hb d_Mo_header_133 hl (k := 1) rfl (nI_1 _) (by decide) rfl (fun ls hl => ?_)
                      refine lv_goto (tgt := 101) hx hb d_Mo_header_136 (by decide) ?_
                      exact ih (i + 1) (by omega) (by omega) H locs (hP.sub [0, 1, 2, 3, 4, 5] rfl) (hD.sub [0, 1, 2, 3, 4, 5] (by decide) rfl) hS ls (lv_sub hl [0, 1, 2, 3, 4] rfl)
              exact hlp_101 _ 0 (Nat.zero_le _) (Nat.lt_succ_self _) s.heap [] (hP.sub [0, 1, 2, 3, 4, 5] rfl) (hD.sub [0, 1, 2, 3, 4, 5] (by decide) rfl) hS ls (lv_sub hl [0, 1, 2, 3, 4] rfl)
            · replace c_90 := mt (cg_lt (t.1 + 4) o.2.1 rfl rfl (by omega) (by omega)).mpr c_90
              refine lv_aload_n hx hb d_Mo_header_93 rfl (lv_at hl 3 rfl) ?_
              refine lv_iconst (v := 2) hx hb d_Mo_header_94 (by decide) ?_
              refine x_topi (y := nI 2) (by decide) ?_
              refine va_put (D := D) (ci := 4) (v := .int (nI 2)) (ty := .int) (C := R_Mo) (T := F_Mo) (N := 18) hx hb hW in_Mo t_Mo t_Mo_ok nm_Mo hown hK hP hD hS 0 rfl rfl 15 (by decide) (hW _ mw_579) (fun _ h9 => h9) rfl (by decide +kernel) (rfl) (rfl) (Nat.le_of_ble_eq_true rfl) d_Mo_header_95 (fun H locs hP hD hS => ?_)
              have hP : va_P D vwCl [(a0, .inr (4, [.ref al, .int (nI o.2.1), .ref aw, .int (nI o.2.2.2.1), .int (bI o.2.2.2.2), .ref ac, .int (nI c.1), .int (nI c.2.1), .int c.2.2.1, .int (bI c.2.2.2), .int (bI b), .int k, .int (nI t.1), .int (nI t.2.1), .int t.2.2, .int (nI 2), .ref ag, .ref am])), (al, .inl (cI, 1600, .inl o.1)), (aw, .inl (cI, 1024, .inl o.2.2.1)), (ac, .inl (cI, 40, .inl f)), (ag, .inl (cI, 1600, .inl gt)), (am, .inl (cI, 40, .inl md))] H := hP
              have hD : va_D A [(a0, .inr (4, [.ref al, .int (nI o.2.1), .ref aw, .int (nI o.2.2.2.1), .int (bI o.2.2.2.2), .ref ac, .int (nI c.1), .int (nI c.2.1), .int c.2.2.1, .int (bI c.2.2.2), .int (bI b), .int k, .int (nI t.1), .int (nI t.2.1), .int t.2.2, .int (nI 2), .ref ag, .ref am])), (al, .inl (cI, 1600, .inl o.1)), (aw, .inl (cI, 1024, .inl o.2.2.1)), (ac, .inl (cI, 40, .inl f)), (ag, .inl (cI, 1600, .inl gt)), (am, .inl (cI, 40, .inl md))] := hD
              refine lv_iconst (v := 1) hx hb d_Mo_header_98 (by decide) ?_
              refine lv_istore (lv' := [(4, .int 1), (3, .int 0), (2, .int 4), (1, .int (nI (n_at o.1 t.1))), (0, .ref a0)]) hx hb d_Mo_header_99 hl (by decide) rfl (fun ls hl => ?_)
              refine lv_iload hx hb d_Mo_header_101 (lv_at hl 0 rfl) ?_
              refine lv_iload_n hx hb d_Mo_header_103 rfl (lv_at hl 2 rfl) ?_
              refine lv_icmp_gt (tgt := 139) hx hb d_Mo_header_104 (by decide) (fun c_104 => ?_) (fun c_104 => ?_)
              · exact absurd c_104 (by decide)
              · refine lv_aload_n hx hb d_Mo_header_107 rfl (lv_at hl 4 rfl) ?_
                refine va_get (D := D) (ci := 4) (v := .int (nI 2)) (C := R_Mo) (T := F_Mo) (N := 18) hx hb hW in_Mo hown hK hP 0 rfl rfl 15 (by decide) (hW _ mw_579) (fun _ h9 => h9) rfl d_Mo_header_108 ?_
                refine lv_if_ne (tgt := 139) hx hb d_Mo_header_111 (by decide) (fun c_111 => ?_) (fun c_111 => ?_)
                · replace c_111 := mt (cg_eq 2 0 rfl rfl (by omega) (by omega)).mpr c_111
                  refine lv_iload_n hx hb d_Mo_header_139 rfl (lv_at hl 1 rfl) ?_
                  refine lv_if_ge (tgt := 148) hx hb d_Mo_header_140 (by decide) (fun c_140 => ?_) (fun c_140 => ?_)
                  · refine lv_aload_n hx hb d_Mo_header_148 rfl (lv_at hl 4 rfl) ?_
                    refine va_get (D := D) (ci := 4) (v := .int (nI 2)) (C := R_Mo) (T := F_Mo) (N := 18) hx hb hW in_Mo hown hK hP 0 rfl rfl 15 (by decide) (hW _ mw_579) (fun _ h9 => h9) rfl d_Mo_header_149 ?_
                    refine lv_if_ne (tgt := 172) hx hb d_Mo_header_152 (by decide) (fun c_152 => ?_) (fun c_152 => ?_)
                    · replace c_152 := mt (cg_eq 2 0 rfl rfl (by omega) (by omega)).mpr c_152
                      refine lv_goto (tgt := 200) hx hb d_Mo_header_172 (by decide) ?_
                      exact W.vret hx hb hr (fun t9 ht9 hW9 => ⟨⟨((t, 2) : T3 × Nat), rfl, by first | (rw [hd_z (z := 4) e_b h_b (Or.inr ⟨by omega, rfl⟩), if_pos (Or.inl (by omega))]; done) | (rw [hd_z (z := 4) e_b h_b (Or.inr ⟨by omega, rfl⟩), if_pos (Or.inr (by rw [← Int32.not_le]; exact c_140))]; done), by rw [ht9]; exact hP.sub [0, 1, 2, 3, 4, 5] rfl, va_K.moved hW9.alike hK, hD.sub [0, 1, 2, 3, 4, 5] (by decide) rfl⟩, hS.F ht9⟩) hS.2.2 d_Mo_header_200
                    · replace c_152 := (cg_eq 2 0 rfl rfl (by omega) (by omega)).mp c_152
                      exact absurd (show (2 : Nat) = 0 by omega) (by decide)
                  · exact absurd c_140 (by decide)
                · replace c_111 := (cg_eq 2 0 rfl rfl (by omega) (by omega)).mp c_111
                  exact absurd (show (2 : Nat) = 0 by omega) (by decide)
          · replace c_69 := (cg_eq (n_at o.1 t.1) 119 rfl rfl (by omega) (by omega)).mp c_69
            exact absurd c_69 c_57
    · replace c_28 := (cg_eq (n_at o.1 t.1) 121 rfl rfl (by omega) (by omega)).mp c_28
      refine lv_aload_n hx hb d_Mo_header_31 rfl (lv_at hl 1 rfl) ?_
      refine lv_dup hx hb d_Mo_header_32 rfl ?_
      refine va_get (D := D) (ci := 4) (v := .int (nI t.1)) (C := R_Mo) (T := F_Mo) (N := 18) hx hb hW in_Mo hown hK hP 0 rfl rfl 12 (by decide) (hW _ mw_576) (fun _ h9 => h9) rfl d_Mo_header_33 ?_
      refine lv_iconst (v := 1) hx hb d_Mo_header_36 (by decide) ?_
      refine lv_iadd hx hb d_Mo_header_37 ?_
      refine x_topi (y := nI (t.1 + 1)) (nI_1 _) ?_
      refine va_put (D := D) (ci := 4) (v := .int (nI (t.1 + 1))) (ty := .int) (C := R_Mo) (T := F_Mo) (N := 18) hx hb hW in_Mo t_Mo t_Mo_ok nm_Mo hown hK hP hD hS 0 rfl rfl 12 (by decide) (hW _ mw_576) (fun _ h9 => h9) rfl (by decide +kernel) (rfl) (rfl) (Nat.le_of_ble_eq_true rfl) d_Mo_header_38 (fun H locs hP hD hS => ?_)
      have hP : va_P D vwCl [(a0, .inr (4, [.ref al, .int (nI o.2.1), .ref aw, .int (nI o.2.2.2.1), .int (bI o.2.2.2.2), .ref ac, .int (nI c.1), .int (nI c.2.1), .int c.2.2.1, .int (bI c.2.2.2), .int (bI b), .int k, .int (nI (t.1 + 1)), .int (nI t.2.1), .int t.2.2, .int (nI en), .ref ag, .ref am])), (al, .inl (cI, 1600, .inl o.1)), (aw, .inl (cI, 1024, .inl o.2.2.1)), (ac, .inl (cI, 40, .inl f)), (ag, .inl (cI, 1600, .inl gt)), (am, .inl (cI, 40, .inl md))] H := hP
      have hD : va_D A [(a0, .inr (4, [.ref al, .int (nI o.2.1), .ref aw, .int (nI o.2.2.2.1), .int (bI o.2.2.2.2), .ref ac, .int (nI c.1), .int (nI c.2.1), .int c.2.2.1, .int (bI c.2.2.2), .int (bI b), .int k, .int (nI (t.1 + 1)), .int (nI t.2.1), .int t.2.2, .int (nI en), .ref ag, .ref am])), (al, .inl (cI, 1600, .inl o.1)), (aw, .inl (cI, 1024, .inl o.2.2.1)), (ac, .inl (cI, 40, .inl f)), (ag, .inl (cI, 1600, .inl gt)), (am, .inl (cI, 40, .inl md))] := hD
      refine lv_aload_n hx hb d_Mo_header_41 rfl (lv_at hl 1 rfl) ?_
      refine lv_dup hx hb d_Mo_header_42 rfl ?_
      refine va_get (D := D) (ci := 4) (v := .int t.2.2) (C := R_Mo) (T := F_Mo) (N := 18) hx hb hW in_Mo hown hK hP 0 rfl rfl 14 (by decide) (hW _ mw_578) (fun _ h9 => h9) rfl d_Mo_header_43 ?_
      refine lv_iconst (v := 1) hx hb d_Mo_header_46 (by decide) ?_
      refine lv_iadd hx hb d_Mo_header_47 ?_
      refine va_put (D := D) (ci := 4) (v := .int (t.2.2 + 1)) (ty := .int) (C := R_Mo) (T := F_Mo) (N := 18) hx hb hW in_Mo t_Mo t_Mo_ok nm_Mo hown hK hP hD hS 0 rfl rfl 14 (by decide) (hW _ mw_578) (fun _ h9 => h9) rfl (by decide +kernel) (rfl) (rfl) (Nat.le_of_ble_eq_true rfl) d_Mo_header_48 (fun H locs hP hD hS => ?_)
      have hP : va_P D vwCl [(a0, .inr (4, [.ref al, .int (nI o.2.1), .ref aw, .int (nI o.2.2.2.1), .int (bI o.2.2.2.2), .ref ac, .int (nI c.1), .int (nI c.2.1), .int c.2.2.1, .int (bI c.2.2.2), .int (bI b), .int k, .int (nI (t.1 + 1)), .int (nI t.2.1), .int (t.2.2 + 1), .int (nI en), .ref ag, .ref am])), (al, .inl (cI, 1600, .inl o.1)), (aw, .inl (cI, 1024, .inl o.2.2.1)), (ac, .inl (cI, 40, .inl f)), (ag, .inl (cI, 1600, .inl gt)), (am, .inl (cI, 40, .inl md))] H := hP
      have hD : va_D A [(a0, .inr (4, [.ref al, .int (nI o.2.1), .ref aw, .int (nI o.2.2.2.1), .int (bI o.2.2.2.2), .ref ac, .int (nI c.1), .int (nI c.2.1), .int c.2.2.1, .int (bI c.2.2.2), .int (bI b), .int k, .int (nI (t.1 + 1)), .int (nI t.2.1), .int (t.2.2 + 1), .int (nI en), .ref ag, .ref am])), (al, .inl (cI, 1600, .inl o.1)), (aw, .inl (cI, 1024, .inl o.2.2.1)), (ac, .inl (cI, 40, .inl f)), (ag, .inl (cI, 1600, .inl gt)), (am, .inl (cI, 40, .inl md))] := hD
      refine lv_goto (tgt := 200) hx hb d_Mo_header_51 (by decide) ?_
      exact W.vret hx hb hr (fun t9 ht9 hW9 => ⟨⟨(((t.1 + 1, t.2.1, t.2.2 + 1), en) : T3 × Nat), rfl, by rw [hd_r e_b h_b c_28, hen], by rw [ht9]; exact hP.sub [0, 1, 2, 3, 4, 5] rfl, va_K.moved hW9.alike hK, hD.sub [0, 1, 2, 3, 4, 5] (by decide) rfl⟩, hS.F ht9⟩) hS.2.2 d_Mo_header_200
set_option maxHeartbeats 4000000 in
set_option maxRecDepth 100000 in
theorem k_Mo_nextByte (l : Launch) (D : va_G) (g : GP) (a0 al aw ac ag am : Nat) (cI : ClassId) (o : OS) (c : CS) (f : Nat → Int32) (b : Bool) (k : Int32) (t : T3) (en : Nat) (gt md : Nat → Int32) (ho : o_ok o) (hby : o_by o) (htc : c_ok o (cs t c.2.2.2)) (hen : en = 0) (sz : Nat) : Met l y_Mo_nextByte (.code y_Mo_nextByte c_Mo_nextByte 2 (some .int) :: xW) ({ frames := 1, cells := 0, slots := 0, locals := 24 }) (xPc (gZ g) D vwCl [.ref a0] [(a0, .inr (4, [.ref al, .int (nI o.2.1), .ref aw, .int (nI o.2.2.2.1), .int (bI o.2.2.2.2), .ref ac, .int (nI c.1), .int (nI c.2.1), .int c.2.2.1, .int (bI c.2.2.2), .int (bI b), .int k, .int (nI t.1), .int (nI t.2.1), .int t.2.2, .int (nI en), .ref ag, .ref am])), (al, .inl (cI, 1600, .inl o.1)), (aw, .inl (cI, 1024, .inl o.2.2.1)), (ac, .inl (cI, 40, .inl f)), (ag, .inl (cI, 1600, .inl gt)), (am, .inl (cI, 40, .inl md))] [(cI, .int)] sz) (va_Qi (fun (r : Int32) (u : T3 × Nat) => r = nbv (c_next o (cs t c.2.2.2)).1 ∧ u = (t3 (c_next o (cs t c.2.2.2)).2, nbe (c_next o (cs t c.2.2.2)).1)) (xB D vwCl [(cI, .int)] (fun u : T3 × Nat => [(a0, .inr (4, [.ref al, .int (nI o.2.1), .ref aw, .int (nI o.2.2.2.1), .int (bI o.2.2.2.2), .ref ac, .int (nI c.1), .int (nI c.2.1), .int c.2.2.1, .int (bI c.2.2.2), .int (bI b), .int k, .int (nI u.1.1), .int (nI u.1.2.1), .int u.1.2.2, .int (nI u.2), .ref ag, .ref am])), (al, .inl (cI, 1600, .inl o.1)), (aw, .inl (cI, 1024, .inl o.2.2.1)), (ac, .inl (cI, 40, .inl f)), (ag, .inl (cI, 1600, .inl gt)), (am, .inl (cI, 40, .inl md))]) (va_A [(a0, .inr (4, [.ref al, .int (nI o.2.1), .ref aw, .int (nI o.2.2.2.1), .int (bI o.2.2.2.2), .ref ac, .int (nI c.1), .int (nI c.2.1), .int c.2.2.1, .int (bI c.2.2.2), .int (bI b), .int k, .int (nI t.1), .int (nI t.2.1), .int t.2.2, .int (nI en), .ref ag, .ref am])), (al, .inl (cI, 1600, .inl o.1)), (aw, .inl (cI, 1024, .inl o.2.2.1)), (ac, .inl (cI, 40, .inl f)), (ag, .inl (cI, 1600, .inl gt)), (am, .inl (cI, 40, .inl md))] sz)) (va_A [(a0, .inr (4, [.ref al, .int (nI o.2.1), .ref aw, .int (nI o.2.2.2.1), .int (bI o.2.2.2.2), .ref ac, .int (nI c.1), .int (nI c.2.1), .int c.2.2.1, .int (bI c.2.2.2), .int (bI b), .int k, .int (nI t.1), .int (nI t.2.1), .int t.2.2, .int (nI en), .ref ag, .ref am])), (al, .inl (cI, 1600, .inl o.1)), (aw, .inl (cI, 1024, .inl o.2.2.1)), (ac, .inl (cI, 40, .inl f)), (ag, .inl (cI, 1600, .inl gt)), (am, .inl (cI, 40, .inl md))] sz)) 0 0 (va_A [(a0, .inr (4, [.ref al, .int (nI o.2.1), .ref aw, .int (nI o.2.2.2.1), .int (bI o.2.2.2.2), .ref ac, .int (nI c.1), .int (nI c.2.1), .int c.2.2.1, .int (bI c.2.2.2), .int (bI b), .int k, .int (nI t.1), .int (nI t.2.1), .int t.2.2, .int (nI en), .ref ag, .ref am])), (al, .inl (cI, 1600, .inl o.1)), (aw, .inl (cI, 1024, .inl o.2.2.1)), (ac, .inl (cI, 40, .inl f)), (ag, .inl (cI, 1600, .inl gt)), (am, .inl (cI, 40, .inl md))] sz) := by
  refine x_open (Qc := fun A => va_Qi (fun (r : Int32) (u : T3 × Nat) => r = nbv (c_next o (cs t c.2.2.2)).1 ∧ u = (t3 (c_next o (cs t c.2.2.2)).2, nbe (c_next o (cs t c.2.2.2)).1)) (xB D vwCl [(cI, .int)] (fun u : T3 × Nat => [(a0, .inr (4, [.ref al, .int (nI o.2.1), .ref aw, .int (nI o.2.2.2.1), .int (bI o.2.2.2.2), .ref ac, .int (nI c.1), .int (nI c.2.1), .int c.2.2.1, .int (bI c.2.2.2), .int (bI b), .int k, .int (nI u.1.1), .int (nI u.1.2.1), .int u.1.2.2, .int (nI u.2), .ref ag, .ref am])), (al, .inl (cI, 1600, .inl o.1)), (aw, .inl (cI, 1024, .inl o.2.2.1)), (ac, .inl (cI, 40, .inl f)), (ag, .inl (cI, 1600, .inl gt)), (am, .inl (cI, 40, .inl md))]) A) A) (cc := c_Mo_nextByte) (maxL := 2) (ret := (some .int)) (own := R_Mo) (by decide) rfl rfl (Nat.le_of_ble_eq_true rfl) ?_
  intro p e s m below meth cd A ls hsz hAe hx hb hr hml hown hts hlk hnm hA hP hK hD hS hZ hl
  clear hsz hAe
  have hW : ∀ w ∈ xW, w.before _ s = true := fun w h => hts w (List.mem_cons_of_mem _ h)
  have hl : lv_has ls 2 [(0, .ref a0)] := hl
  obtain ⟨ho1, ho2⟩ := id ho
  refine lv_iconst (v := 0) hx hb d_Mo_nextByte_0 (by decide) ?_
  refine lv_istore_n (lv' := [(1, .int 0), (0, .ref a0)]) hx hb d_Mo_nextByte_1 rfl hl (by decide) rfl (fun ls hl => ?_)
  have hlp_2 : ∀ (n : Nat) (i : Nat) (w9 : T3) (e9 : Nat), (c_ok o (cs w9 c.2.2.2)) → (e9 ≤ 2) → (i ≤ 1600) → (e9 = 0 → i + (o.2.1 - w9.1) ≤ 1507) → (c.2.2.2 = false → w9 = t) → (c.2.2.2 = false → e9 = 0) → ((if e9 = 0 then c_find o (o.2.1 - w9.1) (cs w9 c.2.2.2) else fi2 c.2.2.2 w9 e9) = c_find o (o.2.1 - t.1) (cs t c.2.2.2)) → 1600 - i < n → ∀ (H : Heap) (locs : List Loc), va_P D vwCl [(a0, .inr (4, [.ref al, .int (nI o.2.1), .ref aw, .int (nI o.2.2.2.1), .int (bI o.2.2.2.2), .ref ac, .int (nI c.1), .int (nI c.2.1), .int c.2.2.1, .int (bI c.2.2.2), .int (bI b), .int k, .int (nI w9.1), .int (nI w9.2.1), .int w9.2.2, .int (nI e9), .ref ag, .ref am])), (al, .inl (cI, 1600, .inl o.1)), (aw, .inl (cI, 1024, .inl o.2.2.1)), (ac, .inl (cI, 40, .inl f)), (ag, .inl (cI, 1600, .inl gt)), (am, .inl (cI, 40, .inl md))] H → va_D A [(a0, .inr (4, [.ref al, .int (nI o.2.1), .ref aw, .int (nI o.2.2.2.1), .int (bI o.2.2.2.2), .ref ac, .int (nI c.1), .int (nI c.2.1), .int c.2.2.1, .int (bI c.2.2.2), .int (bI b), .int k, .int (nI w9.1), .int (nI w9.2.1), .int w9.2.2, .int (nI e9), .ref ag, .ref am])), (al, .inl (cI, 1600, .inl o.1)), (aw, .inl (cI, 1024, .inl o.2.2.1)), (ac, .inl (cI, 40, .inl f)), (ag, .inl (cI, 1600, .inl gt)), (am, .inl (cI, 40, .inl md))] → va_S A s.heap H locs → ∀ (ls : Array Slot), lv_has ls 2 [(1, .int (nI i)), (0, .ref a0)] → W p l e ({ frames := 1, cells := 0, slots := 0, locals := 24 }) s m [.ref a0].toArray below meth cd H locs 0 0 (MQ below ((fun A => va_Qi (fun (r : Int32) (u : T3 × Nat) => r = nbv (c_next o (cs t c.2.2.2)).1 ∧ u = (t3 (c_next o (cs t c.2.2.2)).2, nbe (c_next o (cs t c.2.2.2)).1)) (xB D vwCl [(cI, .int)] (fun u : T3 × Nat => [(a0, .inr (4, [.ref al, .int (nI o.2.1), .ref aw, .int (nI o.2.2.2.1), .int (bI o.2.2.2.2), .ref ac, .int (nI c.1), .int (nI c.2.1), .int c.2.2.1, .int (bI c.2.2.2), .int (bI b), .int k, .int (nI u.1.1), .int (nI u.1.2.1), .int u.1.2.2, .int (nI u.2), .ref ag, .ref am])), (al, .inl (cI, 1600, .inl o.1)), (aw, .inl (cI, 1024, .inl o.2.2.1)), (ac, .inl (cI, 40, .inl f)), (ag, .inl (cI, 1600, .inl gt)), (am, .inl (cI, 40, .inl md))]) A) A) A) [.ref a0].toArray s 0 0 A) (F0 m 2 ls []) := by
    intro n
    induction n with
    | zero => intro i w9 e9 hd h9 hi hfu hinit hinit2 he hms; exact absurd hms (Nat.not_lt_zero _)
    | succ n ih =>
      intro i w9 e9 hd h9 hi hfu hinit hinit2 he hms H locs hP hD hS ls hl
      have hd1 : w9.1 ≤ o.2.1 := hd.1
      have hd2 : w9.2.1 < 2 ^ 31 := hd.2
      refine lv_aload_n hx hb d_Mo_nextByte_2 rfl (lv_at hl 1 rfl) ?_
      refine va_get (D := D) (ci := 4) (v := .int (bI c.2.2.2)) (C := R_Mo) (T := F_Mo) (N := 18) hx hb hW in_Mo hown hK hP 0 rfl rfl 9 (by decide) (hW _ mw_573) (fun _ h9 => h9) rfl d_Mo_nextByte_3 ?_
      refine lv_if_eq (tgt := 40) hx hb d_Mo_nextByte_6 (by decide) (fun c_6 => ?_) (fun c_6 => ?_)
      · rw [bI_0] at c_6
        have e_l : c_look o (cs t c.2.2.2) = (0, cs w9 c.2.2.2) := by rw [hinit c_6, c_look, if_neg (by show ¬ c.2.2.2 = true; rw [c_6]; decide)]
        have e_e : e9 = 0 := hinit2 c_6
        refine lv_aload_n hx hb d_Mo_nextByte_40 rfl (lv_at hl 1 rfl) ?_
        refine va_get (D := D) (ci := 4) (v := .int (nI e9)) (C := R_Mo) (T := F_Mo) (N := 18) hx hb hW in_Mo hown hK hP 0 rfl rfl 15 (by decide) (hW _ mw_579) (fun _ h9 => h9) rfl d_Mo_nextByte_41 ?_
        refine lv_if_ne (tgt := 63) hx hb d_Mo_nextByte_44 (by decide) (fun c_44 => ?_) (fun c_44 => ?_)
        · replace c_44 := mt (cg_eq e9 0 rfl rfl (by omega) (by omega)).mpr c_44
          exact absurd e_e c_44
        · replace c_44 := (cg_eq e9 0 rfl rfl (by omega) (by omega)).mp c_44
          have e_e0 : e9 = 0 := c_44
          refine lv_aload_n hx hb d_Mo_nextByte_47 rfl (lv_at hl 1 rfl) ?_
          refine va_get (D := D) (ci := 4) (v := .int (nI w9.1)) (C := R_Mo) (T := F_Mo) (N := 18) hx hb hW in_Mo hown hK hP 0 rfl rfl 12 (by decide) (hW _ mw_576) (fun _ h9 => h9) rfl d_Mo_nextByte_48 ?_
          refine lv_aload_n hx hb d_Mo_nextByte_51 rfl (lv_at hl 1 rfl) ?_
          refine va_get (D := D) (ci := 4) (v := .int (nI o.2.1)) (C := R_Mo) (T := F_Mo) (N := 18) hx hb hW in_Mo hown hK hP 0 rfl rfl 1 (by decide) (hW _ mw_565) (fun _ h9 => h9) rfl d_Mo_nextByte_52 ?_
          refine lv_icmp_lt (tgt := 63) hx hb d_Mo_nextByte_55 (by decide) (fun c_55 => ?_) (fun c_55 => ?_)
          · replace c_55 := (cg_lt w9.1 o.2.1 rfl rfl (by omega) (by omega)).mp c_55
            refine lv_aload_n hx hb d_Mo_nextByte_63 rfl (lv_at hl 1 rfl) ?_
            refine va_get (D := D) (ci := 4) (v := .int (nI e9)) (C := R_Mo) (T := F_Mo) (N := 18) hx hb hW in_Mo hown hK hP 0 rfl rfl 15 (by decide) (hW _ mw_579) (fun _ h9 => h9) rfl d_Mo_nextByte_64 ?_
            refine lv_if_le (tgt := 72) hx hb d_Mo_nextByte_67 (by decide) (fun c_67 => ?_) (fun c_67 => ?_)
            · replace c_67 := (cg_le e9 0 rfl rfl (by omega) (by omega)).mp c_67
              refine lv_aload_n hx hb d_Mo_nextByte_72 rfl (lv_at hl 1 rfl) ?_
              refine va_get (D := D) (ci := 4) (v := .int (bI c.2.2.2)) (C := R_Mo) (T := F_Mo) (N := 18) hx hb hW in_Mo hown hK hP 0 rfl rfl 9 (by decide) (hW _ mw_573) (fun _ h9 => h9) rfl d_Mo_nextByte_73 ?_
              refine lv_if_eq (tgt := 89) hx hb d_Mo_nextByte_76 (by decide) (fun c_76 => ?_) (fun c_76 => ?_)
              · rw [bI_0] at c_76
                refine lv_aload_n hx hb d_Mo_nextByte_89 rfl (lv_at hl 1 rfl) ?_
                refine lv_dup hx hb d_Mo_nextByte_90 rfl ?_
                refine va_get (D := D) (ci := 4) (v := .int (nI w9.1)) (C := R_Mo) (T := F_Mo) (N := 18) hx hb hW in_Mo hown hK hP 0 rfl rfl 12 (by decide) (hW _ mw_576) (fun _ h9 => h9) rfl d_Mo_nextByte_91 ?_
                refine lv_iconst (v := 1) hx hb d_Mo_nextByte_94 (by decide) ?_
                refine lv_iadd hx hb d_Mo_nextByte_95 ?_
                refine x_topi (y := nI (w9.1 + 1)) (nI_1 _) ?_
                refine va_put (D := D) (ci := 4) (v := .int (nI (w9.1 + 1))) (ty := .int) (C := R_Mo) (T := F_Mo) (N := 18) hx hb hW in_Mo t_Mo t_Mo_ok nm_Mo hown hK hP hD hS 0 rfl rfl 12 (by decide) (hW _ mw_576) (fun _ h9 => h9) rfl (by decide +kernel) (rfl) (rfl) (Nat.le_of_ble_eq_true rfl) d_Mo_nextByte_96 (fun H locs hP hD hS => ?_)
                have hP : va_P D vwCl [(a0, .inr (4, [.ref al, .int (nI o.2.1), .ref aw, .int (nI o.2.2.2.1), .int (bI o.2.2.2.2), .ref ac, .int (nI c.1), .int (nI c.2.1), .int c.2.2.1, .int (bI c.2.2.2), .int (bI b), .int k, .int (nI (w9.1 + 1)), .int (nI w9.2.1), .int w9.2.2, .int (nI e9), .ref ag, .ref am])), (al, .inl (cI, 1600, .inl o.1)), (aw, .inl (cI, 1024, .inl o.2.2.1)), (ac, .inl (cI, 40, .inl f)), (ag, .inl (cI, 1600, .inl gt)), (am, .inl (cI, 40, .inl md))] H := hP
                have hD : va_D A [(a0, .inr (4, [.ref al, .int (nI o.2.1), .ref aw, .int (nI o.2.2.2.1), .int (bI o.2.2.2.2), .ref ac, .int (nI c.1), .int (nI c.2.1), .int c.2.2.1, .int (bI c.2.2.2), .int (bI b), .int k, .int (nI (w9.1 + 1)), .int (nI w9.2.1), .int w9.2.2, .int (nI e9), .ref ag, .ref am])), (al, .inl (cI, 1600, .inl o.1)), (aw, .inl (cI, 1024, .inl o.2.2.1)), (ac, .inl (cI, 40, .inl f)), (ag, .inl (cI, 1600, .inl gt)), (am, .inl (cI, 40, .inl md))] := hD
                refine lv_aload_n hx hb d_Mo_nextByte_99 rfl (lv_at hl 1 rfl) ?_
                refine va_get (D := D) (ci := 4) (v := .ref al) (C := R_Mo) (T := F_Mo) (N := 18) hx hb hW in_Mo hown hK hP 0 rfl rfl 0 (by decide) (hW _ mw_564) (fun _ h9 => h9) rfl d_Mo_nextByte_100 ?_
                refine lv_aload_n hx hb d_Mo_nextByte_103 rfl (lv_at hl 1 rfl) ?_
                refine va_get (D := D) (ci := 4) (v := .int (nI (w9.1 + 1))) (C := R_Mo) (T := F_Mo) (N := 18) hx hb hW in_Mo hown hK hP 0 rfl rfl 12 (by decide) (hW _ mw_576) (fun _ h9 => h9) rfl d_Mo_nextByte_104 ?_
                refine lv_iconst (v := 1) hx hb d_Mo_nextByte_107 (by decide) ?_
                refine lv_isub hx hb d_Mo_nextByte_108 ?_
                refine x_topi (y := nI w9.1) (nI_pred _) ?_
                refine va_iald (D := D) hx hb hK hP 1 0 rfl rfl (vp_in_nI (by omega) (by decide)) d_Mo_nextByte_109 ?_
                refine x_topi (y := o.1 w9.1) (by rw [nI_clamp (by omega)]) ?_
                have q9 := nb_ok hby e_l (by omega)
                exact W.iret (v := o.1 w9.1) hx hb hr (fun t9 ht9 hW9 => ⟨⟨o.1 w9.1, (((w9.1 + 1, w9.2.1, w9.2.2), e9) : T3 × Nat), rfl, ⟨q9.1, by first | (rw [← q9.2.1, ← q9.2.2, if_pos c_76, show e9 = 0 by omega]; done) | (rw [← q9.2.1, ← q9.2.2, if_neg (by rw [c_76]; decide), show e9 = 0 by omega]; done)⟩, by rw [ht9]; exact hP.sub [0, 1, 2, 3, 4, 5] rfl, va_K.moved hW9.alike hK, hD.sub [0, 1, 2, 3, 4, 5] (by decide) rfl⟩, hS.F ht9⟩) hS.2.2 d_Mo_nextByte_110
              · rw [bI_n0] at c_76
                exact absurd c_76 (by rw [c_6]; decide)
            · replace c_67 := mt (cg_le e9 0 rfl rfl (by omega) (by omega)).mpr c_67
              exact absurd c_67 (by omega)
          · replace c_55 := mt (cg_lt w9.1 o.2.1 rfl rfl (by omega) (by omega)).mpr c_55
            refine lv_aload_n hx hb d_Mo_nextByte_58 rfl (lv_at hl 1 rfl) ?_
            refine lv_iconst (v := 1) hx hb d_Mo_nextByte_59 (by decide) ?_
            refine x_topi (y := nI 1) (by decide) ?_
            refine va_put (D := D) (ci := 4) (v := .int (nI 1)) (ty := .int) (C := R_Mo) (T := F_Mo) (N := 18) hx hb hW in_Mo t_Mo t_Mo_ok nm_Mo hown hK hP hD hS 0 rfl rfl 15 (by decide) (hW _ mw_579) (fun _ h9 => h9) rfl (by decide +kernel) (rfl) (rfl) (Nat.le_of_ble_eq_true rfl) d_Mo_nextByte_60 (fun H locs hP hD hS => ?_)
            have hP : va_P D vwCl [(a0, .inr (4, [.ref al, .int (nI o.2.1), .ref aw, .int (nI o.2.2.2.1), .int (bI o.2.2.2.2), .ref ac, .int (nI c.1), .int (nI c.2.1), .int c.2.2.1, .int (bI c.2.2.2), .int (bI b), .int k, .int (nI w9.1), .int (nI w9.2.1), .int w9.2.2, .int (nI 1), .ref ag, .ref am])), (al, .inl (cI, 1600, .inl o.1)), (aw, .inl (cI, 1024, .inl o.2.2.1)), (ac, .inl (cI, 40, .inl f)), (ag, .inl (cI, 1600, .inl gt)), (am, .inl (cI, 40, .inl md))] H := hP
            have hD : va_D A [(a0, .inr (4, [.ref al, .int (nI o.2.1), .ref aw, .int (nI o.2.2.2.1), .int (bI o.2.2.2.2), .ref ac, .int (nI c.1), .int (nI c.2.1), .int c.2.2.1, .int (bI c.2.2.2), .int (bI b), .int k, .int (nI w9.1), .int (nI w9.2.1), .int w9.2.2, .int (nI 1), .ref ag, .ref am])), (al, .inl (cI, 1600, .inl o.1)), (aw, .inl (cI, 1024, .inl o.2.2.1)), (ac, .inl (cI, 40, .inl f)), (ag, .inl (cI, 1600, .inl gt)), (am, .inl (cI, 40, .inl md))] := hD
            refine lv_aload_n hx hb d_Mo_nextByte_63 rfl (lv_at hl 1 rfl) ?_
            refine va_get (D := D) (ci := 4) (v := .int (nI 1)) (C := R_Mo) (T := F_Mo) (N := 18) hx hb hW in_Mo hown hK hP 0 rfl rfl 15 (by decide) (hW _ mw_579) (fun _ h9 => h9) rfl d_Mo_nextByte_64 ?_
            refine lv_if_le (tgt := 72) hx hb d_Mo_nextByte_67 (by decide) (fun c_67 => ?_) (fun c_67 => ?_)
            · replace c_67 := (cg_le 1 0 rfl rfl (by omega) (by omega)).mp c_67
              exact absurd c_67 (by omega)
            · replace c_67 := mt (cg_le 1 0 rfl rfl (by omega) (by omega)).mpr c_67
              refine lv_iconst (v := 0) hx hb d_Mo_nextByte_70 (by decide) ?_
              exact W.iret (v := 0) hx hb hr (fun t9 ht9 hW9 => ⟨⟨0, ((w9, 1) : T3 × Nat), rfl, (fun q => ⟨q.1, Prod.ext q.2.1 q.2.2⟩) (nb_end e_l (by omega)), by rw [ht9]; exact hP.sub [0, 1, 2, 3, 4, 5] rfl, va_K.moved hW9.alike hK, hD.sub [0, 1, 2, 3, 4, 5] (by decide) rfl⟩, hS.F ht9⟩) hS.2.2 d_Mo_nextByte_71
      · rw [bI_n0] at c_6
        refine lv_aload_n hx hb d_Mo_nextByte_9 rfl (lv_at hl 1 rfl) ?_
        refine va_get (D := D) (ci := 4) (v := .int (nI w9.2.1)) (C := R_Mo) (T := F_Mo) (N := 18) hx hb hW in_Mo hown hK hP 0 rfl rfl 13 (by decide) (hW _ mw_577) (fun _ h9 => h9) rfl d_Mo_nextByte_10 ?_
        refine lv_if_ne (tgt := 40) hx hb d_Mo_nextByte_13 (by decide) (fun c_13 => ?_) (fun c_13 => ?_)
        · replace c_13 := mt (cg_eq w9.2.1 0 rfl rfl (by omega) (by omega)).mpr c_13
          have e_lf : c_look o (cs t c.2.2.2) = (if e9 = 0 then c_find o (o.2.1 - w9.1) (cs w9 c.2.2.2) else fi2 c.2.2.2 w9 e9) := by rw [he, c_look, if_pos (show (cs t c.2.2.2).2.2.2 = true from c_6)]; rfl
          refine lv_aload_n hx hb d_Mo_nextByte_40 rfl (lv_at hl 1 rfl) ?_
          refine va_get (D := D) (ci := 4) (v := .int (nI e9)) (C := R_Mo) (T := F_Mo) (N := 18) hx hb hW in_Mo hown hK hP 0 rfl rfl 15 (by decide) (hW _ mw_579) (fun _ h9 => h9) rfl d_Mo_nextByte_41 ?_
          refine lv_if_ne (tgt := 63) hx hb d_Mo_nextByte_44 (by decide) (fun c_44 => ?_) (fun c_44 => ?_)
          · replace c_44 := mt (cg_eq e9 0 rfl rfl (by omega) (by omega)).mpr c_44
            have e_l : c_look o (cs t c.2.2.2) = fi2 c.2.2.2 w9 e9 := by rw [e_lf, if_neg c_44]
            refine lv_aload_n hx hb d_Mo_nextByte_63 rfl (lv_at hl 1 rfl) ?_
            refine va_get (D := D) (ci := 4) (v := .int (nI e9)) (C := R_Mo) (T := F_Mo) (N := 18) hx hb hW in_Mo hown hK hP 0 rfl rfl 15 (by decide) (hW _ mw_579) (fun _ h9 => h9) rfl d_Mo_nextByte_64 ?_
            refine lv_if_le (tgt := 72) hx hb d_Mo_nextByte_67 (by decide) (fun c_67 => ?_) (fun c_67 => ?_)
            · replace c_67 := (cg_le e9 0 rfl rfl (by omega) (by omega)).mp c_67
              exact absurd c_67 (by omega)
            · replace c_67 := mt (cg_le e9 0 rfl rfl (by omega) (by omega)).mpr c_67
              refine lv_iconst (v := 0) hx hb d_Mo_nextByte_70 (by decide) ?_
              exact W.iret (v := 0) hx hb hr (fun t9 ht9 hW9 => ⟨⟨0, ((w9, e9) : T3 × Nat), rfl, (fun q => ⟨q.1, Prod.ext q.2.1 q.2.2⟩) (nb_f (by omega) h9 e_l), by rw [ht9]; exact hP.sub [0, 1, 2, 3, 4, 5] rfl, va_K.moved hW9.alike hK, hD.sub [0, 1, 2, 3, 4, 5] (by decide) rfl⟩, hS.F ht9⟩) hS.2.2 d_Mo_nextByte_71
          · replace c_44 := (cg_eq e9 0 rfl rfl (by omega) (by omega)).mp c_44
            have e_l : c_look o (cs t c.2.2.2) = (0, cs w9 c.2.2.2) := by rw [e_lf, if_pos c_44, c_find_0 (Or.inr c_13)]; exact congrArg (fun z => (z, cs w9 c.2.2.2)) (if_neg c_13)
            refine lv_aload_n hx hb d_Mo_nextByte_47 rfl (lv_at hl 1 rfl) ?_
            refine va_get (D := D) (ci := 4) (v := .int (nI w9.1)) (C := R_Mo) (T := F_Mo) (N := 18) hx hb hW in_Mo hown hK hP 0 rfl rfl 12 (by decide) (hW _ mw_576) (fun _ h9 => h9) rfl d_Mo_nextByte_48 ?_
            refine lv_aload_n hx hb d_Mo_nextByte_51 rfl (lv_at hl 1 rfl) ?_
            refine va_get (D := D) (ci := 4) (v := .int (nI o.2.1)) (C := R_Mo) (T := F_Mo) (N := 18) hx hb hW in_Mo hown hK hP 0 rfl rfl 1 (by decide) (hW _ mw_565) (fun _ h9 => h9) rfl d_Mo_nextByte_52 ?_
            refine lv_icmp_lt (tgt := 63) hx hb d_Mo_nextByte_55 (by decide) (fun c_55 => ?_) (fun c_55 => ?_)
            · replace c_55 := (cg_lt w9.1 o.2.1 rfl rfl (by omega) (by omega)).mp c_55
              refine lv_aload_n hx hb d_Mo_nextByte_63 rfl (lv_at hl 1 rfl) ?_
              refine va_get (D := D) (ci := 4) (v := .int (nI e9)) (C := R_Mo) (T := F_Mo) (N := 18) hx hb hW in_Mo hown hK hP 0 rfl rfl 15 (by decide) (hW _ mw_579) (fun _ h9 => h9) rfl d_Mo_nextByte_64 ?_
              refine lv_if_le (tgt := 72) hx hb d_Mo_nextByte_67 (by decide) (fun c_67 => ?_) (fun c_67 => ?_)
              · replace c_67 := (cg_le e9 0 rfl rfl (by omega) (by omega)).mp c_67
                refine lv_aload_n hx hb d_Mo_nextByte_72 rfl (lv_at hl 1 rfl) ?_
                refine va_get (D := D) (ci := 4) (v := .int (bI c.2.2.2)) (C := R_Mo) (T := F_Mo) (N := 18) hx hb hW in_Mo hown hK hP 0 rfl rfl 9 (by decide) (hW _ mw_573) (fun _ h9 => h9) rfl d_Mo_nextByte_73 ?_
                refine lv_if_eq (tgt := 89) hx hb d_Mo_nextByte_76 (by decide) (fun c_76 => ?_) (fun c_76 => ?_)
                · rw [bI_0] at c_76
                  exact absurd c_6 (by rw [c_76]; decide)
                · rw [bI_n0] at c_76
                  refine lv_aload_n hx hb d_Mo_nextByte_79 rfl (lv_at hl 1 rfl) ?_
                  refine lv_dup hx hb d_Mo_nextByte_80 rfl ?_
                  refine va_get (D := D) (ci := 4) (v := .int (nI w9.2.1)) (C := R_Mo) (T := F_Mo) (N := 18) hx hb hW in_Mo hown hK hP 0 rfl rfl 13 (by decide) (hW _ mw_577) (fun _ h9 => h9) rfl d_Mo_nextByte_81 ?_
                  refine lv_iconst (v := 1) hx hb d_Mo_nextByte_84 (by decide) ?_
                  refine lv_isub hx hb d_Mo_nextByte_85 ?_
                  refine x_topi (y := nI (w9.2.1 - 1)) (nI_pd (by omega)) ?_
                  refine va_put (D := D) (ci := 4) (v := .int (nI (w9.2.1 - 1))) (ty := .int) (C := R_Mo) (T := F_Mo) (N := 18) hx hb hW in_Mo t_Mo t_Mo_ok nm_Mo hown hK hP hD hS 0 rfl rfl 13 (by decide) (hW _ mw_577) (fun _ h9 => h9) rfl (by decide +kernel) (rfl) (rfl) (Nat.le_of_ble_eq_true rfl) d_Mo_nextByte_86 (fun H locs hP hD hS => ?_)
                  have hP : va_P D vwCl [(a0, .inr (4, [.ref al, .int (nI o.2.1), .ref aw, .int (nI o.2.2.2.1), .int (bI o.2.2.2.2), .ref ac, .int (nI c.1), .int (nI c.2.1), .int c.2.2.1, .int (bI c.2.2.2), .int (bI b), .int k, .int (nI w9.1), .int (nI (w9.2.1 - 1)), .int w9.2.2, .int (nI e9), .ref ag, .ref am])), (al, .inl (cI, 1600, .inl o.1)), (aw, .inl (cI, 1024, .inl o.2.2.1)), (ac, .inl (cI, 40, .inl f)), (ag, .inl (cI, 1600, .inl gt)), (am, .inl (cI, 40, .inl md))] H := hP
                  have hD : va_D A [(a0, .inr (4, [.ref al, .int (nI o.2.1), .ref aw, .int (nI o.2.2.2.1), .int (bI o.2.2.2.2), .ref ac, .int (nI c.1), .int (nI c.2.1), .int c.2.2.1, .int (bI c.2.2.2), .int (bI b), .int k, .int (nI w9.1), .int (nI (w9.2.1 - 1)), .int w9.2.2, .int (nI e9), .ref ag, .ref am])), (al, .inl (cI, 1600, .inl o.1)), (aw, .inl (cI, 1024, .inl o.2.2.1)), (ac, .inl (cI, 40, .inl f)), (ag, .inl (cI, 1600, .inl gt)), (am, .inl (cI, 40, .inl md))] := hD
                  refine lv_aload_n hx hb d_Mo_nextByte_89 rfl (lv_at hl 1 rfl) ?_
                  refine lv_dup hx hb d_Mo_nextByte_90 rfl ?_
                  refine va_get (D := D) (ci := 4) (v := .int (nI w9.1)) (C := R_Mo) (T := F_Mo) (N := 18) hx hb hW in_Mo hown hK hP 0 rfl rfl 12 (by decide) (hW _ mw_576) (fun _ h9 => h9) rfl d_Mo_nextByte_91 ?_
                  refine lv_iconst (v := 1) hx hb d_Mo_nextByte_94 (by decide) ?_
                  refine lv_iadd hx hb d_Mo_nextByte_95 ?_
                  refine x_topi (y := nI (w9.1 + 1)) (nI_1 _) ?_
                  refine va_put (D := D) (ci := 4) (v := .int (nI (w9.1 + 1))) (ty := .int) (C := R_Mo) (T := F_Mo) (N := 18) hx hb hW in_Mo t_Mo t_Mo_ok nm_Mo hown hK hP hD hS 0 rfl rfl 12 (by decide) (hW _ mw_576) (fun _ h9 => h9) rfl (by decide +kernel) (rfl) (rfl) (Nat.le_of_ble_eq_true rfl) d_Mo_nextByte_96 (fun H locs hP hD hS => ?_)
                  have hP : va_P D vwCl [(a0, .inr (4, [.ref al, .int (nI o.2.1), .ref aw, .int (nI o.2.2.2.1), .int (bI o.2.2.2.2), .ref ac, .int (nI c.1), .int (nI c.2.1), .int c.2.2.1, .int (bI c.2.2.2), .int (bI b), .int k, .int (nI (w9.1 + 1)), .int (nI (w9.2.1 - 1)), .int w9.2.2, .int (nI e9), .ref ag, .ref am])), (al, .inl (cI, 1600, .inl o.1)), (aw, .inl (cI, 1024, .inl o.2.2.1)), (ac, .inl (cI, 40, .inl f)), (ag, .inl (cI, 1600, .inl gt)), (am, .inl (cI, 40, .inl md))] H := hP
                  have hD : va_D A [(a0, .inr (4, [.ref al, .int (nI o.2.1), .ref aw, .int (nI o.2.2.2.1), .int (bI o.2.2.2.2), .ref ac, .int (nI c.1), .int (nI c.2.1), .int c.2.2.1, .int (bI c.2.2.2), .int (bI b), .int k, .int (nI (w9.1 + 1)), .int (nI (w9.2.1 - 1)), .int w9.2.2, .int (nI e9), .ref ag, .ref am])), (al, .inl (cI, 1600, .inl o.1)), (aw, .inl (cI, 1024, .inl o.2.2.1)), (ac, .inl (cI, 40, .inl f)), (ag, .inl (cI, 1600, .inl gt)), (am, .inl (cI, 40, .inl md))] := hD
                  refine lv_aload_n hx hb d_Mo_nextByte_99 rfl (lv_at hl 1 rfl) ?_
                  refine va_get (D := D) (ci := 4) (v := .ref al) (C := R_Mo) (T := F_Mo) (N := 18) hx hb hW in_Mo hown hK hP 0 rfl rfl 0 (by decide) (hW _ mw_564) (fun _ h9 => h9) rfl d_Mo_nextByte_100 ?_
                  refine lv_aload_n hx hb d_Mo_nextByte_103 rfl (lv_at hl 1 rfl) ?_
                  refine va_get (D := D) (ci := 4) (v := .int (nI (w9.1 + 1))) (C := R_Mo) (T := F_Mo) (N := 18) hx hb hW in_Mo hown hK hP 0 rfl rfl 12 (by decide) (hW _ mw_576) (fun _ h9 => h9) rfl d_Mo_nextByte_104 ?_
                  refine lv_iconst (v := 1) hx hb d_Mo_nextByte_107 (by decide) ?_
                  refine lv_isub hx hb d_Mo_nextByte_108 ?_
                  refine x_topi (y := nI w9.1) (nI_pred _) ?_
                  refine va_iald (D := D) hx hb hK hP 1 0 rfl rfl (vp_in_nI (by omega) (by decide)) d_Mo_nextByte_109 ?_
                  refine x_topi (y := o.1 w9.1) (by rw [nI_clamp (by omega)]) ?_
                  have q9 := nb_ok hby e_l (by omega)
                  exact W.iret (v := o.1 w9.1) hx hb hr (fun t9 ht9 hW9 => ⟨⟨o.1 w9.1, (((w9.1 + 1, w9.2.1 - 1, w9.2.2), e9) : T3 × Nat), rfl, ⟨q9.1, by first | (rw [← q9.2.1, ← q9.2.2, if_pos c_76, show e9 = 0 by omega]; done) | (rw [← q9.2.1, ← q9.2.2, if_neg (by rw [c_76]; decide), show e9 = 0 by omega]; done)⟩, by rw [ht9]; exact hP.sub [0, 1, 2, 3, 4, 5] rfl, va_K.moved hW9.alike hK, hD.sub [0, 1, 2, 3, 4, 5] (by decide) rfl⟩, hS.F ht9⟩) hS.2.2 d_Mo_nextByte_110
              · replace c_67 := mt (cg_le e9 0 rfl rfl (by omega) (by omega)).mpr c_67
                exact absurd c_67 (by omega)
            · replace c_55 := mt (cg_lt w9.1 o.2.1 rfl rfl (by omega) (by omega)).mpr c_55
              refine lv_aload_n hx hb d_Mo_nextByte_58 rfl (lv_at hl 1 rfl) ?_
              refine lv_iconst (v := 1) hx hb d_Mo_nextByte_59 (by decide) ?_
              refine x_topi (y := nI 1) (by decide) ?_
              refine va_put (D := D) (ci := 4) (v := .int (nI 1)) (ty := .int) (C := R_Mo) (T := F_Mo) (N := 18) hx hb hW in_Mo t_Mo t_Mo_ok nm_Mo hown hK hP hD hS 0 rfl rfl 15 (by decide) (hW _ mw_579) (fun _ h9 => h9) rfl (by decide +kernel) (rfl) (rfl) (Nat.le_of_ble_eq_true rfl) d_Mo_nextByte_60 (fun H locs hP hD hS => ?_)
              have hP : va_P D vwCl [(a0, .inr (4, [.ref al, .int (nI o.2.1), .ref aw, .int (nI o.2.2.2.1), .int (bI o.2.2.2.2), .ref ac, .int (nI c.1), .int (nI c.2.1), .int c.2.2.1, .int (bI c.2.2.2), .int (bI b), .int k, .int (nI w9.1), .int (nI w9.2.1), .int w9.2.2, .int (nI 1), .ref ag, .ref am])), (al, .inl (cI, 1600, .inl o.1)), (aw, .inl (cI, 1024, .inl o.2.2.1)), (ac, .inl (cI, 40, .inl f)), (ag, .inl (cI, 1600, .inl gt)), (am, .inl (cI, 40, .inl md))] H := hP
              have hD : va_D A [(a0, .inr (4, [.ref al, .int (nI o.2.1), .ref aw, .int (nI o.2.2.2.1), .int (bI o.2.2.2.2), .ref ac, .int (nI c.1), .int (nI c.2.1), .int c.2.2.1, .int (bI c.2.2.2), .int (bI b), .int k, .int (nI w9.1), .int (nI w9.2.1), .int w9.2.2, .int (nI 1), .ref ag, .ref am])), (al, .inl (cI, 1600, .inl o.1)), (aw, .inl (cI, 1024, .inl o.2.2.1)), (ac, .inl (cI, 40, .inl f)), (ag, .inl (cI, 1600, .inl gt)), (am, .inl (cI, 40, .inl md))] := hD
              refine lv_aload_n hx hb d_Mo_nextByte_63 rfl (lv_at hl 1 rfl) ?_
              refine va_get (D := D) (ci := 4) (v := .int (nI 1)) (C := R_Mo) (T := F_Mo) (N := 18) hx hb hW in_Mo hown hK hP 0 rfl rfl 15 (by decide) (hW _ mw_579) (fun _ h9 => h9) rfl d_Mo_nextByte_64 ?_
              refine lv_if_le (tgt := 72) hx hb d_Mo_nextByte_67 (by decide) (fun c_67 => ?_) (fun c_67 => ?_)
              · replace c_67 := (cg_le 1 0 rfl rfl (by omega) (by omega)).mp c_67
                exact absurd c_67 (by omega)
              · replace c_67 := mt (cg_le 1 0 rfl rfl (by omega) (by omega)).mpr c_67
                refine lv_iconst (v := 0) hx hb d_Mo_nextByte_70 (by decide) ?_
                exact W.iret (v := 0) hx hb hr (fun t9 ht9 hW9 => ⟨⟨0, ((w9, 1) : T3 × Nat), rfl, (fun q => ⟨q.1, Prod.ext q.2.1 q.2.2⟩) (nb_end e_l (by omega)), by rw [ht9]; exact hP.sub [0, 1, 2, 3, 4, 5] rfl, va_K.moved hW9.alike hK, hD.sub [0, 1, 2, 3, 4, 5] (by decide) rfl⟩, hS.F ht9⟩) hS.2.2 d_Mo_nextByte_71
        · replace c_13 := (cg_eq w9.2.1 0 rfl rfl (by omega) (by omega)).mp c_13
          refine lv_aload_n hx hb d_Mo_nextByte_16 rfl (lv_at hl 1 rfl) ?_
          refine va_get (D := D) (ci := 4) (v := .int (nI e9)) (C := R_Mo) (T := F_Mo) (N := 18) hx hb hW in_Mo hown hK hP 0 rfl rfl 15 (by decide) (hW _ mw_579) (fun _ h9 => h9) rfl d_Mo_nextByte_17 ?_
          refine lv_if_ne (tgt := 40) hx hb d_Mo_nextByte_20 (by decide) (fun c_20 => ?_) (fun c_20 => ?_)
          · replace c_20 := mt (cg_eq e9 0 rfl rfl (by omega) (by omega)).mpr c_20
            have e_l : c_look o (cs t c.2.2.2) = fi2 c.2.2.2 w9 e9 := by rw [c_look, if_pos (show (cs t c.2.2.2).2.2.2 = true from c_6)]; exact he.symm.trans (if_neg c_20)
            refine lv_aload_n hx hb d_Mo_nextByte_40 rfl (lv_at hl 1 rfl) ?_
            refine va_get (D := D) (ci := 4) (v := .int (nI e9)) (C := R_Mo) (T := F_Mo) (N := 18) hx hb hW in_Mo hown hK hP 0 rfl rfl 15 (by decide) (hW _ mw_579) (fun _ h9 => h9) rfl d_Mo_nextByte_41 ?_
            refine lv_if_ne (tgt := 63) hx hb d_Mo_nextByte_44 (by decide) (fun c_44 => ?_) (fun c_44 => ?_)
            · replace c_44 := mt (cg_eq e9 0 rfl rfl (by omega) (by omega)).mpr c_44
              refine lv_aload_n hx hb d_Mo_nextByte_63 rfl (lv_at hl 1 rfl) ?_
              refine va_get (D := D) (ci := 4) (v := .int (nI e9)) (C := R_Mo) (T := F_Mo) (N := 18) hx hb hW in_Mo hown hK hP 0 rfl rfl 15 (by decide) (hW _ mw_579) (fun _ h9 => h9) rfl d_Mo_nextByte_64 ?_
              refine lv_if_le (tgt := 72) hx hb d_Mo_nextByte_67 (by decide) (fun c_67 => ?_) (fun c_67 => ?_)
              · replace c_67 := (cg_le e9 0 rfl rfl (by omega) (by omega)).mp c_67
                exact absurd c_67 (by omega)
              · replace c_67 := mt (cg_le e9 0 rfl rfl (by omega) (by omega)).mpr c_67
                refine lv_iconst (v := 0) hx hb d_Mo_nextByte_70 (by decide) ?_
                exact W.iret (v := 0) hx hb hr (fun t9 ht9 hW9 => ⟨⟨0, ((w9, e9) : T3 × Nat), rfl, (fun q => ⟨q.1, Prod.ext q.2.1 q.2.2⟩) (nb_f (by omega) h9 e_l), by rw [ht9]; exact hP.sub [0, 1, 2, 3, 4, 5] rfl, va_K.moved hW9.alike hK, hD.sub [0, 1, 2, 3, 4, 5] (by decide) rfl⟩, hS.F ht9⟩) hS.2.2 d_Mo_nextByte_71
            · replace c_44 := (cg_eq e9 0 rfl rfl (by omega) (by omega)).mp c_44
              exact absurd c_44 c_20
          · replace c_20 := (cg_eq e9 0 rfl rfl (by omega) (by omega)).mp c_20
            refine lv_iload_n hx hb d_Mo_nextByte_23 rfl (lv_at hl 0 rfl) ?_
            refine lv_sipush (v := 1600) hx hb d_Mo_nextByte_24 (by decide) ?_
            refine lv_icmp_ge (tgt := 40) hx hb d_Mo_nextByte_27 (by decide) (fun c_27 => ?_) (fun c_27 => ?_)
            · replace c_27 := (cg_le 1600 i rfl rfl (by omega) (by omega)).mp c_27
              exact absurd c_27 (by have := hfu c_20; omega)
            · replace c_27 := mt (cg_le 1600 i rfl rfl (by omega) (by omega)).mpr c_27
              refine lv_aload_n hx hb d_Mo_nextByte_30 rfl (lv_at hl 1 rfl) ?_
              refine x_callv (D := D) (wc := [(a0, .inr (4, [.ref al, .int (nI o.2.1), .ref aw, .int (nI o.2.2.2.1), .int (bI o.2.2.2.2), .ref ac, .int (nI c.1), .int (nI c.2.1), .int c.2.2.1, .int (bI c.2.2.2), .int (bI b), .int k, .int (nI w9.1), .int (nI w9.2.1), .int w9.2.2, .int (nI e9), .ref ag, .ref am])), (al, .inl (cI, 1600, .inl o.1)), (aw, .inl (cI, 1024, .inl o.2.2.1)), (ac, .inl (cI, 40, .inl f)), (ag, .inl (cI, 1600, .inl gt)), (am, .inl (cI, 40, .inl md))]) (wr := []) (va_runV (C := R_Mo) (As := []) (rest := []) ⟨hx, hb, hml, hown, hW⟩ (k_Mo_header l D g a0 al aw ac ag am cI o c f b k w9 e9 gt md ho hby hd1 c_20 H.size) (cwV 0 hW (gWV mw_714 mw_716 mw_44 mw_54 mw_717) rfl rfl rfl (by decide +kernel) ⟨Nat.le_of_ble_eq_true rfl, Nat.le_of_ble_eq_true rfl⟩) ⟨xPc_blind (gZ_ok g), va_recv hK hP (ci := 4) (q0 := 0) rfl rfl, x_pre (gZ_ok g) hP hK hD hS hA hZ [0, 1, 2, 3, 4, 5] [0] rfl rfl rfl⟩ rfl rfl hl.1 rfl (lv_room (Nat.le_of_ble_eq_true rfl)) d_Mo_nextByte_31 ⟨Nat.le_of_ble_eq_true rfl, Nat.le_of_ble_eq_true rfl⟩) hP hD hS hA [0, 1, 2, 3, 4, 5] [] rfl rfl rfl (by decide) (fun u_31 H locs hw_31 hP hD hS => ?_)
              replace hw_31 := hw_31.symm
              subst hw_31
              have hP : va_P D vwCl [(a0, .inr (4, [.ref al, .int (nI o.2.1), .ref aw, .int (nI o.2.2.2.1), .int (bI o.2.2.2.2), .ref ac, .int (nI c.1), .int (nI c.2.1), .int c.2.2.1, .int (bI c.2.2.2), .int (bI b), .int k, .int (nI (h_st o w9).2.1), .int (nI (h_st o w9).2.2.1), .int (h_st o w9).2.2.2, .int (nI (h_st o w9).1), .ref ag, .ref am])), (al, .inl (cI, 1600, .inl o.1)), (aw, .inl (cI, 1024, .inl o.2.2.1)), (ac, .inl (cI, 40, .inl f)), (ag, .inl (cI, 1600, .inl gt)), (am, .inl (cI, 40, .inl md))] H := hP
              have hD : va_D A [(a0, .inr (4, [.ref al, .int (nI o.2.1), .ref aw, .int (nI o.2.2.2.1), .int (bI o.2.2.2.2), .ref ac, .int (nI c.1), .int (nI c.2.1), .int c.2.2.1, .int (bI c.2.2.2), .int (bI b), .int k, .int (nI (h_st o w9).2.1), .int (nI (h_st o w9).2.2.1), .int (h_st o w9).2.2.2, .int (nI (h_st o w9).1), .ref ag, .ref am])), (al, .inl (cI, 1600, .inl o.1)), (aw, .inl (cI, 1024, .inl o.2.2.1)), (ac, .inl (cI, 40, .inl f)), (ag, .inl (cI, 1600, .inl gt)), (am, .inl (cI, 40, .inl md))] := hD
              refine lv_iinc (v := nI (i + 1)) (lv' := [(1, .int (nI (i + 1))), (0, .ref a0)]) hx hb d_Mo_nextByte_34 hl (k := 0) rfl (nI_1 _) (by decide) rfl (fun ls hl => ?_)
              refine lv_goto (tgt := 2) hx hb d_Mo_nextByte_37 (by decide) ?_
              exact ih (i + 1) (h_st o w9).2 (h_st o w9).1 (hs_step hd c_13).1 (hs_step hd c_13).2.1 (by omega) (fun h => by have h1 := (hs_step hd c_13).2.2.1 h; have h2 := hfu c_20; omega) (fun h => absurd c_6 (by rw [h]; decide)) (fun h => absurd c_6 (by rw [h]; decide)) (by rw [← he, if_pos c_20, (hs_step hd c_13).2.2.2]) (by omega) H locs (hP.sub [0, 1, 2, 3, 4, 5] rfl) (hD.sub [0, 1, 2, 3, 4, 5] (by decide) rfl) hS ls (lv_sub hl [0, 1] rfl)
  exact hlp_2 _ 0 t en htc (by omega) (by omega) (fun _ => by omega) (fun _ => rfl) (fun _ => hen) (by rw [if_pos hen]) (Nat.lt_succ_self _) s.heap [] (hP.sub [0, 1, 2, 3, 4, 5] rfl) (hD.sub [0, 1, 2, 3, 4, 5] (by decide) rfl) hS ls (lv_sub hl [0, 1] rfl)
