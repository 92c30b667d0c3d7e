set_option maxHeartbeats 4000000 in
set_option maxRecDepth 100000 in
theorem k_Ou_hasRoomFor (l : Launch) (D : va_G) (g : GP) (qo ql qp : Nat) (cI : ClassId) (o : OS) (z : Nat) (ho : o_ok o) (hz : z ≤ 4000) (sz : Nat) : Met l y_Ou_hasRoomFor (.code y_Ou_hasRoomFor c_Ou_hasRoomFor 2 (some .boolean) :: xW) ({ frames := 0, cells := 0, slots := 0, locals := 0 }) (xPc (gZ g) D vwCl [.ref qo, .int (nI z)] [(qo, .inr (1, [.ref ql, .int (nI o.2.1), .ref qp, .int (nI o.2.2.2.1), .int (bI o.2.2.2.2)])), (ql, .inl (cI, 1507, .inl o.1)), (qp, .inl (cI, 1024, .inl o.2.2.1))] [(cI, .int)] sz) (va_Qi (fun (r : Int32) (u : Unit) => r = bI (decide (o.2.1 + o.2.2.2.1 + z ≤ 1500))) (xB D vwCl [(cI, .int)] (fun u : Unit => [(qo, .inr (1, [.ref ql, .int (nI o.2.1), .ref qp, .int (nI o.2.2.2.1), .int (bI o.2.2.2.2)])), (ql, .inl (cI, 1507, .inl o.1)), (qp, .inl (cI, 1024, .inl o.2.2.1))]) (va_A [(qo, .inr (1, [.ref ql, .int (nI o.2.1), .ref qp, .int (nI o.2.2.2.1), .int (bI o.2.2.2.2)])), (ql, .inl (cI, 1507, .inl o.1)), (qp, .inl (cI, 1024, .inl o.2.2.1))] sz)) (va_A [(qo, .inr (1, [.ref ql, .int (nI o.2.1), .ref qp, .int (nI o.2.2.2.1), .int (bI o.2.2.2.2)])), (ql, .inl (cI, 1507, .inl o.1)), (qp, .inl (cI, 1024, .inl o.2.2.1))] sz)) 0 0 (va_A [(qo, .inr (1, [.ref ql, .int (nI o.2.1), .ref qp, .int (nI o.2.2.2.1), .int (bI o.2.2.2.2)])), (ql, .inl (cI, 1507, .inl o.1)), (qp, .inl (cI, 1024, .inl o.2.2.1))] sz) := by
  refine x_open (Qc := fun A => va_Qi (fun (r : Int32) (u : Unit) => r = bI (decide (o.2.1 + o.2.2.2.1 + z ≤ 1500))) (xB D vwCl [(cI, .int)] (fun u : Unit => [(qo, .inr (1, [.ref ql, .int (nI o.2.1), .ref qp, .int (nI o.2.2.2.1), .int (bI o.2.2.2.2)])), (ql, .inl (cI, 1507, .inl o.1)), (qp, .inl (cI, 1024, .inl o.2.2.1))]) A) A) (cc := c_Ou_hasRoomFor) (maxL := 2) (ret := (some .boolean)) (own := R_Ou) (by decide) rfl rfl (Nat.le_of_ble_eq_true rfl) ?_
  intro p e s m below meth cd A ls hsz hAe hx hb hr hml hown hts hlk hnm hA hP hK hD hS hZ hl
  clear hsz hAe
  have hW : ∀ w ∈ xW, w.before _ s = true := fun w h => hts w (List.mem_cons_of_mem _ h)
  have hl : lv_has ls 2 [(0, .ref qo), (1, .int (nI z))] := hl
  obtain ⟨ho1, ho2⟩ := id ho
  refine lv_aload_n hx hb d_Ou_hasRoomFor_0 rfl (lv_at hl 0 rfl) ?_
  refine va_get (D := D) (ci := 1) (v := .int (nI o.2.1)) (C := R_Ou) (T := F_Ou) (N := 5) hx hb hW in_Ou hown hK hP 0 rfl rfl 1 (by decide) (hW _ mw_80) (fun _ h9 => h9) rfl d_Ou_hasRoomFor_1 ?_
  refine lv_aload_n hx hb d_Ou_hasRoomFor_4 rfl (lv_at hl 0 rfl) ?_
  refine va_get (D := D) (ci := 1) (v := .int (nI o.2.2.2.1)) (C := R_Ou) (T := F_Ou) (N := 5) hx hb hW in_Ou hown hK hP 0 rfl rfl 3 (by decide) (hW _ mw_84) (fun _ h9 => h9) rfl d_Ou_hasRoomFor_5 ?_
  refine lv_iadd hx hb d_Ou_hasRoomFor_8 ?_
  refine x_topi (y := nI (o.2.1 + o.2.2.2.1)) (nI_add _ _) ?_
  refine lv_iload_n hx hb d_Ou_hasRoomFor_9 rfl (lv_at hl 1 rfl) ?_
  refine lv_iadd hx hb d_Ou_hasRoomFor_10 ?_
  refine x_topi (y := nI (o.2.1 + o.2.2.2.1 + z)) (nI_add _ _) ?_
  refine lv_sipush (v := 1500) hx hb d_Ou_hasRoomFor_11 (by decide) ?_
  refine lv_icmp_gt (tgt := 21) hx hb d_Ou_hasRoomFor_14 (by decide) (fun c_14 => ?_) (fun c_14 => ?_)
  · replace c_14 := (cg_lt 1500 (o.2.1 + o.2.2.2.1 + z) rfl rfl (by omega) (by omega)).mp c_14
    refine lv_iconst (v := 0) hx hb d_Ou_hasRoomFor_21 (by decide) ?_
    exact W.zret (v := 0) (ty := .boolean) hx hb hr (by decide) (fun t9 ht9 hW9 => ⟨⟨0, (() : Unit), rfl, by rw [decide_eq_false (by omega)]; rfl, by rw [ht9]; exact hP.sub [0, 1, 2] rfl, va_K.moved hW9.alike hK, hD.sub [0, 1, 2] (by decide) rfl⟩, hS.F ht9⟩) hS.2.2 d_Ou_hasRoomFor_22
  · replace c_14 := mt (cg_lt 1500 (o.2.1 + o.2.2.2.1 + z) rfl rfl (by omega) (by omega)).mpr c_14
    refine lv_iconst (v := 1) hx hb d_Ou_hasRoomFor_17 (by decide) ?_
    refine lv_goto (tgt := 22) hx hb d_Ou_hasRoomFor_18 (by decide) ?_
    exact W.zret (v := 1) (ty := .boolean) hx hb hr (by decide) (fun t9 ht9 hW9 => ⟨⟨1, (() : Unit), rfl, by rw [decide_eq_true (by omega)]; rfl, by rw [ht9]; exact hP.sub [0, 1, 2] rfl, va_K.moved hW9.alike hK, hD.sub [0, 1, 2] (by decide) rfl⟩, hS.F ht9⟩) hS.2.2 d_Ou_hasRoomFor_22
set_option maxHeartbeats 4000000 in
set_option maxRecDepth 100000 in
theorem k_Ou_logged (l : Launch) (D : va_G) (g : GP) (qo ql qp : Nat) (cI : ClassId) (o : OS) (j : Int32) (ho : o_ok o) (sz : Nat) : Met l y_Ou_logged (.code y_Ou_logged c_Ou_logged 2 (some .int) :: xW) ({ frames := 0, cells := 0, slots := 0, locals := 0 }) (xPc (gZ g) D vwCl [.ref qo, .int j] [(qo, .inr (1, [.ref ql, .int (nI o.2.1), .ref qp, .int (nI o.2.2.2.1), .int (bI o.2.2.2.2)])), (ql, .inl (cI, 1507, .inl o.1)), (qp, .inl (cI, 1024, .inl o.2.2.1))] [(cI, .int)] sz) (va_Qi (fun (r : Int32) (u : Unit) => r = o_atI o j) (xB D vwCl [(cI, .int)] (fun u : Unit => [(qo, .inr (1, [.ref ql, .int (nI o.2.1), .ref qp, .int (nI o.2.2.2.1), .int (bI o.2.2.2.2)])), (ql, .inl (cI, 1507, .inl o.1)), (qp, .inl (cI, 1024, .inl o.2.2.1))]) (va_A [(qo, .inr (1, [.ref ql, .int (nI o.2.1), .ref qp, .int (nI o.2.2.2.1), .int (bI o.2.2.2.2)])), (ql, .inl (cI, 1507, .inl o.1)), (qp, .inl (cI, 1024, .inl o.2.2.1))] sz)) (va_A [(qo, .inr (1, [.ref ql, .int (nI o.2.1), .ref qp, .int (nI o.2.2.2.1), .int (bI o.2.2.2.2)])), (ql, .inl (cI, 1507, .inl o.1)), (qp, .inl (cI, 1024, .inl o.2.2.1))] sz)) 0 0 (va_A [(qo, .inr (1, [.ref ql, .int (nI o.2.1), .ref qp, .int (nI o.2.2.2.1), .int (bI o.2.2.2.2)])), (ql, .inl (cI, 1507, .inl o.1)), (qp, .inl (cI, 1024, .inl o.2.2.1))] sz) := by
  refine x_open (Qc := fun A => va_Qi (fun (r : Int32) (u : Unit) => r = o_atI o j) (xB D vwCl [(cI, .int)] (fun u : Unit => [(qo, .inr (1, [.ref ql, .int (nI o.2.1), .ref qp, .int (nI o.2.2.2.1), .int (bI o.2.2.2.2)])), (ql, .inl (cI, 1507, .inl o.1)), (qp, .inl (cI, 1024, .inl o.2.2.1))]) A) A) (cc := c_Ou_logged) (maxL := 2) (ret := (some .int)) (own := R_Ou) (by decide) rfl rfl (Nat.le_of_ble_eq_true rfl) ?_
  intro p e s m below meth cd A ls hsz hAe hx hb hr hml hown hts hlk hnm hA hP hK hD hS hZ hl
  clear hsz hAe
  have hW : ∀ w ∈ xW, w.before _ s = true := fun w h => hts w (List.mem_cons_of_mem _ h)
  have hl : lv_has ls 2 [(0, .ref qo), (1, .int j)] := hl
  obtain ⟨ho1, ho2⟩ := id ho
  refine lv_iload_n hx hb d_Ou_logged_0 rfl (lv_at hl 1 rfl) ?_
  refine lv_if_lt (tgt := 21) hx hb d_Ou_logged_1 (by decide) (fun c_1 => ?_) (fun c_1 => ?_)
  · refine lv_iconst (v := -1) hx hb d_Ou_logged_21 (by decide) ?_
    exact W.iret (v := -1) hx hb hr (fun t9 ht9 hW9 => ⟨⟨-1, (() : Unit), rfl, by rw [o_atI, if_neg (by first | exact fun z => z.1 c_1 | exact fun z => z.2 c_9)], by rw [ht9]; exact hP.sub [0, 1, 2] rfl, va_K.moved hW9.alike hK, hD.sub [0, 1, 2] (by decide) rfl⟩, hS.F ht9⟩) hS.2.2 d_Ou_logged_22
  · refine lv_iload_n hx hb d_Ou_logged_4 rfl (lv_at hl 1 rfl) ?_
    refine lv_aload_n hx hb d_Ou_logged_5 rfl (lv_at hl 0 rfl) ?_
    refine va_get (D := D) (ci := 1) (v := .int (nI o.2.1)) (C := R_Ou) (T := F_Ou) (N := 5) hx hb hW in_Ou hown hK hP 0 rfl rfl 1 (by decide) (hW _ mw_80) (fun _ h9 => h9) rfl d_Ou_logged_6 ?_
    refine lv_icmp_ge (tgt := 21) hx hb d_Ou_logged_9 (by decide) (fun c_9 => ?_) (fun c_9 => ?_)
    · refine lv_iconst (v := -1) hx hb d_Ou_logged_21 (by decide) ?_
      exact W.iret (v := -1) hx hb hr (fun t9 ht9 hW9 => ⟨⟨-1, (() : Unit), rfl, by rw [o_atI, if_neg (by first | exact fun z => z.1 c_1 | exact fun z => z.2 c_9)], by rw [ht9]; exact hP.sub [0, 1, 2] rfl, va_K.moved hW9.alike hK, hD.sub [0, 1, 2] (by decide) rfl⟩, hS.F ht9⟩) hS.2.2 d_Ou_logged_22
    · refine lv_aload_n hx hb d_Ou_logged_12 rfl (lv_at hl 0 rfl) ?_
      refine va_get (D := D) (ci := 1) (v := .ref ql) (C := R_Ou) (T := F_Ou) (N := 5) hx hb hW in_Ou hown hK hP 0 rfl rfl 0 (by decide) (hW _ mw_79) (fun _ h9 => h9) rfl d_Ou_logged_13 ?_
      refine lv_iload_n hx hb d_Ou_logged_16 rfl (lv_at hl 1 rfl) ?_
      refine va_iald (D := D) hx hb hK hP 1 0 rfl rfl (x_in c_1 c_9 (by omega) (by decide)) d_Ou_logged_17 ?_
      refine lv_goto (tgt := 22) hx hb d_Ou_logged_18 (by decide) ?_
      exact W.iret (v := o.1 j.toNatClampNeg) hx hb hr (fun t9 ht9 hW9 => ⟨⟨o.1 j.toNatClampNeg, (() : Unit), rfl, by rw [o_atI, if_pos ⟨c_1, c_9⟩], by rw [ht9]; exact hP.sub [0, 1, 2] rfl, va_K.moved hW9.alike hK, hD.sub [0, 1, 2] (by decide) rfl⟩, hS.F ht9⟩) hS.2.2 d_Ou_logged_22
set_option maxHeartbeats 4000000 in
set_option maxRecDepth 100000 in
theorem k_Ou_addToLog (l : Launch) (D : va_G) (g : GP) (qo ql qp : Nat) (cI : ClassId) (o : OS) (x : Int32) (ho : o_ok o) (sz : Nat) : Met l y_Ou_addToLog (.code y_Ou_addToLog c_Ou_addToLog 2 none :: xW) ({ frames := 0, cells := 0, slots := 0, locals := 0 }) (xPc (gZ g) D vwCl [.ref qo, .int x] [(qo, .inr (1, [.ref ql, .int (nI o.2.1), .ref qp, .int (nI o.2.2.2.1), .int (bI o.2.2.2.2)])), (ql, .inl (cI, 1507, .inl o.1)), (qp, .inl (cI, 1024, .inl o.2.2.1))] [(cI, .int)] sz) (va_Qv (fun (u : OS) => u = o_add o x) (xB D vwCl [(cI, .int)] (fun u : OS => [(qo, .inr (1, [.ref ql, .int (nI u.2.1), .ref qp, .int (nI u.2.2.2.1), .int (bI u.2.2.2.2)])), (ql, .inl (cI, 1507, .inl u.1)), (qp, .inl (cI, 1024, .inl u.2.2.1))]) (va_A [(qo, .inr (1, [.ref ql, .int (nI o.2.1), .ref qp, .int (nI o.2.2.2.1), .int (bI o.2.2.2.2)])), (ql, .inl (cI, 1507, .inl o.1)), (qp, .inl (cI, 1024, .inl o.2.2.1))] sz)) (va_A [(qo, .inr (1, [.ref ql, .int (nI o.2.1), .ref qp, .int (nI o.2.2.2.1), .int (bI o.2.2.2.2)])), (ql, .inl (cI, 1507, .inl o.1)), (qp, .inl (cI, 1024, .inl o.2.2.1))] sz)) 0 0 (va_A [(qo, .inr (1, [.ref ql, .int (nI o.2.1), .ref qp, .int (nI o.2.2.2.1), .int (bI o.2.2.2.2)])), (ql, .inl (cI, 1507, .inl o.1)), (qp, .inl (cI, 1024, .inl o.2.2.1))] sz) := by
  refine x_open (Qc := fun A => va_Qv (fun (u : OS) => u = o_add o x) (xB D vwCl [(cI, .int)] (fun u : OS => [(qo, .inr (1, [.ref ql, .int (nI u.2.1), .ref qp, .int (nI u.2.2.2.1), .int (bI u.2.2.2.2)])), (ql, .inl (cI, 1507, .inl u.1)), (qp, .inl (cI, 1024, .inl u.2.2.1))]) A) A) (cc := c_Ou_addToLog) (maxL := 2) (ret := none) (own := R_Ou) (by decide) rfl rfl (Nat.le_of_ble_eq_true rfl) ?_
  intro p e s m below meth cd A ls hsz hAe hx hb hr hml hown hts hlk hnm hA hP hK hD hS hZ hl
  clear hsz hAe
  have hW : ∀ w ∈ xW, w.before _ s = true := fun w h => hts w (List.mem_cons_of_mem _ h)
  have hl : lv_has ls 2 [(0, .ref qo), (1, .int x)] := hl
  obtain ⟨ho1, ho2⟩ := id ho
  refine lv_aload_n hx hb d_Ou_addToLog_0 rfl (lv_at hl 0 rfl) ?_
  refine va_get (D := D) (ci := 1) (v := .int (nI o.2.1)) (C := R_Ou) (T := F_Ou) (N := 5) hx hb hW in_Ou hown hK hP 0 rfl rfl 1 (by decide) (hW _ mw_80) (fun _ h9 => h9) rfl d_Ou_addToLog_1 ?_
  refine lv_sipush (v := 1507) hx hb d_Ou_addToLog_4 (by decide) ?_
  refine lv_icmp_ge (tgt := 30) hx hb d_Ou_addToLog_7 (by decide) (fun c_7 => ?_) (fun c_7 => ?_)
  · replace c_7 := (cg_le 1507 o.2.1 rfl rfl (by omega) (by omega)).mp c_7
    exact W.vret hx hb hr (fun t9 ht9 hW9 => ⟨⟨(o : OS), rfl, by first | (rw [o_add, if_pos (by omega)]; try rfl) | (rw [o_add, if_neg (by omega)]; try rfl), by rw [ht9]; exact hP.sub [0, 1, 2] rfl, va_K.moved hW9.alike hK, hD.sub [0, 1, 2] (by decide) rfl⟩, hS.F ht9⟩) hS.2.2 d_Ou_addToLog_30
  · replace c_7 := mt (cg_le 1507 o.2.1 rfl rfl (by omega) (by omega)).mpr c_7
    refine lv_aload_n hx hb d_Ou_addToLog_10 rfl (lv_at hl 0 rfl) ?_
    refine va_get (D := D) (ci := 1) (v := .ref ql) (C := R_Ou) (T := F_Ou) (N := 5) hx hb hW in_Ou hown hK hP 0 rfl rfl 0 (by decide) (hW _ mw_79) (fun _ h9 => h9) rfl d_Ou_addToLog_11 ?_
    refine lv_aload_n hx hb d_Ou_addToLog_14 rfl (lv_at hl 0 rfl) ?_
    refine va_get (D := D) (ci := 1) (v := .int (nI o.2.1)) (C := R_Ou) (T := F_Ou) (N := 5) hx hb hW in_Ou hown hK hP 0 rfl rfl 1 (by decide) (hW _ mw_80) (fun _ h9 => h9) rfl d_Ou_addToLog_15 ?_
    refine lv_iload_n hx hb d_Ou_addToLog_18 rfl (lv_at hl 1 rfl) ?_
    refine va_iast (D := D) hx hb hK hP hD hS 1 0 rfl rfl (vp_in_nI (by omega) (by decide)) d_Ou_addToLog_19 (fun H locs hP hD hS => ?_)
    rw [nI_clamp (by omega)] at hP hD
    have hP : va_P D vwCl [(qo, .inr (1, [.ref ql, .int (nI o.2.1), .ref qp, .int (nI o.2.2.2.1), .int (bI o.2.2.2.2)])), (ql, .inl (cI, 1507, .inl (upd o.1 o.2.1 x))), (qp, .inl (cI, 1024, .inl o.2.2.1))] H := hP
    have hD : va_D A [(qo, .inr (1, [.ref ql, .int (nI o.2.1), .ref qp, .int (nI o.2.2.2.1), .int (bI o.2.2.2.2)])), (ql, .inl (cI, 1507, .inl (upd o.1 o.2.1 x))), (qp, .inl (cI, 1024, .inl o.2.2.1))] := hD
    refine lv_aload_n hx hb d_Ou_addToLog_20 rfl (lv_at hl 0 rfl) ?_
    refine lv_dup hx hb d_Ou_addToLog_21 rfl ?_
    refine va_get (D := D) (ci := 1) (v := .int (nI o.2.1)) (C := R_Ou) (T := F_Ou) (N := 5) hx hb hW in_Ou hown hK hP 0 rfl rfl 1 (by decide) (hW _ mw_80) (fun _ h9 => h9) rfl d_Ou_addToLog_22 ?_
    refine lv_iconst (v := 1) hx hb d_Ou_addToLog_25 (by decide) ?_
    refine lv_iadd hx hb d_Ou_addToLog_26 ?_
    refine x_topi (y := nI (o.2.1 + 1)) (nI_1 _) ?_
    refine va_put (D := D) (ci := 1) (v := .int (nI (o.2.1 + 1))) (ty := .int) (C := R_Ou) (T := F_Ou) (N := 5) hx hb hW in_Ou t_Ou t_Ou_ok nm_Ou hown hK hP hD hS 0 rfl rfl 1 (by decide) (hW _ mw_80) (fun _ h9 => h9) rfl (by decide +kernel) (rfl) (rfl) (Nat.le_of_ble_eq_true rfl) d_Ou_addToLog_27 (fun H locs hP hD hS => ?_)
    have hP : va_P D vwCl [(qo, .inr (1, [.ref ql, .int (nI (o.2.1 + 1)), .ref qp, .int (nI o.2.2.2.1), .int (bI o.2.2.2.2)])), (ql, .inl (cI, 1507, .inl (upd o.1 o.2.1 x))), (qp, .inl (cI, 1024, .inl o.2.2.1))] H := hP
    have hD : va_D A [(qo, .inr (1, [.ref ql, .int (nI (o.2.1 + 1)), .ref qp, .int (nI o.2.2.2.1), .int (bI o.2.2.2.2)])), (ql, .inl (cI, 1507, .inl (upd o.1 o.2.1 x))), (qp, .inl (cI, 1024, .inl o.2.2.1))] := hD
    exact W.vret hx hb hr (fun t9 ht9 hW9 => ⟨⟨((upd o.1 o.2.1 x, o.2.1 + 1, o.2.2.1, o.2.2.2.1, o.2.2.2.2) : OS), rfl, by first | (rw [o_add, if_pos (by omega)]; try rfl) | (rw [o_add, if_neg (by omega)]; try rfl), by rw [ht9]; exact hP.sub [0, 1, 2] rfl, va_K.moved hW9.alike hK, hD.sub [0, 1, 2] (by decide) rfl⟩, hS.F ht9⟩) hS.2.2 d_Ou_addToLog_30
set_option maxHeartbeats 4000000 in
set_option maxRecDepth 100000 in
theorem k_Ou_addHeader (l : Launch) (D : va_G) (g : GP) (qo ql qp : Nat) (cI : ClassId) (o : OS) (z : Nat) (ho : o_ok o) (hz : z ≤ 1024) (sz : Nat) : Met l y_Ou_addHeader (.code y_Ou_addHeader c_Ou_addHeader 3 none :: xW) ({ frames := 1, cells := 0, slots := 0, locals := 21 }) (xPc (gZ g) D vwCl [.ref qo, .int (nI z)] [(qo, .inr (1, [.ref ql, .int (nI o.2.1), .ref qp, .int (nI o.2.2.2.1), .int (bI o.2.2.2.2)])), (ql, .inl (cI, 1507, .inl o.1)), (qp, .inl (cI, 1024, .inl o.2.2.1))] [(cI, .int)] sz) (va_Qv (fun (u : OS) => u = o_hdr o z) (xB D vwCl [(cI, .int)] (fun u : OS => [(qo, .inr (1, [.ref ql, .int (nI u.2.1), .ref qp, .int (nI u.2.2.2.1), .int (bI u.2.2.2.2)])), (ql, .inl (cI, 1507, .inl u.1)), (qp, .inl (cI, 1024, .inl u.2.2.1))]) (va_A [(qo, .inr (1, [.ref ql, .int (nI o.2.1), .ref qp, .int (nI o.2.2.2.1), .int (bI o.2.2.2.2)])), (ql, .inl (cI, 1507, .inl o.1)), (qp, .inl (cI, 1024, .inl o.2.2.1))] sz)) (va_A [(qo, .inr (1, [.ref ql, .int (nI o.2.1), .ref qp, .int (nI o.2.2.2.1), .int (bI o.2.2.2.2)])), (ql, .inl (cI, 1507, .inl o.1)), (qp, .inl (cI, 1024, .inl o.2.2.1))] sz)) 0 0 (va_A [(qo, .inr (1, [.ref ql, .int (nI o.2.1), .ref qp, .int (nI o.2.2.2.1), .int (bI o.2.2.2.2)])), (ql, .inl (cI, 1507, .inl o.1)), (qp, .inl (cI, 1024, .inl o.2.2.1))] sz) := by
  refine x_open (Qc := fun A => va_Qv (fun (u : OS) => u = o_hdr o z) (xB D vwCl [(cI, .int)] (fun u : OS => [(qo, .inr (1, [.ref ql, .int (nI u.2.1), .ref qp, .int (nI u.2.2.2.1), .int (bI u.2.2.2.2)])), (ql, .inl (cI, 1507, .inl u.1)), (qp, .inl (cI, 1024, .inl u.2.2.1))]) A) A) (cc := c_Ou_addHeader) (maxL := 3) (ret := none) (own := R_Ou) (by decide) rfl rfl (Nat.le_of_ble_eq_true rfl) ?_
  intro p e s m below meth cd A ls hsz hAe hx hb hr hml hown hts hlk hnm hA hP hK hD hS hZ hl
  clear hsz hAe
  have hW : ∀ w ∈ xW, w.before _ s = true := fun w h => hts w (List.mem_cons_of_mem _ h)
  have hl : lv_has ls 3 [(0, .ref qo), (1, .int (nI z))] := hl
  obtain ⟨ho1, ho2⟩ := id ho
  refine lv_iload_n hx hb d_Ou_addHeader_0 rfl (lv_at hl 1 rfl) ?_
  refine lv_sipush (v := 255) hx hb d_Ou_addHeader_1 (by decide) ?_
  refine lv_icmp_gt (tgt := 19) hx hb d_Ou_addHeader_4 (by decide) (fun c_4 => ?_) (fun c_4 => ?_)
  · replace c_4 := (cg_lt 255 z rfl rfl (by omega) (by omega)).mp c_4
    refine lv_aload_n hx hb d_Ou_addHeader_19 rfl (lv_at hl 0 rfl) ?_
    refine lv_bipush (v := 122) hx hb d_Ou_addHeader_20 (by decide) ?_
    refine x_callv (D := D) (wc := [(qo, .inr (1, [.ref ql, .int (nI o.2.1), .ref qp, .int (nI o.2.2.2.1), .int (bI o.2.2.2.2)])), (ql, .inl (cI, 1507, .inl o.1)), (qp, .inl (cI, 1024, .inl o.2.2.1))]) (wr := []) (va_runV (C := R_Ou) (As := [.int 122]) (rest := []) ⟨hx, hb, hml, hown, hW⟩ (k_Ou_addToLog l D g qo ql qp cI o 122 ho s.heap.size) (cwV 1 hW (gWV mw_168 mw_170 mw_2 mw_51 mw_171) rfl rfl rfl (by decide +kernel) ⟨Nat.le_of_ble_eq_true rfl, Nat.le_of_ble_eq_true rfl⟩) ⟨xPc_blind (gZ_ok g), va_recv hK hP (ci := 1) (q0 := 0) rfl rfl, x_pre (gZ_ok g) hP hK hD hS hA hZ [0, 1, 2] [0] rfl rfl rfl⟩ rfl rfl hl.1 rfl (lv_room (Nat.le_of_ble_eq_true rfl)) d_Ou_addHeader_22 ⟨Nat.le_of_ble_eq_true rfl, Nat.le_of_ble_eq_true rfl⟩) hP hD hS hA [0, 1, 2] [] rfl rfl rfl (by decide) (fun u_22 H locs hw_22 hP hD hS => ?_)
    replace hw_22 := hw_22.symm
    subst hw_22
    have hP : va_P D vwCl [(qo, .inr (1, [.ref ql, .int (nI (o_add o 122).2.1), .ref qp, .int (nI (o_add o 122).2.2.2.1), .int (bI (o_add o 122).2.2.2.2)])), (ql, .inl (cI, 1507, .inl (o_add o 122).1)), (qp, .inl (cI, 1024, .inl (o_add o 122).2.2.1))] H := hP
    have hD : va_D A [(qo, .inr (1, [.ref ql, .int (nI (o_add o 122).2.1), .ref qp, .int (nI (o_add o 122).2.2.2.1), .int (bI (o_add o 122).2.2.2.2)])), (ql, .inl (cI, 1507, .inl (o_add o 122).1)), (qp, .inl (cI, 1024, .inl (o_add o 122).2.2.1))] := hD
    refine lv_bipush (v := 24) hx hb d_Ou_addHeader_25 (by decide) ?_
    refine lv_istore_n (lv' := [(2, .int 24), (0, .ref qo), (1, .int (nI z))]) hx hb d_Ou_addHeader_27 rfl hl (by decide) rfl (fun ls hl => ?_)
    refine lv_iload_n hx hb d_Ou_addHeader_28 rfl (lv_at hl 0 rfl) ?_
    refine lv_if_lt (tgt := 49) hx hb d_Ou_addHeader_29 (by decide) (fun c_29 => ?_) (fun c_29 => ?_)
    · exact absurd c_29 (by decide)
    · refine lv_aload_n hx hb d_Ou_addHeader_32 rfl (lv_at hl 1 rfl) ?_
      refine lv_iload_n hx hb d_Ou_addHeader_33 rfl (lv_at hl 2 rfl) ?_
      refine lv_iload_n hx hb d_Ou_addHeader_34 rfl (lv_at hl 0 rfl) ?_
      refine lv_iushr (v := ((nI z).toUInt32 >>> ((24 : Int32).toUInt32 &&& Int32.toUInt32 31)).toInt32) hx hb d_Ou_addHeader_35 rfl ?_
      refine x_topi (y := nI (z / 2 ^ 24)) (pk_ushrN (by omega) _ 24 (by decide)) ?_
      refine lv_sipush (v := 255) hx hb d_Ou_addHeader_36 (by decide) ?_
      refine lv_iand hx hb d_Ou_addHeader_39 ?_
      refine x_topi (y := nI ((z / 2 ^ 24) % 2 ^ 8)) (pk_andN (by omega) 8 (by decide)) ?_
      refine x_callv (D := D) (wc := [(qo, .inr (1, [.ref ql, .int (nI (o_add o 122).2.1), .ref qp, .int (nI (o_add o 122).2.2.2.1), .int (bI (o_add o 122).2.2.2.2)])), (ql, .inl (cI, 1507, .inl (o_add o 122).1)), (qp, .inl (cI, 1024, .inl (o_add o 122).2.2.1))]) (wr := []) (va_runV (C := R_Ou) (As := [.int (nI ((z / 2 ^ 24) % 2 ^ 8))]) (rest := []) ⟨hx, hb, hml, hown, hW⟩ (k_Ou_addToLog l D g qo ql qp cI (o_add o 122) (nI ((z / 2 ^ 24) % 2 ^ 8)) (o_add_ok ho _) H.size) (cwV 1 hW (gWV mw_168 mw_170 mw_2 mw_51 mw_171) rfl rfl rfl (by decide +kernel) ⟨Nat.le_of_ble_eq_true rfl, Nat.le_of_ble_eq_true rfl⟩) ⟨xPc_blind (gZ_ok g), va_recv hK hP (ci := 1) (q0 := 0) rfl rfl, x_pre (gZ_ok g) hP hK hD hS hA hZ [0, 1, 2] [0] rfl rfl rfl⟩ rfl rfl hl.1 rfl (lv_room (Nat.le_of_ble_eq_true rfl)) d_Ou_addHeader_40 ⟨Nat.le_of_ble_eq_true rfl, Nat.le_of_ble_eq_true rfl⟩) hP hD hS hA [0, 1, 2] [] rfl rfl rfl (by decide) (fun u_40 H locs hw_40 hP hD hS => ?_)
      replace hw_40 := hw_40.symm
      subst hw_40
      have hP : va_P D vwCl [(qo, .inr (1, [.ref ql, .int (nI (o_add (o_add o 122) (nI ((z / 2 ^ 24) % 2 ^ 8))).2.1), .ref qp, .int (nI (o_add (o_add o 122) (nI ((z / 2 ^ 24) % 2 ^ 8))).2.2.2.1), .int (bI (o_add (o_add o 122) (nI ((z / 2 ^ 24) % 2 ^ 8))).2.2.2.2)])), (ql, .inl (cI, 1507, .inl (o_add (o_add o 122) (nI ((z / 2 ^ 24) % 2 ^ 8))).1)), (qp, .inl (cI, 1024, .inl (o_add (o_add o 122) (nI ((z / 2 ^ 24) % 2 ^ 8))).2.2.1))] H := hP
      have hD : va_D A [(qo, .inr (1, [.ref ql, .int (nI (o_add (o_add o 122) (nI ((z / 2 ^ 24) % 2 ^ 8))).2.1), .ref qp, .int (nI (o_add (o_add o 122) (nI ((z / 2 ^ 24) % 2 ^ 8))).2.2.2.1), .int (bI (o_add (o_add o 122) (nI ((z / 2 ^ 24) % 2 ^ 8))).2.2.2.2)])), (ql, .inl (cI, 1507, .inl (o_add (o_add o 122) (nI ((z / 2 ^ 24) % 2 ^ 8))).1)), (qp, .inl (cI, 1024, .inl (o_add (o_add o 122) (nI ((z / 2 ^ 24) % 2 ^ 8))).2.2.1))] := hD
      refine lv_iinc (v := 16) (lv' := [(2, .int 16), (0, .ref qo), (1, .int (nI z))]) hx hb d_Ou_addHeader_43 hl (k := 0) rfl (by decide) (by decide) rfl (fun ls hl => ?_)
      refine lv_goto (tgt := 28) hx hb d_Ou_addHeader_46 (by decide) ?_
      refine lv_iload_n hx hb d_Ou_addHeader_28 rfl (lv_at hl 0 rfl) ?_
      refine lv_if_lt (tgt := 49) hx hb d_Ou_addHeader_29 (by decide) (fun c_29 => ?_) (fun c_29 => ?_)
      · exact absurd c_29 (by decide)
      · refine lv_aload_n hx hb d_Ou_addHeader_32 rfl (lv_at hl 1 rfl) ?_
        refine lv_iload_n hx hb d_Ou_addHeader_33 rfl (lv_at hl 2 rfl) ?_
        refine lv_iload_n hx hb d_Ou_addHeader_34 rfl (lv_at hl 0 rfl) ?_
        refine lv_iushr (v := ((nI z).toUInt32 >>> ((16 : Int32).toUInt32 &&& Int32.toUInt32 31)).toInt32) hx hb d_Ou_addHeader_35 rfl ?_
        refine x_topi (y := nI (z / 2 ^ 16)) (pk_ushrN (by omega) _ 16 (by decide)) ?_
        refine lv_sipush (v := 255) hx hb d_Ou_addHeader_36 (by decide) ?_
        refine lv_iand hx hb d_Ou_addHeader_39 ?_
        refine x_topi (y := nI ((z / 2 ^ 16) % 2 ^ 8)) (pk_andN (by omega) 8 (by decide)) ?_
        refine x_callv (D := D) (wc := [(qo, .inr (1, [.ref ql, .int (nI (o_add (o_add o 122) (nI ((z / 2 ^ 24) % 2 ^ 8))).2.1), .ref qp, .int (nI (o_add (o_add o 122) (nI ((z / 2 ^ 24) % 2 ^ 8))).2.2.2.1), .int (bI (o_add (o_add o 122) (nI ((z / 2 ^ 24) % 2 ^ 8))).2.2.2.2)])), (ql, .inl (cI, 1507, .inl (o_add (o_add o 122) (nI ((z / 2 ^ 24) % 2 ^ 8))).1)), (qp, .inl (cI, 1024, .inl (o_add (o_add o 122) (nI ((z / 2 ^ 24) % 2 ^ 8))).2.2.1))]) (wr := []) (va_runV (C := R_Ou) (As := [.int (nI ((z / 2 ^ 16) % 2 ^ 8))]) (rest := []) ⟨hx, hb, hml, hown, hW⟩ (k_Ou_addToLog l D g qo ql qp cI (o_add (o_add o 122) (nI ((z / 2 ^ 24) % 2 ^ 8))) (nI ((z / 2 ^ 16) % 2 ^ 8)) (o_add_ok (o_add_ok ho _) _) H.size) (cwV 1 hW (gWV mw_168 mw_170 mw_2 mw_51 mw_171) rfl rfl rfl (by decide +kernel) ⟨Nat.le_of_ble_eq_true rfl, Nat.le_of_ble_eq_true rfl⟩) ⟨xPc_blind (gZ_ok g), va_recv hK hP (ci := 1) (q0 := 0) rfl rfl, x_pre (gZ_ok g) hP hK hD hS hA hZ [0, 1, 2] [0] rfl rfl rfl⟩ rfl rfl hl.1 rfl (lv_room (Nat.le_of_ble_eq_true rfl)) d_Ou_addHeader_40 ⟨Nat.le_of_ble_eq_true rfl, Nat.le_of_ble_eq_true rfl⟩) hP hD hS hA [0, 1, 2] [] rfl rfl rfl (by decide) (fun u_40 H locs hw_40 hP hD hS => ?_)
        replace hw_40 := hw_40.symm
        subst hw_40
        have hP : va_P D vwCl [(qo, .inr (1, [.ref ql, .int (nI (o_add (o_add (o_add o 122) (nI ((z / 2 ^ 24) % 2 ^ 8))) (nI ((z / 2 ^ 16) % 2 ^ 8))).2.1), .ref qp, .int (nI (o_add (o_add (o_add o 122) (nI ((z / 2 ^ 24) % 2 ^ 8))) (nI ((z / 2 ^ 16) % 2 ^ 8))).2.2.2.1), .int (bI (o_add (o_add (o_add o 122) (nI ((z / 2 ^ 24) % 2 ^ 8))) (nI ((z / 2 ^ 16) % 2 ^ 8))).2.2.2.2)])), (ql, .inl (cI, 1507, .inl (o_add (o_add (o_add o 122) (nI ((z / 2 ^ 24) % 2 ^ 8))) (nI ((z / 2 ^ 16) % 2 ^ 8))).1)), (qp, .inl (cI, 1024, .inl (o_add (o_add (o_add o 122) (nI ((z / 2 ^ 24) % 2 ^ 8))) (nI ((z / 2 ^ 16) % 2 ^ 8))).2.2.1))] H := hP
        have hD : va_D A [(qo, .inr (1, [.ref ql, .int (nI (o_add (o_add (o_add o 122) (nI ((z / 2 ^ 24) % 2 ^ 8))) (nI ((z / 2 ^ 16) % 2 ^ 8))).2.1), .ref qp, .int (nI (o_add (o_add (o_add o 122) (nI ((z / 2 ^ 24) % 2 ^ 8))) (nI ((z / 2 ^ 16) % 2 ^ 8))).2.2.2.1), .int (bI (o_add (o_add (o_add o 122) (nI ((z / 2 ^ 24) % 2 ^ 8))) (nI ((z / 2 ^ 16) % 2 ^ 8))).2.2.2.2)])), (ql, .inl (cI, 1507, .inl (o_add (o_add (o_add o 122) (nI ((z / 2 ^ 24) % 2 ^ 8))) (nI ((z / 2 ^ 16) % 2 ^ 8))).1)), (qp, .inl (cI, 1024, .inl (o_add (o_add (o_add o 122) (nI ((z / 2 ^ 24) % 2 ^ 8))) (nI ((z / 2 ^ 16) % 2 ^ 8))).2.2.1))] := hD
        refine lv_iinc (v := 8) (lv' := [(2, .int 8), (0, .ref qo), (1, .int (nI z))]) hx hb d_Ou_addHeader_43 hl (k := 0) rfl (by decide) (by decide) rfl (fun ls hl => ?_)
        refine lv_goto (tgt := 28) hx hb d_Ou_addHeader_46 (by decide) ?_
        refine lv_iload_n hx hb d_Ou_addHeader_28 rfl (lv_at hl 0 rfl) ?_
        refine lv_if_lt (tgt := 49) hx hb d_Ou_addHeader_29 (by decide) (fun c_29 => ?_) (fun c_29 => ?_)
        · exact absurd c_29 (by decide)
        · refine lv_aload_n hx hb d_Ou_addHeader_32 rfl (lv_at hl 1 rfl) ?_
          refine lv_iload_n hx hb d_Ou_addHeader_33 rfl (lv_at hl 2 rfl) ?_
          refine lv_iload_n hx hb d_Ou_addHeader_34 rfl (lv_at hl 0 rfl) ?_
          refine lv_iushr (v := ((nI z).toUInt32 >>> ((8 : Int32).toUInt32 &&& Int32.toUInt32 31)).toInt32) hx hb d_Ou_addHeader_35 rfl ?_
          refine x_topi (y := nI (z / 2 ^ 8)) (pk_ushrN (by omega) _ 8 (by decide)) ?_
          refine lv_sipush (v := 255) hx hb d_Ou_addHeader_36 (by decide) ?_
          refine lv_iand hx hb d_Ou_addHeader_39 ?_
          refine x_topi (y := nI ((z / 2 ^ 8) % 2 ^ 8)) (pk_andN (by omega) 8 (by decide)) ?_
          refine x_callv (D := D) (wc := [(qo, .inr (1, [.ref ql, .int (nI (o_add (o_add (o_add o 122) (nI ((z / 2 ^ 24) % 2 ^ 8))) (nI ((z / 2 ^ 16) % 2 ^ 8))).2.1), .ref qp, .int (nI (o_add (o_add (o_add o 122) (nI ((z / 2 ^ 24) % 2 ^ 8))) (nI ((z / 2 ^ 16) % 2 ^ 8))).2.2.2.1), .int (bI (o_add (o_add (o_add o 122) (nI ((z / 2 ^ 24) % 2 ^ 8))) (nI ((z / 2 ^ 16) % 2 ^ 8))).2.2.2.2)])), (ql, .inl (cI, 1507, .inl (o_add (o_add (o_add o 122) (nI ((z / 2 ^ 24) % 2 ^ 8))) (nI ((z / 2 ^ 16) % 2 ^ 8))).1)), (qp, .inl (cI, 1024, .inl (o_add (o_add (o_add o 122) (nI ((z / 2 ^ 24) % 2 ^ 8))) (nI ((z / 2 ^ 16) % 2 ^ 8))).2.2.1))]) (wr := []) (va_runV (C := R_Ou) (As := [.int (nI ((z / 2 ^ 8) % 2 ^ 8))]) (rest := []) ⟨hx, hb, hml, hown, hW⟩ (k_Ou_addToLog l D g qo ql qp cI (o_add (o_add (o_add o 122) (nI ((z / 2 ^ 24) % 2 ^ 8))) (nI ((z / 2 ^ 16) % 2 ^ 8))) (nI ((z / 2 ^ 8) % 2 ^ 8)) (o_add_ok (o_add_ok (o_add_ok ho _) _) _) H.size) (cwV 1 hW (gWV mw_168 mw_170 mw_2 mw_51 mw_171) rfl rfl rfl (by decide +kernel) ⟨Nat.le_of_ble_eq_true rfl, Nat.le_of_ble_eq_true rfl⟩) ⟨xPc_blind (gZ_ok g), va_recv hK hP (ci := 1) (q0 := 0) rfl rfl, x_pre (gZ_ok g) hP hK hD hS hA hZ [0, 1, 2] [0] rfl rfl rfl⟩ rfl rfl hl.1 rfl (lv_room (Nat.le_of_ble_eq_true rfl)) d_Ou_addHeader_40 ⟨Nat.le_of_ble_eq_true rfl, Nat.le_of_ble_eq_true rfl⟩) hP hD hS hA [0, 1, 2] [] rfl rfl rfl (by decide) (fun u_40 H locs hw_40 hP hD hS => ?_)
          replace hw_40 := hw_40.symm
          subst hw_40
          have hP : va_P D vwCl [(qo, .inr (1, [.ref ql, .int (nI (o_add (o_add (o_add (o_add o 122) (nI ((z / 2 ^ 24) % 2 ^ 8))) (nI ((z / 2 ^ 16) % 2 ^ 8))) (nI ((z / 2 ^ 8) % 2 ^ 8))).2.1), .ref qp, .int (nI (o_add (o_add (o_add (o_add o 122) (nI ((z / 2 ^ 24) % 2 ^ 8))) (nI ((z / 2 ^ 16) % 2 ^ 8))) (nI ((z / 2 ^ 8) % 2 ^ 8))).2.2.2.1), .int (bI (o_add (o_add (o_add (o_add o 122) (nI ((z / 2 ^ 24) % 2 ^ 8))) (nI ((z / 2 ^ 16) % 2 ^ 8))) (nI ((z / 2 ^ 8) % 2 ^ 8))).2.2.2.2)])), (ql, .inl (cI, 1507, .inl (o_add (o_add (o_add (o_add o 122) (nI ((z / 2 ^ 24) % 2 ^ 8))) (nI ((z / 2 ^ 16) % 2 ^ 8))) (nI ((z / 2 ^ 8) % 2 ^ 8))).1)), (qp, .inl (cI, 1024, .inl (o_add (o_add (o_add (o_add o 122) (nI ((z / 2 ^ 24) % 2 ^ 8))) (nI ((z / 2 ^ 16) % 2 ^ 8))) (nI ((z / 2 ^ 8) % 2 ^ 8))).2.2.1))] H := hP
          have hD : va_D A [(qo, .inr (1, [.ref ql, .int (nI (o_add (o_add (o_add (o_add o 122) (nI ((z / 2 ^ 24) % 2 ^ 8))) (nI ((z / 2 ^ 16) % 2 ^ 8))) (nI ((z / 2 ^ 8) % 2 ^ 8))).2.1), .ref qp, .int (nI (o_add (o_add (o_add (o_add o 122) (nI ((z / 2 ^ 24) % 2 ^ 8))) (nI ((z / 2 ^ 16) % 2 ^ 8))) (nI ((z / 2 ^ 8) % 2 ^ 8))).2.2.2.1), .int (bI (o_add (o_add (o_add (o_add o 122) (nI ((z / 2 ^ 24) % 2 ^ 8))) (nI ((z / 2 ^ 16) % 2 ^ 8))) (nI ((z / 2 ^ 8) % 2 ^ 8))).2.2.2.2)])), (ql, .inl (cI, 1507, .inl (o_add (o_add (o_add (o_add o 122) (nI ((z / 2 ^ 24) % 2 ^ 8))) (nI ((z / 2 ^ 16) % 2 ^ 8))) (nI ((z / 2 ^ 8) % 2 ^ 8))).1)), (qp, .inl (cI, 1024, .inl (o_add (o_add (o_add (o_add o 122) (nI ((z / 2 ^ 24) % 2 ^ 8))) (nI ((z / 2 ^ 16) % 2 ^ 8))) (nI ((z / 2 ^ 8) % 2 ^ 8))).2.2.1))] := hD
          refine lv_iinc (v := 0) (lv' := [(2, .int 0), (0, .ref qo), (1, .int (nI z))]) hx hb d_Ou_addHeader_43 hl (k := 0) rfl (by decide) (by decide) rfl (fun ls hl => ?_)
          refine lv_goto (tgt := 28) hx hb d_Ou_addHeader_46 (by decide) ?_
          refine lv_iload_n hx hb d_Ou_addHeader_28 rfl (lv_at hl 0 rfl) ?_
          refine lv_if_lt (tgt := 49) hx hb d_Ou_addHeader_29 (by decide) (fun c_29 => ?_) (fun c_29 => ?_)
          · exact absurd c_29 (by decide)
          · refine lv_aload_n hx hb d_Ou_addHeader_32 rfl (lv_at hl 1 rfl) ?_
            refine lv_iload_n hx hb d_Ou_addHeader_33 rfl (lv_at hl 2 rfl) ?_
            refine lv_iload_n hx hb d_Ou_addHeader_34 rfl (lv_at hl 0 rfl) ?_
            refine lv_iushr (v := ((nI z).toUInt32 >>> ((0 : Int32).toUInt32 &&& Int32.toUInt32 31)).toInt32) hx hb d_Ou_addHeader_35 rfl ?_
            refine x_topi (y := nI (z / 2 ^ 0)) (pk_ushrN (by omega) _ 0 (by decide)) ?_
            refine lv_sipush (v := 255) hx hb d_Ou_addHeader_36 (by decide) ?_
            refine lv_iand hx hb d_Ou_addHeader_39 ?_
            refine x_topi (y := nI ((z / 2 ^ 0) % 2 ^ 8)) (pk_andN (by omega) 8 (by decide)) ?_
            refine x_callv (D := D) (wc := [(qo, .inr (1, [.ref ql, .int (nI (o_add (o_add (o_add (o_add o 122) (nI ((z / 2 ^ 24) % 2 ^ 8))) (nI ((z / 2 ^ 16) % 2 ^ 8))) (nI ((z / 2 ^ 8) % 2 ^ 8))).2.1), .ref qp, .int (nI (o_add (o_add (o_add (o_add o 122) (nI ((z / 2 ^ 24) % 2 ^ 8))) (nI ((z / 2 ^ 16) % 2 ^ 8))) (nI ((z / 2 ^ 8) % 2 ^ 8))).2.2.2.1), .int (bI (o_add (o_add (o_add (o_add o 122) (nI ((z / 2 ^ 24) % 2 ^ 8))) (nI ((z / 2 ^ 16) % 2 ^ 8))) (nI ((z / 2 ^ 8) % 2 ^ 8))).2.2.2.2)])), (ql, .inl (cI, 1507, .inl (o_add (o_add (o_add (o_add o 122) (nI ((z / 2 ^ 24) % 2 ^ 8))) (nI ((z / 2 ^ 16) % 2 ^ 8))) (nI ((z / 2 ^ 8) % 2 ^ 8))).1)), (qp, .inl (cI, 1024, .inl (o_add (o_add (o_add (o_add o 122) (nI ((z / 2 ^ 24) % 2 ^ 8))) (nI ((z / 2 ^ 16) % 2 ^ 8))) (nI ((z / 2 ^ 8) % 2 ^ 8))).2.2.1))]) (wr := []) (va_runV (C := R_Ou) (As := [.int (nI ((z / 2 ^ 0) % 2 ^ 8))]) (rest := []) ⟨hx, hb, hml, hown, hW⟩ (k_Ou_addToLog l D g qo ql qp cI (o_add (o_add (o_add (o_add o 122) (nI ((z / 2 ^ 24) % 2 ^ 8))) (nI ((z / 2 ^ 16) % 2 ^ 8))) (nI ((z / 2 ^ 8) % 2 ^ 8))) (nI ((z / 2 ^ 0) % 2 ^ 8)) (o_add_ok (o_add_ok (o_add_ok (o_add_ok ho _) _) _) _) H.size) (cwV 1 hW (gWV mw_168 mw_170 mw_2 mw_51 mw_171) rfl rfl rfl (by decide +kernel) ⟨Nat.le_of_ble_eq_true rfl, Nat.le_of_ble_eq_true rfl⟩) ⟨xPc_blind (gZ_ok g), va_recv hK hP (ci := 1) (q0 := 0) rfl rfl, x_pre (gZ_ok g) hP hK hD hS hA hZ [0, 1, 2] [0] rfl rfl rfl⟩ rfl rfl hl.1 rfl (lv_room (Nat.le_of_ble_eq_true rfl)) d_Ou_addHeader_40 ⟨Nat.le_of_ble_eq_true rfl, Nat.le_of_ble_eq_true rfl⟩) hP hD hS hA [0, 1, 2] [] rfl rfl rfl (by decide) (fun u_40 H locs hw_40 hP hD hS => ?_)
            replace hw_40 := hw_40.symm
            subst hw_40
            have hP : va_P D vwCl [(qo, .inr (1, [.ref ql, .int (nI (o_add (o_add (o_add (o_add (o_add o 122) (nI ((z / 2 ^ 24) % 2 ^ 8))) (nI ((z / 2 ^ 16) % 2 ^ 8))) (nI ((z / 2 ^ 8) % 2 ^ 8))) (nI ((z / 2 ^ 0) % 2 ^ 8))).2.1), .ref qp, .int (nI (o_add (o_add (o_add (o_add (o_add o 122) (nI ((z / 2 ^ 24) % 2 ^ 8))) (nI ((z / 2 ^ 16) % 2 ^ 8))) (nI ((z / 2 ^ 8) % 2 ^ 8))) (nI ((z / 2 ^ 0) % 2 ^ 8))).2.2.2.1), .int (bI (o_add (o_add (o_add (o_add (o_add o 122) (nI ((z / 2 ^ 24) % 2 ^ 8))) (nI ((z / 2 ^ 16) % 2 ^ 8))) (nI ((z / 2 ^ 8) % 2 ^ 8))) (nI ((z / 2 ^ 0) % 2 ^ 8))).2.2.2.2)])), (ql, .inl (cI, 1507, .inl (o_add (o_add (o_add (o_add (o_add o 122) (nI ((z / 2 ^ 24) % 2 ^ 8))) (nI ((z / 2 ^ 16) % 2 ^ 8))) (nI ((z / 2 ^ 8) % 2 ^ 8))) (nI ((z / 2 ^ 0) % 2 ^ 8))).1)), (qp, .inl (cI, 1024, .inl (o_add (o_add (o_add (o_add (o_add o 122) (nI ((z / 2 ^ 24) % 2 ^ 8))) (nI ((z / 2 ^ 16) % 2 ^ 8))) (nI ((z / 2 ^ 8) % 2 ^ 8))) (nI ((z / 2 ^ 0) % 2 ^ 8))).2.2.1))] H := hP
            have hD : va_D A [(qo, .inr (1, [.ref ql, .int (nI (o_add (o_add (o_add (o_add (o_add o 122) (nI ((z / 2 ^ 24) % 2 ^ 8))) (nI ((z / 2 ^ 16) % 2 ^ 8))) (nI ((z / 2 ^ 8) % 2 ^ 8))) (nI ((z / 2 ^ 0) % 2 ^ 8))).2.1), .ref qp, .int (nI (o_add (o_add (o_add (o_add (o_add o 122) (nI ((z / 2 ^ 24) % 2 ^ 8))) (nI ((z / 2 ^ 16) % 2 ^ 8))) (nI ((z / 2 ^ 8) % 2 ^ 8))) (nI ((z / 2 ^ 0) % 2 ^ 8))).2.2.2.1), .int (bI (o_add (o_add (o_add (o_add (o_add o 122) (nI ((z / 2 ^ 24) % 2 ^ 8))) (nI ((z / 2 ^ 16) % 2 ^ 8))) (nI ((z / 2 ^ 8) % 2 ^ 8))) (nI ((z / 2 ^ 0) % 2 ^ 8))).2.2.2.2)])), (ql, .inl (cI, 1507, .inl (o_add (o_add (o_add (o_add (o_add o 122) (nI ((z / 2 ^ 24) % 2 ^ 8))) (nI ((z / 2 ^ 16) % 2 ^ 8))) (nI ((z / 2 ^ 8) % 2 ^ 8))) (nI ((z / 2 ^ 0) % 2 ^ 8))).1)), (qp, .inl (cI, 1024, .inl (o_add (o_add (o_add (o_add (o_add o 122) (nI ((z / 2 ^ 24) % 2 ^ 8))) (nI ((z / 2 ^ 16) % 2 ^ 8))) (nI ((z / 2 ^ 8) % 2 ^ 8))) (nI ((z / 2 ^ 0) % 2 ^ 8))).2.2.1))] := hD
            refine lv_iinc (v := -8) (lv' := [(2, .int (-8)), (0, .ref qo), (1, .int (nI z))]) hx hb d_Ou_addHeader_43 hl (k := 0) rfl (by decide) (by decide) rfl (fun ls hl => ?_)
            refine lv_goto (tgt := 28) hx hb d_Ou_addHeader_46 (by decide) ?_
            refine lv_iload_n hx hb d_Ou_addHeader_28 rfl (lv_at hl 0 rfl) ?_
            refine lv_if_lt (tgt := 49) hx hb d_Ou_addHeader_29 (by decide) (fun c_29 => ?_) (fun c_29 => ?_)
            · exact W.vret hx hb hr (fun t9 ht9 hW9 => ⟨⟨((o_add (o_add (o_add (o_add (o_add o 122) (nI ((z / 2 ^ 24) % 2 ^ 8))) (nI ((z / 2 ^ 16) % 2 ^ 8))) (nI ((z / 2 ^ 8) % 2 ^ 8))) (nI ((z / 2 ^ 0) % 2 ^ 8))) : OS), rfl, by first | (rw [o_hdr, if_pos (by omega)]; try rfl) | (rw [o_hdr, if_neg (by omega)]; try rfl), by rw [ht9]; exact hP.sub [0, 1, 2] rfl, va_K.moved hW9.alike hK, hD.sub [0, 1, 2] (by decide) rfl⟩, hS.F ht9⟩) hS.2.2 d_Ou_addHeader_49
            · exact absurd c_29 (by decide)
  · replace c_4 := mt (cg_lt 255 z rfl rfl (by omega) (by omega)).mpr c_4
    refine lv_aload_n hx hb d_Ou_addHeader_7 rfl (lv_at hl 0 rfl) ?_
    refine lv_bipush (v := 119) hx hb d_Ou_addHeader_8 (by decide) ?_
    refine x_callv (D := D) (wc := [(qo, .inr (1, [.ref ql, .int (nI o.2.1), .ref qp, .int (nI o.2.2.2.1), .int (bI o.2.2.2.2)])), (ql, .inl (cI, 1507, .inl o.1)), (qp, .inl (cI, 1024, .inl o.2.2.1))]) (wr := []) (va_runV (C := R_Ou) (As := [.int 119]) (rest := []) ⟨hx, hb, hml, hown, hW⟩ (k_Ou_addToLog l D g qo ql qp cI o 119 ho s.heap.size) (cwV 1 hW (gWV mw_168 mw_170 mw_2 mw_51 mw_171) rfl rfl rfl (by decide +kernel) ⟨Nat.le_of_ble_eq_true rfl, Nat.le_of_ble_eq_true rfl⟩) ⟨xPc_blind (gZ_ok g), va_recv hK hP (ci := 1) (q0 := 0) rfl rfl, x_pre (gZ_ok g) hP hK hD hS hA hZ [0, 1, 2] [0] rfl rfl rfl⟩ rfl rfl hl.1 rfl (lv_room (Nat.le_of_ble_eq_true rfl)) d_Ou_addHeader_10 ⟨Nat.le_of_ble_eq_true rfl, Nat.le_of_ble_eq_true rfl⟩) hP hD hS hA [0, 1, 2] [] rfl rfl rfl (by decide) (fun u_10 H locs hw_10 hP hD hS => ?_)
    replace hw_10 := hw_10.symm
    subst hw_10
    have hP : va_P D vwCl [(qo, .inr (1, [.ref ql, .int (nI (o_add o 119).2.1), .ref qp, .int (nI (o_add o 119).2.2.2.1), .int (bI (o_add o 119).2.2.2.2)])), (ql, .inl (cI, 1507, .inl (o_add o 119).1)), (qp, .inl (cI, 1024, .inl (o_add o 119).2.2.1))] H := hP
    have hD : va_D A [(qo, .inr (1, [.ref ql, .int (nI (o_add o 119).2.1), .ref qp, .int (nI (o_add o 119).2.2.2.1), .int (bI (o_add o 119).2.2.2.2)])), (ql, .inl (cI, 1507, .inl (o_add o 119).1)), (qp, .inl (cI, 1024, .inl (o_add o 119).2.2.1))] := hD
    refine lv_aload_n hx hb d_Ou_addHeader_13 rfl (lv_at hl 0 rfl) ?_
    refine lv_iload_n hx hb d_Ou_addHeader_14 rfl (lv_at hl 1 rfl) ?_
    refine x_callv (D := D) (wc := [(qo, .inr (1, [.ref ql, .int (nI (o_add o 119).2.1), .ref qp, .int (nI (o_add o 119).2.2.2.1), .int (bI (o_add o 119).2.2.2.2)])), (ql, .inl (cI, 1507, .inl (o_add o 119).1)), (qp, .inl (cI, 1024, .inl (o_add o 119).2.2.1))]) (wr := []) (va_runV (C := R_Ou) (As := [.int (nI z)]) (rest := []) ⟨hx, hb, hml, hown, hW⟩ (k_Ou_addToLog l D g qo ql qp cI (o_add o 119) (nI z) (o_add_ok ho _) H.size) (cwV 1 hW (gWV mw_168 mw_170 mw_2 mw_51 mw_171) rfl rfl rfl (by decide +kernel) ⟨Nat.le_of_ble_eq_true rfl, Nat.le_of_ble_eq_true rfl⟩) ⟨xPc_blind (gZ_ok g), va_recv hK hP (ci := 1) (q0 := 0) rfl rfl, x_pre (gZ_ok g) hP hK hD hS hA hZ [0, 1, 2] [0] rfl rfl rfl⟩ rfl rfl hl.1 rfl (lv_room (Nat.le_of_ble_eq_true rfl)) d_Ou_addHeader_15 ⟨Nat.le_of_ble_eq_true rfl, Nat.le_of_ble_eq_true rfl⟩) hP hD hS hA [0, 1, 2] [] rfl rfl rfl (by decide) (fun u_15 H locs hw_15 hP hD hS => ?_)
    replace hw_15 := hw_15.symm
    subst hw_15
    have hP : va_P D vwCl [(qo, .inr (1, [.ref ql, .int (nI (o_add (o_add o 119) (nI z)).2.1), .ref qp, .int (nI (o_add (o_add o 119) (nI z)).2.2.2.1), .int (bI (o_add (o_add o 119) (nI z)).2.2.2.2)])), (ql, .inl (cI, 1507, .inl (o_add (o_add o 119) (nI z)).1)), (qp, .inl (cI, 1024, .inl (o_add (o_add o 119) (nI z)).2.2.1))] H := hP
    have hD : va_D A [(qo, .inr (1, [.ref ql, .int (nI (o_add (o_add o 119) (nI z)).2.1), .ref qp, .int (nI (o_add (o_add o 119) (nI z)).2.2.2.1), .int (bI (o_add (o_add o 119) (nI z)).2.2.2.2)])), (ql, .inl (cI, 1507, .inl (o_add (o_add o 119) (nI z)).1)), (qp, .inl (cI, 1024, .inl (o_add (o_add o 119) (nI z)).2.2.1))] := hD
    exact W.vret hx hb hr (fun t9 ht9 hW9 => ⟨⟨((o_add (o_add o 119) (nI z)) : OS), rfl, by first | (rw [o_hdr, if_pos (by omega)]; try rfl) | (rw [o_hdr, if_neg (by omega)]; try rfl), by rw [ht9]; exact hP.sub [0, 1, 2] rfl, va_K.moved hW9.alike hK, hD.sub [0, 1, 2] (by decide) rfl⟩, hS.F ht9⟩) hS.2.2 d_Ou_addHeader_18
set_option maxHeartbeats 4000000 in
set_option maxRecDepth 100000 in
theorem k_Ou_makeBlock (l : Launch) (D : va_G) (g : GP) (qo ql qp : Nat) (cI : ClassId) (o : OS) (ho : o_ok o) (sz : Nat) : Met l y_Ou_makeBlock (.code y_Ou_makeBlock c_Ou_makeBlock 2 none :: xW) ({ frames := 2, cells := 0, slots := 0, locals := 43 }) (xPc (gZ g) D vwCl [.ref qo] [(qo, .inr (1, [.ref ql, .int (nI o.2.1), .ref qp, .int (nI o.2.2.2.1), .int (bI o.2.2.2.2)])), (ql, .inl (cI, 1507, .inl o.1)), (qp, .inl (cI, 1024, .inl o.2.2.1))] [(cI, .int)] sz) (va_Qv (fun (u : OS) => u = o_block o) (xB D vwCl [(cI, .int)] (fun u : OS => [(qo, .inr (1, [.ref ql, .int (nI u.2.1), .ref qp, .int (nI u.2.2.2.1), .int (bI u.2.2.2.2)])), (ql, .inl (cI, 1507, .inl u.1)), (qp, .inl (cI, 1024, .inl u.2.2.1))]) (va_A [(qo, .inr (1, [.ref ql, .int (nI o.2.1), .ref qp, .int (nI o.2.2.2.1), .int (bI o.2.2.2.2)])), (ql, .inl (cI, 1507, .inl o.1)), (qp, .inl (cI, 1024, .inl o.2.2.1))] sz)) (va_A [(qo, .inr (1, [.ref ql, .int (nI o.2.1), .ref qp, .int (nI o.2.2.2.1), .int (bI o.2.2.2.2)])), (ql, .inl (cI, 1507, .inl o.1)), (qp, .inl (cI, 1024, .inl o.2.2.1))] sz)) 0 0 (va_A [(qo, .inr (1, [.ref ql, .int (nI o.2.1), .ref qp, .int (nI o.2.2.2.1), .int (bI o.2.2.2.2)])), (ql, .inl (cI, 1507, .inl o.1)), (qp, .inl (cI, 1024, .inl o.2.2.1))] sz) := by
  refine x_open (Qc := fun A => va_Qv (fun (u : OS) => u = o_block o) (xB D vwCl [(cI, .int)] (fun u : OS => [(qo, .inr (1, [.ref ql, .int (nI u.2.1), .ref qp, .int (nI u.2.2.2.1), .int (bI u.2.2.2.2)])), (ql, .inl (cI, 1507, .inl u.1)), (qp, .inl (cI, 1024, .inl u.2.2.1))]) A) A) (cc := c_Ou_makeBlock) (maxL := 2) (ret := none) (own := R_Ou) (by decide) rfl rfl (Nat.le_of_ble_eq_true rfl) ?_
  intro p e s m below meth cd A ls hsz hAe hx hb hr hml hown hts hlk hnm hA hP hK hD hS hZ hl
  clear hsz hAe
  have hW : ∀ w ∈ xW, w.before _ s = true := fun w h => hts w (List.mem_cons_of_mem _ h)
  have hl : lv_has ls 2 [(0, .ref qo)] := hl
  obtain ⟨ho1, ho2⟩ := id ho
  refine lv_aload_n hx hb d_Ou_makeBlock_0 rfl (lv_at hl 0 rfl) ?_
  refine va_get (D := D) (ci := 1) (v := .int (nI o.2.2.2.1)) (C := R_Ou) (T := F_Ou) (N := 5) hx hb hW in_Ou hown hK hP 0 rfl rfl 3 (by decide) (hW _ mw_84) (fun _ h9 => h9) rfl d_Ou_makeBlock_1 ?_
  refine lv_if_ne (tgt := 8) hx hb d_Ou_makeBlock_4 (by decide) (fun c_4 => ?_) (fun c_4 => ?_)
  · replace c_4 := mt (cg_eq o.2.2.2.1 0 rfl rfl (by omega) (by omega)).mpr c_4
    refine lv_aload_n hx hb d_Ou_makeBlock_8 rfl (lv_at hl 0 rfl) ?_
    refine lv_aload_n hx hb d_Ou_makeBlock_9 rfl (lv_at hl 0 rfl) ?_
    refine va_get (D := D) (ci := 1) (v := .int (nI o.2.2.2.1)) (C := R_Ou) (T := F_Ou) (N := 5) hx hb hW in_Ou hown hK hP 0 rfl rfl 3 (by decide) (hW _ mw_84) (fun _ h9 => h9) rfl d_Ou_makeBlock_10 ?_
    refine x_callv (D := D) (wc := [(qo, .inr (1, [.ref ql, .int (nI o.2.1), .ref qp, .int (nI o.2.2.2.1), .int (bI o.2.2.2.2)])), (ql, .inl (cI, 1507, .inl o.1)), (qp, .inl (cI, 1024, .inl o.2.2.1))]) (wr := []) (va_runV (C := R_Ou) (As := [.int (nI o.2.2.2.1)]) (rest := []) ⟨hx, hb, hml, hown, hW⟩ (k_Ou_addHeader l D g qo ql qp cI o o.2.2.2.1 ho (by omega) s.heap.size) (cwV 1 hW (gWV mw_164 mw_166 mw_1 mw_51 mw_167) rfl rfl rfl (by decide +kernel) ⟨Nat.le_of_ble_eq_true rfl, Nat.le_of_ble_eq_true rfl⟩) ⟨xPc_blind (gZ_ok g), va_recv hK hP (ci := 1) (q0 := 0) rfl rfl, x_pre (gZ_ok g) hP hK hD hS hA hZ [0, 1, 2] [0] rfl rfl rfl⟩ rfl rfl hl.1 rfl (lv_room (Nat.le_of_ble_eq_true rfl)) d_Ou_makeBlock_13 ⟨Nat.le_of_ble_eq_true rfl, Nat.le_of_ble_eq_true rfl⟩) hP hD hS hA [0, 1, 2] [] rfl rfl rfl (by decide) (fun u_13 H locs hw_13 hP hD hS => ?_)
    replace hw_13 := hw_13.symm
    subst hw_13
    have hP : va_P D vwCl [(qo, .inr (1, [.ref ql, .int (nI (o_hdr o o.2.2.2.1).2.1), .ref qp, .int (nI (o_hdr o o.2.2.2.1).2.2.2.1), .int (bI (o_hdr o o.2.2.2.1).2.2.2.2)])), (ql, .inl (cI, 1507, .inl (o_hdr o o.2.2.2.1).1)), (qp, .inl (cI, 1024, .inl (o_hdr o o.2.2.2.1).2.2.1))] H := hP
    have hD : va_D A [(qo, .inr (1, [.ref ql, .int (nI (o_hdr o o.2.2.2.1).2.1), .ref qp, .int (nI (o_hdr o o.2.2.2.1).2.2.2.1), .int (bI (o_hdr o o.2.2.2.1).2.2.2.2)])), (ql, .inl (cI, 1507, .inl (o_hdr o o.2.2.2.1).1)), (qp, .inl (cI, 1024, .inl (o_hdr o o.2.2.2.1).2.2.1))] := hD
    refine lv_iconst (v := 0) hx hb d_Ou_makeBlock_16 (by decide) ?_
    refine lv_istore_n (lv' := [(1, .int 0), (0, .ref qo)]) hx hb d_Ou_makeBlock_17 rfl hl (by decide) rfl (fun ls hl => ?_)
    have hlp_18 : ∀ (n : Nat) (i : Nat), (i ≤ o.2.2.2.1) → o.2.2.2.1 - i < n → ∀ (H : Heap) (locs : List Loc), va_P D vwCl [(qo, .inr (1, [.ref ql, .int (nI (o_puts (o_hdr o o.2.2.2.1) o.2.2.1 i).2.1), .ref qp, .int (nI (o_puts (o_hdr o o.2.2.2.1) o.2.2.1 i).2.2.2.1), .int (bI (o_puts (o_hdr o o.2.2.2.1) o.2.2.1 i).2.2.2.2)])), (ql, .inl (cI, 1507, .inl (o_puts (o_hdr o o.2.2.2.1) o.2.2.1 i).1)), (qp, .inl (cI, 1024, .inl (o_puts (o_hdr o o.2.2.2.1) o.2.2.1 i).2.2.1))] H → va_D A [(qo, .inr (1, [.ref ql, .int (nI (o_puts (o_hdr o o.2.2.2.1) o.2.2.1 i).2.1), .ref qp, .int (nI (o_puts (o_hdr o o.2.2.2.1) o.2.2.1 i).2.2.2.1), .int (bI (o_puts (o_hdr o o.2.2.2.1) o.2.2.1 i).2.2.2.2)])), (ql, .inl (cI, 1507, .inl (o_puts (o_hdr o o.2.2.2.1) o.2.2.1 i).1)), (qp, .inl (cI, 1024, .inl (o_puts (o_hdr o o.2.2.2.1) o.2.2.1 i).2.2.1))] → va_S A s.heap H locs → ∀ (ls : Array Slot), lv_has ls 2 [(1, .int (nI i)), (0, .ref qo)] → W p l e ({ frames := 2, cells := 0, slots := 0, locals := 43 }) s m [.ref qo].toArray below meth cd H locs 0 0 (MQ below ((fun A => va_Qv (fun (u : OS) => u = o_block o) (xB D vwCl [(cI, .int)] (fun u : OS => [(qo, .inr (1, [.ref ql, .int (nI u.2.1), .ref qp, .int (nI u.2.2.2.1), .int (bI u.2.2.2.2)])), (ql, .inl (cI, 1507, .inl u.1)), (qp, .inl (cI, 1024, .inl u.2.2.1))]) A) A) A) [.ref qo].toArray s 0 0 A) (F0 m 18 ls []) := by
      intro n
      induction n with
      | zero => intro i hi hms; exact absurd hms (Nat.not_lt_zero _)
      | succ n ih =>
        intro i hi hms H locs hP hD hS ls hl
        refine lv_iload_n hx hb d_Ou_makeBlock_18 rfl (lv_at hl 0 rfl) ?_
        refine lv_aload_n hx hb d_Ou_makeBlock_19 rfl (lv_at hl 1 rfl) ?_
        refine va_get (D := D) (ci := 1) (v := .int (nI (o_puts (o_hdr o o.2.2.2.1) o.2.2.1 i).2.2.2.1)) (C := R_Ou) (T := F_Ou) (N := 5) hx hb hW in_Ou hown hK hP 0 rfl rfl 3 (by decide) (hW _ mw_84) (fun _ h9 => h9) rfl d_Ou_makeBlock_20 ?_
        refine x_topi (y := nI o.2.2.2.1) (by rw [o_puts_22, o_hdr_22]) ?_
        refine lv_icmp_ge (tgt := 42) hx hb d_Ou_makeBlock_23 (by decide) (fun c_23 => ?_) (fun c_23 => ?_)
        · replace c_23 := (cg_le o.2.2.2.1 i rfl rfl (by omega) (by omega)).mp c_23
          refine lv_aload_n hx hb d_Ou_makeBlock_42 rfl (lv_at hl 1 rfl) ?_
          refine lv_iconst (v := 0) hx hb d_Ou_makeBlock_43 (by decide) ?_
          refine x_topi (y := nI 0) (by decide) ?_
          refine va_put (D := D) (ci := 1) (v := .int (nI 0)) (ty := .int) (C := R_Ou) (T := F_Ou) (N := 5) hx hb hW in_Ou t_Ou t_Ou_ok nm_Ou hown hK hP hD hS 0 rfl rfl 3 (by decide) (hW _ mw_84) (fun _ h9 => h9) rfl (by decide +kernel) (rfl) (rfl) (Nat.le_of_ble_eq_true rfl) d_Ou_makeBlock_44 (fun H locs hP hD hS => ?_)
          have hP : va_P D vwCl [(qo, .inr (1, [.ref ql, .int (nI (o_puts (o_hdr o o.2.2.2.1) o.2.2.1 i).2.1), .ref qp, .int (nI 0), .int (bI (o_puts (o_hdr o o.2.2.2.1) o.2.2.1 i).2.2.2.2)])), (ql, .inl (cI, 1507, .inl (o_puts (o_hdr o o.2.2.2.1) o.2.2.1 i).1)), (qp, .inl (cI, 1024, .inl (o_puts (o_hdr o o.2.2.2.1) o.2.2.1 i).2.2.1))] H := hP
          have hD : va_D A [(qo, .inr (1, [.ref ql, .int (nI (o_puts (o_hdr o o.2.2.2.1) o.2.2.1 i).2.1), .ref qp, .int (nI 0), .int (bI (o_puts (o_hdr o o.2.2.2.1) o.2.2.1 i).2.2.2.2)])), (ql, .inl (cI, 1507, .inl (o_puts (o_hdr o o.2.2.2.1) o.2.2.1 i).1)), (qp, .inl (cI, 1024, .inl (o_puts (o_hdr o o.2.2.2.1) o.2.2.1 i).2.2.1))] := hD
          have e_i : i = o.2.2.2.1 := by omega
          exact W.vret hx hb hr (fun t9 ht9 hW9 => ⟨⟨(((o_puts (o_hdr o o.2.2.2.1) o.2.2.1 i).1, (o_puts (o_hdr o o.2.2.2.1) o.2.2.1 i).2.1, (o_puts (o_hdr o o.2.2.2.1) o.2.2.1 i).2.2.1, 0, (o_puts (o_hdr o o.2.2.2.1) o.2.2.1 i).2.2.2.2) : OS), rfl, by subst e_i; rw [o_block, if_neg c_4], by rw [ht9]; exact hP.sub [0, 1, 2] rfl, va_K.moved hW9.alike hK, hD.sub [0, 1, 2] (by decide) rfl⟩, hS.F ht9⟩) hS.2.2 d_Ou_makeBlock_47
        · replace c_23 := mt (cg_le o.2.2.2.1 i rfl rfl (by omega) (by omega)).mpr c_23
          refine lv_aload_n hx hb d_Ou_makeBlock_26 rfl (lv_at hl 1 rfl) ?_
          refine lv_aload_n hx hb d_Ou_makeBlock_27 rfl (lv_at hl 1 rfl) ?_
          refine va_get (D := D) (ci := 1) (v := .ref qp) (C := R_Ou) (T := F_Ou) (N := 5) hx hb hW in_Ou hown hK hP 0 rfl rfl 2 (by decide) (hW _ mw_83) (fun _ h9 => h9) rfl d_Ou_makeBlock_28 ?_
          refine lv_iload_n hx hb d_Ou_makeBlock_31 rfl (lv_at hl 0 rfl) ?_
          refine va_iald (D := D) hx hb hK hP 2 0 rfl rfl (vp_in_nI (by omega) (by decide)) d_Ou_makeBlock_32 ?_
          refine x_topi (y := (o_puts (o_hdr o o.2.2.2.1) o.2.2.1 i).2.2.1 i) (by rw [nI_clamp (by omega)]) ?_
          refine x_topi (y := o.2.2.1 i) (by rw [o_puts_22, o_hdr_22]) ?_
          refine x_callv (D := D) (wc := [(qo, .inr (1, [.ref ql, .int (nI (o_puts (o_hdr o o.2.2.2.1) o.2.2.1 i).2.1), .ref qp, .int (nI (o_puts (o_hdr o o.2.2.2.1) o.2.2.1 i).2.2.2.1), .int (bI (o_puts (o_hdr o o.2.2.2.1) o.2.2.1 i).2.2.2.2)])), (ql, .inl (cI, 1507, .inl (o_puts (o_hdr o o.2.2.2.1) o.2.2.1 i).1)), (qp, .inl (cI, 1024, .inl (o_puts (o_hdr o o.2.2.2.1) o.2.2.1 i).2.2.1))]) (wr := []) (va_runV (C := R_Ou) (As := [.int (o.2.2.1 i)]) (rest := []) ⟨hx, hb, hml, hown, hW⟩ (k_Ou_addToLog l D g qo ql qp cI (o_puts (o_hdr o o.2.2.2.1) o.2.2.1 i) (o.2.2.1 i) (o_puts_ok (o_hdr_ok ho _) _ _) H.size) (cwV 1 hW (gWV mw_168 mw_170 mw_2 mw_51 mw_171) rfl rfl rfl (by decide +kernel) ⟨Nat.le_of_ble_eq_true rfl, Nat.le_of_ble_eq_true rfl⟩) ⟨xPc_blind (gZ_ok g), va_recv hK hP (ci := 1) (q0 := 0) rfl rfl, x_pre (gZ_ok g) hP hK hD hS hA hZ [0, 1, 2] [0] rfl rfl rfl⟩ rfl rfl hl.1 rfl (lv_room (Nat.le_of_ble_eq_true rfl)) d_Ou_makeBlock_33 ⟨Nat.le_of_ble_eq_true rfl, Nat.le_of_ble_eq_true rfl⟩) hP hD hS hA [0, 1, 2] [] rfl rfl rfl (by decide) (fun u_33 H locs hw_33 hP hD hS => ?_)
          replace hw_33 := hw_33.symm
          subst hw_33
          have hP : va_P D vwCl [(qo, .inr (1, [.ref ql, .int (nI (o_add (o_puts (o_hdr o o.2.2.2.1) o.2.2.1 i) (o.2.2.1 i)).2.1), .ref qp, .int (nI (o_add (o_puts (o_hdr o o.2.2.2.1) o.2.2.1 i) (o.2.2.1 i)).2.2.2.1), .int (bI (o_add (o_puts (o_hdr o o.2.2.2.1) o.2.2.1 i) (o.2.2.1 i)).2.2.2.2)])), (ql, .inl (cI, 1507, .inl (o_add (o_puts (o_hdr o o.2.2.2.1) o.2.2.1 i) (o.2.2.1 i)).1)), (qp, .inl (cI, 1024, .inl (o_add (o_puts (o_hdr o o.2.2.2.1) o.2.2.1 i) (o.2.2.1 i)).2.2.1))] H := hP
          have hD : va_D A [(qo, .inr (1, [.ref ql, .int (nI (o_add (o_puts (o_hdr o o.2.2.2.1) o.2.2.1 i) (o.2.2.1 i)).2.1), .ref qp, .int (nI (o_add (o_puts (o_hdr o o.2.2.2.1) o.2.2.1 i) (o.2.2.1 i)).2.2.2.1), .int (bI (o_add (o_puts (o_hdr o o.2.2.2.1) o.2.2.1 i) (o.2.2.1 i)).2.2.2.2)])), (ql, .inl (cI, 1507, .inl (o_add (o_puts (o_hdr o o.2.2.2.1) o.2.2.1 i) (o.2.2.1 i)).1)), (qp, .inl (cI, 1024, .inl (o_add (o_puts (o_hdr o o.2.2.2.1) o.2.2.1 i) (o.2.2.1 i)).2.2.1))] := hD
          refine lv_iinc (v := nI (i + 1)) (lv' := [(1, .int (nI (i + 1))), (0, .ref qo)]) hx hb d_Ou_makeBlock_36 hl (k := 0) rfl (nI_1 _) (by decide) rfl (fun ls hl => ?_)
          refine lv_goto (tgt := 18) hx hb d_Ou_makeBlock_39 (by decide) ?_
          exact ih (i + 1) (by omega) (by omega) H locs (hP.sub [0, 1, 2] rfl) (hD.sub [0, 1, 2] (by decide) rfl) hS ls (lv_sub hl [0, 1] rfl)
    exact hlp_18 _ 0 (Nat.zero_le _) (Nat.lt_succ_self _) H locs (hP.sub [0, 1, 2] rfl) (hD.sub [0, 1, 2] (by decide) rfl) hS ls (lv_sub hl [0, 1] rfl)
  · replace c_4 := (cg_eq o.2.2.2.1 0 rfl rfl (by omega) (by omega)).mp c_4
    exact W.vret hx hb hr (fun t9 ht9 hW9 => ⟨⟨(o : OS), rfl, by rw [o_block, if_pos c_4], by rw [ht9]; exact hP.sub [0, 1, 2] rfl, va_K.moved hW9.alike hK, hD.sub [0, 1, 2] (by decide) rfl⟩, hS.F ht9⟩) hS.2.2 d_Ou_makeBlock_7
