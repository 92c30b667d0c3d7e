set_option maxHeartbeats 4000000 in
set_option maxRecDepth 100000 in
theorem k_Ou_addByte (l : Launch) (D : va_G) (g : GP) (qo ql qp : Nat) (cI : ClassId) (o : OS) (x : Int32) (ho : o_ok o) (sz : Nat) : Met l y_Ou_addByte (.code y_Ou_addByte c_Ou_addByte 2 none :: xW) ({ frames := 3, cells := 0, slots := 0, locals := 64 }) (xPc (gZ g) D vwCl [.ref qo, .int x] [(qo, .inr (1, [.ref ql, .int (nI o.2.1), .ref qp, .int (nI o.2.2.2.1), .int (bI o.2.2.2.2)])), (ql, .inl (cI, 1507, .inl o.1)), (qp, .inl (cI, 1024, .inl o.2.2.1))] [(cI, .int)] sz) (va_Qv (fun (u : OS) => u = o_byte o x) (xB D vwCl [(cI, .int)] (fun u : OS => [(qo, .inr (1, [.ref ql, .int (nI u.2.1), .ref qp, .int (nI u.2.2.2.1), .int (bI u.2.2.2.2)])), (ql, .inl (cI, 1507, .inl u.1)), (qp, .inl (cI, 1024, .inl u.2.2.1))]) (va_A [(qo, .inr (1, [.ref ql, .int (nI o.2.1), .ref qp, .int (nI o.2.2.2.1), .int (bI o.2.2.2.2)])), (ql, .inl (cI, 1507, .inl o.1)), (qp, .inl (cI, 1024, .inl o.2.2.1))] sz)) (va_A [(qo, .inr (1, [.ref ql, .int (nI o.2.1), .ref qp, .int (nI o.2.2.2.1), .int (bI o.2.2.2.2)])), (ql, .inl (cI, 1507, .inl o.1)), (qp, .inl (cI, 1024, .inl o.2.2.1))] sz)) 0 0 (va_A [(qo, .inr (1, [.ref ql, .int (nI o.2.1), .ref qp, .int (nI o.2.2.2.1), .int (bI o.2.2.2.2)])), (ql, .inl (cI, 1507, .inl o.1)), (qp, .inl (cI, 1024, .inl o.2.2.1))] sz) := by
  refine x_open (Qc := fun A => va_Qv (fun (u : OS) => u = o_byte o x) (xB D vwCl [(cI, .int)] (fun u : OS => [(qo, .inr (1, [.ref ql, .int (nI u.2.1), .ref qp, .int (nI u.2.2.2.1), .int (bI u.2.2.2.2)])), (ql, .inl (cI, 1507, .inl u.1)), (qp, .inl (cI, 1024, .inl u.2.2.1))]) A) A) (cc := c_Ou_addByte) (maxL := 2) (ret := none) (own := R_Ou) (by decide) rfl rfl (Nat.le_of_ble_eq_true rfl) ?_
  intro p e s m below meth cd A ls hsz hAe hx hb hr hml hown hts hlk hnm hA hP hK hD hS hZ hl
  clear hsz hAe
  have hW : ∀ w ∈ xW, w.before _ s = true := fun w h => hts w (List.mem_cons_of_mem _ h)
  have hl : lv_has ls 2 [(0, .ref qo), (1, .int x)] := hl
  obtain ⟨ho1, ho2⟩ := id ho
  refine lv_aload_n hx hb d_Ou_addByte_0 rfl (lv_at hl 0 rfl) ?_
  refine va_get (D := D) (ci := 1) (v := .int (bI o.2.2.2.2)) (C := R_Ou) (T := F_Ou) (N := 5) hx hb hW in_Ou hown hK hP 0 rfl rfl 4 (by decide) (hW _ mw_86) (fun _ h9 => h9) rfl d_Ou_addByte_1 ?_
  refine lv_if_ne (tgt := 13) hx hb d_Ou_addByte_4 (by decide) (fun c_4 => ?_) (fun c_4 => ?_)
  · rw [bI_n0] at c_4
    refine lv_aload_n hx hb d_Ou_addByte_13 rfl (lv_at hl 0 rfl) ?_
    refine va_get (D := D) (ci := 1) (v := .int (nI o.2.2.2.1)) (C := R_Ou) (T := F_Ou) (N := 5) hx hb hW in_Ou hown hK hP 0 rfl rfl 3 (by decide) (hW _ mw_84) (fun _ h9 => h9) rfl d_Ou_addByte_14 ?_
    refine lv_sipush (v := 1024) hx hb d_Ou_addByte_17 (by decide) ?_
    refine lv_icmp_ge (tgt := 43) hx hb d_Ou_addByte_20 (by decide) (fun c_20 => ?_) (fun c_20 => ?_)
    · replace c_20 := (cg_le 1024 o.2.2.2.1 rfl rfl (by omega) (by omega)).mp c_20
      have e_fo : o_pend o x = (o : OS) := by rw [o_pend, if_neg (by omega)]
      have hP : va_P D vwCl [(qo, .inr (1, [.ref ql, .int (nI (o_pend o x).2.1), .ref qp, .int (nI (o_pend o x).2.2.2.1), .int (bI (o_pend o x).2.2.2.2)])), (ql, .inl (cI, 1507, .inl (o_pend o x).1)), (qp, .inl (cI, 1024, .inl (o_pend o x).2.2.1))] s.heap := by rw [e_fo]; exact hP
      have hD : va_D A [(qo, .inr (1, [.ref ql, .int (nI (o_pend o x).2.1), .ref qp, .int (nI (o_pend o x).2.2.2.1), .int (bI (o_pend o x).2.2.2.2)])), (ql, .inl (cI, 1507, .inl (o_pend o x).1)), (qp, .inl (cI, 1024, .inl (o_pend o x).2.2.1))] := by rw [e_fo]; exact hD
      clear e_fo
      obtain ⟨hq1, hq2⟩ := id (o_pend_ok ho x)
      refine lv_aload_n hx hb d_Ou_addByte_43 rfl (lv_at hl 0 rfl) ?_
      refine va_get (D := D) (ci := 1) (v := .int (nI (o_pend o x).2.2.2.1)) (C := R_Ou) (T := F_Ou) (N := 5) hx hb hW in_Ou hown hK hP 0 rfl rfl 3 (by decide) (hW _ mw_84) (fun _ h9 => h9) rfl d_Ou_addByte_44 ?_
      refine lv_sipush (v := 1024) hx hb d_Ou_addByte_47 (by decide) ?_
      refine lv_icmp_lt (tgt := 57) hx hb d_Ou_addByte_50 (by decide) (fun c_50 => ?_) (fun c_50 => ?_)
      · replace c_50 := (cg_lt (o_pend o x).2.2.2.1 1024 rfl rfl (by omega) (by omega)).mp c_50
        exact W.vret hx hb hr (fun t9 ht9 hW9 => ⟨⟨((o_pend o x) : OS), rfl, by first | (rw [o_byte, if_neg (by rw [c_4]; decide), if_pos (by omega)]; done) | (rw [o_byte, if_neg (by rw [c_4]; decide), if_neg (by omega)]; done), by rw [ht9]; exact hP.sub [0, 1, 2] rfl, va_K.moved hW9.alike hK, hD.sub [0, 1, 2] (by decide) rfl⟩, hS.F ht9⟩) hS.2.2 d_Ou_addByte_57
      · replace c_50 := mt (cg_lt (o_pend o x).2.2.2.1 1024 rfl rfl (by omega) (by omega)).mpr c_50
        refine lv_aload_n hx hb d_Ou_addByte_53 rfl (lv_at hl 0 rfl) ?_
        refine x_callv (D := D) (wc := [(qo, .inr (1, [.ref ql, .int (nI (o_pend o x).2.1), .ref qp, .int (nI (o_pend o x).2.2.2.1), .int (bI (o_pend o x).2.2.2.2)])), (ql, .inl (cI, 1507, .inl (o_pend o x).1)), (qp, .inl (cI, 1024, .inl (o_pend o x).2.2.1))]) (wr := []) (va_runV (C := R_Ou) (As := []) (rest := []) ⟨hx, hb, hml, hown, hW⟩ (k_Ou_makeBlock l D g qo ql qp cI (o_pend o x) (o_pend_ok ho x) s.heap.size) (cwV 0 hW (gWV mw_297 mw_162 mw_0 mw_51 mw_163) rfl rfl rfl (by decide +kernel) ⟨Nat.le_of_ble_eq_true rfl, Nat.le_of_ble_eq_true rfl⟩) ⟨xPc_blind (gZ_ok g), va_recv hK hP (ci := 1) (q0 := 0) rfl rfl, x_pre (gZ_ok g) hP hK hD hS hA hZ [0, 1, 2] [0] rfl rfl rfl⟩ rfl rfl hl.1 rfl (lv_room (Nat.le_of_ble_eq_true rfl)) d_Ou_addByte_54 ⟨Nat.le_of_ble_eq_true rfl, Nat.le_of_ble_eq_true rfl⟩) hP hD hS hA [0, 1, 2] [] rfl rfl rfl (by decide) (fun u_54 H locs hw_54 hP hD hS => ?_)
        replace hw_54 := hw_54.symm
        subst hw_54
        have hP : va_P D vwCl [(qo, .inr (1, [.ref ql, .int (nI (o_block (o_pend o x)).2.1), .ref qp, .int (nI (o_block (o_pend o x)).2.2.2.1), .int (bI (o_block (o_pend o x)).2.2.2.2)])), (ql, .inl (cI, 1507, .inl (o_block (o_pend o x)).1)), (qp, .inl (cI, 1024, .inl (o_block (o_pend o x)).2.2.1))] H := hP
        have hD : va_D A [(qo, .inr (1, [.ref ql, .int (nI (o_block (o_pend o x)).2.1), .ref qp, .int (nI (o_block (o_pend o x)).2.2.2.1), .int (bI (o_block (o_pend o x)).2.2.2.2)])), (ql, .inl (cI, 1507, .inl (o_block (o_pend o x)).1)), (qp, .inl (cI, 1024, .inl (o_block (o_pend o x)).2.2.1))] := hD
        exact W.vret hx hb hr (fun t9 ht9 hW9 => ⟨⟨((o_block (o_pend o x)) : OS), rfl, by first | (rw [o_byte, if_neg (by rw [c_4]; decide), if_pos (by omega)]; done) | (rw [o_byte, if_neg (by rw [c_4]; decide), if_neg (by omega)]; done), by rw [ht9]; exact hP.sub [0, 1, 2] rfl, va_K.moved hW9.alike hK, hD.sub [0, 1, 2] (by decide) rfl⟩, hS.F ht9⟩) hS.2.2 d_Ou_addByte_57
    · replace c_20 := mt (cg_le 1024 o.2.2.2.1 rfl rfl (by omega) (by omega)).mpr c_20
      refine lv_aload_n hx hb d_Ou_addByte_23 rfl (lv_at hl 0 rfl) ?_
      refine va_get (D := D) (ci := 1) (v := .ref qp) (C := R_Ou) (T := F_Ou) (N := 5) hx hb hW in_Ou hown hK hP 0 rfl rfl 2 (by decide) (hW _ mw_83) (fun _ h9 => h9) rfl d_Ou_addByte_24 ?_
      refine lv_aload_n hx hb d_Ou_addByte_27 rfl (lv_at hl 0 rfl) ?_
      refine va_get (D := D) (ci := 1) (v := .int (nI o.2.2.2.1)) (C := R_Ou) (T := F_Ou) (N := 5) hx hb hW in_Ou hown hK hP 0 rfl rfl 3 (by decide) (hW _ mw_84) (fun _ h9 => h9) rfl d_Ou_addByte_28 ?_
      refine lv_iload_n hx hb d_Ou_addByte_31 rfl (lv_at hl 1 rfl) ?_
      refine va_iast (D := D) hx hb hK hP hD hS 2 0 rfl rfl (vp_in_nI (by omega) (by decide)) d_Ou_addByte_32 (fun H locs hP hD hS => ?_)
      rw [nI_clamp (by omega)] at hP hD
      have hP : va_P D vwCl [(qo, .inr (1, [.ref ql, .int (nI o.2.1), .ref qp, .int (nI o.2.2.2.1), .int (bI o.2.2.2.2)])), (ql, .inl (cI, 1507, .inl o.1)), (qp, .inl (cI, 1024, .inl (upd o.2.2.1 o.2.2.2.1 x)))] H := hP
      have hD : va_D A [(qo, .inr (1, [.ref ql, .int (nI o.2.1), .ref qp, .int (nI o.2.2.2.1), .int (bI o.2.2.2.2)])), (ql, .inl (cI, 1507, .inl o.1)), (qp, .inl (cI, 1024, .inl (upd o.2.2.1 o.2.2.2.1 x)))] := hD
      refine lv_aload_n hx hb d_Ou_addByte_33 rfl (lv_at hl 0 rfl) ?_
      refine lv_dup hx hb d_Ou_addByte_34 rfl ?_
      refine va_get (D := D) (ci := 1) (v := .int (nI o.2.2.2.1)) (C := R_Ou) (T := F_Ou) (N := 5) hx hb hW in_Ou hown hK hP 0 rfl rfl 3 (by decide) (hW _ mw_84) (fun _ h9 => h9) rfl d_Ou_addByte_35 ?_
      refine lv_iconst (v := 1) hx hb d_Ou_addByte_38 (by decide) ?_
      refine lv_iadd hx hb d_Ou_addByte_39 ?_
      refine x_topi (y := nI (o.2.2.2.1 + 1)) (nI_1 _) ?_
      refine va_put (D := D) (ci := 1) (v := .int (nI (o.2.2.2.1 + 1))) (ty := .int) (C := R_Ou) (T := F_Ou) (N := 5) hx hb hW in_Ou t_Ou t_Ou_ok nm_Ou hown hK hP hD hS 0 rfl rfl 3 (by decide) (hW _ mw_84) (fun _ h9 => h9) rfl (by decide +kernel) (rfl) (rfl) (Nat.le_of_ble_eq_true rfl) d_Ou_addByte_40 (fun H locs hP hD hS => ?_)
      have hP : va_P D vwCl [(qo, .inr (1, [.ref ql, .int (nI o.2.1), .ref qp, .int (nI (o.2.2.2.1 + 1)), .int (bI o.2.2.2.2)])), (ql, .inl (cI, 1507, .inl o.1)), (qp, .inl (cI, 1024, .inl (upd o.2.2.1 o.2.2.2.1 x)))] H := hP
      have hD : va_D A [(qo, .inr (1, [.ref ql, .int (nI o.2.1), .ref qp, .int (nI (o.2.2.2.1 + 1)), .int (bI o.2.2.2.2)])), (ql, .inl (cI, 1507, .inl o.1)), (qp, .inl (cI, 1024, .inl (upd o.2.2.1 o.2.2.2.1 x)))] := hD
      have e_fo : o_pend o x = ((o.1, o.2.1, upd o.2.2.1 o.2.2.2.1 x, o.2.2.2.1 + 1, o.2.2.2.2) : OS) := by rw [o_pend, if_pos (by omega)]
      have hP : va_P D vwCl [(qo, .inr (1, [.ref ql, .int (nI (o_pend o x).2.1), .ref qp, .int (nI (o_pend o x).2.2.2.1), .int (bI (o_pend o x).2.2.2.2)])), (ql, .inl (cI, 1507, .inl (o_pend o x).1)), (qp, .inl (cI, 1024, .inl (o_pend o x).2.2.1))] H := by rw [e_fo]; exact hP
      have hD : va_D A [(qo, .inr (1, [.ref ql, .int (nI (o_pend o x).2.1), .ref qp, .int (nI (o_pend o x).2.2.2.1), .int (bI (o_pend o x).2.2.2.2)])), (ql, .inl (cI, 1507, .inl (o_pend o x).1)), (qp, .inl (cI, 1024, .inl (o_pend o x).2.2.1))] := by rw [e_fo]; exact hD
      clear e_fo
      obtain ⟨hq1, hq2⟩ := id (o_pend_ok ho x)
      refine lv_aload_n hx hb d_Ou_addByte_43 rfl (lv_at hl 0 rfl) ?_
      refine va_get (D := D) (ci := 1) (v := .int (nI (o_pend o x).2.2.2.1)) (C := R_Ou) (T := F_Ou) (N := 5) hx hb hW in_Ou hown hK hP 0 rfl rfl 3 (by decide) (hW _ mw_84) (fun _ h9 => h9) rfl d_Ou_addByte_44 ?_
      refine lv_sipush (v := 1024) hx hb d_Ou_addByte_47 (by decide) ?_
      refine lv_icmp_lt (tgt := 57) hx hb d_Ou_addByte_50 (by decide) (fun c_50 => ?_) (fun c_50 => ?_)
      · replace c_50 := (cg_lt (o_pend o x).2.2.2.1 1024 rfl rfl (by omega) (by omega)).mp c_50
        exact W.vret hx hb hr (fun t9 ht9 hW9 => ⟨⟨((o_pend o x) : OS), rfl, by first | (rw [o_byte, if_neg (by rw [c_4]; decide), if_pos (by omega)]; done) | (rw [o_byte, if_neg (by rw [c_4]; decide), if_neg (by omega)]; done), by rw [ht9]; exact hP.sub [0, 1, 2] rfl, va_K.moved hW9.alike hK, hD.sub [0, 1, 2] (by decide) rfl⟩, hS.F ht9⟩) hS.2.2 d_Ou_addByte_57
      · replace c_50 := mt (cg_lt (o_pend o x).2.2.2.1 1024 rfl rfl (by omega) (by omega)).mpr c_50
        refine lv_aload_n hx hb d_Ou_addByte_53 rfl (lv_at hl 0 rfl) ?_
        refine x_callv (D := D) (wc := [(qo, .inr (1, [.ref ql, .int (nI (o_pend o x).2.1), .ref qp, .int (nI (o_pend o x).2.2.2.1), .int (bI (o_pend o x).2.2.2.2)])), (ql, .inl (cI, 1507, .inl (o_pend o x).1)), (qp, .inl (cI, 1024, .inl (o_pend o x).2.2.1))]) (wr := []) (va_runV (C := R_Ou) (As := []) (rest := []) ⟨hx, hb, hml, hown, hW⟩ (k_Ou_makeBlock l D g qo ql qp cI (o_pend o x) (o_pend_ok ho x) H.size) (cwV 0 hW (gWV mw_297 mw_162 mw_0 mw_51 mw_163) rfl rfl rfl (by decide +kernel) ⟨Nat.le_of_ble_eq_true rfl, Nat.le_of_ble_eq_true rfl⟩) ⟨xPc_blind (gZ_ok g), va_recv hK hP (ci := 1) (q0 := 0) rfl rfl, x_pre (gZ_ok g) hP hK hD hS hA hZ [0, 1, 2] [0] rfl rfl rfl⟩ rfl rfl hl.1 rfl (lv_room (Nat.le_of_ble_eq_true rfl)) d_Ou_addByte_54 ⟨Nat.le_of_ble_eq_true rfl, Nat.le_of_ble_eq_true rfl⟩) hP hD hS hA [0, 1, 2] [] rfl rfl rfl (by decide) (fun u_54 H locs hw_54 hP hD hS => ?_)
        replace hw_54 := hw_54.symm
        subst hw_54
        have hP : va_P D vwCl [(qo, .inr (1, [.ref ql, .int (nI (o_block (o_pend o x)).2.1), .ref qp, .int (nI (o_block (o_pend o x)).2.2.2.1), .int (bI (o_block (o_pend o x)).2.2.2.2)])), (ql, .inl (cI, 1507, .inl (o_block (o_pend o x)).1)), (qp, .inl (cI, 1024, .inl (o_block (o_pend o x)).2.2.1))] H := hP
        have hD : va_D A [(qo, .inr (1, [.ref ql, .int (nI (o_block (o_pend o x)).2.1), .ref qp, .int (nI (o_block (o_pend o x)).2.2.2.1), .int (bI (o_block (o_pend o x)).2.2.2.2)])), (ql, .inl (cI, 1507, .inl (o_block (o_pend o x)).1)), (qp, .inl (cI, 1024, .inl (o_block (o_pend o x)).2.2.1))] := hD
        exact W.vret hx hb hr (fun t9 ht9 hW9 => ⟨⟨((o_block (o_pend o x)) : OS), rfl, by first | (rw [o_byte, if_neg (by rw [c_4]; decide), if_pos (by omega)]; done) | (rw [o_byte, if_neg (by rw [c_4]; decide), if_neg (by omega)]; done), by rw [ht9]; exact hP.sub [0, 1, 2] rfl, va_K.moved hW9.alike hK, hD.sub [0, 1, 2] (by decide) rfl⟩, hS.F ht9⟩) hS.2.2 d_Ou_addByte_57
  · rw [bI_0] at c_4
    refine lv_aload_n hx hb d_Ou_addByte_7 rfl (lv_at hl 0 rfl) ?_
    refine lv_iload_n hx hb d_Ou_addByte_8 rfl (lv_at hl 1 rfl) ?_
    refine x_callv (D := D) (wc := [(qo, .inr (1, [.ref ql, .int (nI o.2.1), .ref qp, .int (nI o.2.2.2.1), .int (bI o.2.2.2.2)])), (ql, .inl (cI, 1507, .inl o.1)), (qp, .inl (cI, 1024, .inl o.2.2.1))]) (wr := []) (va_runV (C := R_Ou) (As := [.int x]) (rest := []) ⟨hx, hb, hml, hown, hW⟩ (k_Ou_addToLog l D g qo ql qp cI o x ho s.heap.size) (cwV 1 hW (gWV mw_168 mw_170 mw_2 mw_51 mw_171) rfl rfl rfl (by decide +kernel) ⟨Nat.le_of_ble_eq_true rfl, Nat.le_of_ble_eq_true rfl⟩) ⟨xPc_blind (gZ_ok g), va_recv hK hP (ci := 1) (q0 := 0) rfl rfl, x_pre (gZ_ok g) hP hK hD hS hA hZ [0, 1, 2] [0] rfl rfl rfl⟩ rfl rfl hl.1 rfl (lv_room (Nat.le_of_ble_eq_true rfl)) d_Ou_addByte_9 ⟨Nat.le_of_ble_eq_true rfl, Nat.le_of_ble_eq_true rfl⟩) hP hD hS hA [0, 1, 2] [] rfl rfl rfl (by decide) (fun u_9 H locs hw_9 hP hD hS => ?_)
    replace hw_9 := hw_9.symm
    subst hw_9
    have hP : va_P D vwCl [(qo, .inr (1, [.ref ql, .int (nI (o_add o x).2.1), .ref qp, .int (nI (o_add o x).2.2.2.1), .int (bI (o_add o x).2.2.2.2)])), (ql, .inl (cI, 1507, .inl (o_add o x).1)), (qp, .inl (cI, 1024, .inl (o_add o x).2.2.1))] H := hP
    have hD : va_D A [(qo, .inr (1, [.ref ql, .int (nI (o_add o x).2.1), .ref qp, .int (nI (o_add o x).2.2.2.1), .int (bI (o_add o x).2.2.2.2)])), (ql, .inl (cI, 1507, .inl (o_add o x).1)), (qp, .inl (cI, 1024, .inl (o_add o x).2.2.1))] := hD
    exact W.vret hx hb hr (fun t9 ht9 hW9 => ⟨⟨((o_add o x) : OS), rfl, by rw [o_byte, if_pos c_4], by rw [ht9]; exact hP.sub [0, 1, 2] rfl, va_K.moved hW9.alike hK, hD.sub [0, 1, 2] (by decide) rfl⟩, hS.F ht9⟩) hS.2.2 d_Ou_addByte_12
set_option maxHeartbeats 4000000 in
set_option maxRecDepth 100000 in
theorem k_Ou_addNumber (l : Launch) (D : va_G) (g : GP) (qo ql qp : Nat) (cI : ClassId) (o : OS) (v : Int64) (z : Nat) (ho : o_ok o) (hz : z ≤ 8) (sz : Nat) : Met l y_Ou_addNumber (.code y_Ou_addNumber c_Ou_addNumber 5 none :: xW) ({ frames := 4, cells := 0, slots := 0, locals := 85 }) (xPc (gZ g) D vwCl [.ref qo, .long v, .int (nI z)] [(qo, .inr (1, [.ref ql, .int (nI o.2.1), .ref qp, .int (nI o.2.2.2.1), .int (bI o.2.2.2.2)])), (ql, .inl (cI, 1507, .inl o.1)), (qp, .inl (cI, 1024, .inl o.2.2.1))] [(cI, .int)] sz) (va_Qv (fun (u : OS) => u = o_num o v z) (xB D vwCl [(cI, .int)] (fun u : OS => [(qo, .inr (1, [.ref ql, .int (nI u.2.1), .ref qp, .int (nI u.2.2.2.1), .int (bI u.2.2.2.2)])), (ql, .inl (cI, 1507, .inl u.1)), (qp, .inl (cI, 1024, .inl u.2.2.1))]) (va_A [(qo, .inr (1, [.ref ql, .int (nI o.2.1), .ref qp, .int (nI o.2.2.2.1), .int (bI o.2.2.2.2)])), (ql, .inl (cI, 1507, .inl o.1)), (qp, .inl (cI, 1024, .inl o.2.2.1))] sz)) (va_A [(qo, .inr (1, [.ref ql, .int (nI o.2.1), .ref qp, .int (nI o.2.2.2.1), .int (bI o.2.2.2.2)])), (ql, .inl (cI, 1507, .inl o.1)), (qp, .inl (cI, 1024, .inl o.2.2.1))] sz)) 0 0 (va_A [(qo, .inr (1, [.ref ql, .int (nI o.2.1), .ref qp, .int (nI o.2.2.2.1), .int (bI o.2.2.2.2)])), (ql, .inl (cI, 1507, .inl o.1)), (qp, .inl (cI, 1024, .inl o.2.2.1))] sz) := by
  refine x_open (Qc := fun A => va_Qv (fun (u : OS) => u = o_num o v z) (xB D vwCl [(cI, .int)] (fun u : OS => [(qo, .inr (1, [.ref ql, .int (nI u.2.1), .ref qp, .int (nI u.2.2.2.1), .int (bI u.2.2.2.2)])), (ql, .inl (cI, 1507, .inl u.1)), (qp, .inl (cI, 1024, .inl u.2.2.1))]) A) A) (cc := c_Ou_addNumber) (maxL := 5) (ret := none) (own := R_Ou) (by decide) rfl rfl (Nat.le_of_ble_eq_true rfl) ?_
  intro p e s m below meth cd A ls hsz hAe hx hb hr hml hown hts hlk hnm hA hP hK hD hS hZ hl
  clear hsz hAe
  have hW : ∀ w ∈ xW, w.before _ s = true := fun w h => hts w (List.mem_cons_of_mem _ h)
  have hl : lv_has ls 5 [(0, .ref qo), (1, .long v), (3, .int (nI z))] := hl
  obtain ⟨ho1, ho2⟩ := id ho
  refine lv_bipush (v := 8) hx hb d_Ou_addNumber_0 (by decide) ?_
  refine lv_iload_n hx hb d_Ou_addNumber_2 rfl (lv_at hl 2 rfl) ?_
  refine lv_iconst (v := 1) hx hb d_Ou_addNumber_3 (by decide) ?_
  refine lv_isub hx hb d_Ou_addNumber_4 ?_
  refine lv_imul hx hb d_Ou_addNumber_5 ?_
  refine x_topi (y := nI (8 * z) - 8) (sh_0 z) ?_
  refine lv_istore (lv' := [(4, .int (nI (8 * z) - 8)), (0, .ref qo), (1, .long v), (3, .int (nI z))]) hx hb d_Ou_addNumber_6 hl (by decide) rfl (fun ls hl => ?_)
  have hlp_8 : ∀ (n : Nat) (j : Nat) (q : OS), (j ≤ 8) → (o_ok q) → (o_num q v j = o_num o v z) → j < n → ∀ (H : Heap) (locs : List Loc), va_P D vwCl [(qo, .inr (1, [.ref ql, .int (nI q.2.1), .ref qp, .int (nI q.2.2.2.1), .int (bI q.2.2.2.2)])), (ql, .inl (cI, 1507, .inl q.1)), (qp, .inl (cI, 1024, .inl q.2.2.1))] H → va_D A [(qo, .inr (1, [.ref ql, .int (nI q.2.1), .ref qp, .int (nI q.2.2.2.1), .int (bI q.2.2.2.2)])), (ql, .inl (cI, 1507, .inl q.1)), (qp, .inl (cI, 1024, .inl q.2.2.1))] → va_S A s.heap H locs → ∀ (ls : Array Slot), lv_has ls 5 [(4, .int (nI (8 * j) - 8)), (0, .ref qo), (1, .long v), (3, .int (nI z))] → W p l e ({ frames := 4, cells := 0, slots := 0, locals := 85 }) s m [.ref qo, .long v, .int (nI z)].toArray below meth cd H locs 0 0 (MQ below ((fun A => va_Qv (fun (u : OS) => u = o_num o v z) (xB D vwCl [(cI, .int)] (fun u : OS => [(qo, .inr (1, [.ref ql, .int (nI u.2.1), .ref qp, .int (nI u.2.2.2.1), .int (bI u.2.2.2.2)])), (ql, .inl (cI, 1507, .inl u.1)), (qp, .inl (cI, 1024, .inl u.2.2.1))]) A) A) A) [.ref qo, .long v, .int (nI z)].toArray s 0 0 A) (F0 m 8 ls []) := by
    intro n
    induction n with
    | zero => intro j q hj hq he hms; exact absurd hms (Nat.not_lt_zero _)
    | succ n ih =>
      intro j q hj hq he hms H locs hP hD hS ls hl
      refine lv_iload hx hb d_Ou_addNumber_8 (lv_at hl 0 rfl) ?_
      refine lv_if_lt (tgt := 32) hx hb d_Ou_addNumber_10 (by decide) (fun c_10 => ?_) (fun c_10 => ?_)
      · obtain rfl : j = 0 := (sh_neg j hj).mp c_10
        exact W.vret hx hb hr (fun t9 ht9 hW9 => ⟨⟨(q : OS), rfl, he, by rw [ht9]; exact hP.sub [0, 1, 2] rfl, va_K.moved hW9.alike hK, hD.sub [0, 1, 2] (by decide) rfl⟩, hS.F ht9⟩) hS.2.2 d_Ou_addNumber_32
      · obtain ⟨k, rfl⟩ : ∃ k, j = k + 1 := ⟨j - 1, by have := mt (sh_neg j hj).mpr c_10; omega⟩
        refine lv_aload_n hx hb d_Ou_addNumber_13 rfl (lv_at hl 1 rfl) ?_
        refine lv_lload_n hx hb d_Ou_addNumber_14 rfl (lv_at hl 2 rfl) ?_
        refine lv_iload hx hb d_Ou_addNumber_15 (lv_at hl 0 rfl) ?_
        refine x_topi (y := nI (8 * k)) (sh_s k) ?_
        refine lv_lushr (v := (v.toUInt64 >>> ((nI (8 * k)).toInt64.toUInt64 &&& Int64.toUInt64 63)).toInt64) hx hb d_Ou_addNumber_17 rfl ?_
        refine lv_l2i (v := ((v.toUInt64 >>> ((nI (8 * k)).toInt64.toUInt64 &&& Int64.toUInt64 63)).toInt64).toInt32) hx hb d_Ou_addNumber_18 rfl ?_
        refine lv_sipush (v := 255) hx hb d_Ou_addNumber_19 (by decide) ?_
        refine lv_iand hx hb d_Ou_addNumber_22 ?_
        refine x_topi (y := l_byte v k) (rfl) ?_
        refine x_callv (D := D) (wc := [(qo, .inr (1, [.ref ql, .int (nI q.2.1), .ref qp, .int (nI q.2.2.2.1), .int (bI q.2.2.2.2)])), (ql, .inl (cI, 1507, .inl q.1)), (qp, .inl (cI, 1024, .inl q.2.2.1))]) (wr := []) (va_runV (C := R_Ou) (As := [.int (l_byte v k)]) (rest := []) ⟨hx, hb, hml, hown, hW⟩ (k_Ou_addByte l D g qo ql qp cI q (l_byte v k) hq H.size) (cwV 1 hW (gWV mw_293 mw_295 mw_8 mw_51 mw_296) rfl rfl rfl (by decide +kernel) ⟨Nat.le_of_ble_eq_true rfl, Nat.le_of_ble_eq_true rfl⟩) ⟨xPc_blind (gZ_ok g), va_recv hK hP (ci := 1) (q0 := 0) rfl rfl, x_pre (gZ_ok g) hP hK hD hS hA hZ [0, 1, 2] [0] rfl rfl rfl⟩ rfl rfl hl.1 rfl (lv_room (Nat.le_of_ble_eq_true rfl)) d_Ou_addNumber_23 ⟨Nat.le_of_ble_eq_true rfl, Nat.le_of_ble_eq_true rfl⟩) hP hD hS hA [0, 1, 2] [] rfl rfl rfl (by decide) (fun u_23 H locs hw_23 hP hD hS => ?_)
        replace hw_23 := hw_23.symm
        subst hw_23
        have hP : va_P D vwCl [(qo, .inr (1, [.ref ql, .int (nI (o_byte q (l_byte v k)).2.1), .ref qp, .int (nI (o_byte q (l_byte v k)).2.2.2.1), .int (bI (o_byte q (l_byte v k)).2.2.2.2)])), (ql, .inl (cI, 1507, .inl (o_byte q (l_byte v k)).1)), (qp, .inl (cI, 1024, .inl (o_byte q (l_byte v k)).2.2.1))] H := hP
        have hD : va_D A [(qo, .inr (1, [.ref ql, .int (nI (o_byte q (l_byte v k)).2.1), .ref qp, .int (nI (o_byte q (l_byte v k)).2.2.2.1), .int (bI (o_byte q (l_byte v k)).2.2.2.2)])), (ql, .inl (cI, 1507, .inl (o_byte q (l_byte v k)).1)), (qp, .inl (cI, 1024, .inl (o_byte q (l_byte v k)).2.2.1))] := hD
        refine lv_iinc (v := nI (8 * k) - 8) (lv' := [(4, .int (nI (8 * k) - 8)), (0, .ref qo), (1, .long v), (3, .int (nI z))]) hx hb d_Ou_addNumber_26 hl (k := 0) rfl (sh_d k) (by decide) rfl (fun ls hl => ?_)
        refine lv_goto (tgt := 8) hx hb d_Ou_addNumber_29 (by decide) ?_
        exact ih k (o_byte q (l_byte v k)) (by omega) (o_byte_ok hq _) he (by omega) H locs (hP.sub [0, 1, 2] rfl) (hD.sub [0, 1, 2] (by decide) rfl) hS ls (lv_sub hl [0, 1, 2, 3] rfl)
  exact hlp_8 _ z o hz ho rfl (Nat.lt_succ_self _) s.heap [] (hP.sub [0, 1, 2] rfl) (hD.sub [0, 1, 2] (by decide) rfl) hS ls (lv_sub hl [0, 1, 2, 3] rfl)
