set_option maxHeartbeats 4000000 in
set_option maxRecDepth 100000 in
theorem k_Cu_next (l : Launch) (D : va_G) (g : GP) (qr : Nat) (c : CS) (qo ql qp : Nat) (cI : ClassId) (o : OS) (ho : o_ok o) (hc : c_ok o c) (sz : Nat) : Met l y_Cu_next (.code y_Cu_next c_Cu_next 3 (some .int) :: xW) ({ frames := 3, cells := 0, slots := 0, locals := 68 }) (xPc (gZ g) D vwCl [.ref qr, .ref qo] [(qr, .inr (0, [.int (nI c.1), .int (nI c.2.1), .int c.2.2.1, .int (bI c.2.2.2)])), (qo, .inr (1, [.ref ql, .int (nI o.2.1), .ref qp, .int (nI o.2.2.2.1), .int (bI o.2.2.2.2)])), (ql, .inl (cI, 1507, .inl o.1)), (qp, .inl (cI, 1024, .inl o.2.2.1))] [(cI, .int)] sz) (va_Qi (fun (r : Int32) (u : CS) => r = (c_next o c).1 ∧ u = (c_next o c).2) (xB D vwCl [(cI, .int)] (fun u : CS => [(qr, .inr (0, [.int (nI u.1), .int (nI u.2.1), .int u.2.2.1, .int (bI u.2.2.2)])), (qo, .inr (1, [.ref ql, .int (nI o.2.1), .ref qp, .int (nI o.2.2.2.1), .int (bI o.2.2.2.2)])), (ql, .inl (cI, 1507, .inl o.1)), (qp, .inl (cI, 1024, .inl o.2.2.1))]) (va_A [(qr, .inr (0, [.int (nI c.1), .int (nI c.2.1), .int c.2.2.1, .int (bI c.2.2.2)])), (qo, .inr (1, [.ref ql, .int (nI o.2.1), .ref qp, .int (nI o.2.2.2.1), .int (bI o.2.2.2.2)])), (ql, .inl (cI, 1507, .inl o.1)), (qp, .inl (cI, 1024, .inl o.2.2.1))] sz)) (va_A [(qr, .inr (0, [.int (nI c.1), .int (nI c.2.1), .int c.2.2.1, .int (bI c.2.2.2)])), (qo, .inr (1, [.ref ql, .int (nI o.2.1), .ref qp, .int (nI o.2.2.2.1), .int (bI o.2.2.2.2)])), (ql, .inl (cI, 1507, .inl o.1)), (qp, .inl (cI, 1024, .inl o.2.2.1))] sz)) 0 0 (va_A [(qr, .inr (0, [.int (nI c.1), .int (nI c.2.1), .int c.2.2.1, .int (bI c.2.2.2)])), (qo, .inr (1, [.ref ql, .int (nI o.2.1), .ref qp, .int (nI o.2.2.2.1), .int (bI o.2.2.2.2)])), (ql, .inl (cI, 1507, .inl o.1)), (qp, .inl (cI, 1024, .inl o.2.2.1))] sz) := by
  refine x_open (Qc := fun A => va_Qi (fun (r : Int32) (u : CS) => r = (c_next o c).1 ∧ u = (c_next o c).2) (xB D vwCl [(cI, .int)] (fun u : CS => [(qr, .inr (0, [.int (nI u.1), .int (nI u.2.1), .int u.2.2.1, .int (bI u.2.2.2)])), (qo, .inr (1, [.ref ql, .int (nI o.2.1), .ref qp, .int (nI o.2.2.2.1), .int (bI o.2.2.2.2)])), (ql, .inl (cI, 1507, .inl o.1)), (qp, .inl (cI, 1024, .inl o.2.2.1))]) A) A) (cc := c_Cu_next) (maxL := 3) (ret := (some .int)) (own := R_Cu) (by decide) rfl rfl (Nat.le_of_ble_eq_true rfl) ?_
  intro p e s m below meth cd A ls hsz hAe hx hb hr hml hown hts hlk hnm hA hP hK hD hS hZ hl
  clear hsz hAe
  have hW : ∀ w ∈ xW, w.before _ s = true := fun w h => hts w (List.mem_cons_of_mem _ h)
  have hl : lv_has ls 3 [(0, .ref qr), (1, .ref qo)] := hl
  obtain ⟨ho1, ho2⟩ := id ho
  obtain ⟨hc1, hc2⟩ := id hc
  refine lv_aload_n hx hb d_Cu_next_0 rfl (lv_at hl 0 rfl) ?_
  refine va_get (D := D) (ci := 0) (v := .int (bI c.2.2.2)) (C := R_Cu) (T := F_Cu) (N := 4) hx hb hW in_Cu hown hK hP 0 rfl rfl 3 (by decide) (hW _ mw_112) (fun _ h9 => h9) rfl d_Cu_next_1 ?_
  refine lv_if_eq (tgt := 19) hx hb d_Cu_next_4 (by decide) (fun c_4 => ?_) (fun c_4 => ?_)
  · rw [bI_0] at c_4
    have e_l : c_look o c = (0, c) := by rw [c_look, if_neg (by rw [c_4]; decide)]
    have h_l0 : (c_look o c).1 = 0 := by rw [e_l]
    have e_fo : (c_look o c).2 = (c : CS) := by rw [e_l]
    have hP : va_P D vwCl [(qr, .inr (0, [.int (nI (c_look o c).2.1), .int (nI (c_look o c).2.2.1), .int (c_look o c).2.2.2.1, .int (bI (c_look o c).2.2.2.2)])), (qo, .inr (1, [.ref ql, .int (nI o.2.1), .ref qp, .int (nI o.2.2.2.1), .int (bI o.2.2.2.2)])), (ql, .inl (cI, 1507, .inl o.1)), (qp, .inl (cI, 1024, .inl o.2.2.1))] s.heap := by rw [e_fo]; exact hP
    have hD : va_D A [(qr, .inr (0, [.int (nI (c_look o c).2.1), .int (nI (c_look o c).2.2.1), .int (c_look o c).2.2.2.1, .int (bI (c_look o c).2.2.2.2)])), (qo, .inr (1, [.ref ql, .int (nI o.2.1), .ref qp, .int (nI o.2.2.2.1), .int (bI o.2.2.2.2)])), (ql, .inl (cI, 1507, .inl o.1)), (qp, .inl (cI, 1024, .inl o.2.2.1))] := by rw [e_fo]; exact hD
    clear e_fo
    obtain ⟨hd, hdm, hdp⟩ := c_look_keep hc
    obtain ⟨hd1, hd2⟩ := id hd
    refine lv_aload_n hx hb d_Cu_next_19 rfl (lv_at hl 0 rfl) ?_
    refine va_get (D := D) (ci := 0) (v := .int (nI (c_look o c).2.1)) (C := R_Cu) (T := F_Cu) (N := 4) hx hb hW in_Cu hown hK hP 0 rfl rfl 0 (by decide) (hW _ mw_106) (fun _ h9 => h9) rfl d_Cu_next_20 ?_
    refine lv_aload_n hx hb d_Cu_next_23 rfl (lv_at hl 1 rfl) ?_
    refine va_getN (D := D) (ci := 1) (v := .int (nI o.2.1)) (C := R_Ou) (T := F_Ou) (N := 5) hx hb hW in_Ou hown hK hP 1 rfl rfl 1 (by decide) (gZ_link hZ 2 rfl) (fun _ h9 => h9) rfl d_Cu_next_24 ?_
    refine lv_icmp_lt (tgt := 32) hx hb d_Cu_next_27 (by decide) (fun c_27 => ?_) (fun c_27 => ?_)
    · replace c_27 := (cg_lt (c_look o c).2.1 o.2.1 rfl rfl (by omega) (by omega)).mp c_27
      refine lv_aload_n hx hb d_Cu_next_32 rfl (lv_at hl 0 rfl) ?_
      refine va_get (D := D) (ci := 0) (v := .int (bI (c_look o c).2.2.2.2)) (C := R_Cu) (T := F_Cu) (N := 4) hx hb hW in_Cu hown hK hP 0 rfl rfl 3 (by decide) (hW _ mw_112) (fun _ h9 => h9) rfl d_Cu_next_33 ?_
      refine lv_if_eq (tgt := 49) hx hb d_Cu_next_36 (by decide) (fun c_36 => ?_) (fun c_36 => ?_)
      · rw [bI_0] at c_36
        refine lv_aload_n hx hb d_Cu_next_49 rfl (lv_at hl 0 rfl) ?_
        refine lv_dup hx hb d_Cu_next_50 rfl ?_
        refine va_get (D := D) (ci := 0) (v := .int (nI (c_look o c).2.1)) (C := R_Cu) (T := F_Cu) (N := 4) hx hb hW in_Cu hown hK hP 0 rfl rfl 0 (by decide) (hW _ mw_106) (fun _ h9 => h9) rfl d_Cu_next_51 ?_
        refine lv_iconst (v := 1) hx hb d_Cu_next_54 (by decide) ?_
        refine lv_iadd hx hb d_Cu_next_55 ?_
        refine x_topi (y := nI ((c_look o c).2.1 + 1)) (nI_1 _) ?_
        refine va_put (D := D) (ci := 0) (v := .int (nI ((c_look o c).2.1 + 1))) (ty := .int) (C := R_Cu) (T := F_Cu) (N := 4) hx hb hW in_Cu t_Cu t_Cu_ok nm_Cu hown hK hP hD hS 0 rfl rfl 0 (by decide) (hW _ mw_106) (fun _ h9 => h9) rfl (by decide +kernel) (rfl) (rfl) (Nat.le_of_ble_eq_true rfl) d_Cu_next_56 (fun H locs hP hD hS => ?_)
        have hP : va_P D vwCl [(qr, .inr (0, [.int (nI ((c_look o c).2.1 + 1)), .int (nI (c_look o c).2.2.1), .int (c_look o c).2.2.2.1, .int (bI (c_look o c).2.2.2.2)])), (qo, .inr (1, [.ref ql, .int (nI o.2.1), .ref qp, .int (nI o.2.2.2.1), .int (bI o.2.2.2.2)])), (ql, .inl (cI, 1507, .inl o.1)), (qp, .inl (cI, 1024, .inl o.2.2.1))] H := hP
        have hD : va_D A [(qr, .inr (0, [.int (nI ((c_look o c).2.1 + 1)), .int (nI (c_look o c).2.2.1), .int (c_look o c).2.2.2.1, .int (bI (c_look o c).2.2.2.2)])), (qo, .inr (1, [.ref ql, .int (nI o.2.1), .ref qp, .int (nI o.2.2.2.1), .int (bI o.2.2.2.2)])), (ql, .inl (cI, 1507, .inl o.1)), (qp, .inl (cI, 1024, .inl o.2.2.1))] := hD
        refine lv_aload_n hx hb d_Cu_next_59 rfl (lv_at hl 1 rfl) ?_
        refine lv_aload_n hx hb d_Cu_next_60 rfl (lv_at hl 0 rfl) ?_
        refine va_get (D := D) (ci := 0) (v := .int (nI ((c_look o c).2.1 + 1))) (C := R_Cu) (T := F_Cu) (N := 4) hx hb hW in_Cu hown hK hP 0 rfl rfl 0 (by decide) (hW _ mw_106) (fun _ h9 => h9) rfl d_Cu_next_61 ?_
        refine lv_iconst (v := 1) hx hb d_Cu_next_64 (by decide) ?_
        refine lv_isub hx hb d_Cu_next_65 ?_
        refine x_topi (y := nI (c_look o c).2.1) (nI_pred _) ?_
        refine x_calli (D := D) (wc := [(qo, .inr (1, [.ref ql, .int (nI o.2.1), .ref qp, .int (nI o.2.2.2.1), .int (bI o.2.2.2.2)])), (ql, .inl (cI, 1507, .inl o.1)), (qp, .inl (cI, 1024, .inl o.2.2.1))]) (wr := [(qr, .inr (0, [.int (nI ((c_look o c).2.1 + 1)), .int (nI (c_look o c).2.2.1), .int (c_look o c).2.2.2.1, .int (bI (c_look o c).2.2.2.2)]))]) (va_runVN (C := R_Ou) (As := [.int (nI (c_look o c).2.1)]) (rest := []) ⟨hx, hb, hml, hown, hW⟩ (k_Ou_logged l D g qo ql qp cI o (nI (c_look o c).2.1) ho H.size) (⟨va_cnB 1 hW (gW mw_187) rfl rfl rfl (gZ_nest hZ 23 rfl) (hW _ mw_51) (by decide +kernel) ⟨Nat.le_of_ble_eq_true rfl, Nat.le_of_ble_eq_true rfl⟩, hW _ mw_186, hW _ mw_3⟩) ⟨xPc_blind (gZ_ok g), va_recv hK hP (ci := 1) (q0 := 1) rfl rfl, x_pre (gZ_ok g) hP hK hD hS hA hZ [1, 2, 3] [0] rfl rfl rfl⟩ rfl rfl hl.1 rfl (lv_room (Nat.le_of_ble_eq_true rfl)) d_Cu_next_66 ⟨Nat.le_of_ble_eq_true rfl, Nat.le_of_ble_eq_true rfl⟩) hP hD hS hA [1, 2, 3] [0] rfl rfl rfl (by decide) (fun r_66 u_66 H locs hw_66 hP hD hS => ?_)
        replace hw_66 := hw_66.symm
        subst hw_66
        have hP : va_P D vwCl [(qr, .inr (0, [.int (nI ((c_look o c).2.1 + 1)), .int (nI (c_look o c).2.2.1), .int (c_look o c).2.2.2.1, .int (bI (c_look o c).2.2.2.2)])), (qo, .inr (1, [.ref ql, .int (nI o.2.1), .ref qp, .int (nI o.2.2.2.1), .int (bI o.2.2.2.2)])), (ql, .inl (cI, 1507, .inl o.1)), (qp, .inl (cI, 1024, .inl o.2.2.1))] H := hP
        have hD : va_D A [(qr, .inr (0, [.int (nI ((c_look o c).2.1 + 1)), .int (nI (c_look o c).2.2.1), .int (c_look o c).2.2.2.1, .int (bI (c_look o c).2.2.2.2)])), (qo, .inr (1, [.ref ql, .int (nI o.2.1), .ref qp, .int (nI o.2.2.2.1), .int (bI o.2.2.2.2)])), (ql, .inl (cI, 1507, .inl o.1)), (qp, .inl (cI, 1024, .inl o.2.2.1))] := hD
        refine x_topi (y := o_at o (c_look o c).2.1) (o_atI_n (by omega) (by omega)) ?_
        exact W.iret (v := o_at o (c_look o c).2.1) hx hb hr (fun t9 ht9 hW9 => ⟨⟨o_at o (c_look o c).2.1, (((c_look o c).2.1 + 1, (c_look o c).2.2.1, (c_look o c).2.2.2.1, (c_look o c).2.2.2.2) : CS), rfl, by unfold c_next; rw [if_neg (fun z => z h_l0), if_neg (by omega)]; first | (rw [if_pos c_36]; exact ⟨rfl, rfl⟩) | (rw [if_neg (by rw [c_36]; decide)]; exact ⟨rfl, rfl⟩), by rw [ht9]; exact hP.sub [0, 1, 2, 3] rfl, va_K.moved hW9.alike hK, hD.sub [0, 1, 2, 3] (by decide) rfl⟩, hS.F ht9⟩) hS.2.2 d_Cu_next_69
      · rw [bI_n0] at c_36
        refine lv_aload_n hx hb d_Cu_next_39 rfl (lv_at hl 0 rfl) ?_
        refine lv_dup hx hb d_Cu_next_40 rfl ?_
        refine va_get (D := D) (ci := 0) (v := .int (nI (c_look o c).2.2.1)) (C := R_Cu) (T := F_Cu) (N := 4) hx hb hW in_Cu hown hK hP 0 rfl rfl 1 (by decide) (hW _ mw_108) (fun _ h9 => h9) rfl d_Cu_next_41 ?_
        refine lv_iconst (v := 1) hx hb d_Cu_next_44 (by decide) ?_
        refine lv_isub hx hb d_Cu_next_45 ?_
        refine x_topi (y := nI ((c_look o c).2.2.1 - 1)) (nI_pd (hdp (by rw [← hdm]; exact c_36) h_l0)) ?_
        refine va_put (D := D) (ci := 0) (v := .int (nI ((c_look o c).2.2.1 - 1))) (ty := .int) (C := R_Cu) (T := F_Cu) (N := 4) hx hb hW in_Cu t_Cu t_Cu_ok nm_Cu hown hK hP hD hS 0 rfl rfl 1 (by decide) (hW _ mw_108) (fun _ h9 => h9) rfl (by decide +kernel) (rfl) (rfl) (Nat.le_of_ble_eq_true rfl) d_Cu_next_46 (fun H locs hP hD hS => ?_)
        have hP : va_P D vwCl [(qr, .inr (0, [.int (nI (c_look o c).2.1), .int (nI ((c_look o c).2.2.1 - 1)), .int (c_look o c).2.2.2.1, .int (bI (c_look o c).2.2.2.2)])), (qo, .inr (1, [.ref ql, .int (nI o.2.1), .ref qp, .int (nI o.2.2.2.1), .int (bI o.2.2.2.2)])), (ql, .inl (cI, 1507, .inl o.1)), (qp, .inl (cI, 1024, .inl o.2.2.1))] H := hP
        have hD : va_D A [(qr, .inr (0, [.int (nI (c_look o c).2.1), .int (nI ((c_look o c).2.2.1 - 1)), .int (c_look o c).2.2.2.1, .int (bI (c_look o c).2.2.2.2)])), (qo, .inr (1, [.ref ql, .int (nI o.2.1), .ref qp, .int (nI o.2.2.2.1), .int (bI o.2.2.2.2)])), (ql, .inl (cI, 1507, .inl o.1)), (qp, .inl (cI, 1024, .inl o.2.2.1))] := hD
        refine lv_aload_n hx hb d_Cu_next_49 rfl (lv_at hl 0 rfl) ?_
        refine lv_dup hx hb d_Cu_next_50 rfl ?_
        refine va_get (D := D) (ci := 0) (v := .int (nI (c_look o c).2.1)) (C := R_Cu) (T := F_Cu) (N := 4) hx hb hW in_Cu hown hK hP 0 rfl rfl 0 (by decide) (hW _ mw_106) (fun _ h9 => h9) rfl d_Cu_next_51 ?_
        refine lv_iconst (v := 1) hx hb d_Cu_next_54 (by decide) ?_
        refine lv_iadd hx hb d_Cu_next_55 ?_
        refine x_topi (y := nI ((c_look o c).2.1 + 1)) (nI_1 _) ?_
        refine va_put (D := D) (ci := 0) (v := .int (nI ((c_look o c).2.1 + 1))) (ty := .int) (C := R_Cu) (T := F_Cu) (N := 4) hx hb hW in_Cu t_Cu t_Cu_ok nm_Cu hown hK hP hD hS 0 rfl rfl 0 (by decide) (hW _ mw_106) (fun _ h9 => h9) rfl (by decide +kernel) (rfl) (rfl) (Nat.le_of_ble_eq_true rfl) d_Cu_next_56 (fun H locs hP hD hS => ?_)
        have hP : va_P D vwCl [(qr, .inr (0, [.int (nI ((c_look o c).2.1 + 1)), .int (nI ((c_look o c).2.2.1 - 1)), .int (c_look o c).2.2.2.1, .int (bI (c_look o c).2.2.2.2)])), (qo, .inr (1, [.ref ql, .int (nI o.2.1), .ref qp, .int (nI o.2.2.2.1), .int (bI o.2.2.2.2)])), (ql, .inl (cI, 1507, .inl o.1)), (qp, .inl (cI, 1024, .inl o.2.2.1))] H := hP
        have hD : va_D A [(qr, .inr (0, [.int (nI ((c_look o c).2.1 + 1)), .int (nI ((c_look o c).2.2.1 - 1)), .int (c_look o c).2.2.2.1, .int (bI (c_look o c).2.2.2.2)])), (qo, .inr (1, [.ref ql, .int (nI o.2.1), .ref qp, .int (nI o.2.2.2.1), .int (bI o.2.2.2.2)])), (ql, .inl (cI, 1507, .inl o.1)), (qp, .inl (cI, 1024, .inl o.2.2.1))] := hD
        refine lv_aload_n hx hb d_Cu_next_59 rfl (lv_at hl 1 rfl) ?_
        refine lv_aload_n hx hb d_Cu_next_60 rfl (lv_at hl 0 rfl) ?_
        refine va_get (D := D) (ci := 0) (v := .int (nI ((c_look o c).2.1 + 1))) (C := R_Cu) (T := F_Cu) (N := 4) hx hb hW in_Cu hown hK hP 0 rfl rfl 0 (by decide) (hW _ mw_106) (fun _ h9 => h9) rfl d_Cu_next_61 ?_
        refine lv_iconst (v := 1) hx hb d_Cu_next_64 (by decide) ?_
        refine lv_isub hx hb d_Cu_next_65 ?_
        refine x_topi (y := nI (c_look o c).2.1) (nI_pred _) ?_
        refine x_calli (D := D) (wc := [(qo, .inr (1, [.ref ql, .int (nI o.2.1), .ref qp, .int (nI o.2.2.2.1), .int (bI o.2.2.2.2)])), (ql, .inl (cI, 1507, .inl o.1)), (qp, .inl (cI, 1024, .inl o.2.2.1))]) (wr := [(qr, .inr (0, [.int (nI ((c_look o c).2.1 + 1)), .int (nI ((c_look o c).2.2.1 - 1)), .int (c_look o c).2.2.2.1, .int (bI (c_look o c).2.2.2.2)]))]) (va_runVN (C := R_Ou) (As := [.int (nI (c_look o c).2.1)]) (rest := []) ⟨hx, hb, hml, hown, hW⟩ (k_Ou_logged l D g qo ql qp cI o (nI (c_look o c).2.1) ho H.size) (⟨va_cnB 1 hW (gW mw_187) rfl rfl rfl (gZ_nest hZ 23 rfl) (hW _ mw_51) (by decide +kernel) ⟨Nat.le_of_ble_eq_true rfl, Nat.le_of_ble_eq_true rfl⟩, hW _ mw_186, hW _ mw_3⟩) ⟨xPc_blind (gZ_ok g), va_recv hK hP (ci := 1) (q0 := 1) rfl rfl, x_pre (gZ_ok g) hP hK hD hS hA hZ [1, 2, 3] [0] rfl rfl rfl⟩ rfl rfl hl.1 rfl (lv_room (Nat.le_of_ble_eq_true rfl)) d_Cu_next_66 ⟨Nat.le_of_ble_eq_true rfl, Nat.le_of_ble_eq_true rfl⟩) hP hD hS hA [1, 2, 3] [0] rfl rfl rfl (by decide) (fun r_66 u_66 H locs hw_66 hP hD hS => ?_)
        replace hw_66 := hw_66.symm
        subst hw_66
        have hP : va_P D vwCl [(qr, .inr (0, [.int (nI ((c_look o c).2.1 + 1)), .int (nI ((c_look o c).2.2.1 - 1)), .int (c_look o c).2.2.2.1, .int (bI (c_look o c).2.2.2.2)])), (qo, .inr (1, [.ref ql, .int (nI o.2.1), .ref qp, .int (nI o.2.2.2.1), .int (bI o.2.2.2.2)])), (ql, .inl (cI, 1507, .inl o.1)), (qp, .inl (cI, 1024, .inl o.2.2.1))] H := hP
        have hD : va_D A [(qr, .inr (0, [.int (nI ((c_look o c).2.1 + 1)), .int (nI ((c_look o c).2.2.1 - 1)), .int (c_look o c).2.2.2.1, .int (bI (c_look o c).2.2.2.2)])), (qo, .inr (1, [.ref ql, .int (nI o.2.1), .ref qp, .int (nI o.2.2.2.1), .int (bI o.2.2.2.2)])), (ql, .inl (cI, 1507, .inl o.1)), (qp, .inl (cI, 1024, .inl o.2.2.1))] := hD
        refine x_topi (y := o_at o (c_look o c).2.1) (o_atI_n (by omega) (by omega)) ?_
        exact W.iret (v := o_at o (c_look o c).2.1) hx hb hr (fun t9 ht9 hW9 => ⟨⟨o_at o (c_look o c).2.1, (((c_look o c).2.1 + 1, (c_look o c).2.2.1 - 1, (c_look o c).2.2.2.1, (c_look o c).2.2.2.2) : CS), rfl, by unfold c_next; rw [if_neg (fun z => z h_l0), if_neg (by omega)]; first | (rw [if_pos c_36]; exact ⟨rfl, rfl⟩) | (rw [if_neg (by rw [c_36]; decide)]; exact ⟨rfl, rfl⟩), by rw [ht9]; exact hP.sub [0, 1, 2, 3] rfl, va_K.moved hW9.alike hK, hD.sub [0, 1, 2, 3] (by decide) rfl⟩, hS.F ht9⟩) hS.2.2 d_Cu_next_69
    · replace c_27 := mt (cg_lt (c_look o c).2.1 o.2.1 rfl rfl (by omega) (by omega)).mpr c_27
      refine lv_iconst (v := -1) hx hb d_Cu_next_30 (by decide) ?_
      exact W.iret (v := -1) hx hb hr (fun t9 ht9 hW9 => ⟨⟨-1, ((c_look o c).2 : CS), rfl, by unfold c_next; rw [if_neg (fun z => z h_l0), if_pos (by omega)]; exact ⟨rfl, rfl⟩, by rw [ht9]; exact hP.sub [0, 1, 2, 3] rfl, va_K.moved hW9.alike hK, hD.sub [0, 1, 2, 3] (by decide) rfl⟩, hS.F ht9⟩) hS.2.2 d_Cu_next_31
  · rw [bI_n0] at c_4
    refine lv_aload_n hx hb d_Cu_next_7 rfl (lv_at hl 0 rfl) ?_
    refine lv_aload_n hx hb d_Cu_next_8 rfl (lv_at hl 1 rfl) ?_
    refine x_calli (D := D) (wc := [(qr, .inr (0, [.int (nI c.1), .int (nI c.2.1), .int c.2.2.1, .int (bI c.2.2.2)])), (qo, .inr (1, [.ref ql, .int (nI o.2.1), .ref qp, .int (nI o.2.2.2.1), .int (bI o.2.2.2.2)])), (ql, .inl (cI, 1507, .inl o.1)), (qp, .inl (cI, 1024, .inl o.2.2.1))]) (wr := []) (va_runV (C := R_Cu) (As := [.ref qo]) (rest := []) ⟨hx, hb, hml, hown, hW⟩ (k_Cu_findBlock l D g qr c qo ql qp cI o ho hc s.heap.size) (cwV 1 hW (gWV mw_428 mw_430 mw_20 mw_52 mw_431) rfl rfl rfl (by decide +kernel) ⟨Nat.le_of_ble_eq_true rfl, Nat.le_of_ble_eq_true rfl⟩) ⟨xPc_blind (gZ_ok g), va_recv hK hP (ci := 0) (q0 := 0) rfl rfl, x_pre (gZ_ok g) hP hK hD hS hA hZ [0, 1, 2, 3] [0] rfl rfl rfl⟩ rfl rfl hl.1 rfl (lv_room (Nat.le_of_ble_eq_true rfl)) d_Cu_next_9 ⟨Nat.le_of_ble_eq_true rfl, Nat.le_of_ble_eq_true rfl⟩) hP hD hS hA [0, 1, 2, 3] [] rfl rfl rfl (by decide) (fun r_9 u_9 H locs hw_9 hP hD hS => ?_)
    obtain ⟨hw1_, hw2_⟩ := hw_9
    replace hw1_ := hw1_.symm
    replace hw2_ := hw2_.symm
    subst hw1_
    subst hw2_
    have hP : va_P D vwCl [(qr, .inr (0, [.int (nI (c_find o (o.2.1 - c.1) c).2.1), .int (nI (c_find o (o.2.1 - c.1) c).2.2.1), .int (c_find o (o.2.1 - c.1) c).2.2.2.1, .int (bI (c_find o (o.2.1 - c.1) c).2.2.2.2)])), (qo, .inr (1, [.ref ql, .int (nI o.2.1), .ref qp, .int (nI o.2.2.2.1), .int (bI o.2.2.2.2)])), (ql, .inl (cI, 1507, .inl o.1)), (qp, .inl (cI, 1024, .inl o.2.2.1))] H := hP
    have hD : va_D A [(qr, .inr (0, [.int (nI (c_find o (o.2.1 - c.1) c).2.1), .int (nI (c_find o (o.2.1 - c.1) c).2.2.1), .int (c_find o (o.2.1 - c.1) c).2.2.2.1, .int (bI (c_find o (o.2.1 - c.1) c).2.2.2.2)])), (qo, .inr (1, [.ref ql, .int (nI o.2.1), .ref qp, .int (nI o.2.2.2.1), .int (bI o.2.2.2.2)])), (ql, .inl (cI, 1507, .inl o.1)), (qp, .inl (cI, 1024, .inl o.2.2.1))] := hD
    refine lv_istore_n (lv' := [(2, .int (c_find o (o.2.1 - c.1) c).1), (0, .ref qr), (1, .ref qo)]) hx hb d_Cu_next_12 rfl hl (by decide) rfl (fun ls hl => ?_)
    refine lv_iload_n hx hb d_Cu_next_13 rfl (lv_at hl 0 rfl) ?_
    refine lv_if_eq (tgt := 19) hx hb d_Cu_next_14 (by decide) (fun c_14 => ?_) (fun c_14 => ?_)
    · have e_l : c_look o c = c_find o (o.2.1 - c.1) c := by rw [c_look, if_pos c_4]
      have h_l0 : (c_look o c).1 = 0 := by rw [e_l]; exact c_14
      have e_fo : (c_look o c).2 = ((c_find o (o.2.1 - c.1) c).2 : CS) := by rw [e_l]
      have hP : va_P D vwCl [(qr, .inr (0, [.int (nI (c_look o c).2.1), .int (nI (c_look o c).2.2.1), .int (c_look o c).2.2.2.1, .int (bI (c_look o c).2.2.2.2)])), (qo, .inr (1, [.ref ql, .int (nI o.2.1), .ref qp, .int (nI o.2.2.2.1), .int (bI o.2.2.2.2)])), (ql, .inl (cI, 1507, .inl o.1)), (qp, .inl (cI, 1024, .inl o.2.2.1))] H := by rw [e_fo]; exact hP
      have hD : va_D A [(qr, .inr (0, [.int (nI (c_look o c).2.1), .int (nI (c_look o c).2.2.1), .int (c_look o c).2.2.2.1, .int (bI (c_look o c).2.2.2.2)])), (qo, .inr (1, [.ref ql, .int (nI o.2.1), .ref qp, .int (nI o.2.2.2.1), .int (bI o.2.2.2.2)])), (ql, .inl (cI, 1507, .inl o.1)), (qp, .inl (cI, 1024, .inl o.2.2.1))] := by rw [e_fo]; exact hD
      clear e_fo
      obtain ⟨hd, hdm, hdp⟩ := c_look_keep hc
      obtain ⟨hd1, hd2⟩ := id hd
      refine lv_aload_n hx hb d_Cu_next_19 rfl (lv_at hl 1 rfl) ?_
      refine va_get (D := D) (ci := 0) (v := .int (nI (c_look o c).2.1)) (C := R_Cu) (T := F_Cu) (N := 4) hx hb hW in_Cu hown hK hP 0 rfl rfl 0 (by decide) (hW _ mw_106) (fun _ h9 => h9) rfl d_Cu_next_20 ?_
      refine lv_aload_n hx hb d_Cu_next_23 rfl (lv_at hl 2 rfl) ?_
      refine va_getN (D := D) (ci := 1) (v := .int (nI o.2.1)) (C := R_Ou) (T := F_Ou) (N := 5) hx hb hW in_Ou hown hK hP 1 rfl rfl 1 (by decide) (gZ_link hZ 2 rfl) (fun _ h9 => h9) rfl d_Cu_next_24 ?_
      refine lv_icmp_lt (tgt := 32) hx hb d_Cu_next_27 (by decide) (fun c_27 => ?_) (fun c_27 => ?_)
      · replace c_27 := (cg_lt (c_look o c).2.1 o.2.1 rfl rfl (by omega) (by omega)).mp c_27
        refine lv_aload_n hx hb d_Cu_next_32 rfl (lv_at hl 1 rfl) ?_
        refine va_get (D := D) (ci := 0) (v := .int (bI (c_look o c).2.2.2.2)) (C := R_Cu) (T := F_Cu) (N := 4) hx hb hW in_Cu hown hK hP 0 rfl rfl 3 (by decide) (hW _ mw_112) (fun _ h9 => h9) rfl d_Cu_next_33 ?_
        refine lv_if_eq (tgt := 49) hx hb d_Cu_next_36 (by decide) (fun c_36 => ?_) (fun c_36 => ?_)
        · rw [bI_0] at c_36
          refine lv_aload_n hx hb d_Cu_next_49 rfl (lv_at hl 1 rfl) ?_
          refine lv_dup hx hb d_Cu_next_50 rfl ?_
          refine va_get (D := D) (ci := 0) (v := .int (nI (c_look o c).2.1)) (C := R_Cu) (T := F_Cu) (N := 4) hx hb hW in_Cu hown hK hP 0 rfl rfl 0 (by decide) (hW _ mw_106) (fun _ h9 => h9) rfl d_Cu_next_51 ?_
          refine lv_iconst (v := 1) hx hb d_Cu_next_54 (by decide) ?_
          refine lv_iadd hx hb d_Cu_next_55 ?_
          refine x_topi (y := nI ((c_look o c).2.1 + 1)) (nI_1 _) ?_
          refine va_put (D := D) (ci := 0) (v := .int (nI ((c_look o c).2.1 + 1))) (ty := .int) (C := R_Cu) (T := F_Cu) (N := 4) hx hb hW in_Cu t_Cu t_Cu_ok nm_Cu hown hK hP hD hS 0 rfl rfl 0 (by decide) (hW _ mw_106) (fun _ h9 => h9) rfl (by decide +kernel) (rfl) (rfl) (Nat.le_of_ble_eq_true rfl) d_Cu_next_56 (fun H locs hP hD hS => ?_)
          have hP : va_P D vwCl [(qr, .inr (0, [.int (nI ((c_look o c).2.1 + 1)), .int (nI (c_look o c).2.2.1), .int (c_look o c).2.2.2.1, .int (bI (c_look o c).2.2.2.2)])), (qo, .inr (1, [.ref ql, .int (nI o.2.1), .ref qp, .int (nI o.2.2.2.1), .int (bI o.2.2.2.2)])), (ql, .inl (cI, 1507, .inl o.1)), (qp, .inl (cI, 1024, .inl o.2.2.1))] H := hP
          have hD : va_D A [(qr, .inr (0, [.int (nI ((c_look o c).2.1 + 1)), .int (nI (c_look o c).2.2.1), .int (c_look o c).2.2.2.1, .int (bI (c_look o c).2.2.2.2)])), (qo, .inr (1, [.ref ql, .int (nI o.2.1), .ref qp, .int (nI o.2.2.2.1), .int (bI o.2.2.2.2)])), (ql, .inl (cI, 1507, .inl o.1)), (qp, .inl (cI, 1024, .inl o.2.2.1))] := hD
          refine lv_aload_n hx hb d_Cu_next_59 rfl (lv_at hl 2 rfl) ?_
          refine lv_aload_n hx hb d_Cu_next_60 rfl (lv_at hl 1 rfl) ?_
          refine va_get (D := D) (ci := 0) (v := .int (nI ((c_look o c).2.1 + 1))) (C := R_Cu) (T := F_Cu) (N := 4) hx hb hW in_Cu hown hK hP 0 rfl rfl 0 (by decide) (hW _ mw_106) (fun _ h9 => h9) rfl d_Cu_next_61 ?_
          refine lv_iconst (v := 1) hx hb d_Cu_next_64 (by decide) ?_
          refine lv_isub hx hb d_Cu_next_65 ?_
          refine x_topi (y := nI (c_look o c).2.1) (nI_pred _) ?_
          refine x_calli (D := D) (wc := [(qo, .inr (1, [.ref ql, .int (nI o.2.1), .ref qp, .int (nI o.2.2.2.1), .int (bI o.2.2.2.2)])), (ql, .inl (cI, 1507, .inl o.1)), (qp, .inl (cI, 1024, .inl o.2.2.1))]) (wr := [(qr, .inr (0, [.int (nI ((c_look o c).2.1 + 1)), .int (nI (c_look o c).2.2.1), .int (c_look o c).2.2.2.1, .int (bI (c_look o c).2.2.2.2)]))]) (va_runVN (C := R_Ou) (As := [.int (nI (c_look o c).2.1)]) (rest := []) ⟨hx, hb, hml, hown, hW⟩ (k_Ou_logged l D g qo ql qp cI o (nI (c_look o c).2.1) ho H.size) (⟨va_cnB 1 hW (gW mw_187) rfl rfl rfl (gZ_nest hZ 23 rfl) (hW _ mw_51) (by decide +kernel) ⟨Nat.le_of_ble_eq_true rfl, Nat.le_of_ble_eq_true rfl⟩, hW _ mw_186, hW _ mw_3⟩) ⟨xPc_blind (gZ_ok g), va_recv hK hP (ci := 1) (q0 := 1) rfl rfl, x_pre (gZ_ok g) hP hK hD hS hA hZ [1, 2, 3] [0] rfl rfl rfl⟩ rfl rfl hl.1 rfl (lv_room (Nat.le_of_ble_eq_true rfl)) d_Cu_next_66 ⟨Nat.le_of_ble_eq_true rfl, Nat.le_of_ble_eq_true rfl⟩) hP hD hS hA [1, 2, 3] [0] rfl rfl rfl (by decide) (fun r_66 u_66 H locs hw_66 hP hD hS => ?_)
          replace hw_66 := hw_66.symm
          subst hw_66
          have hP : va_P D vwCl [(qr, .inr (0, [.int (nI ((c_look o c).2.1 + 1)), .int (nI (c_look o c).2.2.1), .int (c_look o c).2.2.2.1, .int (bI (c_look o c).2.2.2.2)])), (qo, .inr (1, [.ref ql, .int (nI o.2.1), .ref qp, .int (nI o.2.2.2.1), .int (bI o.2.2.2.2)])), (ql, .inl (cI, 1507, .inl o.1)), (qp, .inl (cI, 1024, .inl o.2.2.1))] H := hP
          have hD : va_D A [(qr, .inr (0, [.int (nI ((c_look o c).2.1 + 1)), .int (nI (c_look o c).2.2.1), .int (c_look o c).2.2.2.1, .int (bI (c_look o c).2.2.2.2)])), (qo, .inr (1, [.ref ql, .int (nI o.2.1), .ref qp, .int (nI o.2.2.2.1), .int (bI o.2.2.2.2)])), (ql, .inl (cI, 1507, .inl o.1)), (qp, .inl (cI, 1024, .inl o.2.2.1))] := hD
          refine x_topi (y := o_at o (c_look o c).2.1) (o_atI_n (by omega) (by omega)) ?_
          exact W.iret (v := o_at o (c_look o c).2.1) hx hb hr (fun t9 ht9 hW9 => ⟨⟨o_at o (c_look o c).2.1, (((c_look o c).2.1 + 1, (c_look o c).2.2.1, (c_look o c).2.2.2.1, (c_look o c).2.2.2.2) : CS), rfl, by unfold c_next; rw [if_neg (fun z => z h_l0), if_neg (by omega)]; first | (rw [if_pos c_36]; exact ⟨rfl, rfl⟩) | (rw [if_neg (by rw [c_36]; decide)]; exact ⟨rfl, rfl⟩), by rw [ht9]; exact hP.sub [0, 1, 2, 3] rfl, va_K.moved hW9.alike hK, hD.sub [0, 1, 2, 3] (by decide) rfl⟩, hS.F ht9⟩) hS.2.2 d_Cu_next_69
        · rw [bI_n0] at c_36
          refine lv_aload_n hx hb d_Cu_next_39 rfl (lv_at hl 1 rfl) ?_
          refine lv_dup hx hb d_Cu_next_40 rfl ?_
          refine va_get (D := D) (ci := 0) (v := .int (nI (c_look o c).2.2.1)) (C := R_Cu) (T := F_Cu) (N := 4) hx hb hW in_Cu hown hK hP 0 rfl rfl 1 (by decide) (hW _ mw_108) (fun _ h9 => h9) rfl d_Cu_next_41 ?_
          refine lv_iconst (v := 1) hx hb d_Cu_next_44 (by decide) ?_
          refine lv_isub hx hb d_Cu_next_45 ?_
          refine x_topi (y := nI ((c_look o c).2.2.1 - 1)) (nI_pd (hdp (by rw [← hdm]; exact c_36) h_l0)) ?_
          refine va_put (D := D) (ci := 0) (v := .int (nI ((c_look o c).2.2.1 - 1))) (ty := .int) (C := R_Cu) (T := F_Cu) (N := 4) hx hb hW in_Cu t_Cu t_Cu_ok nm_Cu hown hK hP hD hS 0 rfl rfl 1 (by decide) (hW _ mw_108) (fun _ h9 => h9) rfl (by decide +kernel) (rfl) (rfl) (Nat.le_of_ble_eq_true rfl) d_Cu_next_46 (fun H locs hP hD hS => ?_)
          have hP : va_P D vwCl [(qr, .inr (0, [.int (nI (c_look o c).2.1), .int (nI ((c_look o c).2.2.1 - 1)), .int (c_look o c).2.2.2.1, .int (bI (c_look o c).2.2.2.2)])), (qo, .inr (1, [.ref ql, .int (nI o.2.1), .ref qp, .int (nI o.2.2.2.1), .int (bI o.2.2.2.2)])), (ql, .inl (cI, 1507, .inl o.1)), (qp, .inl (cI, 1024, .inl o.2.2.1))] H := hP
          have hD : va_D A [(qr, .inr (0, [.int (nI (c_look o c).2.1), .int (nI ((c_look o c).2.2.1 - 1)), .int (c_look o c).2.2.2.1, .int (bI (c_look o c).2.2.2.2)])), (qo, .inr (1, [.ref ql, .int (nI o.2.1), .ref qp, .int (nI o.2.2.2.1), .int (bI o.2.2.2.2)])), (ql, .inl (cI, 1507, .inl o.1)), (qp, .inl (cI, 1024, .inl o.2.2.1))] := hD
          refine lv_aload_n hx hb d_Cu_next_49 rfl (lv_at hl 1 rfl) ?_
          refine lv_dup hx hb d_Cu_next_50 rfl ?_
          refine va_get (D := D) (ci := 0) (v := .int (nI (c_look o c).2.1)) (C := R_Cu) (T := F_Cu) (N := 4) hx hb hW in_Cu hown hK hP 0 rfl rfl 0 (by decide) (hW _ mw_106) (fun _ h9 => h9) rfl d_Cu_next_51 ?_
          refine lv_iconst (v := 1) hx hb d_Cu_next_54 (by decide) ?_
          refine lv_iadd hx hb d_Cu_next_55 ?_
          refine x_topi (y := nI ((c_look o c).2.1 + 1)) (nI_1 _) ?_
          refine va_put (D := D) (ci := 0) (v := .int (nI ((c_look o c).2.1 + 1))) (ty := .int) (C := R_Cu) (T := F_Cu) (N := 4) hx hb hW in_Cu t_Cu t_Cu_ok nm_Cu hown hK hP hD hS 0 rfl rfl 0 (by decide) (hW _ mw_106) (fun _ h9 => h9) rfl (by decide +kernel) (rfl) (rfl) (Nat.le_of_ble_eq_true rfl) d_Cu_next_56 (fun H locs hP hD hS => ?_)
          have hP : va_P D vwCl [(qr, .inr (0, [.int (nI ((c_look o c).2.1 + 1)), .int (nI ((c_look o c).2.2.1 - 1)), .int (c_look o c).2.2.2.1, .int (bI (c_look o c).2.2.2.2)])), (qo, .inr (1, [.ref ql, .int (nI o.2.1), .ref qp, .int (nI o.2.2.2.1), .int (bI o.2.2.2.2)])), (ql, .inl (cI, 1507, .inl o.1)), (qp, .inl (cI, 1024, .inl o.2.2.1))] H := hP
          have hD : va_D A [(qr, .inr (0, [.int (nI ((c_look o c).2.1 + 1)), .int (nI ((c_look o c).2.2.1 - 1)), .int (c_look o c).2.2.2.1, .int (bI (c_look o c).2.2.2.2)])), (qo, .inr (1, [.ref ql, .int (nI o.2.1), .ref qp, .int (nI o.2.2.2.1), .int (bI o.2.2.2.2)])), (ql, .inl (cI, 1507, .inl o.1)), (qp, .inl (cI, 1024, .inl o.2.2.1))] := hD
          refine lv_aload_n hx hb d_Cu_next_59 rfl (lv_at hl 2 rfl) ?_
          refine lv_aload_n hx hb d_Cu_next_60 rfl (lv_at hl 1 rfl) ?_
          refine va_get (D := D) (ci := 0) (v := .int (nI ((c_look o c).2.1 + 1))) (C := R_Cu) (T := F_Cu) (N := 4) hx hb hW in_Cu hown hK hP 0 rfl rfl 0 (by decide) (hW _ mw_106) (fun _ h9 => h9) rfl d_Cu_next_61 ?_
          refine lv_iconst (v := 1) hx hb d_Cu_next_64 (by decide) ?_
          refine lv_isub hx hb d_Cu_next_65 ?_
          refine x_topi (y := nI (c_look o c).2.1) (nI_pred _) ?_
          refine x_calli (D := D) (wc := [(qo, .inr (1, [.ref ql, .int (nI o.2.1), .ref qp, .int (nI o.2.2.2.1), .int (bI o.2.2.2.2)])), (ql, .inl (cI, 1507, .inl o.1)), (qp, .inl (cI, 1024, .inl o.2.2.1))]) (wr := [(qr, .inr (0, [.int (nI ((c_look o c).2.1 + 1)), .int (nI ((c_look o c).2.2.1 - 1)), .int (c_look o c).2.2.2.1, .int (bI (c_look o c).2.2.2.2)]))]) (va_runVN (C := R_Ou) (As := [.int (nI (c_look o c).2.1)]) (rest := []) ⟨hx, hb, hml, hown, hW⟩ (k_Ou_logged l D g qo ql qp cI o (nI (c_look o c).2.1) ho H.size) (⟨va_cnB 1 hW (gW mw_187) rfl rfl rfl (gZ_nest hZ 23 rfl) (hW _ mw_51) (by decide +kernel) ⟨Nat.le_of_ble_eq_true rfl, Nat.le_of_ble_eq_true rfl⟩, hW _ mw_186, hW _ mw_3⟩) ⟨xPc_blind (gZ_ok g), va_recv hK hP (ci := 1) (q0 := 1) rfl rfl, x_pre (gZ_ok g) hP hK hD hS hA hZ [1, 2, 3] [0] rfl rfl rfl⟩ rfl rfl hl.1 rfl (lv_room (Nat.le_of_ble_eq_true rfl)) d_Cu_next_66 ⟨Nat.le_of_ble_eq_true rfl, Nat.le_of_ble_eq_true rfl⟩) hP hD hS hA [1, 2, 3] [0] rfl rfl rfl (by decide) (fun r_66 u_66 H locs hw_66 hP hD hS => ?_)
          replace hw_66 := hw_66.symm
          subst hw_66
          have hP : va_P D vwCl [(qr, .inr (0, [.int (nI ((c_look o c).2.1 + 1)), .int (nI ((c_look o c).2.2.1 - 1)), .int (c_look o c).2.2.2.1, .int (bI (c_look o c).2.2.2.2)])), (qo, .inr (1, [.ref ql, .int (nI o.2.1), .ref qp, .int (nI o.2.2.2.1), .int (bI o.2.2.2.2)])), (ql, .inl (cI, 1507, .inl o.1)), (qp, .inl (cI, 1024, .inl o.2.2.1))] H := hP
          have hD : va_D A [(qr, .inr (0, [.int (nI ((c_look o c).2.1 + 1)), .int (nI ((c_look o c).2.2.1 - 1)), .int (c_look o c).2.2.2.1, .int (bI (c_look o c).2.2.2.2)])), (qo, .inr (1, [.ref ql, .int (nI o.2.1), .ref qp, .int (nI o.2.2.2.1), .int (bI o.2.2.2.2)])), (ql, .inl (cI, 1507, .inl o.1)), (qp, .inl (cI, 1024, .inl o.2.2.1))] := hD
          refine x_topi (y := o_at o (c_look o c).2.1) (o_atI_n (by omega) (by omega)) ?_
          exact W.iret (v := o_at o (c_look o c).2.1) hx hb hr (fun t9 ht9 hW9 => ⟨⟨o_at o (c_look o c).2.1, (((c_look o c).2.1 + 1, (c_look o c).2.2.1 - 1, (c_look o c).2.2.2.1, (c_look o c).2.2.2.2) : CS), rfl, by unfold c_next; rw [if_neg (fun z => z h_l0), if_neg (by omega)]; first | (rw [if_pos c_36]; exact ⟨rfl, rfl⟩) | (rw [if_neg (by rw [c_36]; decide)]; exact ⟨rfl, rfl⟩), by rw [ht9]; exact hP.sub [0, 1, 2, 3] rfl, va_K.moved hW9.alike hK, hD.sub [0, 1, 2, 3] (by decide) rfl⟩, hS.F ht9⟩) hS.2.2 d_Cu_next_69
      · replace c_27 := mt (cg_lt (c_look o c).2.1 o.2.1 rfl rfl (by omega) (by omega)).mpr c_27
        refine lv_iconst (v := -1) hx hb d_Cu_next_30 (by decide) ?_
        exact W.iret (v := -1) hx hb hr (fun t9 ht9 hW9 => ⟨⟨-1, ((c_look o c).2 : CS), rfl, by unfold c_next; rw [if_neg (fun z => z h_l0), if_pos (by omega)]; exact ⟨rfl, rfl⟩, by rw [ht9]; exact hP.sub [0, 1, 2, 3] rfl, va_K.moved hW9.alike hK, hD.sub [0, 1, 2, 3] (by decide) rfl⟩, hS.F ht9⟩) hS.2.2 d_Cu_next_31
    · refine lv_iload_n hx hb d_Cu_next_17 rfl (lv_at hl 0 rfl) ?_
      exact W.iret (v := (c_find o (o.2.1 - c.1) c).1) hx hb hr (fun t9 ht9 hW9 => ⟨⟨(c_find o (o.2.1 - c.1) c).1, ((c_find o (o.2.1 - c.1) c).2 : CS), rfl, by rw [c_next]; simp only [c_look, if_pos c_4, c_14, not_false_eq_true, if_true]; exact ⟨trivial, trivial⟩, by rw [ht9]; exact hP.sub [0, 1, 2, 3] rfl, va_K.moved hW9.alike hK, hD.sub [0, 1, 2, 3] (by decide) rfl⟩, hS.F ht9⟩) hS.2.2 d_Cu_next_18
