set_option maxHeartbeats 4000000 in
set_option maxRecDepth 100000 in
theorem k_Cu_copyFrom (l : Launch) (D : va_G) (g : GP) (qt qr : Nat) (t c : CS) (sz : Nat) : Met l y_Cu_copyFrom (.code y_Cu_copyFrom c_Cu_copyFrom 2 none :: xW) ({ frames := 0, cells := 0, slots := 0, locals := 0 }) (xPc (gZ g) D vwCl [.ref qt, .ref qr] [(qt, .inr (0, [.int (nI t.1), .int (nI t.2.1), .int t.2.2.1, .int (bI t.2.2.2)])), (qr, .inr (0, [.int (nI c.1), .int (nI c.2.1), .int c.2.2.1, .int (bI c.2.2.2)]))] [] sz) (va_Qv (fun (u : CS) => u = c) (xB D vwCl [] (fun u : CS => [(qt, .inr (0, [.int (nI u.1), .int (nI u.2.1), .int u.2.2.1, .int (bI u.2.2.2)])), (qr, .inr (0, [.int (nI c.1), .int (nI c.2.1), .int c.2.2.1, .int (bI c.2.2.2)]))]) (va_A [(qt, .inr (0, [.int (nI t.1), .int (nI t.2.1), .int t.2.2.1, .int (bI t.2.2.2)])), (qr, .inr (0, [.int (nI c.1), .int (nI c.2.1), .int c.2.2.1, .int (bI c.2.2.2)]))] sz)) (va_A [(qt, .inr (0, [.int (nI t.1), .int (nI t.2.1), .int t.2.2.1, .int (bI t.2.2.2)])), (qr, .inr (0, [.int (nI c.1), .int (nI c.2.1), .int c.2.2.1, .int (bI c.2.2.2)]))] sz)) 0 0 (va_A [(qt, .inr (0, [.int (nI t.1), .int (nI t.2.1), .int t.2.2.1, .int (bI t.2.2.2)])), (qr, .inr (0, [.int (nI c.1), .int (nI c.2.1), .int c.2.2.1, .int (bI c.2.2.2)]))] sz) := by
  refine x_open (Qc := fun A => va_Qv (fun (u : CS) => u = c) (xB D vwCl [] (fun u : CS => [(qt, .inr (0, [.int (nI u.1), .int (nI u.2.1), .int u.2.2.1, .int (bI u.2.2.2)])), (qr, .inr (0, [.int (nI c.1), .int (nI c.2.1), .int c.2.2.1, .int (bI c.2.2.2)]))]) A) A) (cc := c_Cu_copyFrom) (maxL := 2) (ret := none) (own := R_Cu) (by decide) rfl rfl (Nat.le_of_ble_eq_true rfl) ?_
  intro p e s m below meth cd A ls hsz hAe hx hb hr hml hown hts hlk hnm hA hP hK hD hS hZ hl
  clear hsz hAe
  have hW : ∀ w ∈ xW, w.before _ s = true := fun w h => hts w (List.mem_cons_of_mem _ h)
  have hl : lv_has ls 2 [(0, .ref qt), (1, .ref qr)] := hl
  refine lv_aload_n hx hb d_Cu_copyFrom_0 rfl (lv_at hl 0 rfl) ?_
  refine lv_aload_n hx hb d_Cu_copyFrom_1 rfl (lv_at hl 1 rfl) ?_
  refine va_get (D := D) (ci := 0) (v := .int (nI c.1)) (C := R_Cu) (T := F_Cu) (N := 4) hx hb hW in_Cu hown hK hP 1 rfl rfl 0 (by decide) (hW _ mw_106) (fun _ h9 => h9) rfl d_Cu_copyFrom_2 ?_
  refine va_put (D := D) (ci := 0) (v := .int (nI c.1)) (ty := .int) (C := R_Cu) (T := F_Cu) (N := 4) hx hb hW in_Cu t_Cu t_Cu_ok nm_Cu hown hK hP hD hS 0 rfl rfl 0 (by decide) (hW _ mw_106) (fun _ h9 => h9) rfl (by decide +kernel) (rfl) (rfl) (Nat.le_of_ble_eq_true rfl) d_Cu_copyFrom_5 (fun H locs hP hD hS => ?_)
  have hP : va_P D vwCl [(qt, .inr (0, [.int (nI c.1), .int (nI t.2.1), .int t.2.2.1, .int (bI t.2.2.2)])), (qr, .inr (0, [.int (nI c.1), .int (nI c.2.1), .int c.2.2.1, .int (bI c.2.2.2)]))] H := hP
  have hD : va_D A [(qt, .inr (0, [.int (nI c.1), .int (nI t.2.1), .int t.2.2.1, .int (bI t.2.2.2)])), (qr, .inr (0, [.int (nI c.1), .int (nI c.2.1), .int c.2.2.1, .int (bI c.2.2.2)]))] := hD
  refine lv_aload_n hx hb d_Cu_copyFrom_8 rfl (lv_at hl 0 rfl) ?_
  refine lv_aload_n hx hb d_Cu_copyFrom_9 rfl (lv_at hl 1 rfl) ?_
  refine va_get (D := D) (ci := 0) (v := .int (nI c.2.1)) (C := R_Cu) (T := F_Cu) (N := 4) hx hb hW in_Cu hown hK hP 1 rfl rfl 1 (by decide) (hW _ mw_108) (fun _ h9 => h9) rfl d_Cu_copyFrom_10 ?_
  refine va_put (D := D) (ci := 0) (v := .int (nI c.2.1)) (ty := .int) (C := R_Cu) (T := F_Cu) (N := 4) hx hb hW in_Cu t_Cu t_Cu_ok nm_Cu hown hK hP hD hS 0 rfl rfl 1 (by decide) (hW _ mw_108) (fun _ h9 => h9) rfl (by decide +kernel) (rfl) (rfl) (Nat.le_of_ble_eq_true rfl) d_Cu_copyFrom_13 (fun H locs hP hD hS => ?_)
  have hP : va_P D vwCl [(qt, .inr (0, [.int (nI c.1), .int (nI c.2.1), .int t.2.2.1, .int (bI t.2.2.2)])), (qr, .inr (0, [.int (nI c.1), .int (nI c.2.1), .int c.2.2.1, .int (bI c.2.2.2)]))] H := hP
  have hD : va_D A [(qt, .inr (0, [.int (nI c.1), .int (nI c.2.1), .int t.2.2.1, .int (bI t.2.2.2)])), (qr, .inr (0, [.int (nI c.1), .int (nI c.2.1), .int c.2.2.1, .int (bI c.2.2.2)]))] := hD
  refine lv_aload_n hx hb d_Cu_copyFrom_16 rfl (lv_at hl 0 rfl) ?_
  refine lv_aload_n hx hb d_Cu_copyFrom_17 rfl (lv_at hl 1 rfl) ?_
  refine va_get (D := D) (ci := 0) (v := .int c.2.2.1) (C := R_Cu) (T := F_Cu) (N := 4) hx hb hW in_Cu hown hK hP 1 rfl rfl 2 (by decide) (hW _ mw_110) (fun _ h9 => h9) rfl d_Cu_copyFrom_18 ?_
  refine va_put (D := D) (ci := 0) (v := .int c.2.2.1) (ty := .int) (C := R_Cu) (T := F_Cu) (N := 4) hx hb hW in_Cu t_Cu t_Cu_ok nm_Cu hown hK hP hD hS 0 rfl rfl 2 (by decide) (hW _ mw_110) (fun _ h9 => h9) rfl (by decide +kernel) (rfl) (rfl) (Nat.le_of_ble_eq_true rfl) d_Cu_copyFrom_21 (fun H locs hP hD hS => ?_)
  have hP : va_P D vwCl [(qt, .inr (0, [.int (nI c.1), .int (nI c.2.1), .int c.2.2.1, .int (bI t.2.2.2)])), (qr, .inr (0, [.int (nI c.1), .int (nI c.2.1), .int c.2.2.1, .int (bI c.2.2.2)]))] H := hP
  have hD : va_D A [(qt, .inr (0, [.int (nI c.1), .int (nI c.2.1), .int c.2.2.1, .int (bI t.2.2.2)])), (qr, .inr (0, [.int (nI c.1), .int (nI c.2.1), .int c.2.2.1, .int (bI c.2.2.2)]))] := hD
  refine lv_aload_n hx hb d_Cu_copyFrom_24 rfl (lv_at hl 0 rfl) ?_
  refine lv_aload_n hx hb d_Cu_copyFrom_25 rfl (lv_at hl 1 rfl) ?_
  refine va_get (D := D) (ci := 0) (v := .int (bI c.2.2.2)) (C := R_Cu) (T := F_Cu) (N := 4) hx hb hW in_Cu hown hK hP 1 rfl rfl 3 (by decide) (hW _ mw_112) (fun _ h9 => h9) rfl d_Cu_copyFrom_26 ?_
  refine va_put (D := D) (ci := 0) (v := .int (bI c.2.2.2)) (ty := .boolean) (C := R_Cu) (T := F_Cu) (N := 4) hx hb hW in_Cu t_Cu t_Cu_ok nm_Cu hown hK hP hD hS 0 rfl rfl 3 (by decide) (hW _ mw_112) (fun _ h9 => h9) rfl (by decide +kernel) (bI_nar _) (bI_fit _) (Nat.le_of_ble_eq_true rfl) d_Cu_copyFrom_29 (fun H locs hP hD hS => ?_)
  have hP : va_P D vwCl [(qt, .inr (0, [.int (nI c.1), .int (nI c.2.1), .int c.2.2.1, .int (bI c.2.2.2)])), (qr, .inr (0, [.int (nI c.1), .int (nI c.2.1), .int c.2.2.1, .int (bI c.2.2.2)]))] H := hP
  have hD : va_D A [(qt, .inr (0, [.int (nI c.1), .int (nI c.2.1), .int c.2.2.1, .int (bI c.2.2.2)])), (qr, .inr (0, [.int (nI c.1), .int (nI c.2.1), .int c.2.2.1, .int (bI c.2.2.2)]))] := hD
  exact W.vret hx hb hr (fun t9 ht9 hW9 => ⟨⟨(c : CS), rfl, rfl, by rw [ht9]; exact hP.sub [0, 1] rfl, va_K.moved hW9.alike hK, hD.sub [0, 1] (by decide) rfl⟩, hS.F ht9⟩) hS.2.2 d_Cu_copyFrom_32
set_option maxHeartbeats 4000000 in
set_option maxRecDepth 100000 in
theorem k_Cu_endAt (l : Launch) (D : va_G) (g : GP) (k : Int32) (sz : Nat) : Met l y_Cu_endAt (.code y_Cu_endAt c_Cu_endAt 2 (some .int) :: xW) ({ frames := 0, cells := 0, slots := 0, locals := 0 }) (xPc (gZ g) D vwCl [.int k] [] [] sz) (va_Qi (fun (r : Int32) (u : Unit) => r = c_end k) (xB D vwCl [] (fun u : Unit => []) (va_A [] sz)) (va_A [] sz)) 0 0 (va_A [] sz) := by
  refine x_open (Qc := fun A => va_Qi (fun (r : Int32) (u : Unit) => r = c_end k) (xB D vwCl [] (fun u : Unit => []) A) A) (cc := c_Cu_endAt) (maxL := 2) (ret := (some .int)) (own := R_Cu) (by decide) rfl rfl (Nat.le_of_ble_eq_true rfl) ?_
  intro p e s m below meth cd A ls hsz hAe hx hb hr hml hown hts hlk hnm hA hP hK hD hS hZ hl
  clear hsz hAe
  have hW : ∀ w ∈ xW, w.before _ s = true := fun w h => hts w (List.mem_cons_of_mem _ h)
  have hl : lv_has ls 2 [(0, .int k)] := hl
  refine lv_iload_n hx hb d_Cu_endAt_0 rfl (lv_at hl 0 rfl) ?_
  refine lv_iconst (v := -1) hx hb d_Cu_endAt_1 (by decide) ?_
  refine lv_icmp_eq (tgt := 17) hx hb d_Cu_endAt_2 (by decide) (fun c_2 => ?_) (fun c_2 => ?_)
  · refine lv_iconst (v := 1) hx hb d_Cu_endAt_17 (by decide) ?_
    refine lv_goto (tgt := 22) hx hb d_Cu_endAt_18 (by decide) ?_
    refine lv_istore_n (lv' := [(1, .int 1), (0, .int k)]) hx hb d_Cu_endAt_22 rfl hl (by decide) rfl (fun ls hl => ?_)
    refine lv_iload_n hx hb d_Cu_endAt_23 rfl (lv_at hl 0 rfl) ?_
    refine lv_if_eq (tgt := 31) hx hb d_Cu_endAt_24 (by decide) (fun c_24 => ?_) (fun c_24 => ?_)
    · exact absurd c_24 (by decide)
    · refine lv_iconst (v := -1) hx hb d_Cu_endAt_27 (by decide) ?_
      refine lv_goto (tgt := 33) hx hb d_Cu_endAt_28 (by decide) ?_
      exact W.iret (v := -1) hx hb hr (fun t9 ht9 hW9 => ⟨⟨-1, (() : Unit), rfl, by rw [c_end, if_pos (by first | exact Or.inl c_2 | exact Or.inr ⟨c_8, c_14⟩)], by rw [ht9]; exact hP.sub [] rfl, va_K.moved hW9.alike hK, hD.sub [] (by decide) rfl⟩, hS.F ht9⟩) hS.2.2 d_Cu_endAt_33
  · refine lv_iload_n hx hb d_Cu_endAt_5 rfl (lv_at hl 0 rfl) ?_
    refine lv_bipush (v := 112) hx hb d_Cu_endAt_6 (by decide) ?_
    refine lv_icmp_lt (tgt := 21) hx hb d_Cu_endAt_8 (by decide) (fun c_8 => ?_) (fun c_8 => ?_)
    · refine lv_iconst (v := 0) hx hb d_Cu_endAt_21 (by decide) ?_
      refine lv_istore_n (lv' := [(1, .int 0), (0, .int k)]) hx hb d_Cu_endAt_22 rfl hl (by decide) rfl (fun ls hl => ?_)
      refine lv_iload_n hx hb d_Cu_endAt_23 rfl (lv_at hl 0 rfl) ?_
      refine lv_if_eq (tgt := 31) hx hb d_Cu_endAt_24 (by decide) (fun c_24 => ?_) (fun c_24 => ?_)
      · refine lv_bipush (v := -2) hx hb d_Cu_endAt_31 (by decide) ?_
        exact W.iret (v := -2) hx hb hr (fun t9 ht9 hW9 => ⟨⟨-2, (() : Unit), rfl, by rw [c_end, if_neg (fun z => z.elim c_2 (fun w => by first | exact w.1 c_8 | exact w.2 c_14))], by rw [ht9]; exact hP.sub [] rfl, va_K.moved hW9.alike hK, hD.sub [] (by decide) rfl⟩, hS.F ht9⟩) hS.2.2 d_Cu_endAt_33
      · exact absurd c_24 (by decide)
    · refine lv_iload_n hx hb d_Cu_endAt_11 rfl (lv_at hl 0 rfl) ?_
      refine lv_bipush (v := 126) hx hb d_Cu_endAt_12 (by decide) ?_
      refine lv_icmp_gt (tgt := 21) hx hb d_Cu_endAt_14 (by decide) (fun c_14 => ?_) (fun c_14 => ?_)
      · refine lv_iconst (v := 0) hx hb d_Cu_endAt_21 (by decide) ?_
        refine lv_istore_n (lv' := [(1, .int 0), (0, .int k)]) hx hb d_Cu_endAt_22 rfl hl (by decide) rfl (fun ls hl => ?_)
        refine lv_iload_n hx hb d_Cu_endAt_23 rfl (lv_at hl 0 rfl) ?_
        refine lv_if_eq (tgt := 31) hx hb d_Cu_endAt_24 (by decide) (fun c_24 => ?_) (fun c_24 => ?_)
        · refine lv_bipush (v := -2) hx hb d_Cu_endAt_31 (by decide) ?_
          exact W.iret (v := -2) hx hb hr (fun t9 ht9 hW9 => ⟨⟨-2, (() : Unit), rfl, by rw [c_end, if_neg (fun z => z.elim c_2 (fun w => by first | exact w.1 c_8 | exact w.2 c_14))], by rw [ht9]; exact hP.sub [] rfl, va_K.moved hW9.alike hK, hD.sub [] (by decide) rfl⟩, hS.F ht9⟩) hS.2.2 d_Cu_endAt_33
        · exact absurd c_24 (by decide)
      · refine lv_iconst (v := 1) hx hb d_Cu_endAt_17 (by decide) ?_
        refine lv_goto (tgt := 22) hx hb d_Cu_endAt_18 (by decide) ?_
        refine lv_istore_n (lv' := [(1, .int 1), (0, .int k)]) hx hb d_Cu_endAt_22 rfl hl (by decide) rfl (fun ls hl => ?_)
        refine lv_iload_n hx hb d_Cu_endAt_23 rfl (lv_at hl 0 rfl) ?_
        refine lv_if_eq (tgt := 31) hx hb d_Cu_endAt_24 (by decide) (fun c_24 => ?_) (fun c_24 => ?_)
        · exact absurd c_24 (by decide)
        · refine lv_iconst (v := -1) hx hb d_Cu_endAt_27 (by decide) ?_
          refine lv_goto (tgt := 33) hx hb d_Cu_endAt_28 (by decide) ?_
          exact W.iret (v := -1) hx hb hr (fun t9 ht9 hW9 => ⟨⟨-1, (() : Unit), rfl, by rw [c_end, if_pos (by first | exact Or.inl c_2 | exact Or.inr ⟨c_8, c_14⟩)], by rw [ht9]; exact hP.sub [] rfl, va_K.moved hW9.alike hK, hD.sub [] (by decide) rfl⟩, hS.F ht9⟩) hS.2.2 d_Cu_endAt_33
set_option maxHeartbeats 4000000 in
set_option maxRecDepth 100000 in
theorem k_Cu_openBlock (l : Launch) (D : va_G) (g : GP) (qr : Nat) (c : CS) (qo ql qp : Nat) (cI : ClassId) (o : OS) (z : Nat) (ho : o_ok o) (hc : c_ok o c) (hz : z ≤ 4) (sz : Nat) : Met l y_Cu_openBlock (.code y_Cu_openBlock c_Cu_openBlock 5 (some .boolean) :: xW) ({ frames := 1, cells := 0, slots := 0, locals := 21 }) (xPc (gZ g) D vwCl [.ref qr, .ref qo, .int (nI z)] [(qr, .inr (0, [.int (nI c.1), .int (nI c.2.1), .int c.2.2.1, .int (bI c.2.2.2)])), (qo, .inr (1, [.ref ql, .int (nI o.2.1), .ref qp, .int (nI o.2.2.2.1), .int (bI o.2.2.2.2)])), (ql, .inl (cI, 1507, .inl o.1)), (qp, .inl (cI, 1024, .inl o.2.2.1))] [(cI, .int)] sz) (va_Qi (fun (r : Int32) (u : CS) => r = bI (c_open o c z).1 ∧ u = (c_open o c z).2) (xB D vwCl [(cI, .int)] (fun u : CS => [(qr, .inr (0, [.int (nI u.1), .int (nI u.2.1), .int u.2.2.1, .int (bI u.2.2.2)])), (qo, .inr (1, [.ref ql, .int (nI o.2.1), .ref qp, .int (nI o.2.2.2.1), .int (bI o.2.2.2.2)])), (ql, .inl (cI, 1507, .inl o.1)), (qp, .inl (cI, 1024, .inl o.2.2.1))]) (va_A [(qr, .inr (0, [.int (nI c.1), .int (nI c.2.1), .int c.2.2.1, .int (bI c.2.2.2)])), (qo, .inr (1, [.ref ql, .int (nI o.2.1), .ref qp, .int (nI o.2.2.2.1), .int (bI o.2.2.2.2)])), (ql, .inl (cI, 1507, .inl o.1)), (qp, .inl (cI, 1024, .inl o.2.2.1))] sz)) (va_A [(qr, .inr (0, [.int (nI c.1), .int (nI c.2.1), .int c.2.2.1, .int (bI c.2.2.2)])), (qo, .inr (1, [.ref ql, .int (nI o.2.1), .ref qp, .int (nI o.2.2.2.1), .int (bI o.2.2.2.2)])), (ql, .inl (cI, 1507, .inl o.1)), (qp, .inl (cI, 1024, .inl o.2.2.1))] sz)) 0 0 (va_A [(qr, .inr (0, [.int (nI c.1), .int (nI c.2.1), .int c.2.2.1, .int (bI c.2.2.2)])), (qo, .inr (1, [.ref ql, .int (nI o.2.1), .ref qp, .int (nI o.2.2.2.1), .int (bI o.2.2.2.2)])), (ql, .inl (cI, 1507, .inl o.1)), (qp, .inl (cI, 1024, .inl o.2.2.1))] sz) := by
  refine x_open (Qc := fun A => va_Qi (fun (r : Int32) (u : CS) => r = bI (c_open o c z).1 ∧ u = (c_open o c z).2) (xB D vwCl [(cI, .int)] (fun u : CS => [(qr, .inr (0, [.int (nI u.1), .int (nI u.2.1), .int u.2.2.1, .int (bI u.2.2.2)])), (qo, .inr (1, [.ref ql, .int (nI o.2.1), .ref qp, .int (nI o.2.2.2.1), .int (bI o.2.2.2.2)])), (ql, .inl (cI, 1507, .inl o.1)), (qp, .inl (cI, 1024, .inl o.2.2.1))]) A) A) (cc := c_Cu_openBlock) (maxL := 5) (ret := (some .boolean)) (own := R_Cu) (by decide) rfl rfl (Nat.le_of_ble_eq_true rfl) ?_
  intro p e s m below meth cd A ls hsz hAe hx hb hr hml hown hts hlk hnm hA hP hK hD hS hZ hl
  clear hsz hAe
  have hW : ∀ w ∈ xW, w.before _ s = true := fun w h => hts w (List.mem_cons_of_mem _ h)
  have hl : lv_has ls 5 [(0, .ref qr), (1, .ref qo), (2, .int (nI z))] := hl
  obtain ⟨ho1, ho2⟩ := id ho
  obtain ⟨hc1, hc2⟩ := id hc
  refine lv_aload_n hx hb d_Cu_openBlock_0 rfl (lv_at hl 1 rfl) ?_
  refine va_getN (D := D) (ci := 1) (v := .int (nI o.2.1)) (C := R_Ou) (T := F_Ou) (N := 5) hx hb hW in_Ou hown hK hP 1 rfl rfl 1 (by decide) (gZ_link hZ 2 rfl) (fun _ h9 => h9) rfl d_Cu_openBlock_1 ?_
  refine lv_aload_n hx hb d_Cu_openBlock_4 rfl (lv_at hl 0 rfl) ?_
  refine va_get (D := D) (ci := 0) (v := .int (nI c.1)) (C := R_Cu) (T := F_Cu) (N := 4) hx hb hW in_Cu hown hK hP 0 rfl rfl 0 (by decide) (hW _ mw_106) (fun _ h9 => h9) rfl d_Cu_openBlock_5 ?_
  refine lv_isub hx hb d_Cu_openBlock_8 ?_
  refine x_topi (y := nI (o.2.1 - c.1)) (pk_sub hc1) ?_
  refine lv_iconst (v := 1) hx hb d_Cu_openBlock_9 (by decide) ?_
  refine lv_isub hx hb d_Cu_openBlock_10 ?_
  refine x_topi (y := nI (o.2.1 - c.1) - 1) (rfl) ?_
  refine lv_iload_n hx hb d_Cu_openBlock_11 rfl (lv_at hl 2 rfl) ?_
  refine lv_icmp_ge (tgt := 17) hx hb d_Cu_openBlock_12 (by decide) (fun c_12 => ?_) (fun c_12 => ?_)
  · replace c_12 := (op_ge (by omega) (by omega)).mp c_12
    refine lv_iconst (v := 0) hx hb d_Cu_openBlock_17 (by decide) ?_
    refine lv_istore_n (lv' := [(3, .int 0), (0, .ref qr), (1, .ref qo), (2, .int (nI z))]) hx hb d_Cu_openBlock_18 rfl hl (by decide) rfl (fun ls hl => ?_)
    refine lv_iconst (v := 1) hx hb d_Cu_openBlock_19 (by decide) ?_
    refine lv_istore (lv' := [(4, .int 1), (3, .int 0), (0, .ref qr), (1, .ref qo), (2, .int (nI z))]) hx hb d_Cu_openBlock_20 hl (by decide) rfl (fun ls hl => ?_)
    have hlp_22 : ∀ (n : Nat) (i : Nat), (i ≤ z) → z - i < n → ∀ (H : Heap) (locs : List Loc), va_P D vwCl [(qr, .inr (0, [.int (nI c.1), .int (nI c.2.1), .int c.2.2.1, .int (bI c.2.2.2)])), (qo, .inr (1, [.ref ql, .int (nI o.2.1), .ref qp, .int (nI o.2.2.2.1), .int (bI o.2.2.2.2)])), (ql, .inl (cI, 1507, .inl o.1)), (qp, .inl (cI, 1024, .inl o.2.2.1))] H → va_D A [(qr, .inr (0, [.int (nI c.1), .int (nI c.2.1), .int c.2.2.1, .int (bI c.2.2.2)])), (qo, .inr (1, [.ref ql, .int (nI o.2.1), .ref qp, .int (nI o.2.2.2.1), .int (bI o.2.2.2.2)])), (ql, .inl (cI, 1507, .inl o.1)), (qp, .inl (cI, 1024, .inl o.2.2.1))] → va_S A s.heap H locs → ∀ (ls : Array Slot), lv_has ls 5 [(4, .int (nI (i + 1))), (3, .int (c_cnt o c.1 i)), (0, .ref qr), (1, .ref qo), (2, .int (nI z))] → W p l e ({ frames := 1, cells := 0, slots := 0, locals := 21 }) s m [.ref qr, .ref qo, .int (nI z)].toArray below meth cd H locs 0 0 (MQ below ((fun A => va_Qi (fun (r : Int32) (u : CS) => r = bI (c_open o c z).1 ∧ u = (c_open o c z).2) (xB D vwCl [(cI, .int)] (fun u : CS => [(qr, .inr (0, [.int (nI u.1), .int (nI u.2.1), .int u.2.2.1, .int (bI u.2.2.2)])), (qo, .inr (1, [.ref ql, .int (nI o.2.1), .ref qp, .int (nI o.2.2.2.1), .int (bI o.2.2.2.2)])), (ql, .inl (cI, 1507, .inl o.1)), (qp, .inl (cI, 1024, .inl o.2.2.1))]) A) A) A) [.ref qr, .ref qo, .int (nI z)].toArray s 0 0 A) (F0 m 22 ls []) := by
      intro n
      induction n with
      | zero => intro i hi hms; exact absurd hms (Nat.not_lt_zero _)
      | succ n ih =>
        intro i hi hms H locs hP hD hS ls hl
        refine lv_iload hx hb d_Cu_openBlock_22 (lv_at hl 0 rfl) ?_
        refine lv_iload_n hx hb d_Cu_openBlock_24 rfl (lv_at hl 4 rfl) ?_
        refine lv_icmp_gt (tgt := 51) hx hb d_Cu_openBlock_25 (by decide) (fun c_25 => ?_) (fun c_25 => ?_)
        · replace c_25 := (cg_lt z (i + 1) rfl rfl (by omega) (by omega)).mp c_25
          have e_i : i = z := by omega
          refine lv_iload_n hx hb d_Cu_openBlock_51 rfl (lv_at hl 1 rfl) ?_
          refine x_topi (y := c_cnt o c.1 z) (by rw [e_i]) ?_
          refine lv_if_ge (tgt := 57) hx hb d_Cu_openBlock_52 (by decide) (fun c_52 => ?_) (fun c_52 => ?_)
          · refine lv_aload_n hx hb d_Cu_openBlock_57 rfl (lv_at hl 2 rfl) ?_
            refine lv_dup hx hb d_Cu_openBlock_58 rfl ?_
            refine va_get (D := D) (ci := 0) (v := .int (nI c.1)) (C := R_Cu) (T := F_Cu) (N := 4) hx hb hW in_Cu hown hK hP 0 rfl rfl 0 (by decide) (hW _ mw_106) (fun _ h9 => h9) rfl d_Cu_openBlock_59 ?_
            refine lv_iconst (v := 1) hx hb d_Cu_openBlock_62 (by decide) ?_
            refine lv_iload_n hx hb d_Cu_openBlock_63 rfl (lv_at hl 4 rfl) ?_
            refine lv_iadd hx hb d_Cu_openBlock_64 ?_
            refine x_topi (y := nI (1 + z)) (by rw [show (1 : Int32) = nI 1 by decide]; exact nI_add _ _) ?_
            refine lv_iadd hx hb d_Cu_openBlock_65 ?_
            refine x_topi (y := nI (c.1 + (1 + z))) (nI_add _ _) ?_
            refine va_put (D := D) (ci := 0) (v := .int (nI (c.1 + (1 + z)))) (ty := .int) (C := R_Cu) (T := F_Cu) (N := 4) hx hb hW in_Cu t_Cu t_Cu_ok nm_Cu hown hK hP hD hS 0 rfl rfl 0 (by decide) (hW _ mw_106) (fun _ h9 => h9) rfl (by decide +kernel) (rfl) (rfl) (Nat.le_of_ble_eq_true rfl) d_Cu_openBlock_66 (fun H locs hP hD hS => ?_)
            have hP : va_P D vwCl [(qr, .inr (0, [.int (nI (c.1 + (1 + z))), .int (nI c.2.1), .int c.2.2.1, .int (bI c.2.2.2)])), (qo, .inr (1, [.ref ql, .int (nI o.2.1), .ref qp, .int (nI o.2.2.2.1), .int (bI o.2.2.2.2)])), (ql, .inl (cI, 1507, .inl o.1)), (qp, .inl (cI, 1024, .inl o.2.2.1))] H := hP
            have hD : va_D A [(qr, .inr (0, [.int (nI (c.1 + (1 + z))), .int (nI c.2.1), .int c.2.2.1, .int (bI c.2.2.2)])), (qo, .inr (1, [.ref ql, .int (nI o.2.1), .ref qp, .int (nI o.2.2.2.1), .int (bI o.2.2.2.2)])), (ql, .inl (cI, 1507, .inl o.1)), (qp, .inl (cI, 1024, .inl o.2.2.1))] := hD
            refine lv_aload_n hx hb d_Cu_openBlock_69 rfl (lv_at hl 2 rfl) ?_
            refine lv_iload_n hx hb d_Cu_openBlock_70 rfl (lv_at hl 1 rfl) ?_
            refine x_topi (y := nI ((c_cnt o c.1 z).toNatClampNeg)) (by rw [e_i]; exact nI_clampI c_52) ?_
            refine va_put (D := D) (ci := 0) (v := .int (nI ((c_cnt o c.1 z).toNatClampNeg))) (ty := .int) (C := R_Cu) (T := F_Cu) (N := 4) hx hb hW in_Cu t_Cu t_Cu_ok nm_Cu hown hK hP hD hS 0 rfl rfl 1 (by decide) (hW _ mw_108) (fun _ h9 => h9) rfl (by decide +kernel) (rfl) (rfl) (Nat.le_of_ble_eq_true rfl) d_Cu_openBlock_71 (fun H locs hP hD hS => ?_)
            have hP : va_P D vwCl [(qr, .inr (0, [.int (nI (c.1 + (1 + z))), .int (nI ((c_cnt o c.1 z).toNatClampNeg)), .int c.2.2.1, .int (bI c.2.2.2)])), (qo, .inr (1, [.ref ql, .int (nI o.2.1), .ref qp, .int (nI o.2.2.2.1), .int (bI o.2.2.2.2)])), (ql, .inl (cI, 1507, .inl o.1)), (qp, .inl (cI, 1024, .inl o.2.2.1))] H := hP
            have hD : va_D A [(qr, .inr (0, [.int (nI (c.1 + (1 + z))), .int (nI ((c_cnt o c.1 z).toNatClampNeg)), .int c.2.2.1, .int (bI c.2.2.2)])), (qo, .inr (1, [.ref ql, .int (nI o.2.1), .ref qp, .int (nI o.2.2.2.1), .int (bI o.2.2.2.2)])), (ql, .inl (cI, 1507, .inl o.1)), (qp, .inl (cI, 1024, .inl o.2.2.1))] := hD
            refine lv_iconst (v := 1) hx hb d_Cu_openBlock_74 (by decide) ?_
            have e_o : c_open o c z = (true, c.1 + (1 + z), (c_cnt o c.1 z).toNatClampNeg, c.2.2) := by rw [c_open, if_neg (by omega), if_neg (by rw [Int32.not_lt]; exact c_52)]
            exact W.zret (v := 1) (ty := .boolean) hx hb hr (by decide) (fun t9 ht9 hW9 => ⟨⟨1, ((c.1 + (1 + z), (c_cnt o c.1 z).toNatClampNeg, c.2.2.1, c.2.2.2) : CS), rfl, ⟨by rw [e_o]; rfl, by rw [e_o]⟩, by rw [ht9]; exact hP.sub [0, 1, 2, 3] rfl, va_K.moved hW9.alike hK, hD.sub [0, 1, 2, 3] (by decide) rfl⟩, hS.F ht9⟩) hS.2.2 d_Cu_openBlock_75
          · refine lv_iconst (v := 0) hx hb d_Cu_openBlock_55 (by decide) ?_
            have e_o : c_open o c z = (false, c) := by first | (rw [c_open, if_pos (by omega)]; done) | (rw [c_open, if_neg (by omega), if_pos (by rw [← Int32.not_le]; exact c_52)]; done)
            exact W.zret (v := 0) (ty := .boolean) hx hb hr (by decide) (fun t9 ht9 hW9 => ⟨⟨0, (c : CS), rfl, ⟨by rw [e_o]; rfl, by rw [e_o]⟩, by rw [ht9]; exact hP.sub [0, 1, 2, 3] rfl, va_K.moved hW9.alike hK, hD.sub [0, 1, 2, 3] (by decide) rfl⟩, hS.F ht9⟩) hS.2.2 d_Cu_openBlock_56
        · replace c_25 := mt (cg_lt z (i + 1) rfl rfl (by omega) (by omega)).mpr c_25
          refine lv_iload_n hx hb d_Cu_openBlock_28 rfl (lv_at hl 1 rfl) ?_
          refine lv_bipush (v := 8) hx hb d_Cu_openBlock_29 (by decide) ?_
          refine lv_ishl hx hb d_Cu_openBlock_31 ?_
          refine lv_aload_n hx hb d_Cu_openBlock_32 rfl (lv_at hl 3 rfl) ?_
          refine lv_aload_n hx hb d_Cu_openBlock_33 rfl (lv_at hl 2 rfl) ?_
          refine va_get (D := D) (ci := 0) (v := .int (nI c.1)) (C := R_Cu) (T := F_Cu) (N := 4) hx hb hW in_Cu hown hK hP 0 rfl rfl 0 (by decide) (hW _ mw_106) (fun _ h9 => h9) rfl d_Cu_openBlock_34 ?_
          refine lv_iload hx hb d_Cu_openBlock_37 (lv_at hl 0 rfl) ?_
          refine lv_iadd hx hb d_Cu_openBlock_39 ?_
          refine x_topi (y := nI (c.1 + (i + 1))) (nI_add _ _) ?_
          refine x_calli (D := D) (wc := [(qo, .inr (1, [.ref ql, .int (nI o.2.1), .ref qp, .int (nI o.2.2.2.1), .int (bI o.2.2.2.2)])), (ql, .inl (cI, 1507, .inl o.1)), (qp, .inl (cI, 1024, .inl o.2.2.1))]) (wr := [(qr, .inr (0, [.int (nI c.1), .int (nI c.2.1), .int c.2.2.1, .int (bI c.2.2.2)]))]) (va_runVN (C := R_Ou) (As := [.int (nI (c.1 + (i + 1)))]) (rest := [.int ((c_cnt o c.1 i) <<< (8 &&& 31))]) ⟨hx, hb, hml, hown, hW⟩ (k_Ou_logged l D g qo ql qp cI o (nI (c.1 + (i + 1))) ho H.size) (⟨va_cnB 1 hW (gW mw_187) rfl rfl rfl (gZ_nest hZ 23 rfl) (hW _ mw_51) (by decide +kernel) ⟨Nat.le_of_ble_eq_true rfl, Nat.le_of_ble_eq_true rfl⟩, hW _ mw_186, hW _ mw_3⟩) ⟨xPc_blind (gZ_ok g), va_recv hK hP (ci := 1) (q0 := 1) rfl rfl, x_pre (gZ_ok g) hP hK hD hS hA hZ [1, 2, 3] [0] rfl rfl rfl⟩ rfl rfl hl.1 rfl (lv_room (Nat.le_of_ble_eq_true rfl)) d_Cu_openBlock_40 ⟨Nat.le_of_ble_eq_true rfl, Nat.le_of_ble_eq_true rfl⟩) hP hD hS hA [1, 2, 3] [0] rfl rfl rfl (by decide) (fun r_40 u_40 H locs hw_40 hP hD hS => ?_)
          replace hw_40 := hw_40.symm
          subst hw_40
          have hP : va_P D vwCl [(qr, .inr (0, [.int (nI c.1), .int (nI c.2.1), .int c.2.2.1, .int (bI c.2.2.2)])), (qo, .inr (1, [.ref ql, .int (nI o.2.1), .ref qp, .int (nI o.2.2.2.1), .int (bI o.2.2.2.2)])), (ql, .inl (cI, 1507, .inl o.1)), (qp, .inl (cI, 1024, .inl o.2.2.1))] H := hP
          have hD : va_D A [(qr, .inr (0, [.int (nI c.1), .int (nI c.2.1), .int c.2.2.1, .int (bI c.2.2.2)])), (qo, .inr (1, [.ref ql, .int (nI o.2.1), .ref qp, .int (nI o.2.2.2.1), .int (bI o.2.2.2.2)])), (ql, .inl (cI, 1507, .inl o.1)), (qp, .inl (cI, 1024, .inl o.2.2.1))] := hD
          refine x_topi (y := o_at o (c.1 + (i + 1))) (o_atI_n (by omega) (by omega)) ?_
          refine lv_ior hx hb d_Cu_openBlock_43 ?_
          refine x_topi (y := c_cnt o c.1 (i + 1)) (rfl) ?_
          refine lv_istore_n (lv' := [(3, .int (c_cnt o c.1 (i + 1))), (4, .int (nI (i + 1))), (0, .ref qr), (1, .ref qo), (2, .int (nI z))]) hx hb d_Cu_openBlock_44 rfl hl (by decide) rfl (fun ls hl => ?_)
          refine lv_iinc (v := nI (i + 1 + 1)) (lv' := [(4, .int (nI (i + 1 + 1))), (3, .int (c_cnt o c.1 (i + 1))), (0, .ref qr), (1, .ref qo), (2, .int (nI z))]) hx hb d_Cu_openBlock_45 hl (k := 1) rfl (nI_1 _) (by decide) rfl (fun ls hl => ?_)
          refine lv_goto (tgt := 22) hx hb d_Cu_openBlock_48 (by decide) ?_
          exact ih (i + 1) (by omega) (by omega) H locs (hP.sub [0, 1, 2, 3] rfl) (hD.sub [0, 1, 2, 3] (by decide) rfl) hS ls (lv_sub hl [0, 1, 2, 3, 4] rfl)
    exact hlp_22 _ 0 (Nat.zero_le _) (Nat.lt_succ_self _) s.heap [] (hP.sub [0, 1, 2, 3] rfl) (hD.sub [0, 1, 2, 3] (by decide) rfl) hS ls (lv_sub hl [0, 1, 2, 3, 4] rfl)
  · replace c_12 := mt (op_ge (by omega) (by omega)).mpr c_12
    refine lv_iconst (v := 0) hx hb d_Cu_openBlock_15 (by decide) ?_
    have e_o : c_open o c z = (false, c) := by first | (rw [c_open, if_pos (by omega)]; done) | (rw [c_open, if_neg (by omega), if_pos (by rw [← Int32.not_le]; exact c_52)]; done)
    exact W.zret (v := 0) (ty := .boolean) hx hb hr (by decide) (fun t9 ht9 hW9 => ⟨⟨0, (c : CS), rfl, ⟨by rw [e_o]; rfl, by rw [e_o]⟩, by rw [ht9]; exact hP.sub [0, 1, 2, 3] rfl, va_K.moved hW9.alike hK, hD.sub [0, 1, 2, 3] (by decide) rfl⟩, hS.F ht9⟩) hS.2.2 d_Cu_openBlock_16
set_option maxHeartbeats 4000000 in
set_option maxRecDepth 100000 in
theorem k_Cu_findBlock (l : Launch) (D : va_G) (g : GP) (qr : Nat) (c : CS) (qo ql qp : Nat) (cI : ClassId) (o : OS) (ho : o_ok o) (hc : c_ok o c) (sz : Nat) : Met l y_Cu_findBlock (.code y_Cu_findBlock c_Cu_findBlock 4 (some .int) :: xW) ({ frames := 2, cells := 0, slots := 0, locals := 45 }) (xPc (gZ g) D vwCl [.ref qr, .ref qo] [(qr, .inr (0, [.int (nI c.1), .int (nI c.2.1), .int c.2.2.1, .int (bI c.2.2.2)])), (qo, .inr (1, [.ref ql, .int (nI o.2.1), .ref qp, .int (nI o.2.2.2.1), .int (bI o.2.2.2.2)])), (ql, .inl (cI, 1507, .inl o.1)), (qp, .inl (cI, 1024, .inl o.2.2.1))] [(cI, .int)] sz) (va_Qi (fun (r : Int32) (u : CS) => r = (c_find o (o.2.1 - c.1) c).1 ∧ u = (c_find o (o.2.1 - c.1) c).2) (xB D vwCl [(cI, .int)] (fun u : CS => [(qr, .inr (0, [.int (nI u.1), .int (nI u.2.1), .int u.2.2.1, .int (bI u.2.2.2)])), (qo, .inr (1, [.ref ql, .int (nI o.2.1), .ref qp, .int (nI o.2.2.2.1), .int (bI o.2.2.2.2)])), (ql, .inl (cI, 1507, .inl o.1)), (qp, .inl (cI, 1024, .inl o.2.2.1))]) (va_A [(qr, .inr (0, [.int (nI c.1), .int (nI c.2.1), .int c.2.2.1, .int (bI c.2.2.2)])), (qo, .inr (1, [.ref ql, .int (nI o.2.1), .ref qp, .int (nI o.2.2.2.1), .int (bI o.2.2.2.2)])), (ql, .inl (cI, 1507, .inl o.1)), (qp, .inl (cI, 1024, .inl o.2.2.1))] sz)) (va_A [(qr, .inr (0, [.int (nI c.1), .int (nI c.2.1), .int c.2.2.1, .int (bI c.2.2.2)])), (qo, .inr (1, [.ref ql, .int (nI o.2.1), .ref qp, .int (nI o.2.2.2.1), .int (bI o.2.2.2.2)])), (ql, .inl (cI, 1507, .inl o.1)), (qp, .inl (cI, 1024, .inl o.2.2.1))] sz)) 0 0 (va_A [(qr, .inr (0, [.int (nI c.1), .int (nI c.2.1), .int c.2.2.1, .int (bI c.2.2.2)])), (qo, .inr (1, [.ref ql, .int (nI o.2.1), .ref qp, .int (nI o.2.2.2.1), .int (bI o.2.2.2.2)])), (ql, .inl (cI, 1507, .inl o.1)), (qp, .inl (cI, 1024, .inl o.2.2.1))] sz) := by
  refine x_open (Qc := fun A => va_Qi (fun (r : Int32) (u : CS) => r = (c_find o (o.2.1 - c.1) c).1 ∧ u = (c_find o (o.2.1 - c.1) c).2) (xB D vwCl [(cI, .int)] (fun u : CS => [(qr, .inr (0, [.int (nI u.1), .int (nI u.2.1), .int u.2.2.1, .int (bI u.2.2.2)])), (qo, .inr (1, [.ref ql, .int (nI o.2.1), .ref qp, .int (nI o.2.2.2.1), .int (bI o.2.2.2.2)])), (ql, .inl (cI, 1507, .inl o.1)), (qp, .inl (cI, 1024, .inl o.2.2.1))]) A) A) (cc := c_Cu_findBlock) (maxL := 4) (ret := (some .int)) (own := R_Cu) (by decide) rfl rfl (Nat.le_of_ble_eq_true rfl) ?_
  intro p e s m below meth cd A ls hsz hAe hx hb hr hml hown hts hlk hnm hA hP hK hD hS hZ hl
  clear hsz hAe
  have hW : ∀ w ∈ xW, w.before _ s = true := fun w h => hts w (List.mem_cons_of_mem _ h)
  have hl : lv_has ls 4 [(0, .ref qr), (1, .ref qo)] := hl
  obtain ⟨ho1, ho2⟩ := id ho
  obtain ⟨hc1, hc2⟩ := id hc
  refine lv_aload_n hx hb d_Cu_findBlock_0 rfl (lv_at hl 1 rfl) ?_
  refine va_getN (D := D) (ci := 1) (v := .int (nI o.2.1)) (C := R_Ou) (T := F_Ou) (N := 5) hx hb hW in_Ou hown hK hP 1 rfl rfl 1 (by decide) (gZ_link hZ 2 rfl) (fun _ h9 => h9) rfl d_Cu_findBlock_1 ?_
  refine lv_aload_n hx hb d_Cu_findBlock_4 rfl (lv_at hl 0 rfl) ?_
  refine va_get (D := D) (ci := 0) (v := .int (nI c.1)) (C := R_Cu) (T := F_Cu) (N := 4) hx hb hW in_Cu hown hK hP 0 rfl rfl 0 (by decide) (hW _ mw_106) (fun _ h9 => h9) rfl d_Cu_findBlock_5 ?_
  refine lv_isub hx hb d_Cu_findBlock_8 ?_
  refine x_topi (y := nI (o.2.1 - c.1)) (pk_sub hc1) ?_
  refine lv_istore_n (lv' := [(2, .int (nI (o.2.1 - c.1))), (0, .ref qr), (1, .ref qo)]) hx hb d_Cu_findBlock_9 rfl hl (by decide) rfl (fun ls hl => ?_)
  have hlp_10 : ∀ (n : Nat) (t : Nat) (d : CS), (t ≤ 1507) → (c_ok o d) → (c_find o t d = c_find o (o.2.1 - c.1) c) → t < n → ∀ (H : Heap) (locs : List Loc), va_P D vwCl [(qr, .inr (0, [.int (nI d.1), .int (nI d.2.1), .int d.2.2.1, .int (bI d.2.2.2)])), (qo, .inr (1, [.ref ql, .int (nI o.2.1), .ref qp, .int (nI o.2.2.2.1), .int (bI o.2.2.2.2)])), (ql, .inl (cI, 1507, .inl o.1)), (qp, .inl (cI, 1024, .inl o.2.2.1))] H → va_D A [(qr, .inr (0, [.int (nI d.1), .int (nI d.2.1), .int d.2.2.1, .int (bI d.2.2.2)])), (qo, .inr (1, [.ref ql, .int (nI o.2.1), .ref qp, .int (nI o.2.2.2.1), .int (bI o.2.2.2.2)])), (ql, .inl (cI, 1507, .inl o.1)), (qp, .inl (cI, 1024, .inl o.2.2.1))] → va_S A s.heap H locs → ∀ (ls : Array Slot), lv_has ls 4 [(2, .int (nI t)), (0, .ref qr), (1, .ref qo)] → W p l e ({ frames := 2, cells := 0, slots := 0, locals := 45 }) s m [.ref qr, .ref qo].toArray below meth cd H locs 0 0 (MQ below ((fun A => va_Qi (fun (r : Int32) (u : CS) => r = (c_find o (o.2.1 - c.1) c).1 ∧ u = (c_find o (o.2.1 - c.1) c).2) (xB D vwCl [(cI, .int)] (fun u : CS => [(qr, .inr (0, [.int (nI u.1), .int (nI u.2.1), .int u.2.2.1, .int (bI u.2.2.2)])), (qo, .inr (1, [.ref ql, .int (nI o.2.1), .ref qp, .int (nI o.2.2.2.1), .int (bI o.2.2.2.2)])), (ql, .inl (cI, 1507, .inl o.1)), (qp, .inl (cI, 1024, .inl o.2.2.1))]) A) A) A) [.ref qr, .ref qo].toArray s 0 0 A) (F0 m 10 ls []) := by
    intro n
    induction n with
    | zero => intro t d ht hd he hms; exact absurd hms (Nat.not_lt_zero _)
    | succ n ih =>
      intro t d ht hd he hms H locs hP hD hS ls hl
      obtain ⟨hd1, hd2⟩ := id hd
      refine lv_iload_n hx hb d_Cu_findBlock_10 rfl (lv_at hl 0 rfl) ?_
      refine lv_if_le (tgt := 104) hx hb d_Cu_findBlock_11 (by decide) (fun c_11 => ?_) (fun c_11 => ?_)
      · replace c_11 := (cg_le t 0 rfl rfl (by omega) (by omega)).mp c_11
        refine lv_aload_n hx hb d_Cu_findBlock_104 rfl (lv_at hl 1 rfl) ?_
        refine va_get (D := D) (ci := 0) (v := .int (nI d.2.1)) (C := R_Cu) (T := F_Cu) (N := 4) hx hb hW in_Cu hown hK hP 0 rfl rfl 1 (by decide) (hW _ mw_108) (fun _ h9 => h9) rfl d_Cu_findBlock_105 ?_
        refine lv_if_ne (tgt := 115) hx hb d_Cu_findBlock_108 (by decide) (fun c_108 => ?_) (fun c_108 => ?_)
        · replace c_108 := mt (cg_eq d.2.1 0 rfl rfl (by omega) (by omega)).mpr c_108
          refine lv_iconst (v := 0) hx hb d_Cu_findBlock_115 (by decide) ?_
          exact W.iret (v := 0) hx hb hr (fun t9 ht9 hW9 => ⟨⟨0, (d : CS), rfl, by rw [← he, c_find_0 (by first | exact Or.inl c_11 | exact Or.inr c_18), if_neg c_108]; exact ⟨rfl, rfl⟩, by rw [ht9]; exact hP.sub [0, 1, 2, 3] rfl, va_K.moved hW9.alike hK, hD.sub [0, 1, 2, 3] (by decide) rfl⟩, hS.F ht9⟩) hS.2.2 d_Cu_findBlock_116
        · replace c_108 := (cg_eq d.2.1 0 rfl rfl (by omega) (by omega)).mp c_108
          refine lv_iconst (v := -1) hx hb d_Cu_findBlock_111 (by decide) ?_
          refine lv_goto (tgt := 116) hx hb d_Cu_findBlock_112 (by decide) ?_
          exact W.iret (v := -1) hx hb hr (fun t9 ht9 hW9 => ⟨⟨-1, (d : CS), rfl, by rw [← he, c_find_0 (by first | exact Or.inl c_11 | exact Or.inr c_18), if_pos c_108]; exact ⟨rfl, rfl⟩, by rw [ht9]; exact hP.sub [0, 1, 2, 3] rfl, va_K.moved hW9.alike hK, hD.sub [0, 1, 2, 3] (by decide) rfl⟩, hS.F ht9⟩) hS.2.2 d_Cu_findBlock_116
      · replace c_11 := mt (cg_le t 0 rfl rfl (by omega) (by omega)).mpr c_11
        refine lv_aload_n hx hb d_Cu_findBlock_14 rfl (lv_at hl 1 rfl) ?_
        refine va_get (D := D) (ci := 0) (v := .int (nI d.2.1)) (C := R_Cu) (T := F_Cu) (N := 4) hx hb hW in_Cu hown hK hP 0 rfl rfl 1 (by decide) (hW _ mw_108) (fun _ h9 => h9) rfl d_Cu_findBlock_15 ?_
        refine lv_if_ne (tgt := 104) hx hb d_Cu_findBlock_18 (by decide) (fun c_18 => ?_) (fun c_18 => ?_)
        · replace c_18 := mt (cg_eq d.2.1 0 rfl rfl (by omega) (by omega)).mpr c_18
          refine lv_aload_n hx hb d_Cu_findBlock_104 rfl (lv_at hl 1 rfl) ?_
          refine va_get (D := D) (ci := 0) (v := .int (nI d.2.1)) (C := R_Cu) (T := F_Cu) (N := 4) hx hb hW in_Cu hown hK hP 0 rfl rfl 1 (by decide) (hW _ mw_108) (fun _ h9 => h9) rfl d_Cu_findBlock_105 ?_
          refine lv_if_ne (tgt := 115) hx hb d_Cu_findBlock_108 (by decide) (fun c_108 => ?_) (fun c_108 => ?_)
          · replace c_108 := mt (cg_eq d.2.1 0 rfl rfl (by omega) (by omega)).mpr c_108
            refine lv_iconst (v := 0) hx hb d_Cu_findBlock_115 (by decide) ?_
            exact W.iret (v := 0) hx hb hr (fun t9 ht9 hW9 => ⟨⟨0, (d : CS), rfl, by rw [← he, c_find_0 (by first | exact Or.inl c_11 | exact Or.inr c_18), if_neg c_108]; exact ⟨rfl, rfl⟩, by rw [ht9]; exact hP.sub [0, 1, 2, 3] rfl, va_K.moved hW9.alike hK, hD.sub [0, 1, 2, 3] (by decide) rfl⟩, hS.F ht9⟩) hS.2.2 d_Cu_findBlock_116
          · replace c_108 := (cg_eq d.2.1 0 rfl rfl (by omega) (by omega)).mp c_108
            refine lv_iconst (v := -1) hx hb d_Cu_findBlock_111 (by decide) ?_
            refine lv_goto (tgt := 116) hx hb d_Cu_findBlock_112 (by decide) ?_
            exact W.iret (v := -1) hx hb hr (fun t9 ht9 hW9 => ⟨⟨-1, (d : CS), rfl, by rw [← he, c_find_0 (by first | exact Or.inl c_11 | exact Or.inr c_18), if_pos c_108]; exact ⟨rfl, rfl⟩, by rw [ht9]; exact hP.sub [0, 1, 2, 3] rfl, va_K.moved hW9.alike hK, hD.sub [0, 1, 2, 3] (by decide) rfl⟩, hS.F ht9⟩) hS.2.2 d_Cu_findBlock_116
        · replace c_18 := (cg_eq d.2.1 0 rfl rfl (by omega) (by omega)).mp c_18
          refine lv_aload_n hx hb d_Cu_findBlock_21 rfl (lv_at hl 2 rfl) ?_
          refine lv_aload_n hx hb d_Cu_findBlock_22 rfl (lv_at hl 1 rfl) ?_
          refine va_get (D := D) (ci := 0) (v := .int (nI d.1)) (C := R_Cu) (T := F_Cu) (N := 4) hx hb hW in_Cu hown hK hP 0 rfl rfl 0 (by decide) (hW _ mw_106) (fun _ h9 => h9) rfl d_Cu_findBlock_23 ?_
          refine x_calli (D := D) (wc := [(qo, .inr (1, [.ref ql, .int (nI o.2.1), .ref qp, .int (nI o.2.2.2.1), .int (bI o.2.2.2.2)])), (ql, .inl (cI, 1507, .inl o.1)), (qp, .inl (cI, 1024, .inl o.2.2.1))]) (wr := [(qr, .inr (0, [.int (nI d.1), .int (nI d.2.1), .int d.2.2.1, .int (bI d.2.2.2)]))]) (va_runVN (C := R_Ou) (As := [.int (nI d.1)]) (rest := []) ⟨hx, hb, hml, hown, hW⟩ (k_Ou_logged l D g qo ql qp cI o (nI d.1) ho H.size) (⟨va_cnB 1 hW (gW mw_187) rfl rfl rfl (gZ_nest hZ 23 rfl) (hW _ mw_51) (by decide +kernel) ⟨Nat.le_of_ble_eq_true rfl, Nat.le_of_ble_eq_true rfl⟩, hW _ mw_186, hW _ mw_3⟩) ⟨xPc_blind (gZ_ok g), va_recv hK hP (ci := 1) (q0 := 1) rfl rfl, x_pre (gZ_ok g) hP hK hD hS hA hZ [1, 2, 3] [0] rfl rfl rfl⟩ rfl rfl hl.1 rfl (lv_room (Nat.le_of_ble_eq_true rfl)) d_Cu_findBlock_26 ⟨Nat.le_of_ble_eq_true rfl, Nat.le_of_ble_eq_true rfl⟩) hP hD hS hA [1, 2, 3] [0] rfl rfl rfl (by decide) (fun r_26 u_26 H locs hw_26 hP hD hS => ?_)
          replace hw_26 := hw_26.symm
          subst hw_26
          have hP : va_P D vwCl [(qr, .inr (0, [.int (nI d.1), .int (nI d.2.1), .int d.2.2.1, .int (bI d.2.2.2)])), (qo, .inr (1, [.ref ql, .int (nI o.2.1), .ref qp, .int (nI o.2.2.2.1), .int (bI o.2.2.2.2)])), (ql, .inl (cI, 1507, .inl o.1)), (qp, .inl (cI, 1024, .inl o.2.2.1))] H := hP
          have hD : va_D A [(qr, .inr (0, [.int (nI d.1), .int (nI d.2.1), .int d.2.2.1, .int (bI d.2.2.2)])), (qo, .inr (1, [.ref ql, .int (nI o.2.1), .ref qp, .int (nI o.2.2.2.1), .int (bI o.2.2.2.2)])), (ql, .inl (cI, 1507, .inl o.1)), (qp, .inl (cI, 1024, .inl o.2.2.1))] := hD
          refine x_topi (y := o_at o d.1) (o_atI_n (by omega) (by omega)) ?_
          refine lv_istore_n (lv' := [(3, .int (o_at o d.1)), (2, .int (nI t)), (0, .ref qr), (1, .ref qo)]) hx hb d_Cu_findBlock_29 rfl hl (by decide) rfl (fun ls hl => ?_)
          refine lv_iload_n hx hb d_Cu_findBlock_30 rfl (lv_at hl 0 rfl) ?_
          refine lv_bipush (v := 121) hx hb d_Cu_findBlock_31 (by decide) ?_
          refine lv_icmp_ne (tgt := 59) hx hb d_Cu_findBlock_33 (by decide) (fun c_33 => ?_) (fun c_33 => ?_)
          · refine lv_iload_n hx hb d_Cu_findBlock_59 rfl (lv_at hl 0 rfl) ?_
            refine lv_bipush (v := 119) hx hb d_Cu_findBlock_60 (by decide) ?_
            refine lv_icmp_eq (tgt := 71) hx hb d_Cu_findBlock_62 (by decide) (fun c_62 => ?_) (fun c_62 => ?_)
            · refine lv_aload_n hx hb d_Cu_findBlock_71 rfl (lv_at hl 2 rfl) ?_
              refine lv_aload_n hx hb d_Cu_findBlock_72 rfl (lv_at hl 3 rfl) ?_
              refine lv_iload_n hx hb d_Cu_findBlock_73 rfl (lv_at hl 0 rfl) ?_
              refine lv_bipush (v := 119) hx hb d_Cu_findBlock_74 (by decide) ?_
              refine lv_icmp_ne (tgt := 83) hx hb d_Cu_findBlock_76 (by decide) (fun c_76 => ?_) (fun c_76 => ?_)
              · exact absurd c_62 c_76
              · refine lv_iconst (v := 1) hx hb d_Cu_findBlock_79 (by decide) ?_
                refine lv_goto (tgt := 84) hx hb d_Cu_findBlock_80 (by decide) ?_
                refine x_calli (D := D) (wc := [(qr, .inr (0, [.int (nI d.1), .int (nI d.2.1), .int d.2.2.1, .int (bI d.2.2.2)])), (qo, .inr (1, [.ref ql, .int (nI o.2.1), .ref qp, .int (nI o.2.2.2.1), .int (bI o.2.2.2.2)])), (ql, .inl (cI, 1507, .inl o.1)), (qp, .inl (cI, 1024, .inl o.2.2.1))]) (wr := []) (va_runV (C := R_Cu) (As := [.ref qo, .int (nI 1)]) (rest := []) ⟨hx, hb, hml, hown, hW⟩ (k_Cu_openBlock l D g qr d qo ql qp cI o 1 ho hd (by omega) H.size) (cwV 2 hW (gWV mw_433 mw_435 mw_21 mw_52 mw_436) rfl rfl rfl (by decide +kernel) ⟨Nat.le_of_ble_eq_true rfl, Nat.le_of_ble_eq_true rfl⟩) ⟨xPc_blind (gZ_ok g), va_recv hK hP (ci := 0) (q0 := 0) rfl rfl, x_pre (gZ_ok g) hP hK hD hS hA hZ [0, 1, 2, 3] [0] rfl rfl rfl⟩ rfl rfl hl.1 rfl (lv_room (Nat.le_of_ble_eq_true rfl)) d_Cu_findBlock_84 ⟨Nat.le_of_ble_eq_true rfl, Nat.le_of_ble_eq_true rfl⟩) hP hD hS hA [0, 1, 2, 3] [] rfl rfl rfl (by decide) (fun r_84 u_84 H locs hw_84 hP hD hS => ?_)
                obtain ⟨hw1_, hw2_⟩ := hw_84
                replace hw1_ := hw1_.symm
                replace hw2_ := hw2_.symm
                subst hw1_
                subst hw2_
                have hP : va_P D vwCl [(qr, .inr (0, [.int (nI (c_open o d 1).2.1), .int (nI (c_open o d 1).2.2.1), .int (c_open o d 1).2.2.2.1, .int (bI (c_open o d 1).2.2.2.2)])), (qo, .inr (1, [.ref ql, .int (nI o.2.1), .ref qp, .int (nI o.2.2.2.1), .int (bI o.2.2.2.2)])), (ql, .inl (cI, 1507, .inl o.1)), (qp, .inl (cI, 1024, .inl o.2.2.1))] H := hP
                have hD : va_D A [(qr, .inr (0, [.int (nI (c_open o d 1).2.1), .int (nI (c_open o d 1).2.2.1), .int (c_open o d 1).2.2.2.1, .int (bI (c_open o d 1).2.2.2.2)])), (qo, .inr (1, [.ref ql, .int (nI o.2.1), .ref qp, .int (nI o.2.2.2.1), .int (bI o.2.2.2.2)])), (ql, .inl (cI, 1507, .inl o.1)), (qp, .inl (cI, 1024, .inl o.2.2.1))] := hD
                refine lv_if_ne (tgt := 98) hx hb d_Cu_findBlock_87 (by decide) (fun c_87 => ?_) (fun c_87 => ?_)
                · rw [bI_n0] at c_87
                  refine lv_iinc (v := nI (t - 1)) (lv' := [(2, .int (nI (t - 1))), (3, .int (o_at o d.1)), (0, .ref qr), (1, .ref qo)]) hx hb d_Cu_findBlock_98 hl (k := 1) rfl (sb_m1 (by omega)) (by decide) rfl (fun ls hl => ?_)
                  refine lv_goto (tgt := 10) hx hb d_Cu_findBlock_101 (by decide) ?_
                  exact ih (t - 1) (c_open o d 1).2 (by omega) (c_open_ok hd) (by rw [← he, c_find_b c_11 c_18 c_33 (Or.inl ⟨c_62, rfl⟩), if_pos c_87]) (by omega) H locs (hP.sub [0, 1, 2, 3] rfl) (hD.sub [0, 1, 2, 3] (by decide) rfl) hS ls (lv_sub hl [0, 2, 3] rfl)
                · rw [bI_0] at c_87
                  refine lv_bipush (v := -2) hx hb d_Cu_findBlock_90 (by decide) ?_
                  exact W.iret (v := -2) hx hb hr (fun t9 ht9 hW9 => ⟨⟨-2, ((c_open o d 1).2 : CS), rfl, by rw [← he, c_find_b c_11 c_18 c_33 (Or.inl ⟨c_62, rfl⟩), if_neg (by rw [c_87]; decide), c_open_f c_87]; exact ⟨rfl, rfl⟩, by rw [ht9]; exact hP.sub [0, 1, 2, 3] rfl, va_K.moved hW9.alike hK, hD.sub [0, 1, 2, 3] (by decide) rfl⟩, hS.F ht9⟩) hS.2.2 d_Cu_findBlock_92
            · refine lv_iload_n hx hb d_Cu_findBlock_65 rfl (lv_at hl 0 rfl) ?_
              refine lv_bipush (v := 122) hx hb d_Cu_findBlock_66 (by decide) ?_
              refine lv_icmp_ne (tgt := 93) hx hb d_Cu_findBlock_68 (by decide) (fun c_68 => ?_) (fun c_68 => ?_)
              · refine lv_iload_n hx hb d_Cu_findBlock_93 rfl (lv_at hl 0 rfl) ?_
                refine x_calli (D := D) (wc := []) (wr := [(qr, .inr (0, [.int (nI d.1), .int (nI d.2.1), .int d.2.2.1, .int (bI d.2.2.2)])), (qo, .inr (1, [.ref ql, .int (nI o.2.1), .ref qp, .int (nI o.2.2.2.1), .int (bI o.2.2.2.2)])), (ql, .inl (cI, 1507, .inl o.1)), (qp, .inl (cI, 1024, .inl o.2.2.1))]) (va_runS (As := [.int (o_at o d.1)]) (rest := []) ⟨hx, hb, hml, hown, hW⟩ (k_Cu_endAt l D g (o_at o d.1)  H.size) (cwS 1 hW (gWS mw_437 mw_438 mw_52 mw_439) rfl rfl rfl (by decide +kernel) ⟨Nat.le_of_ble_eq_true rfl, Nat.le_of_ble_eq_true rfl⟩) ⟨xPc_blind (gZ_ok g), x_pre (gZ_ok g) hP hK hD hS hA hZ [] [] rfl rfl rfl⟩ rfl rfl hl.1 rfl (lv_room (Nat.le_of_ble_eq_true rfl)) d_Cu_findBlock_94 ⟨Nat.le_of_ble_eq_true rfl, Nat.le_of_ble_eq_true rfl⟩) hP hD hS hA [] [0, 1, 2, 3] rfl rfl rfl (by decide) (fun r_94 u_94 H locs hw_94 hP hD hS => ?_)
                replace hw_94 := hw_94.symm
                subst hw_94
                have hP : va_P D vwCl [(qr, .inr (0, [.int (nI d.1), .int (nI d.2.1), .int d.2.2.1, .int (bI d.2.2.2)])), (qo, .inr (1, [.ref ql, .int (nI o.2.1), .ref qp, .int (nI o.2.2.2.1), .int (bI o.2.2.2.2)])), (ql, .inl (cI, 1507, .inl o.1)), (qp, .inl (cI, 1024, .inl o.2.2.1))] H := hP
                have hD : va_D A [(qr, .inr (0, [.int (nI d.1), .int (nI d.2.1), .int d.2.2.1, .int (bI d.2.2.2)])), (qo, .inr (1, [.ref ql, .int (nI o.2.1), .ref qp, .int (nI o.2.2.2.1), .int (bI o.2.2.2.2)])), (ql, .inl (cI, 1507, .inl o.1)), (qp, .inl (cI, 1024, .inl o.2.2.1))] := hD
                exact W.iret (v := c_end (o_at o d.1)) hx hb hr (fun t9 ht9 hW9 => ⟨⟨c_end (o_at o d.1), (d : CS), rfl, by rw [← he, c_find_e c_11 c_18 c_33 c_62 c_68]; exact ⟨rfl, rfl⟩, by rw [ht9]; exact hP.sub [0, 1, 2, 3] rfl, va_K.moved hW9.alike hK, hD.sub [0, 1, 2, 3] (by decide) rfl⟩, hS.F ht9⟩) hS.2.2 d_Cu_findBlock_97
              · refine lv_aload_n hx hb d_Cu_findBlock_71 rfl (lv_at hl 2 rfl) ?_
                refine lv_aload_n hx hb d_Cu_findBlock_72 rfl (lv_at hl 3 rfl) ?_
                refine lv_iload_n hx hb d_Cu_findBlock_73 rfl (lv_at hl 0 rfl) ?_
                refine lv_bipush (v := 119) hx hb d_Cu_findBlock_74 (by decide) ?_
                refine lv_icmp_ne (tgt := 83) hx hb d_Cu_findBlock_76 (by decide) (fun c_76 => ?_) (fun c_76 => ?_)
                · refine lv_iconst (v := 4) hx hb d_Cu_findBlock_83 (by decide) ?_
                  refine x_calli (D := D) (wc := [(qr, .inr (0, [.int (nI d.1), .int (nI d.2.1), .int d.2.2.1, .int (bI d.2.2.2)])), (qo, .inr (1, [.ref ql, .int (nI o.2.1), .ref qp, .int (nI o.2.2.2.1), .int (bI o.2.2.2.2)])), (ql, .inl (cI, 1507, .inl o.1)), (qp, .inl (cI, 1024, .inl o.2.2.1))]) (wr := []) (va_runV (C := R_Cu) (As := [.ref qo, .int (nI 4)]) (rest := []) ⟨hx, hb, hml, hown, hW⟩ (k_Cu_openBlock l D g qr d qo ql qp cI o 4 ho hd (by omega) H.size) (cwV 2 hW (gWV mw_433 mw_435 mw_21 mw_52 mw_436) rfl rfl rfl (by decide +kernel) ⟨Nat.le_of_ble_eq_true rfl, Nat.le_of_ble_eq_true rfl⟩) ⟨xPc_blind (gZ_ok g), va_recv hK hP (ci := 0) (q0 := 0) rfl rfl, x_pre (gZ_ok g) hP hK hD hS hA hZ [0, 1, 2, 3] [0] rfl rfl rfl⟩ rfl rfl hl.1 rfl (lv_room (Nat.le_of_ble_eq_true rfl)) d_Cu_findBlock_84 ⟨Nat.le_of_ble_eq_true rfl, Nat.le_of_ble_eq_true rfl⟩) hP hD hS hA [0, 1, 2, 3] [] rfl rfl rfl (by decide) (fun r_84 u_84 H locs hw_84 hP hD hS => ?_)
                  obtain ⟨hw1_, hw2_⟩ := hw_84
                  replace hw1_ := hw1_.symm
                  replace hw2_ := hw2_.symm
                  subst hw1_
                  subst hw2_
                  have hP : va_P D vwCl [(qr, .inr (0, [.int (nI (c_open o d 4).2.1), .int (nI (c_open o d 4).2.2.1), .int (c_open o d 4).2.2.2.1, .int (bI (c_open o d 4).2.2.2.2)])), (qo, .inr (1, [.ref ql, .int (nI o.2.1), .ref qp, .int (nI o.2.2.2.1), .int (bI o.2.2.2.2)])), (ql, .inl (cI, 1507, .inl o.1)), (qp, .inl (cI, 1024, .inl o.2.2.1))] H := hP
                  have hD : va_D A [(qr, .inr (0, [.int (nI (c_open o d 4).2.1), .int (nI (c_open o d 4).2.2.1), .int (c_open o d 4).2.2.2.1, .int (bI (c_open o d 4).2.2.2.2)])), (qo, .inr (1, [.ref ql, .int (nI o.2.1), .ref qp, .int (nI o.2.2.2.1), .int (bI o.2.2.2.2)])), (ql, .inl (cI, 1507, .inl o.1)), (qp, .inl (cI, 1024, .inl o.2.2.1))] := hD
                  refine lv_if_ne (tgt := 98) hx hb d_Cu_findBlock_87 (by decide) (fun c_87 => ?_) (fun c_87 => ?_)
                  · rw [bI_n0] at c_87
                    refine lv_iinc (v := nI (t - 1)) (lv' := [(2, .int (nI (t - 1))), (3, .int (o_at o d.1)), (0, .ref qr), (1, .ref qo)]) hx hb d_Cu_findBlock_98 hl (k := 1) rfl (sb_m1 (by omega)) (by decide) rfl (fun ls hl => ?_)
                    refine lv_goto (tgt := 10) hx hb d_Cu_findBlock_101 (by decide) ?_
                    exact ih (t - 1) (c_open o d 4).2 (by omega) (c_open_ok hd) (by rw [← he, c_find_b c_11 c_18 c_33 (Or.inr ⟨c_62, c_68, rfl⟩), if_pos c_87]) (by omega) H locs (hP.sub [0, 1, 2, 3] rfl) (hD.sub [0, 1, 2, 3] (by decide) rfl) hS ls (lv_sub hl [0, 2, 3] rfl)
                  · rw [bI_0] at c_87
                    refine lv_bipush (v := -2) hx hb d_Cu_findBlock_90 (by decide) ?_
                    exact W.iret (v := -2) hx hb hr (fun t9 ht9 hW9 => ⟨⟨-2, ((c_open o d 4).2 : CS), rfl, by rw [← he, c_find_b c_11 c_18 c_33 (Or.inr ⟨c_62, c_68, rfl⟩), if_neg (by rw [c_87]; decide), c_open_f c_87]; exact ⟨rfl, rfl⟩, by rw [ht9]; exact hP.sub [0, 1, 2, 3] rfl, va_K.moved hW9.alike hK, hD.sub [0, 1, 2, 3] (by decide) rfl⟩, hS.F ht9⟩) hS.2.2 d_Cu_findBlock_92
                · exact absurd c_76 c_62
          · refine lv_aload_n hx hb d_Cu_findBlock_36 rfl (lv_at hl 2 rfl) ?_
            refine lv_dup hx hb d_Cu_findBlock_37 rfl ?_
            refine va_get (D := D) (ci := 0) (v := .int (nI d.1)) (C := R_Cu) (T := F_Cu) (N := 4) hx hb hW in_Cu hown hK hP 0 rfl rfl 0 (by decide) (hW _ mw_106) (fun _ h9 => h9) rfl d_Cu_findBlock_38 ?_
            refine lv_iconst (v := 1) hx hb d_Cu_findBlock_41 (by decide) ?_
            refine lv_iadd hx hb d_Cu_findBlock_42 ?_
            refine x_topi (y := nI (d.1 + 1)) (nI_1 _) ?_
            refine va_put (D := D) (ci := 0) (v := .int (nI (d.1 + 1))) (ty := .int) (C := R_Cu) (T := F_Cu) (N := 4) hx hb hW in_Cu t_Cu t_Cu_ok nm_Cu hown hK hP hD hS 0 rfl rfl 0 (by decide) (hW _ mw_106) (fun _ h9 => h9) rfl (by decide +kernel) (rfl) (rfl) (Nat.le_of_ble_eq_true rfl) d_Cu_findBlock_43 (fun H locs hP hD hS => ?_)
            have hP : va_P D vwCl [(qr, .inr (0, [.int (nI (d.1 + 1)), .int (nI d.2.1), .int d.2.2.1, .int (bI d.2.2.2)])), (qo, .inr (1, [.ref ql, .int (nI o.2.1), .ref qp, .int (nI o.2.2.2.1), .int (bI o.2.2.2.2)])), (ql, .inl (cI, 1507, .inl o.1)), (qp, .inl (cI, 1024, .inl o.2.2.1))] H := hP
            have hD : va_D A [(qr, .inr (0, [.int (nI (d.1 + 1)), .int (nI d.2.1), .int d.2.2.1, .int (bI d.2.2.2)])), (qo, .inr (1, [.ref ql, .int (nI o.2.1), .ref qp, .int (nI o.2.2.2.1), .int (bI o.2.2.2.2)])), (ql, .inl (cI, 1507, .inl o.1)), (qp, .inl (cI, 1024, .inl o.2.2.1))] := hD
            refine lv_aload_n hx hb d_Cu_findBlock_46 rfl (lv_at hl 2 rfl) ?_
            refine lv_dup hx hb d_Cu_findBlock_47 rfl ?_
            refine va_get (D := D) (ci := 0) (v := .int d.2.2.1) (C := R_Cu) (T := F_Cu) (N := 4) hx hb hW in_Cu hown hK hP 0 rfl rfl 2 (by decide) (hW _ mw_110) (fun _ h9 => h9) rfl d_Cu_findBlock_48 ?_
            refine lv_iconst (v := 1) hx hb d_Cu_findBlock_51 (by decide) ?_
            refine lv_iadd hx hb d_Cu_findBlock_52 ?_
            refine va_put (D := D) (ci := 0) (v := .int (d.2.2.1 + 1)) (ty := .int) (C := R_Cu) (T := F_Cu) (N := 4) hx hb hW in_Cu t_Cu t_Cu_ok nm_Cu hown hK hP hD hS 0 rfl rfl 2 (by decide) (hW _ mw_110) (fun _ h9 => h9) rfl (by decide +kernel) (rfl) (rfl) (Nat.le_of_ble_eq_true rfl) d_Cu_findBlock_53 (fun H locs hP hD hS => ?_)
            have hP : va_P D vwCl [(qr, .inr (0, [.int (nI (d.1 + 1)), .int (nI d.2.1), .int (d.2.2.1 + 1), .int (bI d.2.2.2)])), (qo, .inr (1, [.ref ql, .int (nI o.2.1), .ref qp, .int (nI o.2.2.2.1), .int (bI o.2.2.2.2)])), (ql, .inl (cI, 1507, .inl o.1)), (qp, .inl (cI, 1024, .inl o.2.2.1))] H := hP
            have hD : va_D A [(qr, .inr (0, [.int (nI (d.1 + 1)), .int (nI d.2.1), .int (d.2.2.1 + 1), .int (bI d.2.2.2)])), (qo, .inr (1, [.ref ql, .int (nI o.2.1), .ref qp, .int (nI o.2.2.2.1), .int (bI o.2.2.2.2)])), (ql, .inl (cI, 1507, .inl o.1)), (qp, .inl (cI, 1024, .inl o.2.2.1))] := hD
            refine lv_goto (tgt := 98) hx hb d_Cu_findBlock_56 (by decide) ?_
            refine lv_iinc (v := nI (t - 1)) (lv' := [(2, .int (nI (t - 1))), (3, .int (o_at o d.1)), (0, .ref qr), (1, .ref qo)]) hx hb d_Cu_findBlock_98 hl (k := 1) rfl (sb_m1 (by omega)) (by decide) rfl (fun ls hl => ?_)
            refine lv_goto (tgt := 10) hx hb d_Cu_findBlock_101 (by decide) ?_
            exact ih (t - 1) (d.1 + 1, d.2.1, d.2.2.1 + 1, d.2.2.2) (by omega) (⟨o_at_lt (by rw [c_33]; decide), hd.2⟩) (by rw [← he]; exact c_find_r c_11 c_18 c_33) (by omega) H locs (hP.sub [0, 1, 2, 3] rfl) (hD.sub [0, 1, 2, 3] (by decide) rfl) hS ls (lv_sub hl [0, 2, 3] rfl)
  exact hlp_10 _ (o.2.1 - c.1) c (by omega) hc rfl (Nat.lt_succ_self _) s.heap [] (hP.sub [0, 1, 2, 3] rfl) (hD.sub [0, 1, 2, 3] (by decide) rfl) hS ls (lv_sub hl [0, 1, 2] rfl)
