set_option maxHeartbeats 4000000 in
set_option maxRecDepth 100000 in
theorem k_Ou_init (l : Launch) (D : va_G) (g : GP) (qo : Nat) (cI : ClassId) (sz : Nat) : Met l y_Ou_init (.code y_Ou_init c_Ou_init 1 none :: xW) ({ frames := 1, cells := 2, slots := 2531, locals := 12 }) (xPc (gZ g) D vwCl [.ref qo] [(qo, .inr (1, [.null, .int 0, .null, .int 0, .int 0]))] [(cI, .int)] sz) (va_Qv (fun (u : Nat × Nat) => True) (xB D vwCl [(cI, .int)] (fun u : Nat × Nat => [(qo, .inr (1, [.ref u.1, .int (nI 0), .ref u.2, .int (nI 0), .int (bI false)])), (u.1, .inl (cI, 1507, .inl (fun _ => 0))), (u.2, .inl (cI, 1024, .inl (fun _ => 0)))]) (va_A [(qo, .inr (1, [.null, .int 0, .null, .int 0, .int 0]))] sz)) (va_A [(qo, .inr (1, [.null, .int 0, .null, .int 0, .int 0]))] sz)) 2 2531 (va_A [(qo, .inr (1, [.null, .int 0, .null, .int 0, .int 0]))] sz) := by
  refine x_open (Qc := fun A => va_Qv (fun (u : Nat × Nat) => True) (xB D vwCl [(cI, .int)] (fun u : Nat × Nat => [(qo, .inr (1, [.ref u.1, .int (nI 0), .ref u.2, .int (nI 0), .int (bI false)])), (u.1, .inl (cI, 1507, .inl (fun _ => 0))), (u.2, .inl (cI, 1024, .inl (fun _ => 0)))]) A) A) (cc := c_Ou_init) (maxL := 1) (ret := none) (own := R_Ou) (by decide) rfl rfl (Nat.le_of_ble_eq_true rfl) ?_
  intro p e s m below meth cd A ls hsz hAe hx hb hr hml hown hts hlk hnm hA hP hK hD hS hZ hl
  clear hsz hAe
  have hW : ∀ w ∈ xW, w.before _ s = true := fun w h => hts w (List.mem_cons_of_mem _ h)
  have hl : lv_has ls 1 [(0, .ref qo)] := hl
  refine lv_aload_n hx hb d_Ou_init_0 rfl (lv_at hl 0 rfl) ?_
  refine W.objInit hx hb hown (hW _ mw_78) (hW _ mw_71) (hW _ mw_72) rfl (by rw [hml]; exact hl.1) rfl d_Ou_init_1 (Nat.le_of_ble_eq_true rfl) (Nat.le_of_ble_eq_true rfl) ?_
  refine W.eq (g2 := F0 m 4 ls []) rfl ?_
  have hin : meth.name = "<init>" := hnm
  refine lv_aload_n hx hb d_Ou_init_4 rfl (lv_at hl 0 rfl) ?_
  refine lv_sipush (v := 1507) hx hb d_Ou_init_5 (by decide) ?_
  refine va_newa (D := D) (atype := .int) (a0 := (1507, .inl (fun _ => 0))) hx hb (hW _ mw_99) rfl hK hP hD hS hA (fun _ => rfl) (by decide) (by decide) (by decide) (Nat.le_of_ble_eq_true rfl) (Nat.le_of_ble_eq_true rfl) d_Ou_init_8 (fun q_8 cA_8 H hK hP hD hS => ?_)
  have e_ca : cI = cA_8 := x_ci hK 0 1 rfl rfl
  subst e_ca
  have hK : va_K D vwCl [(cI, .int)] s := hK.sub [0] rfl
  have hP : va_P D vwCl [(qo, .inr (1, [.null, .int 0, .null, .int 0, .int 0])), (q_8, .inl (cI, 1507, .inl (fun _ => 0)))] H := hP
  have hD : va_D A [(qo, .inr (1, [.null, .int 0, .null, .int 0, .int 0])), (q_8, .inl (cI, 1507, .inl (fun _ => 0)))] := hD
  refine va_putF (D := D) (ci := 1) (v := .ref q_8) (ty := .array .int) (C := R_Ou) (T := F_Ou) (N := 5) hx hb hW in_Ou t_Ou t_Ou_ok nm_Ou hown hK hP hD hS 0 rfl rfl 0 (by decide) (hW _ mw_79) (fun _ h9 => h9) rfl hin rfl (by decide +kernel) (rfl) (rfl) (Nat.le_of_ble_eq_true rfl) d_Ou_init_10 (fun H locs hP hD hS => ?_)
  have hP : va_P D vwCl [(qo, .inr (1, [.ref q_8, .int 0, .null, .int 0, .int 0])), (q_8, .inl (cI, 1507, .inl (fun _ => 0)))] H := hP
  have hD : va_D A [(qo, .inr (1, [.ref q_8, .int 0, .null, .int 0, .int 0])), (q_8, .inl (cI, 1507, .inl (fun _ => 0)))] := hD
  refine lv_aload_n hx hb d_Ou_init_13 rfl (lv_at hl 0 rfl) ?_
  refine lv_iconst (v := 0) hx hb d_Ou_init_14 (by decide) ?_
  refine va_put (D := D) (ci := 1) (v := .int 0) (ty := .int) (C := R_Ou) (T := F_Ou) (N := 5) hx hb hW in_Ou t_Ou t_Ou_ok nm_Ou hown hK hP hD hS 0 rfl rfl 1 (by decide) (hW _ mw_80) (fun _ h9 => h9) rfl (by decide +kernel) (rfl) (rfl) (Nat.le_of_ble_eq_true rfl) d_Ou_init_15 (fun H locs hP hD hS => ?_)
  have hP : va_P D vwCl [(qo, .inr (1, [.ref q_8, .int 0, .null, .int 0, .int 0])), (q_8, .inl (cI, 1507, .inl (fun _ => 0)))] H := hP
  have hD : va_D A [(qo, .inr (1, [.ref q_8, .int 0, .null, .int 0, .int 0])), (q_8, .inl (cI, 1507, .inl (fun _ => 0)))] := hD
  refine lv_aload_n hx hb d_Ou_init_18 rfl (lv_at hl 0 rfl) ?_
  refine lv_sipush (v := 1024) hx hb d_Ou_init_19 (by decide) ?_
  refine va_newa (D := D) (atype := .int) (a0 := (1024, .inl (fun _ => 0))) hx hb (hW _ mw_99) rfl hK hP hD hS hA (fun _ => rfl) (by decide) (by decide) (by decide) (Nat.le_of_ble_eq_true rfl) (Nat.le_of_ble_eq_true rfl) d_Ou_init_22 (fun q_22 cA_22 H hK hP hD hS => ?_)
  have e_ca : cI = cA_22 := x_ci hK 0 1 rfl rfl
  subst e_ca
  have hK : va_K D vwCl [(cI, .int)] s := hK.sub [0] rfl
  have hP : va_P D vwCl [(qo, .inr (1, [.ref q_8, .int 0, .null, .int 0, .int 0])), (q_8, .inl (cI, 1507, .inl (fun _ => 0))), (q_22, .inl (cI, 1024, .inl (fun _ => 0)))] H := hP
  have hD : va_D A [(qo, .inr (1, [.ref q_8, .int 0, .null, .int 0, .int 0])), (q_8, .inl (cI, 1507, .inl (fun _ => 0))), (q_22, .inl (cI, 1024, .inl (fun _ => 0)))] := hD
  refine va_putF (D := D) (ci := 1) (v := .ref q_22) (ty := .array .int) (C := R_Ou) (T := F_Ou) (N := 5) hx hb hW in_Ou t_Ou t_Ou_ok nm_Ou hown hK hP hD hS 0 rfl rfl 2 (by decide) (hW _ mw_83) (fun _ h9 => h9) rfl hin rfl (by decide +kernel) (rfl) (rfl) (Nat.le_of_ble_eq_true rfl) d_Ou_init_24 (fun H locs hP hD hS => ?_)
  have hP : va_P D vwCl [(qo, .inr (1, [.ref q_8, .int 0, .ref q_22, .int 0, .int 0])), (q_8, .inl (cI, 1507, .inl (fun _ => 0))), (q_22, .inl (cI, 1024, .inl (fun _ => 0)))] H := hP
  have hD : va_D A [(qo, .inr (1, [.ref q_8, .int 0, .ref q_22, .int 0, .int 0])), (q_8, .inl (cI, 1507, .inl (fun _ => 0))), (q_22, .inl (cI, 1024, .inl (fun _ => 0)))] := hD
  refine lv_aload_n hx hb d_Ou_init_27 rfl (lv_at hl 0 rfl) ?_
  refine lv_iconst (v := 0) hx hb d_Ou_init_28 (by decide) ?_
  refine va_put (D := D) (ci := 1) (v := .int 0) (ty := .int) (C := R_Ou) (T := F_Ou) (N := 5) hx hb hW in_Ou t_Ou t_Ou_ok nm_Ou hown hK hP hD hS 0 rfl rfl 3 (by decide) (hW _ mw_84) (fun _ h9 => h9) rfl (by decide +kernel) (rfl) (rfl) (Nat.le_of_ble_eq_true rfl) d_Ou_init_29 (fun H locs hP hD hS => ?_)
  have hP : va_P D vwCl [(qo, .inr (1, [.ref q_8, .int 0, .ref q_22, .int 0, .int 0])), (q_8, .inl (cI, 1507, .inl (fun _ => 0))), (q_22, .inl (cI, 1024, .inl (fun _ => 0)))] H := hP
  have hD : va_D A [(qo, .inr (1, [.ref q_8, .int 0, .ref q_22, .int 0, .int 0])), (q_8, .inl (cI, 1507, .inl (fun _ => 0))), (q_22, .inl (cI, 1024, .inl (fun _ => 0)))] := hD
  refine lv_aload_n hx hb d_Ou_init_32 rfl (lv_at hl 0 rfl) ?_
  refine lv_iconst (v := 0) hx hb d_Ou_init_33 (by decide) ?_
  refine x_topi (y := bI false) (by decide) ?_
  refine va_put (D := D) (ci := 1) (v := .int (bI false)) (ty := .boolean) (C := R_Ou) (T := F_Ou) (N := 5) hx hb hW in_Ou t_Ou t_Ou_ok nm_Ou hown hK hP hD hS 0 rfl rfl 4 (by decide) (hW _ mw_86) (fun _ h9 => h9) rfl (by decide +kernel) (bI_nar _) (bI_fit _) (Nat.le_of_ble_eq_true rfl) d_Ou_init_34 (fun H locs hP hD hS => ?_)
  have hP : va_P D vwCl [(qo, .inr (1, [.ref q_8, .int 0, .ref q_22, .int 0, .int (bI false)])), (q_8, .inl (cI, 1507, .inl (fun _ => 0))), (q_22, .inl (cI, 1024, .inl (fun _ => 0)))] H := hP
  have hD : va_D A [(qo, .inr (1, [.ref q_8, .int 0, .ref q_22, .int 0, .int (bI false)])), (q_8, .inl (cI, 1507, .inl (fun _ => 0))), (q_22, .inl (cI, 1024, .inl (fun _ => 0)))] := hD
  exact W.vret hx hb hr (fun t9 ht9 hW9 => ⟨⟨((q_8, q_22) : Nat × Nat), rfl, trivial, by rw [ht9]; exact hP.sub [0, 1, 2] rfl, va_K.moved hW9.alike hK, hD.sub [0, 1, 2] (by decide) rfl⟩, hS.F ht9⟩) hS.2.2 d_Ou_init_37
set_option maxHeartbeats 4000000 in
set_option maxRecDepth 100000 in
theorem k_Cu_init (l : Launch) (D : va_G) (g : GP) (qr : Nat) (cI : ClassId) (sz : Nat) : Met l y_Cu_init (.code y_Cu_init c_Cu_init 1 none :: xW) ({ frames := 1, cells := 0, slots := 0, locals := 12 }) (xPc (gZ g) D vwCl [.ref qr] [(qr, .inr (0, [.int 0, .int 0, .int 0, .int 0]))] [(cI, .int)] sz) (va_Qv (fun (u : Unit) => True) (xB D vwCl [(cI, .int)] (fun u : Unit => [(qr, .inr (0, [.int (nI 0), .int (nI 0), .int 0, .int (bI false)]))]) (va_A [(qr, .inr (0, [.int 0, .int 0, .int 0, .int 0]))] sz)) (va_A [(qr, .inr (0, [.int 0, .int 0, .int 0, .int 0]))] sz)) 0 0 (va_A [(qr, .inr (0, [.int 0, .int 0, .int 0, .int 0]))] sz) := by
  refine x_open (Qc := fun A => va_Qv (fun (u : Unit) => True) (xB D vwCl [(cI, .int)] (fun u : Unit => [(qr, .inr (0, [.int (nI 0), .int (nI 0), .int 0, .int (bI false)]))]) A) A) (cc := c_Cu_init) (maxL := 1) (ret := none) (own := R_Cu) (by decide) rfl rfl (Nat.le_of_ble_eq_true rfl) ?_
  intro p e s m below meth cd A ls hsz hAe hx hb hr hml hown hts hlk hnm hA hP hK hD hS hZ hl
  clear hsz hAe
  have hW : ∀ w ∈ xW, w.before _ s = true := fun w h => hts w (List.mem_cons_of_mem _ h)
  have hl : lv_has ls 1 [(0, .ref qr)] := hl
  refine lv_aload_n hx hb d_Cu_init_0 rfl (lv_at hl 0 rfl) ?_
  refine W.objInit hx hb hown (hW _ mw_105) (hW _ mw_71) (hW _ mw_72) rfl (by rw [hml]; exact hl.1) rfl d_Cu_init_1 (Nat.le_of_ble_eq_true rfl) (Nat.le_of_ble_eq_true rfl) ?_
  refine W.eq (g2 := F0 m 4 ls []) rfl ?_
  have hin : meth.name = "<init>" := hnm
  refine lv_aload_n hx hb d_Cu_init_4 rfl (lv_at hl 0 rfl) ?_
  refine lv_iconst (v := 0) hx hb d_Cu_init_5 (by decide) ?_
  refine va_put (D := D) (ci := 0) (v := .int 0) (ty := .int) (C := R_Cu) (T := F_Cu) (N := 4) hx hb hW in_Cu t_Cu t_Cu_ok nm_Cu hown hK hP hD hS 0 rfl rfl 0 (by decide) (hW _ mw_106) (fun _ h9 => h9) rfl (by decide +kernel) (rfl) (rfl) (Nat.le_of_ble_eq_true rfl) d_Cu_init_6 (fun H locs hP hD hS => ?_)
  have hP : va_P D vwCl [(qr, .inr (0, [.int 0, .int 0, .int 0, .int 0]))] H := hP
  have hD : va_D A [(qr, .inr (0, [.int 0, .int 0, .int 0, .int 0]))] := hD
  refine lv_aload_n hx hb d_Cu_init_9 rfl (lv_at hl 0 rfl) ?_
  refine lv_iconst (v := 0) hx hb d_Cu_init_10 (by decide) ?_
  refine va_put (D := D) (ci := 0) (v := .int 0) (ty := .int) (C := R_Cu) (T := F_Cu) (N := 4) hx hb hW in_Cu t_Cu t_Cu_ok nm_Cu hown hK hP hD hS 0 rfl rfl 1 (by decide) (hW _ mw_108) (fun _ h9 => h9) rfl (by decide +kernel) (rfl) (rfl) (Nat.le_of_ble_eq_true rfl) d_Cu_init_11 (fun H locs hP hD hS => ?_)
  have hP : va_P D vwCl [(qr, .inr (0, [.int 0, .int 0, .int 0, .int 0]))] H := hP
  have hD : va_D A [(qr, .inr (0, [.int 0, .int 0, .int 0, .int 0]))] := hD
  refine lv_aload_n hx hb d_Cu_init_14 rfl (lv_at hl 0 rfl) ?_
  refine lv_iconst (v := 0) hx hb d_Cu_init_15 (by decide) ?_
  refine va_put (D := D) (ci := 0) (v := .int 0) (ty := .int) (C := R_Cu) (T := F_Cu) (N := 4) hx hb hW in_Cu t_Cu t_Cu_ok nm_Cu hown hK hP hD hS 0 rfl rfl 2 (by decide) (hW _ mw_110) (fun _ h9 => h9) rfl (by decide +kernel) (rfl) (rfl) (Nat.le_of_ble_eq_true rfl) d_Cu_init_16 (fun H locs hP hD hS => ?_)
  have hP : va_P D vwCl [(qr, .inr (0, [.int 0, .int 0, .int 0, .int 0]))] H := hP
  have hD : va_D A [(qr, .inr (0, [.int 0, .int 0, .int 0, .int 0]))] := hD
  refine lv_aload_n hx hb d_Cu_init_19 rfl (lv_at hl 0 rfl) ?_
  refine lv_iconst (v := 0) hx hb d_Cu_init_20 (by decide) ?_
  refine x_topi (y := bI false) (by decide) ?_
  refine va_put (D := D) (ci := 0) (v := .int (bI false)) (ty := .boolean) (C := R_Cu) (T := F_Cu) (N := 4) hx hb hW in_Cu t_Cu t_Cu_ok nm_Cu hown hK hP hD hS 0 rfl rfl 3 (by decide) (hW _ mw_112) (fun _ h9 => h9) rfl (by decide +kernel) (bI_nar _) (bI_fit _) (Nat.le_of_ble_eq_true rfl) d_Cu_init_21 (fun H locs hP hD hS => ?_)
  have hP : va_P D vwCl [(qr, .inr (0, [.int 0, .int 0, .int 0, .int (bI false)]))] H := hP
  have hD : va_D A [(qr, .inr (0, [.int 0, .int 0, .int 0, .int (bI false)]))] := hD
  exact W.vret hx hb hr (fun t9 ht9 hW9 => ⟨⟨(() : Unit), rfl, trivial, by rw [ht9]; exact hP.sub [0] rfl, va_K.moved hW9.alike hK, hD.sub [0] (by decide) rfl⟩, hS.F ht9⟩) hS.2.2 d_Cu_init_24
set_option maxHeartbeats 4000000 in
set_option maxRecDepth 100000 in
theorem k_Te_init (l : Launch) (D : va_G) (g : GP) (qx : Nat) (cI : ClassId) (sz : Nat) : Met l y_Te_init (.code y_Te_init c_Te_init 1 none :: xW) ({ frames := 1, cells := 3, slots := 200, locals := 12 }) (xPc (gZ g) D vwCl [.ref qx] [(qx, .inr (2, [.null, .null, .null]))] [(cI, .int)] sz) (va_Qv (fun (u : Nat × Nat × Nat) => True) (xB D vwCl [(cI, .int)] (fun u : Nat × Nat × Nat => [(qx, .inr (2, [.ref u.1, .ref u.2.1, .ref u.2.2])), (u.1, .inl (cI, 40, .inl (fun _ => 0))), (u.2.1, .inl (cI, 120, .inl (fun _ => 0))), (u.2.2, .inl (cI, 40, .inl (fun _ => 0)))]) (va_A [(qx, .inr (2, [.null, .null, .null]))] sz)) (va_A [(qx, .inr (2, [.null, .null, .null]))] sz)) 3 200 (va_A [(qx, .inr (2, [.null, .null, .null]))] sz) := by
  refine x_open (Qc := fun A => va_Qv (fun (u : Nat × Nat × Nat) => True) (xB D vwCl [(cI, .int)] (fun u : Nat × Nat × Nat => [(qx, .inr (2, [.ref u.1, .ref u.2.1, .ref u.2.2])), (u.1, .inl (cI, 40, .inl (fun _ => 0))), (u.2.1, .inl (cI, 120, .inl (fun _ => 0))), (u.2.2, .inl (cI, 40, .inl (fun _ => 0)))]) A) A) (cc := c_Te_init) (maxL := 1) (ret := none) (own := R_Te) (by decide) rfl rfl (Nat.le_of_ble_eq_true rfl) ?_
  intro p e s m below meth cd A ls hsz hAe hx hb hr hml hown hts hlk hnm hA hP hK hD hS hZ hl
  clear hsz hAe
  have hW : ∀ w ∈ xW, w.before _ s = true := fun w h => hts w (List.mem_cons_of_mem _ h)
  have hl : lv_has ls 1 [(0, .ref qx)] := hl
  refine lv_aload_n hx hb d_Te_init_0 rfl (lv_at hl 0 rfl) ?_
  refine W.objInit hx hb hown (hW _ mw_128) (hW _ mw_71) (hW _ mw_72) rfl (by rw [hml]; exact hl.1) rfl d_Te_init_1 (Nat.le_of_ble_eq_true rfl) (Nat.le_of_ble_eq_true rfl) ?_
  refine W.eq (g2 := F0 m 4 ls []) rfl ?_
  have hin : meth.name = "<init>" := hnm
  refine lv_aload_n hx hb d_Te_init_4 rfl (lv_at hl 0 rfl) ?_
  refine lv_bipush (v := 40) hx hb d_Te_init_5 (by decide) ?_
  refine va_newa (D := D) (atype := .int) (a0 := (40, .inl (fun _ => 0))) hx hb (hW _ mw_99) rfl hK hP hD hS hA (fun _ => rfl) (by decide) (by decide) (by decide) (Nat.le_of_ble_eq_true rfl) (Nat.le_of_ble_eq_true rfl) d_Te_init_7 (fun q_7 cA_7 H hK hP hD hS => ?_)
  have e_ca : cI = cA_7 := x_ci hK 0 1 rfl rfl
  subst e_ca
  have hK : va_K D vwCl [(cI, .int)] s := hK.sub [0] rfl
  have hP : va_P D vwCl [(qx, .inr (2, [.null, .null, .null])), (q_7, .inl (cI, 40, .inl (fun _ => 0)))] H := hP
  have hD : va_D A [(qx, .inr (2, [.null, .null, .null])), (q_7, .inl (cI, 40, .inl (fun _ => 0)))] := hD
  refine va_putF (D := D) (ci := 2) (v := .ref q_7) (ty := .array .int) (C := R_Te) (T := F_Te) (N := 3) hx hb hW in_Te t_Te t_Te_ok nm_Te hown hK hP hD hS 0 rfl rfl 0 (by decide) (hW _ mw_129) (fun _ h9 => h9) rfl hin rfl (by decide +kernel) (rfl) (rfl) (Nat.le_of_ble_eq_true rfl) d_Te_init_9 (fun H locs hP hD hS => ?_)
  have hP : va_P D vwCl [(qx, .inr (2, [.ref q_7, .null, .null])), (q_7, .inl (cI, 40, .inl (fun _ => 0)))] H := hP
  have hD : va_D A [(qx, .inr (2, [.ref q_7, .null, .null])), (q_7, .inl (cI, 40, .inl (fun _ => 0)))] := hD
  refine lv_aload_n hx hb d_Te_init_12 rfl (lv_at hl 0 rfl) ?_
  refine lv_bipush (v := 120) hx hb d_Te_init_13 (by decide) ?_
  refine va_newa (D := D) (atype := .int) (a0 := (120, .inl (fun _ => 0))) hx hb (hW _ mw_99) rfl hK hP hD hS hA (fun _ => rfl) (by decide) (by decide) (by decide) (Nat.le_of_ble_eq_true rfl) (Nat.le_of_ble_eq_true rfl) d_Te_init_15 (fun q_15 cA_15 H hK hP hD hS => ?_)
  have e_ca : cI = cA_15 := x_ci hK 0 1 rfl rfl
  subst e_ca
  have hK : va_K D vwCl [(cI, .int)] s := hK.sub [0] rfl
  have hP : va_P D vwCl [(qx, .inr (2, [.ref q_7, .null, .null])), (q_7, .inl (cI, 40, .inl (fun _ => 0))), (q_15, .inl (cI, 120, .inl (fun _ => 0)))] H := hP
  have hD : va_D A [(qx, .inr (2, [.ref q_7, .null, .null])), (q_7, .inl (cI, 40, .inl (fun _ => 0))), (q_15, .inl (cI, 120, .inl (fun _ => 0)))] := hD
  refine va_putF (D := D) (ci := 2) (v := .ref q_15) (ty := .array .int) (C := R_Te) (T := F_Te) (N := 3) hx hb hW in_Te t_Te t_Te_ok nm_Te hown hK hP hD hS 0 rfl rfl 1 (by decide) (hW _ mw_131) (fun _ h9 => h9) rfl hin rfl (by decide +kernel) (rfl) (rfl) (Nat.le_of_ble_eq_true rfl) d_Te_init_17 (fun H locs hP hD hS => ?_)
  have hP : va_P D vwCl [(qx, .inr (2, [.ref q_7, .ref q_15, .null])), (q_7, .inl (cI, 40, .inl (fun _ => 0))), (q_15, .inl (cI, 120, .inl (fun _ => 0)))] H := hP
  have hD : va_D A [(qx, .inr (2, [.ref q_7, .ref q_15, .null])), (q_7, .inl (cI, 40, .inl (fun _ => 0))), (q_15, .inl (cI, 120, .inl (fun _ => 0)))] := hD
  refine lv_aload_n hx hb d_Te_init_20 rfl (lv_at hl 0 rfl) ?_
  refine lv_bipush (v := 40) hx hb d_Te_init_21 (by decide) ?_
  refine va_newa (D := D) (atype := .int) (a0 := (40, .inl (fun _ => 0))) hx hb (hW _ mw_99) rfl hK hP hD hS hA (fun _ => rfl) (by decide) (by decide) (by decide) (Nat.le_of_ble_eq_true rfl) (Nat.le_of_ble_eq_true rfl) d_Te_init_23 (fun q_23 cA_23 H hK hP hD hS => ?_)
  have e_ca : cI = cA_23 := x_ci hK 0 1 rfl rfl
  subst e_ca
  have hK : va_K D vwCl [(cI, .int)] s := hK.sub [0] rfl
  have hP : va_P D vwCl [(qx, .inr (2, [.ref q_7, .ref q_15, .null])), (q_7, .inl (cI, 40, .inl (fun _ => 0))), (q_15, .inl (cI, 120, .inl (fun _ => 0))), (q_23, .inl (cI, 40, .inl (fun _ => 0)))] H := hP
  have hD : va_D A [(qx, .inr (2, [.ref q_7, .ref q_15, .null])), (q_7, .inl (cI, 40, .inl (fun _ => 0))), (q_15, .inl (cI, 120, .inl (fun _ => 0))), (q_23, .inl (cI, 40, .inl (fun _ => 0)))] := hD
  refine va_putF (D := D) (ci := 2) (v := .ref q_23) (ty := .array .int) (C := R_Te) (T := F_Te) (N := 3) hx hb hW in_Te t_Te t_Te_ok nm_Te hown hK hP hD hS 0 rfl rfl 2 (by decide) (hW _ mw_132) (fun _ h9 => h9) rfl hin rfl (by decide +kernel) (rfl) (rfl) (Nat.le_of_ble_eq_true rfl) d_Te_init_25 (fun H locs hP hD hS => ?_)
  have hP : va_P D vwCl [(qx, .inr (2, [.ref q_7, .ref q_15, .ref q_23])), (q_7, .inl (cI, 40, .inl (fun _ => 0))), (q_15, .inl (cI, 120, .inl (fun _ => 0))), (q_23, .inl (cI, 40, .inl (fun _ => 0)))] H := hP
  have hD : va_D A [(qx, .inr (2, [.ref q_7, .ref q_15, .ref q_23])), (q_7, .inl (cI, 40, .inl (fun _ => 0))), (q_15, .inl (cI, 120, .inl (fun _ => 0))), (q_23, .inl (cI, 40, .inl (fun _ => 0)))] := hD
  exact W.vret hx hb hr (fun t9 ht9 hW9 => ⟨⟨((q_7, q_15, q_23) : Nat × Nat × Nat), rfl, trivial, by rw [ht9]; exact hP.sub [0, 1, 2, 3] rfl, va_K.moved hW9.alike hK, hD.sub [0, 1, 2, 3] (by decide) rfl⟩, hS.F ht9⟩) hS.2.2 d_Te_init_28
