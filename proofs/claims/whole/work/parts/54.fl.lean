set_option maxHeartbeats 4000000 in
set_option maxRecDepth 100000 in
theorem k_La_allOnes (l : Launch) (D : va_G) (g : GP) (i : Nat) (hi : i < 2) (sz : Nat) : Met l y_La_allOnes (.code y_La_allOnes c_La_allOnes 1 (some .int) :: xW) ({ frames := 0, cells := 0, slots := 0, locals := 0 }) (xPc (gZ g) D vwCl [.ref (g.1 i)] [] [] sz) (va_Qi (fun (r : Int32) (u : Unit) => r = nI (2 * lb i + 1)) (xB D vwCl [] (fun u : Unit => []) (va_A [] sz)) (va_A [] sz)) 0 0 (va_A [] sz) := by
  refine x_open (Qc := fun A => va_Qi (fun (r : Int32) (u : Unit) => r = nI (2 * lb i + 1)) (xB D vwCl [] (fun u : Unit => []) A) A) (cc := c_La_allOnes) (maxL := 1) (ret := (some .int)) (own := R_La) (by decide) rfl rfl (Nat.le_of_ble_eq_true rfl) ?_
  intro p e s m below meth cd A ls hsz hAe hx hb hr hml hown hts hlk hnm hA hP hK hD hS hZ hl
  clear hsz hAe
  have hW : ∀ w ∈ xW, w.before _ s = true := fun w h => hts w (List.mem_cons_of_mem _ h)
  have hl : lv_has ls 1 [(0, .ref (g.1 i))] := hl
  have hlb := lb_in (i := i)
  have hlw := lw_in (i := i)
  have hlz := lz_in (i := i)
  refine lv_iconst (v := 2) hx hb d_La_allOnes_0 (by decide) ?_
  refine lv_aload_n hx hb d_La_allOnes_1 rfl (lv_at hl 0 rfl) ?_
  refine va_getE (i := i) (q := ("WireData$Layout", "bias", "I", [127, 1023])) hx hb hZ.2.2.2.2.2.2.1 hi hS hown (by decide) (hW _ mw_783) (fun _ h9 => h9) d_La_allOnes_2 ?_
  refine x_topi (y := nI (lb i)) (lb_v hi) ?_
  refine lv_imul hx hb d_La_allOnes_5 ?_
  refine x_topi (y := nI (2 * (lb i))) (by rw [show (2 : Int32) = nI 2 by decide]; exact pk_mul _ _) ?_
  refine lv_iconst (v := 1) hx hb d_La_allOnes_6 (by decide) ?_
  refine lv_iadd hx hb d_La_allOnes_7 ?_
  refine x_topi (y := nI ((2 * (lb i)) + 1)) (nI_1 _) ?_
  exact W.iret (v := nI ((2 * (lb i)) + 1)) hx hb hr (fun t9 ht9 hW9 => ⟨⟨nI ((2 * (lb i)) + 1), (() : Unit), rfl, rfl, by rw [ht9]; exact hP.sub [] rfl, va_K.moved hW9.alike hK, hD.sub [] (by decide) rfl⟩, hS.F ht9⟩) hS.2.2 d_La_allOnes_8
set_option maxHeartbeats 4000000 in
set_option maxRecDepth 100000 in
theorem k_La_one (l : Launch) (D : va_G) (g : GP) (i : Nat) (hi : i < 2) (sz : Nat) : Met l y_La_one (.code y_La_one c_La_one 1 (some .long) :: xW) ({ frames := 0, cells := 0, slots := 0, locals := 0 }) (xPc (gZ g) D vwCl [.ref (g.1 i)] [] [] sz) (va_Ql (fun (r : Int64) (u : Unit) => r = lN (2 ^ lw i)) (xB D vwCl [] (fun u : Unit => []) (va_A [] sz)) (va_A [] sz)) 0 0 (va_A [] sz) := by
  refine x_open (Qc := fun A => va_Ql (fun (r : Int64) (u : Unit) => r = lN (2 ^ lw i)) (xB D vwCl [] (fun u : Unit => []) A) A) (cc := c_La_one) (maxL := 1) (ret := (some .long)) (own := R_La) (by decide) rfl rfl (Nat.le_of_ble_eq_true rfl) ?_
  intro p e s m below meth cd A ls hsz hAe hx hb hr hml hown hts hlk hnm hA hP hK hD hS hZ hl
  clear hsz hAe
  have hW : ∀ w ∈ xW, w.before _ s = true := fun w h => hts w (List.mem_cons_of_mem _ h)
  have hl : lv_has ls 1 [(0, .ref (g.1 i))] := hl
  have hlb := lb_in (i := i)
  have hlw := lw_in (i := i)
  have hlz := lz_in (i := i)
  refine lv_lconst (v := 1) hx hb d_La_one_0 (by decide) ?_
  refine lv_aload_n hx hb d_La_one_1 rfl (lv_at hl 0 rfl) ?_
  refine va_getE (i := i) (q := ("WireData$Layout", "width", "I", [23, 52])) hx hb hZ.2.2.2.2.2.2.1 hi hS hown (by decide) (hW _ mw_784) (fun _ h9 => h9) d_La_one_2 ?_
  refine x_topi (y := nI (lw i)) (lw_v hi) ?_
  refine lv_lshl (v := (1 : Int64) <<< ((nI (lw i)).toInt64 &&& 63)) hx hb d_La_one_5 rfl ?_
  exact W.lret (v := (1 : Int64) <<< ((nI (lw i)).toInt64 &&& 63)) hx hb hr (fun t9 ht9 hW9 => ⟨⟨(1 : Int64) <<< ((nI (lw i)).toInt64 &&& 63), (() : Unit), rfl, one_v, by rw [ht9]; exact hP.sub [] rfl, va_K.moved hW9.alike hK, hD.sub [] (by decide) rfl⟩, hS.F ht9⟩) hS.2.2 d_La_one_6
set_option maxHeartbeats 4000000 in
set_option maxRecDepth 100000 in
theorem k_La_exponentIn (l : Launch) (D : va_G) (g : GP) (i : Nat) (v : Int64) (hi : i < 2) (sz : Nat) : Met l y_La_exponentIn (.code y_La_exponentIn c_La_exponentIn 3 (some .long) :: xW) ({ frames := 1, cells := 0, slots := 0, locals := 20 }) (xPc (gZ g) D vwCl [.ref (g.1 i), .long v] [] [] sz) (va_Ql (fun (r : Int64) (u : Unit) => r = exI i v) (xB D vwCl [] (fun u : Unit => []) (va_A [] sz)) (va_A [] sz)) 0 0 (va_A [] sz) := by
  refine x_open (Qc := fun A => va_Ql (fun (r : Int64) (u : Unit) => r = exI i v) (xB D vwCl [] (fun u : Unit => []) A) A) (cc := c_La_exponentIn) (maxL := 3) (ret := (some .long)) (own := R_La) (by decide) rfl rfl (Nat.le_of_ble_eq_true rfl) ?_
  intro p e s m below meth cd A ls hsz hAe hx hb hr hml hown hts hlk hnm hA hP hK hD hS hZ hl
  clear hsz hAe
  have hW : ∀ w ∈ xW, w.before _ s = true := fun w h => hts w (List.mem_cons_of_mem _ h)
  have hl : lv_has ls 3 [(0, .ref (g.1 i)), (1, .long v)] := hl
  have hlb := lb_in (i := i)
  have hlw := lw_in (i := i)
  have hlz := lz_in (i := i)
  refine lv_lload_n hx hb d_La_exponentIn_0 rfl (lv_at hl 1 rfl) ?_
  refine lv_aload_n hx hb d_La_exponentIn_1 rfl (lv_at hl 0 rfl) ?_
  refine va_getE (i := i) (q := ("WireData$Layout", "width", "I", [23, 52])) hx hb hZ.2.2.2.2.2.2.1 hi hS hown (by decide) (hW _ mw_784) (fun _ h9 => h9) d_La_exponentIn_2 ?_
  refine x_topi (y := nI (lw i)) (lw_v hi) ?_
  refine lv_lushr (v := (v.toUInt64 >>> ((nI (lw i)).toInt64.toUInt64 &&& Int64.toUInt64 63)).toInt64) hx hb d_La_exponentIn_5 rfl ?_
  refine lv_aload_n hx hb d_La_exponentIn_6 rfl (lv_at hl 0 rfl) ?_
  refine x_calli (D := D) (wc := []) (wr := []) (va_runV (C := R_La) (As := []) (rest := [.long ((v.toUInt64 >>> ((nI (lw i)).toInt64.toUInt64 &&& Int64.toUInt64 63)).toInt64)]) ⟨hx, hb, hml, hown, hW⟩ (k_La_allOnes l D g i (by omega) s.heap.size) (cwV 0 hW (gWV mw_326 mw_328 mw_10 mw_61 mw_329) rfl rfl rfl (by decide +kernel) ⟨Nat.le_of_ble_eq_true rfl, Nat.le_of_ble_eq_true rfl⟩) ⟨xPc_blind (gZ_ok g), va_recvE hZ.2.2.2.2.2.2.1 hi hS, x_pre (gZ_ok g) hP hK hD hS hA hZ [] [] rfl rfl rfl⟩ rfl rfl hl.1 rfl (lv_room (Nat.le_of_ble_eq_true rfl)) d_La_exponentIn_7 ⟨Nat.le_of_ble_eq_true rfl, Nat.le_of_ble_eq_true rfl⟩) hP hD hS hA [] [] rfl rfl rfl (by decide) (fun r_7 u_7 H locs hw_7 hP hD hS => ?_)
  replace hw_7 := hw_7.symm
  subst hw_7
  have hP : va_P D vwCl [] H := hP
  have hD : va_D A [] := hD
  refine lv_i2l (v := (nI (2 * lb i + 1)).toInt64) hx hb d_La_exponentIn_10 rfl ?_
  refine lv_land hx hb d_La_exponentIn_11 ?_
  exact W.lret (v := ((v.toUInt64 >>> ((nI (lw i)).toInt64.toUInt64 &&& Int64.toUInt64 63)).toInt64) &&& ((nI (2 * lb i + 1)).toInt64)) hx hb hr (fun t9 ht9 hW9 => ⟨⟨((v.toUInt64 >>> ((nI (lw i)).toInt64.toUInt64 &&& Int64.toUInt64 63)).toInt64) &&& ((nI (2 * lb i + 1)).toInt64), (() : Unit), rfl, rfl, by rw [ht9]; exact hP.sub [] rfl, va_K.moved hW9.alike hK, hD.sub [] (by decide) rfl⟩, hS.F ht9⟩) hS.2.2 d_La_exponentIn_12
set_option maxHeartbeats 4000000 in
set_option maxRecDepth 100000 in
theorem k_La_fractionIn (l : Launch) (D : va_G) (g : GP) (i : Nat) (v : Int64) (hi : i < 2) (sz : Nat) : Met l y_La_fractionIn (.code y_La_fractionIn c_La_fractionIn 3 (some .long) :: xW) ({ frames := 1, cells := 0, slots := 0, locals := 20 }) (xPc (gZ g) D vwCl [.ref (g.1 i), .long v] [] [] sz) (va_Ql (fun (r : Int64) (u : Unit) => r = frI i v) (xB D vwCl [] (fun u : Unit => []) (va_A [] sz)) (va_A [] sz)) 0 0 (va_A [] sz) := by
  refine x_open (Qc := fun A => va_Ql (fun (r : Int64) (u : Unit) => r = frI i v) (xB D vwCl [] (fun u : Unit => []) A) A) (cc := c_La_fractionIn) (maxL := 3) (ret := (some .long)) (own := R_La) (by decide) rfl rfl (Nat.le_of_ble_eq_true rfl) ?_
  intro p e s m below meth cd A ls hsz hAe hx hb hr hml hown hts hlk hnm hA hP hK hD hS hZ hl
  clear hsz hAe
  have hW : ∀ w ∈ xW, w.before _ s = true := fun w h => hts w (List.mem_cons_of_mem _ h)
  have hl : lv_has ls 3 [(0, .ref (g.1 i)), (1, .long v)] := hl
  have hlb := lb_in (i := i)
  have hlw := lw_in (i := i)
  have hlz := lz_in (i := i)
  refine lv_lload_n hx hb d_La_fractionIn_0 rfl (lv_at hl 1 rfl) ?_
  refine lv_aload_n hx hb d_La_fractionIn_1 rfl (lv_at hl 0 rfl) ?_
  refine x_calll (D := D) (wc := []) (wr := []) (va_runV (C := R_La) (As := []) (rest := [.long v]) ⟨hx, hb, hml, hown, hW⟩ (k_La_one l D g i (by omega) s.heap.size) (cwV 0 hW (gWV mw_330 mw_332 mw_11 mw_61 mw_333) rfl rfl rfl (by decide +kernel) ⟨Nat.le_of_ble_eq_true rfl, Nat.le_of_ble_eq_true rfl⟩) ⟨xPc_blind (gZ_ok g), va_recvE hZ.2.2.2.2.2.2.1 hi hS, x_pre (gZ_ok g) hP hK hD hS hA hZ [] [] rfl rfl rfl⟩ rfl rfl hl.1 rfl (lv_room (Nat.le_of_ble_eq_true rfl)) d_La_fractionIn_2 ⟨Nat.le_of_ble_eq_true rfl, Nat.le_of_ble_eq_true rfl⟩) hP hD hS hA [] [] rfl rfl rfl (by decide) (fun r_2 u_2 H locs hw_2 hP hD hS => ?_)
  replace hw_2 := hw_2.symm
  subst hw_2
  have hP : va_P D vwCl [] H := hP
  have hD : va_D A [] := hD
  refine lv_lconst (v := 1) hx hb d_La_fractionIn_5 (by decide) ?_
  refine lv_lsub hx hb d_La_fractionIn_6 ?_
  refine lv_land hx hb d_La_fractionIn_7 ?_
  exact W.lret (v := v &&& ((lN (2 ^ lw i)) - 1)) hx hb hr (fun t9 ht9 hW9 => ⟨⟨v &&& ((lN (2 ^ lw i)) - 1), (() : Unit), rfl, rfl, by rw [ht9]; exact hP.sub [] rfl, va_K.moved hW9.alike hK, hD.sub [] (by decide) rfl⟩, hS.F ht9⟩) hS.2.2 d_La_fractionIn_8
set_option maxHeartbeats 4000000 in
set_option maxRecDepth 100000 in
theorem k_La_isNoNumber (l : Launch) (D : va_G) (g : GP) (i : Nat) (v : Int64) (hi : i < 2) (sz : Nat) : Met l y_La_isNoNumber (.code y_La_isNoNumber c_La_isNoNumber 3 (some .boolean) :: xW) ({ frames := 2, cells := 0, slots := 0, locals := 42 }) (xPc (gZ g) D vwCl [.ref (g.1 i), .long v] [] [] sz) (va_Qi (fun (r : Int32) (u : Unit) => r = bI (nnI i v)) (xB D vwCl [] (fun u : Unit => []) (va_A [] sz)) (va_A [] sz)) 0 0 (va_A [] sz) := by
  refine x_open (Qc := fun A => va_Qi (fun (r : Int32) (u : Unit) => r = bI (nnI i v)) (xB D vwCl [] (fun u : Unit => []) A) A) (cc := c_La_isNoNumber) (maxL := 3) (ret := (some .boolean)) (own := R_La) (by decide) rfl rfl (Nat.le_of_ble_eq_true rfl) ?_
  intro p e s m below meth cd A ls hsz hAe hx hb hr hml hown hts hlk hnm hA hP hK hD hS hZ hl
  clear hsz hAe
  have hW : ∀ w ∈ xW, w.before _ s = true := fun w h => hts w (List.mem_cons_of_mem _ h)
  have hl : lv_has ls 3 [(0, .ref (g.1 i)), (1, .long v)] := hl
  have hlb := lb_in (i := i)
  have hlw := lw_in (i := i)
  have hlz := lz_in (i := i)
  refine lv_aload_n hx hb d_La_isNoNumber_0 rfl (lv_at hl 0 rfl) ?_
  refine lv_lload_n hx hb d_La_isNoNumber_1 rfl (lv_at hl 1 rfl) ?_
  refine x_calll (D := D) (wc := []) (wr := []) (va_runV (C := R_La) (As := [.long v]) (rest := []) ⟨hx, hb, hml, hown, hW⟩ (k_La_exponentIn l D g i v (by omega) s.heap.size) (cwV 1 hW (gWV mw_472 mw_474 mw_24 mw_61 mw_475) rfl rfl rfl (by decide +kernel) ⟨Nat.le_of_ble_eq_true rfl, Nat.le_of_ble_eq_true rfl⟩) ⟨xPc_blind (gZ_ok g), va_recvE hZ.2.2.2.2.2.2.1 hi hS, x_pre (gZ_ok g) hP hK hD hS hA hZ [] [] rfl rfl rfl⟩ rfl rfl hl.1 rfl (lv_room (Nat.le_of_ble_eq_true rfl)) d_La_isNoNumber_2 ⟨Nat.le_of_ble_eq_true rfl, Nat.le_of_ble_eq_true rfl⟩) hP hD hS hA [] [] rfl rfl rfl (by decide) (fun r_2 u_2 H locs hw_2 hP hD hS => ?_)
  replace hw_2 := hw_2.symm
  subst hw_2
  have hP : va_P D vwCl [] H := hP
  have hD : va_D A [] := hD
  refine lv_aload_n hx hb d_La_isNoNumber_5 rfl (lv_at hl 0 rfl) ?_
  refine x_calli (D := D) (wc := []) (wr := []) (va_runV (C := R_La) (As := []) (rest := [.long (exI i v)]) ⟨hx, hb, hml, hown, hW⟩ (k_La_allOnes l D g i (by omega) H.size) (cwV 0 hW (gWV mw_326 mw_328 mw_10 mw_61 mw_329) rfl rfl rfl (by decide +kernel) ⟨Nat.le_of_ble_eq_true rfl, Nat.le_of_ble_eq_true rfl⟩) ⟨xPc_blind (gZ_ok g), va_recvE hZ.2.2.2.2.2.2.1 hi hS, x_pre (gZ_ok g) hP hK hD hS hA hZ [] [] rfl rfl rfl⟩ rfl rfl hl.1 rfl (lv_room (Nat.le_of_ble_eq_true rfl)) d_La_isNoNumber_6 ⟨Nat.le_of_ble_eq_true rfl, Nat.le_of_ble_eq_true rfl⟩) hP hD hS hA [] [] rfl rfl rfl (by decide) (fun r_6 u_6 H locs hw_6 hP hD hS => ?_)
  replace hw_6 := hw_6.symm
  subst hw_6
  have hP : va_P D vwCl [] H := hP
  have hD : va_D A [] := hD
  refine lv_i2l (v := (nI (2 * lb i + 1)).toInt64) hx hb d_La_isNoNumber_9 rfl ?_
  refine W.lcmp hx hb d_La_isNoNumber_10 ?_
  refine lv_if_ne (tgt := 28) hx hb d_La_isNoNumber_11 (by decide) (fun c_11 => ?_) (fun c_11 => ?_)
  · replace c_11 := mt (lg_cmp_eq _ _).mpr c_11
    refine lv_iconst (v := 0) hx hb d_La_isNoNumber_28 (by decide) ?_
    exact W.zret (v := 0) (ty := .boolean) hx hb hr (by decide) (fun t9 ht9 hW9 => ⟨⟨0, (() : Unit), rfl, by rw [nnI, decide_eq_false (by first | exact fun z => c_11 z.1 | exact fun z => z.2 c_21)]; rfl, by rw [ht9]; exact hP.sub [] rfl, va_K.moved hW9.alike hK, hD.sub [] (by decide) rfl⟩, hS.F ht9⟩) hS.2.2 d_La_isNoNumber_29
  · replace c_11 := (lg_cmp_eq _ _).mp c_11
    refine lv_aload_n hx hb d_La_isNoNumber_14 rfl (lv_at hl 0 rfl) ?_
    refine lv_lload_n hx hb d_La_isNoNumber_15 rfl (lv_at hl 1 rfl) ?_
    refine x_calll (D := D) (wc := []) (wr := []) (va_runV (C := R_La) (As := [.long v]) (rest := []) ⟨hx, hb, hml, hown, hW⟩ (k_La_fractionIn l D g i v (by omega) H.size) (cwV 1 hW (gWV mw_476 mw_478 mw_25 mw_61 mw_479) rfl rfl rfl (by decide +kernel) ⟨Nat.le_of_ble_eq_true rfl, Nat.le_of_ble_eq_true rfl⟩) ⟨xPc_blind (gZ_ok g), va_recvE hZ.2.2.2.2.2.2.1 hi hS, x_pre (gZ_ok g) hP hK hD hS hA hZ [] [] rfl rfl rfl⟩ rfl rfl hl.1 rfl (lv_room (Nat.le_of_ble_eq_true rfl)) d_La_isNoNumber_16 ⟨Nat.le_of_ble_eq_true rfl, Nat.le_of_ble_eq_true rfl⟩) hP hD hS hA [] [] rfl rfl rfl (by decide) (fun r_16 u_16 H locs hw_16 hP hD hS => ?_)
    replace hw_16 := hw_16.symm
    subst hw_16
    have hP : va_P D vwCl [] H := hP
    have hD : va_D A [] := hD
    refine lv_lconst (v := 0) hx hb d_La_isNoNumber_19 (by decide) ?_
    refine W.lcmp hx hb d_La_isNoNumber_20 ?_
    refine lv_if_eq (tgt := 28) hx hb d_La_isNoNumber_21 (by decide) (fun c_21 => ?_) (fun c_21 => ?_)
    · replace c_21 := (lg_cmp_eq _ _).mp c_21
      refine lv_iconst (v := 0) hx hb d_La_isNoNumber_28 (by decide) ?_
      exact W.zret (v := 0) (ty := .boolean) hx hb hr (by decide) (fun t9 ht9 hW9 => ⟨⟨0, (() : Unit), rfl, by rw [nnI, decide_eq_false (by first | exact fun z => c_11 z.1 | exact fun z => z.2 c_21)]; rfl, by rw [ht9]; exact hP.sub [] rfl, va_K.moved hW9.alike hK, hD.sub [] (by decide) rfl⟩, hS.F ht9⟩) hS.2.2 d_La_isNoNumber_29
    · replace c_21 := mt (lg_cmp_eq _ _).mpr c_21
      refine lv_iconst (v := 1) hx hb d_La_isNoNumber_24 (by decide) ?_
      refine lv_goto (tgt := 29) hx hb d_La_isNoNumber_25 (by decide) ?_
      exact W.zret (v := 1) (ty := .boolean) hx hb hr (by decide) (fun t9 ht9 hW9 => ⟨⟨1, (() : Unit), rfl, by rw [nnI, decide_eq_true ⟨c_11, c_21⟩]; rfl, by rw [ht9]; exact hP.sub [] rfl, va_K.moved hW9.alike hK, hD.sub [] (by decide) rfl⟩, hS.F ht9⟩) hS.2.2 d_La_isNoNumber_29
set_option maxHeartbeats 4000000 in
set_option maxRecDepth 100000 in
theorem k_La_magnitudeBits (l : Launch) (D : va_G) (g : GP) (i : Nat) (a : UInt64) (hi : i < 2) (hn : dN a) (sz : Nat) : Met l y_La_magnitudeBits (.code y_La_magnitudeBits c_La_magnitudeBits 6 (some .long) :: xW) ({ frames := 1, cells := 0, slots := 0, locals := 20 }) (xPc (gZ g) D vwCl [.ref (g.1 i), .double a] [] [] sz) (va_Ql (fun (r : Int64) (u : Unit) => r = mgb i a) (xB D vwCl [] (fun u : Unit => []) (va_A [] sz)) (va_A [] sz)) 0 0 (va_A [] sz) := by
  refine x_open (Qc := fun A => va_Ql (fun (r : Int64) (u : Unit) => r = mgb i a) (xB D vwCl [] (fun u : Unit => []) A) A) (cc := c_La_magnitudeBits) (maxL := 6) (ret := (some .long)) (own := R_La) (by decide) rfl rfl (Nat.le_of_ble_eq_true rfl) ?_
  intro p e s m below meth cd A ls hsz hAe hx hb hr hml hown hts hlk hnm hA hP hK hD hS hZ hl
  clear hsz hAe
  have hW : ∀ w ∈ xW, w.before _ s = true := fun w h => hts w (List.mem_cons_of_mem _ h)
  have hl : lv_has ls 6 [(0, .ref (g.1 i)), (1, .double a)] := hl
  have hlb := lb_in (i := i)
  have hlw := lw_in (i := i)
  have hlz := lz_in (i := i)
  refine lv_dload_n hx hb d_La_magnitudeBits_0 rfl (lv_at hl 1 rfl) ?_
  refine lv_ldc2d (v := DM) hx hb hown (hW _ mw_350) d_La_magnitudeBits_1 ?_
  refine lv_dcmp hx hb d_La_magnitudeBits_4 ?_
  refine lv_if_le (tgt := 19) hx hb d_La_magnitudeBits_5 (by decide) (fun c_5 => ?_) (fun c_5 => ?_)
  · refine lv_dload_n hx hb d_La_magnitudeBits_19 rfl (lv_at hl 1 rfl) ?_
    refine lv_dstore_n (lv' := [(3, .double a), (0, .ref (g.1 i)), (1, .double a)]) hx hb d_La_magnitudeBits_20 rfl hl (by decide) rfl (fun ls hl => ?_)
    refine lv_aload_n hx hb d_La_magnitudeBits_21 rfl (lv_at hl 1 rfl) ?_
    refine va_getE (i := i) (q := ("WireData$Layout", "bias", "I", [127, 1023])) hx hb hZ.2.2.2.2.2.2.1 hi hS hown (by decide) (hW _ mw_783) (fun _ h9 => h9) d_La_magnitudeBits_22 ?_
    refine x_topi (y := nI (lb i)) (lb_v hi) ?_
    refine lv_istore (lv' := [(5, .int (nI (lb i))), (3, .double a), (0, .ref (g.1 i)), (1, .double a)]) hx hb d_La_magnitudeBits_25 hl (by decide) rfl (fun ls hl => ?_)
    have hlp_27 : ∀ (n : Nat) (xx : Nat) (a9 : UInt64), (xx ≤ lb i) → (dN a9) → ((hv (lb i - xx) a9).1 = (hv (lb i) a).1) → (xx + (hv (lb i - xx) a9).2 = (hv (lb i) a).2) → lb i - xx < n → ∀ (H : Heap) (locs : List Loc), va_P D vwCl [] H → va_D A [] → va_S A s.heap H locs → ∀ (ls : Array Slot), lv_has ls 6 [(5, .int (nI (lb i + xx))), (3, .double a9), (0, .ref (g.1 i)), (1, .double a)] → W p l e ({ frames := 1, cells := 0, slots := 0, locals := 20 }) s m [.ref (g.1 i), .double a].toArray below meth cd H locs 0 0 (MQ below ((fun A => va_Ql (fun (r : Int64) (u : Unit) => r = mgb i a) (xB D vwCl [] (fun u : Unit => []) A) A) A) [.ref (g.1 i), .double a].toArray s 0 0 A) (F0 m 27 ls []) := by
      intro n
      induction n with
      | zero => intro xx a9 hxx hNa he1 he2 hms; exact absurd hms (Nat.not_lt_zero _)
      | succ n ih =>
        intro xx a9 hxx hNa he1 he2 hms H locs hP hD hS ls hl
        refine lv_dload_n hx hb d_La_magnitudeBits_27 rfl (lv_at hl 1 rfl) ?_
        refine lv_ldc2d (v := D2) hx hb hown (hW _ mw_351) d_La_magnitudeBits_28 ?_
        refine lv_dcmp hx hb d_La_magnitudeBits_31 ?_
        refine lv_if_lt (tgt := 58) hx hb d_La_magnitudeBits_32 (by decide) (fun c_32 => ?_) (fun c_32 => ?_)
        · have e_h : hv (lb i) a = (a9, xx) := Prod.ext (by rw [← he1, hv_e c_32]) (by rw [← he2, hv_e c_32]; rfl)
          have hlp_58 : ∀ (n : Nat) (yy : Nat) (b9 : UInt64), (yy ≤ lb i + xx - 1) → (dN b9) → ((dv (lb i + xx - 1 - yy) b9).1 = (dv (lb i + xx - 1) a9).1) → (yy + (dv (lb i + xx - 1 - yy) b9).2 = (dv (lb i + xx - 1) a9).2) → lb i + xx - 1 - yy < n → ∀ (H : Heap) (locs : List Loc), va_P D vwCl [] H → va_D A [] → va_S A s.heap H locs → ∀ (ls : Array Slot), lv_has ls 6 [(5, .int (nI (lb i + xx - yy))), (3, .double b9), (0, .ref (g.1 i)), (1, .double a)] → W p l e ({ frames := 1, cells := 0, slots := 0, locals := 20 }) s m [.ref (g.1 i), .double a].toArray below meth cd H locs 0 0 (MQ below ((fun A => va_Ql (fun (r : Int64) (u : Unit) => r = mgb i a) (xB D vwCl [] (fun u : Unit => []) A) A) A) [.ref (g.1 i), .double a].toArray s 0 0 A) (F0 m 58 ls []) := by
            intro n
            induction n with
            | zero => intro yy b9 hyy hNb hf1 hf2 hms; exact absurd hms (Nat.not_lt_zero _)
            | succ n ih =>
              intro yy b9 hyy hNb hf1 hf2 hms H locs hP hD hS ls hl
              refine lv_dload_n hx hb d_La_magnitudeBits_58 rfl (lv_at hl 1 rfl) ?_
              refine lv_dconst1 hx hb d_La_magnitudeBits_59 ?_
              refine lv_dcmp hx hb d_La_magnitudeBits_60 ?_
              refine lv_if_ge (tgt := 82) hx hb d_La_magnitudeBits_61 (by decide) (fun c_61 => ?_) (fun c_61 => ?_)
              · have e_d : (dv (lb i + xx - 1) a9) = (b9, yy) := Prod.ext (by rw [← hf1, dv_e c_61]) (by rw [← hf2, dv_e c_61]; rfl)
                refine lv_dload_n hx hb d_La_magnitudeBits_82 rfl (lv_at hl 1 rfl) ?_
                refine lv_dconst1 hx hb d_La_magnitudeBits_83 ?_
                refine lv_dcmp hx hb d_La_magnitudeBits_84 ?_
                refine lv_if_ge (tgt := 97) hx hb d_La_magnitudeBits_85 (by decide) (fun c_85 => ?_) (fun c_85 => ?_)
                · refine lv_iload hx hb d_La_magnitudeBits_97 (lv_at hl 0 rfl) ?_
                  refine lv_i2l (v := (nI (lb i + xx - yy)).toInt64) hx hb d_La_magnitudeBits_99 rfl ?_
                  refine lv_aload_n hx hb d_La_magnitudeBits_100 rfl (lv_at hl 2 rfl) ?_
                  refine x_calll (D := D) (wc := []) (wr := []) (va_runV (C := R_La) (As := []) (rest := [.long ((nI (lb i + xx - yy)).toInt64)]) ⟨hx, hb, hml, hown, hW⟩ (k_La_one l D g i hi H.size) (cwV 0 hW (gWV mw_330 mw_332 mw_11 mw_61 mw_333) rfl rfl rfl (by decide +kernel) ⟨Nat.le_of_ble_eq_true rfl, Nat.le_of_ble_eq_true rfl⟩) ⟨xPc_blind (gZ_ok g), va_recvE hZ.2.2.2.2.2.2.1 hi hS, x_pre (gZ_ok g) hP hK hD hS hA hZ [] [] rfl rfl rfl⟩ rfl rfl hl.1 rfl (lv_room (Nat.le_of_ble_eq_true rfl)) d_La_magnitudeBits_101 ⟨Nat.le_of_ble_eq_true rfl, Nat.le_of_ble_eq_true rfl⟩) hP hD hS hA [] [] rfl rfl rfl (by decide) (fun r_101 u_101 H locs hw_101 hP hD hS => ?_)
                  replace hw_101 := hw_101.symm
                  subst hw_101
                  have hP : va_P D vwCl [] H := hP
                  have hD : va_D A [] := hD
                  refine lv_lmul hx hb d_La_magnitudeBits_104 ?_
                  refine lv_dload_n hx hb d_La_magnitudeBits_105 rfl (lv_at hl 1 rfl) ?_
                  refine lv_dconst1 hx hb d_La_magnitudeBits_106 ?_
                  refine lv_dsub hx hb d_La_magnitudeBits_107 (dN_n (dN_sub1 hNb)) ?_
                  refine lv_aload_n hx hb d_La_magnitudeBits_108 rfl (lv_at hl 2 rfl) ?_
                  refine x_calll (D := D) (wc := []) (wr := []) (va_runV (C := R_La) (As := []) (rest := [.double (FP.dsub b9 FP.dconst1), .long (((nI (lb i + xx - yy)).toInt64) * (lN (2 ^ lw i)))]) ⟨hx, hb, hml, hown, hW⟩ (k_La_one l D g i hi H.size) (cwV 0 hW (gWV mw_330 mw_332 mw_11 mw_61 mw_333) rfl rfl rfl (by decide +kernel) ⟨Nat.le_of_ble_eq_true rfl, Nat.le_of_ble_eq_true rfl⟩) ⟨xPc_blind (gZ_ok g), va_recvE hZ.2.2.2.2.2.2.1 hi hS, x_pre (gZ_ok g) hP hK hD hS hA hZ [] [] rfl rfl rfl⟩ rfl rfl hl.1 rfl (lv_room (Nat.le_of_ble_eq_true rfl)) d_La_magnitudeBits_109 ⟨Nat.le_of_ble_eq_true rfl, Nat.le_of_ble_eq_true rfl⟩) hP hD hS hA [] [] rfl rfl rfl (by decide) (fun r_109 u_109 H locs hw_109 hP hD hS => ?_)
                  replace hw_109 := hw_109.symm
                  subst hw_109
                  have hP : va_P D vwCl [] H := hP
                  have hD : va_D A [] := hD
                  refine lv_l2d hx hb d_La_magnitudeBits_112 ?_
                  refine lv_dmul hx hb d_La_magnitudeBits_113 (dN_n (dN_mulw (dN_sub1 hNb) one_nz)) ?_
                  refine lv_d2l hx hb d_La_magnitudeBits_114 ?_
                  refine lv_ladd hx hb d_La_magnitudeBits_115 ?_
                  have e_mg : mgv i a = (b9, yy) := by rw [mgv, e_h]; exact e_d
                  exact W.lret (v := (((nI (lb i + xx - yy)).toInt64) * (lN (2 ^ lw i))) + (FP.d2l (FP.dmul (FP.dsub b9 FP.dconst1) (FP.l2d (lN (2 ^ lw i)))))) hx hb hr (fun t9 ht9 hW9 => ⟨⟨(((nI (lb i + xx - yy)).toInt64) * (lN (2 ^ lw i))) + (FP.d2l (FP.dmul (FP.dsub b9 FP.dconst1) (FP.l2d (lN (2 ^ lw i))))), (() : Unit), rfl, by rw [mgb, if_pos c_5, e_mg, if_pos c_85, e_h], by rw [ht9]; exact hP.sub [] rfl, va_K.moved hW9.alike hK, hD.sub [] (by decide) rfl⟩, hS.F ht9⟩) hS.2.2 d_La_magnitudeBits_116
                · refine lv_dload_n hx hb d_La_magnitudeBits_88 rfl (lv_at hl 1 rfl) ?_
                  refine lv_aload_n hx hb d_La_magnitudeBits_89 rfl (lv_at hl 2 rfl) ?_
                  refine x_calll (D := D) (wc := []) (wr := []) (va_runV (C := R_La) (As := []) (rest := [.double b9]) ⟨hx, hb, hml, hown, hW⟩ (k_La_one l D g i hi H.size) (cwV 0 hW (gWV mw_330 mw_332 mw_11 mw_61 mw_333) rfl rfl rfl (by decide +kernel) ⟨Nat.le_of_ble_eq_true rfl, Nat.le_of_ble_eq_true rfl⟩) ⟨xPc_blind (gZ_ok g), va_recvE hZ.2.2.2.2.2.2.1 hi hS, x_pre (gZ_ok g) hP hK hD hS hA hZ [] [] rfl rfl rfl⟩ rfl rfl hl.1 rfl (lv_room (Nat.le_of_ble_eq_true rfl)) d_La_magnitudeBits_90 ⟨Nat.le_of_ble_eq_true rfl, Nat.le_of_ble_eq_true rfl⟩) hP hD hS hA [] [] rfl rfl rfl (by decide) (fun r_90 u_90 H locs hw_90 hP hD hS => ?_)
                  replace hw_90 := hw_90.symm
                  subst hw_90
                  have hP : va_P D vwCl [] H := hP
                  have hD : va_D A [] := hD
                  refine lv_l2d hx hb d_La_magnitudeBits_93 ?_
                  refine lv_dmul hx hb d_La_magnitudeBits_94 (dN_n (dN_mulw hNb one_nz)) ?_
                  refine lv_d2l hx hb d_La_magnitudeBits_95 ?_
                  have e_mg : mgv i a = (b9, yy) := by rw [mgv, e_h]; exact e_d
                  exact W.lret (v := FP.d2l (FP.dmul b9 (FP.l2d (lN (2 ^ lw i))))) hx hb hr (fun t9 ht9 hW9 => ⟨⟨FP.d2l (FP.dmul b9 (FP.l2d (lN (2 ^ lw i)))), (() : Unit), rfl, by rw [mgb, if_pos c_5, e_mg, if_neg c_85], by rw [ht9]; exact hP.sub [] rfl, va_K.moved hW9.alike hK, hD.sub [] (by decide) rfl⟩, hS.F ht9⟩) hS.2.2 d_La_magnitudeBits_96
              · refine lv_iload hx hb d_La_magnitudeBits_64 (lv_at hl 0 rfl) ?_
                refine lv_iconst (v := 1) hx hb d_La_magnitudeBits_66 (by decide) ?_
                refine lv_icmp_le (tgt := 82) hx hb d_La_magnitudeBits_67 (by decide) (fun c_67 => ?_) (fun c_67 => ?_)
                · replace c_67 := (cg_le (lb i + xx - yy) 1 rfl rfl (by omega) (by omega)).mp c_67
                  have e_d : (dv (lb i + xx - 1) a9) = (b9, yy) := Prod.ext (by rw [← hf1, show lb i + xx - 1 - yy = 0 by omega]; rfl) (by rw [← hf2, show lb i + xx - 1 - yy = 0 by omega]; rfl)
                  refine lv_dload_n hx hb d_La_magnitudeBits_82 rfl (lv_at hl 1 rfl) ?_
                  refine lv_dconst1 hx hb d_La_magnitudeBits_83 ?_
                  refine lv_dcmp hx hb d_La_magnitudeBits_84 ?_
                  refine lv_if_ge (tgt := 97) hx hb d_La_magnitudeBits_85 (by decide) (fun c_85 => ?_) (fun c_85 => ?_)
                  · refine lv_iload hx hb d_La_magnitudeBits_97 (lv_at hl 0 rfl) ?_
                    refine lv_i2l (v := (nI (lb i + xx - yy)).toInt64) hx hb d_La_magnitudeBits_99 rfl ?_
                    refine lv_aload_n hx hb d_La_magnitudeBits_100 rfl (lv_at hl 2 rfl) ?_
                    refine x_calll (D := D) (wc := []) (wr := []) (va_runV (C := R_La) (As := []) (rest := [.long ((nI (lb i + xx - yy)).toInt64)]) ⟨hx, hb, hml, hown, hW⟩ (k_La_one l D g i hi H.size) (cwV 0 hW (gWV mw_330 mw_332 mw_11 mw_61 mw_333) rfl rfl rfl (by decide +kernel) ⟨Nat.le_of_ble_eq_true rfl, Nat.le_of_ble_eq_true rfl⟩) ⟨xPc_blind (gZ_ok g), va_recvE hZ.2.2.2.2.2.2.1 hi hS, x_pre (gZ_ok g) hP hK hD hS hA hZ [] [] rfl rfl rfl⟩ rfl rfl hl.1 rfl (lv_room (Nat.le_of_ble_eq_true rfl)) d_La_magnitudeBits_101 ⟨Nat.le_of_ble_eq_true rfl, Nat.le_of_ble_eq_true rfl⟩) hP hD hS hA [] [] rfl rfl rfl (by decide) (fun r_101 u_101 H locs hw_101 hP hD hS => ?_)
                    replace hw_101 := hw_101.symm
                    subst hw_101
                    have hP : va_P D vwCl [] H := hP
                    have hD : va_D A [] := hD
                    refine lv_lmul hx hb d_La_magnitudeBits_104 ?_
                    refine lv_dload_n hx hb d_La_magnitudeBits_105 rfl (lv_at hl 1 rfl) ?_
                    refine lv_dconst1 hx hb d_La_magnitudeBits_106 ?_
                    refine lv_dsub hx hb d_La_magnitudeBits_107 (dN_n (dN_sub1 hNb)) ?_
                    refine lv_aload_n hx hb d_La_magnitudeBits_108 rfl (lv_at hl 2 rfl) ?_
                    refine x_calll (D := D) (wc := []) (wr := []) (va_runV (C := R_La) (As := []) (rest := [.double (FP.dsub b9 FP.dconst1), .long (((nI (lb i + xx - yy)).toInt64) * (lN (2 ^ lw i)))]) ⟨hx, hb, hml, hown, hW⟩ (k_La_one l D g i hi H.size) (cwV 0 hW (gWV mw_330 mw_332 mw_11 mw_61 mw_333) rfl rfl rfl (by decide +kernel) ⟨Nat.le_of_ble_eq_true rfl, Nat.le_of_ble_eq_true rfl⟩) ⟨xPc_blind (gZ_ok g), va_recvE hZ.2.2.2.2.2.2.1 hi hS, x_pre (gZ_ok g) hP hK hD hS hA hZ [] [] rfl rfl rfl⟩ rfl rfl hl.1 rfl (lv_room (Nat.le_of_ble_eq_true rfl)) d_La_magnitudeBits_109 ⟨Nat.le_of_ble_eq_true rfl, Nat.le_of_ble_eq_true rfl⟩) hP hD hS hA [] [] rfl rfl rfl (by decide) (fun r_109 u_109 H locs hw_109 hP hD hS => ?_)
                    replace hw_109 := hw_109.symm
                    subst hw_109
                    have hP : va_P D vwCl [] H := hP
                    have hD : va_D A [] := hD
                    refine lv_l2d hx hb d_La_magnitudeBits_112 ?_
                    refine lv_dmul hx hb d_La_magnitudeBits_113 (dN_n (dN_mulw (dN_sub1 hNb) one_nz)) ?_
                    refine lv_d2l hx hb d_La_magnitudeBits_114 ?_
                    refine lv_ladd hx hb d_La_magnitudeBits_115 ?_
                    have e_mg : mgv i a = (b9, yy) := by rw [mgv, e_h]; exact e_d
                    exact W.lret (v := (((nI (lb i + xx - yy)).toInt64) * (lN (2 ^ lw i))) + (FP.d2l (FP.dmul (FP.dsub b9 FP.dconst1) (FP.l2d (lN (2 ^ lw i)))))) hx hb hr (fun t9 ht9 hW9 => ⟨⟨(((nI (lb i + xx - yy)).toInt64) * (lN (2 ^ lw i))) + (FP.d2l (FP.dmul (FP.dsub b9 FP.dconst1) (FP.l2d (lN (2 ^ lw i))))), (() : Unit), rfl, by rw [mgb, if_pos c_5, e_mg, if_pos c_85, e_h], by rw [ht9]; exact hP.sub [] rfl, va_K.moved hW9.alike hK, hD.sub [] (by decide) rfl⟩, hS.F ht9⟩) hS.2.2 d_La_magnitudeBits_116
                  · refine lv_dload_n hx hb d_La_magnitudeBits_88 rfl (lv_at hl 1 rfl) ?_
                    refine lv_aload_n hx hb d_La_magnitudeBits_89 rfl (lv_at hl 2 rfl) ?_
                    refine x_calll (D := D) (wc := []) (wr := []) (va_runV (C := R_La) (As := []) (rest := [.double b9]) ⟨hx, hb, hml, hown, hW⟩ (k_La_one l D g i hi H.size) (cwV 0 hW (gWV mw_330 mw_332 mw_11 mw_61 mw_333) rfl rfl rfl (by decide +kernel) ⟨Nat.le_of_ble_eq_true rfl, Nat.le_of_ble_eq_true rfl⟩) ⟨xPc_blind (gZ_ok g), va_recvE hZ.2.2.2.2.2.2.1 hi hS, x_pre (gZ_ok g) hP hK hD hS hA hZ [] [] rfl rfl rfl⟩ rfl rfl hl.1 rfl (lv_room (Nat.le_of_ble_eq_true rfl)) d_La_magnitudeBits_90 ⟨Nat.le_of_ble_eq_true rfl, Nat.le_of_ble_eq_true rfl⟩) hP hD hS hA [] [] rfl rfl rfl (by decide) (fun r_90 u_90 H locs hw_90 hP hD hS => ?_)
                    replace hw_90 := hw_90.symm
                    subst hw_90
                    have hP : va_P D vwCl [] H := hP
                    have hD : va_D A [] := hD
                    refine lv_l2d hx hb d_La_magnitudeBits_93 ?_
                    refine lv_dmul hx hb d_La_magnitudeBits_94 (dN_n (dN_mulw hNb one_nz)) ?_
                    refine lv_d2l hx hb d_La_magnitudeBits_95 ?_
                    have e_mg : mgv i a = (b9, yy) := by rw [mgv, e_h]; exact e_d
                    exact W.lret (v := FP.d2l (FP.dmul b9 (FP.l2d (lN (2 ^ lw i))))) hx hb hr (fun t9 ht9 hW9 => ⟨⟨FP.d2l (FP.dmul b9 (FP.l2d (lN (2 ^ lw i)))), (() : Unit), rfl, by rw [mgb, if_pos c_5, e_mg, if_neg c_85], by rw [ht9]; exact hP.sub [] rfl, va_K.moved hW9.alike hK, hD.sub [] (by decide) rfl⟩, hS.F ht9⟩) hS.2.2 d_La_magnitudeBits_96
                · replace c_67 := mt (cg_le (lb i + xx - yy) 1 rfl rfl (by omega) (by omega)).mpr c_67
                  refine lv_dload_n hx hb d_La_magnitudeBits_70 rfl (lv_at hl 1 rfl) ?_
                  refine lv_ldc2d (v := D2) hx hb hown (hW _ mw_351) d_La_magnitudeBits_71 ?_
                  refine lv_dmul hx hb d_La_magnitudeBits_74 (dN_n (dN_2 hNb)) ?_
                  refine lv_dstore_n (lv' := [(3, .double (FP.dmul b9 D2)), (5, .int (nI (lb i + xx - yy))), (0, .ref (g.1 i)), (1, .double a)]) hx hb d_La_magnitudeBits_75 rfl hl (by decide) rfl (fun ls hl => ?_)
                  refine lv_iinc (v := nI (lb i + xx - yy - 1)) (lv' := [(5, .int (nI (lb i + xx - yy - 1))), (3, .double (FP.dmul b9 D2)), (0, .ref (g.1 i)), (1, .double a)]) hx hb d_La_magnitudeBits_76 hl (k := 1) rfl (sb_m1 (by omega)) (by decide) rfl (fun ls hl => ?_)
                  refine lv_goto (tgt := 58) hx hb d_La_magnitudeBits_79 (by decide) ?_
                  exact ih (yy + 1) (FP.dmul b9 D2) (by omega) (dN_2 hNb) (by rw [← hf1, dv_s (n := lb i + xx - 1 - yy) (by omega) c_61]; rfl) (by rw [← hf2, dv_s (n := lb i + xx - 1 - yy) (by omega) c_61, Nat.add_assoc, Nat.add_comm 1]; rfl) (by omega) H locs (hP.sub [] rfl) (hD.sub [] (by decide) rfl) hS ls (lv_sub hl [0, 1, 2, 3] rfl)
          exact hlp_58 _ 0 a9 (Nat.zero_le _) hNa rfl (Nat.zero_add _) (Nat.lt_succ_self _) H locs (hP.sub [] rfl) (hD.sub [] (by decide) rfl) hS ls (lv_sub hl [0, 1, 2, 3] rfl)
        · refine lv_iload hx hb d_La_magnitudeBits_35 (lv_at hl 0 rfl) ?_
          refine lv_aload_n hx hb d_La_magnitudeBits_37 rfl (lv_at hl 2 rfl) ?_
          refine x_calli (D := D) (wc := []) (wr := []) (va_runV (C := R_La) (As := []) (rest := [.int (nI (lb i + xx))]) ⟨hx, hb, hml, hown, hW⟩ (k_La_allOnes l D g i hi H.size) (cwV 0 hW (gWV mw_326 mw_328 mw_10 mw_61 mw_329) rfl rfl rfl (by decide +kernel) ⟨Nat.le_of_ble_eq_true rfl, Nat.le_of_ble_eq_true rfl⟩) ⟨xPc_blind (gZ_ok g), va_recvE hZ.2.2.2.2.2.2.1 hi hS, x_pre (gZ_ok g) hP hK hD hS hA hZ [] [] rfl rfl rfl⟩ rfl rfl hl.1 rfl (lv_room (Nat.le_of_ble_eq_true rfl)) d_La_magnitudeBits_38 ⟨Nat.le_of_ble_eq_true rfl, Nat.le_of_ble_eq_true rfl⟩) hP hD hS hA [] [] rfl rfl rfl (by decide) (fun r_38 u_38 H locs hw_38 hP hD hS => ?_)
          replace hw_38 := hw_38.symm
          subst hw_38
          have hP : va_P D vwCl [] H := hP
          have hD : va_D A [] := hD
          refine lv_iconst (v := 1) hx hb d_La_magnitudeBits_41 (by decide) ?_
          refine lv_isub hx hb d_La_magnitudeBits_42 ?_
          refine x_topi (y := nI (2 * lb i)) (nI_pred _) ?_
          refine lv_icmp_ge (tgt := 58) hx hb d_La_magnitudeBits_43 (by decide) (fun c_43 => ?_) (fun c_43 => ?_)
          · replace c_43 := (cg_le (2 * lb i) (lb i + xx) rfl rfl (by omega) (by omega)).mp c_43
            have e_h : hv (lb i) a = (a9, xx) := Prod.ext (by rw [← he1, show lb i - xx = 0 by omega]; rfl) (by rw [← he2, show lb i - xx = 0 by omega]; rfl)
            have hlp_58 : ∀ (n : Nat) (yy : Nat) (b9 : UInt64), (yy ≤ lb i + xx - 1) → (dN b9) → ((dv (lb i + xx - 1 - yy) b9).1 = (dv (lb i + xx - 1) a9).1) → (yy + (dv (lb i + xx - 1 - yy) b9).2 = (dv (lb i + xx - 1) a9).2) → lb i + xx - 1 - yy < n → ∀ (H : Heap) (locs : List Loc), va_P D vwCl [] H → va_D A [] → va_S A s.heap H locs → ∀ (ls : Array Slot), lv_has ls 6 [(5, .int (nI (lb i + xx - yy))), (3, .double b9), (0, .ref (g.1 i)), (1, .double a)] → W p l e ({ frames := 1, cells := 0, slots := 0, locals := 20 }) s m [.ref (g.1 i), .double a].toArray below meth cd H locs 0 0 (MQ below ((fun A => va_Ql (fun (r : Int64) (u : Unit) => r = mgb i a) (xB D vwCl [] (fun u : Unit => []) A) A) A) [.ref (g.1 i), .double a].toArray s 0 0 A) (F0 m 58 ls []) := by
              intro n
              induction n with
              | zero => intro yy b9 hyy hNb hf1 hf2 hms; exact absurd hms (Nat.not_lt_zero _)
              | succ n ih =>
                intro yy b9 hyy hNb hf1 hf2 hms H locs hP hD hS ls hl
                refine lv_dload_n hx hb d_La_magnitudeBits_58 rfl (lv_at hl 1 rfl) ?_
                refine lv_dconst1 hx hb d_La_magnitudeBits_59 ?_
                refine lv_dcmp hx hb d_La_magnitudeBits_60 ?_
                refine lv_if_ge (tgt := 82) hx hb d_La_magnitudeBits_61 (by decide) (fun c_61 => ?_) (fun c_61 => ?_)
                · have e_d : (dv (lb i + xx - 1) a9) = (b9, yy) := Prod.ext (by rw [← hf1, dv_e c_61]) (by rw [← hf2, dv_e c_61]; rfl)
                  refine lv_dload_n hx hb d_La_magnitudeBits_82 rfl (lv_at hl 1 rfl) ?_
                  refine lv_dconst1 hx hb d_La_magnitudeBits_83 ?_
                  refine lv_dcmp hx hb d_La_magnitudeBits_84 ?_
                  refine lv_if_ge (tgt := 97) hx hb d_La_magnitudeBits_85 (by decide) (fun c_85 => ?_) (fun c_85 => ?_)
                  · refine lv_iload hx hb d_La_magnitudeBits_97 (lv_at hl 0 rfl) ?_
                    refine lv_i2l (v := (nI (lb i + xx - yy)).toInt64) hx hb d_La_magnitudeBits_99 rfl ?_
                    refine lv_aload_n hx hb d_La_magnitudeBits_100 rfl (lv_at hl 2 rfl) ?_
                    refine x_calll (D := D) (wc := []) (wr := []) (va_runV (C := R_La) (As := []) (rest := [.long ((nI (lb i + xx - yy)).toInt64)]) ⟨hx, hb, hml, hown, hW⟩ (k_La_one l D g i hi H.size) (cwV 0 hW (gWV mw_330 mw_332 mw_11 mw_61 mw_333) rfl rfl rfl (by decide +kernel) ⟨Nat.le_of_ble_eq_true rfl, Nat.le_of_ble_eq_true rfl⟩) ⟨xPc_blind (gZ_ok g), va_recvE hZ.2.2.2.2.2.2.1 hi hS, x_pre (gZ_ok g) hP hK hD hS hA hZ [] [] rfl rfl rfl⟩ rfl rfl hl.1 rfl (lv_room (Nat.le_of_ble_eq_true rfl)) d_La_magnitudeBits_101 ⟨Nat.le_of_ble_eq_true rfl, Nat.le_of_ble_eq_true rfl⟩) hP hD hS hA [] [] rfl rfl rfl (by decide) (fun r_101 u_101 H locs hw_101 hP hD hS => ?_)
                    replace hw_101 := hw_101.symm
                    subst hw_101
                    have hP : va_P D vwCl [] H := hP
                    have hD : va_D A [] := hD
                    refine lv_lmul hx hb d_La_magnitudeBits_104 ?_
                    refine lv_dload_n hx hb d_La_magnitudeBits_105 rfl (lv_at hl 1 rfl) ?_
                    refine lv_dconst1 hx hb d_La_magnitudeBits_106 ?_
                    refine lv_dsub hx hb d_La_magnitudeBits_107 (dN_n (dN_sub1 hNb)) ?_
                    refine lv_aload_n hx hb d_La_magnitudeBits_108 rfl (lv_at hl 2 rfl) ?_
                    refine x_calll (D := D) (wc := []) (wr := []) (va_runV (C := R_La) (As := []) (rest := [.double (FP.dsub b9 FP.dconst1), .long (((nI (lb i + xx - yy)).toInt64) * (lN (2 ^ lw i)))]) ⟨hx, hb, hml, hown, hW⟩ (k_La_one l D g i hi H.size) (cwV 0 hW (gWV mw_330 mw_332 mw_11 mw_61 mw_333) rfl rfl rfl (by decide +kernel) ⟨Nat.le_of_ble_eq_true rfl, Nat.le_of_ble_eq_true rfl⟩) ⟨xPc_blind (gZ_ok g), va_recvE hZ.2.2.2.2.2.2.1 hi hS, x_pre (gZ_ok g) hP hK hD hS hA hZ [] [] rfl rfl rfl⟩ rfl rfl hl.1 rfl (lv_room (Nat.le_of_ble_eq_true rfl)) d_La_magnitudeBits_109 ⟨Nat.le_of_ble_eq_true rfl, Nat.le_of_ble_eq_true rfl⟩) hP hD hS hA [] [] rfl rfl rfl (by decide) (fun r_109 u_109 H locs hw_109 hP hD hS => ?_)
                    replace hw_109 := hw_109.symm
                    subst hw_109
                    have hP : va_P D vwCl [] H := hP
                    have hD : va_D A [] := hD
                    refine lv_l2d hx hb d_La_magnitudeBits_112 ?_
                    refine lv_dmul hx hb d_La_magnitudeBits_113 (dN_n (dN_mulw (dN_sub1 hNb) one_nz)) ?_
                    refine lv_d2l hx hb d_La_magnitudeBits_114 ?_
                    refine lv_ladd hx hb d_La_magnitudeBits_115 ?_
                    have e_mg : mgv i a = (b9, yy) := by rw [mgv, e_h]; exact e_d
                    exact W.lret (v := (((nI (lb i + xx - yy)).toInt64) * (lN (2 ^ lw i))) + (FP.d2l (FP.dmul (FP.dsub b9 FP.dconst1) (FP.l2d (lN (2 ^ lw i)))))) hx hb hr (fun t9 ht9 hW9 => ⟨⟨(((nI (lb i + xx - yy)).toInt64) * (lN (2 ^ lw i))) + (FP.d2l (FP.dmul (FP.dsub b9 FP.dconst1) (FP.l2d (lN (2 ^ lw i))))), (() : Unit), rfl, by rw [mgb, if_pos c_5, e_mg, if_pos c_85, e_h], by rw [ht9]; exact hP.sub [] rfl, va_K.moved hW9.alike hK, hD.sub [] (by decide) rfl⟩, hS.F ht9⟩) hS.2.2 d_La_magnitudeBits_116
                  · refine lv_dload_n hx hb d_La_magnitudeBits_88 rfl (lv_at hl 1 rfl) ?_
                    refine lv_aload_n hx hb d_La_magnitudeBits_89 rfl (lv_at hl 2 rfl) ?_
                    refine x_calll (D := D) (wc := []) (wr := []) (va_runV (C := R_La) (As := []) (rest := [.double b9]) ⟨hx, hb, hml, hown, hW⟩ (k_La_one l D g i hi H.size) (cwV 0 hW (gWV mw_330 mw_332 mw_11 mw_61 mw_333) rfl rfl rfl (by decide +kernel) ⟨Nat.le_of_ble_eq_true rfl, Nat.le_of_ble_eq_true rfl⟩) ⟨xPc_blind (gZ_ok g), va_recvE hZ.2.2.2.2.2.2.1 hi hS, x_pre (gZ_ok g) hP hK hD hS hA hZ [] [] rfl rfl rfl⟩ rfl rfl hl.1 rfl (lv_room (Nat.le_of_ble_eq_true rfl)) d_La_magnitudeBits_90 ⟨Nat.le_of_ble_eq_true rfl, Nat.le_of_ble_eq_true rfl⟩) hP hD hS hA [] [] rfl rfl rfl (by decide) (fun r_90 u_90 H locs hw_90 hP hD hS => ?_)
                    replace hw_90 := hw_90.symm
                    subst hw_90
                    have hP : va_P D vwCl [] H := hP
                    have hD : va_D A [] := hD
                    refine lv_l2d hx hb d_La_magnitudeBits_93 ?_
                    refine lv_dmul hx hb d_La_magnitudeBits_94 (dN_n (dN_mulw hNb one_nz)) ?_
                    refine lv_d2l hx hb d_La_magnitudeBits_95 ?_
                    have e_mg : mgv i a = (b9, yy) := by rw [mgv, e_h]; exact e_d
                    exact W.lret (v := FP.d2l (FP.dmul b9 (FP.l2d (lN (2 ^ lw i))))) hx hb hr (fun t9 ht9 hW9 => ⟨⟨FP.d2l (FP.dmul b9 (FP.l2d (lN (2 ^ lw i)))), (() : Unit), rfl, by rw [mgb, if_pos c_5, e_mg, if_neg c_85], by rw [ht9]; exact hP.sub [] rfl, va_K.moved hW9.alike hK, hD.sub [] (by decide) rfl⟩, hS.F ht9⟩) hS.2.2 d_La_magnitudeBits_96
                · refine lv_iload hx hb d_La_magnitudeBits_64 (lv_at hl 0 rfl) ?_
                  refine lv_iconst (v := 1) hx hb d_La_magnitudeBits_66 (by decide) ?_
                  refine lv_icmp_le (tgt := 82) hx hb d_La_magnitudeBits_67 (by decide) (fun c_67 => ?_) (fun c_67 => ?_)
                  · replace c_67 := (cg_le (lb i + xx - yy) 1 rfl rfl (by omega) (by omega)).mp c_67
                    have e_d : (dv (lb i + xx - 1) a9) = (b9, yy) := Prod.ext (by rw [← hf1, show lb i + xx - 1 - yy = 0 by omega]; rfl) (by rw [← hf2, show lb i + xx - 1 - yy = 0 by omega]; rfl)
                    refine lv_dload_n hx hb d_La_magnitudeBits_82 rfl (lv_at hl 1 rfl) ?_
                    refine lv_dconst1 hx hb d_La_magnitudeBits_83 ?_
                    refine lv_dcmp hx hb d_La_magnitudeBits_84 ?_
                    refine lv_if_ge (tgt := 97) hx hb d_La_magnitudeBits_85 (by decide) (fun c_85 => ?_) (fun c_85 => ?_)
                    · refine lv_iload hx hb d_La_magnitudeBits_97 (lv_at hl 0 rfl) ?_
                      refine lv_i2l (v := (nI (lb i + xx - yy)).toInt64) hx hb d_La_magnitudeBits_99 rfl ?_
                      refine lv_aload_n hx hb d_La_magnitudeBits_100 rfl (lv_at hl 2 rfl) ?_
                      refine x_calll (D := D) (wc := []) (wr := []) (va_runV (C := R_La) (As := []) (rest := [.long ((nI (lb i + xx - yy)).toInt64)]) ⟨hx, hb, hml, hown, hW⟩ (k_La_one l D g i hi H.size) (cwV 0 hW (gWV mw_330 mw_332 mw_11 mw_61 mw_333) rfl rfl rfl (by decide +kernel) ⟨Nat.le_of_ble_eq_true rfl, Nat.le_of_ble_eq_true rfl⟩) ⟨xPc_blind (gZ_ok g), va_recvE hZ.2.2.2.2.2.2.1 hi hS, x_pre (gZ_ok g) hP hK hD hS hA hZ [] [] rfl rfl rfl⟩ rfl rfl hl.1 rfl (lv_room (Nat.le_of_ble_eq_true rfl)) d_La_magnitudeBits_101 ⟨Nat.le_of_ble_eq_true rfl, Nat.le_of_ble_eq_true rfl⟩) hP hD hS hA [] [] rfl rfl rfl (by decide) (fun r_101 u_101 H locs hw_101 hP hD hS => ?_)
                      replace hw_101 := hw_101.symm
                      subst hw_101
                      have hP : va_P D vwCl [] H := hP
                      have hD : va_D A [] := hD
                      refine lv_lmul hx hb d_La_magnitudeBits_104 ?_
                      refine lv_dload_n hx hb d_La_magnitudeBits_105 rfl (lv_at hl 1 rfl) ?_
                      refine lv_dconst1 hx hb d_La_magnitudeBits_106 ?_
                      refine lv_dsub hx hb d_La_magnitudeBits_107 (dN_n (dN_sub1 hNb)) ?_
                      refine lv_aload_n hx hb d_La_magnitudeBits_108 rfl (lv_at hl 2 rfl) ?_
                      refine x_calll (D := D) (wc := []) (wr := []) (va_runV (C := R_La) (As := []) (rest := [.double (FP.dsub b9 FP.dconst1), .long (((nI (lb i + xx - yy)).toInt64) * (lN (2 ^ lw i)))]) ⟨hx, hb, hml, hown, hW⟩ (k_La_one l D g i hi H.size) (cwV 0 hW (gWV mw_330 mw_332 mw_11 mw_61 mw_333) rfl rfl rfl (by decide +kernel) ⟨Nat.le_of_ble_eq_true rfl, Nat.le_of_ble_eq_true rfl⟩) ⟨xPc_blind (gZ_ok g), va_recvE hZ.2.2.2.2.2.2.1 hi hS, x_pre (gZ_ok g) hP hK hD hS hA hZ [] [] rfl rfl rfl⟩ rfl rfl hl.1 rfl (lv_room (Nat.le_of_ble_eq_true rfl)) d_La_magnitudeBits_109 ⟨Nat.le_of_ble_eq_true rfl, Nat.le_of_ble_eq_true rfl⟩) hP hD hS hA [] [] rfl rfl rfl (by decide) (fun r_109 u_109 H locs hw_109 hP hD hS => ?_)
                      replace hw_109 := hw_109.symm
                      subst hw_109
                      have hP : va_P D vwCl [] H := hP
                      have hD : va_D A [] := hD
                      refine lv_l2d hx hb d_La_magnitudeBits_112 ?_
                      refine lv_dmul hx hb d_La_magnitudeBits_113 (dN_n (dN_mulw (dN_sub1 hNb) one_nz)) ?_
                      refine lv_d2l hx hb d_La_magnitudeBits_114 ?_
                      refine lv_ladd hx hb d_La_magnitudeBits_115 ?_
                      have e_mg : mgv i a = (b9, yy) := by rw [mgv, e_h]; exact e_d
                      exact W.lret (v := (((nI (lb i + xx - yy)).toInt64) * (lN (2 ^ lw i))) + (FP.d2l (FP.dmul (FP.dsub b9 FP.dconst1) (FP.l2d (lN (2 ^ lw i)))))) hx hb hr (fun t9 ht9 hW9 => ⟨⟨(((nI (lb i + xx - yy)).toInt64) * (lN (2 ^ lw i))) + (FP.d2l (FP.dmul (FP.dsub b9 FP.dconst1) (FP.l2d (lN (2 ^ lw i))))), (() : Unit), rfl, by rw [mgb, if_pos c_5, e_mg, if_pos c_85, e_h], by rw [ht9]; exact hP.sub [] rfl, va_K.moved hW9.alike hK, hD.sub [] (by decide) rfl⟩, hS.F ht9⟩) hS.2.2 d_La_magnitudeBits_116
                    · refine lv_dload_n hx hb d_La_magnitudeBits_88 rfl (lv_at hl 1 rfl) ?_
                      refine lv_aload_n hx hb d_La_magnitudeBits_89 rfl (lv_at hl 2 rfl) ?_
                      refine x_calll (D := D) (wc := []) (wr := []) (va_runV (C := R_La) (As := []) (rest := [.double b9]) ⟨hx, hb, hml, hown, hW⟩ (k_La_one l D g i hi H.size) (cwV 0 hW (gWV mw_330 mw_332 mw_11 mw_61 mw_333) rfl rfl rfl (by decide +kernel) ⟨Nat.le_of_ble_eq_true rfl, Nat.le_of_ble_eq_true rfl⟩) ⟨xPc_blind (gZ_ok g), va_recvE hZ.2.2.2.2.2.2.1 hi hS, x_pre (gZ_ok g) hP hK hD hS hA hZ [] [] rfl rfl rfl⟩ rfl rfl hl.1 rfl (lv_room (Nat.le_of_ble_eq_true rfl)) d_La_magnitudeBits_90 ⟨Nat.le_of_ble_eq_true rfl, Nat.le_of_ble_eq_true rfl⟩) hP hD hS hA [] [] rfl rfl rfl (by decide) (fun r_90 u_90 H locs hw_90 hP hD hS => ?_)
                      replace hw_90 := hw_90.symm
                      subst hw_90
                      have hP : va_P D vwCl [] H := hP
                      have hD : va_D A [] := hD
                      refine lv_l2d hx hb d_La_magnitudeBits_93 ?_
                      refine lv_dmul hx hb d_La_magnitudeBits_94 (dN_n (dN_mulw hNb one_nz)) ?_
                      refine lv_d2l hx hb d_La_magnitudeBits_95 ?_
                      have e_mg : mgv i a = (b9, yy) := by rw [mgv, e_h]; exact e_d
                      exact W.lret (v := FP.d2l (FP.dmul b9 (FP.l2d (lN (2 ^ lw i))))) hx hb hr (fun t9 ht9 hW9 => ⟨⟨FP.d2l (FP.dmul b9 (FP.l2d (lN (2 ^ lw i)))), (() : Unit), rfl, by rw [mgb, if_pos c_5, e_mg, if_neg c_85], by rw [ht9]; exact hP.sub [] rfl, va_K.moved hW9.alike hK, hD.sub [] (by decide) rfl⟩, hS.F ht9⟩) hS.2.2 d_La_magnitudeBits_96
                  · replace c_67 := mt (cg_le (lb i + xx - yy) 1 rfl rfl (by omega) (by omega)).mpr c_67
                    refine lv_dload_n hx hb d_La_magnitudeBits_70 rfl (lv_at hl 1 rfl) ?_
                    refine lv_ldc2d (v := D2) hx hb hown (hW _ mw_351) d_La_magnitudeBits_71 ?_
                    refine lv_dmul hx hb d_La_magnitudeBits_74 (dN_n (dN_2 hNb)) ?_
                    refine lv_dstore_n (lv' := [(3, .double (FP.dmul b9 D2)), (5, .int (nI (lb i + xx - yy))), (0, .ref (g.1 i)), (1, .double a)]) hx hb d_La_magnitudeBits_75 rfl hl (by decide) rfl (fun ls hl => ?_)
                    refine lv_iinc (v := nI (lb i + xx - yy - 1)) (lv' := [(5, .int (nI (lb i + xx - yy - 1))), (3, .double (FP.dmul b9 D2)), (0, .ref (g.1 i)), (1, .double a)]) hx hb d_La_magnitudeBits_76 hl (k := 1) rfl (sb_m1 (by omega)) (by decide) rfl (fun ls hl => ?_)
                    refine lv_goto (tgt := 58) hx hb d_La_magnitudeBits_79 (by decide) ?_
                    exact ih (yy + 1) (FP.dmul b9 D2) (by omega) (dN_2 hNb) (by rw [← hf1, dv_s (n := lb i + xx - 1 - yy) (by omega) c_61]; rfl) (by rw [← hf2, dv_s (n := lb i + xx - 1 - yy) (by omega) c_61, Nat.add_assoc, Nat.add_comm 1]; rfl) (by omega) H locs (hP.sub [] rfl) (hD.sub [] (by decide) rfl) hS ls (lv_sub hl [0, 1, 2, 3] rfl)
            exact hlp_58 _ 0 a9 (Nat.zero_le _) hNa rfl (Nat.zero_add _) (Nat.lt_succ_self _) H locs (hP.sub [] rfl) (hD.sub [] (by decide) rfl) hS ls (lv_sub hl [0, 1, 2, 3] rfl)
          · replace c_43 := mt (cg_le (2 * lb i) (lb i + xx) rfl rfl (by omega) (by omega)).mpr c_43
            refine lv_dload_n hx hb d_La_magnitudeBits_46 rfl (lv_at hl 1 rfl) ?_
            refine lv_ldc2d (v := DH) hx hb hown (hW _ mw_352) d_La_magnitudeBits_47 ?_
            refine lv_dmul hx hb d_La_magnitudeBits_50 (dN_n (dN_H hNa)) ?_
            refine lv_dstore_n (lv' := [(3, .double (FP.dmul a9 DH)), (5, .int (nI (lb i + xx))), (0, .ref (g.1 i)), (1, .double a)]) hx hb d_La_magnitudeBits_51 rfl hl (by decide) rfl (fun ls hl => ?_)
            refine lv_iinc (v := nI (lb i + xx + 1)) (lv' := [(5, .int (nI (lb i + xx + 1))), (3, .double (FP.dmul a9 DH)), (0, .ref (g.1 i)), (1, .double a)]) hx hb d_La_magnitudeBits_52 hl (k := 1) rfl (nI_1 _) (by decide) rfl (fun ls hl => ?_)
            refine lv_goto (tgt := 27) hx hb d_La_magnitudeBits_55 (by decide) ?_
            exact ih (xx + 1) (FP.dmul a9 DH) (by omega) (dN_H hNa) (by rw [← he1, hv_s (n := lb i - xx) (by omega) c_32]; rfl) (by rw [← he2, hv_s (n := lb i - xx) (by omega) c_32, Nat.add_assoc, Nat.add_comm 1]; rfl) (by omega) H locs (hP.sub [] rfl) (hD.sub [] (by decide) rfl) hS ls (lv_sub hl [0, 1, 2, 3] rfl)
    exact hlp_27 _ 0 a (Nat.zero_le _) hn rfl (Nat.zero_add _) (Nat.lt_succ_self _) s.heap [] (hP.sub [] rfl) (hD.sub [] (by decide) rfl) hS ls (lv_sub hl [0, 1, 2, 3] rfl)
  · refine lv_aload_n hx hb d_La_magnitudeBits_8 rfl (lv_at hl 0 rfl) ?_
    refine x_calli (D := D) (wc := []) (wr := []) (va_runV (C := R_La) (As := []) (rest := []) ⟨hx, hb, hml, hown, hW⟩ (k_La_allOnes l D g i hi s.heap.size) (cwV 0 hW (gWV mw_326 mw_328 mw_10 mw_61 mw_329) rfl rfl rfl (by decide +kernel) ⟨Nat.le_of_ble_eq_true rfl, Nat.le_of_ble_eq_true rfl⟩) ⟨xPc_blind (gZ_ok g), va_recvE hZ.2.2.2.2.2.2.1 hi hS, x_pre (gZ_ok g) hP hK hD hS hA hZ [] [] rfl rfl rfl⟩ rfl rfl hl.1 rfl (lv_room (Nat.le_of_ble_eq_true rfl)) d_La_magnitudeBits_9 ⟨Nat.le_of_ble_eq_true rfl, Nat.le_of_ble_eq_true rfl⟩) hP hD hS hA [] [] rfl rfl rfl (by decide) (fun r_9 u_9 H locs hw_9 hP hD hS => ?_)
    replace hw_9 := hw_9.symm
    subst hw_9
    have hP : va_P D vwCl [] H := hP
    have hD : va_D A [] := hD
    refine lv_i2l (v := (nI (2 * lb i + 1)).toInt64) hx hb d_La_magnitudeBits_12 rfl ?_
    refine lv_aload_n hx hb d_La_magnitudeBits_13 rfl (lv_at hl 0 rfl) ?_
    refine x_calll (D := D) (wc := []) (wr := []) (va_runV (C := R_La) (As := []) (rest := [.long ((nI (2 * lb i + 1)).toInt64)]) ⟨hx, hb, hml, hown, hW⟩ (k_La_one l D g i hi H.size) (cwV 0 hW (gWV mw_330 mw_332 mw_11 mw_61 mw_333) rfl rfl rfl (by decide +kernel) ⟨Nat.le_of_ble_eq_true rfl, Nat.le_of_ble_eq_true rfl⟩) ⟨xPc_blind (gZ_ok g), va_recvE hZ.2.2.2.2.2.2.1 hi hS, x_pre (gZ_ok g) hP hK hD hS hA hZ [] [] rfl rfl rfl⟩ rfl rfl hl.1 rfl (lv_room (Nat.le_of_ble_eq_true rfl)) d_La_magnitudeBits_14 ⟨Nat.le_of_ble_eq_true rfl, Nat.le_of_ble_eq_true rfl⟩) hP hD hS hA [] [] rfl rfl rfl (by decide) (fun r_14 u_14 H locs hw_14 hP hD hS => ?_)
    replace hw_14 := hw_14.symm
    subst hw_14
    have hP : va_P D vwCl [] H := hP
    have hD : va_D A [] := hD
    refine lv_lmul hx hb d_La_magnitudeBits_17 ?_
    exact W.lret (v := ((nI (2 * lb i + 1)).toInt64) * (lN (2 ^ lw i))) hx hb hr (fun t9 ht9 hW9 => ⟨⟨((nI (2 * lb i + 1)).toInt64) * (lN (2 ^ lw i)), (() : Unit), rfl, by rw [mgb, if_neg c_5], by rw [ht9]; exact hP.sub [] rfl, va_K.moved hW9.alike hK, hD.sub [] (by decide) rfl⟩, hS.F ht9⟩) hS.2.2 d_La_magnitudeBits_18
set_option maxHeartbeats 4000000 in
set_option maxRecDepth 100000 in
theorem k_La_bitsOf (l : Launch) (D : va_G) (g : GP) (i : Nat) (a : UInt64) (hi : i < 2) (hn : dN a) (sz : Nat) : Met l y_La_bitsOf (.code y_La_bitsOf c_La_bitsOf 3 (some .long) :: xW) ({ frames := 2, cells := 0, slots := 0, locals := 45 }) (xPc (gZ g) D vwCl [.ref (g.1 i), .double a] [] [] sz) (va_Ql (fun (r : Int64) (u : Unit) => r = bof i a) (xB D vwCl [] (fun u : Unit => []) (va_A [] sz)) (va_A [] sz)) 0 0 (va_A [] sz) := by
  refine x_open (Qc := fun A => va_Ql (fun (r : Int64) (u : Unit) => r = bof i a) (xB D vwCl [] (fun u : Unit => []) A) A) (cc := c_La_bitsOf) (maxL := 3) (ret := (some .long)) (own := R_La) (by decide) rfl rfl (Nat.le_of_ble_eq_true rfl) ?_
  intro p e s m below meth cd A ls hsz hAe hx hb hr hml hown hts hlk hnm hA hP hK hD hS hZ hl
  clear hsz hAe
  have hW : ∀ w ∈ xW, w.before _ s = true := fun w h => hts w (List.mem_cons_of_mem _ h)
  have hl : lv_has ls 3 [(0, .ref (g.1 i)), (1, .double a)] := hl
  have hlb := lb_in (i := i)
  have hlw := lw_in (i := i)
  have hlz := lz_in (i := i)
  refine lv_dload_n hx hb d_La_bitsOf_0 rfl (lv_at hl 1 rfl) ?_
  refine lv_dconst0 hx hb d_La_bitsOf_1 ?_
  refine lv_dcmp hx hb d_La_bitsOf_2 ?_
  refine lv_if_ne (tgt := 8) hx hb d_La_bitsOf_3 (by decide) (fun c_3 => ?_) (fun c_3 => ?_)
  · refine lv_dload_n hx hb d_La_bitsOf_8 rfl (lv_at hl 1 rfl) ?_
    refine lv_dconst0 hx hb d_La_bitsOf_9 ?_
    refine lv_dcmp hx hb d_La_bitsOf_10 ?_
    refine lv_if_ge (tgt := 33) hx hb d_La_bitsOf_11 (by decide) (fun c_11 => ?_) (fun c_11 => ?_)
    · refine lv_aload_n hx hb d_La_bitsOf_33 rfl (lv_at hl 0 rfl) ?_
      refine lv_dload_n hx hb d_La_bitsOf_34 rfl (lv_at hl 1 rfl) ?_
      refine x_calll (D := D) (wc := []) (wr := []) (va_runV (C := R_La) (As := [.double a]) (rest := []) ⟨hx, hb, hml, hown, hW⟩ (k_La_magnitudeBits l D g i a hi hn s.heap.size) (cwV 1 hW (gWV mw_346 mw_348 mw_13 mw_61 mw_349) rfl rfl rfl (by decide +kernel) ⟨Nat.le_of_ble_eq_true rfl, Nat.le_of_ble_eq_true rfl⟩) ⟨xPc_blind (gZ_ok g), va_recvE hZ.2.2.2.2.2.2.1 hi hS, x_pre (gZ_ok g) hP hK hD hS hA hZ [] [] rfl rfl rfl⟩ rfl rfl hl.1 rfl (lv_room (Nat.le_of_ble_eq_true rfl)) d_La_bitsOf_35 ⟨Nat.le_of_ble_eq_true rfl, Nat.le_of_ble_eq_true rfl⟩) hP hD hS hA [] [] rfl rfl rfl (by decide) (fun r_35 u_35 H locs hw_35 hP hD hS => ?_)
      replace hw_35 := hw_35.symm
      subst hw_35
      have hP : va_P D vwCl [] H := hP
      have hD : va_D A [] := hD
      exact W.lret (v := mgb i a) hx hb hr (fun t9 ht9 hW9 => ⟨⟨mgb i a, (() : Unit), rfl, by rw [bof, if_neg c_3, if_pos c_11], by rw [ht9]; exact hP.sub [] rfl, va_K.moved hW9.alike hK, hD.sub [] (by decide) rfl⟩, hS.F ht9⟩) hS.2.2 d_La_bitsOf_38
    · refine lv_lconst (v := 1) hx hb d_La_bitsOf_14 (by decide) ?_
      refine lv_bipush (v := 8) hx hb d_La_bitsOf_15 (by decide) ?_
      refine lv_aload_n hx hb d_La_bitsOf_17 rfl (lv_at hl 0 rfl) ?_
      refine va_getE (i := i) (q := ("WireData$Layout", "size", "I", [4, 8])) hx hb hZ.2.2.2.2.2.2.1 hi hS hown (by decide) (hW _ mw_785) (fun _ h9 => h9) d_La_bitsOf_18 ?_
      refine x_topi (y := nI (lz i)) (lz_v hi) ?_
      refine lv_imul hx hb d_La_bitsOf_21 ?_
      refine x_topi (y := nI (8 * (lz i))) (by rw [show (8 : Int32) = nI 8 by decide]; exact pk_mul _ _) ?_
      refine lv_iconst (v := 1) hx hb d_La_bitsOf_22 (by decide) ?_
      refine lv_isub hx hb d_La_bitsOf_23 ?_
      refine x_topi (y := nI (8 * lz i) - 1) (rfl) ?_
      refine lv_lshl (v := (1 : Int64) <<< ((nI (8 * lz i) - 1).toInt64 &&& 63)) hx hb d_La_bitsOf_24 rfl ?_
      refine lv_aload_n hx hb d_La_bitsOf_25 rfl (lv_at hl 0 rfl) ?_
      refine lv_dload_n hx hb d_La_bitsOf_26 rfl (lv_at hl 1 rfl) ?_
      refine lv_dneg hx hb d_La_bitsOf_27 ?_
      refine x_calll (D := D) (wc := []) (wr := []) (va_runV (C := R_La) (As := [.double (FP.dneg a)]) (rest := [.long ((1 : Int64) <<< ((nI (8 * lz i) - 1).toInt64 &&& 63))]) ⟨hx, hb, hml, hown, hW⟩ (k_La_magnitudeBits l D g i (FP.dneg a) hi (dN_neg hn) s.heap.size) (cwV 1 hW (gWV mw_346 mw_348 mw_13 mw_61 mw_349) rfl rfl rfl (by decide +kernel) ⟨Nat.le_of_ble_eq_true rfl, Nat.le_of_ble_eq_true rfl⟩) ⟨xPc_blind (gZ_ok g), va_recvE hZ.2.2.2.2.2.2.1 hi hS, x_pre (gZ_ok g) hP hK hD hS hA hZ [] [] rfl rfl rfl⟩ rfl rfl hl.1 rfl (lv_room (Nat.le_of_ble_eq_true rfl)) d_La_bitsOf_28 ⟨Nat.le_of_ble_eq_true rfl, Nat.le_of_ble_eq_true rfl⟩) hP hD hS hA [] [] rfl rfl rfl (by decide) (fun r_28 u_28 H locs hw_28 hP hD hS => ?_)
      replace hw_28 := hw_28.symm
      subst hw_28
      have hP : va_P D vwCl [] H := hP
      have hD : va_D A [] := hD
      refine lv_lor hx hb d_La_bitsOf_31 ?_
      exact W.lret (v := ((1 : Int64) <<< ((nI (8 * lz i) - 1).toInt64 &&& 63)) ||| (mgb i (FP.dneg a))) hx hb hr (fun t9 ht9 hW9 => ⟨⟨((1 : Int64) <<< ((nI (8 * lz i) - 1).toInt64 &&& 63)) ||| (mgb i (FP.dneg a)), (() : Unit), rfl, by rw [bof, if_neg c_3, if_neg c_11], by rw [ht9]; exact hP.sub [] rfl, va_K.moved hW9.alike hK, hD.sub [] (by decide) rfl⟩, hS.F ht9⟩) hS.2.2 d_La_bitsOf_32
  · refine lv_lconst (v := 0) hx hb d_La_bitsOf_6 (by decide) ?_
    exact W.lret (v := 0) hx hb hr (fun t9 ht9 hW9 => ⟨⟨0, (() : Unit), rfl, by rw [bof, if_pos c_3], by rw [ht9]; exact hP.sub [] rfl, va_K.moved hW9.alike hK, hD.sub [] (by decide) rfl⟩, hS.F ht9⟩) hS.2.2 d_La_bitsOf_7
set_option maxHeartbeats 4000000 in
set_option maxRecDepth 100000 in
theorem k_Wd_scaledFloat (l : Launch) (D : va_G) (g : GP) (v : UInt32) (r9 : Int32) (hn : fN v) (hs : r9.toInt.natAbs < 2 ^ 31) (sz : Nat) : Met l y_Wd_scaledFloat (.code y_Wd_scaledFloat c_Wd_scaledFloat 6 (some .float) :: xW) ({ frames := 1, cells := 0, slots := 0, locals := 40 }) (xPc (gZ g) D vwCl [.float v, .int r9] [] [] sz) (va_Qf (fun (r : UInt32) (u : Unit) => r = scF v r9) (xB D vwCl [] (fun u : Unit => []) (va_A [] sz)) (va_A [] sz)) 0 0 (va_A [] sz) := by
  refine x_open (Qc := fun A => va_Qf (fun (r : UInt32) (u : Unit) => r = scF v r9) (xB D vwCl [] (fun u : Unit => []) A) A) (cc := c_Wd_scaledFloat) (maxL := 6) (ret := (some .float)) (own := R_Wd) (by decide) rfl rfl (Nat.le_of_ble_eq_true rfl) ?_
  intro p e s m below meth cd A ls hsz hAe hx hb hr hml hown hts hlk hnm hA hP hK hD hS hZ hl
  clear hsz hAe
  have hW : ∀ w ∈ xW, w.before _ s = true := fun w h => hts w (List.mem_cons_of_mem _ h)
  have hl : lv_has ls 6 [(0, .float v), (1, .int r9)] := hl
  refine lv_iload_n hx hb d_Wd_scaledFloat_0 rfl (lv_at hl 1 rfl) ?_
  refine lv_if_le (tgt := 8) hx hb d_Wd_scaledFloat_1 (by decide) (fun c_1 => ?_) (fun c_1 => ?_)
  · refine lv_ldcf (v := FH) hx hb hown (hW _ mw_338) d_Wd_scaledFloat_8 ?_
    refine lv_fstore_n (lv' := [(2, .float FH), (0, .float v), (1, .int r9)]) hx hb d_Wd_scaledFloat_10 rfl hl (by decide) rfl (fun ls hl => ?_)
    refine lv_iload_n hx hb d_Wd_scaledFloat_11 rfl (lv_at hl 2 rfl) ?_
    refine va_mabs hx hb (by rw [hml]; exact hl.1.symm) hown (hW _ mw_339) (hW _ mw_340) (hW _ mw_62) (hW _ mw_341) (Nat.le_of_ble_eq_true rfl) (Nat.le_of_ble_eq_true rfl) (Nat.le_of_ble_eq_true rfl) (Nat.le_of_ble_eq_true rfl) d_Wd_scaledFloat_12 ?_
    refine x_topi (y := nI r9.toInt.natAbs) (mabs_n hs) ?_
    refine lv_istore_n (lv' := [(3, .int (nI r9.toInt.natAbs)), (2, .float FH), (0, .float v), (1, .int r9)]) hx hb d_Wd_scaledFloat_15 rfl hl (by decide) rfl (fun ls hl => ?_)
    refine lv_fload_n hx hb d_Wd_scaledFloat_16 rfl (lv_at hl 2 rfl) ?_
    refine lv_fstore (lv' := [(4, .float v), (3, .int (nI r9.toInt.natAbs)), (2, .float FH), (0, .float v), (1, .int r9)]) hx hb d_Wd_scaledFloat_17 hl (by decide) rfl (fun ls hl => ?_)
    refine lv_iconst (v := 0) hx hb d_Wd_scaledFloat_19 (by decide) ?_
    refine lv_istore (lv' := [(5, .int 0), (4, .float v), (3, .int (nI r9.toInt.natAbs)), (2, .float FH), (0, .float v), (1, .int r9)]) hx hb d_Wd_scaledFloat_20 hl (by decide) rfl (fun ls hl => ?_)
    have hlp_22 : ∀ (n : Nat) (jj : Nat) (ww : UInt32), (jj ≤ r9.toInt.natAbs) → (fN ww) → (sfl FH (r9.toInt.natAbs - jj) ww = sfl FH r9.toInt.natAbs v) → r9.toInt.natAbs - jj < n → ∀ (H : Heap) (locs : List Loc), va_P D vwCl [] H → va_D A [] → va_S A s.heap H locs → ∀ (ls : Array Slot), lv_has ls 6 [(5, .int (nI jj)), (4, .float ww), (3, .int (nI r9.toInt.natAbs)), (2, .float FH), (0, .float v), (1, .int r9)] → W p l e ({ frames := 1, cells := 0, slots := 0, locals := 40 }) s m [.float v, .int r9].toArray below meth cd H locs 0 0 (MQ below ((fun A => va_Qf (fun (r : UInt32) (u : Unit) => r = scF v r9) (xB D vwCl [] (fun u : Unit => []) A) A) A) [.float v, .int r9].toArray s 0 0 A) (F0 m 22 ls []) := by
      intro n
      induction n with
      | zero => intro jj ww hj hNw he hms; exact absurd hms (Nat.not_lt_zero _)
      | succ n ih =>
        intro jj ww hj hNw he hms H locs hP hD hS ls hl
        refine lv_iload hx hb d_Wd_scaledFloat_22 (lv_at hl 0 rfl) ?_
        refine lv_iload_n hx hb d_Wd_scaledFloat_24 rfl (lv_at hl 2 rfl) ?_
        refine lv_icmp_ge (tgt := 40) hx hb d_Wd_scaledFloat_25 (by decide) (fun c_25 => ?_) (fun c_25 => ?_)
        · replace c_25 := (cg_le r9.toInt.natAbs jj rfl rfl (by omega) (by omega)).mp c_25
          refine lv_fload hx hb d_Wd_scaledFloat_40 (lv_at hl 1 rfl) ?_
          exact W.fret (v := ww) hx hb hr (fun t9 ht9 hW9 => ⟨⟨ww, (() : Unit), rfl, by rw [← scF_neg c_1 rfl, ← he, show r9.toInt.natAbs - jj = 0 by omega]; rfl, by rw [ht9]; exact hP.sub [] rfl, va_K.moved hW9.alike hK, hD.sub [] (by decide) rfl⟩, hS.F ht9⟩) hS.2.2 d_Wd_scaledFloat_42
        · replace c_25 := mt (cg_le r9.toInt.natAbs jj rfl rfl (by omega) (by omega)).mpr c_25
          refine lv_fload hx hb d_Wd_scaledFloat_28 (lv_at hl 1 rfl) ?_
          refine lv_fload_n hx hb d_Wd_scaledFloat_30 rfl (lv_at hl 3 rfl) ?_
          refine lv_fmul hx hb d_Wd_scaledFloat_31 (fN_n (fN_H hNw)) ?_
          refine lv_fstore (lv' := [(4, .float (FP.fmul ww FH)), (5, .int (nI jj)), (3, .int (nI r9.toInt.natAbs)), (2, .float FH), (0, .float v), (1, .int r9)]) hx hb d_Wd_scaledFloat_32 hl (by decide) rfl (fun ls hl => ?_)
          refine lv_iinc (v := nI (jj + 1)) (lv' := [(5, .int (nI (jj + 1))), (4, .float (FP.fmul ww FH)), (3, .int (nI r9.toInt.natAbs)), (2, .float FH), (0, .float v), (1, .int r9)]) hx hb d_Wd_scaledFloat_34 hl (k := 1) rfl (nI_1 _) (by decide) rfl (fun ls hl => ?_)
          refine lv_goto (tgt := 22) hx hb d_Wd_scaledFloat_37 (by decide) ?_
          exact ih (jj + 1) (FP.fmul ww FH) (by omega) (fN_H hNw) (by rw [← he, sfl_s (n := r9.toInt.natAbs - jj) (by omega)]; rfl) (by omega) H locs (hP.sub [] rfl) (hD.sub [] (by decide) rfl) hS ls (lv_sub hl [0, 1, 2, 3, 4, 5] rfl)
    exact hlp_22 _ 0 v (Nat.zero_le _) hn rfl (Nat.lt_succ_self _) s.heap [] (hP.sub [] rfl) (hD.sub [] (by decide) rfl) hS ls (lv_sub hl [0, 1, 2, 3, 4, 5] rfl)
  · refine lv_fconst2 hx hb d_Wd_scaledFloat_4 ?_
    refine lv_goto (tgt := 10) hx hb d_Wd_scaledFloat_5 (by decide) ?_
    refine lv_fstore_n (lv' := [(2, .float FP.fconst2), (0, .float v), (1, .int r9)]) hx hb d_Wd_scaledFloat_10 rfl hl (by decide) rfl (fun ls hl => ?_)
    refine lv_iload_n hx hb d_Wd_scaledFloat_11 rfl (lv_at hl 2 rfl) ?_
    refine va_mabs hx hb (by rw [hml]; exact hl.1.symm) hown (hW _ mw_339) (hW _ mw_340) (hW _ mw_62) (hW _ mw_341) (Nat.le_of_ble_eq_true rfl) (Nat.le_of_ble_eq_true rfl) (Nat.le_of_ble_eq_true rfl) (Nat.le_of_ble_eq_true rfl) d_Wd_scaledFloat_12 ?_
    refine x_topi (y := nI r9.toInt.natAbs) (mabs_n hs) ?_
    refine lv_istore_n (lv' := [(3, .int (nI r9.toInt.natAbs)), (2, .float FP.fconst2), (0, .float v), (1, .int r9)]) hx hb d_Wd_scaledFloat_15 rfl hl (by decide) rfl (fun ls hl => ?_)
    refine lv_fload_n hx hb d_Wd_scaledFloat_16 rfl (lv_at hl 2 rfl) ?_
    refine lv_fstore (lv' := [(4, .float v), (3, .int (nI r9.toInt.natAbs)), (2, .float FP.fconst2), (0, .float v), (1, .int r9)]) hx hb d_Wd_scaledFloat_17 hl (by decide) rfl (fun ls hl => ?_)
    refine lv_iconst (v := 0) hx hb d_Wd_scaledFloat_19 (by decide) ?_
    refine lv_istore (lv' := [(5, .int 0), (4, .float v), (3, .int (nI r9.toInt.natAbs)), (2, .float FP.fconst2), (0, .float v), (1, .int r9)]) hx hb d_Wd_scaledFloat_20 hl (by decide) rfl (fun ls hl => ?_)
    have hlp_22 : ∀ (n : Nat) (jj : Nat) (ww : UInt32), (jj ≤ r9.toInt.natAbs) → (fN ww) → (sfl FP.fconst2 (r9.toInt.natAbs - jj) ww = sfl FP.fconst2 r9.toInt.natAbs v) → r9.toInt.natAbs - jj < n → ∀ (H : Heap) (locs : List Loc), va_P D vwCl [] H → va_D A [] → va_S A s.heap H locs → ∀ (ls : Array Slot), lv_has ls 6 [(5, .int (nI jj)), (4, .float ww), (3, .int (nI r9.toInt.natAbs)), (2, .float FP.fconst2), (0, .float v), (1, .int r9)] → W p l e ({ frames := 1, cells := 0, slots := 0, locals := 40 }) s m [.float v, .int r9].toArray below meth cd H locs 0 0 (MQ below ((fun A => va_Qf (fun (r : UInt32) (u : Unit) => r = scF v r9) (xB D vwCl [] (fun u : Unit => []) A) A) A) [.float v, .int r9].toArray s 0 0 A) (F0 m 22 ls []) := by
      intro n
      induction n with
      | zero => intro jj ww hj hNw he hms; exact absurd hms (Nat.not_lt_zero _)
      | succ n ih =>
        intro jj ww hj hNw he hms H locs hP hD hS ls hl
        refine lv_iload hx hb d_Wd_scaledFloat_22 (lv_at hl 0 rfl) ?_
        refine lv_iload_n hx hb d_Wd_scaledFloat_24 rfl (lv_at hl 2 rfl) ?_
        refine lv_icmp_ge (tgt := 40) hx hb d_Wd_scaledFloat_25 (by decide) (fun c_25 => ?_) (fun c_25 => ?_)
        · replace c_25 := (cg_le r9.toInt.natAbs jj rfl rfl (by omega) (by omega)).mp c_25
          refine lv_fload hx hb d_Wd_scaledFloat_40 (lv_at hl 1 rfl) ?_
          exact W.fret (v := ww) hx hb hr (fun t9 ht9 hW9 => ⟨⟨ww, (() : Unit), rfl, by rw [← scF_pos c_1 rfl, ← he, show r9.toInt.natAbs - jj = 0 by omega]; rfl, by rw [ht9]; exact hP.sub [] rfl, va_K.moved hW9.alike hK, hD.sub [] (by decide) rfl⟩, hS.F ht9⟩) hS.2.2 d_Wd_scaledFloat_42
        · replace c_25 := mt (cg_le r9.toInt.natAbs jj rfl rfl (by omega) (by omega)).mpr c_25
          refine lv_fload hx hb d_Wd_scaledFloat_28 (lv_at hl 1 rfl) ?_
          refine lv_fload_n hx hb d_Wd_scaledFloat_30 rfl (lv_at hl 3 rfl) ?_
          refine lv_fmul hx hb d_Wd_scaledFloat_31 (fN_n (fN_2 hNw)) ?_
          refine lv_fstore (lv' := [(4, .float (FP.fmul ww FP.fconst2)), (5, .int (nI jj)), (3, .int (nI r9.toInt.natAbs)), (2, .float FP.fconst2), (0, .float v), (1, .int r9)]) hx hb d_Wd_scaledFloat_32 hl (by decide) rfl (fun ls hl => ?_)
          refine lv_iinc (v := nI (jj + 1)) (lv' := [(5, .int (nI (jj + 1))), (4, .float (FP.fmul ww FP.fconst2)), (3, .int (nI r9.toInt.natAbs)), (2, .float FP.fconst2), (0, .float v), (1, .int r9)]) hx hb d_Wd_scaledFloat_34 hl (k := 1) rfl (nI_1 _) (by decide) rfl (fun ls hl => ?_)
          refine lv_goto (tgt := 22) hx hb d_Wd_scaledFloat_37 (by decide) ?_
          exact ih (jj + 1) (FP.fmul ww FP.fconst2) (by omega) (fN_2 hNw) (by rw [← he, sfl_s (n := r9.toInt.natAbs - jj) (by omega)]; rfl) (by omega) H locs (hP.sub [] rfl) (hD.sub [] (by decide) rfl) hS ls (lv_sub hl [0, 1, 2, 3, 4, 5] rfl)
    exact hlp_22 _ 0 v (Nat.zero_le _) hn rfl (Nat.lt_succ_self _) s.heap [] (hP.sub [] rfl) (hD.sub [] (by decide) rfl) hS ls (lv_sub hl [0, 1, 2, 3, 4, 5] rfl)
set_option maxHeartbeats 4000000 in
set_option maxRecDepth 100000 in
theorem k_Wd_scaledDouble (l : Launch) (D : va_G) (g : GP) (v : UInt64) (r9 : Int32) (hn : dN v) (hs : r9.toInt.natAbs < 2 ^ 31) (sz : Nat) : Met l y_Wd_scaledDouble (.code y_Wd_scaledDouble c_Wd_scaledDouble 9 (some .double) :: xW) ({ frames := 1, cells := 0, slots := 0, locals := 40 }) (xPc (gZ g) D vwCl [.double v, .int r9] [] [] sz) (va_Qd (fun (r : UInt64) (u : Unit) => r = scD v r9) (xB D vwCl [] (fun u : Unit => []) (va_A [] sz)) (va_A [] sz)) 0 0 (va_A [] sz) := by
  refine x_open (Qc := fun A => va_Qd (fun (r : UInt64) (u : Unit) => r = scD v r9) (xB D vwCl [] (fun u : Unit => []) A) A) (cc := c_Wd_scaledDouble) (maxL := 9) (ret := (some .double)) (own := R_Wd) (by decide) rfl rfl (Nat.le_of_ble_eq_true rfl) ?_
  intro p e s m below meth cd A ls hsz hAe hx hb hr hml hown hts hlk hnm hA hP hK hD hS hZ hl
  clear hsz hAe
  have hW : ∀ w ∈ xW, w.before _ s = true := fun w h => hts w (List.mem_cons_of_mem _ h)
  have hl : lv_has ls 9 [(0, .double v), (2, .int r9)] := hl
  refine lv_iload_n hx hb d_Wd_scaledDouble_0 rfl (lv_at hl 1 rfl) ?_
  refine lv_if_le (tgt := 10) hx hb d_Wd_scaledDouble_1 (by decide) (fun c_1 => ?_) (fun c_1 => ?_)
  · refine lv_ldc2d (v := DH) hx hb hown (hW _ mw_367) d_Wd_scaledDouble_10 ?_
    refine lv_dstore_n (lv' := [(3, .double DH), (0, .double v), (2, .int r9)]) hx hb d_Wd_scaledDouble_13 rfl hl (by decide) rfl (fun ls hl => ?_)
    refine lv_iload_n hx hb d_Wd_scaledDouble_14 rfl (lv_at hl 2 rfl) ?_
    refine va_mabs hx hb (by rw [hml]; exact hl.1.symm) hown (hW _ mw_339) (hW _ mw_340) (hW _ mw_62) (hW _ mw_341) (Nat.le_of_ble_eq_true rfl) (Nat.le_of_ble_eq_true rfl) (Nat.le_of_ble_eq_true rfl) (Nat.le_of_ble_eq_true rfl) d_Wd_scaledDouble_15 ?_
    refine x_topi (y := nI r9.toInt.natAbs) (mabs_n hs) ?_
    refine lv_istore (lv' := [(5, .int (nI r9.toInt.natAbs)), (3, .double DH), (0, .double v), (2, .int r9)]) hx hb d_Wd_scaledDouble_18 hl (by decide) rfl (fun ls hl => ?_)
    refine lv_dload_n hx hb d_Wd_scaledDouble_20 rfl (lv_at hl 2 rfl) ?_
    refine lv_dstore (lv' := [(6, .double v), (5, .int (nI r9.toInt.natAbs)), (3, .double DH), (0, .double v), (2, .int r9)]) hx hb d_Wd_scaledDouble_21 hl (by decide) rfl (fun ls hl => ?_)
    refine lv_iconst (v := 0) hx hb d_Wd_scaledDouble_23 (by decide) ?_
    refine lv_istore (lv' := [(8, .int 0), (6, .double v), (5, .int (nI r9.toInt.natAbs)), (3, .double DH), (0, .double v), (2, .int r9)]) hx hb d_Wd_scaledDouble_24 hl (by decide) rfl (fun ls hl => ?_)
    have hlp_26 : ∀ (n : Nat) (jj : Nat) (ww : UInt64), (jj ≤ r9.toInt.natAbs) → (dN ww) → (sdl DH (r9.toInt.natAbs - jj) ww = sdl DH r9.toInt.natAbs v) → r9.toInt.natAbs - jj < n → ∀ (H : Heap) (locs : List Loc), va_P D vwCl [] H → va_D A [] → va_S A s.heap H locs → ∀ (ls : Array Slot), lv_has ls 9 [(8, .int (nI jj)), (6, .double ww), (5, .int (nI r9.toInt.natAbs)), (3, .double DH), (0, .double v), (2, .int r9)] → W p l e ({ frames := 1, cells := 0, slots := 0, locals := 40 }) s m [.double v, .int r9].toArray below meth cd H locs 0 0 (MQ below ((fun A => va_Qd (fun (r : UInt64) (u : Unit) => r = scD v r9) (xB D vwCl [] (fun u : Unit => []) A) A) A) [.double v, .int r9].toArray s 0 0 A) (F0 m 26 ls []) := by
      intro n
      induction n with
      | zero => intro jj ww hj hNw he hms; exact absurd hms (Nat.not_lt_zero _)
      | succ n ih =>
        intro jj ww hj hNw he hms H locs hP hD hS ls hl
        refine lv_iload hx hb d_Wd_scaledDouble_26 (lv_at hl 0 rfl) ?_
        refine lv_iload hx hb d_Wd_scaledDouble_28 (lv_at hl 2 rfl) ?_
        refine lv_icmp_ge (tgt := 45) hx hb d_Wd_scaledDouble_30 (by decide) (fun c_30 => ?_) (fun c_30 => ?_)
        · replace c_30 := (cg_le r9.toInt.natAbs jj rfl rfl (by omega) (by omega)).mp c_30
          refine lv_dload hx hb d_Wd_scaledDouble_45 (lv_at hl 1 rfl) ?_
          exact W.dret (v := ww) hx hb hr (fun t9 ht9 hW9 => ⟨⟨ww, (() : Unit), rfl, by rw [← scD_neg c_1 rfl, ← he, show r9.toInt.natAbs - jj = 0 by omega]; rfl, by rw [ht9]; exact hP.sub [] rfl, va_K.moved hW9.alike hK, hD.sub [] (by decide) rfl⟩, hS.F ht9⟩) hS.2.2 d_Wd_scaledDouble_47
        · replace c_30 := mt (cg_le r9.toInt.natAbs jj rfl rfl (by omega) (by omega)).mpr c_30
          refine lv_dload hx hb d_Wd_scaledDouble_33 (lv_at hl 1 rfl) ?_
          refine lv_dload_n hx hb d_Wd_scaledDouble_35 rfl (lv_at hl 3 rfl) ?_
          refine lv_dmul hx hb d_Wd_scaledDouble_36 (dN_n (dN_H hNw)) ?_
          refine lv_dstore (lv' := [(6, .double (FP.dmul ww DH)), (8, .int (nI jj)), (5, .int (nI r9.toInt.natAbs)), (3, .double DH), (0, .double v), (2, .int r9)]) hx hb d_Wd_scaledDouble_37 hl (by decide) rfl (fun ls hl => ?_)
          refine lv_iinc (v := nI (jj + 1)) (lv' := [(8, .int (nI (jj + 1))), (6, .double (FP.dmul ww DH)), (5, .int (nI r9.toInt.natAbs)), (3, .double DH), (0, .double v), (2, .int r9)]) hx hb d_Wd_scaledDouble_39 hl (k := 1) rfl (nI_1 _) (by decide) rfl (fun ls hl => ?_)
          refine lv_goto (tgt := 26) hx hb d_Wd_scaledDouble_42 (by decide) ?_
          exact ih (jj + 1) (FP.dmul ww DH) (by omega) (dN_H hNw) (by rw [← he, sdl_s (n := r9.toInt.natAbs - jj) (by omega)]; rfl) (by omega) H locs (hP.sub [] rfl) (hD.sub [] (by decide) rfl) hS ls (lv_sub hl [0, 1, 2, 3, 4, 5] rfl)
    exact hlp_26 _ 0 v (Nat.zero_le _) hn rfl (Nat.lt_succ_self _) s.heap [] (hP.sub [] rfl) (hD.sub [] (by decide) rfl) hS ls (lv_sub hl [0, 1, 2, 3, 4, 5] rfl)
  · refine lv_ldc2d (v := D2) hx hb hown (hW _ mw_366) d_Wd_scaledDouble_4 ?_
    refine lv_goto (tgt := 13) hx hb d_Wd_scaledDouble_7 (by decide) ?_
    refine lv_dstore_n (lv' := [(3, .double D2), (0, .double v), (2, .int r9)]) hx hb d_Wd_scaledDouble_13 rfl hl (by decide) rfl (fun ls hl => ?_)
    refine lv_iload_n hx hb d_Wd_scaledDouble_14 rfl (lv_at hl 2 rfl) ?_
    refine va_mabs hx hb (by rw [hml]; exact hl.1.symm) hown (hW _ mw_339) (hW _ mw_340) (hW _ mw_62) (hW _ mw_341) (Nat.le_of_ble_eq_true rfl) (Nat.le_of_ble_eq_true rfl) (Nat.le_of_ble_eq_true rfl) (Nat.le_of_ble_eq_true rfl) d_Wd_scaledDouble_15 ?_
    refine x_topi (y := nI r9.toInt.natAbs) (mabs_n hs) ?_
    refine lv_istore (lv' := [(5, .int (nI r9.toInt.natAbs)), (3, .double D2), (0, .double v), (2, .int r9)]) hx hb d_Wd_scaledDouble_18 hl (by decide) rfl (fun ls hl => ?_)
    refine lv_dload_n hx hb d_Wd_scaledDouble_20 rfl (lv_at hl 2 rfl) ?_
    refine lv_dstore (lv' := [(6, .double v), (5, .int (nI r9.toInt.natAbs)), (3, .double D2), (0, .double v), (2, .int r9)]) hx hb d_Wd_scaledDouble_21 hl (by decide) rfl (fun ls hl => ?_)
    refine lv_iconst (v := 0) hx hb d_Wd_scaledDouble_23 (by decide) ?_
    refine lv_istore (lv' := [(8, .int 0), (6, .double v), (5, .int (nI r9.toInt.natAbs)), (3, .double D2), (0, .double v), (2, .int r9)]) hx hb d_Wd_scaledDouble_24 hl (by decide) rfl (fun ls hl => ?_)
    have hlp_26 : ∀ (n : Nat) (jj : Nat) (ww : UInt64), (jj ≤ r9.toInt.natAbs) → (dN ww) → (sdl D2 (r9.toInt.natAbs - jj) ww = sdl D2 r9.toInt.natAbs v) → r9.toInt.natAbs - jj < n → ∀ (H : Heap) (locs : List Loc), va_P D vwCl [] H → va_D A [] → va_S A s.heap H locs → ∀ (ls : Array Slot), lv_has ls 9 [(8, .int (nI jj)), (6, .double ww), (5, .int (nI r9.toInt.natAbs)), (3, .double D2), (0, .double v), (2, .int r9)] → W p l e ({ frames := 1, cells := 0, slots := 0, locals := 40 }) s m [.double v, .int r9].toArray below meth cd H locs 0 0 (MQ below ((fun A => va_Qd (fun (r : UInt64) (u : Unit) => r = scD v r9) (xB D vwCl [] (fun u : Unit => []) A) A) A) [.double v, .int r9].toArray s 0 0 A) (F0 m 26 ls []) := by
      intro n
      induction n with
      | zero => intro jj ww hj hNw he hms; exact absurd hms (Nat.not_lt_zero _)
      | succ n ih =>
        intro jj ww hj hNw he hms H locs hP hD hS ls hl
        refine lv_iload hx hb d_Wd_scaledDouble_26 (lv_at hl 0 rfl) ?_
        refine lv_iload hx hb d_Wd_scaledDouble_28 (lv_at hl 2 rfl) ?_
        refine lv_icmp_ge (tgt := 45) hx hb d_Wd_scaledDouble_30 (by decide) (fun c_30 => ?_) (fun c_30 => ?_)
        · replace c_30 := (cg_le r9.toInt.natAbs jj rfl rfl (by omega) (by omega)).mp c_30
          refine lv_dload hx hb d_Wd_scaledDouble_45 (lv_at hl 1 rfl) ?_
          exact W.dret (v := ww) hx hb hr (fun t9 ht9 hW9 => ⟨⟨ww, (() : Unit), rfl, by rw [← scD_pos c_1 rfl, ← he, show r9.toInt.natAbs - jj = 0 by omega]; rfl, by rw [ht9]; exact hP.sub [] rfl, va_K.moved hW9.alike hK, hD.sub [] (by decide) rfl⟩, hS.F ht9⟩) hS.2.2 d_Wd_scaledDouble_47
        · replace c_30 := mt (cg_le r9.toInt.natAbs jj rfl rfl (by omega) (by omega)).mpr c_30
          refine lv_dload hx hb d_Wd_scaledDouble_33 (lv_at hl 1 rfl) ?_
          refine lv_dload_n hx hb d_Wd_scaledDouble_35 rfl (lv_at hl 3 rfl) ?_
          refine lv_dmul hx hb d_Wd_scaledDouble_36 (dN_n (dN_2 hNw)) ?_
          refine lv_dstore (lv' := [(6, .double (FP.dmul ww D2)), (8, .int (nI jj)), (5, .int (nI r9.toInt.natAbs)), (3, .double D2), (0, .double v), (2, .int r9)]) hx hb d_Wd_scaledDouble_37 hl (by decide) rfl (fun ls hl => ?_)
          refine lv_iinc (v := nI (jj + 1)) (lv' := [(8, .int (nI (jj + 1))), (6, .double (FP.dmul ww D2)), (5, .int (nI r9.toInt.natAbs)), (3, .double D2), (0, .double v), (2, .int r9)]) hx hb d_Wd_scaledDouble_39 hl (k := 1) rfl (nI_1 _) (by decide) rfl (fun ls hl => ?_)
          refine lv_goto (tgt := 26) hx hb d_Wd_scaledDouble_42 (by decide) ?_
          exact ih (jj + 1) (FP.dmul ww D2) (by omega) (dN_2 hNw) (by rw [← he, sdl_s (n := r9.toInt.natAbs - jj) (by omega)]; rfl) (by omega) H locs (hP.sub [] rfl) (hD.sub [] (by decide) rfl) hS ls (lv_sub hl [0, 1, 2, 3, 4, 5] rfl)
    exact hlp_26 _ 0 v (Nat.zero_le _) hn rfl (Nat.lt_succ_self _) s.heap [] (hP.sub [] rfl) (hD.sub [] (by decide) rfl) hS ls (lv_sub hl [0, 1, 2, 3, 4, 5] rfl)
set_option maxHeartbeats 4000000 in
set_option maxRecDepth 100000 in
theorem k_La_magnitudeOf (l : Launch) (D : va_G) (g : GP) (i : Nat) (ee ff : Int64) (hi : i < 2) (hee : ∃ n : Nat, n ≤ 2047 ∧ ee = lN n) (sz : Nat) : Met l y_La_magnitudeOf (.code y_La_magnitudeOf c_La_magnitudeOf 5 (some .double) :: xW) ({ frames := 2, cells := 0, slots := 0, locals := 68 }) (xPc (gZ g) D vwCl [.ref (g.1 i), .long ee, .long ff] [] [] sz) (va_Qd (fun (r : UInt64) (u : Unit) => r = mgo i ee ff) (xB D vwCl [] (fun u : Unit => []) (va_A [] sz)) (va_A [] sz)) 0 0 (va_A [] sz) := by
  refine x_open (Qc := fun A => va_Qd (fun (r : UInt64) (u : Unit) => r = mgo i ee ff) (xB D vwCl [] (fun u : Unit => []) A) A) (cc := c_La_magnitudeOf) (maxL := 5) (ret := (some .double)) (own := R_La) (by decide) rfl rfl (Nat.le_of_ble_eq_true rfl) ?_
  intro p e s m below meth cd A ls hsz hAe hx hb hr hml hown hts hlk hnm hA hP hK hD hS hZ hl
  clear hsz hAe
  have hW : ∀ w ∈ xW, w.before _ s = true := fun w h => hts w (List.mem_cons_of_mem _ h)
  have hl : lv_has ls 5 [(0, .ref (g.1 i)), (1, .long ee), (3, .long ff)] := hl
  have hlb := lb_in (i := i)
  have hlw := lw_in (i := i)
  have hlz := lz_in (i := i)
  obtain ⟨ne, hne, e_ne⟩ := id hee
  refine lv_lload_n hx hb d_La_magnitudeOf_0 rfl (lv_at hl 1 rfl) ?_
  refine lv_aload_n hx hb d_La_magnitudeOf_1 rfl (lv_at hl 0 rfl) ?_
  refine x_calli (D := D) (wc := []) (wr := []) (va_runV (C := R_La) (As := []) (rest := [.long ee]) ⟨hx, hb, hml, hown, hW⟩ (k_La_allOnes l D g i hi s.heap.size) (cwV 0 hW (gWV mw_326 mw_328 mw_10 mw_61 mw_329) rfl rfl rfl (by decide +kernel) ⟨Nat.le_of_ble_eq_true rfl, Nat.le_of_ble_eq_true rfl⟩) ⟨xPc_blind (gZ_ok g), va_recvE hZ.2.2.2.2.2.2.1 hi hS, x_pre (gZ_ok g) hP hK hD hS hA hZ [] [] rfl rfl rfl⟩ rfl rfl hl.1 rfl (lv_room (Nat.le_of_ble_eq_true rfl)) d_La_magnitudeOf_2 ⟨Nat.le_of_ble_eq_true rfl, Nat.le_of_ble_eq_true rfl⟩) hP hD hS hA [] [] rfl rfl rfl (by decide) (fun r_2 u_2 H locs hw_2 hP hD hS => ?_)
  replace hw_2 := hw_2.symm
  subst hw_2
  have hP : va_P D vwCl [] H := hP
  have hD : va_D A [] := hD
  refine lv_i2l (v := (nI (2 * lb i + 1)).toInt64) hx hb d_La_magnitudeOf_5 rfl ?_
  refine W.lcmp hx hb d_La_magnitudeOf_6 ?_
  refine lv_if_ne (tgt := 14) hx hb d_La_magnitudeOf_7 (by decide) (fun c_7 => ?_) (fun c_7 => ?_)
  · replace c_7 := mt (lg_cmp_eq _ _).mpr c_7
    refine lv_lload_n hx hb d_La_magnitudeOf_14 rfl (lv_at hl 1 rfl) ?_
    refine lv_lconst (v := 0) hx hb d_La_magnitudeOf_15 (by decide) ?_
    refine W.lcmp hx hb d_La_magnitudeOf_16 ?_
    refine lv_if_ne (tgt := 37) hx hb d_La_magnitudeOf_17 (by decide) (fun c_17 => ?_) (fun c_17 => ?_)
    · replace c_17 := mt (lg_cmp_eq _ _).mpr c_17
      refine lv_aload_n hx hb d_La_magnitudeOf_37 rfl (lv_at hl 0 rfl) ?_
      refine x_calll (D := D) (wc := []) (wr := []) (va_runV (C := R_La) (As := []) (rest := []) ⟨hx, hb, hml, hown, hW⟩ (k_La_one l D g i hi H.size) (cwV 0 hW (gWV mw_330 mw_332 mw_11 mw_61 mw_333) rfl rfl rfl (by decide +kernel) ⟨Nat.le_of_ble_eq_true rfl, Nat.le_of_ble_eq_true rfl⟩) ⟨xPc_blind (gZ_ok g), va_recvE hZ.2.2.2.2.2.2.1 hi hS, x_pre (gZ_ok g) hP hK hD hS hA hZ [] [] rfl rfl rfl⟩ rfl rfl hl.1 rfl (lv_room (Nat.le_of_ble_eq_true rfl)) d_La_magnitudeOf_38 ⟨Nat.le_of_ble_eq_true rfl, Nat.le_of_ble_eq_true rfl⟩) hP hD hS hA [] [] rfl rfl rfl (by decide) (fun r_38 u_38 H locs hw_38 hP hD hS => ?_)
      replace hw_38 := hw_38.symm
      subst hw_38
      have hP : va_P D vwCl [] H := hP
      have hD : va_D A [] := hD
      refine lv_lload_n hx hb d_La_magnitudeOf_41 rfl (lv_at hl 2 rfl) ?_
      refine lv_ladd hx hb d_La_magnitudeOf_42 ?_
      refine lv_l2d hx hb d_La_magnitudeOf_43 ?_
      refine lv_lload_n hx hb d_La_magnitudeOf_44 rfl (lv_at hl 1 rfl) ?_
      refine lv_l2i (v := ee.toInt32) hx hb d_La_magnitudeOf_45 rfl ?_
      refine lv_aload_n hx hb d_La_magnitudeOf_46 rfl (lv_at hl 0 rfl) ?_
      refine va_getE (i := i) (q := ("WireData$Layout", "bias", "I", [127, 1023])) hx hb hZ.2.2.2.2.2.2.1 hi hS hown (by decide) (hW _ mw_783) (fun _ h9 => h9) d_La_magnitudeOf_47 ?_
      refine x_topi (y := nI (lb i)) (lb_v hi) ?_
      refine lv_isub hx hb d_La_magnitudeOf_50 ?_
      refine lv_aload_n hx hb d_La_magnitudeOf_51 rfl (lv_at hl 0 rfl) ?_
      refine va_getE (i := i) (q := ("WireData$Layout", "width", "I", [23, 52])) hx hb hZ.2.2.2.2.2.2.1 hi hS hown (by decide) (hW _ mw_784) (fun _ h9 => h9) d_La_magnitudeOf_52 ?_
      refine x_topi (y := nI (lw i)) (lw_v hi) ?_
      refine lv_isub hx hb d_La_magnitudeOf_55 ?_
      refine x_calld (D := D) (wc := []) (wr := []) (va_runSN (As := [.double (FP.l2d ((lN (2 ^ lw i)) + ff)), .int ((ee.toInt32 - (nI (lb i))) - (nI (lw i)))]) (rest := []) ⟨hx, hb, hml, hown, hW⟩ (k_Wd_scaledDouble l D g (FP.l2d ((lN (2 ^ lw i)) + ff)) ((ee.toInt32 - (nI (lb i))) - (nI (lw i))) (dN_l2d _) (by rw [e_ne]; exact sc_bd hne) H.size) (⟨va_cnB 2 hW (gW mw_365) rfl rfl rfl (gZ_nest hZ 26 rfl) (hW _ mw_50) (by decide +kernel) ⟨Nat.le_of_ble_eq_true rfl, Nat.le_of_ble_eq_true rfl⟩, hW _ mw_364, trivial⟩) ⟨xPc_blind (gZ_ok g), x_pre (gZ_ok g) hP hK hD hS hA hZ [] [] rfl rfl rfl⟩ rfl rfl hl.1 rfl (lv_room (Nat.le_of_ble_eq_true rfl)) d_La_magnitudeOf_56 ⟨Nat.le_of_ble_eq_true rfl, Nat.le_of_ble_eq_true rfl⟩) hP hD hS hA [] [] rfl rfl rfl (by decide) (fun r_56 u_56 H locs hw_56 hP hD hS => ?_)
      replace hw_56 := hw_56.symm
      subst hw_56
      have hP : va_P D vwCl [] H := hP
      have hD : va_D A [] := hD
      exact W.dret (v := scD (FP.l2d ((lN (2 ^ lw i)) + ff)) ((ee.toInt32 - (nI (lb i))) - (nI (lw i)))) hx hb hr (fun t9 ht9 hW9 => ⟨⟨scD (FP.l2d ((lN (2 ^ lw i)) + ff)) ((ee.toInt32 - (nI (lb i))) - (nI (lw i))), (() : Unit), rfl, by rw [mgo, if_neg c_7, if_neg c_17], by rw [ht9]; exact hP.sub [] rfl, va_K.moved hW9.alike hK, hD.sub [] (by decide) rfl⟩, hS.F ht9⟩) hS.2.2 d_La_magnitudeOf_59
    · replace c_17 := (lg_cmp_eq _ _).mp c_17
      refine lv_lload_n hx hb d_La_magnitudeOf_20 rfl (lv_at hl 2 rfl) ?_
      refine lv_l2d hx hb d_La_magnitudeOf_21 ?_
      refine lv_iconst (v := 1) hx hb d_La_magnitudeOf_22 (by decide) ?_
      refine lv_aload_n hx hb d_La_magnitudeOf_23 rfl (lv_at hl 0 rfl) ?_
      refine va_getE (i := i) (q := ("WireData$Layout", "bias", "I", [127, 1023])) hx hb hZ.2.2.2.2.2.2.1 hi hS hown (by decide) (hW _ mw_783) (fun _ h9 => h9) d_La_magnitudeOf_24 ?_
      refine x_topi (y := nI (lb i)) (lb_v hi) ?_
      refine lv_isub hx hb d_La_magnitudeOf_27 ?_
      refine x_topi (y := 1 - nI (lb i)) (rfl) ?_
      refine lv_aload_n hx hb d_La_magnitudeOf_28 rfl (lv_at hl 0 rfl) ?_
      refine va_getE (i := i) (q := ("WireData$Layout", "width", "I", [23, 52])) hx hb hZ.2.2.2.2.2.2.1 hi hS hown (by decide) (hW _ mw_784) (fun _ h9 => h9) d_La_magnitudeOf_29 ?_
      refine x_topi (y := nI (lw i)) (lw_v hi) ?_
      refine lv_isub hx hb d_La_magnitudeOf_32 ?_
      refine x_calld (D := D) (wc := []) (wr := []) (va_runSN (As := [.double (FP.l2d ff), .int ((1 - nI (lb i)) - (nI (lw i)))]) (rest := []) ⟨hx, hb, hml, hown, hW⟩ (k_Wd_scaledDouble l D g (FP.l2d ff) ((1 - nI (lb i)) - (nI (lw i))) (dN_l2d _) sc_bd0 H.size) (⟨va_cnB 2 hW (gW mw_365) rfl rfl rfl (gZ_nest hZ 26 rfl) (hW _ mw_50) (by decide +kernel) ⟨Nat.le_of_ble_eq_true rfl, Nat.le_of_ble_eq_true rfl⟩, hW _ mw_364, trivial⟩) ⟨xPc_blind (gZ_ok g), x_pre (gZ_ok g) hP hK hD hS hA hZ [] [] rfl rfl rfl⟩ rfl rfl hl.1 rfl (lv_room (Nat.le_of_ble_eq_true rfl)) d_La_magnitudeOf_33 ⟨Nat.le_of_ble_eq_true rfl, Nat.le_of_ble_eq_true rfl⟩) hP hD hS hA [] [] rfl rfl rfl (by decide) (fun r_33 u_33 H locs hw_33 hP hD hS => ?_)
      replace hw_33 := hw_33.symm
      subst hw_33
      have hP : va_P D vwCl [] H := hP
      have hD : va_D A [] := hD
      exact W.dret (v := scD (FP.l2d ff) ((1 - nI (lb i)) - (nI (lw i)))) hx hb hr (fun t9 ht9 hW9 => ⟨⟨scD (FP.l2d ff) ((1 - nI (lb i)) - (nI (lw i))), (() : Unit), rfl, by rw [mgo, if_neg c_7, if_pos c_17], by rw [ht9]; exact hP.sub [] rfl, va_K.moved hW9.alike hK, hD.sub [] (by decide) rfl⟩, hS.F ht9⟩) hS.2.2 d_La_magnitudeOf_36
  · replace c_7 := (lg_cmp_eq _ _).mp c_7
    refine lv_ldc2d (v := DI) hx hb hown (hW _ mw_488) d_La_magnitudeOf_10 ?_
    exact W.dret (v := DI) hx hb hr (fun t9 ht9 hW9 => ⟨⟨DI, (() : Unit), rfl, by rw [mgo, if_pos c_7], by rw [ht9]; exact hP.sub [] rfl, va_K.moved hW9.alike hK, hD.sub [] (by decide) rfl⟩, hS.F ht9⟩) hS.2.2 d_La_magnitudeOf_13
set_option maxHeartbeats 4000000 in
set_option maxRecDepth 100000 in
theorem k_La_valueIn (l : Launch) (D : va_G) (g : GP) (i : Nat) (v : Int64) (hi : i < 2) (sz : Nat) : Met l y_La_valueIn (.code y_La_valueIn c_La_valueIn 6 (some .double) :: xW) ({ frames := 3, cells := 0, slots := 0, locals := 92 }) (xPc (gZ g) D vwCl [.ref (g.1 i), .long v] [] [] sz) (va_Qd (fun (r : UInt64) (u : Unit) => r = vin i v) (xB D vwCl [] (fun u : Unit => []) (va_A [] sz)) (va_A [] sz)) 0 0 (va_A [] sz) := by
  refine x_open (Qc := fun A => va_Qd (fun (r : UInt64) (u : Unit) => r = vin i v) (xB D vwCl [] (fun u : Unit => []) A) A) (cc := c_La_valueIn) (maxL := 6) (ret := (some .double)) (own := R_La) (by decide) rfl rfl (Nat.le_of_ble_eq_true rfl) ?_
  intro p e s m below meth cd A ls hsz hAe hx hb hr hml hown hts hlk hnm hA hP hK hD hS hZ hl
  clear hsz hAe
  have hW : ∀ w ∈ xW, w.before _ s = true := fun w h => hts w (List.mem_cons_of_mem _ h)
  have hl : lv_has ls 6 [(0, .ref (g.1 i)), (1, .long v)] := hl
  have hlb := lb_in (i := i)
  have hlw := lw_in (i := i)
  have hlz := lz_in (i := i)
  refine lv_aload_n hx hb d_La_valueIn_0 rfl (lv_at hl 0 rfl) ?_
  refine lv_aload_n hx hb d_La_valueIn_1 rfl (lv_at hl 0 rfl) ?_
  refine lv_lload_n hx hb d_La_valueIn_2 rfl (lv_at hl 1 rfl) ?_
  refine x_calll (D := D) (wc := []) (wr := []) (va_runV (C := R_La) (As := [.long v]) (rest := [.ref (g.1 i)]) ⟨hx, hb, hml, hown, hW⟩ (k_La_exponentIn l D g i v hi s.heap.size) (cwV 1 hW (gWV mw_472 mw_474 mw_24 mw_61 mw_475) rfl rfl rfl (by decide +kernel) ⟨Nat.le_of_ble_eq_true rfl, Nat.le_of_ble_eq_true rfl⟩) ⟨xPc_blind (gZ_ok g), va_recvE hZ.2.2.2.2.2.2.1 hi hS, x_pre (gZ_ok g) hP hK hD hS hA hZ [] [] rfl rfl rfl⟩ rfl rfl hl.1 rfl (lv_room (Nat.le_of_ble_eq_true rfl)) d_La_valueIn_3 ⟨Nat.le_of_ble_eq_true rfl, Nat.le_of_ble_eq_true rfl⟩) hP hD hS hA [] [] rfl rfl rfl (by decide) (fun r_3 u_3 H locs hw_3 hP hD hS => ?_)
  replace hw_3 := hw_3.symm
  subst hw_3
  have hP : va_P D vwCl [] H := hP
  have hD : va_D A [] := hD
  refine lv_aload_n hx hb d_La_valueIn_6 rfl (lv_at hl 0 rfl) ?_
  refine lv_lload_n hx hb d_La_valueIn_7 rfl (lv_at hl 1 rfl) ?_
  refine x_calll (D := D) (wc := []) (wr := []) (va_runV (C := R_La) (As := [.long v]) (rest := [.long (exI i v), .ref (g.1 i)]) ⟨hx, hb, hml, hown, hW⟩ (k_La_fractionIn l D g i v hi H.size) (cwV 1 hW (gWV mw_476 mw_478 mw_25 mw_61 mw_479) rfl rfl rfl (by decide +kernel) ⟨Nat.le_of_ble_eq_true rfl, Nat.le_of_ble_eq_true rfl⟩) ⟨xPc_blind (gZ_ok g), va_recvE hZ.2.2.2.2.2.2.1 hi hS, x_pre (gZ_ok g) hP hK hD hS hA hZ [] [] rfl rfl rfl⟩ rfl rfl hl.1 rfl (lv_room (Nat.le_of_ble_eq_true rfl)) d_La_valueIn_8 ⟨Nat.le_of_ble_eq_true rfl, Nat.le_of_ble_eq_true rfl⟩) hP hD hS hA [] [] rfl rfl rfl (by decide) (fun r_8 u_8 H locs hw_8 hP hD hS => ?_)
  replace hw_8 := hw_8.symm
  subst hw_8
  have hP : va_P D vwCl [] H := hP
  have hD : va_D A [] := hD
  refine x_calld (D := D) (wc := []) (wr := []) (va_runV (C := R_La) (As := [.long (exI i v), .long (frI i v)]) (rest := []) ⟨hx, hb, hml, hown, hW⟩ (k_La_magnitudeOf l D g i (exI i v) (frI i v) hi (by obtain ⟨n, hn, e⟩ := exI_n i v; exact ⟨n, by omega, e⟩) H.size) (cwV 2 hW (gWV mw_484 mw_486 mw_27 mw_61 mw_487) rfl rfl rfl (by decide +kernel) ⟨Nat.le_of_ble_eq_true rfl, Nat.le_of_ble_eq_true rfl⟩) ⟨xPc_blind (gZ_ok g), va_recvE hZ.2.2.2.2.2.2.1 hi hS, x_pre (gZ_ok g) hP hK hD hS hA hZ [] [] rfl rfl rfl⟩ rfl rfl hl.1 rfl (lv_room (Nat.le_of_ble_eq_true rfl)) d_La_valueIn_11 ⟨Nat.le_of_ble_eq_true rfl, Nat.le_of_ble_eq_true rfl⟩) hP hD hS hA [] [] rfl rfl rfl (by decide) (fun r_11 u_11 H locs hw_11 hP hD hS => ?_)
  replace hw_11 := hw_11.symm
  subst hw_11
  have hP : va_P D vwCl [] H := hP
  have hD : va_D A [] := hD
  refine lv_dstore_n (lv' := [(3, .double (mgo i (exI i v) (frI i v))), (0, .ref (g.1 i)), (1, .long v)]) hx hb d_La_valueIn_14 rfl hl (by decide) rfl (fun ls hl => ?_)
  refine lv_lload_n hx hb d_La_valueIn_15 rfl (lv_at hl 2 rfl) ?_
  refine lv_bipush (v := 8) hx hb d_La_valueIn_16 (by decide) ?_
  refine lv_aload_n hx hb d_La_valueIn_18 rfl (lv_at hl 1 rfl) ?_
  refine va_getE (i := i) (q := ("WireData$Layout", "size", "I", [4, 8])) hx hb hZ.2.2.2.2.2.2.1 hi hS hown (by decide) (hW _ mw_785) (fun _ h9 => h9) d_La_valueIn_19 ?_
  refine x_topi (y := nI (lz i)) (lz_v hi) ?_
  refine lv_imul hx hb d_La_valueIn_22 ?_
  refine x_topi (y := nI (8 * (lz i))) (by rw [show (8 : Int32) = nI 8 by decide]; exact pk_mul _ _) ?_
  refine lv_iconst (v := 1) hx hb d_La_valueIn_23 (by decide) ?_
  refine lv_isub hx hb d_La_valueIn_24 ?_
  refine x_topi (y := nI (8 * lz i) - 1) (rfl) ?_
  refine lv_lushr (v := (v.toUInt64 >>> ((nI (8 * lz i) - 1).toInt64.toUInt64 &&& Int64.toUInt64 63)).toInt64) hx hb d_La_valueIn_25 rfl ?_
  refine lv_lconst (v := 1) hx hb d_La_valueIn_26 (by decide) ?_
  refine lv_land hx hb d_La_valueIn_27 ?_
  refine lv_lconst (v := 0) hx hb d_La_valueIn_28 (by decide) ?_
  refine W.lcmp hx hb d_La_valueIn_29 ?_
  refine lv_if_eq (tgt := 37) hx hb d_La_valueIn_30 (by decide) (fun c_30 => ?_) (fun c_30 => ?_)
  · replace c_30 := (lg_cmp_eq _ _).mp c_30
    refine lv_iconst (v := 0) hx hb d_La_valueIn_37 (by decide) ?_
    refine lv_istore (lv' := [(5, .int 0), (3, .double (mgo i (exI i v) (frI i v))), (0, .ref (g.1 i)), (1, .long v)]) hx hb d_La_valueIn_38 hl (by decide) rfl (fun ls hl => ?_)
    refine lv_iload hx hb d_La_valueIn_40 (lv_at hl 0 rfl) ?_
    refine lv_if_eq (tgt := 50) hx hb d_La_valueIn_42 (by decide) (fun c_42 => ?_) (fun c_42 => ?_)
    · refine lv_dload_n hx hb d_La_valueIn_50 rfl (lv_at hl 1 rfl) ?_
      exact W.dret (v := mgo i (exI i v) (frI i v)) hx hb hr (fun t9 ht9 hW9 => ⟨⟨mgo i (exI i v) (frI i v), (() : Unit), rfl, by rw [vin, if_pos c_30], by rw [ht9]; exact hP.sub [] rfl, va_K.moved hW9.alike hK, hD.sub [] (by decide) rfl⟩, hS.F ht9⟩) hS.2.2 d_La_valueIn_51
    · exact absurd c_42 (by decide)
  · replace c_30 := mt (lg_cmp_eq _ _).mpr c_30
    refine lv_iconst (v := 1) hx hb d_La_valueIn_33 (by decide) ?_
    refine lv_goto (tgt := 38) hx hb d_La_valueIn_34 (by decide) ?_
    refine lv_istore (lv' := [(5, .int 1), (3, .double (mgo i (exI i v) (frI i v))), (0, .ref (g.1 i)), (1, .long v)]) hx hb d_La_valueIn_38 hl (by decide) rfl (fun ls hl => ?_)
    refine lv_iload hx hb d_La_valueIn_40 (lv_at hl 0 rfl) ?_
    refine lv_if_eq (tgt := 50) hx hb d_La_valueIn_42 (by decide) (fun c_42 => ?_) (fun c_42 => ?_)
    · exact absurd c_42 (by decide)
    · refine lv_dload_n hx hb d_La_valueIn_45 rfl (lv_at hl 1 rfl) ?_
      refine lv_dneg hx hb d_La_valueIn_46 ?_
      refine lv_goto (tgt := 51) hx hb d_La_valueIn_47 (by decide) ?_
      exact W.dret (v := FP.dneg (mgo i (exI i v) (frI i v))) hx hb hr (fun t9 ht9 hW9 => ⟨⟨FP.dneg (mgo i (exI i v) (frI i v)), (() : Unit), rfl, by rw [vin, if_neg c_30], by rw [ht9]; exact hP.sub [] rfl, va_K.moved hW9.alike hK, hD.sub [] (by decide) rfl⟩, hS.F ht9⟩) hS.2.2 d_La_valueIn_51
