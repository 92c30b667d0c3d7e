set_option maxHeartbeats 4000000 in
set_option maxRecDepth 100000 in
theorem k_Te_sizeOfCode (l : Launch) (D : va_G) (g : GP) (k : Nat) (hk : k ≤ 65535) (sz : Nat) : Met l y_Te_sizeOfCode (.code y_Te_sizeOfCode c_Te_sizeOfCode 1 (some .int) :: xW) ({ frames := 0, cells := 0, slots := 0, locals := 0 }) (xPc (gZ g) D vwCl [.int (nI k)] [] [] sz) (va_Qi (fun (r : Int32) (u : Unit) => r = nI (ksz k)) (xB D vwCl [] (fun u : Unit => []) (va_A [] sz)) (va_A [] sz)) 0 0 (va_A [] sz) := by
  refine x_open (Qc := fun A => va_Qi (fun (r : Int32) (u : Unit) => r = nI (ksz k)) (xB D vwCl [] (fun u : Unit => []) A) A) (cc := c_Te_sizeOfCode) (maxL := 1) (ret := (some .int)) (own := R_Te) (by decide) rfl rfl (Nat.le_of_ble_eq_true rfl) ?_
  intro p e s m below meth cd A ls hsz hAe hx hb hr hml hown hts hlk hnm hA hP hK hD hS hZ hl
  clear hsz hAe
  have hW : ∀ w ∈ xW, w.before _ s = true := fun w h => hts w (List.mem_cons_of_mem _ h)
  have hl : lv_has ls 1 [(0, .int (nI k))] := hl
  refine lv_iload_n hx hb d_Te_sizeOfCode_0 rfl (lv_at hl 0 rfl) ?_
  refine lv_iconst (v := 1) hx hb d_Te_sizeOfCode_1 (by decide) ?_
  refine lv_icmp_lt (tgt := 13) hx hb d_Te_sizeOfCode_2 (by decide) (fun c_2 => ?_) (fun c_2 => ?_)
  · replace c_2 := (cg_lt k 1 rfl rfl (by omega) (by omega)).mp c_2
    refine lv_iload_n hx hb d_Te_sizeOfCode_13 rfl (lv_at hl 0 rfl) ?_
    refine lv_sipush (v := 2047) hx hb d_Te_sizeOfCode_14 (by decide) ?_
    refine lv_icmp_gt (tgt := 24) hx hb d_Te_sizeOfCode_17 (by decide) (fun c_17 => ?_) (fun c_17 => ?_)
    · replace c_17 := (cg_lt 2047 k rfl rfl (by omega) (by omega)).mp c_17
      refine lv_iconst (v := 3) hx hb d_Te_sizeOfCode_24 (by decide) ?_
      exact W.iret (v := 3) hx hb hr (fun t9 ht9 hW9 => ⟨⟨3, (() : Unit), rfl, by rw [ksz, if_neg (by omega), if_neg (by omega)]; rfl, by rw [ht9]; exact hP.sub [] rfl, va_K.moved hW9.alike hK, hD.sub [] (by decide) rfl⟩, hS.F ht9⟩) hS.2.2 d_Te_sizeOfCode_25
    · replace c_17 := mt (cg_lt 2047 k rfl rfl (by omega) (by omega)).mpr c_17
      refine lv_iconst (v := 2) hx hb d_Te_sizeOfCode_20 (by decide) ?_
      refine lv_goto (tgt := 25) hx hb d_Te_sizeOfCode_21 (by decide) ?_
      exact W.iret (v := 2) hx hb hr (fun t9 ht9 hW9 => ⟨⟨2, (() : Unit), rfl, by rw [ksz, if_neg (by omega), if_pos (by omega)]; rfl, by rw [ht9]; exact hP.sub [] rfl, va_K.moved hW9.alike hK, hD.sub [] (by decide) rfl⟩, hS.F ht9⟩) hS.2.2 d_Te_sizeOfCode_25
  · replace c_2 := mt (cg_lt k 1 rfl rfl (by omega) (by omega)).mpr c_2
    refine lv_iload_n hx hb d_Te_sizeOfCode_5 rfl (lv_at hl 0 rfl) ?_
    refine lv_bipush (v := 127) hx hb d_Te_sizeOfCode_6 (by decide) ?_
    refine lv_icmp_gt (tgt := 13) hx hb d_Te_sizeOfCode_8 (by decide) (fun c_8 => ?_) (fun c_8 => ?_)
    · replace c_8 := (cg_lt 127 k rfl rfl (by omega) (by omega)).mp c_8
      refine lv_iload_n hx hb d_Te_sizeOfCode_13 rfl (lv_at hl 0 rfl) ?_
      refine lv_sipush (v := 2047) hx hb d_Te_sizeOfCode_14 (by decide) ?_
      refine lv_icmp_gt (tgt := 24) hx hb d_Te_sizeOfCode_17 (by decide) (fun c_17 => ?_) (fun c_17 => ?_)
      · replace c_17 := (cg_lt 2047 k rfl rfl (by omega) (by omega)).mp c_17
        refine lv_iconst (v := 3) hx hb d_Te_sizeOfCode_24 (by decide) ?_
        exact W.iret (v := 3) hx hb hr (fun t9 ht9 hW9 => ⟨⟨3, (() : Unit), rfl, by rw [ksz, if_neg (by omega), if_neg (by omega)]; rfl, by rw [ht9]; exact hP.sub [] rfl, va_K.moved hW9.alike hK, hD.sub [] (by decide) rfl⟩, hS.F ht9⟩) hS.2.2 d_Te_sizeOfCode_25
      · replace c_17 := mt (cg_lt 2047 k rfl rfl (by omega) (by omega)).mpr c_17
        refine lv_iconst (v := 2) hx hb d_Te_sizeOfCode_20 (by decide) ?_
        refine lv_goto (tgt := 25) hx hb d_Te_sizeOfCode_21 (by decide) ?_
        exact W.iret (v := 2) hx hb hr (fun t9 ht9 hW9 => ⟨⟨2, (() : Unit), rfl, by rw [ksz, if_neg (by omega), if_pos (by omega)]; rfl, by rw [ht9]; exact hP.sub [] rfl, va_K.moved hW9.alike hK, hD.sub [] (by decide) rfl⟩, hS.F ht9⟩) hS.2.2 d_Te_sizeOfCode_25
    · replace c_8 := mt (cg_lt 127 k rfl rfl (by omega) (by omega)).mpr c_8
      refine lv_iconst (v := 1) hx hb d_Te_sizeOfCode_11 (by decide) ?_
      exact W.iret (v := 1) hx hb hr (fun t9 ht9 hW9 => ⟨⟨1, (() : Unit), rfl, by rw [ksz, if_pos (by omega)]; rfl, by rw [ht9]; exact hP.sub [] rfl, va_K.moved hW9.alike hK, hD.sub [] (by decide) rfl⟩, hS.F ht9⟩) hS.2.2 d_Te_sizeOfCode_12
set_option maxHeartbeats 4000000 in
set_option maxRecDepth 100000 in
theorem k_Te_sizeOf (l : Launch) (D : va_G) (g : GP) (qx qc qb qd : Nat) (cI : ClassId) (t : TS) (z : Nat) (ht : t_ok t) (hz : z ≤ 40) (sz : Nat) : Met l y_Te_sizeOf (.code y_Te_sizeOf c_Te_sizeOf 4 (some .int) :: xW) ({ frames := 1, cells := 0, slots := 0, locals := 20 }) (xPc (gZ g) D vwCl [.ref qx, .int (nI z)] [(qx, .inr (2, [.ref qc, .ref qb, .ref qd])), (qc, .inl (cI, 40, .inl t.1)), (qb, .inl (cI, 120, .inl t.2.1)), (qd, .inl (cI, 40, .inl t.2.2))] [(cI, .int)] sz) (va_Qi (fun (r : Int32) (u : Unit) => r = nI (t_sum t.1 z)) (xB D vwCl [(cI, .int)] (fun u : Unit => [(qx, .inr (2, [.ref qc, .ref qb, .ref qd])), (qc, .inl (cI, 40, .inl t.1)), (qb, .inl (cI, 120, .inl t.2.1)), (qd, .inl (cI, 40, .inl t.2.2))]) (va_A [(qx, .inr (2, [.ref qc, .ref qb, .ref qd])), (qc, .inl (cI, 40, .inl t.1)), (qb, .inl (cI, 120, .inl t.2.1)), (qd, .inl (cI, 40, .inl t.2.2))] sz)) (va_A [(qx, .inr (2, [.ref qc, .ref qb, .ref qd])), (qc, .inl (cI, 40, .inl t.1)), (qb, .inl (cI, 120, .inl t.2.1)), (qd, .inl (cI, 40, .inl t.2.2))] sz)) 0 0 (va_A [(qx, .inr (2, [.ref qc, .ref qb, .ref qd])), (qc, .inl (cI, 40, .inl t.1)), (qb, .inl (cI, 120, .inl t.2.1)), (qd, .inl (cI, 40, .inl t.2.2))] sz) := by
  refine x_open (Qc := fun A => va_Qi (fun (r : Int32) (u : Unit) => r = nI (t_sum t.1 z)) (xB D vwCl [(cI, .int)] (fun u : Unit => [(qx, .inr (2, [.ref qc, .ref qb, .ref qd])), (qc, .inl (cI, 40, .inl t.1)), (qb, .inl (cI, 120, .inl t.2.1)), (qd, .inl (cI, 40, .inl t.2.2))]) A) A) (cc := c_Te_sizeOf) (maxL := 4) (ret := (some .int)) (own := R_Te) (by decide) rfl rfl (Nat.le_of_ble_eq_true rfl) ?_
  intro p e s m below meth cd A ls hsz hAe hx hb hr hml hown hts hlk hnm hA hP hK hD hS hZ hl
  clear hsz hAe
  have hW : ∀ w ∈ xW, w.before _ s = true := fun w h => hts w (List.mem_cons_of_mem _ h)
  have hl : lv_has ls 4 [(0, .ref qx), (1, .int (nI z))] := hl
  refine lv_iconst (v := 0) hx hb d_Te_sizeOf_0 (by decide) ?_
  refine lv_istore_n (lv' := [(2, .int 0), (0, .ref qx), (1, .int (nI z))]) hx hb d_Te_sizeOf_1 rfl hl (by decide) rfl (fun ls hl => ?_)
  refine lv_iconst (v := 0) hx hb d_Te_sizeOf_2 (by decide) ?_
  refine lv_istore_n (lv' := [(3, .int 0), (2, .int 0), (0, .ref qx), (1, .int (nI z))]) hx hb d_Te_sizeOf_3 rfl hl (by decide) rfl (fun ls hl => ?_)
  have hlp_4 : ∀ (n : Nat) (i : Nat), (i ≤ z) → z - i < n → ∀ (H : Heap) (locs : List Loc), va_P D vwCl [(qx, .inr (2, [.ref qc, .ref qb, .ref qd])), (qc, .inl (cI, 40, .inl t.1)), (qb, .inl (cI, 120, .inl t.2.1)), (qd, .inl (cI, 40, .inl t.2.2))] H → va_D A [(qx, .inr (2, [.ref qc, .ref qb, .ref qd])), (qc, .inl (cI, 40, .inl t.1)), (qb, .inl (cI, 120, .inl t.2.1)), (qd, .inl (cI, 40, .inl t.2.2))] → va_S A s.heap H locs → ∀ (ls : Array Slot), lv_has ls 4 [(3, .int (nI i)), (2, .int (nI (t_sum t.1 i))), (0, .ref qx), (1, .int (nI z))] → W p l e ({ frames := 1, cells := 0, slots := 0, locals := 20 }) s m [.ref qx, .int (nI z)].toArray below meth cd H locs 0 0 (MQ below ((fun A => va_Qi (fun (r : Int32) (u : Unit) => r = nI (t_sum t.1 z)) (xB D vwCl [(cI, .int)] (fun u : Unit => [(qx, .inr (2, [.ref qc, .ref qb, .ref qd])), (qc, .inl (cI, 40, .inl t.1)), (qb, .inl (cI, 120, .inl t.2.1)), (qd, .inl (cI, 40, .inl t.2.2))]) A) A) A) [.ref qx, .int (nI z)].toArray s 0 0 A) (F0 m 4 ls []) := by
    intro n
    induction n with
    | zero => intro i hi hms; exact absurd hms (Nat.not_lt_zero _)
    | succ n ih =>
      intro i hi hms H locs hP hD hS ls hl
      refine lv_iload_n hx hb d_Te_sizeOf_4 rfl (lv_at hl 0 rfl) ?_
      refine lv_iload_n hx hb d_Te_sizeOf_5 rfl (lv_at hl 3 rfl) ?_
      refine lv_icmp_ge (tgt := 27) hx hb d_Te_sizeOf_6 (by decide) (fun c_6 => ?_) (fun c_6 => ?_)
      · replace c_6 := (cg_le z i rfl rfl (by omega) (by omega)).mp c_6
        refine lv_iload_n hx hb d_Te_sizeOf_27 rfl (lv_at hl 1 rfl) ?_
        exact W.iret (v := nI (t_sum t.1 i)) hx hb hr (fun t9 ht9 hW9 => ⟨⟨nI (t_sum t.1 i), (() : Unit), rfl, by rw [show i = z by omega], by rw [ht9]; exact hP.sub [0, 1, 2, 3] rfl, va_K.moved hW9.alike hK, hD.sub [0, 1, 2, 3] (by decide) rfl⟩, hS.F ht9⟩) hS.2.2 d_Te_sizeOf_28
      · replace c_6 := mt (cg_le z i rfl rfl (by omega) (by omega)).mpr c_6
        have hsum := t_sum_le t.1 i
        refine lv_iload_n hx hb d_Te_sizeOf_9 rfl (lv_at hl 1 rfl) ?_
        refine lv_aload_n hx hb d_Te_sizeOf_10 rfl (lv_at hl 2 rfl) ?_
        refine va_get (D := D) (ci := 2) (v := .ref qc) (C := R_Te) (T := F_Te) (N := 3) hx hb hW in_Te hown hK hP 0 rfl rfl 0 (by decide) (hW _ mw_129) (fun _ h9 => h9) rfl d_Te_sizeOf_11 ?_
        refine lv_iload_n hx hb d_Te_sizeOf_14 rfl (lv_at hl 0 rfl) ?_
        refine va_iald (D := D) hx hb hK hP 1 0 rfl rfl (vp_in_nI (by omega) (by decide)) d_Te_sizeOf_15 ?_
        refine x_topi (y := t.1 i) (by rw [nI_clamp (by omega)]) ?_
        refine x_topi (y := nI (n_at t.1 i)) (n_at_eq ht.1 (by omega)) ?_
        refine x_calli (D := D) (wc := []) (wr := [(qx, .inr (2, [.ref qc, .ref qb, .ref qd])), (qc, .inl (cI, 40, .inl t.1)), (qb, .inl (cI, 120, .inl t.2.1)), (qd, .inl (cI, 40, .inl t.2.2))]) (va_runS (As := [.int (nI (n_at t.1 i))]) (rest := [.int (nI (t_sum t.1 i))]) ⟨hx, hb, hml, hown, hW⟩ (k_Te_sizeOfCode l D g (n_at t.1 i) (n_at_le ht.1 (by omega) (by decide)) H.size) (cwS 1 hW (gWS mw_393 mw_394 mw_53 mw_395) rfl rfl rfl (by decide +kernel) ⟨Nat.le_of_ble_eq_true rfl, Nat.le_of_ble_eq_true rfl⟩) ⟨xPc_blind (gZ_ok g), x_pre (gZ_ok g) hP hK hD hS hA hZ [] [] rfl rfl rfl⟩ rfl rfl hl.1 rfl (lv_room (Nat.le_of_ble_eq_true rfl)) d_Te_sizeOf_16 ⟨Nat.le_of_ble_eq_true rfl, Nat.le_of_ble_eq_true rfl⟩) hP hD hS hA [] [0, 1, 2, 3] rfl rfl rfl (by decide) (fun r_16 u_16 H locs hw_16 hP hD hS => ?_)
        replace hw_16 := hw_16.symm
        subst hw_16
        have hP : va_P D vwCl [(qx, .inr (2, [.ref qc, .ref qb, .ref qd])), (qc, .inl (cI, 40, .inl t.1)), (qb, .inl (cI, 120, .inl t.2.1)), (qd, .inl (cI, 40, .inl t.2.2))] H := hP
        have hD : va_D A [(qx, .inr (2, [.ref qc, .ref qb, .ref qd])), (qc, .inl (cI, 40, .inl t.1)), (qb, .inl (cI, 120, .inl t.2.1)), (qd, .inl (cI, 40, .inl t.2.2))] := hD
        refine lv_iadd hx hb d_Te_sizeOf_19 ?_
        refine x_topi (y := nI (t_sum t.1 i + (ksz (n_at t.1 i)))) (nI_add _ _) ?_
        refine lv_istore_n (lv' := [(2, .int (nI (t_sum t.1 i + (ksz (n_at t.1 i))))), (3, .int (nI i)), (0, .ref qx), (1, .int (nI z))]) hx hb d_Te_sizeOf_20 rfl hl (by decide) rfl (fun ls hl => ?_)
        refine lv_iinc (v := nI (i + 1)) (lv' := [(3, .int (nI (i + 1))), (2, .int (nI (t_sum t.1 i + (ksz (n_at t.1 i))))), (0, .ref qx), (1, .int (nI z))]) hx hb d_Te_sizeOf_21 hl (k := 1) rfl (nI_1 _) (by decide) rfl (fun ls hl => ?_)
        refine lv_goto (tgt := 4) hx hb d_Te_sizeOf_24 (by decide) ?_
        exact ih (i + 1) (by omega) (by omega) H locs (hP.sub [0, 1, 2, 3] rfl) (hD.sub [0, 1, 2, 3] (by decide) rfl) hS ls (lv_sub hl [0, 1, 2, 3] rfl)
  exact hlp_4 _ 0 (Nat.zero_le _) (Nat.lt_succ_self _) s.heap [] (hP.sub [0, 1, 2, 3] rfl) (hD.sub [0, 1, 2, 3] (by decide) rfl) hS ls (lv_sub hl [0, 1, 2, 3] rfl)
set_option maxHeartbeats 4000000 in
set_option maxRecDepth 100000 in
theorem k_Te_encodeCode (l : Launch) (D : va_G) (g : GP) (k : Nat) (qo ql qp : Nat) (cI : ClassId) (o : OS) (hk : k ≤ 65535) (ho : o_ok o) (sz : Nat) : Met l y_Te_encodeCode (.code y_Te_encodeCode c_Te_encodeCode 3 none :: xW) ({ frames := 4, cells := 0, slots := 0, locals := 85 }) (xPc (gZ g) D vwCl [.int (nI k), .ref qo] [(qo, .inr (1, [.ref ql, .int (nI o.2.1), .ref qp, .int (nI o.2.2.2.1), .int (bI o.2.2.2.2)])), (ql, .inl (cI, 1507, .inl o.1)), (qp, .inl (cI, 1024, .inl o.2.2.1))] [(cI, .int)] sz) (va_Qv (fun (u : OS) => u = o_enc o k) (xB D vwCl [(cI, .int)] (fun u : OS => [(qo, .inr (1, [.ref ql, .int (nI u.2.1), .ref qp, .int (nI u.2.2.2.1), .int (bI u.2.2.2.2)])), (ql, .inl (cI, 1507, .inl u.1)), (qp, .inl (cI, 1024, .inl u.2.2.1))]) (va_A [(qo, .inr (1, [.ref ql, .int (nI o.2.1), .ref qp, .int (nI o.2.2.2.1), .int (bI o.2.2.2.2)])), (ql, .inl (cI, 1507, .inl o.1)), (qp, .inl (cI, 1024, .inl o.2.2.1))] sz)) (va_A [(qo, .inr (1, [.ref ql, .int (nI o.2.1), .ref qp, .int (nI o.2.2.2.1), .int (bI o.2.2.2.2)])), (ql, .inl (cI, 1507, .inl o.1)), (qp, .inl (cI, 1024, .inl o.2.2.1))] sz)) 0 0 (va_A [(qo, .inr (1, [.ref ql, .int (nI o.2.1), .ref qp, .int (nI o.2.2.2.1), .int (bI o.2.2.2.2)])), (ql, .inl (cI, 1507, .inl o.1)), (qp, .inl (cI, 1024, .inl o.2.2.1))] sz) := by
  refine x_open (Qc := fun A => va_Qv (fun (u : OS) => u = o_enc o k) (xB D vwCl [(cI, .int)] (fun u : OS => [(qo, .inr (1, [.ref ql, .int (nI u.2.1), .ref qp, .int (nI u.2.2.2.1), .int (bI u.2.2.2.2)])), (ql, .inl (cI, 1507, .inl u.1)), (qp, .inl (cI, 1024, .inl u.2.2.1))]) A) A) (cc := c_Te_encodeCode) (maxL := 3) (ret := none) (own := R_Te) (by decide) rfl rfl (Nat.le_of_ble_eq_true rfl) ?_
  intro p e s m below meth cd A ls hsz hAe hx hb hr hml hown hts hlk hnm hA hP hK hD hS hZ hl
  clear hsz hAe
  have hW : ∀ w ∈ xW, w.before _ s = true := fun w h => hts w (List.mem_cons_of_mem _ h)
  have hl : lv_has ls 3 [(0, .int (nI k)), (1, .ref qo)] := hl
  have hs := ksz_in k
  refine lv_iload_n hx hb d_Te_encodeCode_0 rfl (lv_at hl 0 rfl) ?_
  refine x_calli (D := D) (wc := []) (wr := [(qo, .inr (1, [.ref ql, .int (nI o.2.1), .ref qp, .int (nI o.2.2.2.1), .int (bI o.2.2.2.2)])), (ql, .inl (cI, 1507, .inl o.1)), (qp, .inl (cI, 1024, .inl o.2.2.1))]) (va_runS (As := [.int (nI k)]) (rest := []) ⟨hx, hb, hml, hown, hW⟩ (k_Te_sizeOfCode l D g k hk s.heap.size) (cwS 1 hW (gWS mw_393 mw_394 mw_53 mw_395) rfl rfl rfl (by decide +kernel) ⟨Nat.le_of_ble_eq_true rfl, Nat.le_of_ble_eq_true rfl⟩) ⟨xPc_blind (gZ_ok g), x_pre (gZ_ok g) hP hK hD hS hA hZ [] [] rfl rfl rfl⟩ rfl rfl hl.1 rfl (lv_room (Nat.le_of_ble_eq_true rfl)) d_Te_encodeCode_1 ⟨Nat.le_of_ble_eq_true rfl, Nat.le_of_ble_eq_true rfl⟩) hP hD hS hA [] [0, 1, 2] rfl rfl rfl (by decide) (fun r_1 u_1 H locs hw_1 hP hD hS => ?_)
  replace hw_1 := hw_1.symm
  subst hw_1
  have hP : va_P D vwCl [(qo, .inr (1, [.ref ql, .int (nI o.2.1), .ref qp, .int (nI o.2.2.2.1), .int (bI o.2.2.2.2)])), (ql, .inl (cI, 1507, .inl o.1)), (qp, .inl (cI, 1024, .inl o.2.2.1))] H := hP
  have hD : va_D A [(qo, .inr (1, [.ref ql, .int (nI o.2.1), .ref qp, .int (nI o.2.2.2.1), .int (bI o.2.2.2.2)])), (ql, .inl (cI, 1507, .inl o.1)), (qp, .inl (cI, 1024, .inl o.2.2.1))] := hD
  refine lv_istore_n (lv' := [(2, .int (nI (ksz k))), (0, .int (nI k)), (1, .ref qo)]) hx hb d_Te_encodeCode_4 rfl hl (by decide) rfl (fun ls hl => ?_)
  refine lv_iload_n hx hb d_Te_encodeCode_5 rfl (lv_at hl 0 rfl) ?_
  refine lv_iconst (v := 1) hx hb d_Te_encodeCode_6 (by decide) ?_
  refine lv_icmp_ne (tgt := 16) hx hb d_Te_encodeCode_7 (by decide) (fun c_7 => ?_) (fun c_7 => ?_)
  · replace c_7 := mt (cg_eq (ksz k) 1 rfl rfl (by omega) (by omega)).mpr c_7
    refine lv_iload_n hx hb d_Te_encodeCode_16 rfl (lv_at hl 0 rfl) ?_
    refine lv_iconst (v := 2) hx hb d_Te_encodeCode_17 (by decide) ?_
    refine lv_icmp_ne (tgt := 36) hx hb d_Te_encodeCode_18 (by decide) (fun c_18 => ?_) (fun c_18 => ?_)
    · replace c_18 := mt (cg_eq (ksz k) 2 rfl rfl (by omega) (by omega)).mpr c_18
      refine lv_aload_n hx hb d_Te_encodeCode_36 rfl (lv_at hl 2 rfl) ?_
      refine lv_sipush (v := 224) hx hb d_Te_encodeCode_37 (by decide) ?_
      refine lv_iload_n hx hb d_Te_encodeCode_40 rfl (lv_at hl 1 rfl) ?_
      refine lv_sipush (v := 4096) hx hb d_Te_encodeCode_41 (by decide) ?_
      refine lv_idiv hx hb d_Te_encodeCode_44 (by decide) ?_
      refine x_topi (y := nI (k / 4096)) (pk_div (d := 4096) (by omega) (by decide) (by decide)) ?_
      refine lv_iadd hx hb d_Te_encodeCode_45 ?_
      refine x_topi (y := nI (224 + (k / 4096))) (by rw [show (224 : Int32) = nI 224 by decide]; exact nI_add _ _) ?_
      refine x_callv (D := D) (wc := [(qo, .inr (1, [.ref ql, .int (nI o.2.1), .ref qp, .int (nI o.2.2.2.1), .int (bI o.2.2.2.2)])), (ql, .inl (cI, 1507, .inl o.1)), (qp, .inl (cI, 1024, .inl o.2.2.1))]) (wr := []) (va_runVN (C := R_Ou) (As := [.int (nI (224 + (k / 4096)))]) (rest := []) ⟨hx, hb, hml, hown, hW⟩ (k_Ou_addByte l D g qo ql qp cI o (nI (224 + (k / 4096))) ho H.size) (⟨va_cnB 1 hW (gW mw_296) rfl rfl rfl (gZ_nest hZ 20 rfl) (hW _ mw_51) (by decide +kernel) ⟨Nat.le_of_ble_eq_true rfl, Nat.le_of_ble_eq_true rfl⟩, hW _ mw_295, hW _ mw_8⟩) ⟨xPc_blind (gZ_ok g), va_recv hK hP (ci := 1) (q0 := 0) rfl rfl, x_pre (gZ_ok g) hP hK hD hS hA hZ [0, 1, 2] [0] rfl rfl rfl⟩ rfl rfl hl.1 rfl (lv_room (Nat.le_of_ble_eq_true rfl)) d_Te_encodeCode_46 ⟨Nat.le_of_ble_eq_true rfl, Nat.le_of_ble_eq_true rfl⟩) hP hD hS hA [0, 1, 2] [] rfl rfl rfl (by decide) (fun u_46 H locs hw_46 hP hD hS => ?_)
      replace hw_46 := hw_46.symm
      subst hw_46
      have hP : va_P D vwCl [(qo, .inr (1, [.ref ql, .int (nI (o_byte o (nI (224 + (k / 4096)))).2.1), .ref qp, .int (nI (o_byte o (nI (224 + (k / 4096)))).2.2.2.1), .int (bI (o_byte o (nI (224 + (k / 4096)))).2.2.2.2)])), (ql, .inl (cI, 1507, .inl (o_byte o (nI (224 + (k / 4096)))).1)), (qp, .inl (cI, 1024, .inl (o_byte o (nI (224 + (k / 4096)))).2.2.1))] H := hP
      have hD : va_D A [(qo, .inr (1, [.ref ql, .int (nI (o_byte o (nI (224 + (k / 4096)))).2.1), .ref qp, .int (nI (o_byte o (nI (224 + (k / 4096)))).2.2.2.1), .int (bI (o_byte o (nI (224 + (k / 4096)))).2.2.2.2)])), (ql, .inl (cI, 1507, .inl (o_byte o (nI (224 + (k / 4096)))).1)), (qp, .inl (cI, 1024, .inl (o_byte o (nI (224 + (k / 4096)))).2.2.1))] := hD
      refine lv_aload_n hx hb d_Te_encodeCode_49 rfl (lv_at hl 2 rfl) ?_
      refine lv_sipush (v := 128) hx hb d_Te_encodeCode_50 (by decide) ?_
      refine lv_iload_n hx hb d_Te_encodeCode_53 rfl (lv_at hl 1 rfl) ?_
      refine lv_bipush (v := 64) hx hb d_Te_encodeCode_54 (by decide) ?_
      refine lv_idiv hx hb d_Te_encodeCode_56 (by decide) ?_
      refine x_topi (y := nI (k / 64)) (pk_div (d := 64) (by omega) (by decide) (by decide)) ?_
      refine lv_bipush (v := 64) hx hb d_Te_encodeCode_57 (by decide) ?_
      refine lv_irem hx hb d_Te_encodeCode_59 (by decide) ?_
      refine x_topi (y := nI ((k / 64) % 64)) (pk_rem (d := 64) (by omega) (by decide) (by decide)) ?_
      refine lv_iadd hx hb d_Te_encodeCode_60 ?_
      refine x_topi (y := nI (128 + ((k / 64) % 64))) (by rw [show (128 : Int32) = nI 128 by decide]; exact nI_add _ _) ?_
      refine x_callv (D := D) (wc := [(qo, .inr (1, [.ref ql, .int (nI (o_byte o (nI (224 + (k / 4096)))).2.1), .ref qp, .int (nI (o_byte o (nI (224 + (k / 4096)))).2.2.2.1), .int (bI (o_byte o (nI (224 + (k / 4096)))).2.2.2.2)])), (ql, .inl (cI, 1507, .inl (o_byte o (nI (224 + (k / 4096)))).1)), (qp, .inl (cI, 1024, .inl (o_byte o (nI (224 + (k / 4096)))).2.2.1))]) (wr := []) (va_runVN (C := R_Ou) (As := [.int (nI (128 + ((k / 64) % 64)))]) (rest := []) ⟨hx, hb, hml, hown, hW⟩ (k_Ou_addByte l D g qo ql qp cI (o_byte o (nI (224 + (k / 4096)))) (nI (128 + ((k / 64) % 64))) (o_byte_ok ho _) H.size) (⟨va_cnB 1 hW (gW mw_296) rfl rfl rfl (gZ_nest hZ 20 rfl) (hW _ mw_51) (by decide +kernel) ⟨Nat.le_of_ble_eq_true rfl, Nat.le_of_ble_eq_true rfl⟩, hW _ mw_295, hW _ mw_8⟩) ⟨xPc_blind (gZ_ok g), va_recv hK hP (ci := 1) (q0 := 0) rfl rfl, x_pre (gZ_ok g) hP hK hD hS hA hZ [0, 1, 2] [0] rfl rfl rfl⟩ rfl rfl hl.1 rfl (lv_room (Nat.le_of_ble_eq_true rfl)) d_Te_encodeCode_61 ⟨Nat.le_of_ble_eq_true rfl, Nat.le_of_ble_eq_true rfl⟩) hP hD hS hA [0, 1, 2] [] rfl rfl rfl (by decide) (fun u_61 H locs hw_61 hP hD hS => ?_)
      replace hw_61 := hw_61.symm
      subst hw_61
      have hP : va_P D vwCl [(qo, .inr (1, [.ref ql, .int (nI (o_byte (o_byte o (nI (224 + (k / 4096)))) (nI (128 + ((k / 64) % 64)))).2.1), .ref qp, .int (nI (o_byte (o_byte o (nI (224 + (k / 4096)))) (nI (128 + ((k / 64) % 64)))).2.2.2.1), .int (bI (o_byte (o_byte o (nI (224 + (k / 4096)))) (nI (128 + ((k / 64) % 64)))).2.2.2.2)])), (ql, .inl (cI, 1507, .inl (o_byte (o_byte o (nI (224 + (k / 4096)))) (nI (128 + ((k / 64) % 64)))).1)), (qp, .inl (cI, 1024, .inl (o_byte (o_byte o (nI (224 + (k / 4096)))) (nI (128 + ((k / 64) % 64)))).2.2.1))] H := hP
      have hD : va_D A [(qo, .inr (1, [.ref ql, .int (nI (o_byte (o_byte o (nI (224 + (k / 4096)))) (nI (128 + ((k / 64) % 64)))).2.1), .ref qp, .int (nI (o_byte (o_byte o (nI (224 + (k / 4096)))) (nI (128 + ((k / 64) % 64)))).2.2.2.1), .int (bI (o_byte (o_byte o (nI (224 + (k / 4096)))) (nI (128 + ((k / 64) % 64)))).2.2.2.2)])), (ql, .inl (cI, 1507, .inl (o_byte (o_byte o (nI (224 + (k / 4096)))) (nI (128 + ((k / 64) % 64)))).1)), (qp, .inl (cI, 1024, .inl (o_byte (o_byte o (nI (224 + (k / 4096)))) (nI (128 + ((k / 64) % 64)))).2.2.1))] := hD
      refine lv_aload_n hx hb d_Te_encodeCode_64 rfl (lv_at hl 2 rfl) ?_
      refine lv_sipush (v := 128) hx hb d_Te_encodeCode_65 (by decide) ?_
      refine lv_iload_n hx hb d_Te_encodeCode_68 rfl (lv_at hl 1 rfl) ?_
      refine lv_bipush (v := 64) hx hb d_Te_encodeCode_69 (by decide) ?_
      refine lv_irem hx hb d_Te_encodeCode_71 (by decide) ?_
      refine x_topi (y := nI (k % 64)) (pk_rem (d := 64) (by omega) (by decide) (by decide)) ?_
      refine lv_iadd hx hb d_Te_encodeCode_72 ?_
      refine x_topi (y := nI (128 + (k % 64))) (by rw [show (128 : Int32) = nI 128 by decide]; exact nI_add _ _) ?_
      refine x_callv (D := D) (wc := [(qo, .inr (1, [.ref ql, .int (nI (o_byte (o_byte o (nI (224 + (k / 4096)))) (nI (128 + ((k / 64) % 64)))).2.1), .ref qp, .int (nI (o_byte (o_byte o (nI (224 + (k / 4096)))) (nI (128 + ((k / 64) % 64)))).2.2.2.1), .int (bI (o_byte (o_byte o (nI (224 + (k / 4096)))) (nI (128 + ((k / 64) % 64)))).2.2.2.2)])), (ql, .inl (cI, 1507, .inl (o_byte (o_byte o (nI (224 + (k / 4096)))) (nI (128 + ((k / 64) % 64)))).1)), (qp, .inl (cI, 1024, .inl (o_byte (o_byte o (nI (224 + (k / 4096)))) (nI (128 + ((k / 64) % 64)))).2.2.1))]) (wr := []) (va_runVN (C := R_Ou) (As := [.int (nI (128 + (k % 64)))]) (rest := []) ⟨hx, hb, hml, hown, hW⟩ (k_Ou_addByte l D g qo ql qp cI (o_byte (o_byte o (nI (224 + (k / 4096)))) (nI (128 + ((k / 64) % 64)))) (nI (128 + (k % 64))) (o_byte_ok (o_byte_ok ho _) _) H.size) (⟨va_cnB 1 hW (gW mw_296) rfl rfl rfl (gZ_nest hZ 20 rfl) (hW _ mw_51) (by decide +kernel) ⟨Nat.le_of_ble_eq_true rfl, Nat.le_of_ble_eq_true rfl⟩, hW _ mw_295, hW _ mw_8⟩) ⟨xPc_blind (gZ_ok g), va_recv hK hP (ci := 1) (q0 := 0) rfl rfl, x_pre (gZ_ok g) hP hK hD hS hA hZ [0, 1, 2] [0] rfl rfl rfl⟩ rfl rfl hl.1 rfl (lv_room (Nat.le_of_ble_eq_true rfl)) d_Te_encodeCode_73 ⟨Nat.le_of_ble_eq_true rfl, Nat.le_of_ble_eq_true rfl⟩) hP hD hS hA [0, 1, 2] [] rfl rfl rfl (by decide) (fun u_73 H locs hw_73 hP hD hS => ?_)
      replace hw_73 := hw_73.symm
      subst hw_73
      have hP : va_P D vwCl [(qo, .inr (1, [.ref ql, .int (nI (o_byte (o_byte (o_byte o (nI (224 + (k / 4096)))) (nI (128 + ((k / 64) % 64)))) (nI (128 + (k % 64)))).2.1), .ref qp, .int (nI (o_byte (o_byte (o_byte o (nI (224 + (k / 4096)))) (nI (128 + ((k / 64) % 64)))) (nI (128 + (k % 64)))).2.2.2.1), .int (bI (o_byte (o_byte (o_byte o (nI (224 + (k / 4096)))) (nI (128 + ((k / 64) % 64)))) (nI (128 + (k % 64)))).2.2.2.2)])), (ql, .inl (cI, 1507, .inl (o_byte (o_byte (o_byte o (nI (224 + (k / 4096)))) (nI (128 + ((k / 64) % 64)))) (nI (128 + (k % 64)))).1)), (qp, .inl (cI, 1024, .inl (o_byte (o_byte (o_byte o (nI (224 + (k / 4096)))) (nI (128 + ((k / 64) % 64)))) (nI (128 + (k % 64)))).2.2.1))] H := hP
      have hD : va_D A [(qo, .inr (1, [.ref ql, .int (nI (o_byte (o_byte (o_byte o (nI (224 + (k / 4096)))) (nI (128 + ((k / 64) % 64)))) (nI (128 + (k % 64)))).2.1), .ref qp, .int (nI (o_byte (o_byte (o_byte o (nI (224 + (k / 4096)))) (nI (128 + ((k / 64) % 64)))) (nI (128 + (k % 64)))).2.2.2.1), .int (bI (o_byte (o_byte (o_byte o (nI (224 + (k / 4096)))) (nI (128 + ((k / 64) % 64)))) (nI (128 + (k % 64)))).2.2.2.2)])), (ql, .inl (cI, 1507, .inl (o_byte (o_byte (o_byte o (nI (224 + (k / 4096)))) (nI (128 + ((k / 64) % 64)))) (nI (128 + (k % 64)))).1)), (qp, .inl (cI, 1024, .inl (o_byte (o_byte (o_byte o (nI (224 + (k / 4096)))) (nI (128 + ((k / 64) % 64)))) (nI (128 + (k % 64)))).2.2.1))] := hD
      exact W.vret hx hb hr (fun t9 ht9 hW9 => ⟨⟨((o_byte (o_byte (o_byte o (nI (224 + (k / 4096)))) (nI (128 + ((k / 64) % 64)))) (nI (128 + (k % 64)))) : OS), rfl, by first | (rw [o_enc, if_neg c_7, if_pos c_18]; done) | (rw [o_enc, if_neg c_7, if_neg c_18]; done), by rw [ht9]; exact hP.sub [0, 1, 2] rfl, va_K.moved hW9.alike hK, hD.sub [0, 1, 2] (by decide) rfl⟩, hS.F ht9⟩) hS.2.2 d_Te_encodeCode_76
    · replace c_18 := (cg_eq (ksz k) 2 rfl rfl (by omega) (by omega)).mp c_18
      refine lv_aload_n hx hb d_Te_encodeCode_21 rfl (lv_at hl 2 rfl) ?_
      refine lv_sipush (v := 192) hx hb d_Te_encodeCode_22 (by decide) ?_
      refine lv_iload_n hx hb d_Te_encodeCode_25 rfl (lv_at hl 1 rfl) ?_
      refine lv_bipush (v := 64) hx hb d_Te_encodeCode_26 (by decide) ?_
      refine lv_idiv hx hb d_Te_encodeCode_28 (by decide) ?_
      refine x_topi (y := nI (k / 64)) (pk_div (d := 64) (by omega) (by decide) (by decide)) ?_
      refine lv_iadd hx hb d_Te_encodeCode_29 ?_
      refine x_topi (y := nI (192 + (k / 64))) (by rw [show (192 : Int32) = nI 192 by decide]; exact nI_add _ _) ?_
      refine x_callv (D := D) (wc := [(qo, .inr (1, [.ref ql, .int (nI o.2.1), .ref qp, .int (nI o.2.2.2.1), .int (bI o.2.2.2.2)])), (ql, .inl (cI, 1507, .inl o.1)), (qp, .inl (cI, 1024, .inl o.2.2.1))]) (wr := []) (va_runVN (C := R_Ou) (As := [.int (nI (192 + (k / 64)))]) (rest := []) ⟨hx, hb, hml, hown, hW⟩ (k_Ou_addByte l D g qo ql qp cI o (nI (192 + (k / 64))) ho H.size) (⟨va_cnB 1 hW (gW mw_296) rfl rfl rfl (gZ_nest hZ 20 rfl) (hW _ mw_51) (by decide +kernel) ⟨Nat.le_of_ble_eq_true rfl, Nat.le_of_ble_eq_true rfl⟩, hW _ mw_295, hW _ mw_8⟩) ⟨xPc_blind (gZ_ok g), va_recv hK hP (ci := 1) (q0 := 0) rfl rfl, x_pre (gZ_ok g) hP hK hD hS hA hZ [0, 1, 2] [0] rfl rfl rfl⟩ rfl rfl hl.1 rfl (lv_room (Nat.le_of_ble_eq_true rfl)) d_Te_encodeCode_30 ⟨Nat.le_of_ble_eq_true rfl, Nat.le_of_ble_eq_true rfl⟩) hP hD hS hA [0, 1, 2] [] rfl rfl rfl (by decide) (fun u_30 H locs hw_30 hP hD hS => ?_)
      replace hw_30 := hw_30.symm
      subst hw_30
      have hP : va_P D vwCl [(qo, .inr (1, [.ref ql, .int (nI (o_byte o (nI (192 + (k / 64)))).2.1), .ref qp, .int (nI (o_byte o (nI (192 + (k / 64)))).2.2.2.1), .int (bI (o_byte o (nI (192 + (k / 64)))).2.2.2.2)])), (ql, .inl (cI, 1507, .inl (o_byte o (nI (192 + (k / 64)))).1)), (qp, .inl (cI, 1024, .inl (o_byte o (nI (192 + (k / 64)))).2.2.1))] H := hP
      have hD : va_D A [(qo, .inr (1, [.ref ql, .int (nI (o_byte o (nI (192 + (k / 64)))).2.1), .ref qp, .int (nI (o_byte o (nI (192 + (k / 64)))).2.2.2.1), .int (bI (o_byte o (nI (192 + (k / 64)))).2.2.2.2)])), (ql, .inl (cI, 1507, .inl (o_byte o (nI (192 + (k / 64)))).1)), (qp, .inl (cI, 1024, .inl (o_byte o (nI (192 + (k / 64)))).2.2.1))] := hD
      refine lv_goto (tgt := 64) hx hb d_Te_encodeCode_33 (by decide) ?_
      refine lv_aload_n hx hb d_Te_encodeCode_64 rfl (lv_at hl 2 rfl) ?_
      refine lv_sipush (v := 128) hx hb d_Te_encodeCode_65 (by decide) ?_
      refine lv_iload_n hx hb d_Te_encodeCode_68 rfl (lv_at hl 1 rfl) ?_
      refine lv_bipush (v := 64) hx hb d_Te_encodeCode_69 (by decide) ?_
      refine lv_irem hx hb d_Te_encodeCode_71 (by decide) ?_
      refine x_topi (y := nI (k % 64)) (pk_rem (d := 64) (by omega) (by decide) (by decide)) ?_
      refine lv_iadd hx hb d_Te_encodeCode_72 ?_
      refine x_topi (y := nI (128 + (k % 64))) (by rw [show (128 : Int32) = nI 128 by decide]; exact nI_add _ _) ?_
      refine x_callv (D := D) (wc := [(qo, .inr (1, [.ref ql, .int (nI (o_byte o (nI (192 + (k / 64)))).2.1), .ref qp, .int (nI (o_byte o (nI (192 + (k / 64)))).2.2.2.1), .int (bI (o_byte o (nI (192 + (k / 64)))).2.2.2.2)])), (ql, .inl (cI, 1507, .inl (o_byte o (nI (192 + (k / 64)))).1)), (qp, .inl (cI, 1024, .inl (o_byte o (nI (192 + (k / 64)))).2.2.1))]) (wr := []) (va_runVN (C := R_Ou) (As := [.int (nI (128 + (k % 64)))]) (rest := []) ⟨hx, hb, hml, hown, hW⟩ (k_Ou_addByte l D g qo ql qp cI (o_byte o (nI (192 + (k / 64)))) (nI (128 + (k % 64))) (o_byte_ok ho _) H.size) (⟨va_cnB 1 hW (gW mw_296) rfl rfl rfl (gZ_nest hZ 20 rfl) (hW _ mw_51) (by decide +kernel) ⟨Nat.le_of_ble_eq_true rfl, Nat.le_of_ble_eq_true rfl⟩, hW _ mw_295, hW _ mw_8⟩) ⟨xPc_blind (gZ_ok g), va_recv hK hP (ci := 1) (q0 := 0) rfl rfl, x_pre (gZ_ok g) hP hK hD hS hA hZ [0, 1, 2] [0] rfl rfl rfl⟩ rfl rfl hl.1 rfl (lv_room (Nat.le_of_ble_eq_true rfl)) d_Te_encodeCode_73 ⟨Nat.le_of_ble_eq_true rfl, Nat.le_of_ble_eq_true rfl⟩) hP hD hS hA [0, 1, 2] [] rfl rfl rfl (by decide) (fun u_73 H locs hw_73 hP hD hS => ?_)
      replace hw_73 := hw_73.symm
      subst hw_73
      have hP : va_P D vwCl [(qo, .inr (1, [.ref ql, .int (nI (o_byte (o_byte o (nI (192 + (k / 64)))) (nI (128 + (k % 64)))).2.1), .ref qp, .int (nI (o_byte (o_byte o (nI (192 + (k / 64)))) (nI (128 + (k % 64)))).2.2.2.1), .int (bI (o_byte (o_byte o (nI (192 + (k / 64)))) (nI (128 + (k % 64)))).2.2.2.2)])), (ql, .inl (cI, 1507, .inl (o_byte (o_byte o (nI (192 + (k / 64)))) (nI (128 + (k % 64)))).1)), (qp, .inl (cI, 1024, .inl (o_byte (o_byte o (nI (192 + (k / 64)))) (nI (128 + (k % 64)))).2.2.1))] H := hP
      have hD : va_D A [(qo, .inr (1, [.ref ql, .int (nI (o_byte (o_byte o (nI (192 + (k / 64)))) (nI (128 + (k % 64)))).2.1), .ref qp, .int (nI (o_byte (o_byte o (nI (192 + (k / 64)))) (nI (128 + (k % 64)))).2.2.2.1), .int (bI (o_byte (o_byte o (nI (192 + (k / 64)))) (nI (128 + (k % 64)))).2.2.2.2)])), (ql, .inl (cI, 1507, .inl (o_byte (o_byte o (nI (192 + (k / 64)))) (nI (128 + (k % 64)))).1)), (qp, .inl (cI, 1024, .inl (o_byte (o_byte o (nI (192 + (k / 64)))) (nI (128 + (k % 64)))).2.2.1))] := hD
      exact W.vret hx hb hr (fun t9 ht9 hW9 => ⟨⟨((o_byte (o_byte o (nI (192 + (k / 64)))) (nI (128 + (k % 64)))) : OS), rfl, by first | (rw [o_enc, if_neg c_7, if_pos c_18]; done) | (rw [o_enc, if_neg c_7, if_neg c_18]; done), by rw [ht9]; exact hP.sub [0, 1, 2] rfl, va_K.moved hW9.alike hK, hD.sub [0, 1, 2] (by decide) rfl⟩, hS.F ht9⟩) hS.2.2 d_Te_encodeCode_76
  · replace c_7 := (cg_eq (ksz k) 1 rfl rfl (by omega) (by omega)).mp c_7
    refine lv_aload_n hx hb d_Te_encodeCode_10 rfl (lv_at hl 2 rfl) ?_
    refine lv_iload_n hx hb d_Te_encodeCode_11 rfl (lv_at hl 1 rfl) ?_
    refine x_callv (D := D) (wc := [(qo, .inr (1, [.ref ql, .int (nI o.2.1), .ref qp, .int (nI o.2.2.2.1), .int (bI o.2.2.2.2)])), (ql, .inl (cI, 1507, .inl o.1)), (qp, .inl (cI, 1024, .inl o.2.2.1))]) (wr := []) (va_runVN (C := R_Ou) (As := [.int (nI k)]) (rest := []) ⟨hx, hb, hml, hown, hW⟩ (k_Ou_addByte l D g qo ql qp cI o (nI k) ho H.size) (⟨va_cnB 1 hW (gW mw_296) rfl rfl rfl (gZ_nest hZ 20 rfl) (hW _ mw_51) (by decide +kernel) ⟨Nat.le_of_ble_eq_true rfl, Nat.le_of_ble_eq_true rfl⟩, hW _ mw_295, hW _ mw_8⟩) ⟨xPc_blind (gZ_ok g), va_recv hK hP (ci := 1) (q0 := 0) rfl rfl, x_pre (gZ_ok g) hP hK hD hS hA hZ [0, 1, 2] [0] rfl rfl rfl⟩ rfl rfl hl.1 rfl (lv_room (Nat.le_of_ble_eq_true rfl)) d_Te_encodeCode_12 ⟨Nat.le_of_ble_eq_true rfl, Nat.le_of_ble_eq_true rfl⟩) hP hD hS hA [0, 1, 2] [] rfl rfl rfl (by decide) (fun u_12 H locs hw_12 hP hD hS => ?_)
    replace hw_12 := hw_12.symm
    subst hw_12
    have hP : va_P D vwCl [(qo, .inr (1, [.ref ql, .int (nI (o_byte o (nI k)).2.1), .ref qp, .int (nI (o_byte o (nI k)).2.2.2.1), .int (bI (o_byte o (nI k)).2.2.2.2)])), (ql, .inl (cI, 1507, .inl (o_byte o (nI k)).1)), (qp, .inl (cI, 1024, .inl (o_byte o (nI k)).2.2.1))] H := hP
    have hD : va_D A [(qo, .inr (1, [.ref ql, .int (nI (o_byte o (nI k)).2.1), .ref qp, .int (nI (o_byte o (nI k)).2.2.2.1), .int (bI (o_byte o (nI k)).2.2.2.2)])), (ql, .inl (cI, 1507, .inl (o_byte o (nI k)).1)), (qp, .inl (cI, 1024, .inl (o_byte o (nI k)).2.2.1))] := hD
    exact W.vret hx hb hr (fun t9 ht9 hW9 => ⟨⟨((o_byte o (nI k)) : OS), rfl, by rw [o_enc, if_pos c_7], by rw [ht9]; exact hP.sub [0, 1, 2] rfl, va_K.moved hW9.alike hK, hD.sub [0, 1, 2] (by decide) rfl⟩, hS.F ht9⟩) hS.2.2 d_Te_encodeCode_15
set_option maxHeartbeats 4000000 in
set_option maxRecDepth 100000 in
theorem k_Te_encode (l : Launch) (D : va_G) (g : GP) (qx qc qb qd : Nat) (cI : ClassId) (t : TS) (z : Nat) (qo ql qp : Nat) (o : OS) (ht : t_ok t) (hz : z ≤ 40) (ho : o_ok o) (sz : Nat) : Met l y_Te_encode (.code y_Te_encode c_Te_encode 4 none :: xW) ({ frames := 5, cells := 0, slots := 0, locals := 107 }) (xPc (gZ g) D vwCl [.ref qx, .int (nI z), .ref qo] [(qx, .inr (2, [.ref qc, .ref qb, .ref qd])), (qc, .inl (cI, 40, .inl t.1)), (qb, .inl (cI, 120, .inl t.2.1)), (qd, .inl (cI, 40, .inl t.2.2)), (qo, .inr (1, [.ref ql, .int (nI o.2.1), .ref qp, .int (nI o.2.2.2.1), .int (bI o.2.2.2.2)])), (ql, .inl (cI, 1507, .inl o.1)), (qp, .inl (cI, 1024, .inl o.2.2.1))] [(cI, .int)] sz) (va_Qv (fun (u : OS) => u = o_encs o t.1 z) (xB D vwCl [(cI, .int)] (fun u : OS => [(qx, .inr (2, [.ref qc, .ref qb, .ref qd])), (qc, .inl (cI, 40, .inl t.1)), (qb, .inl (cI, 120, .inl t.2.1)), (qd, .inl (cI, 40, .inl t.2.2)), (qo, .inr (1, [.ref ql, .int (nI u.2.1), .ref qp, .int (nI u.2.2.2.1), .int (bI u.2.2.2.2)])), (ql, .inl (cI, 1507, .inl u.1)), (qp, .inl (cI, 1024, .inl u.2.2.1))]) (va_A [(qx, .inr (2, [.ref qc, .ref qb, .ref qd])), (qc, .inl (cI, 40, .inl t.1)), (qb, .inl (cI, 120, .inl t.2.1)), (qd, .inl (cI, 40, .inl t.2.2)), (qo, .inr (1, [.ref ql, .int (nI o.2.1), .ref qp, .int (nI o.2.2.2.1), .int (bI o.2.2.2.2)])), (ql, .inl (cI, 1507, .inl o.1)), (qp, .inl (cI, 1024, .inl o.2.2.1))] sz)) (va_A [(qx, .inr (2, [.ref qc, .ref qb, .ref qd])), (qc, .inl (cI, 40, .inl t.1)), (qb, .inl (cI, 120, .inl t.2.1)), (qd, .inl (cI, 40, .inl t.2.2)), (qo, .inr (1, [.ref ql, .int (nI o.2.1), .ref qp, .int (nI o.2.2.2.1), .int (bI o.2.2.2.2)])), (ql, .inl (cI, 1507, .inl o.1)), (qp, .inl (cI, 1024, .inl o.2.2.1))] sz)) 0 0 (va_A [(qx, .inr (2, [.ref qc, .ref qb, .ref qd])), (qc, .inl (cI, 40, .inl t.1)), (qb, .inl (cI, 120, .inl t.2.1)), (qd, .inl (cI, 40, .inl t.2.2)), (qo, .inr (1, [.ref ql, .int (nI o.2.1), .ref qp, .int (nI o.2.2.2.1), .int (bI o.2.2.2.2)])), (ql, .inl (cI, 1507, .inl o.1)), (qp, .inl (cI, 1024, .inl o.2.2.1))] sz) := by
  refine x_open (Qc := fun A => va_Qv (fun (u : OS) => u = o_encs o t.1 z) (xB D vwCl [(cI, .int)] (fun u : OS => [(qx, .inr (2, [.ref qc, .ref qb, .ref qd])), (qc, .inl (cI, 40, .inl t.1)), (qb, .inl (cI, 120, .inl t.2.1)), (qd, .inl (cI, 40, .inl t.2.2)), (qo, .inr (1, [.ref ql, .int (nI u.2.1), .ref qp, .int (nI u.2.2.2.1), .int (bI u.2.2.2.2)])), (ql, .inl (cI, 1507, .inl u.1)), (qp, .inl (cI, 1024, .inl u.2.2.1))]) A) A) (cc := c_Te_encode) (maxL := 4) (ret := none) (own := R_Te) (by decide) rfl rfl (Nat.le_of_ble_eq_true rfl) ?_
  intro p e s m below meth cd A ls hsz hAe hx hb hr hml hown hts hlk hnm hA hP hK hD hS hZ hl
  clear hsz hAe
  have hW : ∀ w ∈ xW, w.before _ s = true := fun w h => hts w (List.mem_cons_of_mem _ h)
  have hl : lv_has ls 4 [(0, .ref qx), (1, .int (nI z)), (2, .ref qo)] := hl
  refine lv_iconst (v := 0) hx hb d_Te_encode_0 (by decide) ?_
  refine lv_istore_n (lv' := [(3, .int 0), (0, .ref qx), (1, .int (nI z)), (2, .ref qo)]) hx hb d_Te_encode_1 rfl hl (by decide) rfl (fun ls hl => ?_)
  have hlp_2 : ∀ (n : Nat) (i : Nat), (i ≤ z) → z - i < n → ∀ (H : Heap) (locs : List Loc), va_P D vwCl [(qx, .inr (2, [.ref qc, .ref qb, .ref qd])), (qc, .inl (cI, 40, .inl t.1)), (qb, .inl (cI, 120, .inl t.2.1)), (qd, .inl (cI, 40, .inl t.2.2)), (qo, .inr (1, [.ref ql, .int (nI (o_encs o t.1 i).2.1), .ref qp, .int (nI (o_encs o t.1 i).2.2.2.1), .int (bI (o_encs o t.1 i).2.2.2.2)])), (ql, .inl (cI, 1507, .inl (o_encs o t.1 i).1)), (qp, .inl (cI, 1024, .inl (o_encs o t.1 i).2.2.1))] H → va_D A [(qx, .inr (2, [.ref qc, .ref qb, .ref qd])), (qc, .inl (cI, 40, .inl t.1)), (qb, .inl (cI, 120, .inl t.2.1)), (qd, .inl (cI, 40, .inl t.2.2)), (qo, .inr (1, [.ref ql, .int (nI (o_encs o t.1 i).2.1), .ref qp, .int (nI (o_encs o t.1 i).2.2.2.1), .int (bI (o_encs o t.1 i).2.2.2.2)])), (ql, .inl (cI, 1507, .inl (o_encs o t.1 i).1)), (qp, .inl (cI, 1024, .inl (o_encs o t.1 i).2.2.1))] → va_S A s.heap H locs → ∀ (ls : Array Slot), lv_has ls 4 [(3, .int (nI i)), (0, .ref qx), (1, .int (nI z)), (2, .ref qo)] → W p l e ({ frames := 5, cells := 0, slots := 0, locals := 107 }) s m [.ref qx, .int (nI z), .ref qo].toArray below meth cd H locs 0 0 (MQ below ((fun A => va_Qv (fun (u : OS) => u = o_encs o t.1 z) (xB D vwCl [(cI, .int)] (fun u : OS => [(qx, .inr (2, [.ref qc, .ref qb, .ref qd])), (qc, .inl (cI, 40, .inl t.1)), (qb, .inl (cI, 120, .inl t.2.1)), (qd, .inl (cI, 40, .inl t.2.2)), (qo, .inr (1, [.ref ql, .int (nI u.2.1), .ref qp, .int (nI u.2.2.2.1), .int (bI u.2.2.2.2)])), (ql, .inl (cI, 1507, .inl u.1)), (qp, .inl (cI, 1024, .inl u.2.2.1))]) A) A) A) [.ref qx, .int (nI z), .ref qo].toArray s 0 0 A) (F0 m 2 ls []) := by
    intro n
    induction n with
    | zero => intro i hi hms; exact absurd hms (Nat.not_lt_zero _)
    | succ n ih =>
      intro i hi hms H locs hP hD hS ls hl
      refine lv_iload_n hx hb d_Te_encode_2 rfl (lv_at hl 0 rfl) ?_
      refine lv_iload_n hx hb d_Te_encode_3 rfl (lv_at hl 2 rfl) ?_
      refine lv_icmp_ge (tgt := 23) hx hb d_Te_encode_4 (by decide) (fun c_4 => ?_) (fun c_4 => ?_)
      · replace c_4 := (cg_le z i rfl rfl (by omega) (by omega)).mp c_4
        exact W.vret hx hb hr (fun t9 ht9 hW9 => ⟨⟨((o_encs o t.1 i) : OS), rfl, by rw [show i = z by omega], by rw [ht9]; exact hP.sub [0, 1, 2, 3, 4, 5, 6] rfl, va_K.moved hW9.alike hK, hD.sub [0, 1, 2, 3, 4, 5, 6] (by decide) rfl⟩, hS.F ht9⟩) hS.2.2 d_Te_encode_23
      · replace c_4 := mt (cg_le z i rfl rfl (by omega) (by omega)).mpr c_4
        refine lv_aload_n hx hb d_Te_encode_7 rfl (lv_at hl 1 rfl) ?_
        refine va_get (D := D) (ci := 2) (v := .ref qc) (C := R_Te) (T := F_Te) (N := 3) hx hb hW in_Te hown hK hP 0 rfl rfl 0 (by decide) (hW _ mw_129) (fun _ h9 => h9) rfl d_Te_encode_8 ?_
        refine lv_iload_n hx hb d_Te_encode_11 rfl (lv_at hl 0 rfl) ?_
        refine va_iald (D := D) hx hb hK hP 1 0 rfl rfl (vp_in_nI (by omega) (by decide)) d_Te_encode_12 ?_
        refine x_topi (y := t.1 i) (by rw [nI_clamp (by omega)]) ?_
        refine x_topi (y := nI (n_at t.1 i)) (n_at_eq ht.1 (by omega)) ?_
        refine lv_aload_n hx hb d_Te_encode_13 rfl (lv_at hl 3 rfl) ?_
        refine x_callv (D := D) (wc := [(qo, .inr (1, [.ref ql, .int (nI (o_encs o t.1 i).2.1), .ref qp, .int (nI (o_encs o t.1 i).2.2.2.1), .int (bI (o_encs o t.1 i).2.2.2.2)])), (ql, .inl (cI, 1507, .inl (o_encs o t.1 i).1)), (qp, .inl (cI, 1024, .inl (o_encs o t.1 i).2.2.1))]) (wr := [(qx, .inr (2, [.ref qc, .ref qb, .ref qd])), (qc, .inl (cI, 40, .inl t.1)), (qb, .inl (cI, 120, .inl t.2.1)), (qd, .inl (cI, 40, .inl t.2.2))]) (va_runS (As := [.int (nI (n_at t.1 i)), .ref qo]) (rest := []) ⟨hx, hb, hml, hown, hW⟩ (k_Te_encodeCode l D g (n_at t.1 i) qo ql qp cI (o_encs o t.1 i) (n_at_le ht.1 (by omega) (by decide)) (o_encs_ok ho _ _) H.size) (cwS 2 hW (gWS mw_400 mw_401 mw_53 mw_402) rfl rfl rfl (by decide +kernel) ⟨Nat.le_of_ble_eq_true rfl, Nat.le_of_ble_eq_true rfl⟩) ⟨xPc_blind (gZ_ok g), x_pre (gZ_ok g) hP hK hD hS hA hZ [4, 5, 6] [0] rfl rfl rfl⟩ rfl rfl hl.1 rfl (lv_room (Nat.le_of_ble_eq_true rfl)) d_Te_encode_14 ⟨Nat.le_of_ble_eq_true rfl, Nat.le_of_ble_eq_true rfl⟩) hP hD hS hA [4, 5, 6] [0, 1, 2, 3] rfl rfl rfl (by decide) (fun u_14 H locs hw_14 hP hD hS => ?_)
        replace hw_14 := hw_14.symm
        subst hw_14
        have hP : va_P D vwCl [(qx, .inr (2, [.ref qc, .ref qb, .ref qd])), (qc, .inl (cI, 40, .inl t.1)), (qb, .inl (cI, 120, .inl t.2.1)), (qd, .inl (cI, 40, .inl t.2.2)), (qo, .inr (1, [.ref ql, .int (nI (o_enc (o_encs o t.1 i) (n_at t.1 i)).2.1), .ref qp, .int (nI (o_enc (o_encs o t.1 i) (n_at t.1 i)).2.2.2.1), .int (bI (o_enc (o_encs o t.1 i) (n_at t.1 i)).2.2.2.2)])), (ql, .inl (cI, 1507, .inl (o_enc (o_encs o t.1 i) (n_at t.1 i)).1)), (qp, .inl (cI, 1024, .inl (o_enc (o_encs o t.1 i) (n_at t.1 i)).2.2.1))] H := hP
        have hD : va_D A [(qx, .inr (2, [.ref qc, .ref qb, .ref qd])), (qc, .inl (cI, 40, .inl t.1)), (qb, .inl (cI, 120, .inl t.2.1)), (qd, .inl (cI, 40, .inl t.2.2)), (qo, .inr (1, [.ref ql, .int (nI (o_enc (o_encs o t.1 i) (n_at t.1 i)).2.1), .ref qp, .int (nI (o_enc (o_encs o t.1 i) (n_at t.1 i)).2.2.2.1), .int (bI (o_enc (o_encs o t.1 i) (n_at t.1 i)).2.2.2.2)])), (ql, .inl (cI, 1507, .inl (o_enc (o_encs o t.1 i) (n_at t.1 i)).1)), (qp, .inl (cI, 1024, .inl (o_enc (o_encs o t.1 i) (n_at t.1 i)).2.2.1))] := hD
        refine lv_iinc (v := nI (i + 1)) (lv' := [(3, .int (nI (i + 1))), (0, .ref qx), (1, .int (nI z)), (2, .ref qo)]) hx hb d_Te_encode_17 hl (k := 0) rfl (nI_1 _) (by decide) rfl (fun ls hl => ?_)
        refine lv_goto (tgt := 2) hx hb d_Te_encode_20 (by decide) ?_
        exact ih (i + 1) (by omega) (by omega) H locs (hP.sub [0, 1, 2, 3, 4, 5, 6] rfl) (hD.sub [0, 1, 2, 3, 4, 5, 6] (by decide) rfl) hS ls (lv_sub hl [0, 1, 2, 3] rfl)
  exact hlp_2 _ 0 (Nat.zero_le _) (Nat.lt_succ_self _) s.heap [] (hP.sub [0, 1, 2, 3, 4, 5, 6] rfl) (hD.sub [0, 1, 2, 3, 4, 5, 6] (by decide) rfl) hS ls (lv_sub hl [0, 1, 2, 3] rfl)
set_option maxHeartbeats 4000000 in
set_option maxRecDepth 100000 in
theorem k_Te_keepByte (l : Launch) (D : va_G) (g : GP) (qx qc qb qd : Nat) (cI : ClassId) (t : TS) (j : Nat) (x : Int32) (hj : j ≤ 70000) (sz : Nat) : Met l y_Te_keepByte (.code y_Te_keepByte c_Te_keepByte 3 none :: xW) ({ frames := 0, cells := 0, slots := 0, locals := 0 }) (xPc (gZ g) D vwCl [.ref qx, .int (nI j), .int x] [(qx, .inr (2, [.ref qc, .ref qb, .ref qd])), (qc, .inl (cI, 40, .inl t.1)), (qb, .inl (cI, 120, .inl t.2.1)), (qd, .inl (cI, 40, .inl t.2.2))] [(cI, .int)] sz) (va_Qv (fun (u : TS) => u = t_keep t j x) (xB D vwCl [(cI, .int)] (fun u : TS => [(qx, .inr (2, [.ref qc, .ref qb, .ref qd])), (qc, .inl (cI, 40, .inl u.1)), (qb, .inl (cI, 120, .inl u.2.1)), (qd, .inl (cI, 40, .inl u.2.2))]) (va_A [(qx, .inr (2, [.ref qc, .ref qb, .ref qd])), (qc, .inl (cI, 40, .inl t.1)), (qb, .inl (cI, 120, .inl t.2.1)), (qd, .inl (cI, 40, .inl t.2.2))] sz)) (va_A [(qx, .inr (2, [.ref qc, .ref qb, .ref qd])), (qc, .inl (cI, 40, .inl t.1)), (qb, .inl (cI, 120, .inl t.2.1)), (qd, .inl (cI, 40, .inl t.2.2))] sz)) 0 0 (va_A [(qx, .inr (2, [.ref qc, .ref qb, .ref qd])), (qc, .inl (cI, 40, .inl t.1)), (qb, .inl (cI, 120, .inl t.2.1)), (qd, .inl (cI, 40, .inl t.2.2))] sz) := by
  refine x_open (Qc := fun A => va_Qv (fun (u : TS) => u = t_keep t j x) (xB D vwCl [(cI, .int)] (fun u : TS => [(qx, .inr (2, [.ref qc, .ref qb, .ref qd])), (qc, .inl (cI, 40, .inl u.1)), (qb, .inl (cI, 120, .inl u.2.1)), (qd, .inl (cI, 40, .inl u.2.2))]) A) A) (cc := c_Te_keepByte) (maxL := 3) (ret := none) (own := R_Te) (by decide) rfl rfl (Nat.le_of_ble_eq_true rfl) ?_
  intro p e s m below meth cd A ls hsz hAe hx hb hr hml hown hts hlk hnm hA hP hK hD hS hZ hl
  clear hsz hAe
  have hW : ∀ w ∈ xW, w.before _ s = true := fun w h => hts w (List.mem_cons_of_mem _ h)
  have hl : lv_has ls 3 [(0, .ref qx), (1, .int (nI j)), (2, .int x)] := hl
  refine lv_iload_n hx hb d_Te_keepByte_0 rfl (lv_at hl 1 rfl) ?_
  refine lv_if_lt (tgt := 17) hx hb d_Te_keepByte_1 (by decide) (fun c_1 => ?_) (fun c_1 => ?_)
  · replace c_1 := (cg_lt j 0 rfl rfl (by omega) (by omega)).mp c_1
    exact absurd c_1 (by omega)
  · replace c_1 := mt (cg_lt j 0 rfl rfl (by omega) (by omega)).mpr c_1
    refine lv_iload_n hx hb d_Te_keepByte_4 rfl (lv_at hl 1 rfl) ?_
    refine lv_bipush (v := 120) hx hb d_Te_keepByte_5 (by decide) ?_
    refine lv_icmp_ge (tgt := 17) hx hb d_Te_keepByte_7 (by decide) (fun c_7 => ?_) (fun c_7 => ?_)
    · replace c_7 := (cg_le 120 j rfl rfl (by omega) (by omega)).mp c_7
      exact W.vret hx hb hr (fun t9 ht9 hW9 => ⟨⟨(t : TS), rfl, by first | (rw [t_keep, if_pos (by omega)]; try rfl) | (rw [t_keep, if_neg (by omega)]; try rfl), by rw [ht9]; exact hP.sub [0, 1, 2, 3] rfl, va_K.moved hW9.alike hK, hD.sub [0, 1, 2, 3] (by decide) rfl⟩, hS.F ht9⟩) hS.2.2 d_Te_keepByte_17
    · replace c_7 := mt (cg_le 120 j rfl rfl (by omega) (by omega)).mpr c_7
      refine lv_aload_n hx hb d_Te_keepByte_10 rfl (lv_at hl 0 rfl) ?_
      refine va_get (D := D) (ci := 2) (v := .ref qb) (C := R_Te) (T := F_Te) (N := 3) hx hb hW in_Te hown hK hP 0 rfl rfl 1 (by decide) (hW _ mw_131) (fun _ h9 => h9) rfl d_Te_keepByte_11 ?_
      refine lv_iload_n hx hb d_Te_keepByte_14 rfl (lv_at hl 1 rfl) ?_
      refine lv_iload_n hx hb d_Te_keepByte_15 rfl (lv_at hl 2 rfl) ?_
      refine va_iast (D := D) hx hb hK hP hD hS 2 0 rfl rfl (vp_in_nI (by omega) (by decide)) d_Te_keepByte_16 (fun H locs hP hD hS => ?_)
      rw [nI_clamp (by omega)] at hP hD
      have hP : va_P D vwCl [(qx, .inr (2, [.ref qc, .ref qb, .ref qd])), (qc, .inl (cI, 40, .inl t.1)), (qb, .inl (cI, 120, .inl (upd t.2.1 j x))), (qd, .inl (cI, 40, .inl t.2.2))] H := hP
      have hD : va_D A [(qx, .inr (2, [.ref qc, .ref qb, .ref qd])), (qc, .inl (cI, 40, .inl t.1)), (qb, .inl (cI, 120, .inl (upd t.2.1 j x))), (qd, .inl (cI, 40, .inl t.2.2))] := hD
      exact W.vret hx hb hr (fun t9 ht9 hW9 => ⟨⟨((t.1, upd t.2.1 j x, t.2.2) : TS), rfl, by first | (rw [t_keep, if_pos (by omega)]; try rfl) | (rw [t_keep, if_neg (by omega)]; try rfl), by rw [ht9]; exact hP.sub [0, 1, 2, 3] rfl, va_K.moved hW9.alike hK, hD.sub [0, 1, 2, 3] (by decide) rfl⟩, hS.F ht9⟩) hS.2.2 d_Te_keepByte_17
set_option maxHeartbeats 4000000 in
set_option maxRecDepth 100000 in
theorem k_Te_sizeBehind (l : Launch) (D : va_G) (g : GP) (k : Nat) (hk : k ≤ 255) (sz : Nat) : Met l y_Te_sizeBehind (.code y_Te_sizeBehind c_Te_sizeBehind 1 (some .int) :: xW) ({ frames := 0, cells := 0, slots := 0, locals := 0 }) (xPc (gZ g) D vwCl [.int (nI k)] [] [] sz) (va_Qi (fun (r : Int32) (u : Unit) => r = nI (szb k)) (xB D vwCl [] (fun u : Unit => []) (va_A [] sz)) (va_A [] sz)) 0 0 (va_A [] sz) := by
  refine x_open (Qc := fun A => va_Qi (fun (r : Int32) (u : Unit) => r = nI (szb k)) (xB D vwCl [] (fun u : Unit => []) A) A) (cc := c_Te_sizeBehind) (maxL := 1) (ret := (some .int)) (own := R_Te) (by decide) rfl rfl (Nat.le_of_ble_eq_true rfl) ?_
  intro p e s m below meth cd A ls hsz hAe hx hb hr hml hown hts hlk hnm hA hP hK hD hS hZ hl
  clear hsz hAe
  have hW : ∀ w ∈ xW, w.before _ s = true := fun w h => hts w (List.mem_cons_of_mem _ h)
  have hl : lv_has ls 1 [(0, .int (nI k))] := hl
  refine lv_iload_n hx hb d_Te_sizeBehind_0 rfl (lv_at hl 0 rfl) ?_
  refine lv_sipush (v := 128) hx hb d_Te_sizeBehind_1 (by decide) ?_
  refine lv_icmp_ge (tgt := 9) hx hb d_Te_sizeBehind_4 (by decide) (fun c_4 => ?_) (fun c_4 => ?_)
  · replace c_4 := (cg_le 128 k rfl rfl (by omega) (by omega)).mp c_4
    refine lv_iload_n hx hb d_Te_sizeBehind_9 rfl (lv_at hl 0 rfl) ?_
    refine lv_sipush (v := 192) hx hb d_Te_sizeBehind_10 (by decide) ?_
    refine lv_icmp_lt (tgt := 23) hx hb d_Te_sizeBehind_13 (by decide) (fun c_13 => ?_) (fun c_13 => ?_)
    · replace c_13 := (cg_lt k 192 rfl rfl (by omega) (by omega)).mp c_13
      refine lv_iconst (v := 0) hx hb d_Te_sizeBehind_23 (by decide) ?_
      exact W.iret (v := 0) hx hb hr (fun t9 ht9 hW9 => ⟨⟨0, (() : Unit), rfl, by rw [szb, if_neg (by omega), if_pos (by omega)]; rfl, by rw [ht9]; exact hP.sub [] rfl, va_K.moved hW9.alike hK, hD.sub [] (by decide) rfl⟩, hS.F ht9⟩) hS.2.2 d_Te_sizeBehind_24
    · replace c_13 := mt (cg_lt k 192 rfl rfl (by omega) (by omega)).mpr c_13
      refine lv_iload_n hx hb d_Te_sizeBehind_16 rfl (lv_at hl 0 rfl) ?_
      refine lv_sipush (v := 239) hx hb d_Te_sizeBehind_17 (by decide) ?_
      refine lv_icmp_le (tgt := 25) hx hb d_Te_sizeBehind_20 (by decide) (fun c_20 => ?_) (fun c_20 => ?_)
      · replace c_20 := (cg_le k 239 rfl rfl (by omega) (by omega)).mp c_20
        refine lv_iload_n hx hb d_Te_sizeBehind_25 rfl (lv_at hl 0 rfl) ?_
        refine lv_sipush (v := 224) hx hb d_Te_sizeBehind_26 (by decide) ?_
        refine lv_icmp_ge (tgt := 36) hx hb d_Te_sizeBehind_29 (by decide) (fun c_29 => ?_) (fun c_29 => ?_)
        · replace c_29 := (cg_le 224 k rfl rfl (by omega) (by omega)).mp c_29
          refine lv_iconst (v := 3) hx hb d_Te_sizeBehind_36 (by decide) ?_
          exact W.iret (v := 3) hx hb hr (fun t9 ht9 hW9 => ⟨⟨3, (() : Unit), rfl, by rw [szb, if_neg (by omega), if_neg (by omega), if_neg (by omega)]; rfl, by rw [ht9]; exact hP.sub [] rfl, va_K.moved hW9.alike hK, hD.sub [] (by decide) rfl⟩, hS.F ht9⟩) hS.2.2 d_Te_sizeBehind_37
        · replace c_29 := mt (cg_le 224 k rfl rfl (by omega) (by omega)).mpr c_29
          refine lv_iconst (v := 2) hx hb d_Te_sizeBehind_32 (by decide) ?_
          refine lv_goto (tgt := 37) hx hb d_Te_sizeBehind_33 (by decide) ?_
          exact W.iret (v := 2) hx hb hr (fun t9 ht9 hW9 => ⟨⟨2, (() : Unit), rfl, by rw [szb, if_neg (by omega), if_neg (by omega), if_pos (by omega)]; rfl, by rw [ht9]; exact hP.sub [] rfl, va_K.moved hW9.alike hK, hD.sub [] (by decide) rfl⟩, hS.F ht9⟩) hS.2.2 d_Te_sizeBehind_37
      · replace c_20 := mt (cg_le k 239 rfl rfl (by omega) (by omega)).mpr c_20
        refine lv_iconst (v := 0) hx hb d_Te_sizeBehind_23 (by decide) ?_
        exact W.iret (v := 0) hx hb hr (fun t9 ht9 hW9 => ⟨⟨0, (() : Unit), rfl, by rw [szb, if_neg (by omega), if_pos (by omega)]; rfl, by rw [ht9]; exact hP.sub [] rfl, va_K.moved hW9.alike hK, hD.sub [] (by decide) rfl⟩, hS.F ht9⟩) hS.2.2 d_Te_sizeBehind_24
  · replace c_4 := mt (cg_le 128 k rfl rfl (by omega) (by omega)).mpr c_4
    refine lv_iconst (v := 1) hx hb d_Te_sizeBehind_7 (by decide) ?_
    exact W.iret (v := 1) hx hb hr (fun t9 ht9 hW9 => ⟨⟨1, (() : Unit), rfl, by rw [szb, if_pos (by omega)]; rfl, by rw [ht9]; exact hP.sub [] rfl, va_K.moved hW9.alike hK, hD.sub [] (by decide) rfl⟩, hS.F ht9⟩) hS.2.2 d_Te_sizeBehind_8
