set_option maxHeartbeats 4000000 in
set_option maxRecDepth 100000 in
theorem k_Te_decodeCode (l : Launch) (D : va_G) (g : GP) (qx qc qb qd : Nat) (cI : ClassId) (t : TS) (a z : Nat) (ht : t_ok t) (hz : 1 ≤ z ∧ z ≤ 3) (ha : a + z ≤ 120) (sz : Nat) : Met l y_Te_decodeCode (.code y_Te_decodeCode c_Te_decodeCode 6 (some .int) :: xW) ({ frames := 0, cells := 0, slots := 0, locals := 0 }) (xPc (gZ g) D vwCl [.ref qx, .int (nI a), .int (nI z)] [(qx, .inr (2, [.ref qc, .ref qb, .ref qd])), (qc, .inl (cI, 40, .inl t.1)), (qb, .inl (cI, 120, .inl t.2.1)), (qd, .inl (cI, 40, .inl t.2.2))] [(cI, .int)] sz) (va_Qi (fun (r : Int32) (u : Unit) => r = oI (dc (n_at t.2.1) a z)) (xB D vwCl [(cI, .int)] (fun u : Unit => [(qx, .inr (2, [.ref qc, .ref qb, .ref qd])), (qc, .inl (cI, 40, .inl t.1)), (qb, .inl (cI, 120, .inl t.2.1)), (qd, .inl (cI, 40, .inl t.2.2))]) (va_A [(qx, .inr (2, [.ref qc, .ref qb, .ref qd])), (qc, .inl (cI, 40, .inl t.1)), (qb, .inl (cI, 120, .inl t.2.1)), (qd, .inl (cI, 40, .inl t.2.2))] sz)) (va_A [(qx, .inr (2, [.ref qc, .ref qb, .ref qd])), (qc, .inl (cI, 40, .inl t.1)), (qb, .inl (cI, 120, .inl t.2.1)), (qd, .inl (cI, 40, .inl t.2.2))] sz)) 0 0 (va_A [(qx, .inr (2, [.ref qc, .ref qb, .ref qd])), (qc, .inl (cI, 40, .inl t.1)), (qb, .inl (cI, 120, .inl t.2.1)), (qd, .inl (cI, 40, .inl t.2.2))] sz) := by
  refine x_open (Qc := fun A => va_Qi (fun (r : Int32) (u : Unit) => r = oI (dc (n_at t.2.1) a z)) (xB D vwCl [(cI, .int)] (fun u : Unit => [(qx, .inr (2, [.ref qc, .ref qb, .ref qd])), (qc, .inl (cI, 40, .inl t.1)), (qb, .inl (cI, 120, .inl t.2.1)), (qd, .inl (cI, 40, .inl t.2.2))]) A) A) (cc := c_Te_decodeCode) (maxL := 6) (ret := (some .int)) (own := R_Te) (by decide) rfl rfl (Nat.le_of_ble_eq_true rfl) ?_
  intro p e s m below meth cd A ls hsz hAe hx hb hr hml hown hts hlk hnm hA hP hK hD hS hZ hl
  clear hsz hAe
  have hW : ∀ w ∈ xW, w.before _ s = true := fun w h => hts w (List.mem_cons_of_mem _ h)
  have hl : lv_has ls 6 [(0, .ref qx), (1, .int (nI a)), (2, .int (nI z))] := hl
  obtain ⟨hz1, hz3⟩ := id hz
  have hb0 := n_at_le ht.2.1 (show a < 120 by omega) (by decide)
  refine lv_aload_n hx hb d_Te_decodeCode_0 rfl (lv_at hl 0 rfl) ?_
  refine va_get (D := D) (ci := 2) (v := .ref qb) (C := R_Te) (T := F_Te) (N := 3) hx hb hW in_Te hown hK hP 0 rfl rfl 1 (by decide) (hW _ mw_131) (fun _ h9 => h9) rfl d_Te_decodeCode_1 ?_
  refine lv_iload_n hx hb d_Te_decodeCode_4 rfl (lv_at hl 1 rfl) ?_
  refine va_iald (D := D) hx hb hK hP 2 0 rfl rfl (vp_in_nI (by omega) (by decide)) d_Te_decodeCode_5 ?_
  refine x_topi (y := t.2.1 a) (by rw [nI_clamp (by omega)]) ?_
  refine x_topi (y := nI (n_at t.2.1 a)) (n_at_eq ht.2.1 (by omega)) ?_
  refine lv_istore_n (lv' := [(3, .int (nI (n_at t.2.1 a))), (0, .ref qx), (1, .int (nI a)), (2, .int (nI z))]) hx hb d_Te_decodeCode_6 rfl hl (by decide) rfl (fun ls hl => ?_)
  refine lv_iload_n hx hb d_Te_decodeCode_7 rfl (lv_at hl 3 rfl) ?_
  refine lv_iconst (v := 1) hx hb d_Te_decodeCode_8 (by decide) ?_
  refine lv_icmp_le (tgt := 27) hx hb d_Te_decodeCode_9 (by decide) (fun c_9 => ?_) (fun c_9 => ?_)
  · replace c_9 := (cg_le z 1 rfl rfl (by omega) (by omega)).mp c_9
    refine lv_iconst (v := 1) hx hb d_Te_decodeCode_27 (by decide) ?_
    refine lv_istore (lv' := [(4, .int 1), (3, .int (nI (n_at t.2.1 a))), (0, .ref qx), (1, .int (nI a)), (2, .int (nI z))]) hx hb d_Te_decodeCode_28 hl (by decide) rfl (fun ls hl => ?_)
    have hlp_30 : ∀ (n : Nat) (v : Nat) (i : Nat), (1 ≤ i ∧ i ≤ z) → ((i = 1 ∧ v ≤ 255) ∨ (i = 2 ∧ v ≤ 20000) ∨ (i = 3 ∧ v ≤ 1300000)) → (dc_go (n_at t.2.1) a (z - i) i v = dc (n_at t.2.1) a z) → z - i < n → ∀ (H : Heap) (locs : List Loc), va_P D vwCl [(qx, .inr (2, [.ref qc, .ref qb, .ref qd])), (qc, .inl (cI, 40, .inl t.1)), (qb, .inl (cI, 120, .inl t.2.1)), (qd, .inl (cI, 40, .inl t.2.2))] H → va_D A [(qx, .inr (2, [.ref qc, .ref qb, .ref qd])), (qc, .inl (cI, 40, .inl t.1)), (qb, .inl (cI, 120, .inl t.2.1)), (qd, .inl (cI, 40, .inl t.2.2))] → va_S A s.heap H locs → ∀ (ls : Array Slot), lv_has ls 6 [(4, .int (nI i)), (3, .int (nI v)), (0, .ref qx), (1, .int (nI a)), (2, .int (nI z))] → W p l e ({ frames := 0, cells := 0, slots := 0, locals := 0 }) s m [.ref qx, .int (nI a), .int (nI z)].toArray below meth cd H locs 0 0 (MQ below ((fun A => va_Qi (fun (r : Int32) (u : Unit) => r = oI (dc (n_at t.2.1) a z)) (xB D vwCl [(cI, .int)] (fun u : Unit => [(qx, .inr (2, [.ref qc, .ref qb, .ref qd])), (qc, .inl (cI, 40, .inl t.1)), (qb, .inl (cI, 120, .inl t.2.1)), (qd, .inl (cI, 40, .inl t.2.2))]) A) A) A) [.ref qx, .int (nI a), .int (nI z)].toArray s 0 0 A) (F0 m 30 ls []) := by
      intro n
      induction n with
      | zero => intro v i hi hv he hms; exact absurd hms (Nat.not_lt_zero _)
      | succ n ih =>
        intro v i hi hv he hms H locs hP hD hS ls hl
        refine lv_iload hx hb d_Te_decodeCode_30 (lv_at hl 0 rfl) ?_
        refine lv_iload_n hx hb d_Te_decodeCode_32 rfl (lv_at hl 4 rfl) ?_
        refine lv_icmp_ge (tgt := 82) hx hb d_Te_decodeCode_33 (by decide) (fun c_33 => ?_) (fun c_33 => ?_)
        · replace c_33 := (cg_le z i rfl rfl (by omega) (by omega)).mp c_33
          refine lv_iload_n hx hb d_Te_decodeCode_82 rfl (lv_at hl 1 rfl) ?_
          exact W.iret (v := nI v) hx hb hr (fun t9 ht9 hW9 => ⟨⟨nI v, (() : Unit), rfl, by rw [← he, show z - i = 0 by omega]; rfl, by rw [ht9]; exact hP.sub [0, 1, 2, 3] rfl, va_K.moved hW9.alike hK, hD.sub [0, 1, 2, 3] (by decide) rfl⟩, hS.F ht9⟩) hS.2.2 d_Te_decodeCode_83
        · replace c_33 := mt (cg_le z i rfl rfl (by omega) (by omega)).mpr c_33
          have hbi := n_at_le ht.2.1 (show a + i < 120 by omega) (by decide)
          refine lv_aload_n hx hb d_Te_decodeCode_36 rfl (lv_at hl 2 rfl) ?_
          refine va_get (D := D) (ci := 2) (v := .ref qb) (C := R_Te) (T := F_Te) (N := 3) hx hb hW in_Te hown hK hP 0 rfl rfl 1 (by decide) (hW _ mw_131) (fun _ h9 => h9) rfl d_Te_decodeCode_37 ?_
          refine lv_iload_n hx hb d_Te_decodeCode_40 rfl (lv_at hl 3 rfl) ?_
          refine lv_iload hx hb d_Te_decodeCode_41 (lv_at hl 0 rfl) ?_
          refine lv_iadd hx hb d_Te_decodeCode_43 ?_
          refine x_topi (y := nI (a + i)) (nI_add _ _) ?_
          refine va_iald (D := D) hx hb hK hP 2 0 rfl rfl (vp_in_nI (by omega) (by decide)) d_Te_decodeCode_44 ?_
          refine x_topi (y := t.2.1 (a + i)) (by rw [nI_clamp (by omega)]) ?_
          refine x_topi (y := nI (n_at t.2.1 (a + i))) (n_at_eq ht.2.1 (by omega)) ?_
          refine lv_istore (lv' := [(5, .int (nI (n_at t.2.1 (a + i)))), (4, .int (nI i)), (3, .int (nI v)), (0, .ref qx), (1, .int (nI a)), (2, .int (nI z))]) hx hb d_Te_decodeCode_45 hl (by decide) rfl (fun ls hl => ?_)
          refine lv_iload hx hb d_Te_decodeCode_47 (lv_at hl 0 rfl) ?_
          refine lv_sipush (v := 128) hx hb d_Te_decodeCode_49 (by decide) ?_
          refine lv_icmp_lt (tgt := 63) hx hb d_Te_decodeCode_52 (by decide) (fun c_52 => ?_) (fun c_52 => ?_)
          · replace c_52 := (cg_lt (n_at t.2.1 (a + i)) 128 rfl rfl (by omega) (by omega)).mp c_52
            refine lv_iconst (v := -1) hx hb d_Te_decodeCode_63 (by decide) ?_
            exact W.iret (v := -1) hx hb hr (fun t9 ht9 hW9 => ⟨⟨-1, (() : Unit), rfl, by rw [← he, dc_none (by omega) (by first | exact Or.inl c_52 | exact Or.inr (by omega))]; rfl, by rw [ht9]; exact hP.sub [0, 1, 2, 3] rfl, va_K.moved hW9.alike hK, hD.sub [0, 1, 2, 3] (by decide) rfl⟩, hS.F ht9⟩) hS.2.2 d_Te_decodeCode_64
          · replace c_52 := mt (cg_lt (n_at t.2.1 (a + i)) 128 rfl rfl (by omega) (by omega)).mpr c_52
            refine lv_iload hx hb d_Te_decodeCode_55 (lv_at hl 0 rfl) ?_
            refine lv_sipush (v := 191) hx hb d_Te_decodeCode_57 (by decide) ?_
            refine lv_icmp_le (tgt := 65) hx hb d_Te_decodeCode_60 (by decide) (fun c_60 => ?_) (fun c_60 => ?_)
            · replace c_60 := (cg_le (n_at t.2.1 (a + i)) 191 rfl rfl (by omega) (by omega)).mp c_60
              refine lv_iload_n hx hb d_Te_decodeCode_65 rfl (lv_at hl 2 rfl) ?_
              refine lv_bipush (v := 64) hx hb d_Te_decodeCode_66 (by decide) ?_
              refine lv_imul hx hb d_Te_decodeCode_68 ?_
              refine x_topi (y := nI (v * 64)) (by rw [show (64 : Int32) = nI 64 by decide]; exact pk_mul _ _) ?_
              refine lv_iload hx hb d_Te_decodeCode_69 (lv_at hl 0 rfl) ?_
              refine lv_bipush (v := 64) hx hb d_Te_decodeCode_71 (by decide) ?_
              refine lv_irem hx hb d_Te_decodeCode_73 (by decide) ?_
              refine x_topi (y := nI ((n_at t.2.1 (a + i)) % 64)) (pk_rem (d := 64) (by omega) (by decide) (by decide)) ?_
              refine lv_iadd hx hb d_Te_decodeCode_74 ?_
              refine x_topi (y := nI ((v * 64) + ((n_at t.2.1 (a + i)) % 64))) (nI_add _ _) ?_
              refine lv_istore_n (lv' := [(3, .int (nI ((v * 64) + ((n_at t.2.1 (a + i)) % 64)))), (5, .int (nI (n_at t.2.1 (a + i)))), (4, .int (nI i)), (0, .ref qx), (1, .int (nI a)), (2, .int (nI z))]) hx hb d_Te_decodeCode_75 rfl hl (by decide) rfl (fun ls hl => ?_)
              refine lv_iinc (v := nI (i + 1)) (lv' := [(4, .int (nI (i + 1))), (3, .int (nI ((v * 64) + ((n_at t.2.1 (a + i)) % 64)))), (5, .int (nI (n_at t.2.1 (a + i)))), (0, .ref qx), (1, .int (nI a)), (2, .int (nI z))]) hx hb d_Te_decodeCode_76 hl (k := 2) rfl (nI_1 _) (by decide) rfl (fun ls hl => ?_)
              refine lv_goto (tgt := 30) hx hb d_Te_decodeCode_79 (by decide) ?_
              exact ih ((v * 64) + ((n_at t.2.1 (a + i)) % 64)) (i + 1) (⟨by omega, by omega⟩) (by omega) (by rw [← he, show z - (i + 1) = (z - i) - 1 by omega]; exact dc_step (by omega) (by omega)) (by omega) H locs (hP.sub [0, 1, 2, 3] rfl) (hD.sub [0, 1, 2, 3] (by decide) rfl) hS ls (lv_sub hl [0, 1, 3, 4, 5] rfl)
            · replace c_60 := mt (cg_le (n_at t.2.1 (a + i)) 191 rfl rfl (by omega) (by omega)).mpr c_60
              refine lv_iconst (v := -1) hx hb d_Te_decodeCode_63 (by decide) ?_
              exact W.iret (v := -1) hx hb hr (fun t9 ht9 hW9 => ⟨⟨-1, (() : Unit), rfl, by rw [← he, dc_none (by omega) (by first | exact Or.inl c_52 | exact Or.inr (by omega))]; rfl, by rw [ht9]; exact hP.sub [0, 1, 2, 3] rfl, va_K.moved hW9.alike hK, hD.sub [0, 1, 2, 3] (by decide) rfl⟩, hS.F ht9⟩) hS.2.2 d_Te_decodeCode_64
    exact hlp_30 _ (n_at t.2.1 a) 1 (⟨by omega, by omega⟩) (Or.inl ⟨rfl, by omega⟩) (by first | (rw [dc, dc_0, if_pos c_9]; done) | (rw [dc, dc_0, if_neg c_9, if_pos c_15]; done) | (rw [dc, dc_0, if_neg c_9, if_neg c_15]; done)) (Nat.lt_succ_self _) s.heap [] (hP.sub [0, 1, 2, 3] rfl) (hD.sub [0, 1, 2, 3] (by decide) rfl) hS ls (lv_sub hl [0, 1, 2, 3, 4] rfl)
  · replace c_9 := mt (cg_le z 1 rfl rfl (by omega) (by omega)).mpr c_9
    refine lv_iload_n hx hb d_Te_decodeCode_12 rfl (lv_at hl 0 rfl) ?_
    refine lv_iload_n hx hb d_Te_decodeCode_13 rfl (lv_at hl 3 rfl) ?_
    refine lv_iconst (v := 2) hx hb d_Te_decodeCode_14 (by decide) ?_
    refine lv_icmp_ne (tgt := 23) hx hb d_Te_decodeCode_15 (by decide) (fun c_15 => ?_) (fun c_15 => ?_)
    · replace c_15 := mt (cg_eq z 2 rfl rfl (by omega) (by omega)).mpr c_15
      refine lv_bipush (v := 15) hx hb d_Te_decodeCode_23 (by decide) ?_
      refine lv_iand hx hb d_Te_decodeCode_25 ?_
      refine x_topi (y := nI ((n_at t.2.1 a) % 2 ^ 4)) (pk_andN (by omega) 4 (by decide)) ?_
      refine lv_istore_n (lv' := [(3, .int (nI ((n_at t.2.1 a) % 2 ^ 4))), (0, .ref qx), (1, .int (nI a)), (2, .int (nI z))]) hx hb d_Te_decodeCode_26 rfl hl (by decide) rfl (fun ls hl => ?_)
      refine lv_iconst (v := 1) hx hb d_Te_decodeCode_27 (by decide) ?_
      refine lv_istore (lv' := [(4, .int 1), (3, .int (nI ((n_at t.2.1 a) % 2 ^ 4))), (0, .ref qx), (1, .int (nI a)), (2, .int (nI z))]) hx hb d_Te_decodeCode_28 hl (by decide) rfl (fun ls hl => ?_)
      have hlp_30 : ∀ (n : Nat) (v : Nat) (i : Nat), (1 ≤ i ∧ i ≤ z) → ((i = 1 ∧ v ≤ 255) ∨ (i = 2 ∧ v ≤ 20000) ∨ (i = 3 ∧ v ≤ 1300000)) → (dc_go (n_at t.2.1) a (z - i) i v = dc (n_at t.2.1) a z) → z - i < n → ∀ (H : Heap) (locs : List Loc), va_P D vwCl [(qx, .inr (2, [.ref qc, .ref qb, .ref qd])), (qc, .inl (cI, 40, .inl t.1)), (qb, .inl (cI, 120, .inl t.2.1)), (qd, .inl (cI, 40, .inl t.2.2))] H → va_D A [(qx, .inr (2, [.ref qc, .ref qb, .ref qd])), (qc, .inl (cI, 40, .inl t.1)), (qb, .inl (cI, 120, .inl t.2.1)), (qd, .inl (cI, 40, .inl t.2.2))] → va_S A s.heap H locs → ∀ (ls : Array Slot), lv_has ls 6 [(4, .int (nI i)), (3, .int (nI v)), (0, .ref qx), (1, .int (nI a)), (2, .int (nI z))] → W p l e ({ frames := 0, cells := 0, slots := 0, locals := 0 }) s m [.ref qx, .int (nI a), .int (nI z)].toArray below meth cd H locs 0 0 (MQ below ((fun A => va_Qi (fun (r : Int32) (u : Unit) => r = oI (dc (n_at t.2.1) a z)) (xB D vwCl [(cI, .int)] (fun u : Unit => [(qx, .inr (2, [.ref qc, .ref qb, .ref qd])), (qc, .inl (cI, 40, .inl t.1)), (qb, .inl (cI, 120, .inl t.2.1)), (qd, .inl (cI, 40, .inl t.2.2))]) A) A) A) [.ref qx, .int (nI a), .int (nI z)].toArray s 0 0 A) (F0 m 30 ls []) := by
        intro n
        induction n with
        | zero => intro v i hi hv he hms; exact absurd hms (Nat.not_lt_zero _)
        | succ n ih =>
          intro v i hi hv he hms H locs hP hD hS ls hl
          refine lv_iload hx hb d_Te_decodeCode_30 (lv_at hl 0 rfl) ?_
          refine lv_iload_n hx hb d_Te_decodeCode_32 rfl (lv_at hl 4 rfl) ?_
          refine lv_icmp_ge (tgt := 82) hx hb d_Te_decodeCode_33 (by decide) (fun c_33 => ?_) (fun c_33 => ?_)
          · replace c_33 := (cg_le z i rfl rfl (by omega) (by omega)).mp c_33
            refine lv_iload_n hx hb d_Te_decodeCode_82 rfl (lv_at hl 1 rfl) ?_
            exact W.iret (v := nI v) hx hb hr (fun t9 ht9 hW9 => ⟨⟨nI v, (() : Unit), rfl, by rw [← he, show z - i = 0 by omega]; rfl, by rw [ht9]; exact hP.sub [0, 1, 2, 3] rfl, va_K.moved hW9.alike hK, hD.sub [0, 1, 2, 3] (by decide) rfl⟩, hS.F ht9⟩) hS.2.2 d_Te_decodeCode_83
          · replace c_33 := mt (cg_le z i rfl rfl (by omega) (by omega)).mpr c_33
            have hbi := n_at_le ht.2.1 (show a + i < 120 by omega) (by decide)
            refine lv_aload_n hx hb d_Te_decodeCode_36 rfl (lv_at hl 2 rfl) ?_
            refine va_get (D := D) (ci := 2) (v := .ref qb) (C := R_Te) (T := F_Te) (N := 3) hx hb hW in_Te hown hK hP 0 rfl rfl 1 (by decide) (hW _ mw_131) (fun _ h9 => h9) rfl d_Te_decodeCode_37 ?_
            refine lv_iload_n hx hb d_Te_decodeCode_40 rfl (lv_at hl 3 rfl) ?_
            refine lv_iload hx hb d_Te_decodeCode_41 (lv_at hl 0 rfl) ?_
            refine lv_iadd hx hb d_Te_decodeCode_43 ?_
            refine x_topi (y := nI (a + i)) (nI_add _ _) ?_
            refine va_iald (D := D) hx hb hK hP 2 0 rfl rfl (vp_in_nI (by omega) (by decide)) d_Te_decodeCode_44 ?_
            refine x_topi (y := t.2.1 (a + i)) (by rw [nI_clamp (by omega)]) ?_
            refine x_topi (y := nI (n_at t.2.1 (a + i))) (n_at_eq ht.2.1 (by omega)) ?_
            refine lv_istore (lv' := [(5, .int (nI (n_at t.2.1 (a + i)))), (4, .int (nI i)), (3, .int (nI v)), (0, .ref qx), (1, .int (nI a)), (2, .int (nI z))]) hx hb d_Te_decodeCode_45 hl (by decide) rfl (fun ls hl => ?_)
            refine lv_iload hx hb d_Te_decodeCode_47 (lv_at hl 0 rfl) ?_
            refine lv_sipush (v := 128) hx hb d_Te_decodeCode_49 (by decide) ?_
            refine lv_icmp_lt (tgt := 63) hx hb d_Te_decodeCode_52 (by decide) (fun c_52 => ?_) (fun c_52 => ?_)
            · replace c_52 := (cg_lt (n_at t.2.1 (a + i)) 128 rfl rfl (by omega) (by omega)).mp c_52
              refine lv_iconst (v := -1) hx hb d_Te_decodeCode_63 (by decide) ?_
              exact W.iret (v := -1) hx hb hr (fun t9 ht9 hW9 => ⟨⟨-1, (() : Unit), rfl, by rw [← he, dc_none (by omega) (by first | exact Or.inl c_52 | exact Or.inr (by omega))]; rfl, by rw [ht9]; exact hP.sub [0, 1, 2, 3] rfl, va_K.moved hW9.alike hK, hD.sub [0, 1, 2, 3] (by decide) rfl⟩, hS.F ht9⟩) hS.2.2 d_Te_decodeCode_64
            · replace c_52 := mt (cg_lt (n_at t.2.1 (a + i)) 128 rfl rfl (by omega) (by omega)).mpr c_52
              refine lv_iload hx hb d_Te_decodeCode_55 (lv_at hl 0 rfl) ?_
              refine lv_sipush (v := 191) hx hb d_Te_decodeCode_57 (by decide) ?_
              refine lv_icmp_le (tgt := 65) hx hb d_Te_decodeCode_60 (by decide) (fun c_60 => ?_) (fun c_60 => ?_)
              · replace c_60 := (cg_le (n_at t.2.1 (a + i)) 191 rfl rfl (by omega) (by omega)).mp c_60
                refine lv_iload_n hx hb d_Te_decodeCode_65 rfl (lv_at hl 2 rfl) ?_
                refine lv_bipush (v := 64) hx hb d_Te_decodeCode_66 (by decide) ?_
                refine lv_imul hx hb d_Te_decodeCode_68 ?_
                refine x_topi (y := nI (v * 64)) (by rw [show (64 : Int32) = nI 64 by decide]; exact pk_mul _ _) ?_
                refine lv_iload hx hb d_Te_decodeCode_69 (lv_at hl 0 rfl) ?_
                refine lv_bipush (v := 64) hx hb d_Te_decodeCode_71 (by decide) ?_
                refine lv_irem hx hb d_Te_decodeCode_73 (by decide) ?_
                refine x_topi (y := nI ((n_at t.2.1 (a + i)) % 64)) (pk_rem (d := 64) (by omega) (by decide) (by decide)) ?_
                refine lv_iadd hx hb d_Te_decodeCode_74 ?_
                refine x_topi (y := nI ((v * 64) + ((n_at t.2.1 (a + i)) % 64))) (nI_add _ _) ?_
                refine lv_istore_n (lv' := [(3, .int (nI ((v * 64) + ((n_at t.2.1 (a + i)) % 64)))), (5, .int (nI (n_at t.2.1 (a + i)))), (4, .int (nI i)), (0, .ref qx), (1, .int (nI a)), (2, .int (nI z))]) hx hb d_Te_decodeCode_75 rfl hl (by decide) rfl (fun ls hl => ?_)
                refine lv_iinc (v := nI (i + 1)) (lv' := [(4, .int (nI (i + 1))), (3, .int (nI ((v * 64) + ((n_at t.2.1 (a + i)) % 64)))), (5, .int (nI (n_at t.2.1 (a + i)))), (0, .ref qx), (1, .int (nI a)), (2, .int (nI z))]) hx hb d_Te_decodeCode_76 hl (k := 2) rfl (nI_1 _) (by decide) rfl (fun ls hl => ?_)
                refine lv_goto (tgt := 30) hx hb d_Te_decodeCode_79 (by decide) ?_
                exact ih ((v * 64) + ((n_at t.2.1 (a + i)) % 64)) (i + 1) (⟨by omega, by omega⟩) (by omega) (by rw [← he, show z - (i + 1) = (z - i) - 1 by omega]; exact dc_step (by omega) (by omega)) (by omega) H locs (hP.sub [0, 1, 2, 3] rfl) (hD.sub [0, 1, 2, 3] (by decide) rfl) hS ls (lv_sub hl [0, 1, 3, 4, 5] rfl)
              · replace c_60 := mt (cg_le (n_at t.2.1 (a + i)) 191 rfl rfl (by omega) (by omega)).mpr c_60
                refine lv_iconst (v := -1) hx hb d_Te_decodeCode_63 (by decide) ?_
                exact W.iret (v := -1) hx hb hr (fun t9 ht9 hW9 => ⟨⟨-1, (() : Unit), rfl, by rw [← he, dc_none (by omega) (by first | exact Or.inl c_52 | exact Or.inr (by omega))]; rfl, by rw [ht9]; exact hP.sub [0, 1, 2, 3] rfl, va_K.moved hW9.alike hK, hD.sub [0, 1, 2, 3] (by decide) rfl⟩, hS.F ht9⟩) hS.2.2 d_Te_decodeCode_64
      exact hlp_30 _ ((n_at t.2.1 a) % 2 ^ 4) 1 (⟨by omega, by omega⟩) (Or.inl ⟨rfl, by omega⟩) (by first | (rw [dc, dc_0, if_pos c_9]; done) | (rw [dc, dc_0, if_neg c_9, if_pos c_15]; done) | (rw [dc, dc_0, if_neg c_9, if_neg c_15]; done)) (Nat.lt_succ_self _) s.heap [] (hP.sub [0, 1, 2, 3] rfl) (hD.sub [0, 1, 2, 3] (by decide) rfl) hS ls (lv_sub hl [0, 1, 2, 3, 4] rfl)
    · replace c_15 := (cg_eq z 2 rfl rfl (by omega) (by omega)).mp c_15
      refine lv_bipush (v := 31) hx hb d_Te_decodeCode_18 (by decide) ?_
      refine lv_goto (tgt := 25) hx hb d_Te_decodeCode_20 (by decide) ?_
      refine lv_iand hx hb d_Te_decodeCode_25 ?_
      refine x_topi (y := nI ((n_at t.2.1 a) % 2 ^ 5)) (pk_andN (by omega) 5 (by decide)) ?_
      refine lv_istore_n (lv' := [(3, .int (nI ((n_at t.2.1 a) % 2 ^ 5))), (0, .ref qx), (1, .int (nI a)), (2, .int (nI z))]) hx hb d_Te_decodeCode_26 rfl hl (by decide) rfl (fun ls hl => ?_)
      refine lv_iconst (v := 1) hx hb d_Te_decodeCode_27 (by decide) ?_
      refine lv_istore (lv' := [(4, .int 1), (3, .int (nI ((n_at t.2.1 a) % 2 ^ 5))), (0, .ref qx), (1, .int (nI a)), (2, .int (nI z))]) hx hb d_Te_decodeCode_28 hl (by decide) rfl (fun ls hl => ?_)
      have hlp_30 : ∀ (n : Nat) (v : Nat) (i : Nat), (1 ≤ i ∧ i ≤ z) → ((i = 1 ∧ v ≤ 255) ∨ (i = 2 ∧ v ≤ 20000) ∨ (i = 3 ∧ v ≤ 1300000)) → (dc_go (n_at t.2.1) a (z - i) i v = dc (n_at t.2.1) a z) → z - i < n → ∀ (H : Heap) (locs : List Loc), va_P D vwCl [(qx, .inr (2, [.ref qc, .ref qb, .ref qd])), (qc, .inl (cI, 40, .inl t.1)), (qb, .inl (cI, 120, .inl t.2.1)), (qd, .inl (cI, 40, .inl t.2.2))] H → va_D A [(qx, .inr (2, [.ref qc, .ref qb, .ref qd])), (qc, .inl (cI, 40, .inl t.1)), (qb, .inl (cI, 120, .inl t.2.1)), (qd, .inl (cI, 40, .inl t.2.2))] → va_S A s.heap H locs → ∀ (ls : Array Slot), lv_has ls 6 [(4, .int (nI i)), (3, .int (nI v)), (0, .ref qx), (1, .int (nI a)), (2, .int (nI z))] → W p l e ({ frames := 0, cells := 0, slots := 0, locals := 0 }) s m [.ref qx, .int (nI a), .int (nI z)].toArray below meth cd H locs 0 0 (MQ below ((fun A => va_Qi (fun (r : Int32) (u : Unit) => r = oI (dc (n_at t.2.1) a z)) (xB D vwCl [(cI, .int)] (fun u : Unit => [(qx, .inr (2, [.ref qc, .ref qb, .ref qd])), (qc, .inl (cI, 40, .inl t.1)), (qb, .inl (cI, 120, .inl t.2.1)), (qd, .inl (cI, 40, .inl t.2.2))]) A) A) A) [.ref qx, .int (nI a), .int (nI z)].toArray s 0 0 A) (F0 m 30 ls []) := by
        intro n
        induction n with
        | zero => intro v i hi hv he hms; exact absurd hms (Nat.not_lt_zero _)
        | succ n ih =>
          intro v i hi hv he hms H locs hP hD hS ls hl
          refine lv_iload hx hb d_Te_decodeCode_30 (lv_at hl 0 rfl) ?_
          refine lv_iload_n hx hb d_Te_decodeCode_32 rfl (lv_at hl 4 rfl) ?_
          refine lv_icmp_ge (tgt := 82) hx hb d_Te_decodeCode_33 (by decide) (fun c_33 => ?_) (fun c_33 => ?_)
          · replace c_33 := (cg_le z i rfl rfl (by omega) (by omega)).mp c_33
            refine lv_iload_n hx hb d_Te_decodeCode_82 rfl (lv_at hl 1 rfl) ?_
            exact W.iret (v := nI v) hx hb hr (fun t9 ht9 hW9 => ⟨⟨nI v, (() : Unit), rfl, by rw [← he, show z - i = 0 by omega]; rfl, by rw [ht9]; exact hP.sub [0, 1, 2, 3] rfl, va_K.moved hW9.alike hK, hD.sub [0, 1, 2, 3] (by decide) rfl⟩, hS.F ht9⟩) hS.2.2 d_Te_decodeCode_83
          · replace c_33 := mt (cg_le z i rfl rfl (by omega) (by omega)).mpr c_33
            have hbi := n_at_le ht.2.1 (show a + i < 120 by omega) (by decide)
            refine lv_aload_n hx hb d_Te_decodeCode_36 rfl (lv_at hl 2 rfl) ?_
            refine va_get (D := D) (ci := 2) (v := .ref qb) (C := R_Te) (T := F_Te) (N := 3) hx hb hW in_Te hown hK hP 0 rfl rfl 1 (by decide) (hW _ mw_131) (fun _ h9 => h9) rfl d_Te_decodeCode_37 ?_
            refine lv_iload_n hx hb d_Te_decodeCode_40 rfl (lv_at hl 3 rfl) ?_
            refine lv_iload hx hb d_Te_decodeCode_41 (lv_at hl 0 rfl) ?_
            refine lv_iadd hx hb d_Te_decodeCode_43 ?_
            refine x_topi (y := nI (a + i)) (nI_add _ _) ?_
            refine va_iald (D := D) hx hb hK hP 2 0 rfl rfl (vp_in_nI (by omega) (by decide)) d_Te_decodeCode_44 ?_
            refine x_topi (y := t.2.1 (a + i)) (by rw [nI_clamp (by omega)]) ?_
            refine x_topi (y := nI (n_at t.2.1 (a + i))) (n_at_eq ht.2.1 (by omega)) ?_
            refine lv_istore (lv' := [(5, .int (nI (n_at t.2.1 (a + i)))), (4, .int (nI i)), (3, .int (nI v)), (0, .ref qx), (1, .int (nI a)), (2, .int (nI z))]) hx hb d_Te_decodeCode_45 hl (by decide) rfl (fun ls hl => ?_)
            refine lv_iload hx hb d_Te_decodeCode_47 (lv_at hl 0 rfl) ?_
            refine lv_sipush (v := 128) hx hb d_Te_decodeCode_49 (by decide) ?_
            refine lv_icmp_lt (tgt := 63) hx hb d_Te_decodeCode_52 (by decide) (fun c_52 => ?_) (fun c_52 => ?_)
            · replace c_52 := (cg_lt (n_at t.2.1 (a + i)) 128 rfl rfl (by omega) (by omega)).mp c_52
              refine lv_iconst (v := -1) hx hb d_Te_decodeCode_63 (by decide) ?_
              exact W.iret (v := -1) hx hb hr (fun t9 ht9 hW9 => ⟨⟨-1, (() : Unit), rfl, by rw [← he, dc_none (by omega) (by first | exact Or.inl c_52 | exact Or.inr (by omega))]; rfl, by rw [ht9]; exact hP.sub [0, 1, 2, 3] rfl, va_K.moved hW9.alike hK, hD.sub [0, 1, 2, 3] (by decide) rfl⟩, hS.F ht9⟩) hS.2.2 d_Te_decodeCode_64
            · replace c_52 := mt (cg_lt (n_at t.2.1 (a + i)) 128 rfl rfl (by omega) (by omega)).mpr c_52
              refine lv_iload hx hb d_Te_decodeCode_55 (lv_at hl 0 rfl) ?_
              refine lv_sipush (v := 191) hx hb d_Te_decodeCode_57 (by decide) ?_
              refine lv_icmp_le (tgt := 65) hx hb d_Te_decodeCode_60 (by decide) (fun c_60 => ?_) (fun c_60 => ?_)
              · replace c_60 := (cg_le (n_at t.2.1 (a + i)) 191 rfl rfl (by omega) (by omega)).mp c_60
                refine lv_iload_n hx hb d_Te_decodeCode_65 rfl (lv_at hl 2 rfl) ?_
                refine lv_bipush (v := 64) hx hb d_Te_decodeCode_66 (by decide) ?_
                refine lv_imul hx hb d_Te_decodeCode_68 ?_
                refine x_topi (y := nI (v * 64)) (by rw [show (64 : Int32) = nI 64 by decide]; exact pk_mul _ _) ?_
                refine lv_iload hx hb d_Te_decodeCode_69 (lv_at hl 0 rfl) ?_
                refine lv_bipush (v := 64) hx hb d_Te_decodeCode_71 (by decide) ?_
                refine lv_irem hx hb d_Te_decodeCode_73 (by decide) ?_
                refine x_topi (y := nI ((n_at t.2.1 (a + i)) % 64)) (pk_rem (d := 64) (by omega) (by decide) (by decide)) ?_
                refine lv_iadd hx hb d_Te_decodeCode_74 ?_
                refine x_topi (y := nI ((v * 64) + ((n_at t.2.1 (a + i)) % 64))) (nI_add _ _) ?_
                refine lv_istore_n (lv' := [(3, .int (nI ((v * 64) + ((n_at t.2.1 (a + i)) % 64)))), (5, .int (nI (n_at t.2.1 (a + i)))), (4, .int (nI i)), (0, .ref qx), (1, .int (nI a)), (2, .int (nI z))]) hx hb d_Te_decodeCode_75 rfl hl (by decide) rfl (fun ls hl => ?_)
                refine lv_iinc (v := nI (i + 1)) (lv' := [(4, .int (nI (i + 1))), (3, .int (nI ((v * 64) + ((n_at t.2.1 (a + i)) % 64)))), (5, .int (nI (n_at t.2.1 (a + i)))), (0, .ref qx), (1, .int (nI a)), (2, .int (nI z))]) hx hb d_Te_decodeCode_76 hl (k := 2) rfl (nI_1 _) (by decide) rfl (fun ls hl => ?_)
                refine lv_goto (tgt := 30) hx hb d_Te_decodeCode_79 (by decide) ?_
                exact ih ((v * 64) + ((n_at t.2.1 (a + i)) % 64)) (i + 1) (⟨by omega, by omega⟩) (by omega) (by rw [← he, show z - (i + 1) = (z - i) - 1 by omega]; exact dc_step (by omega) (by omega)) (by omega) H locs (hP.sub [0, 1, 2, 3] rfl) (hD.sub [0, 1, 2, 3] (by decide) rfl) hS ls (lv_sub hl [0, 1, 3, 4, 5] rfl)
              · replace c_60 := mt (cg_le (n_at t.2.1 (a + i)) 191 rfl rfl (by omega) (by omega)).mpr c_60
                refine lv_iconst (v := -1) hx hb d_Te_decodeCode_63 (by decide) ?_
                exact W.iret (v := -1) hx hb hr (fun t9 ht9 hW9 => ⟨⟨-1, (() : Unit), rfl, by rw [← he, dc_none (by omega) (by first | exact Or.inl c_52 | exact Or.inr (by omega))]; rfl, by rw [ht9]; exact hP.sub [0, 1, 2, 3] rfl, va_K.moved hW9.alike hK, hD.sub [0, 1, 2, 3] (by decide) rfl⟩, hS.F ht9⟩) hS.2.2 d_Te_decodeCode_64
      exact hlp_30 _ ((n_at t.2.1 a) % 2 ^ 5) 1 (⟨by omega, by omega⟩) (Or.inl ⟨rfl, by omega⟩) (by first | (rw [dc, dc_0, if_pos c_9]; done) | (rw [dc, dc_0, if_neg c_9, if_pos c_15]; done) | (rw [dc, dc_0, if_neg c_9, if_neg c_15]; done)) (Nat.lt_succ_self _) s.heap [] (hP.sub [0, 1, 2, 3] rfl) (hD.sub [0, 1, 2, 3] (by decide) rfl) hS ls (lv_sub hl [0, 1, 2, 3, 4] rfl)
set_option maxHeartbeats 4000000 in
set_option maxRecDepth 100000 in
theorem k_Te_decode (l : Launch) (D : va_G) (g : GP) (qx qc qb qd : Nat) (cI : ClassId) (t : TS) (z : Nat) (ht : t_ok t) (hz : z ≤ 70000) (sz : Nat) : Met l y_Te_decode (.code y_Te_decode c_Te_decode 6 (some .int) :: xW) ({ frames := 1, cells := 0, slots := 0, locals := 25 }) (xPc (gZ g) D vwCl [.ref qx, .int (nI z)] [(qx, .inr (2, [.ref qc, .ref qb, .ref qd])), (qc, .inl (cI, 40, .inl t.1)), (qb, .inl (cI, 120, .inl t.2.1)), (qd, .inl (cI, 40, .inl t.2.2))] [(cI, .int)] sz) (va_Qi (fun (r : Int32) (u : TS) => r = (t_dec t z).1 ∧ u = (t.1, t.2.1, (t_dec t z).2)) (xB D vwCl [(cI, .int)] (fun u : TS => [(qx, .inr (2, [.ref qc, .ref qb, .ref qd])), (qc, .inl (cI, 40, .inl u.1)), (qb, .inl (cI, 120, .inl u.2.1)), (qd, .inl (cI, 40, .inl u.2.2))]) (va_A [(qx, .inr (2, [.ref qc, .ref qb, .ref qd])), (qc, .inl (cI, 40, .inl t.1)), (qb, .inl (cI, 120, .inl t.2.1)), (qd, .inl (cI, 40, .inl t.2.2))] sz)) (va_A [(qx, .inr (2, [.ref qc, .ref qb, .ref qd])), (qc, .inl (cI, 40, .inl t.1)), (qb, .inl (cI, 120, .inl t.2.1)), (qd, .inl (cI, 40, .inl t.2.2))] sz)) 0 0 (va_A [(qx, .inr (2, [.ref qc, .ref qb, .ref qd])), (qc, .inl (cI, 40, .inl t.1)), (qb, .inl (cI, 120, .inl t.2.1)), (qd, .inl (cI, 40, .inl t.2.2))] sz) := by
  refine x_open (Qc := fun A => va_Qi (fun (r : Int32) (u : TS) => r = (t_dec t z).1 ∧ u = (t.1, t.2.1, (t_dec t z).2)) (xB D vwCl [(cI, .int)] (fun u : TS => [(qx, .inr (2, [.ref qc, .ref qb, .ref qd])), (qc, .inl (cI, 40, .inl u.1)), (qb, .inl (cI, 120, .inl u.2.1)), (qd, .inl (cI, 40, .inl u.2.2))]) A) A) (cc := c_Te_decode) (maxL := 6) (ret := (some .int)) (own := R_Te) (by decide) rfl rfl (Nat.le_of_ble_eq_true rfl) ?_
  intro p e s m below meth cd A ls hsz hAe hx hb hr hml hown hts hlk hnm hA hP hK hD hS hZ hl
  clear hsz hAe
  have hW : ∀ w ∈ xW, w.before _ s = true := fun w h => hts w (List.mem_cons_of_mem _ h)
  have hl : lv_has ls 6 [(0, .ref qx), (1, .int (nI z))] := hl
  refine lv_iload_n hx hb d_Te_decode_0 rfl (lv_at hl 1 rfl) ?_
  refine lv_bipush (v := 120) hx hb d_Te_decode_1 (by decide) ?_
  refine lv_icmp_le (tgt := 8) hx hb d_Te_decode_3 (by decide) (fun c_3 => ?_) (fun c_3 => ?_)
  · replace c_3 := (cg_le z 120 rfl rfl (by omega) (by omega)).mp c_3
    have e_t : t_dec t z = td (n_at t.2.1) z (z + 1) 0 0 t.2.2 := by rw [t_dec, if_neg (by omega)]
    refine lv_iconst (v := 0) hx hb d_Te_decode_8 (by decide) ?_
    refine lv_istore_n (lv' := [(2, .int 0), (0, .ref qx), (1, .int (nI z))]) hx hb d_Te_decode_9 rfl hl (by decide) rfl (fun ls hl => ?_)
    refine lv_iconst (v := 0) hx hb d_Te_decode_10 (by decide) ?_
    refine lv_istore_n (lv' := [(3, .int 0), (2, .int 0), (0, .ref qx), (1, .int (nI z))]) hx hb d_Te_decode_11 rfl hl (by decide) rfl (fun ls hl => ?_)
    have hlp_12 : ∀ (n : Nat) (f : Nat) (c : Nat) (a : Nat) (d : Nat → Int32), (c ≤ 40) → (a ≤ 120) → (z < a + f) → (f_ok d 40 65535) → (td (n_at t.2.1) z f c a d = td (n_at t.2.1) z (z + 1) 0 0 t.2.2) → f < n → ∀ (H : Heap) (locs : List Loc), va_P D vwCl [(qx, .inr (2, [.ref qc, .ref qb, .ref qd])), (qc, .inl (cI, 40, .inl t.1)), (qb, .inl (cI, 120, .inl t.2.1)), (qd, .inl (cI, 40, .inl d))] H → va_D A [(qx, .inr (2, [.ref qc, .ref qb, .ref qd])), (qc, .inl (cI, 40, .inl t.1)), (qb, .inl (cI, 120, .inl t.2.1)), (qd, .inl (cI, 40, .inl d))] → va_S A s.heap H locs → ∀ (ls : Array Slot), lv_has ls 6 [(3, .int (nI a)), (2, .int (nI c)), (0, .ref qx), (1, .int (nI z))] → W p l e ({ frames := 1, cells := 0, slots := 0, locals := 25 }) s m [.ref qx, .int (nI z)].toArray below meth cd H locs 0 0 (MQ below ((fun A => va_Qi (fun (r : Int32) (u : TS) => r = (t_dec t z).1 ∧ u = (t.1, t.2.1, (t_dec t z).2)) (xB D vwCl [(cI, .int)] (fun u : TS => [(qx, .inr (2, [.ref qc, .ref qb, .ref qd])), (qc, .inl (cI, 40, .inl u.1)), (qb, .inl (cI, 120, .inl u.2.1)), (qd, .inl (cI, 40, .inl u.2.2))]) A) A) A) [.ref qx, .int (nI z)].toArray s 0 0 A) (F0 m 12 ls []) := by
      intro n
      induction n with
      | zero => intro f c a d hc ha hf hd he hms; exact absurd hms (Nat.not_lt_zero _)
      | succ n ih =>
        intro f c a d hc ha hf hd he hms H locs hP hD hS ls hl
        refine lv_iload_n hx hb d_Te_decode_12 rfl (lv_at hl 0 rfl) ?_
        refine lv_iload_n hx hb d_Te_decode_13 rfl (lv_at hl 3 rfl) ?_
        refine lv_icmp_ge (tgt := 85) hx hb d_Te_decode_14 (by decide) (fun c_14 => ?_) (fun c_14 => ?_)
        · replace c_14 := (cg_le z a rfl rfl (by omega) (by omega)).mp c_14
          refine lv_iload_n hx hb d_Te_decode_85 rfl (lv_at hl 1 rfl) ?_
          exact W.iret (v := nI c) hx hb hr (fun t9 ht9 hW9 => ⟨⟨nI c, ((t.1, t.2.1, d) : TS), rfl, by rw [e_t, ← he, td_end c_14]; exact ⟨rfl, rfl⟩, by rw [ht9]; exact hP.sub [0, 1, 2, 3] rfl, va_K.moved hW9.alike hK, hD.sub [0, 1, 2, 3] (by decide) rfl⟩, hS.F ht9⟩) hS.2.2 d_Te_decode_86
        · replace c_14 := mt (cg_le z a rfl rfl (by omega) (by omega)).mpr c_14
          have hba := n_at_le ht.2.1 (show a < 120 by omega) (by decide)
          have hs := szb_le (n_at t.2.1 a)
          refine lv_aload_n hx hb d_Te_decode_17 rfl (lv_at hl 2 rfl) ?_
          refine va_get (D := D) (ci := 2) (v := .ref qb) (C := R_Te) (T := F_Te) (N := 3) hx hb hW in_Te hown hK hP 0 rfl rfl 1 (by decide) (hW _ mw_131) (fun _ h9 => h9) rfl d_Te_decode_18 ?_
          refine lv_iload_n hx hb d_Te_decode_21 rfl (lv_at hl 0 rfl) ?_
          refine va_iald (D := D) hx hb hK hP 2 0 rfl rfl (vp_in_nI (by omega) (by decide)) d_Te_decode_22 ?_
          refine x_topi (y := t.2.1 a) (by rw [nI_clamp (by omega)]) ?_
          refine x_topi (y := nI (n_at t.2.1 a)) (n_at_eq ht.2.1 (by omega)) ?_
          refine x_calli (D := D) (wc := []) (wr := [(qx, .inr (2, [.ref qc, .ref qb, .ref qd])), (qc, .inl (cI, 40, .inl t.1)), (qb, .inl (cI, 120, .inl t.2.1)), (qd, .inl (cI, 40, .inl d))]) (va_runS (As := [.int (nI (n_at t.2.1 a))]) (rest := []) ⟨hx, hb, hml, hown, hW⟩ (k_Te_sizeBehind l D g (n_at t.2.1 a) hba H.size) (cwS 1 hW (gWS mw_512 mw_513 mw_53 mw_514) rfl rfl rfl (by decide +kernel) ⟨Nat.le_of_ble_eq_true rfl, Nat.le_of_ble_eq_true rfl⟩) ⟨xPc_blind (gZ_ok g), x_pre (gZ_ok g) hP hK hD hS hA hZ [] [] rfl rfl rfl⟩ rfl rfl hl.1 rfl (lv_room (Nat.le_of_ble_eq_true rfl)) d_Te_decode_23 ⟨Nat.le_of_ble_eq_true rfl, Nat.le_of_ble_eq_true rfl⟩) hP hD hS hA [] [0, 1, 2, 3] rfl rfl rfl (by decide) (fun r_23 u_23 H locs hw_23 hP hD hS => ?_)
          replace hw_23 := hw_23.symm
          subst hw_23
          have hP : va_P D vwCl [(qx, .inr (2, [.ref qc, .ref qb, .ref qd])), (qc, .inl (cI, 40, .inl t.1)), (qb, .inl (cI, 120, .inl t.2.1)), (qd, .inl (cI, 40, .inl d))] H := hP
          have hD : va_D A [(qx, .inr (2, [.ref qc, .ref qb, .ref qd])), (qc, .inl (cI, 40, .inl t.1)), (qb, .inl (cI, 120, .inl t.2.1)), (qd, .inl (cI, 40, .inl d))] := hD
          refine lv_istore (lv' := [(4, .int (nI (szb (n_at t.2.1 a)))), (3, .int (nI a)), (2, .int (nI c)), (0, .ref qx), (1, .int (nI z))]) hx hb d_Te_decode_26 hl (by decide) rfl (fun ls hl => ?_)
          refine lv_iload hx hb d_Te_decode_28 (lv_at hl 0 rfl) ?_
          refine lv_if_eq (tgt := 47) hx hb d_Te_decode_30 (by decide) (fun c_30 => ?_) (fun c_30 => ?_)
          · replace c_30 := (cg_eq (szb (n_at t.2.1 a)) 0 rfl rfl (by omega) (by omega)).mp c_30
            refine lv_iconst (v := -1) hx hb d_Te_decode_47 (by decide) ?_
            exact W.iret (v := -1) hx hb hr (fun t9 ht9 hW9 => ⟨⟨-1, ((t.1, t.2.1, d) : TS), rfl, by rw [e_t, ← he, td_bad (by omega) c_14 (by omega)]; exact ⟨rfl, rfl⟩, by rw [ht9]; exact hP.sub [0, 1, 2, 3] rfl, va_K.moved hW9.alike hK, hD.sub [0, 1, 2, 3] (by decide) rfl⟩, hS.F ht9⟩) hS.2.2 d_Te_decode_48
          · replace c_30 := mt (cg_eq (szb (n_at t.2.1 a)) 0 rfl rfl (by omega) (by omega)).mpr c_30
            refine lv_iload hx hb d_Te_decode_33 (lv_at hl 0 rfl) ?_
            refine lv_iload_n hx hb d_Te_decode_35 rfl (lv_at hl 4 rfl) ?_
            refine lv_iload_n hx hb d_Te_decode_36 rfl (lv_at hl 1 rfl) ?_
            refine lv_isub hx hb d_Te_decode_37 ?_
            refine x_topi (y := nI (z - a)) (pk_sub (by omega)) ?_
            refine lv_icmp_gt (tgt := 47) hx hb d_Te_decode_38 (by decide) (fun c_38 => ?_) (fun c_38 => ?_)
            · replace c_38 := (cg_lt (z - a) (szb (n_at t.2.1 a)) rfl rfl (by omega) (by omega)).mp c_38
              refine lv_iconst (v := -1) hx hb d_Te_decode_47 (by decide) ?_
              exact W.iret (v := -1) hx hb hr (fun t9 ht9 hW9 => ⟨⟨-1, ((t.1, t.2.1, d) : TS), rfl, by rw [e_t, ← he, td_bad (by omega) c_14 (by omega)]; exact ⟨rfl, rfl⟩, by rw [ht9]; exact hP.sub [0, 1, 2, 3] rfl, va_K.moved hW9.alike hK, hD.sub [0, 1, 2, 3] (by decide) rfl⟩, hS.F ht9⟩) hS.2.2 d_Te_decode_48
            · replace c_38 := mt (cg_lt (z - a) (szb (n_at t.2.1 a)) rfl rfl (by omega) (by omega)).mpr c_38
              refine lv_iload_n hx hb d_Te_decode_41 rfl (lv_at hl 2 rfl) ?_
              refine lv_bipush (v := 40) hx hb d_Te_decode_42 (by decide) ?_
              refine lv_icmp_lt (tgt := 49) hx hb d_Te_decode_44 (by decide) (fun c_44 => ?_) (fun c_44 => ?_)
              · replace c_44 := (cg_lt c 40 rfl rfl (by omega) (by omega)).mp c_44
                have hdb : ∀ w, dc (n_at t.2.1) a (szb (n_at t.2.1 a)) = some w → w ≤ 65535 := fun w => dc_lt (by omega) hs szb_1
                refine lv_aload_n hx hb d_Te_decode_49 rfl (lv_at hl 3 rfl) ?_
                refine lv_iload_n hx hb d_Te_decode_50 rfl (lv_at hl 1 rfl) ?_
                refine lv_iload hx hb d_Te_decode_51 (lv_at hl 0 rfl) ?_
                refine x_calli (D := D) (wc := [(qx, .inr (2, [.ref qc, .ref qb, .ref qd])), (qc, .inl (cI, 40, .inl t.1)), (qb, .inl (cI, 120, .inl t.2.1)), (qd, .inl (cI, 40, .inl d))]) (wr := []) (va_runV (C := R_Te) (As := [.int (nI a), .int (nI (szb (n_at t.2.1 a)))]) (rest := []) ⟨hx, hb, hml, hown, hW⟩ (k_Te_decodeCode l D g qx qc qb qd cI (t.1, t.2.1, d) a (szb (n_at t.2.1 a)) (⟨ht.1, ht.2.1, hd⟩) (⟨by omega, hs⟩) (by omega) H.size) (cwV 2 hW (gWV mw_515 mw_517 mw_30 mw_53 mw_518) rfl rfl rfl (by decide +kernel) ⟨Nat.le_of_ble_eq_true rfl, Nat.le_of_ble_eq_true rfl⟩) ⟨xPc_blind (gZ_ok g), va_recv hK hP (ci := 2) (q0 := 0) rfl rfl, x_pre (gZ_ok g) hP hK hD hS hA hZ [0, 1, 2, 3] [0] rfl rfl rfl⟩ rfl rfl hl.1 rfl (lv_room (Nat.le_of_ble_eq_true rfl)) d_Te_decode_53 ⟨Nat.le_of_ble_eq_true rfl, Nat.le_of_ble_eq_true rfl⟩) hP hD hS hA [0, 1, 2, 3] [] rfl rfl rfl (by decide) (fun r_53 u_53 H locs hw_53 hP hD hS => ?_)
                replace hw_53 := hw_53.symm
                subst hw_53
                have hP : va_P D vwCl [(qx, .inr (2, [.ref qc, .ref qb, .ref qd])), (qc, .inl (cI, 40, .inl (t.1, t.2.1, d).1)), (qb, .inl (cI, 120, .inl (t.1, t.2.1, d).2.1)), (qd, .inl (cI, 40, .inl (t.1, t.2.1, d).2.2))] H := hP
                have hD : va_D A [(qx, .inr (2, [.ref qc, .ref qb, .ref qd])), (qc, .inl (cI, 40, .inl (t.1, t.2.1, d).1)), (qb, .inl (cI, 120, .inl (t.1, t.2.1, d).2.1)), (qd, .inl (cI, 40, .inl (t.1, t.2.1, d).2.2))] := hD
                refine x_topi (y := oI (dc (n_at t.2.1) a (szb (n_at t.2.1 a)))) (rfl) ?_
                refine lv_istore (lv' := [(5, .int (oI (dc (n_at t.2.1) a (szb (n_at t.2.1 a))))), (4, .int (nI (szb (n_at t.2.1 a)))), (3, .int (nI a)), (2, .int (nI c)), (0, .ref qx), (1, .int (nI z))]) hx hb d_Te_decode_56 hl (by decide) rfl (fun ls hl => ?_)
                refine lv_iload hx hb d_Te_decode_58 (lv_at hl 0 rfl) ?_
                refine lv_iconst (v := -1) hx hb d_Te_decode_60 (by decide) ?_
                refine lv_icmp_ne (tgt := 66) hx hb d_Te_decode_61 (by decide) (fun c_61 => ?_) (fun c_61 => ?_)
                · obtain ⟨v, hv⟩ : ∃ v, dc (n_at t.2.1) a (szb (n_at t.2.1 a)) = some v := Option.ne_none_iff_exists'.mp (mt (oI_none hdb).mpr c_61)
                  refine lv_aload_n hx hb d_Te_decode_66 rfl (lv_at hl 4 rfl) ?_
                  refine va_get (D := D) (ci := 2) (v := .ref qd) (C := R_Te) (T := F_Te) (N := 3) hx hb hW in_Te hown hK hP 0 rfl rfl 2 (by decide) (hW _ mw_132) (fun _ h9 => h9) rfl d_Te_decode_67 ?_
                  refine lv_iload_n hx hb d_Te_decode_70 rfl (lv_at hl 3 rfl) ?_
                  refine lv_iload hx hb d_Te_decode_71 (lv_at hl 0 rfl) ?_
                  refine x_topi (y := nI v) (by rw [hv]; rfl) ?_
                  refine va_iast (D := D) hx hb hK hP hD hS 3 0 rfl rfl (vp_in_nI (by omega) (by decide)) d_Te_decode_73 (fun H locs hP hD hS => ?_)
                  rw [nI_clamp (by omega)] at hP hD
                  have hP : va_P D vwCl [(qx, .inr (2, [.ref qc, .ref qb, .ref qd])), (qc, .inl (cI, 40, .inl (t.1, t.2.1, d).1)), (qb, .inl (cI, 120, .inl (t.1, t.2.1, d).2.1)), (qd, .inl (cI, 40, .inl (upd (t.1, t.2.1, d).2.2 c (nI v))))] H := hP
                  have hD : va_D A [(qx, .inr (2, [.ref qc, .ref qb, .ref qd])), (qc, .inl (cI, 40, .inl (t.1, t.2.1, d).1)), (qb, .inl (cI, 120, .inl (t.1, t.2.1, d).2.1)), (qd, .inl (cI, 40, .inl (upd (t.1, t.2.1, d).2.2 c (nI v))))] := hD
                  refine lv_iinc (v := nI (c + 1)) (lv' := [(2, .int (nI (c + 1))), (5, .int (oI (dc (n_at t.2.1) a (szb (n_at t.2.1 a))))), (4, .int (nI (szb (n_at t.2.1 a)))), (3, .int (nI a)), (0, .ref qx), (1, .int (nI z))]) hx hb d_Te_decode_74 hl (k := 3) rfl (nI_1 _) (by decide) rfl (fun ls hl => ?_)
                  refine lv_iload_n hx hb d_Te_decode_77 rfl (lv_at hl 3 rfl) ?_
                  refine lv_iload hx hb d_Te_decode_78 (lv_at hl 2 rfl) ?_
                  refine lv_iadd hx hb d_Te_decode_80 ?_
                  refine x_topi (y := nI (a + (szb (n_at t.2.1 a)))) (nI_add _ _) ?_
                  refine lv_istore_n (lv' := [(3, .int (nI (a + (szb (n_at t.2.1 a))))), (2, .int (nI (c + 1))), (5, .int (oI (dc (n_at t.2.1) a (szb (n_at t.2.1 a))))), (4, .int (nI (szb (n_at t.2.1 a)))), (0, .ref qx), (1, .int (nI z))]) hx hb d_Te_decode_81 rfl hl (by decide) rfl (fun ls hl => ?_)
                  refine lv_goto (tgt := 12) hx hb d_Te_decode_82 (by decide) ?_
                  exact ih (f - 1) (c + 1) (a + szb (n_at t.2.1 a)) (upd d c (nI v)) (by omega) (by omega) (by omega) (f_ok_upd hd (hdb v hv) (by decide)) (by rw [← he]; exact (td_some (by omega) c_14 (by omega) hv).symm) (by omega) H locs (hP.sub [0, 1, 2, 3] rfl) (hD.sub [0, 1, 2, 3] (by decide) rfl) hS ls (lv_sub hl [0, 1, 4, 5] rfl)
                · replace c_61 := (oI_none hdb).mp c_61
                  refine lv_iconst (v := -1) hx hb d_Te_decode_64 (by decide) ?_
                  exact W.iret (v := -1) hx hb hr (fun t9 ht9 hW9 => ⟨⟨-1, ((t.1, t.2.1, d) : TS), rfl, by rw [e_t, ← he, td_none (by omega) c_14 (by omega) c_61]; exact ⟨rfl, rfl⟩, by rw [ht9]; exact hP.sub [0, 1, 2, 3] rfl, va_K.moved hW9.alike hK, hD.sub [0, 1, 2, 3] (by decide) rfl⟩, hS.F ht9⟩) hS.2.2 d_Te_decode_65
              · replace c_44 := mt (cg_lt c 40 rfl rfl (by omega) (by omega)).mpr c_44
                refine lv_iconst (v := -1) hx hb d_Te_decode_47 (by decide) ?_
                exact W.iret (v := -1) hx hb hr (fun t9 ht9 hW9 => ⟨⟨-1, ((t.1, t.2.1, d) : TS), rfl, by rw [e_t, ← he, td_bad (by omega) c_14 (by omega)]; exact ⟨rfl, rfl⟩, by rw [ht9]; exact hP.sub [0, 1, 2, 3] rfl, va_K.moved hW9.alike hK, hD.sub [0, 1, 2, 3] (by decide) rfl⟩, hS.F ht9⟩) hS.2.2 d_Te_decode_48
    exact hlp_12 _ (z + 1) 0 0 t.2.2 (by omega) (by omega) (by omega) ht.2.2 rfl (Nat.lt_succ_self _) s.heap [] (hP.sub [0, 1, 2, 3] rfl) (hD.sub [0, 1, 2, 3] (by decide) rfl) hS ls (lv_sub hl [0, 1, 2, 3] rfl)
  · replace c_3 := mt (cg_le z 120 rfl rfl (by omega) (by omega)).mpr c_3
    refine lv_iconst (v := -1) hx hb d_Te_decode_6 (by decide) ?_
    exact W.iret (v := -1) hx hb hr (fun t9 ht9 hW9 => ⟨⟨-1, (t : TS), rfl, by rw [t_dec, if_pos (by omega)]; exact ⟨rfl, rfl⟩, by rw [ht9]; exact hP.sub [0, 1, 2, 3] rfl, va_K.moved hW9.alike hK, hD.sub [0, 1, 2, 3] (by decide) rfl⟩, hS.F ht9⟩) hS.2.2 d_Te_decode_7
set_option maxHeartbeats 4000000 in
set_option maxRecDepth 100000 in
theorem k_Te_keepDecoded (l : Launch) (D : va_G) (g : GP) (qx qc qb qd : Nat) (cI : ClassId) (t : TS) (z : Nat) (hz : z ≤ 40) (sz : Nat) : Met l y_Te_keepDecoded (.code y_Te_keepDecoded c_Te_keepDecoded 2 none :: xW) ({ frames := 1, cells := 0, slots := 0, locals := 60 }) (xPc (gZ g) D vwCl [.ref qx, .int (nI z)] [(qx, .inr (2, [.ref qc, .ref qb, .ref qd])), (qc, .inl (cI, 40, .inl t.1)), (qb, .inl (cI, 120, .inl t.2.1)), (qd, .inl (cI, 40, .inl t.2.2))] [(cI, .int)] sz) (va_Qv (fun (u : TS) => u = (va_cpy t.2.2 t.1 0 0 z, t.2.1, t.2.2)) (xB D vwCl [(cI, .int)] (fun u : TS => [(qx, .inr (2, [.ref qc, .ref qb, .ref qd])), (qc, .inl (cI, 40, .inl u.1)), (qb, .inl (cI, 120, .inl u.2.1)), (qd, .inl (cI, 40, .inl u.2.2))]) (va_A [(qx, .inr (2, [.ref qc, .ref qb, .ref qd])), (qc, .inl (cI, 40, .inl t.1)), (qb, .inl (cI, 120, .inl t.2.1)), (qd, .inl (cI, 40, .inl t.2.2))] sz)) (va_A [(qx, .inr (2, [.ref qc, .ref qb, .ref qd])), (qc, .inl (cI, 40, .inl t.1)), (qb, .inl (cI, 120, .inl t.2.1)), (qd, .inl (cI, 40, .inl t.2.2))] sz)) 0 0 (va_A [(qx, .inr (2, [.ref qc, .ref qb, .ref qd])), (qc, .inl (cI, 40, .inl t.1)), (qb, .inl (cI, 120, .inl t.2.1)), (qd, .inl (cI, 40, .inl t.2.2))] sz) := by
  refine x_open (Qc := fun A => va_Qv (fun (u : TS) => u = (va_cpy t.2.2 t.1 0 0 z, t.2.1, t.2.2)) (xB D vwCl [(cI, .int)] (fun u : TS => [(qx, .inr (2, [.ref qc, .ref qb, .ref qd])), (qc, .inl (cI, 40, .inl u.1)), (qb, .inl (cI, 120, .inl u.2.1)), (qd, .inl (cI, 40, .inl u.2.2))]) A) A) (cc := c_Te_keepDecoded) (maxL := 2) (ret := none) (own := R_Te) (by decide) rfl rfl (Nat.le_of_ble_eq_true rfl) ?_
  intro p e s m below meth cd A ls hsz hAe hx hb hr hml hown hts hlk hnm hA hP hK hD hS hZ hl
  clear hsz hAe
  have hW : ∀ w ∈ xW, w.before _ s = true := fun w h => hts w (List.mem_cons_of_mem _ h)
  have hl : lv_has ls 2 [(0, .ref qx), (1, .int (nI z))] := hl
  refine lv_aload_n hx hb d_Te_keepDecoded_0 rfl (lv_at hl 0 rfl) ?_
  refine va_get (D := D) (ci := 2) (v := .ref qd) (C := R_Te) (T := F_Te) (N := 3) hx hb hW in_Te hown hK hP 0 rfl rfl 2 (by decide) (hW _ mw_132) (fun _ h9 => h9) rfl d_Te_keepDecoded_1 ?_
  refine lv_iconst (v := 0) hx hb d_Te_keepDecoded_4 (by decide) ?_
  refine lv_aload_n hx hb d_Te_keepDecoded_5 rfl (lv_at hl 0 rfl) ?_
  refine va_get (D := D) (ci := 2) (v := .ref qc) (C := R_Te) (T := F_Te) (N := 3) hx hb hW in_Te hown hK hP 0 rfl rfl 0 (by decide) (hW _ mw_129) (fun _ h9 => h9) rfl d_Te_keepDecoded_6 ?_
  refine lv_iconst (v := 0) hx hb d_Te_keepDecoded_9 (by decide) ?_
  refine lv_iload_n hx hb d_Te_keepDecoded_10 rfl (lv_at hl 1 rfl) ?_
  refine va_copyi (D := D) hx hb (by rw [hml]; exact hl.1.symm) hown (hW _ mw_524) (hW _ mw_526) (hW _ mw_525) (hW _ mw_64) hK hP hD hS 3 1 0 0 rfl rfl rfl rfl rfl (by decide) (by decide) (nI_pos (by omega)) (by rw [nI_clamp (by omega)]; show 0 + _ ≤ _; omega) (by rw [nI_clamp (by omega)]; show 0 + _ ≤ _; omega) (fun _ _ => rfl) (Nat.le_of_ble_eq_true rfl) (by decide +kernel) d_Te_keepDecoded_11 (fun H locs hP hD hS => ?_)
  rw [nI_clamp (by omega)] at hP hD
  have hP : va_P D vwCl [(qx, .inr (2, [.ref qc, .ref qb, .ref qd])), (qc, .inl (cI, 40, .inl (va_cpy t.2.2 t.1 0 0 z))), (qb, .inl (cI, 120, .inl t.2.1)), (qd, .inl (cI, 40, .inl t.2.2))] H := hP
  have hD : va_D A [(qx, .inr (2, [.ref qc, .ref qb, .ref qd])), (qc, .inl (cI, 40, .inl (va_cpy t.2.2 t.1 0 0 z))), (qb, .inl (cI, 120, .inl t.2.1)), (qd, .inl (cI, 40, .inl t.2.2))] := hD
  exact W.vret hx hb hr (fun t9 ht9 hW9 => ⟨⟨((va_cpy t.2.2 t.1 0 0 z, t.2.1, t.2.2) : TS), rfl, rfl, by rw [ht9]; exact hP.sub [0, 1, 2, 3] rfl, va_K.moved hW9.alike hK, hD.sub [0, 1, 2, 3] (by decide) rfl⟩, hS.F ht9⟩) hS.2.2 d_Te_keepDecoded_14
