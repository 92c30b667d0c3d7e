set_option maxHeartbeats 4000000 in
set_option maxRecDepth 100000 in
theorem k_Mo_bitsOf (l : Launch) (D : va_G) (g : GP) (a0 : Nat) (a : UInt64) (i : Nat) (hi : i < 2) (hn : dN a) (sz : Nat) : Met l y_Mo_bitsOf (.code y_Mo_bitsOf c_Mo_bitsOf 14 (some .long) :: xW) ({ frames := 0, cells := 0, slots := 0, locals := 0 }) (xPc (gZ g) D vwCl [.ref a0, .double a, .int (nI (lw i)), .int (1 - nI (lb i)), .long (lN (2 * lb i + 1))] [] [] sz) (va_Ql (fun (r : Int64) (u : Unit) => r = rbo i a) (xB D vwCl [] (fun u : Unit => []) (va_A [] sz)) (va_A [] sz)) 0 0 (va_A [] sz) := by
  refine x_open (Qc := fun A => va_Ql (fun (r : Int64) (u : Unit) => r = rbo i a) (xB D vwCl [] (fun u : Unit => []) A) A) (cc := c_Mo_bitsOf) (maxL := 14) (ret := (some .long)) (own := R_Mo) (by decide) rfl rfl (Nat.le_of_ble_eq_true rfl) ?_
  intro p e s m below meth cd A ls hsz hAe hx hb hr hml hown hts hlk hnm hA hP hK hD hS hZ hl
  clear hsz hAe
  have hW : ∀ w ∈ xW, w.before _ s = true := fun w h => hts w (List.mem_cons_of_mem _ h)
  have hl : lv_has ls 14 [(0, .ref a0), (1, .double a), (3, .int (nI (lw i))), (4, .int (1 - nI (lb i))), (5, .long (lN (2 * lb i + 1)))] := hl
  have hlb := lb_in (i := i)
  have hlw := lw_in (i := i)
  have hlz := lz_in (i := i)
  refine lv_dload_n hx hb d_Mo_bitsOf_0 rfl (lv_at hl 1 rfl) ?_
  refine lv_dconst0 hx hb d_Mo_bitsOf_1 ?_
  refine lv_dcmp hx hb d_Mo_bitsOf_2 ?_
  refine lv_if_ne (tgt := 8) hx hb d_Mo_bitsOf_3 (by decide) (fun c_3 => ?_) (fun c_3 => ?_)
  · refine lv_dload_n hx hb d_Mo_bitsOf_8 rfl (lv_at hl 1 rfl) ?_
    refine lv_dconst0 hx hb d_Mo_bitsOf_9 ?_
    refine lv_dcmp hx hb d_Mo_bitsOf_10 ?_
    refine lv_if_ge (tgt := 19) hx hb d_Mo_bitsOf_11 (by decide) (fun c_11 => ?_) (fun c_11 => ?_)
    · refine lv_dload_n hx hb d_Mo_bitsOf_19 rfl (lv_at hl 1 rfl) ?_
      refine lv_dstore (lv' := [(7, .double a), (0, .ref a0), (1, .double a), (3, .int (nI (lw i))), (4, .int (1 - nI (lb i))), (5, .long (lN (2 * lb i + 1)))]) hx hb d_Mo_bitsOf_20 hl (by decide) rfl (fun ls hl => ?_)
      refine lv_lload hx hb d_Mo_bitsOf_22 (lv_at hl 5 rfl) ?_
      refine lv_lstore (lv' := [(9, .long (lN (2 * lb i + 1))), (7, .double a), (0, .ref a0), (1, .double a), (3, .int (nI (lw i))), (4, .int (1 - nI (lb i))), (5, .long (lN (2 * lb i + 1)))]) hx hb d_Mo_bitsOf_24 hl (by decide) rfl (fun ls hl => ?_)
      refine lv_lconst (v := 0) hx hb d_Mo_bitsOf_26 (by decide) ?_
      refine lv_lstore (lv' := [(11, .long 0), (9, .long (lN (2 * lb i + 1))), (7, .double a), (0, .ref a0), (1, .double a), (3, .int (nI (lw i))), (4, .int (1 - nI (lb i))), (5, .long (lN (2 * lb i + 1)))]) hx hb d_Mo_bitsOf_27 hl (by decide) rfl (fun ls hl => ?_)
      refine lv_dload hx hb d_Mo_bitsOf_29 (lv_at hl 2 rfl) ?_
      refine lv_ldc2d (v := DM) hx hb hown (hW _ mw_673) d_Mo_bitsOf_31 ?_
      refine lv_dcmp hx hb d_Mo_bitsOf_34 ?_
      refine lv_if_gt (tgt := 145) hx hb d_Mo_bitsOf_35 (by decide) (fun c_35 => ?_) (fun c_35 => ?_)
      · refine lv_dload_n hx hb d_Mo_bitsOf_145 rfl (lv_at hl 4 rfl) ?_
        refine lv_dconst0 hx hb d_Mo_bitsOf_146 ?_
        refine lv_dcmp hx hb d_Mo_bitsOf_147 ?_
        refine lv_if_ge (tgt := 160) hx hb d_Mo_bitsOf_148 (by decide) (fun c_148 => ?_) (fun c_148 => ?_)
        · refine lv_lconst (v := 0) hx hb d_Mo_bitsOf_160 (by decide) ?_
          refine lv_lload hx hb d_Mo_bitsOf_161 (lv_at hl 1 rfl) ?_
          refine lv_iload_n hx hb d_Mo_bitsOf_163 rfl (lv_at hl 5 rfl) ?_
          refine lv_lshl (v := (lN (2 * lb i + 1)) <<< ((nI (lw i)).toInt64 &&& 63)) hx hb d_Mo_bitsOf_164 rfl ?_
          refine lv_lor hx hb d_Mo_bitsOf_165 ?_
          refine lv_lload hx hb d_Mo_bitsOf_166 (lv_at hl 0 rfl) ?_
          refine lv_lor hx hb d_Mo_bitsOf_168 ?_
          have e_e : rbe i a = (lN (2 * lb i + 1)) := by rw [rbe, if_pos c_35]
          have e_p : rbp i a = 0 := by rw [rbp, if_pos c_35]
          exact W.lret (v := (0 ||| ((lN (2 * lb i + 1)) <<< ((nI (lw i)).toInt64 &&& 63))) ||| 0) hx hb hr (fun t9 ht9 hW9 => ⟨⟨(0 ||| ((lN (2 * lb i + 1)) <<< ((nI (lw i)).toInt64 &&& 63))) ||| 0, (() : Unit), rfl, by rw [rbo, if_neg c_3, if_pos c_11, e_e, e_p], by rw [ht9]; exact hP.sub [] rfl, va_K.moved hW9.alike hK, hD.sub [] (by decide) rfl⟩, hS.F ht9⟩) hS.2.2 d_Mo_bitsOf_169
        · exact absurd c_11 c_148
      · refine lv_iconst (v := 0) hx hb d_Mo_bitsOf_38 (by decide) ?_
        refine lv_istore (lv' := [(13, .int 0), (11, .long 0), (9, .long (lN (2 * lb i + 1))), (7, .double a), (0, .ref a0), (1, .double a), (3, .int (nI (lw i))), (4, .int (1 - nI (lb i))), (5, .long (lN (2 * lb i + 1)))]) hx hb d_Mo_bitsOf_39 hl (by decide) rfl (fun ls hl => ?_)
        have hlp_41 : ∀ (n : Nat) (xx : Nat) (a9 : UInt64), (xx ≤ 2000) → (dN a9) → ((hv (2000 - xx) a9).1 = (hv 2000 a).1) → (xx + (hv (2000 - xx) a9).2 = (hv 2000 a).2) → 2000 - xx < n → ∀ (H : Heap) (locs : List Loc), va_P D vwCl [] H → va_D A [] → va_S A s.heap H locs → ∀ (ls : Array Slot), lv_has ls 14 [(13, .int (nI xx)), (11, .long 0), (9, .long (lN (2 * lb i + 1))), (7, .double a9), (0, .ref a0), (1, .double a), (3, .int (nI (lw i))), (4, .int (1 - nI (lb i))), (5, .long (lN (2 * lb i + 1)))] → W p l e ({ frames := 0, cells := 0, slots := 0, locals := 0 }) s m [.ref a0, .double a, .int (nI (lw i)), .int (1 - nI (lb i)), .long (lN (2 * lb i + 1))].toArray below meth cd H locs 0 0 (MQ below ((fun A => va_Ql (fun (r : Int64) (u : Unit) => r = rbo i a) (xB D vwCl [] (fun u : Unit => []) A) A) A) [.ref a0, .double a, .int (nI (lw i)), .int (1 - nI (lb i)), .long (lN (2 * lb i + 1))].toArray s 0 0 A) (F0 m 41 ls []) := by
          intro n
          induction n with
          | zero => intro xx a9 hxx hNa he1 he2 hms; exact absurd hms (Nat.not_lt_zero _)
          | succ n ih =>
            intro xx a9 hxx hNa he1 he2 hms H locs hP hD hS ls hl
            refine lv_dload hx hb d_Mo_bitsOf_41 (lv_at hl 3 rfl) ?_
            refine lv_ldc2d (v := D2) hx hb hown (hW _ mw_674) d_Mo_bitsOf_43 ?_
            refine lv_dcmp hx hb d_Mo_bitsOf_46 ?_
            refine lv_if_lt (tgt := 72) hx hb d_Mo_bitsOf_47 (by decide) (fun c_47 => ?_) (fun c_47 => ?_)
            · have e_h : hv 2000 a = (a9, xx) := Prod.ext (by rw [← he1, hv_e c_47]) (by rw [← he2, hv_e c_47]; rfl)
              have hlp_72 : ∀ (n : Nat) (yy : Nat) (b9 : UInt64), (yy ≤ xx + lb i - 1) → (dN b9) → ((dv (xx + lb i - 1 - yy) b9).1 = (dv (xx + lb i - 1) a9).1) → (yy + (dv (xx + lb i - 1 - yy) b9).2 = (dv (xx + lb i - 1) a9).2) → xx + lb i - 1 - yy < n → ∀ (H : Heap) (locs : List Loc), va_P D vwCl [] H → va_D A [] → va_S A s.heap H locs → ∀ (ls : Array Slot), lv_has ls 14 [(13, .int (xd xx yy)), (11, .long 0), (9, .long (lN (2 * lb i + 1))), (7, .double b9), (0, .ref a0), (1, .double a), (3, .int (nI (lw i))), (4, .int (1 - nI (lb i))), (5, .long (lN (2 * lb i + 1)))] → W p l e ({ frames := 0, cells := 0, slots := 0, locals := 0 }) s m [.ref a0, .double a, .int (nI (lw i)), .int (1 - nI (lb i)), .long (lN (2 * lb i + 1))].toArray below meth cd H locs 0 0 (MQ below ((fun A => va_Ql (fun (r : Int64) (u : Unit) => r = rbo i a) (xB D vwCl [] (fun u : Unit => []) A) A) A) [.ref a0, .double a, .int (nI (lw i)), .int (1 - nI (lb i)), .long (lN (2 * lb i + 1))].toArray s 0 0 A) (F0 m 72 ls []) := by
                intro n
                induction n with
                | zero => intro yy b9 hyy hNb hf1 hf2 hms; exact absurd hms (Nat.not_lt_zero _)
                | succ n ih =>
                  intro yy b9 hyy hNb hf1 hf2 hms H locs hP hD hS ls hl
                  refine lv_dload hx hb d_Mo_bitsOf_72 (lv_at hl 3 rfl) ?_
                  refine lv_dconst1 hx hb d_Mo_bitsOf_74 ?_
                  refine lv_dcmp hx hb d_Mo_bitsOf_75 ?_
                  refine lv_if_ge (tgt := 100) hx hb d_Mo_bitsOf_76 (by decide) (fun c_76 => ?_) (fun c_76 => ?_)
                  · have e_d : (dv (xx + lb i - 1) a9) = (b9, yy) := Prod.ext (by rw [← hf1, dv_e c_76]) (by rw [← hf2, dv_e c_76]; rfl)
                    refine lv_dload hx hb d_Mo_bitsOf_100 (lv_at hl 3 rfl) ?_
                    refine lv_dconst1 hx hb d_Mo_bitsOf_102 ?_
                    refine lv_dcmp hx hb d_Mo_bitsOf_103 ?_
                    refine lv_if_ge (tgt := 111) hx hb d_Mo_bitsOf_104 (by decide) (fun c_104 => ?_) (fun c_104 => ?_)
                    · refine lv_iload hx hb d_Mo_bitsOf_111 (lv_at hl 0 rfl) ?_
                      refine lv_iload hx hb d_Mo_bitsOf_113 (lv_at hl 7 rfl) ?_
                      refine lv_isub hx hb d_Mo_bitsOf_115 ?_
                      refine lv_i2l (v := ((xd xx yy) - (1 - nI (lb i))).toInt64) hx hb d_Mo_bitsOf_116 rfl ?_
                      refine lv_lconst (v := 1) hx hb d_Mo_bitsOf_117 (by decide) ?_
                      refine lv_ladd hx hb d_Mo_bitsOf_118 ?_
                      refine lv_lstore (lv' := [(9, .long ((((xd xx yy) - (1 - nI (lb i))).toInt64) + 1)), (13, .int (xd xx yy)), (11, .long 0), (7, .double b9), (0, .ref a0), (1, .double a), (3, .int (nI (lw i))), (4, .int (1 - nI (lb i))), (5, .long (lN (2 * lb i + 1)))]) hx hb d_Mo_bitsOf_119 hl (by decide) rfl (fun ls hl => ?_)
                      refine lv_dload hx hb d_Mo_bitsOf_121 (lv_at hl 3 rfl) ?_
                      refine lv_dconst1 hx hb d_Mo_bitsOf_123 ?_
                      refine lv_dcmp hx hb d_Mo_bitsOf_124 ?_
                      refine lv_if_ge (tgt := 133) hx hb d_Mo_bitsOf_125 (by decide) (fun c_125 => ?_) (fun c_125 => ?_)
                      · refine lv_dload hx hb d_Mo_bitsOf_133 (lv_at hl 3 rfl) ?_
                        refine lv_dconst1 hx hb d_Mo_bitsOf_135 ?_
                        refine lv_dsub hx hb d_Mo_bitsOf_136 (dN_n (dN_sub1 hNb)) ?_
                        refine lv_lconst (v := 1) hx hb d_Mo_bitsOf_137 (by decide) ?_
                        refine lv_iload_n hx hb d_Mo_bitsOf_138 rfl (lv_at hl 6 rfl) ?_
                        refine lv_lshl (v := (1 : Int64) <<< ((nI (lw i)).toInt64 &&& 63)) hx hb d_Mo_bitsOf_139 rfl ?_
                        refine lv_l2d hx hb d_Mo_bitsOf_140 ?_
                        refine lv_dmul hx hb d_Mo_bitsOf_141 (dN_n (dN_mulw (dN_sub1 hNb) onz_v)) ?_
                        refine lv_d2l hx hb d_Mo_bitsOf_142 ?_
                        refine lv_lstore (lv' := [(11, .long (FP.d2l (FP.dmul (FP.dsub b9 FP.dconst1) (FP.l2d ((1 : Int64) <<< ((nI (lw i)).toInt64 &&& 63)))))), (9, .long ((((xd xx yy) - (1 - nI (lb i))).toInt64) + 1)), (13, .int (xd xx yy)), (7, .double b9), (0, .ref a0), (1, .double a), (3, .int (nI (lw i))), (4, .int (1 - nI (lb i))), (5, .long (lN (2 * lb i + 1)))]) hx hb d_Mo_bitsOf_143 hl (by decide) rfl (fun ls hl => ?_)
                        refine lv_dload_n hx hb d_Mo_bitsOf_145 rfl (lv_at hl 5 rfl) ?_
                        refine lv_dconst0 hx hb d_Mo_bitsOf_146 ?_
                        refine lv_dcmp hx hb d_Mo_bitsOf_147 ?_
                        refine lv_if_ge (tgt := 160) hx hb d_Mo_bitsOf_148 (by decide) (fun c_148 => ?_) (fun c_148 => ?_)
                        · refine lv_lconst (v := 0) hx hb d_Mo_bitsOf_160 (by decide) ?_
                          refine lv_lload hx hb d_Mo_bitsOf_161 (lv_at hl 1 rfl) ?_
                          refine lv_iload_n hx hb d_Mo_bitsOf_163 rfl (lv_at hl 6 rfl) ?_
                          refine lv_lshl (v := ((((xd xx yy) - (1 - nI (lb i))).toInt64) + 1) <<< ((nI (lw i)).toInt64 &&& 63)) hx hb d_Mo_bitsOf_164 rfl ?_
                          refine lv_lor hx hb d_Mo_bitsOf_165 ?_
                          refine lv_lload hx hb d_Mo_bitsOf_166 (lv_at hl 0 rfl) ?_
                          refine lv_lor hx hb d_Mo_bitsOf_168 ?_
                          have e_v : rbv i a = (b9, yy) := by rw [rbv, e_h]; exact e_d
                          have e_e : rbe i a = (((xd xx yy) - (1 - nI (lb i))).toInt64) + 1 := by rw [rbe, if_neg c_35, e_v, if_pos c_104, e_h]
                          have e_p : rbp i a = FP.d2l (FP.dmul (FP.dsub b9 FP.dconst1) (FP.l2d ((1 : Int64) <<< ((nI (lw i)).toInt64 &&& 63)))) := by rw [rbp, if_neg c_35, e_v, if_pos c_104]
                          exact W.lret (v := (0 ||| (((((xd xx yy) - (1 - nI (lb i))).toInt64) + 1) <<< ((nI (lw i)).toInt64 &&& 63))) ||| (FP.d2l (FP.dmul (FP.dsub b9 FP.dconst1) (FP.l2d ((1 : Int64) <<< ((nI (lw i)).toInt64 &&& 63)))))) hx hb hr (fun t9 ht9 hW9 => ⟨⟨(0 ||| (((((xd xx yy) - (1 - nI (lb i))).toInt64) + 1) <<< ((nI (lw i)).toInt64 &&& 63))) ||| (FP.d2l (FP.dmul (FP.dsub b9 FP.dconst1) (FP.l2d ((1 : Int64) <<< ((nI (lw i)).toInt64 &&& 63))))), (() : Unit), rfl, by rw [rbo, if_neg c_3, if_pos c_11, e_e, e_p], by rw [ht9]; exact hP.sub [] rfl, va_K.moved hW9.alike hK, hD.sub [] (by decide) rfl⟩, hS.F ht9⟩) hS.2.2 d_Mo_bitsOf_169
                        · exact absurd c_11 c_148
                      · exact absurd c_104 c_125
                    · refine lv_lconst (v := 0) hx hb d_Mo_bitsOf_107 (by decide) ?_
                      refine lv_goto (tgt := 119) hx hb d_Mo_bitsOf_108 (by decide) ?_
                      refine lv_lstore (lv' := [(9, .long 0), (13, .int (xd xx yy)), (11, .long 0), (7, .double b9), (0, .ref a0), (1, .double a), (3, .int (nI (lw i))), (4, .int (1 - nI (lb i))), (5, .long (lN (2 * lb i + 1)))]) hx hb d_Mo_bitsOf_119 hl (by decide) rfl (fun ls hl => ?_)
                      refine lv_dload hx hb d_Mo_bitsOf_121 (lv_at hl 3 rfl) ?_
                      refine lv_dconst1 hx hb d_Mo_bitsOf_123 ?_
                      refine lv_dcmp hx hb d_Mo_bitsOf_124 ?_
                      refine lv_if_ge (tgt := 133) hx hb d_Mo_bitsOf_125 (by decide) (fun c_125 => ?_) (fun c_125 => ?_)
                      · exact absurd c_125 c_104
                      · refine lv_dload hx hb d_Mo_bitsOf_128 (lv_at hl 3 rfl) ?_
                        refine lv_goto (tgt := 137) hx hb d_Mo_bitsOf_130 (by decide) ?_
                        refine lv_lconst (v := 1) hx hb d_Mo_bitsOf_137 (by decide) ?_
                        refine lv_iload_n hx hb d_Mo_bitsOf_138 rfl (lv_at hl 6 rfl) ?_
                        refine lv_lshl (v := (1 : Int64) <<< ((nI (lw i)).toInt64 &&& 63)) hx hb d_Mo_bitsOf_139 rfl ?_
                        refine lv_l2d hx hb d_Mo_bitsOf_140 ?_
                        refine lv_dmul hx hb d_Mo_bitsOf_141 (dN_n (dN_mulw hNb onz_v)) ?_
                        refine lv_d2l hx hb d_Mo_bitsOf_142 ?_
                        refine lv_lstore (lv' := [(11, .long (FP.d2l (FP.dmul b9 (FP.l2d ((1 : Int64) <<< ((nI (lw i)).toInt64 &&& 63)))))), (9, .long 0), (13, .int (xd xx yy)), (7, .double b9), (0, .ref a0), (1, .double a), (3, .int (nI (lw i))), (4, .int (1 - nI (lb i))), (5, .long (lN (2 * lb i + 1)))]) hx hb d_Mo_bitsOf_143 hl (by decide) rfl (fun ls hl => ?_)
                        refine lv_dload_n hx hb d_Mo_bitsOf_145 rfl (lv_at hl 5 rfl) ?_
                        refine lv_dconst0 hx hb d_Mo_bitsOf_146 ?_
                        refine lv_dcmp hx hb d_Mo_bitsOf_147 ?_
                        refine lv_if_ge (tgt := 160) hx hb d_Mo_bitsOf_148 (by decide) (fun c_148 => ?_) (fun c_148 => ?_)
                        · refine lv_lconst (v := 0) hx hb d_Mo_bitsOf_160 (by decide) ?_
                          refine lv_lload hx hb d_Mo_bitsOf_161 (lv_at hl 1 rfl) ?_
                          refine lv_iload_n hx hb d_Mo_bitsOf_163 rfl (lv_at hl 6 rfl) ?_
                          refine lv_lshl (v := (0 : Int64) <<< ((nI (lw i)).toInt64 &&& 63)) hx hb d_Mo_bitsOf_164 rfl ?_
                          refine lv_lor hx hb d_Mo_bitsOf_165 ?_
                          refine lv_lload hx hb d_Mo_bitsOf_166 (lv_at hl 0 rfl) ?_
                          refine lv_lor hx hb d_Mo_bitsOf_168 ?_
                          have e_v : rbv i a = (b9, yy) := by rw [rbv, e_h]; exact e_d
                          have e_e : rbe i a = 0 := by rw [rbe, if_neg c_35, e_v, if_neg c_104]
                          have e_p : rbp i a = FP.d2l (FP.dmul b9 (FP.l2d ((1 : Int64) <<< ((nI (lw i)).toInt64 &&& 63)))) := by rw [rbp, if_neg c_35, e_v, if_neg c_104]
                          exact W.lret (v := (0 ||| ((0 : Int64) <<< ((nI (lw i)).toInt64 &&& 63))) ||| (FP.d2l (FP.dmul b9 (FP.l2d ((1 : Int64) <<< ((nI (lw i)).toInt64 &&& 63)))))) hx hb hr (fun t9 ht9 hW9 => ⟨⟨(0 ||| ((0 : Int64) <<< ((nI (lw i)).toInt64 &&& 63))) ||| (FP.d2l (FP.dmul b9 (FP.l2d ((1 : Int64) <<< ((nI (lw i)).toInt64 &&& 63))))), (() : Unit), rfl, by rw [rbo, if_neg c_3, if_pos c_11, e_e, e_p], by rw [ht9]; exact hP.sub [] rfl, va_K.moved hW9.alike hK, hD.sub [] (by decide) rfl⟩, hS.F ht9⟩) hS.2.2 d_Mo_bitsOf_169
                        · exact absurd c_11 c_148
                  · refine lv_iload hx hb d_Mo_bitsOf_79 (lv_at hl 0 rfl) ?_
                    refine lv_iload hx hb d_Mo_bitsOf_81 (lv_at hl 7 rfl) ?_
                    refine lv_icmp_le (tgt := 100) hx hb d_Mo_bitsOf_83 (by decide) (fun c_83 => ?_) (fun c_83 => ?_)
                    · replace c_83 := (xd_le hxx hyy).mp c_83
                      have e_d : (dv (xx + lb i - 1) a9) = (b9, yy) := Prod.ext (by rw [← hf1, show xx + lb i - 1 - yy = 0 by omega]; rfl) (by rw [← hf2, show xx + lb i - 1 - yy = 0 by omega]; rfl)
                      refine lv_dload hx hb d_Mo_bitsOf_100 (lv_at hl 3 rfl) ?_
                      refine lv_dconst1 hx hb d_Mo_bitsOf_102 ?_
                      refine lv_dcmp hx hb d_Mo_bitsOf_103 ?_
                      refine lv_if_ge (tgt := 111) hx hb d_Mo_bitsOf_104 (by decide) (fun c_104 => ?_) (fun c_104 => ?_)
                      · refine lv_iload hx hb d_Mo_bitsOf_111 (lv_at hl 0 rfl) ?_
                        refine lv_iload hx hb d_Mo_bitsOf_113 (lv_at hl 7 rfl) ?_
                        refine lv_isub hx hb d_Mo_bitsOf_115 ?_
                        refine lv_i2l (v := ((xd xx yy) - (1 - nI (lb i))).toInt64) hx hb d_Mo_bitsOf_116 rfl ?_
                        refine lv_lconst (v := 1) hx hb d_Mo_bitsOf_117 (by decide) ?_
                        refine lv_ladd hx hb d_Mo_bitsOf_118 ?_
                        refine lv_lstore (lv' := [(9, .long ((((xd xx yy) - (1 - nI (lb i))).toInt64) + 1)), (13, .int (xd xx yy)), (11, .long 0), (7, .double b9), (0, .ref a0), (1, .double a), (3, .int (nI (lw i))), (4, .int (1 - nI (lb i))), (5, .long (lN (2 * lb i + 1)))]) hx hb d_Mo_bitsOf_119 hl (by decide) rfl (fun ls hl => ?_)
                        refine lv_dload hx hb d_Mo_bitsOf_121 (lv_at hl 3 rfl) ?_
                        refine lv_dconst1 hx hb d_Mo_bitsOf_123 ?_
                        refine lv_dcmp hx hb d_Mo_bitsOf_124 ?_
                        refine lv_if_ge (tgt := 133) hx hb d_Mo_bitsOf_125 (by decide) (fun c_125 => ?_) (fun c_125 => ?_)
                        · refine lv_dload hx hb d_Mo_bitsOf_133 (lv_at hl 3 rfl) ?_
                          refine lv_dconst1 hx hb d_Mo_bitsOf_135 ?_
                          refine lv_dsub hx hb d_Mo_bitsOf_136 (dN_n (dN_sub1 hNb)) ?_
                          refine lv_lconst (v := 1) hx hb d_Mo_bitsOf_137 (by decide) ?_
                          refine lv_iload_n hx hb d_Mo_bitsOf_138 rfl (lv_at hl 6 rfl) ?_
                          refine lv_lshl (v := (1 : Int64) <<< ((nI (lw i)).toInt64 &&& 63)) hx hb d_Mo_bitsOf_139 rfl ?_
                          refine lv_l2d hx hb d_Mo_bitsOf_140 ?_
                          refine lv_dmul hx hb d_Mo_bitsOf_141 (dN_n (dN_mulw (dN_sub1 hNb) onz_v)) ?_
                          refine lv_d2l hx hb d_Mo_bitsOf_142 ?_
                          refine lv_lstore (lv' := [(11, .long (FP.d2l (FP.dmul (FP.dsub b9 FP.dconst1) (FP.l2d ((1 : Int64) <<< ((nI (lw i)).toInt64 &&& 63)))))), (9, .long ((((xd xx yy) - (1 - nI (lb i))).toInt64) + 1)), (13, .int (xd xx yy)), (7, .double b9), (0, .ref a0), (1, .double a), (3, .int (nI (lw i))), (4, .int (1 - nI (lb i))), (5, .long (lN (2 * lb i + 1)))]) hx hb d_Mo_bitsOf_143 hl (by decide) rfl (fun ls hl => ?_)
                          refine lv_dload_n hx hb d_Mo_bitsOf_145 rfl (lv_at hl 5 rfl) ?_
                          refine lv_dconst0 hx hb d_Mo_bitsOf_146 ?_
                          refine lv_dcmp hx hb d_Mo_bitsOf_147 ?_
                          refine lv_if_ge (tgt := 160) hx hb d_Mo_bitsOf_148 (by decide) (fun c_148 => ?_) (fun c_148 => ?_)
                          · refine lv_lconst (v := 0) hx hb d_Mo_bitsOf_160 (by decide) ?_
                            refine lv_lload hx hb d_Mo_bitsOf_161 (lv_at hl 1 rfl) ?_
                            refine lv_iload_n hx hb d_Mo_bitsOf_163 rfl (lv_at hl 6 rfl) ?_
                            refine lv_lshl (v := ((((xd xx yy) - (1 - nI (lb i))).toInt64) + 1) <<< ((nI (lw i)).toInt64 &&& 63)) hx hb d_Mo_bitsOf_164 rfl ?_
                            refine lv_lor hx hb d_Mo_bitsOf_165 ?_
                            refine lv_lload hx hb d_Mo_bitsOf_166 (lv_at hl 0 rfl) ?_
                            refine lv_lor hx hb d_Mo_bitsOf_168 ?_
                            have e_v : rbv i a = (b9, yy) := by rw [rbv, e_h]; exact e_d
                            have e_e : rbe i a = (((xd xx yy) - (1 - nI (lb i))).toInt64) + 1 := by rw [rbe, if_neg c_35, e_v, if_pos c_104, e_h]
                            have e_p : rbp i a = FP.d2l (FP.dmul (FP.dsub b9 FP.dconst1) (FP.l2d ((1 : Int64) <<< ((nI (lw i)).toInt64 &&& 63)))) := by rw [rbp, if_neg c_35, e_v, if_pos c_104]
                            exact W.lret (v := (0 ||| (((((xd xx yy) - (1 - nI (lb i))).toInt64) + 1) <<< ((nI (lw i)).toInt64 &&& 63))) ||| (FP.d2l (FP.dmul (FP.dsub b9 FP.dconst1) (FP.l2d ((1 : Int64) <<< ((nI (lw i)).toInt64 &&& 63)))))) hx hb hr (fun t9 ht9 hW9 => ⟨⟨(0 ||| (((((xd xx yy) - (1 - nI (lb i))).toInt64) + 1) <<< ((nI (lw i)).toInt64 &&& 63))) ||| (FP.d2l (FP.dmul (FP.dsub b9 FP.dconst1) (FP.l2d ((1 : Int64) <<< ((nI (lw i)).toInt64 &&& 63))))), (() : Unit), rfl, by rw [rbo, if_neg c_3, if_pos c_11, e_e, e_p], by rw [ht9]; exact hP.sub [] rfl, va_K.moved hW9.alike hK, hD.sub [] (by decide) rfl⟩, hS.F ht9⟩) hS.2.2 d_Mo_bitsOf_169
                          · exact absurd c_11 c_148
                        · exact absurd c_104 c_125
                      · refine lv_lconst (v := 0) hx hb d_Mo_bitsOf_107 (by decide) ?_
                        refine lv_goto (tgt := 119) hx hb d_Mo_bitsOf_108 (by decide) ?_
                        refine lv_lstore (lv' := [(9, .long 0), (13, .int (xd xx yy)), (11, .long 0), (7, .double b9), (0, .ref a0), (1, .double a), (3, .int (nI (lw i))), (4, .int (1 - nI (lb i))), (5, .long (lN (2 * lb i + 1)))]) hx hb d_Mo_bitsOf_119 hl (by decide) rfl (fun ls hl => ?_)
                        refine lv_dload hx hb d_Mo_bitsOf_121 (lv_at hl 3 rfl) ?_
                        refine lv_dconst1 hx hb d_Mo_bitsOf_123 ?_
                        refine lv_dcmp hx hb d_Mo_bitsOf_124 ?_
                        refine lv_if_ge (tgt := 133) hx hb d_Mo_bitsOf_125 (by decide) (fun c_125 => ?_) (fun c_125 => ?_)
                        · exact absurd c_125 c_104
                        · refine lv_dload hx hb d_Mo_bitsOf_128 (lv_at hl 3 rfl) ?_
                          refine lv_goto (tgt := 137) hx hb d_Mo_bitsOf_130 (by decide) ?_
                          refine lv_lconst (v := 1) hx hb d_Mo_bitsOf_137 (by decide) ?_
                          refine lv_iload_n hx hb d_Mo_bitsOf_138 rfl (lv_at hl 6 rfl) ?_
                          refine lv_lshl (v := (1 : Int64) <<< ((nI (lw i)).toInt64 &&& 63)) hx hb d_Mo_bitsOf_139 rfl ?_
                          refine lv_l2d hx hb d_Mo_bitsOf_140 ?_
                          refine lv_dmul hx hb d_Mo_bitsOf_141 (dN_n (dN_mulw hNb onz_v)) ?_
                          refine lv_d2l hx hb d_Mo_bitsOf_142 ?_
                          refine lv_lstore (lv' := [(11, .long (FP.d2l (FP.dmul b9 (FP.l2d ((1 : Int64) <<< ((nI (lw i)).toInt64 &&& 63)))))), (9, .long 0), (13, .int (xd xx yy)), (7, .double b9), (0, .ref a0), (1, .double a), (3, .int (nI (lw i))), (4, .int (1 - nI (lb i))), (5, .long (lN (2 * lb i + 1)))]) hx hb d_Mo_bitsOf_143 hl (by decide) rfl (fun ls hl => ?_)
                          refine lv_dload_n hx hb d_Mo_bitsOf_145 rfl (lv_at hl 5 rfl) ?_
                          refine lv_dconst0 hx hb d_Mo_bitsOf_146 ?_
                          refine lv_dcmp hx hb d_Mo_bitsOf_147 ?_
                          refine lv_if_ge (tgt := 160) hx hb d_Mo_bitsOf_148 (by decide) (fun c_148 => ?_) (fun c_148 => ?_)
                          · refine lv_lconst (v := 0) hx hb d_Mo_bitsOf_160 (by decide) ?_
                            refine lv_lload hx hb d_Mo_bitsOf_161 (lv_at hl 1 rfl) ?_
                            refine lv_iload_n hx hb d_Mo_bitsOf_163 rfl (lv_at hl 6 rfl) ?_
                            refine lv_lshl (v := (0 : Int64) <<< ((nI (lw i)).toInt64 &&& 63)) hx hb d_Mo_bitsOf_164 rfl ?_
                            refine lv_lor hx hb d_Mo_bitsOf_165 ?_
                            refine lv_lload hx hb d_Mo_bitsOf_166 (lv_at hl 0 rfl) ?_
                            refine lv_lor hx hb d_Mo_bitsOf_168 ?_
                            have e_v : rbv i a = (b9, yy) := by rw [rbv, e_h]; exact e_d
                            have e_e : rbe i a = 0 := by rw [rbe, if_neg c_35, e_v, if_neg c_104]
                            have e_p : rbp i a = FP.d2l (FP.dmul b9 (FP.l2d ((1 : Int64) <<< ((nI (lw i)).toInt64 &&& 63)))) := by rw [rbp, if_neg c_35, e_v, if_neg c_104]
                            exact W.lret (v := (0 ||| ((0 : Int64) <<< ((nI (lw i)).toInt64 &&& 63))) ||| (FP.d2l (FP.dmul b9 (FP.l2d ((1 : Int64) <<< ((nI (lw i)).toInt64 &&& 63)))))) hx hb hr (fun t9 ht9 hW9 => ⟨⟨(0 ||| ((0 : Int64) <<< ((nI (lw i)).toInt64 &&& 63))) ||| (FP.d2l (FP.dmul b9 (FP.l2d ((1 : Int64) <<< ((nI (lw i)).toInt64 &&& 63))))), (() : Unit), rfl, by rw [rbo, if_neg c_3, if_pos c_11, e_e, e_p], by rw [ht9]; exact hP.sub [] rfl, va_K.moved hW9.alike hK, hD.sub [] (by decide) rfl⟩, hS.F ht9⟩) hS.2.2 d_Mo_bitsOf_169
                          · exact absurd c_11 c_148
                    · replace c_83 := mt (xd_le hxx hyy).mpr c_83
                      refine lv_dload hx hb d_Mo_bitsOf_86 (lv_at hl 3 rfl) ?_
                      refine lv_ldc2d (v := D2) hx hb hown (hW _ mw_674) d_Mo_bitsOf_88 ?_
                      refine lv_dmul hx hb d_Mo_bitsOf_91 (dN_n (dN_2 hNb)) ?_
                      refine lv_dstore (lv' := [(7, .double (FP.dmul b9 D2)), (13, .int (xd xx yy)), (11, .long 0), (9, .long (lN (2 * lb i + 1))), (0, .ref a0), (1, .double a), (3, .int (nI (lw i))), (4, .int (1 - nI (lb i))), (5, .long (lN (2 * lb i + 1)))]) hx hb d_Mo_bitsOf_92 hl (by decide) rfl (fun ls hl => ?_)
                      refine lv_iinc (v := xd xx (yy + 1)) (lv' := [(13, .int (xd xx (yy + 1))), (7, .double (FP.dmul b9 D2)), (11, .long 0), (9, .long (lN (2 * lb i + 1))), (0, .ref a0), (1, .double a), (3, .int (nI (lw i))), (4, .int (1 - nI (lb i))), (5, .long (lN (2 * lb i + 1)))]) hx hb d_Mo_bitsOf_94 hl (k := 1) rfl (xd_s _ _) (by decide) rfl (fun ls hl => ?_)
                      refine lv_goto (tgt := 72) hx hb d_Mo_bitsOf_97 (by decide) ?_
                      exact ih (yy + 1) (FP.dmul b9 D2) (by omega) (dN_2 hNb) (by rw [← hf1, dv_s (n := xx + lb i - 1 - yy) (by omega) c_76]; rfl) (by rw [← hf2, dv_s (n := xx + lb i - 1 - yy) (by omega) c_76, Nat.add_assoc, Nat.add_comm 1]; rfl) (by omega) H locs (hP.sub [] rfl) (hD.sub [] (by decide) rfl) hS ls (lv_sub hl [0, 2, 3, 1, 4, 5, 6, 7, 8] rfl)
              exact hlp_72 _ 0 a9 (Nat.zero_le _) hNa rfl (Nat.zero_add _) (Nat.lt_succ_self _) H locs (hP.sub [] rfl) (hD.sub [] (by decide) rfl) hS ls (lv_sub hl [0, 1, 2, 3, 4, 5, 6, 7, 8] rfl)
            · refine lv_iload hx hb d_Mo_bitsOf_50 (lv_at hl 0 rfl) ?_
              refine lv_sipush (v := 2000) hx hb d_Mo_bitsOf_52 (by decide) ?_
              refine lv_icmp_ge (tgt := 72) hx hb d_Mo_bitsOf_55 (by decide) (fun c_55 => ?_) (fun c_55 => ?_)
              · replace c_55 := (cg_le 2000 xx rfl rfl (by omega) (by omega)).mp c_55
                have e_h : hv 2000 a = (a9, xx) := Prod.ext (by rw [← he1, show 2000 - xx = 0 by omega]; rfl) (by rw [← he2, show 2000 - xx = 0 by omega]; rfl)
                have hlp_72 : ∀ (n : Nat) (yy : Nat) (b9 : UInt64), (yy ≤ xx + lb i - 1) → (dN b9) → ((dv (xx + lb i - 1 - yy) b9).1 = (dv (xx + lb i - 1) a9).1) → (yy + (dv (xx + lb i - 1 - yy) b9).2 = (dv (xx + lb i - 1) a9).2) → xx + lb i - 1 - yy < n → ∀ (H : Heap) (locs : List Loc), va_P D vwCl [] H → va_D A [] → va_S A s.heap H locs → ∀ (ls : Array Slot), lv_has ls 14 [(13, .int (xd xx yy)), (11, .long 0), (9, .long (lN (2 * lb i + 1))), (7, .double b9), (0, .ref a0), (1, .double a), (3, .int (nI (lw i))), (4, .int (1 - nI (lb i))), (5, .long (lN (2 * lb i + 1)))] → W p l e ({ frames := 0, cells := 0, slots := 0, locals := 0 }) s m [.ref a0, .double a, .int (nI (lw i)), .int (1 - nI (lb i)), .long (lN (2 * lb i + 1))].toArray below meth cd H locs 0 0 (MQ below ((fun A => va_Ql (fun (r : Int64) (u : Unit) => r = rbo i a) (xB D vwCl [] (fun u : Unit => []) A) A) A) [.ref a0, .double a, .int (nI (lw i)), .int (1 - nI (lb i)), .long (lN (2 * lb i + 1))].toArray s 0 0 A) (F0 m 72 ls []) := by
                  intro n
                  induction n with
                  | zero => intro yy b9 hyy hNb hf1 hf2 hms; exact absurd hms (Nat.not_lt_zero _)
                  | succ n ih =>
                    intro yy b9 hyy hNb hf1 hf2 hms H locs hP hD hS ls hl
                    refine lv_dload hx hb d_Mo_bitsOf_72 (lv_at hl 3 rfl) ?_
                    refine lv_dconst1 hx hb d_Mo_bitsOf_74 ?_
                    refine lv_dcmp hx hb d_Mo_bitsOf_75 ?_
                    refine lv_if_ge (tgt := 100) hx hb d_Mo_bitsOf_76 (by decide) (fun c_76 => ?_) (fun c_76 => ?_)
                    · have e_d : (dv (xx + lb i - 1) a9) = (b9, yy) := Prod.ext (by rw [← hf1, dv_e c_76]) (by rw [← hf2, dv_e c_76]; rfl)
                      refine lv_dload hx hb d_Mo_bitsOf_100 (lv_at hl 3 rfl) ?_
                      refine lv_dconst1 hx hb d_Mo_bitsOf_102 ?_
                      refine lv_dcmp hx hb d_Mo_bitsOf_103 ?_
                      refine lv_if_ge (tgt := 111) hx hb d_Mo_bitsOf_104 (by decide) (fun c_104 => ?_) (fun c_104 => ?_)
                      · refine lv_iload hx hb d_Mo_bitsOf_111 (lv_at hl 0 rfl) ?_
                        refine lv_iload hx hb d_Mo_bitsOf_113 (lv_at hl 7 rfl) ?_
                        refine lv_isub hx hb d_Mo_bitsOf_115 ?_
                        refine lv_i2l (v := ((xd xx yy) - (1 - nI (lb i))).toInt64) hx hb d_Mo_bitsOf_116 rfl ?_
                        refine lv_lconst (v := 1) hx hb d_Mo_bitsOf_117 (by decide) ?_
                        refine lv_ladd hx hb d_Mo_bitsOf_118 ?_
                        refine lv_lstore (lv' := [(9, .long ((((xd xx yy) - (1 - nI (lb i))).toInt64) + 1)), (13, .int (xd xx yy)), (11, .long 0), (7, .double b9), (0, .ref a0), (1, .double a), (3, .int (nI (lw i))), (4, .int (1 - nI (lb i))), (5, .long (lN (2 * lb i + 1)))]) hx hb d_Mo_bitsOf_119 hl (by decide) rfl (fun ls hl => ?_)
                        refine lv_dload hx hb d_Mo_bitsOf_121 (lv_at hl 3 rfl) ?_
                        refine lv_dconst1 hx hb d_Mo_bitsOf_123 ?_
                        refine lv_dcmp hx hb d_Mo_bitsOf_124 ?_
                        refine lv_if_ge (tgt := 133) hx hb d_Mo_bitsOf_125 (by decide) (fun c_125 => ?_) (fun c_125 => ?_)
                        · refine lv_dload hx hb d_Mo_bitsOf_133 (lv_at hl 3 rfl) ?_
                          refine lv_dconst1 hx hb d_Mo_bitsOf_135 ?_
                          refine lv_dsub hx hb d_Mo_bitsOf_136 (dN_n (dN_sub1 hNb)) ?_
                          refine lv_lconst (v := 1) hx hb d_Mo_bitsOf_137 (by decide) ?_
                          refine lv_iload_n hx hb d_Mo_bitsOf_138 rfl (lv_at hl 6 rfl) ?_
                          refine lv_lshl (v := (1 : Int64) <<< ((nI (lw i)).toInt64 &&& 63)) hx hb d_Mo_bitsOf_139 rfl ?_
                          refine lv_l2d hx hb d_Mo_bitsOf_140 ?_
                          refine lv_dmul hx hb d_Mo_bitsOf_141 (dN_n (dN_mulw (dN_sub1 hNb) onz_v)) ?_
                          refine lv_d2l hx hb d_Mo_bitsOf_142 ?_
                          refine lv_lstore (lv' := [(11, .long (FP.d2l (FP.dmul (FP.dsub b9 FP.dconst1) (FP.l2d ((1 : Int64) <<< ((nI (lw i)).toInt64 &&& 63)))))), (9, .long ((((xd xx yy) - (1 - nI (lb i))).toInt64) + 1)), (13, .int (xd xx yy)), (7, .double b9), (0, .ref a0), (1, .double a), (3, .int (nI (lw i))), (4, .int (1 - nI (lb i))), (5, .long (lN (2 * lb i + 1)))]) hx hb d_Mo_bitsOf_143 hl (by decide) rfl (fun ls hl => ?_)
                          refine lv_dload_n hx hb d_Mo_bitsOf_145 rfl (lv_at hl 5 rfl) ?_
                          refine lv_dconst0 hx hb d_Mo_bitsOf_146 ?_
                          refine lv_dcmp hx hb d_Mo_bitsOf_147 ?_
                          refine lv_if_ge (tgt := 160) hx hb d_Mo_bitsOf_148 (by decide) (fun c_148 => ?_) (fun c_148 => ?_)
                          · refine lv_lconst (v := 0) hx hb d_Mo_bitsOf_160 (by decide) ?_
                            refine lv_lload hx hb d_Mo_bitsOf_161 (lv_at hl 1 rfl) ?_
                            refine lv_iload_n hx hb d_Mo_bitsOf_163 rfl (lv_at hl 6 rfl) ?_
                            refine lv_lshl (v := ((((xd xx yy) - (1 - nI (lb i))).toInt64) + 1) <<< ((nI (lw i)).toInt64 &&& 63)) hx hb d_Mo_bitsOf_164 rfl ?_
                            refine lv_lor hx hb d_Mo_bitsOf_165 ?_
                            refine lv_lload hx hb d_Mo_bitsOf_166 (lv_at hl 0 rfl) ?_
                            refine lv_lor hx hb d_Mo_bitsOf_168 ?_
                            have e_v : rbv i a = (b9, yy) := by rw [rbv, e_h]; exact e_d
                            have e_e : rbe i a = (((xd xx yy) - (1 - nI (lb i))).toInt64) + 1 := by rw [rbe, if_neg c_35, e_v, if_pos c_104, e_h]
                            have e_p : rbp i a = FP.d2l (FP.dmul (FP.dsub b9 FP.dconst1) (FP.l2d ((1 : Int64) <<< ((nI (lw i)).toInt64 &&& 63)))) := by rw [rbp, if_neg c_35, e_v, if_pos c_104]
                            exact W.lret (v := (0 ||| (((((xd xx yy) - (1 - nI (lb i))).toInt64) + 1) <<< ((nI (lw i)).toInt64 &&& 63))) ||| (FP.d2l (FP.dmul (FP.dsub b9 FP.dconst1) (FP.l2d ((1 : Int64) <<< ((nI (lw i)).toInt64 &&& 63)))))) hx hb hr (fun t9 ht9 hW9 => ⟨⟨(0 ||| (((((xd xx yy) - (1 - nI (lb i))).toInt64) + 1) <<< ((nI (lw i)).toInt64 &&& 63))) ||| (FP.d2l (FP.dmul (FP.dsub b9 FP.dconst1) (FP.l2d ((1 : Int64) <<< ((nI (lw i)).toInt64 &&& 63))))), (() : Unit), rfl, by rw [rbo, if_neg c_3, if_pos c_11, e_e, e_p], by rw [ht9]; exact hP.sub [] rfl, va_K.moved hW9.alike hK, hD.sub [] (by decide) rfl⟩, hS.F ht9⟩) hS.2.2 d_Mo_bitsOf_169
                          · exact absurd c_11 c_148
                        · exact absurd c_104 c_125
                      · refine lv_lconst (v := 0) hx hb d_Mo_bitsOf_107 (by decide) ?_
                        refine lv_goto (tgt := 119) hx hb d_Mo_bitsOf_108 (by decide) ?_
                        refine lv_lstore (lv' := [(9, .long 0), (13, .int (xd xx yy)), (11, .long 0), (7, .double b9), (0, .ref a0), (1, .double a), (3, .int (nI (lw i))), (4, .int (1 - nI (lb i))), (5, .long (lN (2 * lb i + 1)))]) hx hb d_Mo_bitsOf_119 hl (by decide) rfl (fun ls hl => ?_)
                        refine lv_dload hx hb d_Mo_bitsOf_121 (lv_at hl 3 rfl) ?_
                        refine lv_dconst1 hx hb d_Mo_bitsOf_123 ?_
                        refine lv_dcmp hx hb d_Mo_bitsOf_124 ?_
                        refine lv_if_ge (tgt := 133) hx hb d_Mo_bitsOf_125 (by decide) (fun c_125 => ?_) (fun c_125 => ?_)
                        · exact absurd c_125 c_104
                        · refine lv_dload hx hb d_Mo_bitsOf_128 (lv_at hl 3 rfl) ?_
                          refine lv_goto (tgt := 137) hx hb d_Mo_bitsOf_130 (by decide) ?_
                          refine lv_lconst (v := 1) hx hb d_Mo_bitsOf_137 (by decide) ?_
                          refine lv_iload_n hx hb d_Mo_bitsOf_138 rfl (lv_at hl 6 rfl) ?_
                          refine lv_lshl (v := (1 : Int64) <<< ((nI (lw i)).toInt64 &&& 63)) hx hb d_Mo_bitsOf_139 rfl ?_
                          refine lv_l2d hx hb d_Mo_bitsOf_140 ?_
                          refine lv_dmul hx hb d_Mo_bitsOf_141 (dN_n (dN_mulw hNb onz_v)) ?_
                          refine lv_d2l hx hb d_Mo_bitsOf_142 ?_
                          refine lv_lstore (lv' := [(11, .long (FP.d2l (FP.dmul b9 (FP.l2d ((1 : Int64) <<< ((nI (lw i)).toInt64 &&& 63)))))), (9, .long 0), (13, .int (xd xx yy)), (7, .double b9), (0, .ref a0), (1, .double a), (3, .int (nI (lw i))), (4, .int (1 - nI (lb i))), (5, .long (lN (2 * lb i + 1)))]) hx hb d_Mo_bitsOf_143 hl (by decide) rfl (fun ls hl => ?_)
                          refine lv_dload_n hx hb d_Mo_bitsOf_145 rfl (lv_at hl 5 rfl) ?_
                          refine lv_dconst0 hx hb d_Mo_bitsOf_146 ?_
                          refine lv_dcmp hx hb d_Mo_bitsOf_147 ?_
                          refine lv_if_ge (tgt := 160) hx hb d_Mo_bitsOf_148 (by decide) (fun c_148 => ?_) (fun c_148 => ?_)
                          · refine lv_lconst (v := 0) hx hb d_Mo_bitsOf_160 (by decide) ?_
                            refine lv_lload hx hb d_Mo_bitsOf_161 (lv_at hl 1 rfl) ?_
                            refine lv_iload_n hx hb d_Mo_bitsOf_163 rfl (lv_at hl 6 rfl) ?_
                            refine lv_lshl (v := (0 : Int64) <<< ((nI (lw i)).toInt64 &&& 63)) hx hb d_Mo_bitsOf_164 rfl ?_
                            refine lv_lor hx hb d_Mo_bitsOf_165 ?_
                            refine lv_lload hx hb d_Mo_bitsOf_166 (lv_at hl 0 rfl) ?_
                            refine lv_lor hx hb d_Mo_bitsOf_168 ?_
                            have e_v : rbv i a = (b9, yy) := by rw [rbv, e_h]; exact e_d
                            have e_e : rbe i a = 0 := by rw [rbe, if_neg c_35, e_v, if_neg c_104]
                            have e_p : rbp i a = FP.d2l (FP.dmul b9 (FP.l2d ((1 : Int64) <<< ((nI (lw i)).toInt64 &&& 63)))) := by rw [rbp, if_neg c_35, e_v, if_neg c_104]
                            exact W.lret (v := (0 ||| ((0 : Int64) <<< ((nI (lw i)).toInt64 &&& 63))) ||| (FP.d2l (FP.dmul b9 (FP.l2d ((1 : Int64) <<< ((nI (lw i)).toInt64 &&& 63)))))) hx hb hr (fun t9 ht9 hW9 => ⟨⟨(0 ||| ((0 : Int64) <<< ((nI (lw i)).toInt64 &&& 63))) ||| (FP.d2l (FP.dmul b9 (FP.l2d ((1 : Int64) <<< ((nI (lw i)).toInt64 &&& 63))))), (() : Unit), rfl, by rw [rbo, if_neg c_3, if_pos c_11, e_e, e_p], by rw [ht9]; exact hP.sub [] rfl, va_K.moved hW9.alike hK, hD.sub [] (by decide) rfl⟩, hS.F ht9⟩) hS.2.2 d_Mo_bitsOf_169
                          · exact absurd c_11 c_148
                    · refine lv_iload hx hb d_Mo_bitsOf_79 (lv_at hl 0 rfl) ?_
                      refine lv_iload hx hb d_Mo_bitsOf_81 (lv_at hl 7 rfl) ?_
                      refine lv_icmp_le (tgt := 100) hx hb d_Mo_bitsOf_83 (by decide) (fun c_83 => ?_) (fun c_83 => ?_)
                      · replace c_83 := (xd_le hxx hyy).mp c_83
                        have e_d : (dv (xx + lb i - 1) a9) = (b9, yy) := Prod.ext (by rw [← hf1, show xx + lb i - 1 - yy = 0 by omega]; rfl) (by rw [← hf2, show xx + lb i - 1 - yy = 0 by omega]; rfl)
                        refine lv_dload hx hb d_Mo_bitsOf_100 (lv_at hl 3 rfl) ?_
                        refine lv_dconst1 hx hb d_Mo_bitsOf_102 ?_
                        refine lv_dcmp hx hb d_Mo_bitsOf_103 ?_
                        refine lv_if_ge (tgt := 111) hx hb d_Mo_bitsOf_104 (by decide) (fun c_104 => ?_) (fun c_104 => ?_)
                        · refine lv_iload hx hb d_Mo_bitsOf_111 (lv_at hl 0 rfl) ?_
                          refine lv_iload hx hb d_Mo_bitsOf_113 (lv_at hl 7 rfl) ?_
                          refine lv_isub hx hb d_Mo_bitsOf_115 ?_
                          refine lv_i2l (v := ((xd xx yy) - (1 - nI (lb i))).toInt64) hx hb d_Mo_bitsOf_116 rfl ?_
                          refine lv_lconst (v := 1) hx hb d_Mo_bitsOf_117 (by decide) ?_
                          refine lv_ladd hx hb d_Mo_bitsOf_118 ?_
                          refine lv_lstore (lv' := [(9, .long ((((xd xx yy) - (1 - nI (lb i))).toInt64) + 1)), (13, .int (xd xx yy)), (11, .long 0), (7, .double b9), (0, .ref a0), (1, .double a), (3, .int (nI (lw i))), (4, .int (1 - nI (lb i))), (5, .long (lN (2 * lb i + 1)))]) hx hb d_Mo_bitsOf_119 hl (by decide) rfl (fun ls hl => ?_)
                          refine lv_dload hx hb d_Mo_bitsOf_121 (lv_at hl 3 rfl) ?_
                          refine lv_dconst1 hx hb d_Mo_bitsOf_123 ?_
                          refine lv_dcmp hx hb d_Mo_bitsOf_124 ?_
                          refine lv_if_ge (tgt := 133) hx hb d_Mo_bitsOf_125 (by decide) (fun c_125 => ?_) (fun c_125 => ?_)
                          · refine lv_dload hx hb d_Mo_bitsOf_133 (lv_at hl 3 rfl) ?_
                            refine lv_dconst1 hx hb d_Mo_bitsOf_135 ?_
                            refine lv_dsub hx hb d_Mo_bitsOf_136 (dN_n (dN_sub1 hNb)) ?_
                            refine lv_lconst (v := 1) hx hb d_Mo_bitsOf_137 (by decide) ?_
                            refine lv_iload_n hx hb d_Mo_bitsOf_138 rfl (lv_at hl 6 rfl) ?_
                            refine lv_lshl (v := (1 : Int64) <<< ((nI (lw i)).toInt64 &&& 63)) hx hb d_Mo_bitsOf_139 rfl ?_
                            refine lv_l2d hx hb d_Mo_bitsOf_140 ?_
                            refine lv_dmul hx hb d_Mo_bitsOf_141 (dN_n (dN_mulw (dN_sub1 hNb) onz_v)) ?_
                            refine lv_d2l hx hb d_Mo_bitsOf_142 ?_
                            refine lv_lstore (lv' := [(11, .long (FP.d2l (FP.dmul (FP.dsub b9 FP.dconst1) (FP.l2d ((1 : Int64) <<< ((nI (lw i)).toInt64 &&& 63)))))), (9, .long ((((xd xx yy) - (1 - nI (lb i))).toInt64) + 1)), (13, .int (xd xx yy)), (7, .double b9), (0, .ref a0), (1, .double a), (3, .int (nI (lw i))), (4, .int (1 - nI (lb i))), (5, .long (lN (2 * lb i + 1)))]) hx hb d_Mo_bitsOf_143 hl (by decide) rfl (fun ls hl => ?_)
                            refine lv_dload_n hx hb d_Mo_bitsOf_145 rfl (lv_at hl 5 rfl) ?_
                            refine lv_dconst0 hx hb d_Mo_bitsOf_146 ?_
                            refine lv_dcmp hx hb d_Mo_bitsOf_147 ?_
                            refine lv_if_ge (tgt := 160) hx hb d_Mo_bitsOf_148 (by decide) (fun c_148 => ?_) (fun c_148 => ?_)
                            · refine lv_lconst (v := 0) hx hb d_Mo_bitsOf_160 (by decide) ?_
                              refine lv_lload hx hb d_Mo_bitsOf_161 (lv_at hl 1 rfl) ?_
                              refine lv_iload_n hx hb d_Mo_bitsOf_163 rfl (lv_at hl 6 rfl) ?_
                              refine lv_lshl (v := ((((xd xx yy) - (1 - nI (lb i))).toInt64) + 1) <<< ((nI (lw i)).toInt64 &&& 63)) hx hb d_Mo_bitsOf_164 rfl ?_
                              refine lv_lor hx hb d_Mo_bitsOf_165 ?_
                              refine lv_lload hx hb d_Mo_bitsOf_166 (lv_at hl 0 rfl) ?_
                              refine lv_lor hx hb d_Mo_bitsOf_168 ?_
                              have e_v : rbv i a = (b9, yy) := by rw [rbv, e_h]; exact e_d
                              have e_e : rbe i a = (((xd xx yy) - (1 - nI (lb i))).toInt64) + 1 := by rw [rbe, if_neg c_35, e_v, if_pos c_104, e_h]
                              have e_p : rbp i a = FP.d2l (FP.dmul (FP.dsub b9 FP.dconst1) (FP.l2d ((1 : Int64) <<< ((nI (lw i)).toInt64 &&& 63)))) := by rw [rbp, if_neg c_35, e_v, if_pos c_104]
                              exact W.lret (v := (0 ||| (((((xd xx yy) - (1 - nI (lb i))).toInt64) + 1) <<< ((nI (lw i)).toInt64 &&& 63))) ||| (FP.d2l (FP.dmul (FP.dsub b9 FP.dconst1) (FP.l2d ((1 : Int64) <<< ((nI (lw i)).toInt64 &&& 63)))))) hx hb hr (fun t9 ht9 hW9 => ⟨⟨(0 ||| (((((xd xx yy) - (1 - nI (lb i))).toInt64) + 1) <<< ((nI (lw i)).toInt64 &&& 63))) ||| (FP.d2l (FP.dmul (FP.dsub b9 FP.dconst1) (FP.l2d ((1 : Int64) <<< ((nI (lw i)).toInt64 &&& 63))))), (() : Unit), rfl, by rw [rbo, if_neg c_3, if_pos c_11, e_e, e_p], by rw [ht9]; exact hP.sub [] rfl, va_K.moved hW9.alike hK, hD.sub [] (by decide) rfl⟩, hS.F ht9⟩) hS.2.2 d_Mo_bitsOf_169
                            · exact absurd c_11 c_148
                          · exact absurd c_104 c_125
                        · refine lv_lconst (v := 0) hx hb d_Mo_bitsOf_107 (by decide) ?_
                          refine lv_goto (tgt := 119) hx hb d_Mo_bitsOf_108 (by decide) ?_
                          refine lv_lstore (lv' := [(9, .long 0), (13, .int (xd xx yy)), (11, .long 0), (7, .double b9), (0, .ref a0), (1, .double a), (3, .int (nI (lw i))), (4, .int (1 - nI (lb i))), (5, .long (lN (2 * lb i + 1)))]) hx hb d_Mo_bitsOf_119 hl (by decide) rfl (fun ls hl => ?_)
                          refine lv_dload hx hb d_Mo_bitsOf_121 (lv_at hl 3 rfl) ?_
                          refine lv_dconst1 hx hb d_Mo_bitsOf_123 ?_
                          refine lv_dcmp hx hb d_Mo_bitsOf_124 ?_
                          refine lv_if_ge (tgt := 133) hx hb d_Mo_bitsOf_125 (by decide) (fun c_125 => ?_) (fun c_125 => ?_)
                          · exact absurd c_125 c_104
                          · refine lv_dload hx hb d_Mo_bitsOf_128 (lv_at hl 3 rfl) ?_
                            refine lv_goto (tgt := 137) hx hb d_Mo_bitsOf_130 (by decide) ?_
                            refine lv_lconst (v := 1) hx hb d_Mo_bitsOf_137 (by decide) ?_
                            refine lv_iload_n hx hb d_Mo_bitsOf_138 rfl (lv_at hl 6 rfl) ?_
                            refine lv_lshl (v := (1 : Int64) <<< ((nI (lw i)).toInt64 &&& 63)) hx hb d_Mo_bitsOf_139 rfl ?_
                            refine lv_l2d hx hb d_Mo_bitsOf_140 ?_
                            refine lv_dmul hx hb d_Mo_bitsOf_141 (dN_n (dN_mulw hNb onz_v)) ?_
                            refine lv_d2l hx hb d_Mo_bitsOf_142 ?_
                            refine lv_lstore (lv' := [(11, .long (FP.d2l (FP.dmul b9 (FP.l2d ((1 : Int64) <<< ((nI (lw i)).toInt64 &&& 63)))))), (9, .long 0), (13, .int (xd xx yy)), (7, .double b9), (0, .ref a0), (1, .double a), (3, .int (nI (lw i))), (4, .int (1 - nI (lb i))), (5, .long (lN (2 * lb i + 1)))]) hx hb d_Mo_bitsOf_143 hl (by decide) rfl (fun ls hl => ?_)
                            refine lv_dload_n hx hb d_Mo_bitsOf_145 rfl (lv_at hl 5 rfl) ?_
                            refine lv_dconst0 hx hb d_Mo_bitsOf_146 ?_
                            refine lv_dcmp hx hb d_Mo_bitsOf_147 ?_
                            refine lv_if_ge (tgt := 160) hx hb d_Mo_bitsOf_148 (by decide) (fun c_148 => ?_) (fun c_148 => ?_)
                            · refine lv_lconst (v := 0) hx hb d_Mo_bitsOf_160 (by decide) ?_
                              refine lv_lload hx hb d_Mo_bitsOf_161 (lv_at hl 1 rfl) ?_
                              refine lv_iload_n hx hb d_Mo_bitsOf_163 rfl (lv_at hl 6 rfl) ?_
                              refine lv_lshl (v := (0 : Int64) <<< ((nI (lw i)).toInt64 &&& 63)) hx hb d_Mo_bitsOf_164 rfl ?_
                              refine lv_lor hx hb d_Mo_bitsOf_165 ?_
                              refine lv_lload hx hb d_Mo_bitsOf_166 (lv_at hl 0 rfl) ?_
                              refine lv_lor hx hb d_Mo_bitsOf_168 ?_
                              have e_v : rbv i a = (b9, yy) := by rw [rbv, e_h]; exact e_d
                              have e_e : rbe i a = 0 := by rw [rbe, if_neg c_35, e_v, if_neg c_104]
                              have e_p : rbp i a = FP.d2l (FP.dmul b9 (FP.l2d ((1 : Int64) <<< ((nI (lw i)).toInt64 &&& 63)))) := by rw [rbp, if_neg c_35, e_v, if_neg c_104]
                              exact W.lret (v := (0 ||| ((0 : Int64) <<< ((nI (lw i)).toInt64 &&& 63))) ||| (FP.d2l (FP.dmul b9 (FP.l2d ((1 : Int64) <<< ((nI (lw i)).toInt64 &&& 63)))))) hx hb hr (fun t9 ht9 hW9 => ⟨⟨(0 ||| ((0 : Int64) <<< ((nI (lw i)).toInt64 &&& 63))) ||| (FP.d2l (FP.dmul b9 (FP.l2d ((1 : Int64) <<< ((nI (lw i)).toInt64 &&& 63))))), (() : Unit), rfl, by rw [rbo, if_neg c_3, if_pos c_11, e_e, e_p], by rw [ht9]; exact hP.sub [] rfl, va_K.moved hW9.alike hK, hD.sub [] (by decide) rfl⟩, hS.F ht9⟩) hS.2.2 d_Mo_bitsOf_169
                            · exact absurd c_11 c_148
                      · replace c_83 := mt (xd_le hxx hyy).mpr c_83
                        refine lv_dload hx hb d_Mo_bitsOf_86 (lv_at hl 3 rfl) ?_
                        refine lv_ldc2d (v := D2) hx hb hown (hW _ mw_674) d_Mo_bitsOf_88 ?_
                        refine lv_dmul hx hb d_Mo_bitsOf_91 (dN_n (dN_2 hNb)) ?_
                        refine lv_dstore (lv' := [(7, .double (FP.dmul b9 D2)), (13, .int (xd xx yy)), (11, .long 0), (9, .long (lN (2 * lb i + 1))), (0, .ref a0), (1, .double a), (3, .int (nI (lw i))), (4, .int (1 - nI (lb i))), (5, .long (lN (2 * lb i + 1)))]) hx hb d_Mo_bitsOf_92 hl (by decide) rfl (fun ls hl => ?_)
                        refine lv_iinc (v := xd xx (yy + 1)) (lv' := [(13, .int (xd xx (yy + 1))), (7, .double (FP.dmul b9 D2)), (11, .long 0), (9, .long (lN (2 * lb i + 1))), (0, .ref a0), (1, .double a), (3, .int (nI (lw i))), (4, .int (1 - nI (lb i))), (5, .long (lN (2 * lb i + 1)))]) hx hb d_Mo_bitsOf_94 hl (k := 1) rfl (xd_s _ _) (by decide) rfl (fun ls hl => ?_)
                        refine lv_goto (tgt := 72) hx hb d_Mo_bitsOf_97 (by decide) ?_
                        exact ih (yy + 1) (FP.dmul b9 D2) (by omega) (dN_2 hNb) (by rw [← hf1, dv_s (n := xx + lb i - 1 - yy) (by omega) c_76]; rfl) (by rw [← hf2, dv_s (n := xx + lb i - 1 - yy) (by omega) c_76, Nat.add_assoc, Nat.add_comm 1]; rfl) (by omega) H locs (hP.sub [] rfl) (hD.sub [] (by decide) rfl) hS ls (lv_sub hl [0, 2, 3, 1, 4, 5, 6, 7, 8] rfl)
                exact hlp_72 _ 0 a9 (Nat.zero_le _) hNa rfl (Nat.zero_add _) (Nat.lt_succ_self _) H locs (hP.sub [] rfl) (hD.sub [] (by decide) rfl) hS ls (lv_sub hl [0, 1, 2, 3, 4, 5, 6, 7, 8] rfl)
              · replace c_55 := mt (cg_le 2000 xx rfl rfl (by omega) (by omega)).mpr c_55
                refine lv_dload hx hb d_Mo_bitsOf_58 (lv_at hl 3 rfl) ?_
                refine lv_ldc2d (v := DH) hx hb hown (hW _ mw_675) d_Mo_bitsOf_60 ?_
                refine lv_dmul hx hb d_Mo_bitsOf_63 (dN_n (dN_H hNa)) ?_
                refine lv_dstore (lv' := [(7, .double (FP.dmul a9 DH)), (13, .int (nI xx)), (11, .long 0), (9, .long (lN (2 * lb i + 1))), (0, .ref a0), (1, .double a), (3, .int (nI (lw i))), (4, .int (1 - nI (lb i))), (5, .long (lN (2 * lb i + 1)))]) hx hb d_Mo_bitsOf_64 hl (by decide) rfl (fun ls hl => ?_)
                refine lv_iinc (v := nI (xx + 1)) (lv' := [(13, .int (nI (xx + 1))), (7, .double (FP.dmul a9 DH)), (11, .long 0), (9, .long (lN (2 * lb i + 1))), (0, .ref a0), (1, .double a), (3, .int (nI (lw i))), (4, .int (1 - nI (lb i))), (5, .long (lN (2 * lb i + 1)))]) hx hb d_Mo_bitsOf_66 hl (k := 1) rfl (nI_1 _) (by decide) rfl (fun ls hl => ?_)
                refine lv_goto (tgt := 41) hx hb d_Mo_bitsOf_69 (by decide) ?_
                exact ih (xx + 1) (FP.dmul a9 DH) (by omega) (dN_H hNa) (by rw [← he1, hv_s (n := 2000 - xx) (by omega) c_47]; rfl) (by rw [← he2, hv_s (n := 2000 - xx) (by omega) c_47, Nat.add_assoc, Nat.add_comm 1]; rfl) (by omega) H locs (hP.sub [] rfl) (hD.sub [] (by decide) rfl) hS ls (lv_sub hl [0, 2, 3, 1, 4, 5, 6, 7, 8] rfl)
        exact hlp_41 _ 0 a (Nat.zero_le _) hn rfl (Nat.zero_add _) (Nat.lt_succ_self _) s.heap [] (hP.sub [] rfl) (hD.sub [] (by decide) rfl) hS ls (lv_sub hl [0, 1, 2, 3, 4, 5, 6, 7, 8] rfl)
    · refine lv_dload_n hx hb d_Mo_bitsOf_14 rfl (lv_at hl 1 rfl) ?_
      refine lv_dneg hx hb d_Mo_bitsOf_15 ?_
      refine lv_goto (tgt := 20) hx hb d_Mo_bitsOf_16 (by decide) ?_
      refine lv_dstore (lv' := [(7, .double (FP.dneg a)), (0, .ref a0), (1, .double a), (3, .int (nI (lw i))), (4, .int (1 - nI (lb i))), (5, .long (lN (2 * lb i + 1)))]) hx hb d_Mo_bitsOf_20 hl (by decide) rfl (fun ls hl => ?_)
      refine lv_lload hx hb d_Mo_bitsOf_22 (lv_at hl 5 rfl) ?_
      refine lv_lstore (lv' := [(9, .long (lN (2 * lb i + 1))), (7, .double (FP.dneg a)), (0, .ref a0), (1, .double a), (3, .int (nI (lw i))), (4, .int (1 - nI (lb i))), (5, .long (lN (2 * lb i + 1)))]) hx hb d_Mo_bitsOf_24 hl (by decide) rfl (fun ls hl => ?_)
      refine lv_lconst (v := 0) hx hb d_Mo_bitsOf_26 (by decide) ?_
      refine lv_lstore (lv' := [(11, .long 0), (9, .long (lN (2 * lb i + 1))), (7, .double (FP.dneg a)), (0, .ref a0), (1, .double a), (3, .int (nI (lw i))), (4, .int (1 - nI (lb i))), (5, .long (lN (2 * lb i + 1)))]) hx hb d_Mo_bitsOf_27 hl (by decide) rfl (fun ls hl => ?_)
      refine lv_dload hx hb d_Mo_bitsOf_29 (lv_at hl 2 rfl) ?_
      refine lv_ldc2d (v := DM) hx hb hown (hW _ mw_673) d_Mo_bitsOf_31 ?_
      refine lv_dcmp hx hb d_Mo_bitsOf_34 ?_
      refine lv_if_gt (tgt := 145) hx hb d_Mo_bitsOf_35 (by decide) (fun c_35 => ?_) (fun c_35 => ?_)
      · refine lv_dload_n hx hb d_Mo_bitsOf_145 rfl (lv_at hl 4 rfl) ?_
        refine lv_dconst0 hx hb d_Mo_bitsOf_146 ?_
        refine lv_dcmp hx hb d_Mo_bitsOf_147 ?_
        refine lv_if_ge (tgt := 160) hx hb d_Mo_bitsOf_148 (by decide) (fun c_148 => ?_) (fun c_148 => ?_)
        · exact absurd c_148 c_11
        · refine lv_lload hx hb d_Mo_bitsOf_151 (lv_at hl 7 rfl) ?_
          refine lv_lconst (v := 1) hx hb d_Mo_bitsOf_153 (by decide) ?_
          refine lv_ladd hx hb d_Mo_bitsOf_154 ?_
          refine lv_iload_n hx hb d_Mo_bitsOf_155 rfl (lv_at hl 5 rfl) ?_
          refine lv_lshl (v := ((lN (2 * lb i + 1)) + 1) <<< ((nI (lw i)).toInt64 &&& 63)) hx hb d_Mo_bitsOf_156 rfl ?_
          refine lv_goto (tgt := 161) hx hb d_Mo_bitsOf_157 (by decide) ?_
          refine lv_lload hx hb d_Mo_bitsOf_161 (lv_at hl 1 rfl) ?_
          refine lv_iload_n hx hb d_Mo_bitsOf_163 rfl (lv_at hl 5 rfl) ?_
          refine lv_lshl (v := (lN (2 * lb i + 1)) <<< ((nI (lw i)).toInt64 &&& 63)) hx hb d_Mo_bitsOf_164 rfl ?_
          refine lv_lor hx hb d_Mo_bitsOf_165 ?_
          refine lv_lload hx hb d_Mo_bitsOf_166 (lv_at hl 0 rfl) ?_
          refine lv_lor hx hb d_Mo_bitsOf_168 ?_
          have e_e : rbe i (FP.dneg a) = (lN (2 * lb i + 1)) := by rw [rbe, if_pos c_35]
          have e_p : rbp i (FP.dneg a) = 0 := by rw [rbp, if_pos c_35]
          exact W.lret (v := ((((lN (2 * lb i + 1)) + 1) <<< ((nI (lw i)).toInt64 &&& 63)) ||| ((lN (2 * lb i + 1)) <<< ((nI (lw i)).toInt64 &&& 63))) ||| 0) hx hb hr (fun t9 ht9 hW9 => ⟨⟨((((lN (2 * lb i + 1)) + 1) <<< ((nI (lw i)).toInt64 &&& 63)) ||| ((lN (2 * lb i + 1)) <<< ((nI (lw i)).toInt64 &&& 63))) ||| 0, (() : Unit), rfl, by rw [rbo, if_neg c_3, if_neg c_11, e_e, e_p], by rw [ht9]; exact hP.sub [] rfl, va_K.moved hW9.alike hK, hD.sub [] (by decide) rfl⟩, hS.F ht9⟩) hS.2.2 d_Mo_bitsOf_169
      · refine lv_iconst (v := 0) hx hb d_Mo_bitsOf_38 (by decide) ?_
        refine lv_istore (lv' := [(13, .int 0), (11, .long 0), (9, .long (lN (2 * lb i + 1))), (7, .double (FP.dneg a)), (0, .ref a0), (1, .double a), (3, .int (nI (lw i))), (4, .int (1 - nI (lb i))), (5, .long (lN (2 * lb i + 1)))]) hx hb d_Mo_bitsOf_39 hl (by decide) rfl (fun ls hl => ?_)
        have hlp_41 : ∀ (n : Nat) (xx : Nat) (a9 : UInt64), (xx ≤ 2000) → (dN a9) → ((hv (2000 - xx) a9).1 = (hv 2000 (FP.dneg a)).1) → (xx + (hv (2000 - xx) a9).2 = (hv 2000 (FP.dneg a)).2) → 2000 - xx < n → ∀ (H : Heap) (locs : List Loc), va_P D vwCl [] H → va_D A [] → va_S A s.heap H locs → ∀ (ls : Array Slot), lv_has ls 14 [(13, .int (nI xx)), (11, .long 0), (9, .long (lN (2 * lb i + 1))), (7, .double a9), (0, .ref a0), (1, .double a), (3, .int (nI (lw i))), (4, .int (1 - nI (lb i))), (5, .long (lN (2 * lb i + 1)))] → W p l e ({ frames := 0, cells := 0, slots := 0, locals := 0 }) s m [.ref a0, .double a, .int (nI (lw i)), .int (1 - nI (lb i)), .long (lN (2 * lb i + 1))].toArray below meth cd H locs 0 0 (MQ below ((fun A => va_Ql (fun (r : Int64) (u : Unit) => r = rbo i a) (xB D vwCl [] (fun u : Unit => []) A) A) A) [.ref a0, .double a, .int (nI (lw i)), .int (1 - nI (lb i)), .long (lN (2 * lb i + 1))].toArray s 0 0 A) (F0 m 41 ls []) := by
          intro n
          induction n with
          | zero => intro xx a9 hxx hNa he1 he2 hms; exact absurd hms (Nat.not_lt_zero _)
          | succ n ih =>
            intro xx a9 hxx hNa he1 he2 hms H locs hP hD hS ls hl
            refine lv_dload hx hb d_Mo_bitsOf_41 (lv_at hl 3 rfl) ?_
            refine lv_ldc2d (v := D2) hx hb hown (hW _ mw_674) d_Mo_bitsOf_43 ?_
            refine lv_dcmp hx hb d_Mo_bitsOf_46 ?_
            refine lv_if_lt (tgt := 72) hx hb d_Mo_bitsOf_47 (by decide) (fun c_47 => ?_) (fun c_47 => ?_)
            · have e_h : hv 2000 (FP.dneg a) = (a9, xx) := Prod.ext (by rw [← he1, hv_e c_47]) (by rw [← he2, hv_e c_47]; rfl)
              have hlp_72 : ∀ (n : Nat) (yy : Nat) (b9 : UInt64), (yy ≤ xx + lb i - 1) → (dN b9) → ((dv (xx + lb i - 1 - yy) b9).1 = (dv (xx + lb i - 1) a9).1) → (yy + (dv (xx + lb i - 1 - yy) b9).2 = (dv (xx + lb i - 1) a9).2) → xx + lb i - 1 - yy < n → ∀ (H : Heap) (locs : List Loc), va_P D vwCl [] H → va_D A [] → va_S A s.heap H locs → ∀ (ls : Array Slot), lv_has ls 14 [(13, .int (xd xx yy)), (11, .long 0), (9, .long (lN (2 * lb i + 1))), (7, .double b9), (0, .ref a0), (1, .double a), (3, .int (nI (lw i))), (4, .int (1 - nI (lb i))), (5, .long (lN (2 * lb i + 1)))] → W p l e ({ frames := 0, cells := 0, slots := 0, locals := 0 }) s m [.ref a0, .double a, .int (nI (lw i)), .int (1 - nI (lb i)), .long (lN (2 * lb i + 1))].toArray below meth cd H locs 0 0 (MQ below ((fun A => va_Ql (fun (r : Int64) (u : Unit) => r = rbo i a) (xB D vwCl [] (fun u : Unit => []) A) A) A) [.ref a0, .double a, .int (nI (lw i)), .int (1 - nI (lb i)), .long (lN (2 * lb i + 1))].toArray s 0 0 A) (F0 m 72 ls []) := by
                intro n
                induction n with
                | zero => intro yy b9 hyy hNb hf1 hf2 hms; exact absurd hms (Nat.not_lt_zero _)
                | succ n ih =>
                  intro yy b9 hyy hNb hf1 hf2 hms H locs hP hD hS ls hl
                  refine lv_dload hx hb d_Mo_bitsOf_72 (lv_at hl 3 rfl) ?_
                  refine lv_dconst1 hx hb d_Mo_bitsOf_74 ?_
                  refine lv_dcmp hx hb d_Mo_bitsOf_75 ?_
                  refine lv_if_ge (tgt := 100) hx hb d_Mo_bitsOf_76 (by decide) (fun c_76 => ?_) (fun c_76 => ?_)
                  · have e_d : (dv (xx + lb i - 1) a9) = (b9, yy) := Prod.ext (by rw [← hf1, dv_e c_76]) (by rw [← hf2, dv_e c_76]; rfl)
                    refine lv_dload hx hb d_Mo_bitsOf_100 (lv_at hl 3 rfl) ?_
                    refine lv_dconst1 hx hb d_Mo_bitsOf_102 ?_
                    refine lv_dcmp hx hb d_Mo_bitsOf_103 ?_
                    refine lv_if_ge (tgt := 111) hx hb d_Mo_bitsOf_104 (by decide) (fun c_104 => ?_) (fun c_104 => ?_)
                    · refine lv_iload hx hb d_Mo_bitsOf_111 (lv_at hl 0 rfl) ?_
                      refine lv_iload hx hb d_Mo_bitsOf_113 (lv_at hl 7 rfl) ?_
                      refine lv_isub hx hb d_Mo_bitsOf_115 ?_
                      refine lv_i2l (v := ((xd xx yy) - (1 - nI (lb i))).toInt64) hx hb d_Mo_bitsOf_116 rfl ?_
                      refine lv_lconst (v := 1) hx hb d_Mo_bitsOf_117 (by decide) ?_
                      refine lv_ladd hx hb d_Mo_bitsOf_118 ?_
                      refine lv_lstore (lv' := [(9, .long ((((xd xx yy) - (1 - nI (lb i))).toInt64) + 1)), (13, .int (xd xx yy)), (11, .long 0), (7, .double b9), (0, .ref a0), (1, .double a), (3, .int (nI (lw i))), (4, .int (1 - nI (lb i))), (5, .long (lN (2 * lb i + 1)))]) hx hb d_Mo_bitsOf_119 hl (by decide) rfl (fun ls hl => ?_)
                      refine lv_dload hx hb d_Mo_bitsOf_121 (lv_at hl 3 rfl) ?_
                      refine lv_dconst1 hx hb d_Mo_bitsOf_123 ?_
                      refine lv_dcmp hx hb d_Mo_bitsOf_124 ?_
                      refine lv_if_ge (tgt := 133) hx hb d_Mo_bitsOf_125 (by decide) (fun c_125 => ?_) (fun c_125 => ?_)
                      · refine lv_dload hx hb d_Mo_bitsOf_133 (lv_at hl 3 rfl) ?_
                        refine lv_dconst1 hx hb d_Mo_bitsOf_135 ?_
                        refine lv_dsub hx hb d_Mo_bitsOf_136 (dN_n (dN_sub1 hNb)) ?_
                        refine lv_lconst (v := 1) hx hb d_Mo_bitsOf_137 (by decide) ?_
                        refine lv_iload_n hx hb d_Mo_bitsOf_138 rfl (lv_at hl 6 rfl) ?_
                        refine lv_lshl (v := (1 : Int64) <<< ((nI (lw i)).toInt64 &&& 63)) hx hb d_Mo_bitsOf_139 rfl ?_
                        refine lv_l2d hx hb d_Mo_bitsOf_140 ?_
                        refine lv_dmul hx hb d_Mo_bitsOf_141 (dN_n (dN_mulw (dN_sub1 hNb) onz_v)) ?_
                        refine lv_d2l hx hb d_Mo_bitsOf_142 ?_
                        refine lv_lstore (lv' := [(11, .long (FP.d2l (FP.dmul (FP.dsub b9 FP.dconst1) (FP.l2d ((1 : Int64) <<< ((nI (lw i)).toInt64 &&& 63)))))), (9, .long ((((xd xx yy) - (1 - nI (lb i))).toInt64) + 1)), (13, .int (xd xx yy)), (7, .double b9), (0, .ref a0), (1, .double a), (3, .int (nI (lw i))), (4, .int (1 - nI (lb i))), (5, .long (lN (2 * lb i + 1)))]) hx hb d_Mo_bitsOf_143 hl (by decide) rfl (fun ls hl => ?_)
                        refine lv_dload_n hx hb d_Mo_bitsOf_145 rfl (lv_at hl 5 rfl) ?_
                        refine lv_dconst0 hx hb d_Mo_bitsOf_146 ?_
                        refine lv_dcmp hx hb d_Mo_bitsOf_147 ?_
                        refine lv_if_ge (tgt := 160) hx hb d_Mo_bitsOf_148 (by decide) (fun c_148 => ?_) (fun c_148 => ?_)
                        · exact absurd c_148 c_11
                        · refine lv_lload hx hb d_Mo_bitsOf_151 (lv_at hl 8 rfl) ?_
                          refine lv_lconst (v := 1) hx hb d_Mo_bitsOf_153 (by decide) ?_
                          refine lv_ladd hx hb d_Mo_bitsOf_154 ?_
                          refine lv_iload_n hx hb d_Mo_bitsOf_155 rfl (lv_at hl 6 rfl) ?_
                          refine lv_lshl (v := ((lN (2 * lb i + 1)) + 1) <<< ((nI (lw i)).toInt64 &&& 63)) hx hb d_Mo_bitsOf_156 rfl ?_
                          refine lv_goto (tgt := 161) hx hb d_Mo_bitsOf_157 (by decide) ?_
                          refine lv_lload hx hb d_Mo_bitsOf_161 (lv_at hl 1 rfl) ?_
                          refine lv_iload_n hx hb d_Mo_bitsOf_163 rfl (lv_at hl 6 rfl) ?_
                          refine lv_lshl (v := ((((xd xx yy) - (1 - nI (lb i))).toInt64) + 1) <<< ((nI (lw i)).toInt64 &&& 63)) hx hb d_Mo_bitsOf_164 rfl ?_
                          refine lv_lor hx hb d_Mo_bitsOf_165 ?_
                          refine lv_lload hx hb d_Mo_bitsOf_166 (lv_at hl 0 rfl) ?_
                          refine lv_lor hx hb d_Mo_bitsOf_168 ?_
                          have e_v : rbv i (FP.dneg a) = (b9, yy) := by rw [rbv, e_h]; exact e_d
                          have e_e : rbe i (FP.dneg a) = (((xd xx yy) - (1 - nI (lb i))).toInt64) + 1 := by rw [rbe, if_neg c_35, e_v, if_pos c_104, e_h]
                          have e_p : rbp i (FP.dneg a) = FP.d2l (FP.dmul (FP.dsub b9 FP.dconst1) (FP.l2d ((1 : Int64) <<< ((nI (lw i)).toInt64 &&& 63)))) := by rw [rbp, if_neg c_35, e_v, if_pos c_104]
                          exact W.lret (v := ((((lN (2 * lb i + 1)) + 1) <<< ((nI (lw i)).toInt64 &&& 63)) ||| (((((xd xx yy) - (1 - nI (lb i))).toInt64) + 1) <<< ((nI (lw i)).toInt64 &&& 63))) ||| (FP.d2l (FP.dmul (FP.dsub b9 FP.dconst1) (FP.l2d ((1 : Int64) <<< ((nI (lw i)).toInt64 &&& 63)))))) hx hb hr (fun t9 ht9 hW9 => ⟨⟨((((lN (2 * lb i + 1)) + 1) <<< ((nI (lw i)).toInt64 &&& 63)) ||| (((((xd xx yy) - (1 - nI (lb i))).toInt64) + 1) <<< ((nI (lw i)).toInt64 &&& 63))) ||| (FP.d2l (FP.dmul (FP.dsub b9 FP.dconst1) (FP.l2d ((1 : Int64) <<< ((nI (lw i)).toInt64 &&& 63))))), (() : Unit), rfl, by rw [rbo, if_neg c_3, if_neg c_11, e_e, e_p], by rw [ht9]; exact hP.sub [] rfl, va_K.moved hW9.alike hK, hD.sub [] (by decide) rfl⟩, hS.F ht9⟩) hS.2.2 d_Mo_bitsOf_169
                      · exact absurd c_104 c_125
                    · refine lv_lconst (v := 0) hx hb d_Mo_bitsOf_107 (by decide) ?_
                      refine lv_goto (tgt := 119) hx hb d_Mo_bitsOf_108 (by decide) ?_
                      refine lv_lstore (lv' := [(9, .long 0), (13, .int (xd xx yy)), (11, .long 0), (7, .double b9), (0, .ref a0), (1, .double a), (3, .int (nI (lw i))), (4, .int (1 - nI (lb i))), (5, .long (lN (2 * lb i + 1)))]) hx hb d_Mo_bitsOf_119 hl (by decide) rfl (fun ls hl => ?_)
                      refine lv_dload hx hb d_Mo_bitsOf_121 (lv_at hl 3 rfl) ?_
                      refine lv_dconst1 hx hb d_Mo_bitsOf_123 ?_
                      refine lv_dcmp hx hb d_Mo_bitsOf_124 ?_
                      refine lv_if_ge (tgt := 133) hx hb d_Mo_bitsOf_125 (by decide) (fun c_125 => ?_) (fun c_125 => ?_)
                      · exact absurd c_125 c_104
                      · refine lv_dload hx hb d_Mo_bitsOf_128 (lv_at hl 3 rfl) ?_
                        refine lv_goto (tgt := 137) hx hb d_Mo_bitsOf_130 (by decide) ?_
                        refine lv_lconst (v := 1) hx hb d_Mo_bitsOf_137 (by decide) ?_
                        refine lv_iload_n hx hb d_Mo_bitsOf_138 rfl (lv_at hl 6 rfl) ?_
                        refine lv_lshl (v := (1 : Int64) <<< ((nI (lw i)).toInt64 &&& 63)) hx hb d_Mo_bitsOf_139 rfl ?_
                        refine lv_l2d hx hb d_Mo_bitsOf_140 ?_
                        refine lv_dmul hx hb d_Mo_bitsOf_141 (dN_n (dN_mulw hNb onz_v)) ?_
                        refine lv_d2l hx hb d_Mo_bitsOf_142 ?_
                        refine lv_lstore (lv' := [(11, .long (FP.d2l (FP.dmul b9 (FP.l2d ((1 : Int64) <<< ((nI (lw i)).toInt64 &&& 63)))))), (9, .long 0), (13, .int (xd xx yy)), (7, .double b9), (0, .ref a0), (1, .double a), (3, .int (nI (lw i))), (4, .int (1 - nI (lb i))), (5, .long (lN (2 * lb i + 1)))]) hx hb d_Mo_bitsOf_143 hl (by decide) rfl (fun ls hl => ?_)
                        refine lv_dload_n hx hb d_Mo_bitsOf_145 rfl (lv_at hl 5 rfl) ?_
                        refine lv_dconst0 hx hb d_Mo_bitsOf_146 ?_
                        refine lv_dcmp hx hb d_Mo_bitsOf_147 ?_
                        refine lv_if_ge (tgt := 160) hx hb d_Mo_bitsOf_148 (by decide) (fun c_148 => ?_) (fun c_148 => ?_)
                        · exact absurd c_148 c_11
                        · refine lv_lload hx hb d_Mo_bitsOf_151 (lv_at hl 8 rfl) ?_
                          refine lv_lconst (v := 1) hx hb d_Mo_bitsOf_153 (by decide) ?_
                          refine lv_ladd hx hb d_Mo_bitsOf_154 ?_
                          refine lv_iload_n hx hb d_Mo_bitsOf_155 rfl (lv_at hl 6 rfl) ?_
                          refine lv_lshl (v := ((lN (2 * lb i + 1)) + 1) <<< ((nI (lw i)).toInt64 &&& 63)) hx hb d_Mo_bitsOf_156 rfl ?_
                          refine lv_goto (tgt := 161) hx hb d_Mo_bitsOf_157 (by decide) ?_
                          refine lv_lload hx hb d_Mo_bitsOf_161 (lv_at hl 1 rfl) ?_
                          refine lv_iload_n hx hb d_Mo_bitsOf_163 rfl (lv_at hl 6 rfl) ?_
                          refine lv_lshl (v := (0 : Int64) <<< ((nI (lw i)).toInt64 &&& 63)) hx hb d_Mo_bitsOf_164 rfl ?_
                          refine lv_lor hx hb d_Mo_bitsOf_165 ?_
                          refine lv_lload hx hb d_Mo_bitsOf_166 (lv_at hl 0 rfl) ?_
                          refine lv_lor hx hb d_Mo_bitsOf_168 ?_
                          have e_v : rbv i (FP.dneg a) = (b9, yy) := by rw [rbv, e_h]; exact e_d
                          have e_e : rbe i (FP.dneg a) = 0 := by rw [rbe, if_neg c_35, e_v, if_neg c_104]
                          have e_p : rbp i (FP.dneg a) = FP.d2l (FP.dmul b9 (FP.l2d ((1 : Int64) <<< ((nI (lw i)).toInt64 &&& 63)))) := by rw [rbp, if_neg c_35, e_v, if_neg c_104]
                          exact W.lret (v := ((((lN (2 * lb i + 1)) + 1) <<< ((nI (lw i)).toInt64 &&& 63)) ||| ((0 : Int64) <<< ((nI (lw i)).toInt64 &&& 63))) ||| (FP.d2l (FP.dmul b9 (FP.l2d ((1 : Int64) <<< ((nI (lw i)).toInt64 &&& 63)))))) hx hb hr (fun t9 ht9 hW9 => ⟨⟨((((lN (2 * lb i + 1)) + 1) <<< ((nI (lw i)).toInt64 &&& 63)) ||| ((0 : Int64) <<< ((nI (lw i)).toInt64 &&& 63))) ||| (FP.d2l (FP.dmul b9 (FP.l2d ((1 : Int64) <<< ((nI (lw i)).toInt64 &&& 63))))), (() : Unit), rfl, by rw [rbo, if_neg c_3, if_neg c_11, e_e, e_p], by rw [ht9]; exact hP.sub [] rfl, va_K.moved hW9.alike hK, hD.sub [] (by decide) rfl⟩, hS.F ht9⟩) hS.2.2 d_Mo_bitsOf_169
                  · refine lv_iload hx hb d_Mo_bitsOf_79 (lv_at hl 0 rfl) ?_
                    refine lv_iload hx hb d_Mo_bitsOf_81 (lv_at hl 7 rfl) ?_
                    refine lv_icmp_le (tgt := 100) hx hb d_Mo_bitsOf_83 (by decide) (fun c_83 => ?_) (fun c_83 => ?_)
                    · replace c_83 := (xd_le hxx hyy).mp c_83
                      have e_d : (dv (xx + lb i - 1) a9) = (b9, yy) := Prod.ext (by rw [← hf1, show xx + lb i - 1 - yy = 0 by omega]; rfl) (by rw [← hf2, show xx + lb i - 1 - yy = 0 by omega]; rfl)
                      refine lv_dload hx hb d_Mo_bitsOf_100 (lv_at hl 3 rfl) ?_
                      refine lv_dconst1 hx hb d_Mo_bitsOf_102 ?_
                      refine lv_dcmp hx hb d_Mo_bitsOf_103 ?_
                      refine lv_if_ge (tgt := 111) hx hb d_Mo_bitsOf_104 (by decide) (fun c_104 => ?_) (fun c_104 => ?_)
                      · refine lv_iload hx hb d_Mo_bitsOf_111 (lv_at hl 0 rfl) ?_
                        refine lv_iload hx hb d_Mo_bitsOf_113 (lv_at hl 7 rfl) ?_
                        refine lv_isub hx hb d_Mo_bitsOf_115 ?_
                        refine lv_i2l (v := ((xd xx yy) - (1 - nI (lb i))).toInt64) hx hb d_Mo_bitsOf_116 rfl ?_
                        refine lv_lconst (v := 1) hx hb d_Mo_bitsOf_117 (by decide) ?_
                        refine lv_ladd hx hb d_Mo_bitsOf_118 ?_
                        refine lv_lstore (lv' := [(9, .long ((((xd xx yy) - (1 - nI (lb i))).toInt64) + 1)), (13, .int (xd xx yy)), (11, .long 0), (7, .double b9), (0, .ref a0), (1, .double a), (3, .int (nI (lw i))), (4, .int (1 - nI (lb i))), (5, .long (lN (2 * lb i + 1)))]) hx hb d_Mo_bitsOf_119 hl (by decide) rfl (fun ls hl => ?_)
                        refine lv_dload hx hb d_Mo_bitsOf_121 (lv_at hl 3 rfl) ?_
                        refine lv_dconst1 hx hb d_Mo_bitsOf_123 ?_
                        refine lv_dcmp hx hb d_Mo_bitsOf_124 ?_
                        refine lv_if_ge (tgt := 133) hx hb d_Mo_bitsOf_125 (by decide) (fun c_125 => ?_) (fun c_125 => ?_)
                        · refine lv_dload hx hb d_Mo_bitsOf_133 (lv_at hl 3 rfl) ?_
                          refine lv_dconst1 hx hb d_Mo_bitsOf_135 ?_
                          refine lv_dsub hx hb d_Mo_bitsOf_136 (dN_n (dN_sub1 hNb)) ?_
                          refine lv_lconst (v := 1) hx hb d_Mo_bitsOf_137 (by decide) ?_
                          refine lv_iload_n hx hb d_Mo_bitsOf_138 rfl (lv_at hl 6 rfl) ?_
                          refine lv_lshl (v := (1 : Int64) <<< ((nI (lw i)).toInt64 &&& 63)) hx hb d_Mo_bitsOf_139 rfl ?_
                          refine lv_l2d hx hb d_Mo_bitsOf_140 ?_
                          refine lv_dmul hx hb d_Mo_bitsOf_141 (dN_n (dN_mulw (dN_sub1 hNb) onz_v)) ?_
                          refine lv_d2l hx hb d_Mo_bitsOf_142 ?_
                          refine lv_lstore (lv' := [(11, .long (FP.d2l (FP.dmul (FP.dsub b9 FP.dconst1) (FP.l2d ((1 : Int64) <<< ((nI (lw i)).toInt64 &&& 63)))))), (9, .long ((((xd xx yy) - (1 - nI (lb i))).toInt64) + 1)), (13, .int (xd xx yy)), (7, .double b9), (0, .ref a0), (1, .double a), (3, .int (nI (lw i))), (4, .int (1 - nI (lb i))), (5, .long (lN (2 * lb i + 1)))]) hx hb d_Mo_bitsOf_143 hl (by decide) rfl (fun ls hl => ?_)
                          refine lv_dload_n hx hb d_Mo_bitsOf_145 rfl (lv_at hl 5 rfl) ?_
                          refine lv_dconst0 hx hb d_Mo_bitsOf_146 ?_
                          refine lv_dcmp hx hb d_Mo_bitsOf_147 ?_
                          refine lv_if_ge (tgt := 160) hx hb d_Mo_bitsOf_148 (by decide) (fun c_148 => ?_) (fun c_148 => ?_)
                          · exact absurd c_148 c_11
                          · refine lv_lload hx hb d_Mo_bitsOf_151 (lv_at hl 8 rfl) ?_
                            refine lv_lconst (v := 1) hx hb d_Mo_bitsOf_153 (by decide) ?_
                            refine lv_ladd hx hb d_Mo_bitsOf_154 ?_
                            refine lv_iload_n hx hb d_Mo_bitsOf_155 rfl (lv_at hl 6 rfl) ?_
                            refine lv_lshl (v := ((lN (2 * lb i + 1)) + 1) <<< ((nI (lw i)).toInt64 &&& 63)) hx hb d_Mo_bitsOf_156 rfl ?_
                            refine lv_goto (tgt := 161) hx hb d_Mo_bitsOf_157 (by decide) ?_
                            refine lv_lload hx hb d_Mo_bitsOf_161 (lv_at hl 1 rfl) ?_
                            refine lv_iload_n hx hb d_Mo_bitsOf_163 rfl (lv_at hl 6 rfl) ?_
                            refine lv_lshl (v := ((((xd xx yy) - (1 - nI (lb i))).toInt64) + 1) <<< ((nI (lw i)).toInt64 &&& 63)) hx hb d_Mo_bitsOf_164 rfl ?_
                            refine lv_lor hx hb d_Mo_bitsOf_165 ?_
                            refine lv_lload hx hb d_Mo_bitsOf_166 (lv_at hl 0 rfl) ?_
                            refine lv_lor hx hb d_Mo_bitsOf_168 ?_
                            have e_v : rbv i (FP.dneg a) = (b9, yy) := by rw [rbv, e_h]; exact e_d
                            have e_e : rbe i (FP.dneg a) = (((xd xx yy) - (1 - nI (lb i))).toInt64) + 1 := by rw [rbe, if_neg c_35, e_v, if_pos c_104, e_h]
                            have e_p : rbp i (FP.dneg a) = FP.d2l (FP.dmul (FP.dsub b9 FP.dconst1) (FP.l2d ((1 : Int64) <<< ((nI (lw i)).toInt64 &&& 63)))) := by rw [rbp, if_neg c_35, e_v, if_pos c_104]
                            exact W.lret (v := ((((lN (2 * lb i + 1)) + 1) <<< ((nI (lw i)).toInt64 &&& 63)) ||| (((((xd xx yy) - (1 - nI (lb i))).toInt64) + 1) <<< ((nI (lw i)).toInt64 &&& 63))) ||| (FP.d2l (FP.dmul (FP.dsub b9 FP.dconst1) (FP.l2d ((1 : Int64) <<< ((nI (lw i)).toInt64 &&& 63)))))) hx hb hr (fun t9 ht9 hW9 => ⟨⟨((((lN (2 * lb i + 1)) + 1) <<< ((nI (lw i)).toInt64 &&& 63)) ||| (((((xd xx yy) - (1 - nI (lb i))).toInt64) + 1) <<< ((nI (lw i)).toInt64 &&& 63))) ||| (FP.d2l (FP.dmul (FP.dsub b9 FP.dconst1) (FP.l2d ((1 : Int64) <<< ((nI (lw i)).toInt64 &&& 63))))), (() : Unit), rfl, by rw [rbo, if_neg c_3, if_neg c_11, e_e, e_p], by rw [ht9]; exact hP.sub [] rfl, va_K.moved hW9.alike hK, hD.sub [] (by decide) rfl⟩, hS.F ht9⟩) hS.2.2 d_Mo_bitsOf_169
                        · exact absurd c_104 c_125
                      · refine lv_lconst (v := 0) hx hb d_Mo_bitsOf_107 (by decide) ?_
                        refine lv_goto (tgt := 119) hx hb d_Mo_bitsOf_108 (by decide) ?_
                        refine lv_lstore (lv' := [(9, .long 0), (13, .int (xd xx yy)), (11, .long 0), (7, .double b9), (0, .ref a0), (1, .double a), (3, .int (nI (lw i))), (4, .int (1 - nI (lb i))), (5, .long (lN (2 * lb i + 1)))]) hx hb d_Mo_bitsOf_119 hl (by decide) rfl (fun ls hl => ?_)
                        refine lv_dload hx hb d_Mo_bitsOf_121 (lv_at hl 3 rfl) ?_
                        refine lv_dconst1 hx hb d_Mo_bitsOf_123 ?_
                        refine lv_dcmp hx hb d_Mo_bitsOf_124 ?_
                        refine lv_if_ge (tgt := 133) hx hb d_Mo_bitsOf_125 (by decide) (fun c_125 => ?_) (fun c_125 => ?_)
                        · exact absurd c_125 c_104
                        · refine lv_dload hx hb d_Mo_bitsOf_128 (lv_at hl 3 rfl) ?_
                          refine lv_goto (tgt := 137) hx hb d_Mo_bitsOf_130 (by decide) ?_
                          refine lv_lconst (v := 1) hx hb d_Mo_bitsOf_137 (by decide) ?_
                          refine lv_iload_n hx hb d_Mo_bitsOf_138 rfl (lv_at hl 6 rfl) ?_
                          refine lv_lshl (v := (1 : Int64) <<< ((nI (lw i)).toInt64 &&& 63)) hx hb d_Mo_bitsOf_139 rfl ?_
                          refine lv_l2d hx hb d_Mo_bitsOf_140 ?_
                          refine lv_dmul hx hb d_Mo_bitsOf_141 (dN_n (dN_mulw hNb onz_v)) ?_
                          refine lv_d2l hx hb d_Mo_bitsOf_142 ?_
                          refine lv_lstore (lv' := [(11, .long (FP.d2l (FP.dmul b9 (FP.l2d ((1 : Int64) <<< ((nI (lw i)).toInt64 &&& 63)))))), (9, .long 0), (13, .int (xd xx yy)), (7, .double b9), (0, .ref a0), (1, .double a), (3, .int (nI (lw i))), (4, .int (1 - nI (lb i))), (5, .long (lN (2 * lb i + 1)))]) hx hb d_Mo_bitsOf_143 hl (by decide) rfl (fun ls hl => ?_)
                          refine lv_dload_n hx hb d_Mo_bitsOf_145 rfl (lv_at hl 5 rfl) ?_
                          refine lv_dconst0 hx hb d_Mo_bitsOf_146 ?_
                          refine lv_dcmp hx hb d_Mo_bitsOf_147 ?_
                          refine lv_if_ge (tgt := 160) hx hb d_Mo_bitsOf_148 (by decide) (fun c_148 => ?_) (fun c_148 => ?_)
                          · exact absurd c_148 c_11
                          · refine lv_lload hx hb d_Mo_bitsOf_151 (lv_at hl 8 rfl) ?_
                            refine lv_lconst (v := 1) hx hb d_Mo_bitsOf_153 (by decide) ?_
                            refine lv_ladd hx hb d_Mo_bitsOf_154 ?_
                            refine lv_iload_n hx hb d_Mo_bitsOf_155 rfl (lv_at hl 6 rfl) ?_
                            refine lv_lshl (v := ((lN (2 * lb i + 1)) + 1) <<< ((nI (lw i)).toInt64 &&& 63)) hx hb d_Mo_bitsOf_156 rfl ?_
                            refine lv_goto (tgt := 161) hx hb d_Mo_bitsOf_157 (by decide) ?_
                            refine lv_lload hx hb d_Mo_bitsOf_161 (lv_at hl 1 rfl) ?_
                            refine lv_iload_n hx hb d_Mo_bitsOf_163 rfl (lv_at hl 6 rfl) ?_
                            refine lv_lshl (v := (0 : Int64) <<< ((nI (lw i)).toInt64 &&& 63)) hx hb d_Mo_bitsOf_164 rfl ?_
                            refine lv_lor hx hb d_Mo_bitsOf_165 ?_
                            refine lv_lload hx hb d_Mo_bitsOf_166 (lv_at hl 0 rfl) ?_
                            refine lv_lor hx hb d_Mo_bitsOf_168 ?_
                            have e_v : rbv i (FP.dneg a) = (b9, yy) := by rw [rbv, e_h]; exact e_d
                            have e_e : rbe i (FP.dneg a) = 0 := by rw [rbe, if_neg c_35, e_v, if_neg c_104]
                            have e_p : rbp i (FP.dneg a) = FP.d2l (FP.dmul b9 (FP.l2d ((1 : Int64) <<< ((nI (lw i)).toInt64 &&& 63)))) := by rw [rbp, if_neg c_35, e_v, if_neg c_104]
                            exact W.lret (v := ((((lN (2 * lb i + 1)) + 1) <<< ((nI (lw i)).toInt64 &&& 63)) ||| ((0 : Int64) <<< ((nI (lw i)).toInt64 &&& 63))) ||| (FP.d2l (FP.dmul b9 (FP.l2d ((1 : Int64) <<< ((nI (lw i)).toInt64 &&& 63)))))) hx hb hr (fun t9 ht9 hW9 => ⟨⟨((((lN (2 * lb i + 1)) + 1) <<< ((nI (lw i)).toInt64 &&& 63)) ||| ((0 : Int64) <<< ((nI (lw i)).toInt64 &&& 63))) ||| (FP.d2l (FP.dmul b9 (FP.l2d ((1 : Int64) <<< ((nI (lw i)).toInt64 &&& 63))))), (() : Unit), rfl, by rw [rbo, if_neg c_3, if_neg c_11, e_e, e_p], by rw [ht9]; exact hP.sub [] rfl, va_K.moved hW9.alike hK, hD.sub [] (by decide) rfl⟩, hS.F ht9⟩) hS.2.2 d_Mo_bitsOf_169
                    · replace c_83 := mt (xd_le hxx hyy).mpr c_83
                      refine lv_dload hx hb d_Mo_bitsOf_86 (lv_at hl 3 rfl) ?_
                      refine lv_ldc2d (v := D2) hx hb hown (hW _ mw_674) d_Mo_bitsOf_88 ?_
                      refine lv_dmul hx hb d_Mo_bitsOf_91 (dN_n (dN_2 hNb)) ?_
                      refine lv_dstore (lv' := [(7, .double (FP.dmul b9 D2)), (13, .int (xd xx yy)), (11, .long 0), (9, .long (lN (2 * lb i + 1))), (0, .ref a0), (1, .double a), (3, .int (nI (lw i))), (4, .int (1 - nI (lb i))), (5, .long (lN (2 * lb i + 1)))]) hx hb d_Mo_bitsOf_92 hl (by decide) rfl (fun ls hl => ?_)
                      refine lv_iinc (v := xd xx (yy + 1)) (lv' := [(13, .int (xd xx (yy + 1))), (7, .double (FP.dmul b9 D2)), (11, .long 0), (9, .long (lN (2 * lb i + 1))), (0, .ref a0), (1, .double a), (3, .int (nI (lw i))), (4, .int (1 - nI (lb i))), (5, .long (lN (2 * lb i + 1)))]) hx hb d_Mo_bitsOf_94 hl (k := 1) rfl (xd_s _ _) (by decide) rfl (fun ls hl => ?_)
                      refine lv_goto (tgt := 72) hx hb d_Mo_bitsOf_97 (by decide) ?_
                      exact ih (yy + 1) (FP.dmul b9 D2) (by omega) (dN_2 hNb) (by rw [← hf1, dv_s (n := xx + lb i - 1 - yy) (by omega) c_76]; rfl) (by rw [← hf2, dv_s (n := xx + lb i - 1 - yy) (by omega) c_76, Nat.add_assoc, Nat.add_comm 1]; rfl) (by omega) H locs (hP.sub [] rfl) (hD.sub [] (by decide) rfl) hS ls (lv_sub hl [0, 2, 3, 1, 4, 5, 6, 7, 8] rfl)
              exact hlp_72 _ 0 a9 (Nat.zero_le _) hNa rfl (Nat.zero_add _) (Nat.lt_succ_self _) H locs (hP.sub [] rfl) (hD.sub [] (by decide) rfl) hS ls (lv_sub hl [0, 1, 2, 3, 4, 5, 6, 7, 8] rfl)
            · refine lv_iload hx hb d_Mo_bitsOf_50 (lv_at hl 0 rfl) ?_
              refine lv_sipush (v := 2000) hx hb d_Mo_bitsOf_52 (by decide) ?_
              refine lv_icmp_ge (tgt := 72) hx hb d_Mo_bitsOf_55 (by decide) (fun c_55 => ?_) (fun c_55 => ?_)
              · replace c_55 := (cg_le 2000 xx rfl rfl (by omega) (by omega)).mp c_55
                have e_h : hv 2000 (FP.dneg a) = (a9, xx) := Prod.ext (by rw [← he1, show 2000 - xx = 0 by omega]; rfl) (by rw [← he2, show 2000 - xx = 0 by omega]; rfl)
                have hlp_72 : ∀ (n : Nat) (yy : Nat) (b9 : UInt64), (yy ≤ xx + lb i - 1) → (dN b9) → ((dv (xx + lb i - 1 - yy) b9).1 = (dv (xx + lb i - 1) a9).1) → (yy + (dv (xx + lb i - 1 - yy) b9).2 = (dv (xx + lb i - 1) a9).2) → xx + lb i - 1 - yy < n → ∀ (H : Heap) (locs : List Loc), va_P D vwCl [] H → va_D A [] → va_S A s.heap H locs → ∀ (ls : Array Slot), lv_has ls 14 [(13, .int (xd xx yy)), (11, .long 0), (9, .long (lN (2 * lb i + 1))), (7, .double b9), (0, .ref a0), (1, .double a), (3, .int (nI (lw i))), (4, .int (1 - nI (lb i))), (5, .long (lN (2 * lb i + 1)))] → W p l e ({ frames := 0, cells := 0, slots := 0, locals := 0 }) s m [.ref a0, .double a, .int (nI (lw i)), .int (1 - nI (lb i)), .long (lN (2 * lb i + 1))].toArray below meth cd H locs 0 0 (MQ below ((fun A => va_Ql (fun (r : Int64) (u : Unit) => r = rbo i a) (xB D vwCl [] (fun u : Unit => []) A) A) A) [.ref a0, .double a, .int (nI (lw i)), .int (1 - nI (lb i)), .long (lN (2 * lb i + 1))].toArray s 0 0 A) (F0 m 72 ls []) := by
                  intro n
                  induction n with
                  | zero => intro yy b9 hyy hNb hf1 hf2 hms; exact absurd hms (Nat.not_lt_zero _)
                  | succ n ih =>
                    intro yy b9 hyy hNb hf1 hf2 hms H locs hP hD hS ls hl
                    refine lv_dload hx hb d_Mo_bitsOf_72 (lv_at hl 3 rfl) ?_
                    refine lv_dconst1 hx hb d_Mo_bitsOf_74 ?_
                    refine lv_dcmp hx hb d_Mo_bitsOf_75 ?_
                    refine lv_if_ge (tgt := 100) hx hb d_Mo_bitsOf_76 (by decide) (fun c_76 => ?_) (fun c_76 => ?_)
                    · have e_d : (dv (xx + lb i - 1) a9) = (b9, yy) := Prod.ext (by rw [← hf1, dv_e c_76]) (by rw [← hf2, dv_e c_76]; rfl)
                      refine lv_dload hx hb d_Mo_bitsOf_100 (lv_at hl 3 rfl) ?_
                      refine lv_dconst1 hx hb d_Mo_bitsOf_102 ?_
                      refine lv_dcmp hx hb d_Mo_bitsOf_103 ?_
                      refine lv_if_ge (tgt := 111) hx hb d_Mo_bitsOf_104 (by decide) (fun c_104 => ?_) (fun c_104 => ?_)
                      · refine lv_iload hx hb d_Mo_bitsOf_111 (lv_at hl 0 rfl) ?_
                        refine lv_iload hx hb d_Mo_bitsOf_113 (lv_at hl 7 rfl) ?_
                        refine lv_isub hx hb d_Mo_bitsOf_115 ?_
                        refine lv_i2l (v := ((xd xx yy) - (1 - nI (lb i))).toInt64) hx hb d_Mo_bitsOf_116 rfl ?_
                        refine lv_lconst (v := 1) hx hb d_Mo_bitsOf_117 (by decide) ?_
                        refine lv_ladd hx hb d_Mo_bitsOf_118 ?_
                        refine lv_lstore (lv' := [(9, .long ((((xd xx yy) - (1 - nI (lb i))).toInt64) + 1)), (13, .int (xd xx yy)), (11, .long 0), (7, .double b9), (0, .ref a0), (1, .double a), (3, .int (nI (lw i))), (4, .int (1 - nI (lb i))), (5, .long (lN (2 * lb i + 1)))]) hx hb d_Mo_bitsOf_119 hl (by decide) rfl (fun ls hl => ?_)
                        refine lv_dload hx hb d_Mo_bitsOf_121 (lv_at hl 3 rfl) ?_
                        refine lv_dconst1 hx hb d_Mo_bitsOf_123 ?_
                        refine lv_dcmp hx hb d_Mo_bitsOf_124 ?_
                        refine lv_if_ge (tgt := 133) hx hb d_Mo_bitsOf_125 (by decide) (fun c_125 => ?_) (fun c_125 => ?_)
                        · refine lv_dload hx hb d_Mo_bitsOf_133 (lv_at hl 3 rfl) ?_
                          refine lv_dconst1 hx hb d_Mo_bitsOf_135 ?_
                          refine lv_dsub hx hb d_Mo_bitsOf_136 (dN_n (dN_sub1 hNb)) ?_
                          refine lv_lconst (v := 1) hx hb d_Mo_bitsOf_137 (by decide) ?_
                          refine lv_iload_n hx hb d_Mo_bitsOf_138 rfl (lv_at hl 6 rfl) ?_
                          refine lv_lshl (v := (1 : Int64) <<< ((nI (lw i)).toInt64 &&& 63)) hx hb d_Mo_bitsOf_139 rfl ?_
                          refine lv_l2d hx hb d_Mo_bitsOf_140 ?_
                          refine lv_dmul hx hb d_Mo_bitsOf_141 (dN_n (dN_mulw (dN_sub1 hNb) onz_v)) ?_
                          refine lv_d2l hx hb d_Mo_bitsOf_142 ?_
                          refine lv_lstore (lv' := [(11, .long (FP.d2l (FP.dmul (FP.dsub b9 FP.dconst1) (FP.l2d ((1 : Int64) <<< ((nI (lw i)).toInt64 &&& 63)))))), (9, .long ((((xd xx yy) - (1 - nI (lb i))).toInt64) + 1)), (13, .int (xd xx yy)), (7, .double b9), (0, .ref a0), (1, .double a), (3, .int (nI (lw i))), (4, .int (1 - nI (lb i))), (5, .long (lN (2 * lb i + 1)))]) hx hb d_Mo_bitsOf_143 hl (by decide) rfl (fun ls hl => ?_)
                          refine lv_dload_n hx hb d_Mo_bitsOf_145 rfl (lv_at hl 5 rfl) ?_
                          refine lv_dconst0 hx hb d_Mo_bitsOf_146 ?_
                          refine lv_dcmp hx hb d_Mo_bitsOf_147 ?_
                          refine lv_if_ge (tgt := 160) hx hb d_Mo_bitsOf_148 (by decide) (fun c_148 => ?_) (fun c_148 => ?_)
                          · exact absurd c_148 c_11
                          · refine lv_lload hx hb d_Mo_bitsOf_151 (lv_at hl 8 rfl) ?_
                            refine lv_lconst (v := 1) hx hb d_Mo_bitsOf_153 (by decide) ?_
                            refine lv_ladd hx hb d_Mo_bitsOf_154 ?_
                            refine lv_iload_n hx hb d_Mo_bitsOf_155 rfl (lv_at hl 6 rfl) ?_
                            refine lv_lshl (v := ((lN (2 * lb i + 1)) + 1) <<< ((nI (lw i)).toInt64 &&& 63)) hx hb d_Mo_bitsOf_156 rfl ?_
                            refine lv_goto (tgt := 161) hx hb d_Mo_bitsOf_157 (by decide) ?_
                            refine lv_lload hx hb d_Mo_bitsOf_161 (lv_at hl 1 rfl) ?_
                            refine lv_iload_n hx hb d_Mo_bitsOf_163 rfl (lv_at hl 6 rfl) ?_
                            refine lv_lshl (v := ((((xd xx yy) - (1 - nI (lb i))).toInt64) + 1) <<< ((nI (lw i)).toInt64 &&& 63)) hx hb d_Mo_bitsOf_164 rfl ?_
                            refine lv_lor hx hb d_Mo_bitsOf_165 ?_
                            refine lv_lload hx hb d_Mo_bitsOf_166 (lv_at hl 0 rfl) ?_
                            refine lv_lor hx hb d_Mo_bitsOf_168 ?_
                            have e_v : rbv i (FP.dneg a) = (b9, yy) := by rw [rbv, e_h]; exact e_d
                            have e_e : rbe i (FP.dneg a) = (((xd xx yy) - (1 - nI (lb i))).toInt64) + 1 := by rw [rbe, if_neg c_35, e_v, if_pos c_104, e_h]
                            have e_p : rbp i (FP.dneg a) = FP.d2l (FP.dmul (FP.dsub b9 FP.dconst1) (FP.l2d ((1 : Int64) <<< ((nI (lw i)).toInt64 &&& 63)))) := by rw [rbp, if_neg c_35, e_v, if_pos c_104]
                            exact W.lret (v := ((((lN (2 * lb i + 1)) + 1) <<< ((nI (lw i)).toInt64 &&& 63)) ||| (((((xd xx yy) - (1 - nI (lb i))).toInt64) + 1) <<< ((nI (lw i)).toInt64 &&& 63))) ||| (FP.d2l (FP.dmul (FP.dsub b9 FP.dconst1) (FP.l2d ((1 : Int64) <<< ((nI (lw i)).toInt64 &&& 63)))))) hx hb hr (fun t9 ht9 hW9 => ⟨⟨((((lN (2 * lb i + 1)) + 1) <<< ((nI (lw i)).toInt64 &&& 63)) ||| (((((xd xx yy) - (1 - nI (lb i))).toInt64) + 1) <<< ((nI (lw i)).toInt64 &&& 63))) ||| (FP.d2l (FP.dmul (FP.dsub b9 FP.dconst1) (FP.l2d ((1 : Int64) <<< ((nI (lw i)).toInt64 &&& 63))))), (() : Unit), rfl, by rw [rbo, if_neg c_3, if_neg c_11, e_e, e_p], by rw [ht9]; exact hP.sub [] rfl, va_K.moved hW9.alike hK, hD.sub [] (by decide) rfl⟩, hS.F ht9⟩) hS.2.2 d_Mo_bitsOf_169
                        · exact absurd c_104 c_125
                      · refine lv_lconst (v := 0) hx hb d_Mo_bitsOf_107 (by decide) ?_
                        refine lv_goto (tgt := 119) hx hb d_Mo_bitsOf_108 (by decide) ?_
                        refine lv_lstore (lv' := [(9, .long 0), (13, .int (xd xx yy)), (11, .long 0), (7, .double b9), (0, .ref a0), (1, .double a), (3, .int (nI (lw i))), (4, .int (1 - nI (lb i))), (5, .long (lN (2 * lb i + 1)))]) hx hb d_Mo_bitsOf_119 hl (by decide) rfl (fun ls hl => ?_)
                        refine lv_dload hx hb d_Mo_bitsOf_121 (lv_at hl 3 rfl) ?_
                        refine lv_dconst1 hx hb d_Mo_bitsOf_123 ?_
                        refine lv_dcmp hx hb d_Mo_bitsOf_124 ?_
                        refine lv_if_ge (tgt := 133) hx hb d_Mo_bitsOf_125 (by decide) (fun c_125 => ?_) (fun c_125 => ?_)
                        · exact absurd c_125 c_104
                        · refine lv_dload hx hb d_Mo_bitsOf_128 (lv_at hl 3 rfl) ?_
                          refine lv_goto (tgt := 137) hx hb d_Mo_bitsOf_130 (by decide) ?_
                          refine lv_lconst (v := 1) hx hb d_Mo_bitsOf_137 (by decide) ?_
                          refine lv_iload_n hx hb d_Mo_bitsOf_138 rfl (lv_at hl 6 rfl) ?_
                          refine lv_lshl (v := (1 : Int64) <<< ((nI (lw i)).toInt64 &&& 63)) hx hb d_Mo_bitsOf_139 rfl ?_
                          refine lv_l2d hx hb d_Mo_bitsOf_140 ?_
                          refine lv_dmul hx hb d_Mo_bitsOf_141 (dN_n (dN_mulw hNb onz_v)) ?_
                          refine lv_d2l hx hb d_Mo_bitsOf_142 ?_
                          refine lv_lstore (lv' := [(11, .long (FP.d2l (FP.dmul b9 (FP.l2d ((1 : Int64) <<< ((nI (lw i)).toInt64 &&& 63)))))), (9, .long 0), (13, .int (xd xx yy)), (7, .double b9), (0, .ref a0), (1, .double a), (3, .int (nI (lw i))), (4, .int (1 - nI (lb i))), (5, .long (lN (2 * lb i + 1)))]) hx hb d_Mo_bitsOf_143 hl (by decide) rfl (fun ls hl => ?_)
                          refine lv_dload_n hx hb d_Mo_bitsOf_145 rfl (lv_at hl 5 rfl) ?_
                          refine lv_dconst0 hx hb d_Mo_bitsOf_146 ?_
                          refine lv_dcmp hx hb d_Mo_bitsOf_147 ?_
                          refine lv_if_ge (tgt := 160) hx hb d_Mo_bitsOf_148 (by decide) (fun c_148 => ?_) (fun c_148 => ?_)
                          · exact absurd c_148 c_11
                          · refine lv_lload hx hb d_Mo_bitsOf_151 (lv_at hl 8 rfl) ?_
                            refine lv_lconst (v := 1) hx hb d_Mo_bitsOf_153 (by decide) ?_
                            refine lv_ladd hx hb d_Mo_bitsOf_154 ?_
                            refine lv_iload_n hx hb d_Mo_bitsOf_155 rfl (lv_at hl 6 rfl) ?_
                            refine lv_lshl (v := ((lN (2 * lb i + 1)) + 1) <<< ((nI (lw i)).toInt64 &&& 63)) hx hb d_Mo_bitsOf_156 rfl ?_
                            refine lv_goto (tgt := 161) hx hb d_Mo_bitsOf_157 (by decide) ?_
                            refine lv_lload hx hb d_Mo_bitsOf_161 (lv_at hl 1 rfl) ?_
                            refine lv_iload_n hx hb d_Mo_bitsOf_163 rfl (lv_at hl 6 rfl) ?_
                            refine lv_lshl (v := (0 : Int64) <<< ((nI (lw i)).toInt64 &&& 63)) hx hb d_Mo_bitsOf_164 rfl ?_
                            refine lv_lor hx hb d_Mo_bitsOf_165 ?_
                            refine lv_lload hx hb d_Mo_bitsOf_166 (lv_at hl 0 rfl) ?_
                            refine lv_lor hx hb d_Mo_bitsOf_168 ?_
                            have e_v : rbv i (FP.dneg a) = (b9, yy) := by rw [rbv, e_h]; exact e_d
                            have e_e : rbe i (FP.dneg a) = 0 := by rw [rbe, if_neg c_35, e_v, if_neg c_104]
                            have e_p : rbp i (FP.dneg a) = FP.d2l (FP.dmul b9 (FP.l2d ((1 : Int64) <<< ((nI (lw i)).toInt64 &&& 63)))) := by rw [rbp, if_neg c_35, e_v, if_neg c_104]
                            exact W.lret (v := ((((lN (2 * lb i + 1)) + 1) <<< ((nI (lw i)).toInt64 &&& 63)) ||| ((0 : Int64) <<< ((nI (lw i)).toInt64 &&& 63))) ||| (FP.d2l (FP.dmul b9 (FP.l2d ((1 : Int64) <<< ((nI (lw i)).toInt64 &&& 63)))))) hx hb hr (fun t9 ht9 hW9 => ⟨⟨((((lN (2 * lb i + 1)) + 1) <<< ((nI (lw i)).toInt64 &&& 63)) ||| ((0 : Int64) <<< ((nI (lw i)).toInt64 &&& 63))) ||| (FP.d2l (FP.dmul b9 (FP.l2d ((1 : Int64) <<< ((nI (lw i)).toInt64 &&& 63))))), (() : Unit), rfl, by rw [rbo, if_neg c_3, if_neg c_11, e_e, e_p], by rw [ht9]; exact hP.sub [] rfl, va_K.moved hW9.alike hK, hD.sub [] (by decide) rfl⟩, hS.F ht9⟩) hS.2.2 d_Mo_bitsOf_169
                    · refine lv_iload hx hb d_Mo_bitsOf_79 (lv_at hl 0 rfl) ?_
                      refine lv_iload hx hb d_Mo_bitsOf_81 (lv_at hl 7 rfl) ?_
                      refine lv_icmp_le (tgt := 100) hx hb d_Mo_bitsOf_83 (by decide) (fun c_83 => ?_) (fun c_83 => ?_)
                      · replace c_83 := (xd_le hxx hyy).mp c_83
                        have e_d : (dv (xx + lb i - 1) a9) = (b9, yy) := Prod.ext (by rw [← hf1, show xx + lb i - 1 - yy = 0 by omega]; rfl) (by rw [← hf2, show xx + lb i - 1 - yy = 0 by omega]; rfl)
                        refine lv_dload hx hb d_Mo_bitsOf_100 (lv_at hl 3 rfl) ?_
                        refine lv_dconst1 hx hb d_Mo_bitsOf_102 ?_
                        refine lv_dcmp hx hb d_Mo_bitsOf_103 ?_
                        refine lv_if_ge (tgt := 111) hx hb d_Mo_bitsOf_104 (by decide) (fun c_104 => ?_) (fun c_104 => ?_)
                        · refine lv_iload hx hb d_Mo_bitsOf_111 (lv_at hl 0 rfl) ?_
                          refine lv_iload hx hb d_Mo_bitsOf_113 (lv_at hl 7 rfl) ?_
                          refine lv_isub hx hb d_Mo_bitsOf_115 ?_
                          refine lv_i2l (v := ((xd xx yy) - (1 - nI (lb i))).toInt64) hx hb d_Mo_bitsOf_116 rfl ?_
                          refine lv_lconst (v := 1) hx hb d_Mo_bitsOf_117 (by decide) ?_
                          refine lv_ladd hx hb d_Mo_bitsOf_118 ?_
                          refine lv_lstore (lv' := [(9, .long ((((xd xx yy) - (1 - nI (lb i))).toInt64) + 1)), (13, .int (xd xx yy)), (11, .long 0), (7, .double b9), (0, .ref a0), (1, .double a), (3, .int (nI (lw i))), (4, .int (1 - nI (lb i))), (5, .long (lN (2 * lb i + 1)))]) hx hb d_Mo_bitsOf_119 hl (by decide) rfl (fun ls hl => ?_)
                          refine lv_dload hx hb d_Mo_bitsOf_121 (lv_at hl 3 rfl) ?_
                          refine lv_dconst1 hx hb d_Mo_bitsOf_123 ?_
                          refine lv_dcmp hx hb d_Mo_bitsOf_124 ?_
                          refine lv_if_ge (tgt := 133) hx hb d_Mo_bitsOf_125 (by decide) (fun c_125 => ?_) (fun c_125 => ?_)
                          · refine lv_dload hx hb d_Mo_bitsOf_133 (lv_at hl 3 rfl) ?_
                            refine lv_dconst1 hx hb d_Mo_bitsOf_135 ?_
                            refine lv_dsub hx hb d_Mo_bitsOf_136 (dN_n (dN_sub1 hNb)) ?_
                            refine lv_lconst (v := 1) hx hb d_Mo_bitsOf_137 (by decide) ?_
                            refine lv_iload_n hx hb d_Mo_bitsOf_138 rfl (lv_at hl 6 rfl) ?_
                            refine lv_lshl (v := (1 : Int64) <<< ((nI (lw i)).toInt64 &&& 63)) hx hb d_Mo_bitsOf_139 rfl ?_
                            refine lv_l2d hx hb d_Mo_bitsOf_140 ?_
                            refine lv_dmul hx hb d_Mo_bitsOf_141 (dN_n (dN_mulw (dN_sub1 hNb) onz_v)) ?_
                            refine lv_d2l hx hb d_Mo_bitsOf_142 ?_
                            refine lv_lstore (lv' := [(11, .long (FP.d2l (FP.dmul (FP.dsub b9 FP.dconst1) (FP.l2d ((1 : Int64) <<< ((nI (lw i)).toInt64 &&& 63)))))), (9, .long ((((xd xx yy) - (1 - nI (lb i))).toInt64) + 1)), (13, .int (xd xx yy)), (7, .double b9), (0, .ref a0), (1, .double a), (3, .int (nI (lw i))), (4, .int (1 - nI (lb i))), (5, .long (lN (2 * lb i + 1)))]) hx hb d_Mo_bitsOf_143 hl (by decide) rfl (fun ls hl => ?_)
                            refine lv_dload_n hx hb d_Mo_bitsOf_145 rfl (lv_at hl 5 rfl) ?_
                            refine lv_dconst0 hx hb d_Mo_bitsOf_146 ?_
                            refine lv_dcmp hx hb d_Mo_bitsOf_147 ?_
                            refine lv_if_ge (tgt := 160) hx hb d_Mo_bitsOf_148 (by decide) (fun c_148 => ?_) (fun c_148 => ?_)
                            · exact absurd c_148 c_11
                            · refine lv_lload hx hb d_Mo_bitsOf_151 (lv_at hl 8 rfl) ?_
                              refine lv_lconst (v := 1) hx hb d_Mo_bitsOf_153 (by decide) ?_
                              refine lv_ladd hx hb d_Mo_bitsOf_154 ?_
                              refine lv_iload_n hx hb d_Mo_bitsOf_155 rfl (lv_at hl 6 rfl) ?_
                              refine lv_lshl (v := ((lN (2 * lb i + 1)) + 1) <<< ((nI (lw i)).toInt64 &&& 63)) hx hb d_Mo_bitsOf_156 rfl ?_
                              refine lv_goto (tgt := 161) hx hb d_Mo_bitsOf_157 (by decide) ?_
                              refine lv_lload hx hb d_Mo_bitsOf_161 (lv_at hl 1 rfl) ?_
                              refine lv_iload_n hx hb d_Mo_bitsOf_163 rfl (lv_at hl 6 rfl) ?_
                              refine lv_lshl (v := ((((xd xx yy) - (1 - nI (lb i))).toInt64) + 1) <<< ((nI (lw i)).toInt64 &&& 63)) hx hb d_Mo_bitsOf_164 rfl ?_
                              refine lv_lor hx hb d_Mo_bitsOf_165 ?_
                              refine lv_lload hx hb d_Mo_bitsOf_166 (lv_at hl 0 rfl) ?_
                              refine lv_lor hx hb d_Mo_bitsOf_168 ?_
                              have e_v : rbv i (FP.dneg a) = (b9, yy) := by rw [rbv, e_h]; exact e_d
                              have e_e : rbe i (FP.dneg a) = (((xd xx yy) - (1 - nI (lb i))).toInt64) + 1 := by rw [rbe, if_neg c_35, e_v, if_pos c_104, e_h]
                              have e_p : rbp i (FP.dneg a) = FP.d2l (FP.dmul (FP.dsub b9 FP.dconst1) (FP.l2d ((1 : Int64) <<< ((nI (lw i)).toInt64 &&& 63)))) := by rw [rbp, if_neg c_35, e_v, if_pos c_104]
                              exact W.lret (v := ((((lN (2 * lb i + 1)) + 1) <<< ((nI (lw i)).toInt64 &&& 63)) ||| (((((xd xx yy) - (1 - nI (lb i))).toInt64) + 1) <<< ((nI (lw i)).toInt64 &&& 63))) ||| (FP.d2l (FP.dmul (FP.dsub b9 FP.dconst1) (FP.l2d ((1 : Int64) <<< ((nI (lw i)).toInt64 &&& 63)))))) hx hb hr (fun t9 ht9 hW9 => ⟨⟨((((lN (2 * lb i + 1)) + 1) <<< ((nI (lw i)).toInt64 &&& 63)) ||| (((((xd xx yy) - (1 - nI (lb i))).toInt64) + 1) <<< ((nI (lw i)).toInt64 &&& 63))) ||| (FP.d2l (FP.dmul (FP.dsub b9 FP.dconst1) (FP.l2d ((1 : Int64) <<< ((nI (lw i)).toInt64 &&& 63))))), (() : Unit), rfl, by rw [rbo, if_neg c_3, if_neg c_11, e_e, e_p], by rw [ht9]; exact hP.sub [] rfl, va_K.moved hW9.alike hK, hD.sub [] (by decide) rfl⟩, hS.F ht9⟩) hS.2.2 d_Mo_bitsOf_169
                          · exact absurd c_104 c_125
                        · refine lv_lconst (v := 0) hx hb d_Mo_bitsOf_107 (by decide) ?_
                          refine lv_goto (tgt := 119) hx hb d_Mo_bitsOf_108 (by decide) ?_
                          refine lv_lstore (lv' := [(9, .long 0), (13, .int (xd xx yy)), (11, .long 0), (7, .double b9), (0, .ref a0), (1, .double a), (3, .int (nI (lw i))), (4, .int (1 - nI (lb i))), (5, .long (lN (2 * lb i + 1)))]) hx hb d_Mo_bitsOf_119 hl (by decide) rfl (fun ls hl => ?_)
                          refine lv_dload hx hb d_Mo_bitsOf_121 (lv_at hl 3 rfl) ?_
                          refine lv_dconst1 hx hb d_Mo_bitsOf_123 ?_
                          refine lv_dcmp hx hb d_Mo_bitsOf_124 ?_
                          refine lv_if_ge (tgt := 133) hx hb d_Mo_bitsOf_125 (by decide) (fun c_125 => ?_) (fun c_125 => ?_)
                          · exact absurd c_125 c_104
                          · refine lv_dload hx hb d_Mo_bitsOf_128 (lv_at hl 3 rfl) ?_
                            refine lv_goto (tgt := 137) hx hb d_Mo_bitsOf_130 (by decide) ?_
                            refine lv_lconst (v := 1) hx hb d_Mo_bitsOf_137 (by decide) ?_
                            refine lv_iload_n hx hb d_Mo_bitsOf_138 rfl (lv_at hl 6 rfl) ?_
                            refine lv_lshl (v := (1 : Int64) <<< ((nI (lw i)).toInt64 &&& 63)) hx hb d_Mo_bitsOf_139 rfl ?_
                            refine lv_l2d hx hb d_Mo_bitsOf_140 ?_
                            refine lv_dmul hx hb d_Mo_bitsOf_141 (dN_n (dN_mulw hNb onz_v)) ?_
                            refine lv_d2l hx hb d_Mo_bitsOf_142 ?_
                            refine lv_lstore (lv' := [(11, .long (FP.d2l (FP.dmul b9 (FP.l2d ((1 : Int64) <<< ((nI (lw i)).toInt64 &&& 63)))))), (9, .long 0), (13, .int (xd xx yy)), (7, .double b9), (0, .ref a0), (1, .double a), (3, .int (nI (lw i))), (4, .int (1 - nI (lb i))), (5, .long (lN (2 * lb i + 1)))]) hx hb d_Mo_bitsOf_143 hl (by decide) rfl (fun ls hl => ?_)
                            refine lv_dload_n hx hb d_Mo_bitsOf_145 rfl (lv_at hl 5 rfl) ?_
                            refine lv_dconst0 hx hb d_Mo_bitsOf_146 ?_
                            refine lv_dcmp hx hb d_Mo_bitsOf_147 ?_
                            refine lv_if_ge (tgt := 160) hx hb d_Mo_bitsOf_148 (by decide) (fun c_148 => ?_) (fun c_148 => ?_)
                            · exact absurd c_148 c_11
                            · refine lv_lload hx hb d_Mo_bitsOf_151 (lv_at hl 8 rfl) ?_
                              refine lv_lconst (v := 1) hx hb d_Mo_bitsOf_153 (by decide) ?_
                              refine lv_ladd hx hb d_Mo_bitsOf_154 ?_
                              refine lv_iload_n hx hb d_Mo_bitsOf_155 rfl (lv_at hl 6 rfl) ?_
                              refine lv_lshl (v := ((lN (2 * lb i + 1)) + 1) <<< ((nI (lw i)).toInt64 &&& 63)) hx hb d_Mo_bitsOf_156 rfl ?_
                              refine lv_goto (tgt := 161) hx hb d_Mo_bitsOf_157 (by decide) ?_
                              refine lv_lload hx hb d_Mo_bitsOf_161 (lv_at hl 1 rfl) ?_
                              refine lv_iload_n hx hb d_Mo_bitsOf_163 rfl (lv_at hl 6 rfl) ?_
                              refine lv_lshl (v := (0 : Int64) <<< ((nI (lw i)).toInt64 &&& 63)) hx hb d_Mo_bitsOf_164 rfl ?_
                              refine lv_lor hx hb d_Mo_bitsOf_165 ?_
                              refine lv_lload hx hb d_Mo_bitsOf_166 (lv_at hl 0 rfl) ?_
                              refine lv_lor hx hb d_Mo_bitsOf_168 ?_
                              have e_v : rbv i (FP.dneg a) = (b9, yy) := by rw [rbv, e_h]; exact e_d
                              have e_e : rbe i (FP.dneg a) = 0 := by rw [rbe, if_neg c_35, e_v, if_neg c_104]
                              have e_p : rbp i (FP.dneg a) = FP.d2l (FP.dmul b9 (FP.l2d ((1 : Int64) <<< ((nI (lw i)).toInt64 &&& 63)))) := by rw [rbp, if_neg c_35, e_v, if_neg c_104]
                              exact W.lret (v := ((((lN (2 * lb i + 1)) + 1) <<< ((nI (lw i)).toInt64 &&& 63)) ||| ((0 : Int64) <<< ((nI (lw i)).toInt64 &&& 63))) ||| (FP.d2l (FP.dmul b9 (FP.l2d ((1 : Int64) <<< ((nI (lw i)).toInt64 &&& 63)))))) hx hb hr (fun t9 ht9 hW9 => ⟨⟨((((lN (2 * lb i + 1)) + 1) <<< ((nI (lw i)).toInt64 &&& 63)) ||| ((0 : Int64) <<< ((nI (lw i)).toInt64 &&& 63))) ||| (FP.d2l (FP.dmul b9 (FP.l2d ((1 : Int64) <<< ((nI (lw i)).toInt64 &&& 63))))), (() : Unit), rfl, by rw [rbo, if_neg c_3, if_neg c_11, e_e, e_p], by rw [ht9]; exact hP.sub [] rfl, va_K.moved hW9.alike hK, hD.sub [] (by decide) rfl⟩, hS.F ht9⟩) hS.2.2 d_Mo_bitsOf_169
                      · replace c_83 := mt (xd_le hxx hyy).mpr c_83
                        refine lv_dload hx hb d_Mo_bitsOf_86 (lv_at hl 3 rfl) ?_
                        refine lv_ldc2d (v := D2) hx hb hown (hW _ mw_674) d_Mo_bitsOf_88 ?_
                        refine lv_dmul hx hb d_Mo_bitsOf_91 (dN_n (dN_2 hNb)) ?_
                        refine lv_dstore (lv' := [(7, .double (FP.dmul b9 D2)), (13, .int (xd xx yy)), (11, .long 0), (9, .long (lN (2 * lb i + 1))), (0, .ref a0), (1, .double a), (3, .int (nI (lw i))), (4, .int (1 - nI (lb i))), (5, .long (lN (2 * lb i + 1)))]) hx hb d_Mo_bitsOf_92 hl (by decide) rfl (fun ls hl => ?_)
                        refine lv_iinc (v := xd xx (yy + 1)) (lv' := [(13, .int (xd xx (yy + 1))), (7, .double (FP.dmul b9 D2)), (11, .long 0), (9, .long (lN (2 * lb i + 1))), (0, .ref a0), (1, .double a), (3, .int (nI (lw i))), (4, .int (1 - nI (lb i))), (5, .long (lN (2 * lb i + 1)))]) hx hb d_Mo_bitsOf_94 hl (k := 1) rfl (xd_s _ _) (by decide) rfl (fun ls hl => ?_)
                        refine lv_goto (tgt := 72) hx hb d_Mo_bitsOf_97 (by decide) ?_
                        exact ih (yy + 1) (FP.dmul b9 D2) (by omega) (dN_2 hNb) (by rw [← hf1, dv_s (n := xx + lb i - 1 - yy) (by omega) c_76]; rfl) (by rw [← hf2, dv_s (n := xx + lb i - 1 - yy) (by omega) c_76, Nat.add_assoc, Nat.add_comm 1]; rfl) (by omega) H locs (hP.sub [] rfl) (hD.sub [] (by decide) rfl) hS ls (lv_sub hl [0, 2, 3, 1, 4, 5, 6, 7, 8] rfl)
                exact hlp_72 _ 0 a9 (Nat.zero_le _) hNa rfl (Nat.zero_add _) (Nat.lt_succ_self _) H locs (hP.sub [] rfl) (hD.sub [] (by decide) rfl) hS ls (lv_sub hl [0, 1, 2, 3, 4, 5, 6, 7, 8] rfl)
              · replace c_55 := mt (cg_le 2000 xx rfl rfl (by omega) (by omega)).mpr c_55
                refine lv_dload hx hb d_Mo_bitsOf_58 (lv_at hl 3 rfl) ?_
                refine lv_ldc2d (v := DH) hx hb hown (hW _ mw_675) d_Mo_bitsOf_60 ?_
                refine lv_dmul hx hb d_Mo_bitsOf_63 (dN_n (dN_H hNa)) ?_
                refine lv_dstore (lv' := [(7, .double (FP.dmul a9 DH)), (13, .int (nI xx)), (11, .long 0), (9, .long (lN (2 * lb i + 1))), (0, .ref a0), (1, .double a), (3, .int (nI (lw i))), (4, .int (1 - nI (lb i))), (5, .long (lN (2 * lb i + 1)))]) hx hb d_Mo_bitsOf_64 hl (by decide) rfl (fun ls hl => ?_)
                refine lv_iinc (v := nI (xx + 1)) (lv' := [(13, .int (nI (xx + 1))), (7, .double (FP.dmul a9 DH)), (11, .long 0), (9, .long (lN (2 * lb i + 1))), (0, .ref a0), (1, .double a), (3, .int (nI (lw i))), (4, .int (1 - nI (lb i))), (5, .long (lN (2 * lb i + 1)))]) hx hb d_Mo_bitsOf_66 hl (k := 1) rfl (nI_1 _) (by decide) rfl (fun ls hl => ?_)
                refine lv_goto (tgt := 41) hx hb d_Mo_bitsOf_69 (by decide) ?_
                exact ih (xx + 1) (FP.dmul a9 DH) (by omega) (dN_H hNa) (by rw [← he1, hv_s (n := 2000 - xx) (by omega) c_47]; rfl) (by rw [← he2, hv_s (n := 2000 - xx) (by omega) c_47, Nat.add_assoc, Nat.add_comm 1]; rfl) (by omega) H locs (hP.sub [] rfl) (hD.sub [] (by decide) rfl) hS ls (lv_sub hl [0, 2, 3, 1, 4, 5, 6, 7, 8] rfl)
        exact hlp_41 _ 0 (FP.dneg a) (Nat.zero_le _) (dN_neg hn) rfl (Nat.zero_add _) (Nat.lt_succ_self _) s.heap [] (hP.sub [] rfl) (hD.sub [] (by decide) rfl) hS ls (lv_sub hl [0, 1, 2, 3, 4, 5, 6, 7, 8] rfl)
  · refine lv_lconst (v := 0) hx hb d_Mo_bitsOf_6 (by decide) ?_
    exact W.lret (v := 0) hx hb hr (fun t9 ht9 hW9 => ⟨⟨0, (() : Unit), rfl, by rw [rbo, if_pos c_3], by rw [ht9]; exact hP.sub [] rfl, va_K.moved hW9.alike hK, hD.sub [] (by decide) rfl⟩, hS.F ht9⟩) hS.2.2 d_Mo_bitsOf_7
set_option maxHeartbeats 4000000 in
set_option maxRecDepth 100000 in
theorem k_Mo_writeFloat (l : Launch) (D : va_G) (g : GP) (a0 al aw ac ag am : Nat) (cI : ClassId) (o : OS) (c : CS) (f : Nat → Int32) (b : Bool) (k : Int32) (t : T3) (en : Nat) (gt md : Nat → Int32) (v : UInt32) (r9 : Int32) (ho : o_ok o) (hpv : o_pv o) (hk1 : o.2.2.2.1 < 1024) (hn : fN v) (hs : r9.toInt.natAbs ≤ 300) (sz : Nat) : Met l y_Mo_writeFloat (.code y_Mo_writeFloat c_Mo_writeFloat 5 (some .int) :: xW) ({ frames := 4, cells := 0, slots := 0, locals := 87 }) (xPc (gZ g) D vwCl [.ref a0, .float v, .int r9] [(a0, .inr (4, [.ref al, .int (nI o.2.1), .ref aw, .int (nI o.2.2.2.1), .int (bI o.2.2.2.2), .ref ac, .int (nI c.1), .int (nI c.2.1), .int c.2.2.1, .int (bI c.2.2.2), .int (bI b), .int k, .int (nI t.1), .int (nI t.2.1), .int t.2.2, .int (nI en), .ref ag, .ref am])), (al, .inl (cI, 1600, .inl o.1)), (aw, .inl (cI, 1024, .inl o.2.2.1)), (ac, .inl (cI, 40, .inl f)), (ag, .inl (cI, 1600, .inl gt)), (am, .inl (cI, 40, .inl md))] [(cI, .int)] sz) (va_Qi (fun (r : Int32) (u : OS × Int32) => r = w_res o 4 ∧ u = (w_num o (rbo 0 (FP.f2d (scF v r9))) 4, 0)) (xB D vwCl [(cI, .int)] (fun u : OS × Int32 => [(a0, .inr (4, [.ref al, .int (nI u.1.2.1), .ref aw, .int (nI u.1.2.2.2.1), .int (bI u.1.2.2.2.2), .ref ac, .int (nI c.1), .int (nI c.2.1), .int c.2.2.1, .int (bI c.2.2.2), .int (bI b), .int u.2, .int (nI t.1), .int (nI t.2.1), .int t.2.2, .int (nI en), .ref ag, .ref am])), (al, .inl (cI, 1600, .inl u.1.1)), (aw, .inl (cI, 1024, .inl u.1.2.2.1)), (ac, .inl (cI, 40, .inl f)), (ag, .inl (cI, 1600, .inl gt)), (am, .inl (cI, 40, .inl md))]) (va_A [(a0, .inr (4, [.ref al, .int (nI o.2.1), .ref aw, .int (nI o.2.2.2.1), .int (bI o.2.2.2.2), .ref ac, .int (nI c.1), .int (nI c.2.1), .int c.2.2.1, .int (bI c.2.2.2), .int (bI b), .int k, .int (nI t.1), .int (nI t.2.1), .int t.2.2, .int (nI en), .ref ag, .ref am])), (al, .inl (cI, 1600, .inl o.1)), (aw, .inl (cI, 1024, .inl o.2.2.1)), (ac, .inl (cI, 40, .inl f)), (ag, .inl (cI, 1600, .inl gt)), (am, .inl (cI, 40, .inl md))] sz)) (va_A [(a0, .inr (4, [.ref al, .int (nI o.2.1), .ref aw, .int (nI o.2.2.2.1), .int (bI o.2.2.2.2), .ref ac, .int (nI c.1), .int (nI c.2.1), .int c.2.2.1, .int (bI c.2.2.2), .int (bI b), .int k, .int (nI t.1), .int (nI t.2.1), .int t.2.2, .int (nI en), .ref ag, .ref am])), (al, .inl (cI, 1600, .inl o.1)), (aw, .inl (cI, 1024, .inl o.2.2.1)), (ac, .inl (cI, 40, .inl f)), (ag, .inl (cI, 1600, .inl gt)), (am, .inl (cI, 40, .inl md))] sz)) 0 0 (va_A [(a0, .inr (4, [.ref al, .int (nI o.2.1), .ref aw, .int (nI o.2.2.2.1), .int (bI o.2.2.2.2), .ref ac, .int (nI c.1), .int (nI c.2.1), .int c.2.2.1, .int (bI c.2.2.2), .int (bI b), .int k, .int (nI t.1), .int (nI t.2.1), .int t.2.2, .int (nI en), .ref ag, .ref am])), (al, .inl (cI, 1600, .inl o.1)), (aw, .inl (cI, 1024, .inl o.2.2.1)), (ac, .inl (cI, 40, .inl f)), (ag, .inl (cI, 1600, .inl gt)), (am, .inl (cI, 40, .inl md))] sz) := by
  refine x_open (Qc := fun A => va_Qi (fun (r : Int32) (u : OS × Int32) => r = w_res o 4 ∧ u = (w_num o (rbo 0 (FP.f2d (scF v r9))) 4, 0)) (xB D vwCl [(cI, .int)] (fun u : OS × Int32 => [(a0, .inr (4, [.ref al, .int (nI u.1.2.1), .ref aw, .int (nI u.1.2.2.2.1), .int (bI u.1.2.2.2.2), .ref ac, .int (nI c.1), .int (nI c.2.1), .int c.2.2.1, .int (bI c.2.2.2), .int (bI b), .int u.2, .int (nI t.1), .int (nI t.2.1), .int t.2.2, .int (nI en), .ref ag, .ref am])), (al, .inl (cI, 1600, .inl u.1.1)), (aw, .inl (cI, 1024, .inl u.1.2.2.1)), (ac, .inl (cI, 40, .inl f)), (ag, .inl (cI, 1600, .inl gt)), (am, .inl (cI, 40, .inl md))]) A) A) (cc := c_Mo_writeFloat) (maxL := 5) (ret := (some .int)) (own := R_Mo) (by decide) rfl rfl (Nat.le_of_ble_eq_true rfl) ?_
  intro p e s m below meth cd A ls hsz hAe hx hb hr hml hown hts hlk hnm hA hP hK hD hS hZ hl
  clear hsz hAe
  have hW : ∀ w ∈ xW, w.before _ s = true := fun w h => hts w (List.mem_cons_of_mem _ h)
  have hl : lv_has ls 5 [(0, .ref a0), (1, .float v), (2, .int r9)] := hl
  refine lv_aload_n hx hb d_Mo_writeFloat_0 rfl (lv_at hl 0 rfl) ?_
  refine lv_iconst (v := 0) hx hb d_Mo_writeFloat_1 (by decide) ?_
  refine va_put (D := D) (ci := 4) (v := .int 0) (ty := .int) (C := R_Mo) (T := F_Mo) (N := 18) hx hb hW in_Mo t_Mo t_Mo_ok nm_Mo hown hK hP hD hS 0 rfl rfl 11 (by decide) (hW _ mw_575) (fun _ h9 => h9) rfl (by decide +kernel) (rfl) (rfl) (Nat.le_of_ble_eq_true rfl) d_Mo_writeFloat_2 (fun H locs hP hD hS => ?_)
  have hP : va_P D vwCl [(a0, .inr (4, [.ref al, .int (nI o.2.1), .ref aw, .int (nI o.2.2.2.1), .int (bI o.2.2.2.2), .ref ac, .int (nI c.1), .int (nI c.2.1), .int c.2.2.1, .int (bI c.2.2.2), .int (bI b), .int 0, .int (nI t.1), .int (nI t.2.1), .int t.2.2, .int (nI en), .ref ag, .ref am])), (al, .inl (cI, 1600, .inl o.1)), (aw, .inl (cI, 1024, .inl o.2.2.1)), (ac, .inl (cI, 40, .inl f)), (ag, .inl (cI, 1600, .inl gt)), (am, .inl (cI, 40, .inl md))] H := hP
  have hD : va_D A [(a0, .inr (4, [.ref al, .int (nI o.2.1), .ref aw, .int (nI o.2.2.2.1), .int (bI o.2.2.2.2), .ref ac, .int (nI c.1), .int (nI c.2.1), .int c.2.2.1, .int (bI c.2.2.2), .int (bI b), .int 0, .int (nI t.1), .int (nI t.2.1), .int t.2.2, .int (nI en), .ref ag, .ref am])), (al, .inl (cI, 1600, .inl o.1)), (aw, .inl (cI, 1024, .inl o.2.2.1)), (ac, .inl (cI, 40, .inl f)), (ag, .inl (cI, 1600, .inl gt)), (am, .inl (cI, 40, .inl md))] := hD
  refine lv_iload_n hx hb d_Mo_writeFloat_5 rfl (lv_at hl 2 rfl) ?_
  refine lv_sipush (v := -300) hx hb d_Mo_writeFloat_6 (by decide) ?_
  refine lv_icmp_lt (tgt := 19) hx hb d_Mo_writeFloat_9 (by decide) (fun c_9 => ?_) (fun c_9 => ?_)
  · exact absurd c_9 (by rw [Int32.lt_iff_toInt_lt]; show ¬ r9.toInt < -300; omega)
  · refine lv_iload_n hx hb d_Mo_writeFloat_12 rfl (lv_at hl 2 rfl) ?_
    refine lv_sipush (v := 300) hx hb d_Mo_writeFloat_13 (by decide) ?_
    refine lv_icmp_le (tgt := 25) hx hb d_Mo_writeFloat_16 (by decide) (fun c_16 => ?_) (fun c_16 => ?_)
    · refine lv_fload_n hx hb d_Mo_writeFloat_25 rfl (lv_at hl 1 rfl) ?_
      refine lv_fstore_n (lv' := [(3, .float v), (0, .ref a0), (1, .float v), (2, .int r9)]) hx hb d_Mo_writeFloat_26 rfl hl (by decide) rfl (fun ls hl => ?_)
      refine lv_iconst (v := 0) hx hb d_Mo_writeFloat_27 (by decide) ?_
      refine lv_istore (lv' := [(4, .int 0), (3, .float v), (0, .ref a0), (1, .float v), (2, .int r9)]) hx hb d_Mo_writeFloat_28 hl (by decide) rfl (fun ls hl => ?_)
      have hlp_30 : ∀ (n : Nat) (jj : Nat) (ww : UInt32), (jj ≤ (r9).toInt.toNat) → (fN ww) → (sfl FP.fconst2 ((r9).toInt.toNat - jj) ww = sfl FP.fconst2 (r9).toInt.toNat (v)) → (r9).toInt.toNat - jj < n → ∀ (H : Heap) (locs : List Loc), va_P D vwCl [(a0, .inr (4, [.ref al, .int (nI o.2.1), .ref aw, .int (nI o.2.2.2.1), .int (bI o.2.2.2.2), .ref ac, .int (nI c.1), .int (nI c.2.1), .int c.2.2.1, .int (bI c.2.2.2), .int (bI b), .int 0, .int (nI t.1), .int (nI t.2.1), .int t.2.2, .int (nI en), .ref ag, .ref am])), (al, .inl (cI, 1600, .inl o.1)), (aw, .inl (cI, 1024, .inl o.2.2.1)), (ac, .inl (cI, 40, .inl f)), (ag, .inl (cI, 1600, .inl gt)), (am, .inl (cI, 40, .inl md))] H → va_D A [(a0, .inr (4, [.ref al, .int (nI o.2.1), .ref aw, .int (nI o.2.2.2.1), .int (bI o.2.2.2.2), .ref ac, .int (nI c.1), .int (nI c.2.1), .int c.2.2.1, .int (bI c.2.2.2), .int (bI b), .int 0, .int (nI t.1), .int (nI t.2.1), .int t.2.2, .int (nI en), .ref ag, .ref am])), (al, .inl (cI, 1600, .inl o.1)), (aw, .inl (cI, 1024, .inl o.2.2.1)), (ac, .inl (cI, 40, .inl f)), (ag, .inl (cI, 1600, .inl gt)), (am, .inl (cI, 40, .inl md))] → va_S A s.heap H locs → ∀ (ls : Array Slot), lv_has ls 5 [(4, .int (nI jj)), (3, .float ww), (0, .ref a0), (1, .float v), (2, .int r9)] → W p l e ({ frames := 4, cells := 0, slots := 0, locals := 87 }) s m [.ref a0, .float v, .int r9].toArray below meth cd H locs 0 0 (MQ below ((fun A => va_Qi (fun (r : Int32) (u : OS × Int32) => r = w_res o 4 ∧ u = (w_num o (rbo 0 (FP.f2d (scF v r9))) 4, 0)) (xB D vwCl [(cI, .int)] (fun u : OS × Int32 => [(a0, .inr (4, [.ref al, .int (nI u.1.2.1), .ref aw, .int (nI u.1.2.2.2.1), .int (bI u.1.2.2.2.2), .ref ac, .int (nI c.1), .int (nI c.2.1), .int c.2.2.1, .int (bI c.2.2.2), .int (bI b), .int u.2, .int (nI t.1), .int (nI t.2.1), .int t.2.2, .int (nI en), .ref ag, .ref am])), (al, .inl (cI, 1600, .inl u.1.1)), (aw, .inl (cI, 1024, .inl u.1.2.2.1)), (ac, .inl (cI, 40, .inl f)), (ag, .inl (cI, 1600, .inl gt)), (am, .inl (cI, 40, .inl md))]) A) A) A) [.ref a0, .float v, .int r9].toArray s 0 0 A) (F0 m 30 ls []) := by
        intro n
        induction n with
        | zero => intro jj ww hj hNw he hms; exact absurd hms (Nat.not_lt_zero _)
        | succ n ih =>
          intro jj ww hj hNw he hms H locs hP hD hS ls hl
          refine lv_iload hx hb d_Mo_writeFloat_30 (lv_at hl 0 rfl) ?_
          refine lv_iload_n hx hb d_Mo_writeFloat_32 rfl (lv_at hl 4 rfl) ?_
          refine lv_icmp_ge (tgt := 46) hx hb d_Mo_writeFloat_33 (by decide) (fun c_33 => ?_) (fun c_33 => ?_)
          · replace c_33 := (up_ge hj).mp c_33
            refine lv_iconst (v := 0) hx hb d_Mo_writeFloat_46 (by decide) ?_
            refine lv_istore (lv' := [(4, .int 0), (3, .float ww), (0, .ref a0), (1, .float v), (2, .int r9)]) hx hb d_Mo_writeFloat_47 hl (by decide) rfl (fun ls hl => ?_)
            have hlp_49 : ∀ (n : Nat) (kk : Nat) (uu : UInt32), (kk ≤ (-(r9).toInt).toNat) → (fN uu) → (sfl FH ((-(r9).toInt).toNat - kk) uu = sfl FH (-(r9).toInt).toNat ww) → (-(r9).toInt).toNat - kk < n → ∀ (H : Heap) (locs : List Loc), va_P D vwCl [(a0, .inr (4, [.ref al, .int (nI o.2.1), .ref aw, .int (nI o.2.2.2.1), .int (bI o.2.2.2.2), .ref ac, .int (nI c.1), .int (nI c.2.1), .int c.2.2.1, .int (bI c.2.2.2), .int (bI b), .int 0, .int (nI t.1), .int (nI t.2.1), .int t.2.2, .int (nI en), .ref ag, .ref am])), (al, .inl (cI, 1600, .inl o.1)), (aw, .inl (cI, 1024, .inl o.2.2.1)), (ac, .inl (cI, 40, .inl f)), (ag, .inl (cI, 1600, .inl gt)), (am, .inl (cI, 40, .inl md))] H → va_D A [(a0, .inr (4, [.ref al, .int (nI o.2.1), .ref aw, .int (nI o.2.2.2.1), .int (bI o.2.2.2.2), .ref ac, .int (nI c.1), .int (nI c.2.1), .int c.2.2.1, .int (bI c.2.2.2), .int (bI b), .int 0, .int (nI t.1), .int (nI t.2.1), .int t.2.2, .int (nI en), .ref ag, .ref am])), (al, .inl (cI, 1600, .inl o.1)), (aw, .inl (cI, 1024, .inl o.2.2.1)), (ac, .inl (cI, 40, .inl f)), (ag, .inl (cI, 1600, .inl gt)), (am, .inl (cI, 40, .inl md))] → va_S A s.heap H locs → ∀ (ls : Array Slot), lv_has ls 5 [(4, .int (nd kk)), (3, .float uu), (0, .ref a0), (1, .float v), (2, .int r9)] → W p l e ({ frames := 4, cells := 0, slots := 0, locals := 87 }) s m [.ref a0, .float v, .int r9].toArray below meth cd H locs 0 0 (MQ below ((fun A => va_Qi (fun (r : Int32) (u : OS × Int32) => r = w_res o 4 ∧ u = (w_num o (rbo 0 (FP.f2d (scF v r9))) 4, 0)) (xB D vwCl [(cI, .int)] (fun u : OS × Int32 => [(a0, .inr (4, [.ref al, .int (nI u.1.2.1), .ref aw, .int (nI u.1.2.2.2.1), .int (bI u.1.2.2.2.2), .ref ac, .int (nI c.1), .int (nI c.2.1), .int c.2.2.1, .int (bI c.2.2.2), .int (bI b), .int u.2, .int (nI t.1), .int (nI t.2.1), .int t.2.2, .int (nI en), .ref ag, .ref am])), (al, .inl (cI, 1600, .inl u.1.1)), (aw, .inl (cI, 1024, .inl u.1.2.2.1)), (ac, .inl (cI, 40, .inl f)), (ag, .inl (cI, 1600, .inl gt)), (am, .inl (cI, 40, .inl md))]) A) A) A) [.ref a0, .float v, .int r9].toArray s 0 0 A) (F0 m 49 ls []) := by
              intro n
              induction n with
              | zero => intro kk uu hk hNu hg hms; exact absurd hms (Nat.not_lt_zero _)
              | succ n ih =>
                intro kk uu hk hNu hg hms H locs hP hD hS ls hl
                refine lv_iload hx hb d_Mo_writeFloat_49 (lv_at hl 0 rfl) ?_
                refine lv_iload_n hx hb d_Mo_writeFloat_51 rfl (lv_at hl 4 rfl) ?_
                refine lv_icmp_le (tgt := 66) hx hb d_Mo_writeFloat_52 (by decide) (fun c_52 => ?_) (fun c_52 => ?_)
                · replace c_52 := (nd_le hk (by omega)).mp c_52
                  have e_w : ww = sfl FP.fconst2 (r9).toInt.toNat (v) := by rw [← he, show (r9).toInt.toNat - jj = 0 by omega]; rfl
                  have e_sc : uu = scF (v) (r9) := by unfold scF; rw [← e_w, ← hg, show (-(r9).toInt).toNat - kk = 0 by omega]; rfl
                  refine lv_aload_n hx hb d_Mo_writeFloat_66 rfl (lv_at hl 2 rfl) ?_
                  refine lv_aload_n hx hb d_Mo_writeFloat_67 rfl (lv_at hl 2 rfl) ?_
                  refine lv_fload_n hx hb d_Mo_writeFloat_68 rfl (lv_at hl 1 rfl) ?_
                  refine x_topf (y := scF v r9) (e_sc) ?_
                  refine lv_f2d hx hb d_Mo_writeFloat_69 (dN_n (dN_f2d (scF_N _ hn))) ?_
                  refine lv_bipush (v := 23) hx hb d_Mo_writeFloat_70 (by decide) ?_
                  refine x_topi (y := nI (lw 0)) (rfl) ?_
                  refine lv_bipush (v := -126) hx hb d_Mo_writeFloat_72 (by decide) ?_
                  refine x_topi (y := 1 - nI (lb 0)) (by decide) ?_
                  refine lv_ldc2 (v := 255) hx hb hown (hW _ mw_668) d_Mo_writeFloat_74 ?_
                  refine x_topl (y := lN (2 * lb 0 + 1)) (rfl) ?_
                  refine x_calll (D := D) (wc := []) (wr := [(a0, .inr (4, [.ref al, .int (nI o.2.1), .ref aw, .int (nI o.2.2.2.1), .int (bI o.2.2.2.2), .ref ac, .int (nI c.1), .int (nI c.2.1), .int c.2.2.1, .int (bI c.2.2.2), .int (bI b), .int 0, .int (nI t.1), .int (nI t.2.1), .int t.2.2, .int (nI en), .ref ag, .ref am])), (al, .inl (cI, 1600, .inl o.1)), (aw, .inl (cI, 1024, .inl o.2.2.1)), (ac, .inl (cI, 40, .inl f)), (ag, .inl (cI, 1600, .inl gt)), (am, .inl (cI, 40, .inl md))]) (va_runV (C := R_Mo) (As := [.double (FP.f2d (scF v r9)), .int (nI (lw 0)), .int (1 - nI (lb 0)), .long (lN (2 * lb 0 + 1))]) (rest := [.ref a0]) ⟨hx, hb, hml, hown, hW⟩ (k_Mo_bitsOf l D g a0 (FP.f2d (scF v r9)) 0 (show 0 < 2 by decide) (dN_f2d (scF_N _ hn)) H.size) (cwV 4 hW (gWV mw_669 mw_671 mw_39 mw_54 mw_672) rfl rfl rfl (by decide +kernel) ⟨Nat.le_of_ble_eq_true rfl, Nat.le_of_ble_eq_true rfl⟩) ⟨xPc_blind (gZ_ok g), va_recv hK hP (ci := 4) (q0 := 0) rfl rfl, x_pre (gZ_ok g) hP hK hD hS hA hZ [] [] rfl rfl rfl⟩ rfl rfl hl.1 rfl (lv_room (Nat.le_of_ble_eq_true rfl)) d_Mo_writeFloat_77 ⟨Nat.le_of_ble_eq_true rfl, Nat.le_of_ble_eq_true rfl⟩) hP hD hS hA [] [0, 1, 2, 3, 4, 5] rfl rfl rfl (by decide) (fun r_77 u_77 H locs hw_77 hP hD hS => ?_)
                  replace hw_77 := hw_77.symm
                  subst hw_77
                  have hP : va_P D vwCl [(a0, .inr (4, [.ref al, .int (nI o.2.1), .ref aw, .int (nI o.2.2.2.1), .int (bI o.2.2.2.2), .ref ac, .int (nI c.1), .int (nI c.2.1), .int c.2.2.1, .int (bI c.2.2.2), .int (bI b), .int 0, .int (nI t.1), .int (nI t.2.1), .int t.2.2, .int (nI en), .ref ag, .ref am])), (al, .inl (cI, 1600, .inl o.1)), (aw, .inl (cI, 1024, .inl o.2.2.1)), (ac, .inl (cI, 40, .inl f)), (ag, .inl (cI, 1600, .inl gt)), (am, .inl (cI, 40, .inl md))] H := hP
                  have hD : va_D A [(a0, .inr (4, [.ref al, .int (nI o.2.1), .ref aw, .int (nI o.2.2.2.1), .int (bI o.2.2.2.2), .ref ac, .int (nI c.1), .int (nI c.2.1), .int c.2.2.1, .int (bI c.2.2.2), .int (bI b), .int 0, .int (nI t.1), .int (nI t.2.1), .int t.2.2, .int (nI en), .ref ag, .ref am])), (al, .inl (cI, 1600, .inl o.1)), (aw, .inl (cI, 1024, .inl o.2.2.1)), (ac, .inl (cI, 40, .inl f)), (ag, .inl (cI, 1600, .inl gt)), (am, .inl (cI, 40, .inl md))] := hD
                  refine lv_iconst (v := 4) hx hb d_Mo_writeFloat_80 (by decide) ?_
                  refine x_calli (D := D) (wc := [(a0, .inr (4, [.ref al, .int (nI o.2.1), .ref aw, .int (nI o.2.2.2.1), .int (bI o.2.2.2.2), .ref ac, .int (nI c.1), .int (nI c.2.1), .int c.2.2.1, .int (bI c.2.2.2), .int (bI b), .int 0, .int (nI t.1), .int (nI t.2.1), .int t.2.2, .int (nI en), .ref ag, .ref am])), (al, .inl (cI, 1600, .inl o.1)), (aw, .inl (cI, 1024, .inl o.2.2.1)), (ac, .inl (cI, 40, .inl f)), (ag, .inl (cI, 1600, .inl gt)), (am, .inl (cI, 40, .inl md))]) (wr := []) (va_runV (C := R_Mo) (As := [.long (rbo 0 (FP.f2d (scF v r9))), .int (nI 4)]) (rest := []) ⟨hx, hb, hml, hown, hW⟩ (k_Mo_bytes l D g a0 al aw ac ag am cI o c f b 0 t en gt md (rbo 0 (FP.f2d (scF v r9))) 4 ho hpv hk1 (by decide) H.size) (cwV 2 hW (gWV mw_631 mw_633 mw_33 mw_54 mw_634) rfl rfl rfl (by decide +kernel) ⟨Nat.le_of_ble_eq_true rfl, Nat.le_of_ble_eq_true rfl⟩) ⟨xPc_blind (gZ_ok g), va_recv hK hP (ci := 4) (q0 := 0) rfl rfl, x_pre (gZ_ok g) hP hK hD hS hA hZ [0, 1, 2, 3, 4, 5] [0] rfl rfl rfl⟩ rfl rfl hl.1 rfl (lv_room (Nat.le_of_ble_eq_true rfl)) d_Mo_writeFloat_81 ⟨Nat.le_of_ble_eq_true rfl, Nat.le_of_ble_eq_true rfl⟩) hP hD hS hA [0, 1, 2, 3, 4, 5] [] rfl rfl rfl (by decide) (fun r_81 u_81 H locs hw_81 hP hD hS => ?_)
                  obtain ⟨hw1_, hw2_⟩ := hw_81
                  replace hw1_ := hw1_.symm
                  replace hw2_ := hw2_.symm
                  subst hw1_
                  subst hw2_
                  have hP : va_P D vwCl [(a0, .inr (4, [.ref al, .int (nI (w_num o (rbo 0 (FP.f2d (scF v r9))) 4).2.1), .ref aw, .int (nI (w_num o (rbo 0 (FP.f2d (scF v r9))) 4).2.2.2.1), .int (bI (w_num o (rbo 0 (FP.f2d (scF v r9))) 4).2.2.2.2), .ref ac, .int (nI c.1), .int (nI c.2.1), .int c.2.2.1, .int (bI c.2.2.2), .int (bI b), .int 0, .int (nI t.1), .int (nI t.2.1), .int t.2.2, .int (nI en), .ref ag, .ref am])), (al, .inl (cI, 1600, .inl (w_num o (rbo 0 (FP.f2d (scF v r9))) 4).1)), (aw, .inl (cI, 1024, .inl (w_num o (rbo 0 (FP.f2d (scF v r9))) 4).2.2.1)), (ac, .inl (cI, 40, .inl f)), (ag, .inl (cI, 1600, .inl gt)), (am, .inl (cI, 40, .inl md))] H := hP
                  have hD : va_D A [(a0, .inr (4, [.ref al, .int (nI (w_num o (rbo 0 (FP.f2d (scF v r9))) 4).2.1), .ref aw, .int (nI (w_num o (rbo 0 (FP.f2d (scF v r9))) 4).2.2.2.1), .int (bI (w_num o (rbo 0 (FP.f2d (scF v r9))) 4).2.2.2.2), .ref ac, .int (nI c.1), .int (nI c.2.1), .int c.2.2.1, .int (bI c.2.2.2), .int (bI b), .int 0, .int (nI t.1), .int (nI t.2.1), .int t.2.2, .int (nI en), .ref ag, .ref am])), (al, .inl (cI, 1600, .inl (w_num o (rbo 0 (FP.f2d (scF v r9))) 4).1)), (aw, .inl (cI, 1024, .inl (w_num o (rbo 0 (FP.f2d (scF v r9))) 4).2.2.1)), (ac, .inl (cI, 40, .inl f)), (ag, .inl (cI, 1600, .inl gt)), (am, .inl (cI, 40, .inl md))] := hD
                  exact W.iret (v := w_res o 4) hx hb hr (fun t9 ht9 hW9 => ⟨⟨w_res o 4, (((w_num o (rbo 0 (FP.f2d (scF v r9))) 4), 0) : OS × Int32), rfl, ⟨rfl, rfl⟩, by rw [ht9]; exact hP.sub [0, 1, 2, 3, 4, 5] rfl, va_K.moved hW9.alike hK, hD.sub [0, 1, 2, 3, 4, 5] (by decide) rfl⟩, hS.F ht9⟩) hS.2.2 d_Mo_writeFloat_84
                · replace c_52 := mt (nd_le hk (by omega)).mpr c_52
                  refine lv_fload_n hx hb d_Mo_writeFloat_55 rfl (lv_at hl 1 rfl) ?_
                  refine lv_ldcf (v := FH) hx hb hown (hW _ mw_667) d_Mo_writeFloat_56 ?_
                  refine lv_fmul hx hb d_Mo_writeFloat_58 (fN_n (fN_H hNu)) ?_
                  refine lv_fstore_n (lv' := [(3, .float (FP.fmul uu FH)), (4, .int (nd kk)), (0, .ref a0), (1, .float v), (2, .int r9)]) hx hb d_Mo_writeFloat_59 rfl hl (by decide) rfl (fun ls hl => ?_)
                  refine lv_iinc (v := nd (kk + 1)) (lv' := [(4, .int (nd (kk + 1))), (3, .float (FP.fmul uu FH)), (0, .ref a0), (1, .float v), (2, .int r9)]) hx hb d_Mo_writeFloat_60 hl (k := 1) rfl (nd_s _) (by decide) rfl (fun ls hl => ?_)
                  refine lv_goto (tgt := 49) hx hb d_Mo_writeFloat_63 (by decide) ?_
                  exact ih (kk + 1) (FP.fmul uu FH) (by omega) (fN_H hNu) (by rw [← hg, sfl_s (n := (-(r9).toInt).toNat - kk) (by omega)]; rfl) (by omega) H locs (hP.sub [0, 1, 2, 3, 4, 5] rfl) (hD.sub [0, 1, 2, 3, 4, 5] (by decide) rfl) hS ls (lv_sub hl [0, 1, 2, 3, 4] rfl)
            exact hlp_49 _ 0 ww (Nat.zero_le _) hNw rfl (Nat.lt_succ_self _) H locs (hP.sub [0, 1, 2, 3, 4, 5] rfl) (hD.sub [0, 1, 2, 3, 4, 5] (by decide) rfl) hS ls (lv_sub hl [0, 1, 2, 3, 4] rfl)
          · replace c_33 := mt (up_ge hj).mpr c_33
            refine lv_fload_n hx hb d_Mo_writeFloat_36 rfl (lv_at hl 1 rfl) ?_
            refine lv_fconst2 hx hb d_Mo_writeFloat_37 ?_
            refine lv_fmul hx hb d_Mo_writeFloat_38 (fN_n (fN_2 hNw)) ?_
            refine lv_fstore_n (lv' := [(3, .float (FP.fmul ww FP.fconst2)), (4, .int (nI jj)), (0, .ref a0), (1, .float v), (2, .int r9)]) hx hb d_Mo_writeFloat_39 rfl hl (by decide) rfl (fun ls hl => ?_)
            refine lv_iinc (v := nI (jj + 1)) (lv' := [(4, .int (nI (jj + 1))), (3, .float (FP.fmul ww FP.fconst2)), (0, .ref a0), (1, .float v), (2, .int r9)]) hx hb d_Mo_writeFloat_40 hl (k := 1) rfl (nI_1 _) (by decide) rfl (fun ls hl => ?_)
            refine lv_goto (tgt := 30) hx hb d_Mo_writeFloat_43 (by decide) ?_
            exact ih (jj + 1) (FP.fmul ww FP.fconst2) (by omega) (fN_2 hNw) (by rw [← he, sfl_s (n := (r9).toInt.toNat - jj) (by omega)]; rfl) (by omega) H locs (hP.sub [0, 1, 2, 3, 4, 5] rfl) (hD.sub [0, 1, 2, 3, 4, 5] (by decide) rfl) hS ls (lv_sub hl [0, 1, 2, 3, 4] rfl)
      exact hlp_30 _ 0 v (Nat.zero_le _) hn rfl (Nat.lt_succ_self _) H locs (hP.sub [0, 1, 2, 3, 4, 5] rfl) (hD.sub [0, 1, 2, 3, 4, 5] (by decide) rfl) hS ls (lv_sub hl [0, 1, 2, 3, 4] rfl)
    · exact absurd (show False from by rw [Int32.not_le, Int32.lt_iff_toInt_lt] at c_16; have h9 : 300 < r9.toInt := c_16; omega) id
set_option maxHeartbeats 4000000 in
set_option maxRecDepth 100000 in
theorem k_Mo_writeFloatf (l : Launch) (D : va_G) (g : GP) (a0 al aw ac ag am : Nat) (cI : ClassId) (o : OS) (c : CS) (f : Nat → Int32) (b : Bool) (k : Int32) (t : T3) (en : Nat) (gt md : Nat → Int32) (v : UInt32) (r9 : Int32) (hE : ¬ r9.toInt.natAbs ≤ 300) (sz : Nat) : Met l y_Mo_writeFloat (.code y_Mo_writeFloat c_Mo_writeFloat 5 (some .int) :: xW) ({ frames := 1, cells := 0, slots := 0, locals := 21 }) (xPc (gZ g) D vwCl [.ref a0, .float v, .int r9] [(a0, .inr (4, [.ref al, .int (nI o.2.1), .ref aw, .int (nI o.2.2.2.1), .int (bI o.2.2.2.2), .ref ac, .int (nI c.1), .int (nI c.2.1), .int c.2.2.1, .int (bI c.2.2.2), .int (bI b), .int k, .int (nI t.1), .int (nI t.2.1), .int t.2.2, .int (nI en), .ref ag, .ref am])), (al, .inl (cI, 1600, .inl o.1)), (aw, .inl (cI, 1024, .inl o.2.2.1)), (ac, .inl (cI, 40, .inl f)), (ag, .inl (cI, 1600, .inl gt)), (am, .inl (cI, 40, .inl md))] [(cI, .int)] sz) (va_Qi (fun (r : Int32) (u : Int32) => r = 0 ∧ u = 1) (xB D vwCl [(cI, .int)] (fun u : Int32 => [(a0, .inr (4, [.ref al, .int (nI o.2.1), .ref aw, .int (nI o.2.2.2.1), .int (bI o.2.2.2.2), .ref ac, .int (nI c.1), .int (nI c.2.1), .int c.2.2.1, .int (bI c.2.2.2), .int (bI b), .int u, .int (nI t.1), .int (nI t.2.1), .int t.2.2, .int (nI en), .ref ag, .ref am])), (al, .inl (cI, 1600, .inl o.1)), (aw, .inl (cI, 1024, .inl o.2.2.1)), (ac, .inl (cI, 40, .inl f)), (ag, .inl (cI, 1600, .inl gt)), (am, .inl (cI, 40, .inl md))]) (va_A [(a0, .inr (4, [.ref al, .int (nI o.2.1), .ref aw, .int (nI o.2.2.2.1), .int (bI o.2.2.2.2), .ref ac, .int (nI c.1), .int (nI c.2.1), .int c.2.2.1, .int (bI c.2.2.2), .int (bI b), .int k, .int (nI t.1), .int (nI t.2.1), .int t.2.2, .int (nI en), .ref ag, .ref am])), (al, .inl (cI, 1600, .inl o.1)), (aw, .inl (cI, 1024, .inl o.2.2.1)), (ac, .inl (cI, 40, .inl f)), (ag, .inl (cI, 1600, .inl gt)), (am, .inl (cI, 40, .inl md))] sz)) (va_A [(a0, .inr (4, [.ref al, .int (nI o.2.1), .ref aw, .int (nI o.2.2.2.1), .int (bI o.2.2.2.2), .ref ac, .int (nI c.1), .int (nI c.2.1), .int c.2.2.1, .int (bI c.2.2.2), .int (bI b), .int k, .int (nI t.1), .int (nI t.2.1), .int t.2.2, .int (nI en), .ref ag, .ref am])), (al, .inl (cI, 1600, .inl o.1)), (aw, .inl (cI, 1024, .inl o.2.2.1)), (ac, .inl (cI, 40, .inl f)), (ag, .inl (cI, 1600, .inl gt)), (am, .inl (cI, 40, .inl md))] sz)) 0 0 (va_A [(a0, .inr (4, [.ref al, .int (nI o.2.1), .ref aw, .int (nI o.2.2.2.1), .int (bI o.2.2.2.2), .ref ac, .int (nI c.1), .int (nI c.2.1), .int c.2.2.1, .int (bI c.2.2.2), .int (bI b), .int k, .int (nI t.1), .int (nI t.2.1), .int t.2.2, .int (nI en), .ref ag, .ref am])), (al, .inl (cI, 1600, .inl o.1)), (aw, .inl (cI, 1024, .inl o.2.2.1)), (ac, .inl (cI, 40, .inl f)), (ag, .inl (cI, 1600, .inl gt)), (am, .inl (cI, 40, .inl md))] sz) := by
  refine x_open (Qc := fun A => va_Qi (fun (r : Int32) (u : Int32) => r = 0 ∧ u = 1) (xB D vwCl [(cI, .int)] (fun u : Int32 => [(a0, .inr (4, [.ref al, .int (nI o.2.1), .ref aw, .int (nI o.2.2.2.1), .int (bI o.2.2.2.2), .ref ac, .int (nI c.1), .int (nI c.2.1), .int c.2.2.1, .int (bI c.2.2.2), .int (bI b), .int u, .int (nI t.1), .int (nI t.2.1), .int t.2.2, .int (nI en), .ref ag, .ref am])), (al, .inl (cI, 1600, .inl o.1)), (aw, .inl (cI, 1024, .inl o.2.2.1)), (ac, .inl (cI, 40, .inl f)), (ag, .inl (cI, 1600, .inl gt)), (am, .inl (cI, 40, .inl md))]) A) A) (cc := c_Mo_writeFloat) (maxL := 5) (ret := (some .int)) (own := R_Mo) (by decide) rfl rfl (Nat.le_of_ble_eq_true rfl) ?_
  intro p e s m below meth cd A ls hsz hAe hx hb hr hml hown hts hlk hnm hA hP hK hD hS hZ hl
  clear hsz hAe
  have hW : ∀ w ∈ xW, w.before _ s = true := fun w h => hts w (List.mem_cons_of_mem _ h)
  have hl : lv_has ls 5 [(0, .ref a0), (1, .float v), (2, .int r9)] := hl
  refine lv_aload_n hx hb d_Mo_writeFloat_0 rfl (lv_at hl 0 rfl) ?_
  refine lv_iconst (v := 0) hx hb d_Mo_writeFloat_1 (by decide) ?_
  refine va_put (D := D) (ci := 4) (v := .int 0) (ty := .int) (C := R_Mo) (T := F_Mo) (N := 18) hx hb hW in_Mo t_Mo t_Mo_ok nm_Mo hown hK hP hD hS 0 rfl rfl 11 (by decide) (hW _ mw_575) (fun _ h9 => h9) rfl (by decide +kernel) (rfl) (rfl) (Nat.le_of_ble_eq_true rfl) d_Mo_writeFloat_2 (fun H locs hP hD hS => ?_)
  have hP : va_P D vwCl [(a0, .inr (4, [.ref al, .int (nI o.2.1), .ref aw, .int (nI o.2.2.2.1), .int (bI o.2.2.2.2), .ref ac, .int (nI c.1), .int (nI c.2.1), .int c.2.2.1, .int (bI c.2.2.2), .int (bI b), .int 0, .int (nI t.1), .int (nI t.2.1), .int t.2.2, .int (nI en), .ref ag, .ref am])), (al, .inl (cI, 1600, .inl o.1)), (aw, .inl (cI, 1024, .inl o.2.2.1)), (ac, .inl (cI, 40, .inl f)), (ag, .inl (cI, 1600, .inl gt)), (am, .inl (cI, 40, .inl md))] H := hP
  have hD : va_D A [(a0, .inr (4, [.ref al, .int (nI o.2.1), .ref aw, .int (nI o.2.2.2.1), .int (bI o.2.2.2.2), .ref ac, .int (nI c.1), .int (nI c.2.1), .int c.2.2.1, .int (bI c.2.2.2), .int (bI b), .int 0, .int (nI t.1), .int (nI t.2.1), .int t.2.2, .int (nI en), .ref ag, .ref am])), (al, .inl (cI, 1600, .inl o.1)), (aw, .inl (cI, 1024, .inl o.2.2.1)), (ac, .inl (cI, 40, .inl f)), (ag, .inl (cI, 1600, .inl gt)), (am, .inl (cI, 40, .inl md))] := hD
  refine lv_iload_n hx hb d_Mo_writeFloat_5 rfl (lv_at hl 2 rfl) ?_
  refine lv_sipush (v := -300) hx hb d_Mo_writeFloat_6 (by decide) ?_
  refine lv_icmp_lt (tgt := 19) hx hb d_Mo_writeFloat_9 (by decide) (fun c_9 => ?_) (fun c_9 => ?_)
  · refine lv_aload_n hx hb d_Mo_writeFloat_19 rfl (lv_at hl 0 rfl) ?_
    refine lv_iconst (v := 1) hx hb d_Mo_writeFloat_20 (by decide) ?_
    refine x_calli (D := D) (wc := [(a0, .inr (4, [.ref al, .int (nI o.2.1), .ref aw, .int (nI o.2.2.2.1), .int (bI o.2.2.2.2), .ref ac, .int (nI c.1), .int (nI c.2.1), .int c.2.2.1, .int (bI c.2.2.2), .int (bI b), .int 0, .int (nI t.1), .int (nI t.2.1), .int t.2.2, .int (nI en), .ref ag, .ref am])), (al, .inl (cI, 1600, .inl o.1)), (aw, .inl (cI, 1024, .inl o.2.2.1)), (ac, .inl (cI, 40, .inl f)), (ag, .inl (cI, 1600, .inl gt)), (am, .inl (cI, 40, .inl md))]) (wr := []) (va_runV (C := R_Mo) (As := [.int 1]) (rest := []) ⟨hx, hb, hml, hown, hW⟩ (k_Mo_fail l D g a0 al aw ac ag am cI o c f b 0 t en gt md 1  H.size) (cwV 1 hW (gWV mw_627 mw_629 mw_32 mw_54 mw_630) rfl rfl rfl (by decide +kernel) ⟨Nat.le_of_ble_eq_true rfl, Nat.le_of_ble_eq_true rfl⟩) ⟨xPc_blind (gZ_ok g), va_recv hK hP (ci := 4) (q0 := 0) rfl rfl, x_pre (gZ_ok g) hP hK hD hS hA hZ [0, 1, 2, 3, 4, 5] [0] rfl rfl rfl⟩ rfl rfl hl.1 rfl (lv_room (Nat.le_of_ble_eq_true rfl)) d_Mo_writeFloat_21 ⟨Nat.le_of_ble_eq_true rfl, Nat.le_of_ble_eq_true rfl⟩) hP hD hS hA [0, 1, 2, 3, 4, 5] [] rfl rfl rfl (by decide) (fun r_21 u_21 H locs hw_21 hP hD hS => ?_)
    obtain ⟨hw1_, hw2_⟩ := hw_21
    replace hw1_ := hw1_.symm
    replace hw2_ := hw2_.symm
    subst hw1_
    subst hw2_
    have hP : va_P D vwCl [(a0, .inr (4, [.ref al, .int (nI o.2.1), .ref aw, .int (nI o.2.2.2.1), .int (bI o.2.2.2.2), .ref ac, .int (nI c.1), .int (nI c.2.1), .int c.2.2.1, .int (bI c.2.2.2), .int (bI b), .int 1, .int (nI t.1), .int (nI t.2.1), .int t.2.2, .int (nI en), .ref ag, .ref am])), (al, .inl (cI, 1600, .inl o.1)), (aw, .inl (cI, 1024, .inl o.2.2.1)), (ac, .inl (cI, 40, .inl f)), (ag, .inl (cI, 1600, .inl gt)), (am, .inl (cI, 40, .inl md))] H := hP
    have hD : va_D A [(a0, .inr (4, [.ref al, .int (nI o.2.1), .ref aw, .int (nI o.2.2.2.1), .int (bI o.2.2.2.2), .ref ac, .int (nI c.1), .int (nI c.2.1), .int c.2.2.1, .int (bI c.2.2.2), .int (bI b), .int 1, .int (nI t.1), .int (nI t.2.1), .int t.2.2, .int (nI en), .ref ag, .ref am])), (al, .inl (cI, 1600, .inl o.1)), (aw, .inl (cI, 1024, .inl o.2.2.1)), (ac, .inl (cI, 40, .inl f)), (ag, .inl (cI, 1600, .inl gt)), (am, .inl (cI, 40, .inl md))] := hD
    exact W.iret (v := 0) hx hb hr (fun t9 ht9 hW9 => ⟨⟨0, (1 : Int32), rfl, ⟨rfl, rfl⟩, by rw [ht9]; exact hP.sub [0, 1, 2, 3, 4, 5] rfl, va_K.moved hW9.alike hK, hD.sub [0, 1, 2, 3, 4, 5] (by decide) rfl⟩, hS.F ht9⟩) hS.2.2 d_Mo_writeFloat_24
  · refine lv_iload_n hx hb d_Mo_writeFloat_12 rfl (lv_at hl 2 rfl) ?_
    refine lv_sipush (v := 300) hx hb d_Mo_writeFloat_13 (by decide) ?_
    refine lv_icmp_le (tgt := 25) hx hb d_Mo_writeFloat_16 (by decide) (fun c_16 => ?_) (fun c_16 => ?_)
    · exact absurd hE (by rw [Int32.lt_iff_toInt_lt] at c_9; rw [Int32.le_iff_toInt_le] at c_16; have h8 : ¬ r9.toInt < -300 := c_9; have h9 : r9.toInt ≤ 300 := c_16; omega)
    · refine lv_aload_n hx hb d_Mo_writeFloat_19 rfl (lv_at hl 0 rfl) ?_
      refine lv_iconst (v := 1) hx hb d_Mo_writeFloat_20 (by decide) ?_
      refine x_calli (D := D) (wc := [(a0, .inr (4, [.ref al, .int (nI o.2.1), .ref aw, .int (nI o.2.2.2.1), .int (bI o.2.2.2.2), .ref ac, .int (nI c.1), .int (nI c.2.1), .int c.2.2.1, .int (bI c.2.2.2), .int (bI b), .int 0, .int (nI t.1), .int (nI t.2.1), .int t.2.2, .int (nI en), .ref ag, .ref am])), (al, .inl (cI, 1600, .inl o.1)), (aw, .inl (cI, 1024, .inl o.2.2.1)), (ac, .inl (cI, 40, .inl f)), (ag, .inl (cI, 1600, .inl gt)), (am, .inl (cI, 40, .inl md))]) (wr := []) (va_runV (C := R_Mo) (As := [.int 1]) (rest := []) ⟨hx, hb, hml, hown, hW⟩ (k_Mo_fail l D g a0 al aw ac ag am cI o c f b 0 t en gt md 1  H.size) (cwV 1 hW (gWV mw_627 mw_629 mw_32 mw_54 mw_630) rfl rfl rfl (by decide +kernel) ⟨Nat.le_of_ble_eq_true rfl, Nat.le_of_ble_eq_true rfl⟩) ⟨xPc_blind (gZ_ok g), va_recv hK hP (ci := 4) (q0 := 0) rfl rfl, x_pre (gZ_ok g) hP hK hD hS hA hZ [0, 1, 2, 3, 4, 5] [0] rfl rfl rfl⟩ rfl rfl hl.1 rfl (lv_room (Nat.le_of_ble_eq_true rfl)) d_Mo_writeFloat_21 ⟨Nat.le_of_ble_eq_true rfl, Nat.le_of_ble_eq_true rfl⟩) hP hD hS hA [0, 1, 2, 3, 4, 5] [] rfl rfl rfl (by decide) (fun r_21 u_21 H locs hw_21 hP hD hS => ?_)
      obtain ⟨hw1_, hw2_⟩ := hw_21
      replace hw1_ := hw1_.symm
      replace hw2_ := hw2_.symm
      subst hw1_
      subst hw2_
      have hP : va_P D vwCl [(a0, .inr (4, [.ref al, .int (nI o.2.1), .ref aw, .int (nI o.2.2.2.1), .int (bI o.2.2.2.2), .ref ac, .int (nI c.1), .int (nI c.2.1), .int c.2.2.1, .int (bI c.2.2.2), .int (bI b), .int 1, .int (nI t.1), .int (nI t.2.1), .int t.2.2, .int (nI en), .ref ag, .ref am])), (al, .inl (cI, 1600, .inl o.1)), (aw, .inl (cI, 1024, .inl o.2.2.1)), (ac, .inl (cI, 40, .inl f)), (ag, .inl (cI, 1600, .inl gt)), (am, .inl (cI, 40, .inl md))] H := hP
      have hD : va_D A [(a0, .inr (4, [.ref al, .int (nI o.2.1), .ref aw, .int (nI o.2.2.2.1), .int (bI o.2.2.2.2), .ref ac, .int (nI c.1), .int (nI c.2.1), .int c.2.2.1, .int (bI c.2.2.2), .int (bI b), .int 1, .int (nI t.1), .int (nI t.2.1), .int t.2.2, .int (nI en), .ref ag, .ref am])), (al, .inl (cI, 1600, .inl o.1)), (aw, .inl (cI, 1024, .inl o.2.2.1)), (ac, .inl (cI, 40, .inl f)), (ag, .inl (cI, 1600, .inl gt)), (am, .inl (cI, 40, .inl md))] := hD
      exact W.iret (v := 0) hx hb hr (fun t9 ht9 hW9 => ⟨⟨0, (1 : Int32), rfl, ⟨rfl, rfl⟩, by rw [ht9]; exact hP.sub [0, 1, 2, 3, 4, 5] rfl, va_K.moved hW9.alike hK, hD.sub [0, 1, 2, 3, 4, 5] (by decide) rfl⟩, hS.F ht9⟩) hS.2.2 d_Mo_writeFloat_24
set_option maxHeartbeats 4000000 in
set_option maxRecDepth 100000 in
theorem k_Mo_writeDouble (l : Launch) (D : va_G) (g : GP) (a0 al aw ac ag am : Nat) (cI : ClassId) (o : OS) (c : CS) (f : Nat → Int32) (b : Bool) (k : Int32) (t : T3) (en : Nat) (gt md : Nat → Int32) (v : UInt64) (r9 : Int32) (ho : o_ok o) (hpv : o_pv o) (hk1 : o.2.2.2.1 < 1024) (hn : dN v) (hs : r9.toInt.natAbs ≤ 2200) (sz : Nat) : Met l y_Mo_writeDouble (.code y_Mo_writeDouble c_Mo_writeDouble 7 (some .int) :: xW) ({ frames := 4, cells := 0, slots := 0, locals := 87 }) (xPc (gZ g) D vwCl [.ref a0, .double v, .int r9] [(a0, .inr (4, [.ref al, .int (nI o.2.1), .ref aw, .int (nI o.2.2.2.1), .int (bI o.2.2.2.2), .ref ac, .int (nI c.1), .int (nI c.2.1), .int c.2.2.1, .int (bI c.2.2.2), .int (bI b), .int k, .int (nI t.1), .int (nI t.2.1), .int t.2.2, .int (nI en), .ref ag, .ref am])), (al, .inl (cI, 1600, .inl o.1)), (aw, .inl (cI, 1024, .inl o.2.2.1)), (ac, .inl (cI, 40, .inl f)), (ag, .inl (cI, 1600, .inl gt)), (am, .inl (cI, 40, .inl md))] [(cI, .int)] sz) (va_Qi (fun (r : Int32) (u : OS × Int32) => r = w_res o 8 ∧ u = (w_num o (rbo 1 (scD v r9)) 8, 0)) (xB D vwCl [(cI, .int)] (fun u : OS × Int32 => [(a0, .inr (4, [.ref al, .int (nI u.1.2.1), .ref aw, .int (nI u.1.2.2.2.1), .int (bI u.1.2.2.2.2), .ref ac, .int (nI c.1), .int (nI c.2.1), .int c.2.2.1, .int (bI c.2.2.2), .int (bI b), .int u.2, .int (nI t.1), .int (nI t.2.1), .int t.2.2, .int (nI en), .ref ag, .ref am])), (al, .inl (cI, 1600, .inl u.1.1)), (aw, .inl (cI, 1024, .inl u.1.2.2.1)), (ac, .inl (cI, 40, .inl f)), (ag, .inl (cI, 1600, .inl gt)), (am, .inl (cI, 40, .inl md))]) (va_A [(a0, .inr (4, [.ref al, .int (nI o.2.1), .ref aw, .int (nI o.2.2.2.1), .int (bI o.2.2.2.2), .ref ac, .int (nI c.1), .int (nI c.2.1), .int c.2.2.1, .int (bI c.2.2.2), .int (bI b), .int k, .int (nI t.1), .int (nI t.2.1), .int t.2.2, .int (nI en), .ref ag, .ref am])), (al, .inl (cI, 1600, .inl o.1)), (aw, .inl (cI, 1024, .inl o.2.2.1)), (ac, .inl (cI, 40, .inl f)), (ag, .inl (cI, 1600, .inl gt)), (am, .inl (cI, 40, .inl md))] sz)) (va_A [(a0, .inr (4, [.ref al, .int (nI o.2.1), .ref aw, .int (nI o.2.2.2.1), .int (bI o.2.2.2.2), .ref ac, .int (nI c.1), .int (nI c.2.1), .int c.2.2.1, .int (bI c.2.2.2), .int (bI b), .int k, .int (nI t.1), .int (nI t.2.1), .int t.2.2, .int (nI en), .ref ag, .ref am])), (al, .inl (cI, 1600, .inl o.1)), (aw, .inl (cI, 1024, .inl o.2.2.1)), (ac, .inl (cI, 40, .inl f)), (ag, .inl (cI, 1600, .inl gt)), (am, .inl (cI, 40, .inl md))] sz)) 0 0 (va_A [(a0, .inr (4, [.ref al, .int (nI o.2.1), .ref aw, .int (nI o.2.2.2.1), .int (bI o.2.2.2.2), .ref ac, .int (nI c.1), .int (nI c.2.1), .int c.2.2.1, .int (bI c.2.2.2), .int (bI b), .int k, .int (nI t.1), .int (nI t.2.1), .int t.2.2, .int (nI en), .ref ag, .ref am])), (al, .inl (cI, 1600, .inl o.1)), (aw, .inl (cI, 1024, .inl o.2.2.1)), (ac, .inl (cI, 40, .inl f)), (ag, .inl (cI, 1600, .inl gt)), (am, .inl (cI, 40, .inl md))] sz) := by
  refine x_open (Qc := fun A => va_Qi (fun (r : Int32) (u : OS × Int32) => r = w_res o 8 ∧ u = (w_num o (rbo 1 (scD v r9)) 8, 0)) (xB D vwCl [(cI, .int)] (fun u : OS × Int32 => [(a0, .inr (4, [.ref al, .int (nI u.1.2.1), .ref aw, .int (nI u.1.2.2.2.1), .int (bI u.1.2.2.2.2), .ref ac, .int (nI c.1), .int (nI c.2.1), .int c.2.2.1, .int (bI c.2.2.2), .int (bI b), .int u.2, .int (nI t.1), .int (nI t.2.1), .int t.2.2, .int (nI en), .ref ag, .ref am])), (al, .inl (cI, 1600, .inl u.1.1)), (aw, .inl (cI, 1024, .inl u.1.2.2.1)), (ac, .inl (cI, 40, .inl f)), (ag, .inl (cI, 1600, .inl gt)), (am, .inl (cI, 40, .inl md))]) A) A) (cc := c_Mo_writeDouble) (maxL := 7) (ret := (some .int)) (own := R_Mo) (by decide) rfl rfl (Nat.le_of_ble_eq_true rfl) ?_
  intro p e s m below meth cd A ls hsz hAe hx hb hr hml hown hts hlk hnm hA hP hK hD hS hZ hl
  clear hsz hAe
  have hW : ∀ w ∈ xW, w.before _ s = true := fun w h => hts w (List.mem_cons_of_mem _ h)
  have hl : lv_has ls 7 [(0, .ref a0), (1, .double v), (3, .int r9)] := hl
  refine lv_aload_n hx hb d_Mo_writeDouble_0 rfl (lv_at hl 0 rfl) ?_
  refine lv_iconst (v := 0) hx hb d_Mo_writeDouble_1 (by decide) ?_
  refine va_put (D := D) (ci := 4) (v := .int 0) (ty := .int) (C := R_Mo) (T := F_Mo) (N := 18) hx hb hW in_Mo t_Mo t_Mo_ok nm_Mo hown hK hP hD hS 0 rfl rfl 11 (by decide) (hW _ mw_575) (fun _ h9 => h9) rfl (by decide +kernel) (rfl) (rfl) (Nat.le_of_ble_eq_true rfl) d_Mo_writeDouble_2 (fun H locs hP hD hS => ?_)
  have hP : va_P D vwCl [(a0, .inr (4, [.ref al, .int (nI o.2.1), .ref aw, .int (nI o.2.2.2.1), .int (bI o.2.2.2.2), .ref ac, .int (nI c.1), .int (nI c.2.1), .int c.2.2.1, .int (bI c.2.2.2), .int (bI b), .int 0, .int (nI t.1), .int (nI t.2.1), .int t.2.2, .int (nI en), .ref ag, .ref am])), (al, .inl (cI, 1600, .inl o.1)), (aw, .inl (cI, 1024, .inl o.2.2.1)), (ac, .inl (cI, 40, .inl f)), (ag, .inl (cI, 1600, .inl gt)), (am, .inl (cI, 40, .inl md))] H := hP
  have hD : va_D A [(a0, .inr (4, [.ref al, .int (nI o.2.1), .ref aw, .int (nI o.2.2.2.1), .int (bI o.2.2.2.2), .ref ac, .int (nI c.1), .int (nI c.2.1), .int c.2.2.1, .int (bI c.2.2.2), .int (bI b), .int 0, .int (nI t.1), .int (nI t.2.1), .int t.2.2, .int (nI en), .ref ag, .ref am])), (al, .inl (cI, 1600, .inl o.1)), (aw, .inl (cI, 1024, .inl o.2.2.1)), (ac, .inl (cI, 40, .inl f)), (ag, .inl (cI, 1600, .inl gt)), (am, .inl (cI, 40, .inl md))] := hD
  refine lv_iload_n hx hb d_Mo_writeDouble_5 rfl (lv_at hl 2 rfl) ?_
  refine lv_sipush (v := -2200) hx hb d_Mo_writeDouble_6 (by decide) ?_
  refine lv_icmp_lt (tgt := 19) hx hb d_Mo_writeDouble_9 (by decide) (fun c_9 => ?_) (fun c_9 => ?_)
  · exact absurd c_9 (by rw [Int32.lt_iff_toInt_lt]; show ¬ r9.toInt < -2200; omega)
  · refine lv_iload_n hx hb d_Mo_writeDouble_12 rfl (lv_at hl 2 rfl) ?_
    refine lv_sipush (v := 2200) hx hb d_Mo_writeDouble_13 (by decide) ?_
    refine lv_icmp_le (tgt := 25) hx hb d_Mo_writeDouble_16 (by decide) (fun c_16 => ?_) (fun c_16 => ?_)
    · refine lv_dload_n hx hb d_Mo_writeDouble_25 rfl (lv_at hl 1 rfl) ?_
      refine lv_dstore (lv' := [(4, .double v), (0, .ref a0), (1, .double v), (3, .int r9)]) hx hb d_Mo_writeDouble_26 hl (by decide) rfl (fun ls hl => ?_)
      refine lv_iconst (v := 0) hx hb d_Mo_writeDouble_28 (by decide) ?_
      refine lv_istore (lv' := [(6, .int 0), (4, .double v), (0, .ref a0), (1, .double v), (3, .int r9)]) hx hb d_Mo_writeDouble_29 hl (by decide) rfl (fun ls hl => ?_)
      have hlp_31 : ∀ (n : Nat) (jj : Nat) (ww : UInt64), (jj ≤ (r9).toInt.toNat) → (dN ww) → (sdl D2 ((r9).toInt.toNat - jj) ww = sdl D2 (r9).toInt.toNat (v)) → (r9).toInt.toNat - jj < n → ∀ (H : Heap) (locs : List Loc), va_P D vwCl [(a0, .inr (4, [.ref al, .int (nI o.2.1), .ref aw, .int (nI o.2.2.2.1), .int (bI o.2.2.2.2), .ref ac, .int (nI c.1), .int (nI c.2.1), .int c.2.2.1, .int (bI c.2.2.2), .int (bI b), .int 0, .int (nI t.1), .int (nI t.2.1), .int t.2.2, .int (nI en), .ref ag, .ref am])), (al, .inl (cI, 1600, .inl o.1)), (aw, .inl (cI, 1024, .inl o.2.2.1)), (ac, .inl (cI, 40, .inl f)), (ag, .inl (cI, 1600, .inl gt)), (am, .inl (cI, 40, .inl md))] H → va_D A [(a0, .inr (4, [.ref al, .int (nI o.2.1), .ref aw, .int (nI o.2.2.2.1), .int (bI o.2.2.2.2), .ref ac, .int (nI c.1), .int (nI c.2.1), .int c.2.2.1, .int (bI c.2.2.2), .int (bI b), .int 0, .int (nI t.1), .int (nI t.2.1), .int t.2.2, .int (nI en), .ref ag, .ref am])), (al, .inl (cI, 1600, .inl o.1)), (aw, .inl (cI, 1024, .inl o.2.2.1)), (ac, .inl (cI, 40, .inl f)), (ag, .inl (cI, 1600, .inl gt)), (am, .inl (cI, 40, .inl md))] → va_S A s.heap H locs → ∀ (ls : Array Slot), lv_has ls 7 [(6, .int (nI jj)), (4, .double ww), (0, .ref a0), (1, .double v), (3, .int r9)] → W p l e ({ frames := 4, cells := 0, slots := 0, locals := 87 }) s m [.ref a0, .double v, .int r9].toArray below meth cd H locs 0 0 (MQ below ((fun A => va_Qi (fun (r : Int32) (u : OS × Int32) => r = w_res o 8 ∧ u = (w_num o (rbo 1 (scD v r9)) 8, 0)) (xB D vwCl [(cI, .int)] (fun u : OS × Int32 => [(a0, .inr (4, [.ref al, .int (nI u.1.2.1), .ref aw, .int (nI u.1.2.2.2.1), .int (bI u.1.2.2.2.2), .ref ac, .int (nI c.1), .int (nI c.2.1), .int c.2.2.1, .int (bI c.2.2.2), .int (bI b), .int u.2, .int (nI t.1), .int (nI t.2.1), .int t.2.2, .int (nI en), .ref ag, .ref am])), (al, .inl (cI, 1600, .inl u.1.1)), (aw, .inl (cI, 1024, .inl u.1.2.2.1)), (ac, .inl (cI, 40, .inl f)), (ag, .inl (cI, 1600, .inl gt)), (am, .inl (cI, 40, .inl md))]) A) A) A) [.ref a0, .double v, .int r9].toArray s 0 0 A) (F0 m 31 ls []) := by
        intro n
        induction n with
        | zero => intro jj ww hj hNw he hms; exact absurd hms (Nat.not_lt_zero _)
        | succ n ih =>
          intro jj ww hj hNw he hms H locs hP hD hS ls hl
          refine lv_iload hx hb d_Mo_writeDouble_31 (lv_at hl 0 rfl) ?_
          refine lv_iload_n hx hb d_Mo_writeDouble_33 rfl (lv_at hl 4 rfl) ?_
          refine lv_icmp_ge (tgt := 51) hx hb d_Mo_writeDouble_34 (by decide) (fun c_34 => ?_) (fun c_34 => ?_)
          · replace c_34 := (up_ge hj).mp c_34
            refine lv_iconst (v := 0) hx hb d_Mo_writeDouble_51 (by decide) ?_
            refine lv_istore (lv' := [(6, .int 0), (4, .double ww), (0, .ref a0), (1, .double v), (3, .int r9)]) hx hb d_Mo_writeDouble_52 hl (by decide) rfl (fun ls hl => ?_)
            have hlp_54 : ∀ (n : Nat) (kk : Nat) (uu : UInt64), (kk ≤ (-(r9).toInt).toNat) → (dN uu) → (sdl DH ((-(r9).toInt).toNat - kk) uu = sdl DH (-(r9).toInt).toNat ww) → (-(r9).toInt).toNat - kk < n → ∀ (H : Heap) (locs : List Loc), va_P D vwCl [(a0, .inr (4, [.ref al, .int (nI o.2.1), .ref aw, .int (nI o.2.2.2.1), .int (bI o.2.2.2.2), .ref ac, .int (nI c.1), .int (nI c.2.1), .int c.2.2.1, .int (bI c.2.2.2), .int (bI b), .int 0, .int (nI t.1), .int (nI t.2.1), .int t.2.2, .int (nI en), .ref ag, .ref am])), (al, .inl (cI, 1600, .inl o.1)), (aw, .inl (cI, 1024, .inl o.2.2.1)), (ac, .inl (cI, 40, .inl f)), (ag, .inl (cI, 1600, .inl gt)), (am, .inl (cI, 40, .inl md))] H → va_D A [(a0, .inr (4, [.ref al, .int (nI o.2.1), .ref aw, .int (nI o.2.2.2.1), .int (bI o.2.2.2.2), .ref ac, .int (nI c.1), .int (nI c.2.1), .int c.2.2.1, .int (bI c.2.2.2), .int (bI b), .int 0, .int (nI t.1), .int (nI t.2.1), .int t.2.2, .int (nI en), .ref ag, .ref am])), (al, .inl (cI, 1600, .inl o.1)), (aw, .inl (cI, 1024, .inl o.2.2.1)), (ac, .inl (cI, 40, .inl f)), (ag, .inl (cI, 1600, .inl gt)), (am, .inl (cI, 40, .inl md))] → va_S A s.heap H locs → ∀ (ls : Array Slot), lv_has ls 7 [(6, .int (nd kk)), (4, .double uu), (0, .ref a0), (1, .double v), (3, .int r9)] → W p l e ({ frames := 4, cells := 0, slots := 0, locals := 87 }) s m [.ref a0, .double v, .int r9].toArray below meth cd H locs 0 0 (MQ below ((fun A => va_Qi (fun (r : Int32) (u : OS × Int32) => r = w_res o 8 ∧ u = (w_num o (rbo 1 (scD v r9)) 8, 0)) (xB D vwCl [(cI, .int)] (fun u : OS × Int32 => [(a0, .inr (4, [.ref al, .int (nI u.1.2.1), .ref aw, .int (nI u.1.2.2.2.1), .int (bI u.1.2.2.2.2), .ref ac, .int (nI c.1), .int (nI c.2.1), .int c.2.2.1, .int (bI c.2.2.2), .int (bI b), .int u.2, .int (nI t.1), .int (nI t.2.1), .int t.2.2, .int (nI en), .ref ag, .ref am])), (al, .inl (cI, 1600, .inl u.1.1)), (aw, .inl (cI, 1024, .inl u.1.2.2.1)), (ac, .inl (cI, 40, .inl f)), (ag, .inl (cI, 1600, .inl gt)), (am, .inl (cI, 40, .inl md))]) A) A) A) [.ref a0, .double v, .int r9].toArray s 0 0 A) (F0 m 54 ls []) := by
              intro n
              induction n with
              | zero => intro kk uu hk hNu hg hms; exact absurd hms (Nat.not_lt_zero _)
              | succ n ih =>
                intro kk uu hk hNu hg hms H locs hP hD hS ls hl
                refine lv_iload hx hb d_Mo_writeDouble_54 (lv_at hl 0 rfl) ?_
                refine lv_iload_n hx hb d_Mo_writeDouble_56 rfl (lv_at hl 4 rfl) ?_
                refine lv_icmp_le (tgt := 74) hx hb d_Mo_writeDouble_57 (by decide) (fun c_57 => ?_) (fun c_57 => ?_)
                · replace c_57 := (nd_le hk (by omega)).mp c_57
                  have e_w : ww = sdl D2 (r9).toInt.toNat (v) := by rw [← he, show (r9).toInt.toNat - jj = 0 by omega]; rfl
                  have e_sc : uu = scD (v) (r9) := by unfold scD; rw [← e_w, ← hg, show (-(r9).toInt).toNat - kk = 0 by omega]; rfl
                  refine lv_aload_n hx hb d_Mo_writeDouble_74 rfl (lv_at hl 2 rfl) ?_
                  refine lv_aload_n hx hb d_Mo_writeDouble_75 rfl (lv_at hl 2 rfl) ?_
                  refine lv_dload hx hb d_Mo_writeDouble_76 (lv_at hl 1 rfl) ?_
                  refine x_topd (y := scD v r9) (e_sc) ?_
                  refine lv_bipush (v := 52) hx hb d_Mo_writeDouble_78 (by decide) ?_
                  refine x_topi (y := nI (lw 1)) (rfl) ?_
                  refine lv_sipush (v := -1022) hx hb d_Mo_writeDouble_80 (by decide) ?_
                  refine x_topi (y := 1 - nI (lb 1)) (by decide) ?_
                  refine lv_ldc2 (v := 2047) hx hb hown (hW _ mw_680) d_Mo_writeDouble_83 ?_
                  refine x_topl (y := lN (2 * lb 1 + 1)) (rfl) ?_
                  refine x_calll (D := D) (wc := []) (wr := [(a0, .inr (4, [.ref al, .int (nI o.2.1), .ref aw, .int (nI o.2.2.2.1), .int (bI o.2.2.2.2), .ref ac, .int (nI c.1), .int (nI c.2.1), .int c.2.2.1, .int (bI c.2.2.2), .int (bI b), .int 0, .int (nI t.1), .int (nI t.2.1), .int t.2.2, .int (nI en), .ref ag, .ref am])), (al, .inl (cI, 1600, .inl o.1)), (aw, .inl (cI, 1024, .inl o.2.2.1)), (ac, .inl (cI, 40, .inl f)), (ag, .inl (cI, 1600, .inl gt)), (am, .inl (cI, 40, .inl md))]) (va_runV (C := R_Mo) (As := [.double (scD v r9), .int (nI (lw 1)), .int (1 - nI (lb 1)), .long (lN (2 * lb 1 + 1))]) (rest := [.ref a0]) ⟨hx, hb, hml, hown, hW⟩ (k_Mo_bitsOf l D g a0 (scD v r9) 1 (show 1 < 2 by decide) (scD_N _ hn) H.size) (cwV 4 hW (gWV mw_669 mw_671 mw_39 mw_54 mw_672) rfl rfl rfl (by decide +kernel) ⟨Nat.le_of_ble_eq_true rfl, Nat.le_of_ble_eq_true rfl⟩) ⟨xPc_blind (gZ_ok g), va_recv hK hP (ci := 4) (q0 := 0) rfl rfl, x_pre (gZ_ok g) hP hK hD hS hA hZ [] [] rfl rfl rfl⟩ rfl rfl hl.1 rfl (lv_room (Nat.le_of_ble_eq_true rfl)) d_Mo_writeDouble_86 ⟨Nat.le_of_ble_eq_true rfl, Nat.le_of_ble_eq_true rfl⟩) hP hD hS hA [] [0, 1, 2, 3, 4, 5] rfl rfl rfl (by decide) (fun r_86 u_86 H locs hw_86 hP hD hS => ?_)
                  replace hw_86 := hw_86.symm
                  subst hw_86
                  have hP : va_P D vwCl [(a0, .inr (4, [.ref al, .int (nI o.2.1), .ref aw, .int (nI o.2.2.2.1), .int (bI o.2.2.2.2), .ref ac, .int (nI c.1), .int (nI c.2.1), .int c.2.2.1, .int (bI c.2.2.2), .int (bI b), .int 0, .int (nI t.1), .int (nI t.2.1), .int t.2.2, .int (nI en), .ref ag, .ref am])), (al, .inl (cI, 1600, .inl o.1)), (aw, .inl (cI, 1024, .inl o.2.2.1)), (ac, .inl (cI, 40, .inl f)), (ag, .inl (cI, 1600, .inl gt)), (am, .inl (cI, 40, .inl md))] H := hP
                  have hD : va_D A [(a0, .inr (4, [.ref al, .int (nI o.2.1), .ref aw, .int (nI o.2.2.2.1), .int (bI o.2.2.2.2), .ref ac, .int (nI c.1), .int (nI c.2.1), .int c.2.2.1, .int (bI c.2.2.2), .int (bI b), .int 0, .int (nI t.1), .int (nI t.2.1), .int t.2.2, .int (nI en), .ref ag, .ref am])), (al, .inl (cI, 1600, .inl o.1)), (aw, .inl (cI, 1024, .inl o.2.2.1)), (ac, .inl (cI, 40, .inl f)), (ag, .inl (cI, 1600, .inl gt)), (am, .inl (cI, 40, .inl md))] := hD
                  refine lv_bipush (v := 8) hx hb d_Mo_writeDouble_89 (by decide) ?_
                  refine x_calli (D := D) (wc := [(a0, .inr (4, [.ref al, .int (nI o.2.1), .ref aw, .int (nI o.2.2.2.1), .int (bI o.2.2.2.2), .ref ac, .int (nI c.1), .int (nI c.2.1), .int c.2.2.1, .int (bI c.2.2.2), .int (bI b), .int 0, .int (nI t.1), .int (nI t.2.1), .int t.2.2, .int (nI en), .ref ag, .ref am])), (al, .inl (cI, 1600, .inl o.1)), (aw, .inl (cI, 1024, .inl o.2.2.1)), (ac, .inl (cI, 40, .inl f)), (ag, .inl (cI, 1600, .inl gt)), (am, .inl (cI, 40, .inl md))]) (wr := []) (va_runV (C := R_Mo) (As := [.long (rbo 1 (scD v r9)), .int (nI 8)]) (rest := []) ⟨hx, hb, hml, hown, hW⟩ (k_Mo_bytes l D g a0 al aw ac ag am cI o c f b 0 t en gt md (rbo 1 (scD v r9)) 8 ho hpv hk1 (by decide) H.size) (cwV 2 hW (gWV mw_631 mw_633 mw_33 mw_54 mw_634) rfl rfl rfl (by decide +kernel) ⟨Nat.le_of_ble_eq_true rfl, Nat.le_of_ble_eq_true rfl⟩) ⟨xPc_blind (gZ_ok g), va_recv hK hP (ci := 4) (q0 := 0) rfl rfl, x_pre (gZ_ok g) hP hK hD hS hA hZ [0, 1, 2, 3, 4, 5] [0] rfl rfl rfl⟩ rfl rfl hl.1 rfl (lv_room (Nat.le_of_ble_eq_true rfl)) d_Mo_writeDouble_91 ⟨Nat.le_of_ble_eq_true rfl, Nat.le_of_ble_eq_true rfl⟩) hP hD hS hA [0, 1, 2, 3, 4, 5] [] rfl rfl rfl (by decide) (fun r_91 u_91 H locs hw_91 hP hD hS => ?_)
                  obtain ⟨hw1_, hw2_⟩ := hw_91
                  replace hw1_ := hw1_.symm
                  replace hw2_ := hw2_.symm
                  subst hw1_
                  subst hw2_
                  have hP : va_P D vwCl [(a0, .inr (4, [.ref al, .int (nI (w_num o (rbo 1 (scD v r9)) 8).2.1), .ref aw, .int (nI (w_num o (rbo 1 (scD v r9)) 8).2.2.2.1), .int (bI (w_num o (rbo 1 (scD v r9)) 8).2.2.2.2), .ref ac, .int (nI c.1), .int (nI c.2.1), .int c.2.2.1, .int (bI c.2.2.2), .int (bI b), .int 0, .int (nI t.1), .int (nI t.2.1), .int t.2.2, .int (nI en), .ref ag, .ref am])), (al, .inl (cI, 1600, .inl (w_num o (rbo 1 (scD v r9)) 8).1)), (aw, .inl (cI, 1024, .inl (w_num o (rbo 1 (scD v r9)) 8).2.2.1)), (ac, .inl (cI, 40, .inl f)), (ag, .inl (cI, 1600, .inl gt)), (am, .inl (cI, 40, .inl md))] H := hP
                  have hD : va_D A [(a0, .inr (4, [.ref al, .int (nI (w_num o (rbo 1 (scD v r9)) 8).2.1), .ref aw, .int (nI (w_num o (rbo 1 (scD v r9)) 8).2.2.2.1), .int (bI (w_num o (rbo 1 (scD v r9)) 8).2.2.2.2), .ref ac, .int (nI c.1), .int (nI c.2.1), .int c.2.2.1, .int (bI c.2.2.2), .int (bI b), .int 0, .int (nI t.1), .int (nI t.2.1), .int t.2.2, .int (nI en), .ref ag, .ref am])), (al, .inl (cI, 1600, .inl (w_num o (rbo 1 (scD v r9)) 8).1)), (aw, .inl (cI, 1024, .inl (w_num o (rbo 1 (scD v r9)) 8).2.2.1)), (ac, .inl (cI, 40, .inl f)), (ag, .inl (cI, 1600, .inl gt)), (am, .inl (cI, 40, .inl md))] := hD
                  exact W.iret (v := w_res o 8) hx hb hr (fun t9 ht9 hW9 => ⟨⟨w_res o 8, (((w_num o (rbo 1 (scD v r9)) 8), 0) : OS × Int32), rfl, ⟨rfl, rfl⟩, by rw [ht9]; exact hP.sub [0, 1, 2, 3, 4, 5] rfl, va_K.moved hW9.alike hK, hD.sub [0, 1, 2, 3, 4, 5] (by decide) rfl⟩, hS.F ht9⟩) hS.2.2 d_Mo_writeDouble_94
                · replace c_57 := mt (nd_le hk (by omega)).mpr c_57
                  refine lv_dload hx hb d_Mo_writeDouble_60 (lv_at hl 1 rfl) ?_
                  refine lv_ldc2d (v := DH) hx hb hown (hW _ mw_675) d_Mo_writeDouble_62 ?_
                  refine lv_dmul hx hb d_Mo_writeDouble_65 (dN_n (dN_H hNu)) ?_
                  refine lv_dstore (lv' := [(4, .double (FP.dmul uu DH)), (6, .int (nd kk)), (0, .ref a0), (1, .double v), (3, .int r9)]) hx hb d_Mo_writeDouble_66 hl (by decide) rfl (fun ls hl => ?_)
                  refine lv_iinc (v := nd (kk + 1)) (lv' := [(6, .int (nd (kk + 1))), (4, .double (FP.dmul uu DH)), (0, .ref a0), (1, .double v), (3, .int r9)]) hx hb d_Mo_writeDouble_68 hl (k := 1) rfl (nd_s _) (by decide) rfl (fun ls hl => ?_)
                  refine lv_goto (tgt := 54) hx hb d_Mo_writeDouble_71 (by decide) ?_
                  exact ih (kk + 1) (FP.dmul uu DH) (by omega) (dN_H hNu) (by rw [← hg, sdl_s (n := (-(r9).toInt).toNat - kk) (by omega)]; rfl) (by omega) H locs (hP.sub [0, 1, 2, 3, 4, 5] rfl) (hD.sub [0, 1, 2, 3, 4, 5] (by decide) rfl) hS ls (lv_sub hl [0, 1, 2, 3, 4] rfl)
            exact hlp_54 _ 0 ww (Nat.zero_le _) hNw rfl (Nat.lt_succ_self _) H locs (hP.sub [0, 1, 2, 3, 4, 5] rfl) (hD.sub [0, 1, 2, 3, 4, 5] (by decide) rfl) hS ls (lv_sub hl [0, 1, 2, 3, 4] rfl)
          · replace c_34 := mt (up_ge hj).mpr c_34
            refine lv_dload hx hb d_Mo_writeDouble_37 (lv_at hl 1 rfl) ?_
            refine lv_ldc2d (v := D2) hx hb hown (hW _ mw_674) d_Mo_writeDouble_39 ?_
            refine lv_dmul hx hb d_Mo_writeDouble_42 (dN_n (dN_2 hNw)) ?_
            refine lv_dstore (lv' := [(4, .double (FP.dmul ww D2)), (6, .int (nI jj)), (0, .ref a0), (1, .double v), (3, .int r9)]) hx hb d_Mo_writeDouble_43 hl (by decide) rfl (fun ls hl => ?_)
            refine lv_iinc (v := nI (jj + 1)) (lv' := [(6, .int (nI (jj + 1))), (4, .double (FP.dmul ww D2)), (0, .ref a0), (1, .double v), (3, .int r9)]) hx hb d_Mo_writeDouble_45 hl (k := 1) rfl (nI_1 _) (by decide) rfl (fun ls hl => ?_)
            refine lv_goto (tgt := 31) hx hb d_Mo_writeDouble_48 (by decide) ?_
            exact ih (jj + 1) (FP.dmul ww D2) (by omega) (dN_2 hNw) (by rw [← he, sdl_s (n := (r9).toInt.toNat - jj) (by omega)]; rfl) (by omega) H locs (hP.sub [0, 1, 2, 3, 4, 5] rfl) (hD.sub [0, 1, 2, 3, 4, 5] (by decide) rfl) hS ls (lv_sub hl [0, 1, 2, 3, 4] rfl)
      exact hlp_31 _ 0 v (Nat.zero_le _) hn rfl (Nat.lt_succ_self _) H locs (hP.sub [0, 1, 2, 3, 4, 5] rfl) (hD.sub [0, 1, 2, 3, 4, 5] (by decide) rfl) hS ls (lv_sub hl [0, 1, 2, 3, 4] rfl)
    · exact absurd (show False from by rw [Int32.not_le, Int32.lt_iff_toInt_lt] at c_16; have h9 : 2200 < r9.toInt := c_16; omega) id
set_option maxHeartbeats 4000000 in
set_option maxRecDepth 100000 in
theorem k_Mo_writeDoublef (l : Launch) (D : va_G) (g : GP) (a0 al aw ac ag am : Nat) (cI : ClassId) (o : OS) (c : CS) (f : Nat → Int32) (b : Bool) (k : Int32) (t : T3) (en : Nat) (gt md : Nat → Int32) (v : UInt64) (r9 : Int32) (hE : ¬ r9.toInt.natAbs ≤ 2200) (sz : Nat) : Met l y_Mo_writeDouble (.code y_Mo_writeDouble c_Mo_writeDouble 7 (some .int) :: xW) ({ frames := 1, cells := 0, slots := 0, locals := 21 }) (xPc (gZ g) D vwCl [.ref a0, .double v, .int r9] [(a0, .inr (4, [.ref al, .int (nI o.2.1), .ref aw, .int (nI o.2.2.2.1), .int (bI o.2.2.2.2), .ref ac, .int (nI c.1), .int (nI c.2.1), .int c.2.2.1, .int (bI c.2.2.2), .int (bI b), .int k, .int (nI t.1), .int (nI t.2.1), .int t.2.2, .int (nI en), .ref ag, .ref am])), (al, .inl (cI, 1600, .inl o.1)), (aw, .inl (cI, 1024, .inl o.2.2.1)), (ac, .inl (cI, 40, .inl f)), (ag, .inl (cI, 1600, .inl gt)), (am, .inl (cI, 40, .inl md))] [(cI, .int)] sz) (va_Qi (fun (r : Int32) (u : Int32) => r = 0 ∧ u = 1) (xB D vwCl [(cI, .int)] (fun u : Int32 => [(a0, .inr (4, [.ref al, .int (nI o.2.1), .ref aw, .int (nI o.2.2.2.1), .int (bI o.2.2.2.2), .ref ac, .int (nI c.1), .int (nI c.2.1), .int c.2.2.1, .int (bI c.2.2.2), .int (bI b), .int u, .int (nI t.1), .int (nI t.2.1), .int t.2.2, .int (nI en), .ref ag, .ref am])), (al, .inl (cI, 1600, .inl o.1)), (aw, .inl (cI, 1024, .inl o.2.2.1)), (ac, .inl (cI, 40, .inl f)), (ag, .inl (cI, 1600, .inl gt)), (am, .inl (cI, 40, .inl md))]) (va_A [(a0, .inr (4, [.ref al, .int (nI o.2.1), .ref aw, .int (nI o.2.2.2.1), .int (bI o.2.2.2.2), .ref ac, .int (nI c.1), .int (nI c.2.1), .int c.2.2.1, .int (bI c.2.2.2), .int (bI b), .int k, .int (nI t.1), .int (nI t.2.1), .int t.2.2, .int (nI en), .ref ag, .ref am])), (al, .inl (cI, 1600, .inl o.1)), (aw, .inl (cI, 1024, .inl o.2.2.1)), (ac, .inl (cI, 40, .inl f)), (ag, .inl (cI, 1600, .inl gt)), (am, .inl (cI, 40, .inl md))] sz)) (va_A [(a0, .inr (4, [.ref al, .int (nI o.2.1), .ref aw, .int (nI o.2.2.2.1), .int (bI o.2.2.2.2), .ref ac, .int (nI c.1), .int (nI c.2.1), .int c.2.2.1, .int (bI c.2.2.2), .int (bI b), .int k, .int (nI t.1), .int (nI t.2.1), .int t.2.2, .int (nI en), .ref ag, .ref am])), (al, .inl (cI, 1600, .inl o.1)), (aw, .inl (cI, 1024, .inl o.2.2.1)), (ac, .inl (cI, 40, .inl f)), (ag, .inl (cI, 1600, .inl gt)), (am, .inl (cI, 40, .inl md))] sz)) 0 0 (va_A [(a0, .inr (4, [.ref al, .int (nI o.2.1), .ref aw, .int (nI o.2.2.2.1), .int (bI o.2.2.2.2), .ref ac, .int (nI c.1), .int (nI c.2.1), .int c.2.2.1, .int (bI c.2.2.2), .int (bI b), .int k, .int (nI t.1), .int (nI t.2.1), .int t.2.2, .int (nI en), .ref ag, .ref am])), (al, .inl (cI, 1600, .inl o.1)), (aw, .inl (cI, 1024, .inl o.2.2.1)), (ac, .inl (cI, 40, .inl f)), (ag, .inl (cI, 1600, .inl gt)), (am, .inl (cI, 40, .inl md))] sz) := by
  refine x_open (Qc := fun A => va_Qi (fun (r : Int32) (u : Int32) => r = 0 ∧ u = 1) (xB D vwCl [(cI, .int)] (fun u : Int32 => [(a0, .inr (4, [.ref al, .int (nI o.2.1), .ref aw, .int (nI o.2.2.2.1), .int (bI o.2.2.2.2), .ref ac, .int (nI c.1), .int (nI c.2.1), .int c.2.2.1, .int (bI c.2.2.2), .int (bI b), .int u, .int (nI t.1), .int (nI t.2.1), .int t.2.2, .int (nI en), .ref ag, .ref am])), (al, .inl (cI, 1600, .inl o.1)), (aw, .inl (cI, 1024, .inl o.2.2.1)), (ac, .inl (cI, 40, .inl f)), (ag, .inl (cI, 1600, .inl gt)), (am, .inl (cI, 40, .inl md))]) A) A) (cc := c_Mo_writeDouble) (maxL := 7) (ret := (some .int)) (own := R_Mo) (by decide) rfl rfl (Nat.le_of_ble_eq_true rfl) ?_
  intro p e s m below meth cd A ls hsz hAe hx hb hr hml hown hts hlk hnm hA hP hK hD hS hZ hl
  clear hsz hAe
  have hW : ∀ w ∈ xW, w.before _ s = true := fun w h => hts w (List.mem_cons_of_mem _ h)
  have hl : lv_has ls 7 [(0, .ref a0), (1, .double v), (3, .int r9)] := hl
  refine lv_aload_n hx hb d_Mo_writeDouble_0 rfl (lv_at hl 0 rfl) ?_
  refine lv_iconst (v := 0) hx hb d_Mo_writeDouble_1 (by decide) ?_
  refine va_put (D := D) (ci := 4) (v := .int 0) (ty := .int) (C := R_Mo) (T := F_Mo) (N := 18) hx hb hW in_Mo t_Mo t_Mo_ok nm_Mo hown hK hP hD hS 0 rfl rfl 11 (by decide) (hW _ mw_575) (fun _ h9 => h9) rfl (by decide +kernel) (rfl) (rfl) (Nat.le_of_ble_eq_true rfl) d_Mo_writeDouble_2 (fun H locs hP hD hS => ?_)
  have hP : va_P D vwCl [(a0, .inr (4, [.ref al, .int (nI o.2.1), .ref aw, .int (nI o.2.2.2.1), .int (bI o.2.2.2.2), .ref ac, .int (nI c.1), .int (nI c.2.1), .int c.2.2.1, .int (bI c.2.2.2), .int (bI b), .int 0, .int (nI t.1), .int (nI t.2.1), .int t.2.2, .int (nI en), .ref ag, .ref am])), (al, .inl (cI, 1600, .inl o.1)), (aw, .inl (cI, 1024, .inl o.2.2.1)), (ac, .inl (cI, 40, .inl f)), (ag, .inl (cI, 1600, .inl gt)), (am, .inl (cI, 40, .inl md))] H := hP
  have hD : va_D A [(a0, .inr (4, [.ref al, .int (nI o.2.1), .ref aw, .int (nI o.2.2.2.1), .int (bI o.2.2.2.2), .ref ac, .int (nI c.1), .int (nI c.2.1), .int c.2.2.1, .int (bI c.2.2.2), .int (bI b), .int 0, .int (nI t.1), .int (nI t.2.1), .int t.2.2, .int (nI en), .ref ag, .ref am])), (al, .inl (cI, 1600, .inl o.1)), (aw, .inl (cI, 1024, .inl o.2.2.1)), (ac, .inl (cI, 40, .inl f)), (ag, .inl (cI, 1600, .inl gt)), (am, .inl (cI, 40, .inl md))] := hD
  refine lv_iload_n hx hb d_Mo_writeDouble_5 rfl (lv_at hl 2 rfl) ?_
  refine lv_sipush (v := -2200) hx hb d_Mo_writeDouble_6 (by decide) ?_
  refine lv_icmp_lt (tgt := 19) hx hb d_Mo_writeDouble_9 (by decide) (fun c_9 => ?_) (fun c_9 => ?_)
  · refine lv_aload_n hx hb d_Mo_writeDouble_19 rfl (lv_at hl 0 rfl) ?_
    refine lv_iconst (v := 1) hx hb d_Mo_writeDouble_20 (by decide) ?_
    refine x_calli (D := D) (wc := [(a0, .inr (4, [.ref al, .int (nI o.2.1), .ref aw, .int (nI o.2.2.2.1), .int (bI o.2.2.2.2), .ref ac, .int (nI c.1), .int (nI c.2.1), .int c.2.2.1, .int (bI c.2.2.2), .int (bI b), .int 0, .int (nI t.1), .int (nI t.2.1), .int t.2.2, .int (nI en), .ref ag, .ref am])), (al, .inl (cI, 1600, .inl o.1)), (aw, .inl (cI, 1024, .inl o.2.2.1)), (ac, .inl (cI, 40, .inl f)), (ag, .inl (cI, 1600, .inl gt)), (am, .inl (cI, 40, .inl md))]) (wr := []) (va_runV (C := R_Mo) (As := [.int 1]) (rest := []) ⟨hx, hb, hml, hown, hW⟩ (k_Mo_fail l D g a0 al aw ac ag am cI o c f b 0 t en gt md 1  H.size) (cwV 1 hW (gWV mw_627 mw_629 mw_32 mw_54 mw_630) rfl rfl rfl (by decide +kernel) ⟨Nat.le_of_ble_eq_true rfl, Nat.le_of_ble_eq_true rfl⟩) ⟨xPc_blind (gZ_ok g), va_recv hK hP (ci := 4) (q0 := 0) rfl rfl, x_pre (gZ_ok g) hP hK hD hS hA hZ [0, 1, 2, 3, 4, 5] [0] rfl rfl rfl⟩ rfl rfl hl.1 rfl (lv_room (Nat.le_of_ble_eq_true rfl)) d_Mo_writeDouble_21 ⟨Nat.le_of_ble_eq_true rfl, Nat.le_of_ble_eq_true rfl⟩) hP hD hS hA [0, 1, 2, 3, 4, 5] [] rfl rfl rfl (by decide) (fun r_21 u_21 H locs hw_21 hP hD hS => ?_)
    obtain ⟨hw1_, hw2_⟩ := hw_21
    replace hw1_ := hw1_.symm
    replace hw2_ := hw2_.symm
    subst hw1_
    subst hw2_
    have hP : va_P D vwCl [(a0, .inr (4, [.ref al, .int (nI o.2.1), .ref aw, .int (nI o.2.2.2.1), .int (bI o.2.2.2.2), .ref ac, .int (nI c.1), .int (nI c.2.1), .int c.2.2.1, .int (bI c.2.2.2), .int (bI b), .int 1, .int (nI t.1), .int (nI t.2.1), .int t.2.2, .int (nI en), .ref ag, .ref am])), (al, .inl (cI, 1600, .inl o.1)), (aw, .inl (cI, 1024, .inl o.2.2.1)), (ac, .inl (cI, 40, .inl f)), (ag, .inl (cI, 1600, .inl gt)), (am, .inl (cI, 40, .inl md))] H := hP
    have hD : va_D A [(a0, .inr (4, [.ref al, .int (nI o.2.1), .ref aw, .int (nI o.2.2.2.1), .int (bI o.2.2.2.2), .ref ac, .int (nI c.1), .int (nI c.2.1), .int c.2.2.1, .int (bI c.2.2.2), .int (bI b), .int 1, .int (nI t.1), .int (nI t.2.1), .int t.2.2, .int (nI en), .ref ag, .ref am])), (al, .inl (cI, 1600, .inl o.1)), (aw, .inl (cI, 1024, .inl o.2.2.1)), (ac, .inl (cI, 40, .inl f)), (ag, .inl (cI, 1600, .inl gt)), (am, .inl (cI, 40, .inl md))] := hD
    exact W.iret (v := 0) hx hb hr (fun t9 ht9 hW9 => ⟨⟨0, (1 : Int32), rfl, ⟨rfl, rfl⟩, by rw [ht9]; exact hP.sub [0, 1, 2, 3, 4, 5] rfl, va_K.moved hW9.alike hK, hD.sub [0, 1, 2, 3, 4, 5] (by decide) rfl⟩, hS.F ht9⟩) hS.2.2 d_Mo_writeDouble_24
  · refine lv_iload_n hx hb d_Mo_writeDouble_12 rfl (lv_at hl 2 rfl) ?_
    refine lv_sipush (v := 2200) hx hb d_Mo_writeDouble_13 (by decide) ?_
    refine lv_icmp_le (tgt := 25) hx hb d_Mo_writeDouble_16 (by decide) (fun c_16 => ?_) (fun c_16 => ?_)
    · exact absurd hE (by rw [Int32.lt_iff_toInt_lt] at c_9; rw [Int32.le_iff_toInt_le] at c_16; have h8 : ¬ r9.toInt < -2200 := c_9; have h9 : r9.toInt ≤ 2200 := c_16; omega)
    · refine lv_aload_n hx hb d_Mo_writeDouble_19 rfl (lv_at hl 0 rfl) ?_
      refine lv_iconst (v := 1) hx hb d_Mo_writeDouble_20 (by decide) ?_
      refine x_calli (D := D) (wc := [(a0, .inr (4, [.ref al, .int (nI o.2.1), .ref aw, .int (nI o.2.2.2.1), .int (bI o.2.2.2.2), .ref ac, .int (nI c.1), .int (nI c.2.1), .int c.2.2.1, .int (bI c.2.2.2), .int (bI b), .int 0, .int (nI t.1), .int (nI t.2.1), .int t.2.2, .int (nI en), .ref ag, .ref am])), (al, .inl (cI, 1600, .inl o.1)), (aw, .inl (cI, 1024, .inl o.2.2.1)), (ac, .inl (cI, 40, .inl f)), (ag, .inl (cI, 1600, .inl gt)), (am, .inl (cI, 40, .inl md))]) (wr := []) (va_runV (C := R_Mo) (As := [.int 1]) (rest := []) ⟨hx, hb, hml, hown, hW⟩ (k_Mo_fail l D g a0 al aw ac ag am cI o c f b 0 t en gt md 1  H.size) (cwV 1 hW (gWV mw_627 mw_629 mw_32 mw_54 mw_630) rfl rfl rfl (by decide +kernel) ⟨Nat.le_of_ble_eq_true rfl, Nat.le_of_ble_eq_true rfl⟩) ⟨xPc_blind (gZ_ok g), va_recv hK hP (ci := 4) (q0 := 0) rfl rfl, x_pre (gZ_ok g) hP hK hD hS hA hZ [0, 1, 2, 3, 4, 5] [0] rfl rfl rfl⟩ rfl rfl hl.1 rfl (lv_room (Nat.le_of_ble_eq_true rfl)) d_Mo_writeDouble_21 ⟨Nat.le_of_ble_eq_true rfl, Nat.le_of_ble_eq_true rfl⟩) hP hD hS hA [0, 1, 2, 3, 4, 5] [] rfl rfl rfl (by decide) (fun r_21 u_21 H locs hw_21 hP hD hS => ?_)
      obtain ⟨hw1_, hw2_⟩ := hw_21
      replace hw1_ := hw1_.symm
      replace hw2_ := hw2_.symm
      subst hw1_
      subst hw2_
      have hP : va_P D vwCl [(a0, .inr (4, [.ref al, .int (nI o.2.1), .ref aw, .int (nI o.2.2.2.1), .int (bI o.2.2.2.2), .ref ac, .int (nI c.1), .int (nI c.2.1), .int c.2.2.1, .int (bI c.2.2.2), .int (bI b), .int 1, .int (nI t.1), .int (nI t.2.1), .int t.2.2, .int (nI en), .ref ag, .ref am])), (al, .inl (cI, 1600, .inl o.1)), (aw, .inl (cI, 1024, .inl o.2.2.1)), (ac, .inl (cI, 40, .inl f)), (ag, .inl (cI, 1600, .inl gt)), (am, .inl (cI, 40, .inl md))] H := hP
      have hD : va_D A [(a0, .inr (4, [.ref al, .int (nI o.2.1), .ref aw, .int (nI o.2.2.2.1), .int (bI o.2.2.2.2), .ref ac, .int (nI c.1), .int (nI c.2.1), .int c.2.2.1, .int (bI c.2.2.2), .int (bI b), .int 1, .int (nI t.1), .int (nI t.2.1), .int t.2.2, .int (nI en), .ref ag, .ref am])), (al, .inl (cI, 1600, .inl o.1)), (aw, .inl (cI, 1024, .inl o.2.2.1)), (ac, .inl (cI, 40, .inl f)), (ag, .inl (cI, 1600, .inl gt)), (am, .inl (cI, 40, .inl md))] := hD
      exact W.iret (v := 0) hx hb hr (fun t9 ht9 hW9 => ⟨⟨0, (1 : Int32), rfl, ⟨rfl, rfl⟩, by rw [ht9]; exact hP.sub [0, 1, 2, 3, 4, 5] rfl, va_K.moved hW9.alike hK, hD.sub [0, 1, 2, 3, 4, 5] (by decide) rfl⟩, hS.F ht9⟩) hS.2.2 d_Mo_writeDouble_24
