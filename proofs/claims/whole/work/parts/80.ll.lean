set_option maxHeartbeats 4000000 in
set_option maxRecDepth 100000 in
theorem lc_sw {p : Program} {e : Env} {s : State} {m : MethodId} {below : List Frame} {meth : Method} {cd : Code} {l : Launch} {A : Nat → Prop} {D : va_G} {g : GP} {b9 L9 : Nat} {xs : Nat → Int32} {cI cL cD : ClassId} {x qo qr qt qx ql qp qc qb qd a0 al aw ac ag am qf qg : Nat} {jj : Nat} (hl9 : l.stackTraces = false) (C : lCt p s m cd A D g b9 L9 xs cI cL cD) (G : lGo p e s m below meth cd l A D b9 cI cL cD x qo qr qt qx ql qp qc qb qd a0 al aw ac ag am qf qg (jj + 1)) (hjj : 4 * jj + 4 ≤ L9) (o : OS) (c t : CS) (y : TS) (b : Bool) (k : Int32) (tm : T3) (en : Nat) (gt md : Nat → Int32) (fo : Nat → Int64) (fd : Nat → UInt64) (hI : lI o c t y) {H : Heap} {locs : List Loc} (hP : va_P D vwCl [(x, .inr (3, [.ref qo, .ref qr, .ref qt, .ref qx, .int (bI b)])), (qo, .inr (1, [.ref ql, .int (nI o.2.1), .ref qp, .int (nI o.2.2.2.1), .int (bI o.2.2.2.2)])), (ql, .inl (cI, 1507, .inl o.1)), (qp, .inl (cI, 1024, .inl o.2.2.1)), (qr, .inr (0, [.int (nI c.1), .int (nI c.2.1), .int c.2.2.1, .int (bI c.2.2.2)])), (qt, .inr (0, [.int (nI t.1), .int (nI t.2.1), .int t.2.2.1, .int (bI t.2.2.2)])), (qx, .inr (2, [.ref qc, .ref qb, .ref qd])), (qc, .inl (cI, 40, .inl y.1)), (qb, .inl (cI, 120, .inl y.2.1)), (qd, .inl (cI, 40, .inl y.2.2)), (a0, .inr (4, [.ref al, .int (nI o.2.1), .ref aw, .int (nI o.2.2.2.1), .int (bI o.2.2.2.2), .ref ac, .int (nI c.1), .int (nI c.2.1), .int c.2.2.1, .int (bI c.2.2.2), .int (bI b), .int k, .int (nI tm.1), .int (nI tm.2.1), .int tm.2.2, .int (nI en), .ref ag, .ref am])), (al, .inl (cI, 1600, .inl o.1)), (aw, .inl (cI, 1024, .inl o.2.2.1)), (ac, .inl (cI, 40, .inl y.1)), (ag, .inl (cI, 1600, .inl gt)), (am, .inl (cI, 40, .inl md)), (qf, .inl (cL, 1, .inr (.inl fo))), (qg, .inl (cD, 1, .inr (.inr (.inr (.inl fd)))))] H) (hD : va_D A [(x, .inr (3, [.ref qo, .ref qr, .ref qt, .ref qx, .int (bI b)])), (qo, .inr (1, [.ref ql, .int (nI o.2.1), .ref qp, .int (nI o.2.2.2.1), .int (bI o.2.2.2.2)])), (ql, .inl (cI, 1507, .inl o.1)), (qp, .inl (cI, 1024, .inl o.2.2.1)), (qr, .inr (0, [.int (nI c.1), .int (nI c.2.1), .int c.2.2.1, .int (bI c.2.2.2)])), (qt, .inr (0, [.int (nI t.1), .int (nI t.2.1), .int t.2.2.1, .int (bI t.2.2.2)])), (qx, .inr (2, [.ref qc, .ref qb, .ref qd])), (qc, .inl (cI, 40, .inl y.1)), (qb, .inl (cI, 120, .inl y.2.1)), (qd, .inl (cI, 40, .inl y.2.2)), (a0, .inr (4, [.ref al, .int (nI o.2.1), .ref aw, .int (nI o.2.2.2.1), .int (bI o.2.2.2.2), .ref ac, .int (nI c.1), .int (nI c.2.1), .int c.2.2.1, .int (bI c.2.2.2), .int (bI b), .int k, .int (nI tm.1), .int (nI tm.2.1), .int tm.2.2, .int (nI en), .ref ag, .ref am])), (al, .inl (cI, 1600, .inl o.1)), (aw, .inl (cI, 1024, .inl o.2.2.1)), (ac, .inl (cI, 40, .inl y.1)), (ag, .inl (cI, 1600, .inl gt)), (am, .inl (cI, 40, .inl md)), (qf, .inl (cL, 1, .inr (.inl fo))), (qg, .inl (cD, 1, .inr (.inr (.inr (.inl fd)))))]) (hS : va_S A s.heap H locs) {ls : Array Slot} (hl : lv_has ls 9 [(0, .ref b9), (1, .ref x), (2, .ref a0), (3, .ref qf), (4, .ref qg), (5, .int (nI (4 * jj)))]) : W p l e room_1 s m #[Value.ref b9] below meth cd H locs (20 + jj) (8000 + 6 * jj) (lw_Z below #[Value.ref b9] s) (F0 m 37 ls []) := by
  obtain ⟨hx, hb, hml, hown, hW, hA, hK, hZ, hX, hbl, hbA, hL9⟩ := id C
  refine lv_aload_n hx hb d_L_law_37 rfl (lv_at hl 0 rfl) ?_
  refine lv_iload hx hb d_L_law_38 (lv_at hl 5 rfl) ?_
  refine va_sld hx hb hX hbl hbA hS (vp_in_nI (n := 4 * jj) (by omega) (by omega)) d_L_law_40 ?_
  refine lv_bipush (v := 31) hx hb d_L_law_41 (by decide) ?_
  refine lv_iand hx hb d_L_law_43 ?_
  obtain ⟨q, hq, eq⟩ := x_a31 (xs (nI (4 * jj)).toNatClampNeg)
  refine x_topi (y := nI q) eq ?_
  by_cases h17 : q ≤ 17
  · rcases (show q = 0 ∨ q = 1 ∨ q = 2 ∨ q = 3 ∨ q = 4 ∨ q = 5 ∨ q = 6 ∨ q = 7 ∨ q = 8 ∨ q = 9 ∨ q = 10 ∨ q = 11 ∨ q = 12 ∨ q = 13 ∨ q = 14 ∨ q = 15 ∨ q = 16 ∨ q = 17 by omega) with rfl | rfl | rfl | rfl | rfl | rfl | rfl | rfl | rfl | rfl | rfl | rfl | rfl | rfl | rfl | rfl | rfl | rfl
    · exact lv_tableIn (tgt := 132) hx hb d_L_law_44 (by decide) (by decide) rfl (by decide) (lc_raw hl9 C G hjj o c t y b k tm en gt md fo fd hI hP hD hS hl)
    · exact lv_tableIn (tgt := 232) hx hb d_L_law_44 (by decide) (by decide) rfl (by decide) (lc_blocks hl9 C G hjj o c t y b k tm en gt md fo fd hI hP hD hS hl)
    · exact lv_tableIn (tgt := 273) hx hb d_L_law_44 (by decide) (by decide) rfl (by decide) (lc_write hl9 C G hjj o c t y b k tm en gt md fo fd hI hP hD hS hl)
    · exact lv_tableIn (tgt := 373) hx hb d_L_law_44 (by decide) (by decide) rfl (by decide) (lc_writeFloat hl9 C G hjj o c t y b k tm en gt md fo fd hI hP hD hS hl)
    · exact lv_tableIn (tgt := 449) hx hb d_L_law_44 (by decide) (by decide) rfl (by decide) (lc_writeDouble hl9 C G hjj o c t y b k tm en gt md fo fd hI hP hD hS hl)
    · exact lv_tableIn (tgt := 527) hx hb d_L_law_44 (by decide) (by decide) rfl (by decide) (lc_put hl9 C G hjj o c t y b k tm en gt md fo fd hI hP hD hS hl)
    · exact lv_tableIn (tgt := 595) hx hb d_L_law_44 (by decide) (by decide) rfl (by decide) (lc_writeText hl9 C G hjj o c t y b k tm en gt md fo fd hI hP hD hS hl)
    · exact lv_tableIn (tgt := 651) hx hb d_L_law_44 (by decide) (by decide) rfl (by decide) (lc_flush hl9 C G hjj o c t y b k tm en gt md fo fd hI hP hD hS hl)
    · exact lv_tableIn (tgt := 664) hx hb d_L_law_44 (by decide) (by decide) rfl (by decide) (lc_read hl9 C G hjj o c t y b k tm en gt md fo fd hI hP hD hS hl)
    · exact lv_tableIn (tgt := 719) hx hb d_L_law_44 (by decide) (by decide) rfl (by decide) (lc_readFloat hl9 C G hjj o c t y b k tm en gt md fo fd hI hP hD hS hl)
    · exact lv_tableIn (tgt := 785) hx hb d_L_law_44 (by decide) (by decide) rfl (by decide) (lc_readDouble hl9 C G hjj o c t y b k tm en gt md fo fd hI hP hD hS hl)
    · exact lv_tableIn (tgt := 850) hx hb d_L_law_44 (by decide) (by decide) rfl (by decide) (lc_readText hl9 C G hjj o c t y b k tm en gt md fo fd hI hP hD hS hl)
    · exact lv_tableIn (tgt := 894) hx hb d_L_law_44 (by decide) (by decide) rfl (by decide) (lc_readBlocks hl9 C G hjj o c t y b k tm en gt md fo fd hI hP hD hS hl)
    · exact lv_tableIn (tgt := 966) hx hb d_L_law_44 (by decide) (by decide) rfl (by decide) (lc_skip hl9 C G hjj o c t y b k tm en gt md fo fd hI hP hD hS hl)
    · exact lv_tableIn (tgt := 1022) hx hb d_L_law_44 (by decide) (by decide) rfl (by decide) (lc_rewind hl9 C G hjj o c t y b k tm en gt md fo fd hI hP hD hS hl)
    · exact lv_tableIn (tgt := 1035) hx hb d_L_law_44 (by decide) (by decide) rfl (by decide) (lc_byteAt hl9 C G hjj o c t y b k tm en gt md fo fd hI hP hD hS hl)
    · exact lv_tableIn (tgt := 1060) hx hb d_L_law_44 (by decide) (by decide) rfl (by decide) (lc_code hl9 C G hjj o c t y b k tm en gt md fo fd hI hP hD hS hl)
    · exact lv_tableIn (tgt := 1116) hx hb d_L_law_44 (by decide) (by decide) rfl (by decide) (lc_state hl9 C G hjj o c t y b k tm en gt md fo fd hI hP hD hS hl)
  · exact lv_tableOut (tgt := 1172) hx hb d_L_law_44 (Or.inr (by rw [nI_toInt (by omega)]; omega)) (by decide) (lp_none hl9 C G hjj o c t y b k tm en gt md fo fd hI hP hD hS hl)
set_option maxHeartbeats 4000000 in
set_option maxRecDepth 100000 in
theorem ll_go {p : Program} {e : Env} {s : State} {m : MethodId} {below : List Frame} {meth : Method} {cd : Code} {l : Launch} {A : Nat → Prop} {D : va_G} {g : GP} {b9 L9 : Nat} {xs : Nat → Int32} {cI cL cD : ClassId} {x qo qr qt qx ql qp qc qb qd a0 al aw ac ag am qf qg : Nat} (hl9 : l.stackTraces = false) (hr : meth.sig.returnType = ret) (hlocks : meth.locks = false) (hAs : ∀ q, A q → s.heap.size ≤ q) (C : lCt p s m cd A D g b9 L9 xs cI cL cD) : ∀ (n jj : Nat), 4 * jj ≤ L9 → L9 - 4 * jj < n → lGo p e s m below meth cd l A D b9 cI cL cD x qo qr qt qx ql qp qc qb qd a0 al aw ac ag am qf qg jj := by
  intro n
  induction n with
  | zero => intro jj _ hn; exact absurd hn (Nat.not_lt_zero _)
  | succ n ih =>
    intro jj hj hn o c t y b k tm en gt md fo fd hI H locs hP hD hS ls hl
    obtain ⟨hx, hb, hml, hown, hW, hA, hK, hZ, hX, hbl, hbA, hL9⟩ := id C
    refine lv_iload hx hb d_L_law_28 (lv_at hl 5 rfl) ?_
    refine lv_aload_n hx hb d_L_law_30 rfl (lv_at hl 0 rfl) ?_
    refine va_slen hx hb hX hbl hbA hS d_L_law_31 ?_
    refine lv_iconst (v := 4) hx hb d_L_law_32 (by decide) ?_
    refine lv_isub hx hb d_L_law_33 ?_
    refine lv_icmp_gt (tgt := 1178) hx hb d_L_law_34 (by decide) (fun c_34 => ?_) (fun c_34 => ?_)
    · refine lv_iconst (v := 1) hx hb d_L_law_1178 (by decide) ?_
      refine W.widen (k := 601024) (n := 7293034) (by omega) (by omega) ?_
      refine va_forget (fun q h => hAs _ (hS.2.2 q h)) ?_
      exact lw_ret hx hb hr hlocks d_L_law_1179
    · have hjj : 4 * jj + 4 ≤ L9 := Classical.not_not.mp (mt (lp_gt hL9 hj).mpr c_34)
      exact lc_sw hl9 C (ih (jj + 1) (by omega) (by omega)) hjj o c t y b k tm en gt md fo fd hI hP hD hS hl
