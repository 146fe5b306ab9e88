def m_X0_add (xlength : Nat) (xbytes : (Nat → Int32)) (c : Nat) : Nat × Nat × (Nat → Int32) := (if 150 ≤ xlength then (xlength, xlength, xbytes) else ((xlength + 1), (xlength + 1), (upd xbytes xlength (nI c))))
set_option maxHeartbeats 4000000 in
set_option maxRecDepth 100000 in
theorem c_X0_add {l : Launch} {D : va_G} {E : Nat → ClassId} {a : Nat → Nat} {xlength : Nat} {xstart : Nat} {xbehind : Nat} {xsort : Int32} {xnumber : Int32} {xbytes : (Nat → Int32)} {c : Nat} (hXL : xlength ≤ 150) (hc : c < 128) : wl_Met (τ := Nat × Nat × (Nat → Int32)) l D E yX0_add cX0_add 2 (some .int) ({ frames := 0, cells := 0, slots := 0, locals := 0 } : Room) [.ref (a 0), .int (nI c)] (wTX E a xlength xstart xbehind xsort xnumber xbytes) (fun z => some (.int (nI z.1))) (fun z => (wTX E a z.2.1 xstart xbehind xsort xnumber z.2.2)) (m_X0_add xlength xbytes c) := by
  refine wl_enter (own := RX0) (by decide +kernel) rfl (Nat.le_of_ble_eq_true rfl) ?_
  intro p0 e0 s0 m0 bl0 mt0 c0 A hC hr hlk hA H locs hP hD hS ls hl
  have hx := hC.1
  have hb := hC.2.1
  have hl : lv_has ls 2 [(0, .ref (a 0)), (1, .int (nI c))] := hl
  have hm := m_X0_add.eq_1 xlength xbytes c
  refine lv_aload_n hx hb dX0_add_0 rfl (lv_at hl 0 rfl) ?_
  refine g_TX_0_length hC hP mw_6 dX0_add_1 ?_
  refine lv_sipush (v := (nI 150)) hx hb dX0_add_4 (by decide +kernel) ?_
  refine wl_icmp_ge_n hx hb (by first | omega | exact Nat.lt_of_le_of_lt Nat.and_le_right (by omega) | exact Nat.pow_lt_pow_right (by omega) (by omega) | exact Nat.lt_trans (by assumption) (Nat.pow_lt_pow_right (by omega) (by omega))) (by first | omega | exact Nat.lt_of_le_of_lt Nat.and_le_right (by omega) | exact Nat.pow_lt_pow_right (by omega) (by omega) | exact Nat.lt_trans (by assumption) (Nat.pow_lt_pow_right (by omega) (by omega))) (tgt := 31) dX0_add_7 (by decide) (fun c1 => ?_) (fun c1 => ?_)
  · have hm := hm.trans (if_pos c1)
    refine lv_aload_n hx hb dX0_add_31 rfl (lv_at hl 0 rfl) ?_
    refine g_TX_0_length hC hP mw_6 dX0_add_32 ?_
    exact wl_iret hC hr hlk hm rfl hP hD hS dX0_add_35
  · have hm := hm.trans (if_neg c1)
    refine lv_aload_n hx hb dX0_add_10 rfl (lv_at hl 0 rfl) ?_
    refine g_TX_0_bytes hC hP mw_4 dX0_add_11 ?_
    refine lv_aload_n hx hb dX0_add_14 rfl (lv_at hl 0 rfl) ?_
    refine g_TX_0_length hC hP mw_6 dX0_add_15 ?_
    refine lv_iload_n hx hb dX0_add_18 rfl (lv_at hl 1 rfl) ?_
    refine lv_i2b hx hb dX0_add_19 (wl_i2b (by omega)) ?_
    refine st_TX_1 hC hP hD hS xlength (nI c) (wl_byte (hc)) (by omega) dX0_add_20 (fun H locs hP hD hS => ?_)
    refine lv_aload_n hx hb dX0_add_21 rfl (lv_at hl 0 rfl) ?_
    refine lv_dup hx hb dX0_add_22 rfl ?_
    refine g_TX_0_length hC hP mw_6 dX0_add_23 ?_
    refine lv_iconst (v := (nI 1)) hx hb dX0_add_26 (by decide +kernel) ?_
    refine lv_iadd hx hb dX0_add_27 ?_
    refine wl_re (show nI xlength + nI 1 = nI (xlength + 1) from nI_add xlength 1) ?_
    refine p_TX_0_length hC hP hD hS (xlength + 1) mw_6 dX0_add_28 (fun H locs hP hD hS => ?_)
    refine lv_aload_n hx hb dX0_add_31 rfl (lv_at hl 0 rfl) ?_
    refine g_TX_0_length hC hP mw_6 dX0_add_32 ?_
    exact wl_iret hC hr hlk hm rfl hP hD hS dX0_add_35
def m_X3_refuseBad (rbad : Int32) : Int32 × Int32 := ((-2), (rbad + (nI 1)))
set_option maxHeartbeats 4000000 in
set_option maxRecDepth 100000 in
theorem c_X3_refuseBad {l : Launch} {D : va_G} {E : Nat → ClassId} {a : Nat → Nat} {fabove : Int64} {fbelow : Int64} {rbad : Int32} {rno : Int32} {rfull : Int32} {counts0 : Int32} {people0 : Nat} {day0 : Int32} {listed0 : Int32} {followed0 : Int32} {struck0 : Int32} {noted0 : Nat} {undoable0 : Nat} {kinds0 : (Nat → Int32)} {tempers0 : (Nat → Int32)} {notes0 : (Nat → Int32)} {past0 : (Nat → Int32)} {counts1 : Int32} {people1 : Nat} {day1 : Int32} {listed1 : Int32} {followed1 : Int32} {struck1 : Int32} {noted1 : Nat} {undoable1 : Nat} {kinds1 : (Nat → Int32)} {tempers1 : (Nat → Int32)} {notes1 : (Nat → Int32)} {past1 : (Nat → Int32)} {counts2 : Int32} {people2 : Nat} {day2 : Int32} {listed2 : Int32} {followed2 : Int32} {struck2 : Int32} {noted2 : Nat} {undoable2 : Nat} {kinds2 : (Nat → Int32)} {tempers2 : (Nat → Int32)} {notes2 : (Nat → Int32)} {past2 : (Nat → Int32)} {counts3 : Int32} {people3 : Nat} {day3 : Int32} {listed3 : Int32} {followed3 : Int32} {struck3 : Int32} {noted3 : Nat} {undoable3 : Nat} {kinds3 : (Nat → Int32)} {tempers3 : (Nat → Int32)} {notes3 : (Nat → Int32)} {past3 : (Nat → Int32)} {keptz : (Nat → Int32)} {wkind : Int32} {wtemper : Int32} {wcounts : Int32} {wday : Int32} {wlisted : Bool} {wfollowed : Bool} {xlength : Nat} {xstart : Nat} {xbehind : Nat} {xsort : Int32} {xnumber : Int32} {xbytes : (Nat → Int32)}  : wl_Met (τ := Int32 × Int32) l D E yX3_refuseBad cX3_refuseBad 1 (some .int) ({ frames := 0, cells := 0, slots := 0, locals := 0 } : Room) [.ref (a 0)] (wX E a fabove fbelow rbad rno rfull counts0 people0 day0 listed0 followed0 struck0 noted0 undoable0 kinds0 tempers0 notes0 past0 counts1 people1 day1 listed1 followed1 struck1 noted1 undoable1 kinds1 tempers1 notes1 past1 counts2 people2 day2 listed2 followed2 struck2 noted2 undoable2 kinds2 tempers2 notes2 past2 counts3 people3 day3 listed3 followed3 struck3 noted3 undoable3 kinds3 tempers3 notes3 past3 keptz wkind wtemper wcounts wday wlisted wfollowed xlength xstart xbehind xsort xnumber xbytes) (fun z => some (.int z.1)) (fun z => (wX E a fabove fbelow z.2 rno rfull counts0 people0 day0 listed0 followed0 struck0 noted0 undoable0 kinds0 tempers0 notes0 past0 counts1 people1 day1 listed1 followed1 struck1 noted1 undoable1 kinds1 tempers1 notes1 past1 counts2 people2 day2 listed2 followed2 struck2 noted2 undoable2 kinds2 tempers2 notes2 past2 counts3 people3 day3 listed3 followed3 struck3 noted3 undoable3 kinds3 tempers3 notes3 past3 keptz wkind wtemper wcounts wday wlisted wfollowed xlength xstart xbehind xsort xnumber xbytes)) (m_X3_refuseBad rbad) := by
  refine wl_enter (own := RX3) (by decide +kernel) rfl (Nat.le_of_ble_eq_true rfl) ?_
  intro p0 e0 s0 m0 bl0 mt0 c0 A hC hr hlk hA H locs hP hD hS ls hl
  have hx := hC.1
  have hb := hC.2.1
  have hl : lv_has ls 1 [(0, .ref (a 0))] := hl
  have hm := m_X3_refuseBad.eq_1 rbad
  refine lv_aload_n hx hb dX3_refuseBad_0 rfl (lv_at hl 0 rfl) ?_
  refine lv_dup hx hb dX3_refuseBad_1 rfl ?_
  refine g_X_0_refusedBad hC hP mw_219 dX3_refuseBad_2 ?_
  refine lv_iconst (v := (nI 1)) hx hb dX3_refuseBad_5 (by decide +kernel) ?_
  refine lv_iadd hx hb dX3_refuseBad_6 ?_
  refine p_X_0_refusedBad hC hP hD hS (rbad + (nI 1)) mw_219 dX3_refuseBad_7 (fun H locs hP hD hS => ?_)
  refine lv_bipush (v := (-2)) hx hb dX3_refuseBad_10 (by decide +kernel) ?_
  exact wl_iret hC hr hlk hm rfl hP hD hS dX3_refuseBad_12
def m_X3_refuseNo (rno : Int32) : Int32 × Int32 := ((-3), (rno + (nI 1)))
set_option maxHeartbeats 4000000 in
set_option maxRecDepth 100000 in
theorem c_X3_refuseNo {l : Launch} {D : va_G} {E : Nat → ClassId} {a : Nat → Nat} {fabove : Int64} {fbelow : Int64} {rbad : Int32} {rno : Int32} {rfull : Int32} {counts0 : Int32} {people0 : Nat} {day0 : Int32} {listed0 : Int32} {followed0 : Int32} {struck0 : Int32} {noted0 : Nat} {undoable0 : Nat} {kinds0 : (Nat → Int32)} {tempers0 : (Nat → Int32)} {notes0 : (Nat → Int32)} {past0 : (Nat → Int32)} {counts1 : Int32} {people1 : Nat} {day1 : Int32} {listed1 : Int32} {followed1 : Int32} {struck1 : Int32} {noted1 : Nat} {undoable1 : Nat} {kinds1 : (Nat → Int32)} {tempers1 : (Nat → Int32)} {notes1 : (Nat → Int32)} {past1 : (Nat → Int32)} {counts2 : Int32} {people2 : Nat} {day2 : Int32} {listed2 : Int32} {followed2 : Int32} {struck2 : Int32} {noted2 : Nat} {undoable2 : Nat} {kinds2 : (Nat → Int32)} {tempers2 : (Nat → Int32)} {notes2 : (Nat → Int32)} {past2 : (Nat → Int32)} {counts3 : Int32} {people3 : Nat} {day3 : Int32} {listed3 : Int32} {followed3 : Int32} {struck3 : Int32} {noted3 : Nat} {undoable3 : Nat} {kinds3 : (Nat → Int32)} {tempers3 : (Nat → Int32)} {notes3 : (Nat → Int32)} {past3 : (Nat → Int32)} {keptz : (Nat → Int32)} {wkind : Int32} {wtemper : Int32} {wcounts : Int32} {wday : Int32} {wlisted : Bool} {wfollowed : Bool} {xlength : Nat} {xstart : Nat} {xbehind : Nat} {xsort : Int32} {xnumber : Int32} {xbytes : (Nat → Int32)}  : wl_Met (τ := Int32 × Int32) l D E yX3_refuseNo cX3_refuseNo 1 (some .int) ({ frames := 0, cells := 0, slots := 0, locals := 0 } : Room) [.ref (a 0)] (wX E a fabove fbelow rbad rno rfull counts0 people0 day0 listed0 followed0 struck0 noted0 undoable0 kinds0 tempers0 notes0 past0 counts1 people1 day1 listed1 followed1 struck1 noted1 undoable1 kinds1 tempers1 notes1 past1 counts2 people2 day2 listed2 followed2 struck2 noted2 undoable2 kinds2 tempers2 notes2 past2 counts3 people3 day3 listed3 followed3 struck3 noted3 undoable3 kinds3 tempers3 notes3 past3 keptz wkind wtemper wcounts wday wlisted wfollowed xlength xstart xbehind xsort xnumber xbytes) (fun z => some (.int z.1)) (fun z => (wX E a fabove fbelow rbad z.2 rfull counts0 people0 day0 listed0 followed0 struck0 noted0 undoable0 kinds0 tempers0 notes0 past0 counts1 people1 day1 listed1 followed1 struck1 noted1 undoable1 kinds1 tempers1 notes1 past1 counts2 people2 day2 listed2 followed2 struck2 noted2 undoable2 kinds2 tempers2 notes2 past2 counts3 people3 day3 listed3 followed3 struck3 noted3 undoable3 kinds3 tempers3 notes3 past3 keptz wkind wtemper wcounts wday wlisted wfollowed xlength xstart xbehind xsort xnumber xbytes)) (m_X3_refuseNo rno) := by
  refine wl_enter (own := RX3) (by decide +kernel) rfl (Nat.le_of_ble_eq_true rfl) ?_
  intro p0 e0 s0 m0 bl0 mt0 c0 A hC hr hlk hA H locs hP hD hS ls hl
  have hx := hC.1
  have hb := hC.2.1
  have hl : lv_has ls 1 [(0, .ref (a 0))] := hl
  have hm := m_X3_refuseNo.eq_1 rno
  refine lv_aload_n hx hb dX3_refuseNo_0 rfl (lv_at hl 0 rfl) ?_
  refine lv_dup hx hb dX3_refuseNo_1 rfl ?_
  refine g_X_0_refusedNo hC hP mw_265 dX3_refuseNo_2 ?_
  refine lv_iconst (v := (nI 1)) hx hb dX3_refuseNo_5 (by decide +kernel) ?_
  refine lv_iadd hx hb dX3_refuseNo_6 ?_
  refine p_X_0_refusedNo hC hP hD hS (rno + (nI 1)) mw_265 dX3_refuseNo_7 (fun H locs hP hD hS => ?_)
  refine lv_bipush (v := (-3)) hx hb dX3_refuseNo_10 (by decide +kernel) ?_
  exact wl_iret hC hr hlk hm rfl hP hD hS dX3_refuseNo_12
def m_X3_refuseFull (rfull : Int32) : Int32 × Int32 := ((-4), (rfull + (nI 1)))
set_option maxHeartbeats 4000000 in
set_option maxRecDepth 100000 in
theorem c_X3_refuseFull {l : Launch} {D : va_G} {E : Nat → ClassId} {a : Nat → Nat} {fabove : Int64} {fbelow : Int64} {rbad : Int32} {rno : Int32} {rfull : Int32} {counts0 : Int32} {people0 : Nat} {day0 : Int32} {listed0 : Int32} {followed0 : Int32} {struck0 : Int32} {noted0 : Nat} {undoable0 : Nat} {kinds0 : (Nat → Int32)} {tempers0 : (Nat → Int32)} {notes0 : (Nat → Int32)} {past0 : (Nat → Int32)} {counts1 : Int32} {people1 : Nat} {day1 : Int32} {listed1 : Int32} {followed1 : Int32} {struck1 : Int32} {noted1 : Nat} {undoable1 : Nat} {kinds1 : (Nat → Int32)} {tempers1 : (Nat → Int32)} {notes1 : (Nat → Int32)} {past1 : (Nat → Int32)} {counts2 : Int32} {people2 : Nat} {day2 : Int32} {listed2 : Int32} {followed2 : Int32} {struck2 : Int32} {noted2 : Nat} {undoable2 : Nat} {kinds2 : (Nat → Int32)} {tempers2 : (Nat → Int32)} {notes2 : (Nat → Int32)} {past2 : (Nat → Int32)} {counts3 : Int32} {people3 : Nat} {day3 : Int32} {listed3 : Int32} {followed3 : Int32} {struck3 : Int32} {noted3 : Nat} {undoable3 : Nat} {kinds3 : (Nat → Int32)} {tempers3 : (Nat → Int32)} {notes3 : (Nat → Int32)} {past3 : (Nat → Int32)} {keptz : (Nat → Int32)} {wkind : Int32} {wtemper : Int32} {wcounts : Int32} {wday : Int32} {wlisted : Bool} {wfollowed : Bool} {xlength : Nat} {xstart : Nat} {xbehind : Nat} {xsort : Int32} {xnumber : Int32} {xbytes : (Nat → Int32)}  : wl_Met (τ := Int32 × Int32) l D E yX3_refuseFull cX3_refuseFull 1 (some .int) ({ frames := 0, cells := 0, slots := 0, locals := 0 } : Room) [.ref (a 0)] (wX E a fabove fbelow rbad rno rfull counts0 people0 day0 listed0 followed0 struck0 noted0 undoable0 kinds0 tempers0 notes0 past0 counts1 people1 day1 listed1 followed1 struck1 noted1 undoable1 kinds1 tempers1 notes1 past1 counts2 people2 day2 listed2 followed2 struck2 noted2 undoable2 kinds2 tempers2 notes2 past2 counts3 people3 day3 listed3 followed3 struck3 noted3 undoable3 kinds3 tempers3 notes3 past3 keptz wkind wtemper wcounts wday wlisted wfollowed xlength xstart xbehind xsort xnumber xbytes) (fun z => some (.int z.1)) (fun z => (wX E a fabove fbelow rbad rno z.2 counts0 people0 day0 listed0 followed0 struck0 noted0 undoable0 kinds0 tempers0 notes0 past0 counts1 people1 day1 listed1 followed1 struck1 noted1 undoable1 kinds1 tempers1 notes1 past1 counts2 people2 day2 listed2 followed2 struck2 noted2 undoable2 kinds2 tempers2 notes2 past2 counts3 people3 day3 listed3 followed3 struck3 noted3 undoable3 kinds3 tempers3 notes3 past3 keptz wkind wtemper wcounts wday wlisted wfollowed xlength xstart xbehind xsort xnumber xbytes)) (m_X3_refuseFull rfull) := by
  refine wl_enter (own := RX3) (by decide +kernel) rfl (Nat.le_of_ble_eq_true rfl) ?_
  intro p0 e0 s0 m0 bl0 mt0 c0 A hC hr hlk hA H locs hP hD hS ls hl
  have hx := hC.1
  have hb := hC.2.1
  have hl : lv_has ls 1 [(0, .ref (a 0))] := hl
  have hm := m_X3_refuseFull.eq_1 rfull
  refine lv_aload_n hx hb dX3_refuseFull_0 rfl (lv_at hl 0 rfl) ?_
  refine lv_dup hx hb dX3_refuseFull_1 rfl ?_
  refine g_X_0_refusedFull hC hP mw_228 dX3_refuseFull_2 ?_
  refine lv_iconst (v := (nI 1)) hx hb dX3_refuseFull_5 (by decide +kernel) ?_
  refine lv_iadd hx hb dX3_refuseFull_6 ?_
  refine p_X_0_refusedFull hC hP hD hS (rfull + (nI 1)) mw_228 dX3_refuseFull_7 (fun H locs hP hD hS => ?_)
  refine lv_bipush (v := (-4)) hx hb dX3_refuseFull_10 (by decide +kernel) ?_
  exact wl_iret hC hr hlk hm rfl hP hD hS dX3_refuseFull_12
def m_X3_isThere (people0 : Nat) (p : Int32) : Bool := (wl_bnd (m_X3_isWithin p (nI 0) ((nI people0) - (nI 1))) (fun z1 => z1))
set_option maxHeartbeats 4000000 in
set_option maxRecDepth 100000 in
theorem c_X3_isThere {l : Launch} {D : va_G} {E : Nat → ClassId} {a : Nat → Nat} {fabove : Int64} {fbelow : Int64} {rbad : Int32} {rno : Int32} {rfull : Int32} {counts0 : Int32} {people0 : Nat} {day0 : Int32} {listed0 : Int32} {followed0 : Int32} {struck0 : Int32} {noted0 : Nat} {undoable0 : Nat} {kinds0 : (Nat → Int32)} {tempers0 : (Nat → Int32)} {notes0 : (Nat → Int32)} {past0 : (Nat → Int32)} {counts1 : Int32} {people1 : Nat} {day1 : Int32} {listed1 : Int32} {followed1 : Int32} {struck1 : Int32} {noted1 : Nat} {undoable1 : Nat} {kinds1 : (Nat → Int32)} {tempers1 : (Nat → Int32)} {notes1 : (Nat → Int32)} {past1 : (Nat → Int32)} {counts2 : Int32} {people2 : Nat} {day2 : Int32} {listed2 : Int32} {followed2 : Int32} {struck2 : Int32} {noted2 : Nat} {undoable2 : Nat} {kinds2 : (Nat → Int32)} {tempers2 : (Nat → Int32)} {notes2 : (Nat → Int32)} {past2 : (Nat → Int32)} {counts3 : Int32} {people3 : Nat} {day3 : Int32} {listed3 : Int32} {followed3 : Int32} {struck3 : Int32} {noted3 : Nat} {undoable3 : Nat} {kinds3 : (Nat → Int32)} {tempers3 : (Nat → Int32)} {notes3 : (Nat → Int32)} {past3 : (Nat → Int32)} {keptz : (Nat → Int32)} {wkind : Int32} {wtemper : Int32} {wcounts : Int32} {wday : Int32} {wlisted : Bool} {wfollowed : Bool} {xlength : Nat} {xstart : Nat} {xbehind : Nat} {xsort : Int32} {xnumber : Int32} {xbytes : (Nat → Int32)} {p : Int32} : wl_Met (τ := Bool) l D E yX3_isThere cX3_isThere 2 (some .boolean) ({ frames := 1, cells := 0, slots := 0, locals := 22 } : Room) [.ref (a 0), .int p] (wX E a fabove fbelow rbad rno rfull counts0 people0 day0 listed0 followed0 struck0 noted0 undoable0 kinds0 tempers0 notes0 past0 counts1 people1 day1 listed1 followed1 struck1 noted1 undoable1 kinds1 tempers1 notes1 past1 counts2 people2 day2 listed2 followed2 struck2 noted2 undoable2 kinds2 tempers2 notes2 past2 counts3 people3 day3 listed3 followed3 struck3 noted3 undoable3 kinds3 tempers3 notes3 past3 keptz wkind wtemper wcounts wday wlisted wfollowed xlength xstart xbehind xsort xnumber xbytes) (fun z => some (.int (wl_b z))) (fun _ => (wX E a fabove fbelow rbad rno rfull counts0 people0 day0 listed0 followed0 struck0 noted0 undoable0 kinds0 tempers0 notes0 past0 counts1 people1 day1 listed1 followed1 struck1 noted1 undoable1 kinds1 tempers1 notes1 past1 counts2 people2 day2 listed2 followed2 struck2 noted2 undoable2 kinds2 tempers2 notes2 past2 counts3 people3 day3 listed3 followed3 struck3 noted3 undoable3 kinds3 tempers3 notes3 past3 keptz wkind wtemper wcounts wday wlisted wfollowed xlength xstart xbehind xsort xnumber xbytes)) (m_X3_isThere people0 p) := by
  refine wl_enter (own := RX3) (by decide +kernel) rfl (Nat.le_of_ble_eq_true rfl) ?_
  intro p0 e0 s0 m0 bl0 mt0 c0 A hC hr hlk hA H locs hP hD hS ls hl
  have hx := hC.1
  have hb := hC.2.1
  have hl : lv_has ls 2 [(0, .ref (a 0)), (1, .int p)] := hl
  have hm := m_X3_isThere.eq_1 people0 p
  refine lv_iload_n hx hb dX3_isThere_0 rfl (lv_at hl 1 rfl) ?_
  refine lv_iconst (v := (nI 0)) hx hb dX3_isThere_1 (by decide +kernel) ?_
  refine lv_aload_n hx hb dX3_isThere_2 rfl (lv_at hl 0 rfl) ?_
  refine g_X_0_now hC hP mw_202 dX3_isThere_3 ?_
  refine g_X_1_people hC hP mw_221 dX3_isThere_6 ?_
  refine lv_iconst (v := (nI 1)) hx hb dX3_isThere_9 (by decide +kernel) ?_
  refine lv_isub hx hb dX3_isThere_10 ?_
  refine wl_callPi hC (c_X3_isWithin (v := p) (least := (nI 0)) (most := ((nI people0) - (nI 1))) ) lk_RX3_48 rfl ⟨rfl, rfl, Nat.le_of_ble_eq_true rfl, Nat.le_of_ble_eq_true rfl⟩ hP hS hA hl.1 rfl (Nat.le_of_ble_eq_true rfl) dX3_isThere_11 ⟨Nat.zero_le _, Nat.zero_le _⟩ (fun z1 hz1 H locs hP hS => ?_)
  have hm := wl_bz hm hz1
  exact wl_zret (v := z1) hC hr hlk hm rfl hP hD hS dX3_isThere_14
theorem isThere_iff {p : Int32} {P : Nat} (hP : P ≤ 7) : m_X3_isThere P p = true ↔ 0 ≤ p.toInt ∧ p.toInt < (P : Int) := by
  unfold m_X3_isThere wl_bnd m_X3_isWithin
  have e0 : (nI 0).toInt = 0 := by decide +kernel
  have e1 : p < nI 0 ↔ p.toInt < 0 := by rw [Int32.lt_iff_toInt_lt, e0]
  have e2 : (nI P - nI 1) < p ↔ (P : Int) - 1 < p.toInt := by rw [Int32.lt_iff_toInt_lt, wl_pm1 hP]
  by_cases h1 : p < nI 0
  · rw [if_pos h1]
    have g := e1.mp h1
    simp
    omega
  · rw [if_neg h1]
    have g : ¬ p.toInt < 0 := fun q => h1 (e1.mpr q)
    by_cases h2 : (nI P - nI 1) < p
    · rw [if_pos h2]
      have g2 := e2.mp h2
      simp
      omega
    · rw [if_neg h2]
      have g2 : ¬ (P : Int) - 1 < p.toInt := fun q => h2 (e2.mpr q)
      simp
      omega
theorem isThere_spec {p : Int32} {P : Nat} (hP : P ≤ 7) (h : m_X3_isThere P p = true) : p = nI (cl p) ∧ cl p < P := by
  obtain ⟨h1, h2⟩ := (isThere_iff hP).mp h
  obtain ⟨g1, g2⟩ := wl_cl h1
  exact ⟨g1, by omega⟩
theorem isThere_isOne {p : Int32} {P : Nat} (hP : P ≤ 7) : m_X3_isThere P p = m_X4_isOne p P := by
  rw [Bool.eq_iff_iff, isThere_iff hP, isOne_iff hP]
theorem keepPast_u {day listed followed struck : Int32} {u : Nat} {tempers past : Nat → Int32} (hu : u ≤ 8) : (m_X1_keepPast day listed followed struck u tempers past).1 ≤ 8 := by
  unfold m_X1_keepPast wl_bnd
  by_cases h : u < 8
  · rw [if_pos h]; show u + 1 ≤ 8; omega
  · rw [if_neg h]; show 7 + 1 ≤ 8; omega
set_option maxHeartbeats 4000000 in
set_option maxRecDepth 100000 in
theorem c_X1_begin__X_1 {l : Launch} {D : va_G} {E : Nat → ClassId} {a : Nat → Nat} {fabove : Int64} {fbelow : Int64} {rbad : Int32} {rno : Int32} {rfull : Int32} {counts0 : Int32} {people0 : Nat} {day0 : Int32} {listed0 : Int32} {followed0 : Int32} {struck0 : Int32} {noted0 : Nat} {undoable0 : Nat} {kinds0 : (Nat → Int32)} {tempers0 : (Nat → Int32)} {notes0 : (Nat → Int32)} {past0 : (Nat → Int32)} {counts1 : Int32} {people1 : Nat} {day1 : Int32} {listed1 : Int32} {followed1 : Int32} {struck1 : Int32} {noted1 : Nat} {undoable1 : Nat} {kinds1 : (Nat → Int32)} {tempers1 : (Nat → Int32)} {notes1 : (Nat → Int32)} {past1 : (Nat → Int32)} {counts2 : Int32} {people2 : Nat} {day2 : Int32} {listed2 : Int32} {followed2 : Int32} {struck2 : Int32} {noted2 : Nat} {undoable2 : Nat} {kinds2 : (Nat → Int32)} {tempers2 : (Nat → Int32)} {notes2 : (Nat → Int32)} {past2 : (Nat → Int32)} {counts3 : Int32} {people3 : Nat} {day3 : Int32} {listed3 : Int32} {followed3 : Int32} {struck3 : Int32} {noted3 : Nat} {undoable3 : Nat} {kinds3 : (Nat → Int32)} {tempers3 : (Nat → Int32)} {notes3 : (Nat → Int32)} {past3 : (Nat → Int32)} {keptz : (Nat → Int32)} {wkind : Int32} {wtemper : Int32} {wcounts : Int32} {wday : Int32} {wlisted : Bool} {wfollowed : Bool} {xlength : Nat} {xstart : Nat} {xbehind : Nat} {xsort : Int32} {xnumber : Int32} {xbytes : (Nat → Int32)} {least : Int32} : wl_Met (τ := Int32 × Nat × Int32 × Int32 × Int32 × Int32 × Nat × Nat) l D E yX1_begin cX1_begin 2 none ({ frames := 0, cells := 0, slots := 0, locals := 0 } : Room) [.ref (a 1), .int least] (wX E a fabove fbelow rbad rno rfull counts0 people0 day0 listed0 followed0 struck0 noted0 undoable0 kinds0 tempers0 notes0 past0 counts1 people1 day1 listed1 followed1 struck1 noted1 undoable1 kinds1 tempers1 notes1 past1 counts2 people2 day2 listed2 followed2 struck2 noted2 undoable2 kinds2 tempers2 notes2 past2 counts3 people3 day3 listed3 followed3 struck3 noted3 undoable3 kinds3 tempers3 notes3 past3 keptz wkind wtemper wcounts wday wlisted wfollowed xlength xstart xbehind xsort xnumber xbytes) (fun _ => none) (fun z => (wX E a fabove fbelow rbad rno rfull z.1 z.2.1 z.2.2.1 z.2.2.2.1 z.2.2.2.2.1 z.2.2.2.2.2.1 z.2.2.2.2.2.2.1 z.2.2.2.2.2.2.2 kinds0 tempers0 notes0 past0 counts1 people1 day1 listed1 followed1 struck1 noted1 undoable1 kinds1 tempers1 notes1 past1 counts2 people2 day2 listed2 followed2 struck2 noted2 undoable2 kinds2 tempers2 notes2 past2 counts3 people3 day3 listed3 followed3 struck3 noted3 undoable3 kinds3 tempers3 notes3 past3 keptz wkind wtemper wcounts wday wlisted wfollowed xlength xstart xbehind xsort xnumber xbytes)) (m_X1_begin least) :=
  wl_lift (c_X1_begin (a := (fun k => a ([1, 2, 3, 4, 5].getD k 0))) (counts := counts0) (people := people0) (day := day0) (listed := listed0) (followed := followed0) (struck := struck0) (noted := noted0) (undoable := undoable0) (kinds := kinds0) (tempers := tempers0) (notes := notes0) (past := past0) (least := least) ) [1, 2, 3, 4, 5] [0, 6, 7, 8, 9, 10, 11, 12, 13, 14, 15, 16, 17, 18, 19, 20, 21, 22, 23, 24, 25] [0, 21, 22, 23, 24, 25, 1, 2, 3, 4, 5, 6, 7, 8, 9, 10, 11, 12, 13, 14, 15, 16, 17, 18, 19, 20] (wr := ([0, 6, 7, 8, 9, 10, 11, 12, 13, 14, 15, 16, 17, 18, 19, 20, 21, 22, 23, 24, 25].filterMap (fun i => (wX E a fabove fbelow rbad rno rfull counts0 people0 day0 listed0 followed0 struck0 noted0 undoable0 kinds0 tempers0 notes0 past0 counts1 people1 day1 listed1 followed1 struck1 noted1 undoable1 kinds1 tempers1 notes1 past1 counts2 people2 day2 listed2 followed2 struck2 noted2 undoable2 kinds2 tempers2 notes2 past2 counts3 people3 day3 listed3 followed3 struck3 noted3 undoable3 kinds3 tempers3 notes3 past3 keptz wkind wtemper wcounts wday wlisted wfollowed xlength xstart xbehind xsort xnumber xbytes)[i]?))) rfl rfl (by decide) (by decide) (by decide) (by decide) (fun _ => rfl)
def m_X3_town (rbad : Int32) (counts0 : Int32) (people0 : Nat) (day0 : Int32) (listed0 : Int32) (followed0 : Int32) (struck0 : Int32) (noted0 : Nat) (undoable0 : Nat) (counts : Int32) : Int32 × Int32 × Int32 × Nat × Int32 × Int32 × Int32 × Int32 × Nat × Nat := (wl_bnd (m_X3_isWithin counts (nI 1) (nI 5)) (fun z1 => (if z1 = true then (wl_bnd (m_X1_begin counts) (fun z3 => ((nI people0), rbad, z3.1, z3.2.1, z3.2.2.1, z3.2.2.2.1, z3.2.2.2.2.1, z3.2.2.2.2.2.1, z3.2.2.2.2.2.2.1, z3.2.2.2.2.2.2.2))) else (wl_bnd (m_X3_refuseBad rbad) (fun z4 => (z4.1, z4.2, counts0, people0, day0, listed0, followed0, struck0, noted0, undoable0))))))
set_option maxHeartbeats 4000000 in
set_option maxRecDepth 100000 in
theorem c_X3_town {l : Launch} {D : va_G} {E : Nat → ClassId} {a : Nat → Nat} {fabove : Int64} {fbelow : Int64} {rbad : Int32} {rno : Int32} {rfull : Int32} {counts0 : Int32} {people0 : Nat} {day0 : Int32} {listed0 : Int32} {followed0 : Int32} {struck0 : Int32} {noted0 : Nat} {undoable0 : Nat} {kinds0 : (Nat → Int32)} {tempers0 : (Nat → Int32)} {notes0 : (Nat → Int32)} {past0 : (Nat → Int32)} {counts1 : Int32} {people1 : Nat} {day1 : Int32} {listed1 : Int32} {followed1 : Int32} {struck1 : Int32} {noted1 : Nat} {undoable1 : Nat} {kinds1 : (Nat → Int32)} {tempers1 : (Nat → Int32)} {notes1 : (Nat → Int32)} {past1 : (Nat → Int32)} {counts2 : Int32} {people2 : Nat} {day2 : Int32} {listed2 : Int32} {followed2 : Int32} {struck2 : Int32} {noted2 : Nat} {undoable2 : Nat} {kinds2 : (Nat → Int32)} {tempers2 : (Nat → Int32)} {notes2 : (Nat → Int32)} {past2 : (Nat → Int32)} {counts3 : Int32} {people3 : Nat} {day3 : Int32} {listed3 : Int32} {followed3 : Int32} {struck3 : Int32} {noted3 : Nat} {undoable3 : Nat} {kinds3 : (Nat → Int32)} {tempers3 : (Nat → Int32)} {notes3 : (Nat → Int32)} {past3 : (Nat → Int32)} {keptz : (Nat → Int32)} {wkind : Int32} {wtemper : Int32} {wcounts : Int32} {wday : Int32} {wlisted : Bool} {wfollowed : Bool} {xlength : Nat} {xstart : Nat} {xbehind : Nat} {xsort : Int32} {xnumber : Int32} {xbytes : (Nat → Int32)} {counts : Int32} : wl_Met (τ := Int32 × Int32 × Int32 × Nat × Int32 × Int32 × Int32 × Int32 × Nat × Nat) l D E yX3_town cX3_town 3 (some .int) ({ frames := 1, cells := 0, slots := 0, locals := 22 } : Room) [.ref (a 0), .int counts] (wX E a fabove fbelow rbad rno rfull counts0 people0 day0 listed0 followed0 struck0 noted0 undoable0 kinds0 tempers0 notes0 past0 counts1 people1 day1 listed1 followed1 struck1 noted1 undoable1 kinds1 tempers1 notes1 past1 counts2 people2 day2 listed2 followed2 struck2 noted2 undoable2 kinds2 tempers2 notes2 past2 counts3 people3 day3 listed3 followed3 struck3 noted3 undoable3 kinds3 tempers3 notes3 past3 keptz wkind wtemper wcounts wday wlisted wfollowed xlength xstart xbehind xsort xnumber xbytes) (fun z => some (.int z.1)) (fun z => (wX E a fabove fbelow z.2.1 rno rfull z.2.2.1 z.2.2.2.1 z.2.2.2.2.1 z.2.2.2.2.2.1 z.2.2.2.2.2.2.1 z.2.2.2.2.2.2.2.1 z.2.2.2.2.2.2.2.2.1 z.2.2.2.2.2.2.2.2.2 kinds0 tempers0 notes0 past0 counts1 people1 day1 listed1 followed1 struck1 noted1 undoable1 kinds1 tempers1 notes1 past1 counts2 people2 day2 listed2 followed2 struck2 noted2 undoable2 kinds2 tempers2 notes2 past2 counts3 people3 day3 listed3 followed3 struck3 noted3 undoable3 kinds3 tempers3 notes3 past3 keptz wkind wtemper wcounts wday wlisted wfollowed xlength xstart xbehind xsort xnumber xbytes)) (m_X3_town rbad counts0 people0 day0 listed0 followed0 struck0 noted0 undoable0 counts) := by
  refine wl_enter (own := RX3) (by decide +kernel) rfl (Nat.le_of_ble_eq_true rfl) ?_
  intro p0 e0 s0 m0 bl0 mt0 c0 A hC hr hlk hA H locs hP hD hS ls hl
  have hx := hC.1
  have hb := hC.2.1
  have hl : lv_has ls 3 [(0, .ref (a 0)), (1, .int counts)] := hl
  have hm := m_X3_town.eq_1 rbad counts0 people0 day0 listed0 followed0 struck0 noted0 undoable0 counts
  refine lv_iload_n hx hb dX3_town_0 rfl (lv_at hl 1 rfl) ?_
  refine lv_iconst (v := (nI 1)) hx hb dX3_town_1 (by decide +kernel) ?_
  refine lv_iconst (v := (nI 5)) hx hb dX3_town_2 (by decide +kernel) ?_
  refine wl_callPi hC (c_X3_isWithin (v := counts) (least := (nI 1)) (most := (nI 5)) ) lk_RX3_48 rfl ⟨rfl, rfl, Nat.le_of_ble_eq_true rfl, Nat.le_of_ble_eq_true rfl⟩ hP hS hA hl.1 rfl (Nat.le_of_ble_eq_true rfl) dX3_town_3 ⟨Nat.zero_le _, Nat.zero_le _⟩ (fun z1 hz1 H locs hP hS => ?_)
  have hm := wl_bz hm hz1
  refine wl_if_ne_b hx hb (tgt := 14) dX3_town_6 (by decide) (fun c2 => ?_) (fun c2 => ?_)
  · have hm := hm.trans (if_pos c2)
    refine lv_aload_n hx hb dX3_town_14 rfl (lv_at hl 0 rfl) ?_
    refine g_X_0_now hC hP mw_202 dX3_town_15 ?_
    refine g_X_1_people hC hP mw_221 dX3_town_18 ?_
    refine lv_istore_n (lv' := [(2, .int (nI people0)), (0, .ref (a 0)), (1, .int counts)]) hx hb dX3_town_21 rfl hl (by decide) rfl (fun ls hl => ?_)
    refine lv_aload_n hx hb dX3_town_22 rfl (lv_at hl 1 rfl) ?_
    refine g_X_0_now hC hP mw_202 dX3_town_23 ?_
    refine lv_iload_n hx hb dX3_town_26 rfl (lv_at hl 2 rfl) ?_
    refine wl_callVv hC (c_X1_begin__X_1 (least := counts) ) lk_RX3_60 rfl ⟨rfl, rfl, Nat.le_of_ble_eq_true rfl, Nat.le_of_ble_eq_true rfl⟩ hP hD hS hA 1 rfl (T1 := 12) rfl hl.1 rfl (Nat.le_of_ble_eq_true rfl) dX3_town_27 ⟨Nat.zero_le _, Nat.zero_le _⟩ (fun z3 hz3 H locs hP hD hS => ?_)
    have hm := wl_bz hm hz3
    refine lv_iload_n hx hb dX3_town_30 rfl (lv_at hl 0 rfl) ?_
    exact wl_iret hC hr hlk hm rfl hP hD hS dX3_town_31
  · have hm := hm.trans (if_neg c2)
    refine lv_aload_n hx hb dX3_town_9 rfl (lv_at hl 0 rfl) ?_
    refine wl_callVi hC (c_X3_refuseBad  ) lk_RX3_52 rfl ⟨rfl, rfl, Nat.le_of_ble_eq_true rfl, Nat.le_of_ble_eq_true rfl⟩ hP hD hS hA 0 rfl (T1 := 11) rfl hl.1 rfl (Nat.le_of_ble_eq_true rfl) dX3_town_10 ⟨Nat.zero_le _, Nat.zero_le _⟩ (fun z4 hz4 H locs hP hD hS => ?_)
    have hm := wl_bz hm hz4
    exact wl_iret hC hr hlk hm rfl hP hD hS dX3_town_13
set_option maxHeartbeats 4000000 in
set_option maxRecDepth 100000 in
theorem c_X1_addOne__X_1 {l : Launch} {D : va_G} {E : Nat → ClassId} {a : Nat → Nat} {fabove : Int64} {fbelow : Int64} {rbad : Int32} {rno : Int32} {rfull : Int32} {counts0 : Int32} {people0 : Nat} {day0 : Int32} {listed0 : Int32} {followed0 : Int32} {struck0 : Int32} {noted0 : Nat} {undoable0 : Nat} {kinds0 : (Nat → Int32)} {tempers0 : (Nat → Int32)} {notes0 : (Nat → Int32)} {past0 : (Nat → Int32)} {counts1 : Int32} {people1 : Nat} {day1 : Int32} {listed1 : Int32} {followed1 : Int32} {struck1 : Int32} {noted1 : Nat} {undoable1 : Nat} {kinds1 : (Nat → Int32)} {tempers1 : (Nat → Int32)} {notes1 : (Nat → Int32)} {past1 : (Nat → Int32)} {counts2 : Int32} {people2 : Nat} {day2 : Int32} {listed2 : Int32} {followed2 : Int32} {struck2 : Int32} {noted2 : Nat} {undoable2 : Nat} {kinds2 : (Nat → Int32)} {tempers2 : (Nat → Int32)} {notes2 : (Nat → Int32)} {past2 : (Nat → Int32)} {counts3 : Int32} {people3 : Nat} {day3 : Int32} {listed3 : Int32} {followed3 : Int32} {struck3 : Int32} {noted3 : Nat} {undoable3 : Nat} {kinds3 : (Nat → Int32)} {tempers3 : (Nat → Int32)} {notes3 : (Nat → Int32)} {past3 : (Nat → Int32)} {keptz : (Nat → Int32)} {wkind : Int32} {wtemper : Int32} {wcounts : Int32} {wday : Int32} {wlisted : Bool} {wfollowed : Bool} {xlength : Nat} {xstart : Nat} {xbehind : Nat} {xsort : Int32} {xnumber : Int32} {xbytes : (Nat → Int32)} {kind : Int32} {temper : Int32} (hP7 : people0 ≤ 7) : wl_Met (τ := Int32 × Nat × Nat × (Nat → Int32) × (Nat → Int32)) l D E yX1_addOne cX1_addOne 3 (some .int) ({ frames := 0, cells := 0, slots := 0, locals := 0 } : Room) [.ref (a 1), .int kind, .int temper] (wX E a fabove fbelow rbad rno rfull counts0 people0 day0 listed0 followed0 struck0 noted0 undoable0 kinds0 tempers0 notes0 past0 counts1 people1 day1 listed1 followed1 struck1 noted1 undoable1 kinds1 tempers1 notes1 past1 counts2 people2 day2 listed2 followed2 struck2 noted2 undoable2 kinds2 tempers2 notes2 past2 counts3 people3 day3 listed3 followed3 struck3 noted3 undoable3 kinds3 tempers3 notes3 past3 keptz wkind wtemper wcounts wday wlisted wfollowed xlength xstart xbehind xsort xnumber xbytes) (fun z => some (.int z.1)) (fun z => (wX E a fabove fbelow rbad rno rfull counts0 z.2.1 day0 listed0 followed0 struck0 noted0 z.2.2.1 z.2.2.2.1 z.2.2.2.2 notes0 past0 counts1 people1 day1 listed1 followed1 struck1 noted1 undoable1 kinds1 tempers1 notes1 past1 counts2 people2 day2 listed2 followed2 struck2 noted2 undoable2 kinds2 tempers2 notes2 past2 counts3 people3 day3 listed3 followed3 struck3 noted3 undoable3 kinds3 tempers3 notes3 past3 keptz wkind wtemper wcounts wday wlisted wfollowed xlength xstart xbehind xsort xnumber xbytes)) (m_X1_addOne people0 undoable0 kinds0 tempers0 kind temper) :=
  wl_lift (c_X1_addOne (a := (fun k => a ([1, 2, 3, 4, 5].getD k 0))) (counts := counts0) (people := people0) (day := day0) (listed := listed0) (followed := followed0) (struck := struck0) (noted := noted0) (undoable := undoable0) (kinds := kinds0) (tempers := tempers0) (notes := notes0) (past := past0) (kind := kind) (temper := temper) hP7) [1, 2, 3, 4, 5] [0, 6, 7, 8, 9, 10, 11, 12, 13, 14, 15, 16, 17, 18, 19, 20, 21, 22, 23, 24, 25] [0, 21, 22, 23, 24, 25, 1, 2, 3, 4, 5, 6, 7, 8, 9, 10, 11, 12, 13, 14, 15, 16, 17, 18, 19, 20] (wr := ([0, 6, 7, 8, 9, 10, 11, 12, 13, 14, 15, 16, 17, 18, 19, 20, 21, 22, 23, 24, 25].filterMap (fun i => (wX E a fabove fbelow rbad rno rfull counts0 people0 day0 listed0 followed0 struck0 noted0 undoable0 kinds0 tempers0 notes0 past0 counts1 people1 day1 listed1 followed1 struck1 noted1 undoable1 kinds1 tempers1 notes1 past1 counts2 people2 day2 listed2 followed2 struck2 noted2 undoable2 kinds2 tempers2 notes2 past2 counts3 people3 day3 listed3 followed3 struck3 noted3 undoable3 kinds3 tempers3 notes3 past3 keptz wkind wtemper wcounts wday wlisted wfollowed xlength xstart xbehind xsort xnumber xbytes)[i]?))) rfl rfl (by decide) (by decide) (by decide) (by decide) (fun _ => rfl)
def m_X3_one (rbad : Int32) (rfull : Int32) (people0 : Nat) (undoable0 : Nat) (kinds0 : (Nat → Int32)) (tempers0 : (Nat → Int32)) (kind : Int32) (temper : Int32) : Int32 × Int32 × Int32 × Nat × Nat × (Nat → Int32) × (Nat → Int32) := (wl_bnd (m_X3_isWithin kind (nI 0) (nI 5)) (fun z1 => (if z1 = true then (wl_bnd (m_X3_isWithin temper (nI 0) (nI 30)) (fun z4 => (if z4 = true then (if people0 < 7 then (wl_bnd (m_X1_addOne people0 undoable0 kinds0 tempers0 kind temper) (fun z7 => (z7.1, rbad, rfull, z7.2.1, z7.2.2.1, z7.2.2.2.1, z7.2.2.2.2))) else (wl_bnd (m_X3_refuseFull rfull) (fun z8 => (z8.1, rbad, z8.2, people0, undoable0, kinds0, tempers0)))) else (wl_bnd (m_X3_refuseBad rbad) (fun z9 => (z9.1, z9.2, rfull, people0, undoable0, kinds0, tempers0)))))) else (wl_bnd (m_X3_refuseBad rbad) (fun z3 => (z3.1, z3.2, rfull, people0, undoable0, kinds0, tempers0))))))
set_option maxHeartbeats 4000000 in
set_option maxRecDepth 100000 in
theorem c_X3_one {l : Launch} {D : va_G} {E : Nat → ClassId} {a : Nat → Nat} {fabove : Int64} {fbelow : Int64} {rbad : Int32} {rno : Int32} {rfull : Int32} {counts0 : Int32} {people0 : Nat} {day0 : Int32} {listed0 : Int32} {followed0 : Int32} {struck0 : Int32} {noted0 : Nat} {undoable0 : Nat} {kinds0 : (Nat → Int32)} {tempers0 : (Nat → Int32)} {notes0 : (Nat → Int32)} {past0 : (Nat → Int32)} {counts1 : Int32} {people1 : Nat} {day1 : Int32} {listed1 : Int32} {followed1 : Int32} {struck1 : Int32} {noted1 : Nat} {undoable1 : Nat} {kinds1 : (Nat → Int32)} {tempers1 : (Nat → Int32)} {notes1 : (Nat → Int32)} {past1 : (Nat → Int32)} {counts2 : Int32} {people2 : Nat} {day2 : Int32} {listed2 : Int32} {followed2 : Int32} {struck2 : Int32} {noted2 : Nat} {undoable2 : Nat} {kinds2 : (Nat → Int32)} {tempers2 : (Nat → Int32)} {notes2 : (Nat → Int32)} {past2 : (Nat → Int32)} {counts3 : Int32} {people3 : Nat} {day3 : Int32} {listed3 : Int32} {followed3 : Int32} {struck3 : Int32} {noted3 : Nat} {undoable3 : Nat} {kinds3 : (Nat → Int32)} {tempers3 : (Nat → Int32)} {notes3 : (Nat → Int32)} {past3 : (Nat → Int32)} {keptz : (Nat → Int32)} {wkind : Int32} {wtemper : Int32} {wcounts : Int32} {wday : Int32} {wlisted : Bool} {wfollowed : Bool} {xlength : Nat} {xstart : Nat} {xbehind : Nat} {xsort : Int32} {xnumber : Int32} {xbytes : (Nat → Int32)} {kind : Int32} {temper : Int32} (hP7 : people0 ≤ 7) : wl_Met (τ := Int32 × Int32 × Int32 × Nat × Nat × (Nat → Int32) × (Nat → Int32)) l D E yX3_one cX3_one 3 (some .int) ({ frames := 1, cells := 0, slots := 0, locals := 22 } : Room) [.ref (a 0), .int kind, .int temper] (wX E a fabove fbelow rbad rno rfull counts0 people0 day0 listed0 followed0 struck0 noted0 undoable0 kinds0 tempers0 notes0 past0 counts1 people1 day1 listed1 followed1 struck1 noted1 undoable1 kinds1 tempers1 notes1 past1 counts2 people2 day2 listed2 followed2 struck2 noted2 undoable2 kinds2 tempers2 notes2 past2 counts3 people3 day3 listed3 followed3 struck3 noted3 undoable3 kinds3 tempers3 notes3 past3 keptz wkind wtemper wcounts wday wlisted wfollowed xlength xstart xbehind xsort xnumber xbytes) (fun z => some (.int z.1)) (fun z => (wX E a fabove fbelow z.2.1 rno z.2.2.1 counts0 z.2.2.2.1 day0 listed0 followed0 struck0 noted0 z.2.2.2.2.1 z.2.2.2.2.2.1 z.2.2.2.2.2.2 notes0 past0 counts1 people1 day1 listed1 followed1 struck1 noted1 undoable1 kinds1 tempers1 notes1 past1 counts2 people2 day2 listed2 followed2 struck2 noted2 undoable2 kinds2 tempers2 notes2 past2 counts3 people3 day3 listed3 followed3 struck3 noted3 undoable3 kinds3 tempers3 notes3 past3 keptz wkind wtemper wcounts wday wlisted wfollowed xlength xstart xbehind xsort xnumber xbytes)) (m_X3_one rbad rfull people0 undoable0 kinds0 tempers0 kind temper) := by
  refine wl_enter (own := RX3) (by decide +kernel) rfl (Nat.le_of_ble_eq_true rfl) ?_
  intro p0 e0 s0 m0 bl0 mt0 c0 A hC hr hlk hA H locs hP hD hS ls hl
  have hx := hC.1
  have hb := hC.2.1
  have hl : lv_has ls 3 [(0, .ref (a 0)), (1, .int kind), (2, .int temper)] := hl
  have hm := m_X3_one.eq_1 rbad rfull people0 undoable0 kinds0 tempers0 kind temper
  refine lv_iload_n hx hb dX3_one_0 rfl (lv_at hl 1 rfl) ?_
  refine lv_iconst (v := (nI 0)) hx hb dX3_one_1 (by decide +kernel) ?_
  refine lv_iconst (v := (nI 5)) hx hb dX3_one_2 (by decide +kernel) ?_
  refine wl_callPi hC (c_X3_isWithin (v := kind) (least := (nI 0)) (most := (nI 5)) ) lk_RX3_48 rfl ⟨rfl, rfl, Nat.le_of_ble_eq_true rfl, Nat.le_of_ble_eq_true rfl⟩ hP hS hA hl.1 rfl (Nat.le_of_ble_eq_true rfl) dX3_one_3 ⟨Nat.zero_le _, Nat.zero_le _⟩ (fun z1 hz1 H locs hP hS => ?_)
  have hm := wl_bz hm hz1
  refine wl_if_eq_b hx hb (tgt := 19) dX3_one_6 (by decide) (fun c2 => ?_) (fun c2 => ?_)
  · have hm := hm.trans (if_neg c2)
    refine lv_aload_n hx hb dX3_one_19 rfl (lv_at hl 0 rfl) ?_
    refine wl_callVi hC (c_X3_refuseBad  ) lk_RX3_52 rfl ⟨rfl, rfl, Nat.le_of_ble_eq_true rfl, Nat.le_of_ble_eq_true rfl⟩ hP hD hS hA 0 rfl (T1 := 11) rfl hl.1 rfl (Nat.le_of_ble_eq_true rfl) dX3_one_20 ⟨Nat.zero_le _, Nat.zero_le _⟩ (fun z3 hz3 H locs hP hD hS => ?_)
    have hm := wl_bz hm hz3
    exact wl_iret hC hr hlk hm rfl hP hD hS dX3_one_23
  · have hm := hm.trans (if_pos c2)
    refine lv_iload_n hx hb dX3_one_9 rfl (lv_at hl 2 rfl) ?_
    refine lv_iconst (v := (nI 0)) hx hb dX3_one_10 (by decide +kernel) ?_
    refine lv_bipush (v := (nI 30)) hx hb dX3_one_11 (by decide +kernel) ?_
    refine wl_callPi hC (c_X3_isWithin (v := temper) (least := (nI 0)) (most := (nI 30)) ) lk_RX3_48 rfl ⟨rfl, rfl, Nat.le_of_ble_eq_true rfl, Nat.le_of_ble_eq_true rfl⟩ hP hS hA hl.1 rfl (Nat.le_of_ble_eq_true rfl) dX3_one_13 ⟨Nat.zero_le _, Nat.zero_le _⟩ (fun z4 hz4 H locs hP hS => ?_)
    have hm := wl_bz hm hz4
    refine wl_if_ne_b hx hb (tgt := 24) dX3_one_16 (by decide) (fun c5 => ?_) (fun c5 => ?_)
    · have hm := hm.trans (if_pos c5)
      refine lv_aload_n hx hb dX3_one_24 rfl (lv_at hl 0 rfl) ?_
      refine g_X_0_now hC hP mw_202 dX3_one_25 ?_
      refine g_X_1_people hC hP mw_221 dX3_one_28 ?_
      refine lv_bipush (v := (nI 7)) hx hb dX3_one_31 (by decide +kernel) ?_
      refine wl_icmp_lt_n hx hb (by first | omega | exact Nat.lt_of_le_of_lt Nat.and_le_right (by omega) | exact Nat.pow_lt_pow_right (by omega) (by omega) | exact Nat.lt_trans (by assumption) (Nat.pow_lt_pow_right (by omega) (by omega))) (by first | omega | exact Nat.lt_of_le_of_lt Nat.and_le_right (by omega) | exact Nat.pow_lt_pow_right (by omega) (by omega) | exact Nat.lt_trans (by assumption) (Nat.pow_lt_pow_right (by omega) (by omega))) (tgt := 41) dX3_one_33 (by decide) (fun c6 => ?_) (fun c6 => ?_)
      · have hm := hm.trans (if_pos c6)
        refine lv_aload_n hx hb dX3_one_41 rfl (lv_at hl 0 rfl) ?_
        refine g_X_0_now hC hP mw_202 dX3_one_42 ?_
        refine lv_iload_n hx hb dX3_one_45 rfl (lv_at hl 1 rfl) ?_
        refine lv_iload_n hx hb dX3_one_46 rfl (lv_at hl 2 rfl) ?_
        refine wl_callVi hC (c_X1_addOne__X_1 (kind := kind) (temper := temper) (by first | assumption | omega)) lk_RX3_67 rfl ⟨rfl, rfl, Nat.le_of_ble_eq_true rfl, Nat.le_of_ble_eq_true rfl⟩ hP hD hS hA 1 rfl (T1 := 12) rfl hl.1 rfl (Nat.le_of_ble_eq_true rfl) dX3_one_47 ⟨Nat.zero_le _, Nat.zero_le _⟩ (fun z7 hz7 H locs hP hD hS => ?_)
        have hm := wl_bz hm hz7
        exact wl_iret hC hr hlk hm rfl hP hD hS dX3_one_50
      · have hm := hm.trans (if_neg c6)
        refine lv_aload_n hx hb dX3_one_36 rfl (lv_at hl 0 rfl) ?_
        refine wl_callVi hC (c_X3_refuseFull  ) lk_RX3_64 rfl ⟨rfl, rfl, Nat.le_of_ble_eq_true rfl, Nat.le_of_ble_eq_true rfl⟩ hP hD hS hA 0 rfl (T1 := 11) rfl hl.1 rfl (Nat.le_of_ble_eq_true rfl) dX3_one_37 ⟨Nat.zero_le _, Nat.zero_le _⟩ (fun z8 hz8 H locs hP hD hS => ?_)
        have hm := wl_bz hm hz8
        exact wl_iret hC hr hlk hm rfl hP hD hS dX3_one_40
    · have hm := hm.trans (if_neg c5)
      refine lv_aload_n hx hb dX3_one_19 rfl (lv_at hl 0 rfl) ?_
      refine wl_callVi hC (c_X3_refuseBad  ) lk_RX3_52 rfl ⟨rfl, rfl, Nat.le_of_ble_eq_true rfl, Nat.le_of_ble_eq_true rfl⟩ hP hD hS hA 0 rfl (T1 := 11) rfl hl.1 rfl (Nat.le_of_ble_eq_true rfl) dX3_one_20 ⟨Nat.zero_le _, Nat.zero_le _⟩ (fun z9 hz9 H locs hP hD hS => ?_)
      have hm := wl_bz hm hz9
      exact wl_iret hC hr hlk hm rfl hP hD hS dX3_one_23
def m_X3_clear (xlength : Nat) : Int32 × Nat := ((nI xlength), 0)
set_option maxHeartbeats 4000000 in
set_option maxRecDepth 100000 in
theorem c_X3_clear {l : Launch} {D : va_G} {E : Nat → ClassId} {a : Nat → Nat} {fabove : Int64} {fbelow : Int64} {rbad : Int32} {rno : Int32} {rfull : Int32} {counts0 : Int32} {people0 : Nat} {day0 : Int32} {listed0 : Int32} {followed0 : Int32} {struck0 : Int32} {noted0 : Nat} {undoable0 : Nat} {kinds0 : (Nat → Int32)} {tempers0 : (Nat → Int32)} {notes0 : (Nat → Int32)} {past0 : (Nat → Int32)} {counts1 : Int32} {people1 : Nat} {day1 : Int32} {listed1 : Int32} {followed1 : Int32} {struck1 : Int32} {noted1 : Nat} {undoable1 : Nat} {kinds1 : (Nat → Int32)} {tempers1 : (Nat → Int32)} {notes1 : (Nat → Int32)} {past1 : (Nat → Int32)} {counts2 : Int32} {people2 : Nat} {day2 : Int32} {listed2 : Int32} {followed2 : Int32} {struck2 : Int32} {noted2 : Nat} {undoable2 : Nat} {kinds2 : (Nat → Int32)} {tempers2 : (Nat → Int32)} {notes2 : (Nat → Int32)} {past2 : (Nat → Int32)} {counts3 : Int32} {people3 : Nat} {day3 : Int32} {listed3 : Int32} {followed3 : Int32} {struck3 : Int32} {noted3 : Nat} {undoable3 : Nat} {kinds3 : (Nat → Int32)} {tempers3 : (Nat → Int32)} {notes3 : (Nat → Int32)} {past3 : (Nat → Int32)} {keptz : (Nat → Int32)} {wkind : Int32} {wtemper : Int32} {wcounts : Int32} {wday : Int32} {wlisted : Bool} {wfollowed : Bool} {xlength : Nat} {xstart : Nat} {xbehind : Nat} {xsort : Int32} {xnumber : Int32} {xbytes : (Nat → Int32)}  : wl_Met (τ := Int32 × Nat) l D E yX3_clear cX3_clear 2 (some .int) ({ frames := 0, cells := 0, slots := 0, locals := 0 } : Room) [.ref (a 0)] (wX E a fabove fbelow rbad rno rfull counts0 people0 day0 listed0 followed0 struck0 noted0 undoable0 kinds0 tempers0 notes0 past0 counts1 people1 day1 listed1 followed1 struck1 noted1 undoable1 kinds1 tempers1 notes1 past1 counts2 people2 day2 listed2 followed2 struck2 noted2 undoable2 kinds2 tempers2 notes2 past2 counts3 people3 day3 listed3 followed3 struck3 noted3 undoable3 kinds3 tempers3 notes3 past3 keptz wkind wtemper wcounts wday wlisted wfollowed xlength xstart xbehind xsort xnumber xbytes) (fun z => some (.int z.1)) (fun z => (wX E a fabove fbelow rbad rno rfull counts0 people0 day0 listed0 followed0 struck0 noted0 undoable0 kinds0 tempers0 notes0 past0 counts1 people1 day1 listed1 followed1 struck1 noted1 undoable1 kinds1 tempers1 notes1 past1 counts2 people2 day2 listed2 followed2 struck2 noted2 undoable2 kinds2 tempers2 notes2 past2 counts3 people3 day3 listed3 followed3 struck3 noted3 undoable3 kinds3 tempers3 notes3 past3 keptz wkind wtemper wcounts wday wlisted wfollowed z.2 xstart xbehind xsort xnumber xbytes)) (m_X3_clear xlength) := by
  refine wl_enter (own := RX3) (by decide +kernel) rfl (Nat.le_of_ble_eq_true rfl) ?_
  intro p0 e0 s0 m0 bl0 mt0 c0 A hC hr hlk hA H locs hP hD hS ls hl
  have hx := hC.1
  have hb := hC.2.1
  have hl : lv_has ls 2 [(0, .ref (a 0))] := hl
  have hm := m_X3_clear.eq_1 xlength
  refine lv_aload_n hx hb dX3_clear_0 rfl (lv_at hl 0 rfl) ?_
  refine g_X_0_text hC hP mw_212 dX3_clear_1 ?_
  refine g_X_24_length hC hP mw_235 dX3_clear_4 ?_
  refine lv_istore_n (lv' := [(1, .int (nI xlength)), (0, .ref (a 0))]) hx hb dX3_clear_7 rfl hl (by decide) rfl (fun ls hl => ?_)
  refine lv_aload_n hx hb dX3_clear_8 rfl (lv_at hl 1 rfl) ?_
  refine g_X_0_text hC hP mw_212 dX3_clear_9 ?_
  refine lv_iconst (v := (nI 0)) hx hb dX3_clear_12 (by decide +kernel) ?_
  refine p_X_24_length hC hP hD hS 0 mw_235 dX3_clear_13 (fun H locs hP hD hS => ?_)
  refine lv_iload_n hx hb dX3_clear_16 rfl (lv_at hl 0 rfl) ?_
  exact wl_iret hC hr hlk hm rfl hP hD hS dX3_clear_17
set_option maxHeartbeats 4000000 in
set_option maxRecDepth 100000 in
theorem c_X1_keepPast__X_1 {l : Launch} {D : va_G} {E : Nat → ClassId} {a : Nat → Nat} {fabove : Int64} {fbelow : Int64} {rbad : Int32} {rno : Int32} {rfull : Int32} {counts0 : Int32} {people0 : Nat} {day0 : Int32} {listed0 : Int32} {followed0 : Int32} {struck0 : Int32} {noted0 : Nat} {undoable0 : Nat} {kinds0 : (Nat → Int32)} {tempers0 : (Nat → Int32)} {notes0 : (Nat → Int32)} {past0 : (Nat → Int32)} {counts1 : Int32} {people1 : Nat} {day1 : Int32} {listed1 : Int32} {followed1 : Int32} {struck1 : Int32} {noted1 : Nat} {undoable1 : Nat} {kinds1 : (Nat → Int32)} {tempers1 : (Nat → Int32)} {notes1 : (Nat → Int32)} {past1 : (Nat → Int32)} {counts2 : Int32} {people2 : Nat} {day2 : Int32} {listed2 : Int32} {followed2 : Int32} {struck2 : Int32} {noted2 : Nat} {undoable2 : Nat} {kinds2 : (Nat → Int32)} {tempers2 : (Nat → Int32)} {notes2 : (Nat → Int32)} {past2 : (Nat → Int32)} {counts3 : Int32} {people3 : Nat} {day3 : Int32} {listed3 : Int32} {followed3 : Int32} {struck3 : Int32} {noted3 : Nat} {undoable3 : Nat} {kinds3 : (Nat → Int32)} {tempers3 : (Nat → Int32)} {notes3 : (Nat → Int32)} {past3 : (Nat → Int32)} {keptz : (Nat → Int32)} {wkind : Int32} {wtemper : Int32} {wcounts : Int32} {wday : Int32} {wlisted : Bool} {wfollowed : Bool} {xlength : Nat} {xstart : Nat} {xbehind : Nat} {xsort : Int32} {xnumber : Int32} {xbytes : (Nat → Int32)}  (hU8 : undoable0 ≤ 8) : wl_Met (τ := Nat × (Nat → Int32)) l D E yX1_keepPast cX1_keepPast 2 none ({ frames := 1, cells := 0, slots := 0, locals := 40 } : Room) [.ref (a 1)] (wX E a fabove fbelow rbad rno rfull counts0 people0 day0 listed0 followed0 struck0 noted0 undoable0 kinds0 tempers0 notes0 past0 counts1 people1 day1 listed1 followed1 struck1 noted1 undoable1 kinds1 tempers1 notes1 past1 counts2 people2 day2 listed2 followed2 struck2 noted2 undoable2 kinds2 tempers2 notes2 past2 counts3 people3 day3 listed3 followed3 struck3 noted3 undoable3 kinds3 tempers3 notes3 past3 keptz wkind wtemper wcounts wday wlisted wfollowed xlength xstart xbehind xsort xnumber xbytes) (fun _ => none) (fun z => (wX E a fabove fbelow rbad rno rfull counts0 people0 day0 listed0 followed0 struck0 noted0 z.1 kinds0 tempers0 notes0 z.2 counts1 people1 day1 listed1 followed1 struck1 noted1 undoable1 kinds1 tempers1 notes1 past1 counts2 people2 day2 listed2 followed2 struck2 noted2 undoable2 kinds2 tempers2 notes2 past2 counts3 people3 day3 listed3 followed3 struck3 noted3 undoable3 kinds3 tempers3 notes3 past3 keptz wkind wtemper wcounts wday wlisted wfollowed xlength xstart xbehind xsort xnumber xbytes)) (m_X1_keepPast day0 listed0 followed0 struck0 undoable0 tempers0 past0) :=
  wl_lift (c_X1_keepPast (a := (fun k => a ([1, 2, 3, 4, 5].getD k 0))) (counts := counts0) (people := people0) (day := day0) (listed := listed0) (followed := followed0) (struck := struck0) (noted := noted0) (undoable := undoable0) (kinds := kinds0) (tempers := tempers0) (notes := notes0) (past := past0)  hU8) [1, 2, 3, 4, 5] [0, 6, 7, 8, 9, 10, 11, 12, 13, 14, 15, 16, 17, 18, 19, 20, 21, 22, 23, 24, 25] [0, 21, 22, 23, 24, 25, 1, 2, 3, 4, 5, 6, 7, 8, 9, 10, 11, 12, 13, 14, 15, 16, 17, 18, 19, 20] (wr := ([0, 6, 7, 8, 9, 10, 11, 12, 13, 14, 15, 16, 17, 18, 19, 20, 21, 22, 23, 24, 25].filterMap (fun i => (wX E a fabove fbelow rbad rno rfull counts0 people0 day0 listed0 followed0 struck0 noted0 undoable0 kinds0 tempers0 notes0 past0 counts1 people1 day1 listed1 followed1 struck1 noted1 undoable1 kinds1 tempers1 notes1 past1 counts2 people2 day2 listed2 followed2 struck2 noted2 undoable2 kinds2 tempers2 notes2 past2 counts3 people3 day3 listed3 followed3 struck3 noted3 undoable3 kinds3 tempers3 notes3 past3 keptz wkind wtemper wcounts wday wlisted wfollowed xlength xstart xbehind xsort xnumber xbytes)[i]?))) rfl rfl (by decide) (by decide) (by decide) (by decide) (fun _ => rfl)
def m_X3_list (rbad : Int32) (people0 : Nat) (day0 : Int32) (listed0 : Int32) (followed0 : Int32) (struck0 : Int32) (undoable0 : Nat) (tempers0 : (Nat → Int32)) (past0 : (Nat → Int32)) (p : Int32) (is : Int32) : Int32 × Int32 × Int32 × Nat × (Nat → Int32) := (wl_bnd (m_X3_isThere people0 p) (fun z1 => (if z1 = true then (wl_bnd (m_X3_isWithin is (nI 0) (nI 1)) (fun z5 => (if z5 = true then (wl_bnd (m_X3_bitOf listed0 (cl p)) (fun z7 => (wl_bnd (m_X1_keepPast day0 listed0 followed0 struck0 undoable0 tempers0 past0) (fun z8 => (wl_bnd (m_X3_withBit listed0 (cl p) is) (fun z9 => (z7, rbad, z9, z8.1, z8.2))))))) else (wl_bnd (m_X3_refuseBad rbad) (fun z10 => (z10.1, z10.2, listed0, undoable0, past0)))))) else (wl_bnd (m_X3_refuseBad rbad) (fun z3 => (z3.1, z3.2, listed0, undoable0, past0))))))
set_option maxHeartbeats 4000000 in
set_option maxRecDepth 100000 in
theorem c_X3_list {l : Launch} {D : va_G} {E : Nat → ClassId} {a : Nat → Nat} {fabove : Int64} {fbelow : Int64} {rbad : Int32} {rno : Int32} {rfull : Int32} {counts0 : Int32} {people0 : Nat} {day0 : Int32} {listed0 : Int32} {followed0 : Int32} {struck0 : Int32} {noted0 : Nat} {undoable0 : Nat} {kinds0 : (Nat → Int32)} {tempers0 : (Nat → Int32)} {notes0 : (Nat → Int32)} {past0 : (Nat → Int32)} {counts1 : Int32} {people1 : Nat} {day1 : Int32} {listed1 : Int32} {followed1 : Int32} {struck1 : Int32} {noted1 : Nat} {undoable1 : Nat} {kinds1 : (Nat → Int32)} {tempers1 : (Nat → Int32)} {notes1 : (Nat → Int32)} {past1 : (Nat → Int32)} {counts2 : Int32} {people2 : Nat} {day2 : Int32} {listed2 : Int32} {followed2 : Int32} {struck2 : Int32} {noted2 : Nat} {undoable2 : Nat} {kinds2 : (Nat → Int32)} {tempers2 : (Nat → Int32)} {notes2 : (Nat → Int32)} {past2 : (Nat → Int32)} {counts3 : Int32} {people3 : Nat} {day3 : Int32} {listed3 : Int32} {followed3 : Int32} {struck3 : Int32} {noted3 : Nat} {undoable3 : Nat} {kinds3 : (Nat → Int32)} {tempers3 : (Nat → Int32)} {notes3 : (Nat → Int32)} {past3 : (Nat → Int32)} {keptz : (Nat → Int32)} {wkind : Int32} {wtemper : Int32} {wcounts : Int32} {wday : Int32} {wlisted : Bool} {wfollowed : Bool} {xlength : Nat} {xstart : Nat} {xbehind : Nat} {xsort : Int32} {xnumber : Int32} {xbytes : (Nat → Int32)} {p : Int32} {is : Int32} (hP7 : people0 ≤ 7) (hU8 : undoable0 ≤ 8) : wl_Met (τ := Int32 × Int32 × Int32 × Nat × (Nat → Int32)) l D E yX3_list cX3_list 4 (some .int) ({ frames := 2, cells := 0, slots := 0, locals := 61 } : Room) [.ref (a 0), .int p, .int is] (wX E a fabove fbelow rbad rno rfull counts0 people0 day0 listed0 followed0 struck0 noted0 undoable0 kinds0 tempers0 notes0 past0 counts1 people1 day1 listed1 followed1 struck1 noted1 undoable1 kinds1 tempers1 notes1 past1 counts2 people2 day2 listed2 followed2 struck2 noted2 undoable2 kinds2 tempers2 notes2 past2 counts3 people3 day3 listed3 followed3 struck3 noted3 undoable3 kinds3 tempers3 notes3 past3 keptz wkind wtemper wcounts wday wlisted wfollowed xlength xstart xbehind xsort xnumber xbytes) (fun z => some (.int z.1)) (fun z => (wX E a fabove fbelow z.2.1 rno rfull counts0 people0 day0 z.2.2.1 followed0 struck0 noted0 z.2.2.2.1 kinds0 tempers0 notes0 z.2.2.2.2 counts1 people1 day1 listed1 followed1 struck1 noted1 undoable1 kinds1 tempers1 notes1 past1 counts2 people2 day2 listed2 followed2 struck2 noted2 undoable2 kinds2 tempers2 notes2 past2 counts3 people3 day3 listed3 followed3 struck3 noted3 undoable3 kinds3 tempers3 notes3 past3 keptz wkind wtemper wcounts wday wlisted wfollowed xlength xstart xbehind xsort xnumber xbytes)) (m_X3_list rbad people0 day0 listed0 followed0 struck0 undoable0 tempers0 past0 p is) := by
  refine wl_enter (own := RX3) (by decide +kernel) rfl (Nat.le_of_ble_eq_true rfl) ?_
  intro p0 e0 s0 m0 bl0 mt0 c0 A hC hr hlk hA H locs hP hD hS ls hl
  have hx := hC.1
  have hb := hC.2.1
  have hl : lv_has ls 4 [(0, .ref (a 0)), (1, .int p), (2, .int is)] := hl
  have hm := m_X3_list.eq_1 rbad people0 day0 listed0 followed0 struck0 undoable0 tempers0 past0 p is
  refine lv_aload_n hx hb dX3_list_0 rfl (lv_at hl 0 rfl) ?_
  refine lv_iload_n hx hb dX3_list_1 rfl (lv_at hl 1 rfl) ?_
  refine wl_callVi hC (c_X3_isThere (p := p) ) lk_RX3_86 rfl ⟨rfl, rfl, Nat.le_of_ble_eq_true rfl, Nat.le_of_ble_eq_true rfl⟩ hP hD hS hA 0 rfl (T1 := 11) rfl hl.1 rfl (Nat.le_of_ble_eq_true rfl) dX3_list_2 ⟨Nat.zero_le _, Nat.zero_le _⟩ (fun z1 hz1 H locs hP hD hS => ?_)
  have hm := wl_bz hm hz1
  refine wl_if_eq_b hx hb (tgt := 17) dX3_list_5 (by decide) (fun c2 => ?_) (fun c2 => ?_)
  · have hm := hm.trans (if_neg c2)
    refine lv_aload_n hx hb dX3_list_17 rfl (lv_at hl 0 rfl) ?_
    refine wl_callVi hC (c_X3_refuseBad  ) lk_RX3_52 rfl ⟨rfl, rfl, Nat.le_of_ble_eq_true rfl, Nat.le_of_ble_eq_true rfl⟩ hP hD hS hA 0 rfl (T1 := 11) rfl hl.1 rfl (Nat.le_of_ble_eq_true rfl) dX3_list_18 ⟨Nat.zero_le _, Nat.zero_le _⟩ (fun z3 hz3 H locs hP hD hS => ?_)
    have hm := wl_bz hm hz3
    exact wl_iret hC hr hlk hm rfl hP hD hS dX3_list_21
  · have hm := hm.trans (if_pos c2)
    obtain ⟨ha4, hb4_⟩ := isThere_spec hP7 (hz1.symm.trans c2)
    have hl : lv_has ls 4 [(0, .ref (a 0)), (1, .int (nI (cl p))), (2, .int is)] := by rw [← ha4]; exact hl
    refine lv_iload_n hx hb dX3_list_8 rfl (lv_at hl 2 rfl) ?_
    refine lv_iconst (v := (nI 0)) hx hb dX3_list_9 (by decide +kernel) ?_
    refine lv_iconst (v := (nI 1)) hx hb dX3_list_10 (by decide +kernel) ?_
    refine wl_callPi hC (c_X3_isWithin (v := is) (least := (nI 0)) (most := (nI 1)) ) lk_RX3_48 rfl ⟨rfl, rfl, Nat.le_of_ble_eq_true rfl, Nat.le_of_ble_eq_true rfl⟩ hP hS hA hl.1 rfl (Nat.le_of_ble_eq_true rfl) dX3_list_11 ⟨Nat.zero_le _, Nat.zero_le _⟩ (fun z5 hz5 H locs hP hS => ?_)
    have hm := wl_bz hm hz5
    refine wl_if_ne_b hx hb (tgt := 22) dX3_list_14 (by decide) (fun c6 => ?_) (fun c6 => ?_)
    · have hm := hm.trans (if_pos c6)
      refine lv_aload_n hx hb dX3_list_22 rfl (lv_at hl 0 rfl) ?_
      refine g_X_0_now hC hP mw_202 dX3_list_23 ?_
      refine g_X_1_listed hC hP mw_249 dX3_list_26 ?_
      refine lv_iload_n hx hb dX3_list_29 rfl (lv_at hl 1 rfl) ?_
      refine wl_callPi hC (c_X3_bitOf (bits := listed0) (i := (cl p)) ) lk_RX3_93 rfl ⟨rfl, rfl, Nat.le_of_ble_eq_true rfl, Nat.le_of_ble_eq_true rfl⟩ hP hS hA hl.1 rfl (Nat.le_of_ble_eq_true rfl) dX3_list_30 ⟨Nat.zero_le _, Nat.zero_le _⟩ (fun z7 hz7 H locs hP hS => ?_)
      have hm := wl_bz hm hz7
      refine lv_istore_n (lv' := [(3, .int z7), (0, .ref (a 0)), (1, .int (nI (cl p))), (2, .int is)]) hx hb dX3_list_33 rfl hl (by decide) rfl (fun ls hl => ?_)
      refine lv_aload_n hx hb dX3_list_34 rfl (lv_at hl 1 rfl) ?_
      refine g_X_0_now hC hP mw_202 dX3_list_35 ?_
      refine wl_callVv hC (c_X1_keepPast__X_1  (by first | assumption | omega)) lk_RX3_96 rfl ⟨rfl, rfl, Nat.le_of_ble_eq_true rfl, Nat.le_of_ble_eq_true rfl⟩ hP hD hS hA 1 rfl (T1 := 12) rfl hl.1 rfl (Nat.le_of_ble_eq_true rfl) dX3_list_38 ⟨Nat.zero_le _, Nat.zero_le _⟩ (fun z8 hz8 H locs hP hD hS => ?_)
      have hm := wl_bz hm hz8
      refine lv_aload_n hx hb dX3_list_41 rfl (lv_at hl 1 rfl) ?_
      refine g_X_0_now hC hP mw_202 dX3_list_42 ?_
      refine lv_aload_n hx hb dX3_list_45 rfl (lv_at hl 1 rfl) ?_
      refine g_X_0_now hC hP mw_202 dX3_list_46 ?_
      refine g_X_1_listed hC hP mw_249 dX3_list_49 ?_
      refine lv_iload_n hx hb dX3_list_52 rfl (lv_at hl 2 rfl) ?_
      refine lv_iload_n hx hb dX3_list_53 rfl (lv_at hl 3 rfl) ?_
      refine wl_callPi hC (c_X3_withBit (bits := listed0) (i := (cl p)) (is := is) ) lk_RX3_99 rfl ⟨rfl, rfl, Nat.le_of_ble_eq_true rfl, Nat.le_of_ble_eq_true rfl⟩ hP hS hA hl.1 rfl (Nat.le_of_ble_eq_true rfl) dX3_list_54 ⟨Nat.zero_le _, Nat.zero_le _⟩ (fun z9 hz9 H locs hP hS => ?_)
      have hm := wl_bz hm hz9
      refine p_X_1_listed hC hP hD hS z9 mw_249 dX3_list_57 (fun H locs hP hD hS => ?_)
      refine lv_iload_n hx hb dX3_list_60 rfl (lv_at hl 0 rfl) ?_
      exact wl_iret hC hr hlk hm rfl hP hD hS dX3_list_61
    · have hm := hm.trans (if_neg c6)
      refine lv_aload_n hx hb dX3_list_17 rfl (lv_at hl 0 rfl) ?_
      refine wl_callVi hC (c_X3_refuseBad  ) lk_RX3_52 rfl ⟨rfl, rfl, Nat.le_of_ble_eq_true rfl, Nat.le_of_ble_eq_true rfl⟩ hP hD hS hA 0 rfl (T1 := 11) rfl hl.1 rfl (Nat.le_of_ble_eq_true rfl) dX3_list_18 ⟨Nat.zero_le _, Nat.zero_le _⟩ (fun z10 hz10 H locs hP hD hS => ?_)
      have hm := wl_bz hm hz10
      exact wl_iret hC hr hlk hm rfl hP hD hS dX3_list_21
def m_X3_follow (rbad : Int32) (people0 : Nat) (day0 : Int32) (listed0 : Int32) (followed0 : Int32) (struck0 : Int32) (undoable0 : Nat) (tempers0 : (Nat → Int32)) (past0 : (Nat → Int32)) (p : Int32) (is : Int32) : Int32 × Int32 × Int32 × Nat × (Nat → Int32) := (wl_bnd (m_X3_isThere people0 p) (fun z1 => (if z1 = true then (wl_bnd (m_X3_isWithin is (nI 0) (nI 1)) (fun z5 => (if z5 = true then (wl_bnd (m_X3_bitOf followed0 (cl p)) (fun z7 => (wl_bnd (m_X1_keepPast day0 listed0 followed0 struck0 undoable0 tempers0 past0) (fun z8 => (wl_bnd (m_X3_withBit followed0 (cl p) is) (fun z9 => (z7, rbad, z9, z8.1, z8.2))))))) else (wl_bnd (m_X3_refuseBad rbad) (fun z10 => (z10.1, z10.2, followed0, undoable0, past0)))))) else (wl_bnd (m_X3_refuseBad rbad) (fun z3 => (z3.1, z3.2, followed0, undoable0, past0))))))
set_option maxHeartbeats 4000000 in
set_option maxRecDepth 100000 in
theorem c_X3_follow {l : Launch} {D : va_G} {E : Nat → ClassId} {a : Nat → Nat} {fabove : Int64} {fbelow : Int64} {rbad : Int32} {rno : Int32} {rfull : Int32} {counts0 : Int32} {people0 : Nat} {day0 : Int32} {listed0 : Int32} {followed0 : Int32} {struck0 : Int32} {noted0 : Nat} {undoable0 : Nat} {kinds0 : (Nat → Int32)} {tempers0 : (Nat → Int32)} {notes0 : (Nat → Int32)} {past0 : (Nat → Int32)} {counts1 : Int32} {people1 : Nat} {day1 : Int32} {listed1 : Int32} {followed1 : Int32} {struck1 : Int32} {noted1 : Nat} {undoable1 : Nat} {kinds1 : (Nat → Int32)} {tempers1 : (Nat → Int32)} {notes1 : (Nat → Int32)} {past1 : (Nat → Int32)} {counts2 : Int32} {people2 : Nat} {day2 : Int32} {listed2 : Int32} {followed2 : Int32} {struck2 : Int32} {noted2 : Nat} {undoable2 : Nat} {kinds2 : (Nat → Int32)} {tempers2 : (Nat → Int32)} {notes2 : (Nat → Int32)} {past2 : (Nat → Int32)} {counts3 : Int32} {people3 : Nat} {day3 : Int32} {listed3 : Int32} {followed3 : Int32} {struck3 : Int32} {noted3 : Nat} {undoable3 : Nat} {kinds3 : (Nat → Int32)} {tempers3 : (Nat → Int32)} {notes3 : (Nat → Int32)} {past3 : (Nat → Int32)} {keptz : (Nat → Int32)} {wkind : Int32} {wtemper : Int32} {wcounts : Int32} {wday : Int32} {wlisted : Bool} {wfollowed : Bool} {xlength : Nat} {xstart : Nat} {xbehind : Nat} {xsort : Int32} {xnumber : Int32} {xbytes : (Nat → Int32)} {p : Int32} {is : Int32} (hP7 : people0 ≤ 7) (hU8 : undoable0 ≤ 8) : wl_Met (τ := Int32 × Int32 × Int32 × Nat × (Nat → Int32)) l D E yX3_follow cX3_follow 4 (some .int) ({ frames := 2, cells := 0, slots := 0, locals := 61 } : Room) [.ref (a 0), .int p, .int is] (wX E a fabove fbelow rbad rno rfull counts0 people0 day0 listed0 followed0 struck0 noted0 undoable0 kinds0 tempers0 notes0 past0 counts1 people1 day1 listed1 followed1 struck1 noted1 undoable1 kinds1 tempers1 notes1 past1 counts2 people2 day2 listed2 followed2 struck2 noted2 undoable2 kinds2 tempers2 notes2 past2 counts3 people3 day3 listed3 followed3 struck3 noted3 undoable3 kinds3 tempers3 notes3 past3 keptz wkind wtemper wcounts wday wlisted wfollowed xlength xstart xbehind xsort xnumber xbytes) (fun z => some (.int z.1)) (fun z => (wX E a fabove fbelow z.2.1 rno rfull counts0 people0 day0 listed0 z.2.2.1 struck0 noted0 z.2.2.2.1 kinds0 tempers0 notes0 z.2.2.2.2 counts1 people1 day1 listed1 followed1 struck1 noted1 undoable1 kinds1 tempers1 notes1 past1 counts2 people2 day2 listed2 followed2 struck2 noted2 undoable2 kinds2 tempers2 notes2 past2 counts3 people3 day3 listed3 followed3 struck3 noted3 undoable3 kinds3 tempers3 notes3 past3 keptz wkind wtemper wcounts wday wlisted wfollowed xlength xstart xbehind xsort xnumber xbytes)) (m_X3_follow rbad people0 day0 listed0 followed0 struck0 undoable0 tempers0 past0 p is) := by
  refine wl_enter (own := RX3) (by decide +kernel) rfl (Nat.le_of_ble_eq_true rfl) ?_
  intro p0 e0 s0 m0 bl0 mt0 c0 A hC hr hlk hA H locs hP hD hS ls hl
  have hx := hC.1
  have hb := hC.2.1
  have hl : lv_has ls 4 [(0, .ref (a 0)), (1, .int p), (2, .int is)] := hl
  have hm := m_X3_follow.eq_1 rbad people0 day0 listed0 followed0 struck0 undoable0 tempers0 past0 p is
  refine lv_aload_n hx hb dX3_follow_0 rfl (lv_at hl 0 rfl) ?_
  refine lv_iload_n hx hb dX3_follow_1 rfl (lv_at hl 1 rfl) ?_
  refine wl_callVi hC (c_X3_isThere (p := p) ) lk_RX3_86 rfl ⟨rfl, rfl, Nat.le_of_ble_eq_true rfl, Nat.le_of_ble_eq_true rfl⟩ hP hD hS hA 0 rfl (T1 := 11) rfl hl.1 rfl (Nat.le_of_ble_eq_true rfl) dX3_follow_2 ⟨Nat.zero_le _, Nat.zero_le _⟩ (fun z1 hz1 H locs hP hD hS => ?_)
  have hm := wl_bz hm hz1
  refine wl_if_eq_b hx hb (tgt := 17) dX3_follow_5 (by decide) (fun c2 => ?_) (fun c2 => ?_)
  · have hm := hm.trans (if_neg c2)
    refine lv_aload_n hx hb dX3_follow_17 rfl (lv_at hl 0 rfl) ?_
    refine wl_callVi hC (c_X3_refuseBad  ) lk_RX3_52 rfl ⟨rfl, rfl, Nat.le_of_ble_eq_true rfl, Nat.le_of_ble_eq_true rfl⟩ hP hD hS hA 0 rfl (T1 := 11) rfl hl.1 rfl (Nat.le_of_ble_eq_true rfl) dX3_follow_18 ⟨Nat.zero_le _, Nat.zero_le _⟩ (fun z3 hz3 H locs hP hD hS => ?_)
    have hm := wl_bz hm hz3
    exact wl_iret hC hr hlk hm rfl hP hD hS dX3_follow_21
  · have hm := hm.trans (if_pos c2)
    obtain ⟨ha4, hb4_⟩ := isThere_spec hP7 (hz1.symm.trans c2)
    have hl : lv_has ls 4 [(0, .ref (a 0)), (1, .int (nI (cl p))), (2, .int is)] := by rw [← ha4]; exact hl
    refine lv_iload_n hx hb dX3_follow_8 rfl (lv_at hl 2 rfl) ?_
    refine lv_iconst (v := (nI 0)) hx hb dX3_follow_9 (by decide +kernel) ?_
    refine lv_iconst (v := (nI 1)) hx hb dX3_follow_10 (by decide +kernel) ?_
    refine wl_callPi hC (c_X3_isWithin (v := is) (least := (nI 0)) (most := (nI 1)) ) lk_RX3_48 rfl ⟨rfl, rfl, Nat.le_of_ble_eq_true rfl, Nat.le_of_ble_eq_true rfl⟩ hP hS hA hl.1 rfl (Nat.le_of_ble_eq_true rfl) dX3_follow_11 ⟨Nat.zero_le _, Nat.zero_le _⟩ (fun z5 hz5 H locs hP hS => ?_)
    have hm := wl_bz hm hz5
    refine wl_if_ne_b hx hb (tgt := 22) dX3_follow_14 (by decide) (fun c6 => ?_) (fun c6 => ?_)
    · have hm := hm.trans (if_pos c6)
      refine lv_aload_n hx hb dX3_follow_22 rfl (lv_at hl 0 rfl) ?_
      refine g_X_0_now hC hP mw_202 dX3_follow_23 ?_
      refine g_X_1_followed hC hP mw_259 dX3_follow_26 ?_
      refine lv_iload_n hx hb dX3_follow_29 rfl (lv_at hl 1 rfl) ?_
      refine wl_callPi hC (c_X3_bitOf (bits := followed0) (i := (cl p)) ) lk_RX3_93 rfl ⟨rfl, rfl, Nat.le_of_ble_eq_true rfl, Nat.le_of_ble_eq_true rfl⟩ hP hS hA hl.1 rfl (Nat.le_of_ble_eq_true rfl) dX3_follow_30 ⟨Nat.zero_le _, Nat.zero_le _⟩ (fun z7 hz7 H locs hP hS => ?_)
      have hm := wl_bz hm hz7
      refine lv_istore_n (lv' := [(3, .int z7), (0, .ref (a 0)), (1, .int (nI (cl p))), (2, .int is)]) hx hb dX3_follow_33 rfl hl (by decide) rfl (fun ls hl => ?_)
      refine lv_aload_n hx hb dX3_follow_34 rfl (lv_at hl 1 rfl) ?_
      refine g_X_0_now hC hP mw_202 dX3_follow_35 ?_
      refine wl_callVv hC (c_X1_keepPast__X_1  (by first | assumption | omega)) lk_RX3_96 rfl ⟨rfl, rfl, Nat.le_of_ble_eq_true rfl, Nat.le_of_ble_eq_true rfl⟩ hP hD hS hA 1 rfl (T1 := 12) rfl hl.1 rfl (Nat.le_of_ble_eq_true rfl) dX3_follow_38 ⟨Nat.zero_le _, Nat.zero_le _⟩ (fun z8 hz8 H locs hP hD hS => ?_)
      have hm := wl_bz hm hz8
      refine lv_aload_n hx hb dX3_follow_41 rfl (lv_at hl 1 rfl) ?_
      refine g_X_0_now hC hP mw_202 dX3_follow_42 ?_
      refine lv_aload_n hx hb dX3_follow_45 rfl (lv_at hl 1 rfl) ?_
      refine g_X_0_now hC hP mw_202 dX3_follow_46 ?_
      refine g_X_1_followed hC hP mw_259 dX3_follow_49 ?_
      refine lv_iload_n hx hb dX3_follow_52 rfl (lv_at hl 2 rfl) ?_
      refine lv_iload_n hx hb dX3_follow_53 rfl (lv_at hl 3 rfl) ?_
      refine wl_callPi hC (c_X3_withBit (bits := followed0) (i := (cl p)) (is := is) ) lk_RX3_99 rfl ⟨rfl, rfl, Nat.le_of_ble_eq_true rfl, Nat.le_of_ble_eq_true rfl⟩ hP hS hA hl.1 rfl (Nat.le_of_ble_eq_true rfl) dX3_follow_54 ⟨Nat.zero_le _, Nat.zero_le _⟩ (fun z9 hz9 H locs hP hS => ?_)
      have hm := wl_bz hm hz9
      refine p_X_1_followed hC hP hD hS z9 mw_259 dX3_follow_57 (fun H locs hP hD hS => ?_)
      refine lv_iload_n hx hb dX3_follow_60 rfl (lv_at hl 0 rfl) ?_
      exact wl_iret hC hr hlk hm rfl hP hD hS dX3_follow_61
    · have hm := hm.trans (if_neg c6)
      refine lv_aload_n hx hb dX3_follow_17 rfl (lv_at hl 0 rfl) ?_
      refine wl_callVi hC (c_X3_refuseBad  ) lk_RX3_52 rfl ⟨rfl, rfl, Nat.le_of_ble_eq_true rfl, Nat.le_of_ble_eq_true rfl⟩ hP hD hS hA 0 rfl (T1 := 11) rfl hl.1 rfl (Nat.le_of_ble_eq_true rfl) dX3_follow_18 ⟨Nat.zero_le _, Nat.zero_le _⟩ (fun z10 hz10 H locs hP hD hS => ?_)
      have hm := wl_bz hm hz10
      exact wl_iret hC hr hlk hm rfl hP hD hS dX3_follow_21
set_option maxHeartbeats 4000000 in
set_option maxRecDepth 100000 in
theorem c_X1_goBy__X_1_23 {l : Launch} {D : va_G} {E : Nat → ClassId} {a : Nat → Nat} {fabove : Int64} {fbelow : Int64} {rbad : Int32} {rno : Int32} {rfull : Int32} {counts0 : Int32} {people0 : Nat} {day0 : Int32} {listed0 : Int32} {followed0 : Int32} {struck0 : Int32} {noted0 : Nat} {undoable0 : Nat} {kinds0 : (Nat → Int32)} {tempers0 : (Nat → Int32)} {notes0 : (Nat → Int32)} {past0 : (Nat → Int32)} {counts1 : Int32} {people1 : Nat} {day1 : Int32} {listed1 : Int32} {followed1 : Int32} {struck1 : Int32} {noted1 : Nat} {undoable1 : Nat} {kinds1 : (Nat → Int32)} {tempers1 : (Nat → Int32)} {notes1 : (Nat → Int32)} {past1 : (Nat → Int32)} {counts2 : Int32} {people2 : Nat} {day2 : Int32} {listed2 : Int32} {followed2 : Int32} {struck2 : Int32} {noted2 : Nat} {undoable2 : Nat} {kinds2 : (Nat → Int32)} {tempers2 : (Nat → Int32)} {notes2 : (Nat → Int32)} {past2 : (Nat → Int32)} {counts3 : Int32} {people3 : Nat} {day3 : Int32} {listed3 : Int32} {followed3 : Int32} {struck3 : Int32} {noted3 : Nat} {undoable3 : Nat} {kinds3 : (Nat → Int32)} {tempers3 : (Nat → Int32)} {notes3 : (Nat → Int32)} {past3 : (Nat → Int32)} {keptz : (Nat → Int32)} {wkind : Int32} {wtemper : Int32} {wcounts : Int32} {wday : Int32} {wlisted : Bool} {wfollowed : Bool} {xlength : Nat} {xstart : Nat} {xbehind : Nat} {xsort : Int32} {xnumber : Int32} {xbytes : (Nat → Int32)}  (hP7 : people0 ≤ 7) : wl_Met (τ := Int32 × Int32 × Int32 × Int32 × Int32 × (Nat → Int32) × Int32 × Int32 × Int32 × Int32 × Bool × Bool) l D E yX1_goBy cX1_goBy 4 (some .int) ({ frames := 4, cells := 0, slots := 0, locals := 92 } : Room) [.ref (a 1), .ref (a 23)] (wX E a fabove fbelow rbad rno rfull counts0 people0 day0 listed0 followed0 struck0 noted0 undoable0 kinds0 tempers0 notes0 past0 counts1 people1 day1 listed1 followed1 struck1 noted1 undoable1 kinds1 tempers1 notes1 past1 counts2 people2 day2 listed2 followed2 struck2 noted2 undoable2 kinds2 tempers2 notes2 past2 counts3 people3 day3 listed3 followed3 struck3 noted3 undoable3 kinds3 tempers3 notes3 past3 keptz wkind wtemper wcounts wday wlisted wfollowed xlength xstart xbehind xsort xnumber xbytes) (fun z => some (.int z.1)) (fun z => (wX E a fabove fbelow rbad rno rfull counts0 people0 z.2.1 z.2.2.1 z.2.2.2.1 z.2.2.2.2.1 noted0 undoable0 kinds0 z.2.2.2.2.2.1 notes0 past0 counts1 people1 day1 listed1 followed1 struck1 noted1 undoable1 kinds1 tempers1 notes1 past1 counts2 people2 day2 listed2 followed2 struck2 noted2 undoable2 kinds2 tempers2 notes2 past2 counts3 people3 day3 listed3 followed3 struck3 noted3 undoable3 kinds3 tempers3 notes3 past3 keptz z.2.2.2.2.2.2.1 z.2.2.2.2.2.2.2.1 z.2.2.2.2.2.2.2.2.1 z.2.2.2.2.2.2.2.2.2.1 z.2.2.2.2.2.2.2.2.2.2.1 z.2.2.2.2.2.2.2.2.2.2.2 xlength xstart xbehind xsort xnumber xbytes)) (m_X1_goBy counts0 people0 day0 listed0 followed0 struck0 kinds0 tempers0 wkind wtemper wcounts wday wlisted wfollowed) :=
  wl_lift (c_X1_goBy (a := (fun k => a ([1, 2, 3, 4, 5, 23].getD k 0))) (counts := counts0) (people := people0) (day := day0) (listed := listed0) (followed := followed0) (struck := struck0) (noted := noted0) (undoable := undoable0) (kinds := kinds0) (tempers := tempers0) (notes := notes0) (past := past0) (wkind := wkind) (wtemper := wtemper) (wcounts := wcounts) (wday := wday) (wlisted := wlisted) (wfollowed := wfollowed)  hP7) [1, 2, 3, 4, 5, 23] [0, 6, 7, 8, 9, 10, 11, 12, 13, 14, 15, 16, 17, 18, 19, 20, 21, 22, 24, 25] [0, 20, 21, 22, 23, 24, 1, 2, 3, 4, 5, 6, 7, 8, 9, 10, 11, 12, 13, 14, 15, 16, 17, 25, 18, 19] (wr := ([0, 6, 7, 8, 9, 10, 11, 12, 13, 14, 15, 16, 17, 18, 19, 20, 21, 22, 24, 25].filterMap (fun i => (wX E a fabove fbelow rbad rno rfull counts0 people0 day0 listed0 followed0 struck0 noted0 undoable0 kinds0 tempers0 notes0 past0 counts1 people1 day1 listed1 followed1 struck1 noted1 undoable1 kinds1 tempers1 notes1 past1 counts2 people2 day2 listed2 followed2 struck2 noted2 undoable2 kinds2 tempers2 notes2 past2 counts3 people3 day3 listed3 followed3 struck3 noted3 undoable3 kinds3 tempers3 notes3 past3 keptz wkind wtemper wcounts wday wlisted wfollowed xlength xstart xbehind xsort xnumber xbytes)[i]?))) rfl rfl (by decide) (by decide) (by decide) (by decide) (fun _ => rfl)
def m_X3_day_l19 (counts0 : Int32) (people0 : Nat) (kinds0 : (Nat → Int32)) (k4 : Nat) (v4 : Int32 × Int32 × Int32 × Int32 × Nat × (Nat → Int32) × (Nat → Int32) × Int32 × Int32 × Int32 × Int32 × Bool × Bool × Int32) : Int32 × Int32 × Int32 × Int32 × Nat × (Nat → Int32) × (Nat → Int32) × Int32 × Int32 × Int32 × Int32 × Bool × Bool × Int32 := (wl_bnd (m_X1_keepPast v4.1 v4.2.1 v4.2.2.1 v4.2.2.2.1 v4.2.2.2.2.1 v4.2.2.2.2.2.1 v4.2.2.2.2.2.2.1) (fun z6 => (wl_bnd (m_X1_goBy counts0 people0 v4.1 v4.2.1 v4.2.2.1 v4.2.2.2.1 kinds0 v4.2.2.2.2.2.1 v4.2.2.2.2.2.2.2.1 v4.2.2.2.2.2.2.2.2.1 v4.2.2.2.2.2.2.2.2.2.1 v4.2.2.2.2.2.2.2.2.2.2.1 v4.2.2.2.2.2.2.2.2.2.2.2.1 v4.2.2.2.2.2.2.2.2.2.2.2.2.1) (fun z7 => (z7.2.1, z7.2.2.1, z7.2.2.2.1, z7.2.2.2.2.1, z6.1, z7.2.2.2.2.2.1, z6.2, z7.2.2.2.2.2.2.1, z7.2.2.2.2.2.2.2.1, z7.2.2.2.2.2.2.2.2.1, z7.2.2.2.2.2.2.2.2.2.1, z7.2.2.2.2.2.2.2.2.2.2.1, z7.2.2.2.2.2.2.2.2.2.2.2, (v4.2.2.2.2.2.2.2.2.2.2.2.2.2 ||| z7.1))))))
def m_X3_day (rbad : Int32) (counts0 : Int32) (people0 : Nat) (day0 : Int32) (listed0 : Int32) (followed0 : Int32) (struck0 : Int32) (undoable0 : Nat) (kinds0 : (Nat → Int32)) (tempers0 : (Nat → Int32)) (past0 : (Nat → Int32)) (wkind : Int32) (wtemper : Int32) (wcounts : Int32) (wday : Int32) (wlisted : Bool) (wfollowed : Bool) (n : Int32) : Int32 × Int32 × Int32 × Int32 × Int32 × Int32 × Nat × (Nat → Int32) × (Nat → Int32) × Int32 × Int32 × Int32 × Int32 × Bool × Bool := (wl_bnd (m_X3_isWithin n (nI 1) (nI 60)) (fun z1 => (if z1 = true then (wl_bnd (wl_iter (m_X3_day_l19 counts0 people0 kinds0) (cl n) 0 (day0, listed0, followed0, struck0, undoable0, tempers0, past0, wkind, wtemper, wcounts, wday, wlisted, wfollowed, (nI 0))) (fun z4 => (z4.2.2.2.2.2.2.2.2.2.2.2.2.2, rbad, z4.1, z4.2.1, z4.2.2.1, z4.2.2.2.1, z4.2.2.2.2.1, z4.2.2.2.2.2.1, z4.2.2.2.2.2.2.1, z4.2.2.2.2.2.2.2.1, z4.2.2.2.2.2.2.2.2.1, z4.2.2.2.2.2.2.2.2.2.1, z4.2.2.2.2.2.2.2.2.2.2.1, z4.2.2.2.2.2.2.2.2.2.2.2.1, z4.2.2.2.2.2.2.2.2.2.2.2.2.1))) else (wl_bnd (m_X3_refuseBad rbad) (fun z9 => (z9.1, z9.2, day0, listed0, followed0, struck0, undoable0, tempers0, past0, wkind, wtemper, wcounts, wday, wlisted, wfollowed))))))
set_option maxHeartbeats 4000000 in
set_option maxRecDepth 100000 in
theorem c_X3_day {l : Launch} {D : va_G} {E : Nat → ClassId} {a : Nat → Nat} {fabove : Int64} {fbelow : Int64} {rbad : Int32} {rno : Int32} {rfull : Int32} {counts0 : Int32} {people0 : Nat} {day0 : Int32} {listed0 : Int32} {followed0 : Int32} {struck0 : Int32} {noted0 : Nat} {undoable0 : Nat} {kinds0 : (Nat → Int32)} {tempers0 : (Nat → Int32)} {notes0 : (Nat → Int32)} {past0 : (Nat → Int32)} {counts1 : Int32} {people1 : Nat} {day1 : Int32} {listed1 : Int32} {followed1 : Int32} {struck1 : Int32} {noted1 : Nat} {undoable1 : Nat} {kinds1 : (Nat → Int32)} {tempers1 : (Nat → Int32)} {notes1 : (Nat → Int32)} {past1 : (Nat → Int32)} {counts2 : Int32} {people2 : Nat} {day2 : Int32} {listed2 : Int32} {followed2 : Int32} {struck2 : Int32} {noted2 : Nat} {undoable2 : Nat} {kinds2 : (Nat → Int32)} {tempers2 : (Nat → Int32)} {notes2 : (Nat → Int32)} {past2 : (Nat → Int32)} {counts3 : Int32} {people3 : Nat} {day3 : Int32} {listed3 : Int32} {followed3 : Int32} {struck3 : Int32} {noted3 : Nat} {undoable3 : Nat} {kinds3 : (Nat → Int32)} {tempers3 : (Nat → Int32)} {notes3 : (Nat → Int32)} {past3 : (Nat → Int32)} {keptz : (Nat → Int32)} {wkind : Int32} {wtemper : Int32} {wcounts : Int32} {wday : Int32} {wlisted : Bool} {wfollowed : Bool} {xlength : Nat} {xstart : Nat} {xbehind : Nat} {xsort : Int32} {xnumber : Int32} {xbytes : (Nat → Int32)} {n : Int32} (hP7 : people0 ≤ 7) (hU8 : undoable0 ≤ 8) : wl_Met (τ := Int32 × Int32 × Int32 × Int32 × Int32 × Int32 × Nat × (Nat → Int32) × (Nat → Int32) × Int32 × Int32 × Int32 × Int32 × Bool × Bool) l D E yX3_day cX3_day 4 (some .int) ({ frames := 5, cells := 0, slots := 0, locals := 115 } : Room) [.ref (a 0), .int n] (wX E a fabove fbelow rbad rno rfull counts0 people0 day0 listed0 followed0 struck0 noted0 undoable0 kinds0 tempers0 notes0 past0 counts1 people1 day1 listed1 followed1 struck1 noted1 undoable1 kinds1 tempers1 notes1 past1 counts2 people2 day2 listed2 followed2 struck2 noted2 undoable2 kinds2 tempers2 notes2 past2 counts3 people3 day3 listed3 followed3 struck3 noted3 undoable3 kinds3 tempers3 notes3 past3 keptz wkind wtemper wcounts wday wlisted wfollowed xlength xstart xbehind xsort xnumber xbytes) (fun z => some (.int z.1)) (fun z => (wX E a fabove fbelow z.2.1 rno rfull counts0 people0 z.2.2.1 z.2.2.2.1 z.2.2.2.2.1 z.2.2.2.2.2.1 noted0 z.2.2.2.2.2.2.1 kinds0 z.2.2.2.2.2.2.2.1 notes0 z.2.2.2.2.2.2.2.2.1 counts1 people1 day1 listed1 followed1 struck1 noted1 undoable1 kinds1 tempers1 notes1 past1 counts2 people2 day2 listed2 followed2 struck2 noted2 undoable2 kinds2 tempers2 notes2 past2 counts3 people3 day3 listed3 followed3 struck3 noted3 undoable3 kinds3 tempers3 notes3 past3 keptz z.2.2.2.2.2.2.2.2.2.1 z.2.2.2.2.2.2.2.2.2.2.1 z.2.2.2.2.2.2.2.2.2.2.2.1 z.2.2.2.2.2.2.2.2.2.2.2.2.1 z.2.2.2.2.2.2.2.2.2.2.2.2.2.1 z.2.2.2.2.2.2.2.2.2.2.2.2.2.2 xlength xstart xbehind xsort xnumber xbytes)) (m_X3_day rbad counts0 people0 day0 listed0 followed0 struck0 undoable0 kinds0 tempers0 past0 wkind wtemper wcounts wday wlisted wfollowed n) := by
  refine wl_enter (own := RX3) (by decide +kernel) rfl (Nat.le_of_ble_eq_true rfl) ?_
  intro p0 e0 s0 m0 bl0 mt0 c0 A hC hr hlk hA H locs hP hD hS ls hl
  have hx := hC.1
  have hb := hC.2.1
  have hl : lv_has ls 4 [(0, .ref (a 0)), (1, .int n)] := hl
  have hm := m_X3_day.eq_1 rbad counts0 people0 day0 listed0 followed0 struck0 undoable0 kinds0 tempers0 past0 wkind wtemper wcounts wday wlisted wfollowed n
  refine lv_iload_n hx hb dX3_day_0 rfl (lv_at hl 1 rfl) ?_
  refine lv_iconst (v := (nI 1)) hx hb dX3_day_1 (by decide +kernel) ?_
  refine lv_bipush (v := (nI 60)) hx hb dX3_day_2 (by decide +kernel) ?_
  refine wl_callPi hC (c_X3_isWithin (v := n) (least := (nI 1)) (most := (nI 60)) ) lk_RX3_48 rfl ⟨rfl, rfl, Nat.le_of_ble_eq_true rfl, Nat.le_of_ble_eq_true rfl⟩ hP hS hA hl.1 rfl (Nat.le_of_ble_eq_true rfl) dX3_day_4 ⟨Nat.zero_le _, Nat.zero_le _⟩ (fun z1 hz1 H locs hP hS => ?_)
  have hm := wl_bz hm hz1
  refine wl_if_ne_b hx hb (tgt := 15) dX3_day_7 (by decide) (fun c2 => ?_) (fun c2 => ?_)
  · have hm := hm.trans (if_pos c2)
    obtain ⟨ha3, hb3_, hc3_⟩ := within_spec (a := 1) (b := 60) (by decide) (by decide) (hz1.symm.trans c2)
    have hl : lv_has ls 4 [(0, .ref (a 0)), (1, .int (nI (cl n)))] := by rw [← ha3]; exact hl
    refine lv_iconst (v := (nI 0)) hx hb dX3_day_15 (by decide +kernel) ?_
    refine lv_istore_n (lv' := [(2, .int (nI 0)), (0, .ref (a 0)), (1, .int (nI (cl n)))]) hx hb dX3_day_16 rfl hl (by decide) rfl (fun ls hl => ?_)
    refine lv_iconst (v := (nI 0)) hx hb dX3_day_17 (by decide +kernel) ?_
    refine lv_istore_n (lv' := [(3, .int (nI 0)), (2, .int (nI 0)), (0, .ref (a 0)), (1, .int (nI (cl n)))]) hx hb dX3_day_18 rfl hl (by decide) rfl (fun ls hl => ?_)
    obtain ⟨u4, hu4, hk4⟩ := wl_bx hm
    refine wl_for (D := D) (A := A) (H0 := s0.heap) (m_X3_day_l19 counts0 people0 kinds0) (cl n) 0 (cl n) (day0, listed0, followed0, struck0, undoable0, tempers0, past0, wkind, wtemper, wcounts, wday, wlisted, wfollowed, (nI 0)) 19 4 (fun k4 v4 => [(0, .ref (a 0)), (1, .int (nI (cl n))), (2, .int v4.2.2.2.2.2.2.2.2.2.2.2.2.2), (3, .int (nI k4))]) (fun k4 v4 => (wX E a fabove fbelow rbad rno rfull counts0 people0 v4.1 v4.2.1 v4.2.2.1 v4.2.2.2.1 noted0 v4.2.2.2.2.1 kinds0 v4.2.2.2.2.2.1 notes0 v4.2.2.2.2.2.2.1 counts1 people1 day1 listed1 followed1 struck1 noted1 undoable1 kinds1 tempers1 notes1 past1 counts2 people2 day2 listed2 followed2 struck2 noted2 undoable2 kinds2 tempers2 notes2 past2 counts3 people3 day3 listed3 followed3 struck3 noted3 undoable3 kinds3 tempers3 notes3 past3 keptz v4.2.2.2.2.2.2.2.1 v4.2.2.2.2.2.2.2.2.1 v4.2.2.2.2.2.2.2.2.2.1 v4.2.2.2.2.2.2.2.2.2.2.1 v4.2.2.2.2.2.2.2.2.2.2.2.1 v4.2.2.2.2.2.2.2.2.2.2.2.2.1 xlength xstart xbehind xsort xnumber xbytes)) (fun k4 v4 => (v4.2.2.2.2.1 ≤ 8)) (by omega) (by show undoable0 ≤ 8; exact hU8) ?_ ?_ hP hD hS (lv_sub hl [2, 3, 1, 0] rfl)
    · intro z4 hv4 hI4 ls H locs hP hD hS hl
      have hm := hk4 z4 (hu4.trans hv4)
      have hU9 := hI4
      refine lv_iload_n hx hb dX3_day_19 rfl (lv_at hl 3 rfl) ?_
      refine lv_iload_n hx hb dX3_day_20 rfl (lv_at hl 1 rfl) ?_
      refine wl_icmp_ge_n hx hb (by first | omega | exact Nat.lt_of_le_of_lt Nat.and_le_right (by omega) | exact Nat.pow_lt_pow_right (by omega) (by omega) | exact Nat.lt_trans (by assumption) (Nat.pow_lt_pow_right (by omega) (by omega))) (by first | omega | exact Nat.lt_of_le_of_lt Nat.and_le_right (by omega) | exact Nat.pow_lt_pow_right (by omega) (by omega) | exact Nat.lt_trans (by assumption) (Nat.pow_lt_pow_right (by omega) (by omega))) (tgt := 51) dX3_day_21 (by decide) (fun c8 => ?_) (fun c8 => absurd (by omega) c8)
      refine lv_iload_n hx hb dX3_day_51 rfl (lv_at hl 2 rfl) ?_
      exact wl_iret hC hr hlk hm rfl hP hD hS dX3_day_52
    · intro k4 v4 hlo4 hhi4 hI4 IH4 ls H locs hP hD hS hl
      have hU9 := hI4
      have hb4 := m_X3_day_l19.eq_1 counts0 people0 kinds0 k4 v4
      refine lv_iload_n hx hb dX3_day_19 rfl (lv_at hl 3 rfl) ?_
      refine lv_iload_n hx hb dX3_day_20 rfl (lv_at hl 1 rfl) ?_
      refine wl_icmp_ge_n hx hb (by first | omega | exact Nat.lt_of_le_of_lt Nat.and_le_right (by omega) | exact Nat.pow_lt_pow_right (by omega) (by omega) | exact Nat.lt_trans (by assumption) (Nat.pow_lt_pow_right (by omega) (by omega))) (by first | omega | exact Nat.lt_of_le_of_lt Nat.and_le_right (by omega) | exact Nat.pow_lt_pow_right (by omega) (by omega) | exact Nat.lt_trans (by assumption) (Nat.pow_lt_pow_right (by omega) (by omega))) (tgt := 51) dX3_day_21 (by decide) (fun c5 => absurd c5 (by omega)) (fun c5 => ?_)
      refine lv_aload_n hx hb dX3_day_24 rfl (lv_at hl 0 rfl) ?_
      refine g_X_0_now hC hP mw_202 dX3_day_25 ?_
      refine wl_callVv hC (c_X1_keepPast__X_1  (by first | assumption | omega)) lk_RX3_96 rfl ⟨rfl, rfl, Nat.le_of_ble_eq_true rfl, Nat.le_of_ble_eq_true rfl⟩ hP hD hS hA 1 rfl (T1 := 12) rfl hl.1 rfl (Nat.le_of_ble_eq_true rfl) dX3_day_28 ⟨Nat.zero_le _, Nat.zero_le _⟩ (fun z6 hz6 H locs hP hD hS => ?_)
      have hb4 := wl_bz hb4 hz6
      have hU_ : z6.1 ≤ 8 := by rw [hz6]; exact keepPast_u (by assumption)
      refine lv_iload_n hx hb dX3_day_31 rfl (lv_at hl 2 rfl) ?_
      refine lv_aload_n hx hb dX3_day_32 rfl (lv_at hl 0 rfl) ?_
      refine g_X_0_now hC hP mw_202 dX3_day_33 ?_
      refine lv_aload_n hx hb dX3_day_36 rfl (lv_at hl 0 rfl) ?_
      refine g_X_0_walk hC hP mw_209 dX3_day_37 ?_
      refine wl_callVi hC (c_X1_goBy__X_1_23  (by first | assumption | omega)) lk_RX3_106 rfl ⟨rfl, rfl, Nat.le_of_ble_eq_true rfl, Nat.le_of_ble_eq_true rfl⟩ hP hD hS hA 1 rfl (T1 := 12) rfl hl.1 rfl (Nat.le_of_ble_eq_true rfl) dX3_day_40 ⟨Nat.zero_le _, Nat.zero_le _⟩ (fun z7 hz7 H locs hP hD hS => ?_)
      have hb4 := wl_bz hb4 hz7
      refine lv_ior hx hb dX3_day_43 ?_
      refine lv_istore_n (lv' := [(2, .int (v4.2.2.2.2.2.2.2.2.2.2.2.2.2 ||| z7.1)), (0, .ref (a 0)), (1, .int (nI (cl n))), (3, .int (nI k4))]) hx hb dX3_day_44 rfl hl (by decide) rfl (fun ls hl => ?_)
      refine lv_iinc (v := (nI (k4 + 1))) (lv' := [(3, .int (nI (k4 + 1))), (2, .int (v4.2.2.2.2.2.2.2.2.2.2.2.2.2 ||| z7.1)), (0, .ref (a 0)), (1, .int (nI (cl n)))]) hx hb dX3_day_45 hl (k := 3) rfl (wl_inc k4 1) (by decide) rfl (fun ls hl => ?_)
      refine lv_goto (tgt := 19) hx hb dX3_day_48 (by decide) ?_
      exact IH4 _ hb4 (by show z6.1 ≤ 8; exact hU_) ls H locs hP hD hS (lv_sub hl [2, 3, 1, 0] rfl)
  · have hm := hm.trans (if_neg c2)
    refine lv_aload_n hx hb dX3_day_10 rfl (lv_at hl 0 rfl) ?_
    refine wl_callVi hC (c_X3_refuseBad  ) lk_RX3_52 rfl ⟨rfl, rfl, Nat.le_of_ble_eq_true rfl, Nat.le_of_ble_eq_true rfl⟩ hP hD hS hA 0 rfl (T1 := 11) rfl hl.1 rfl (Nat.le_of_ble_eq_true rfl) dX3_day_11 ⟨Nat.zero_le _, Nat.zero_le _⟩ (fun z9 hz9 H locs hP hD hS => ?_)
    have hm := wl_bz hm hz9
    exact wl_iret hC hr hlk hm rfl hP hD hS dX3_day_14
set_option maxHeartbeats 4000000 in
set_option maxRecDepth 100000 in
theorem c_X1_takePast__X_1 {l : Launch} {D : va_G} {E : Nat → ClassId} {a : Nat → Nat} {fabove : Int64} {fbelow : Int64} {rbad : Int32} {rno : Int32} {rfull : Int32} {counts0 : Int32} {people0 : Nat} {day0 : Int32} {listed0 : Int32} {followed0 : Int32} {struck0 : Int32} {noted0 : Nat} {undoable0 : Nat} {kinds0 : (Nat → Int32)} {tempers0 : (Nat → Int32)} {notes0 : (Nat → Int32)} {past0 : (Nat → Int32)} {counts1 : Int32} {people1 : Nat} {day1 : Int32} {listed1 : Int32} {followed1 : Int32} {struck1 : Int32} {noted1 : Nat} {undoable1 : Nat} {kinds1 : (Nat → Int32)} {tempers1 : (Nat → Int32)} {notes1 : (Nat → Int32)} {past1 : (Nat → Int32)} {counts2 : Int32} {people2 : Nat} {day2 : Int32} {listed2 : Int32} {followed2 : Int32} {struck2 : Int32} {noted2 : Nat} {undoable2 : Nat} {kinds2 : (Nat → Int32)} {tempers2 : (Nat → Int32)} {notes2 : (Nat → Int32)} {past2 : (Nat → Int32)} {counts3 : Int32} {people3 : Nat} {day3 : Int32} {listed3 : Int32} {followed3 : Int32} {struck3 : Int32} {noted3 : Nat} {undoable3 : Nat} {kinds3 : (Nat → Int32)} {tempers3 : (Nat → Int32)} {notes3 : (Nat → Int32)} {past3 : (Nat → Int32)} {keptz : (Nat → Int32)} {wkind : Int32} {wtemper : Int32} {wcounts : Int32} {wday : Int32} {wlisted : Bool} {wfollowed : Bool} {xlength : Nat} {xstart : Nat} {xbehind : Nat} {xsort : Int32} {xnumber : Int32} {xbytes : (Nat → Int32)}  (hU8 : undoable0 ≤ 8) : wl_Met (τ := Int32 × Int32 × Int32 × Int32 × Nat × (Nat → Int32)) l D E yX1_takePast cX1_takePast 2 none ({ frames := 1, cells := 0, slots := 0, locals := 40 } : Room) [.ref (a 1)] (wX E a fabove fbelow rbad rno rfull counts0 people0 day0 listed0 followed0 struck0 noted0 undoable0 kinds0 tempers0 notes0 past0 counts1 people1 day1 listed1 followed1 struck1 noted1 undoable1 kinds1 tempers1 notes1 past1 counts2 people2 day2 listed2 followed2 struck2 noted2 undoable2 kinds2 tempers2 notes2 past2 counts3 people3 day3 listed3 followed3 struck3 noted3 undoable3 kinds3 tempers3 notes3 past3 keptz wkind wtemper wcounts wday wlisted wfollowed xlength xstart xbehind xsort xnumber xbytes) (fun _ => none) (fun z => (wX E a fabove fbelow rbad rno rfull counts0 people0 z.1 z.2.1 z.2.2.1 z.2.2.2.1 noted0 z.2.2.2.2.1 kinds0 z.2.2.2.2.2 notes0 past0 counts1 people1 day1 listed1 followed1 struck1 noted1 undoable1 kinds1 tempers1 notes1 past1 counts2 people2 day2 listed2 followed2 struck2 noted2 undoable2 kinds2 tempers2 notes2 past2 counts3 people3 day3 listed3 followed3 struck3 noted3 undoable3 kinds3 tempers3 notes3 past3 keptz wkind wtemper wcounts wday wlisted wfollowed xlength xstart xbehind xsort xnumber xbytes)) (m_X1_takePast day0 listed0 followed0 struck0 undoable0 tempers0 past0) :=
  wl_lift (c_X1_takePast (a := (fun k => a ([1, 2, 3, 4, 5].getD k 0))) (counts := counts0) (people := people0) (day := day0) (listed := listed0) (followed := followed0) (struck := struck0) (noted := noted0) (undoable := undoable0) (kinds := kinds0) (tempers := tempers0) (notes := notes0) (past := past0)  hU8) [1, 2, 3, 4, 5] [0, 6, 7, 8, 9, 10, 11, 12, 13, 14, 15, 16, 17, 18, 19, 20, 21, 22, 23, 24, 25] [0, 21, 22, 23, 24, 25, 1, 2, 3, 4, 5, 6, 7, 8, 9, 10, 11, 12, 13, 14, 15, 16, 17, 18, 19, 20] (wr := ([0, 6, 7, 8, 9, 10, 11, 12, 13, 14, 15, 16, 17, 18, 19, 20, 21, 22, 23, 24, 25].filterMap (fun i => (wX E a fabove fbelow rbad rno rfull counts0 people0 day0 listed0 followed0 struck0 noted0 undoable0 kinds0 tempers0 notes0 past0 counts1 people1 day1 listed1 followed1 struck1 noted1 undoable1 kinds1 tempers1 notes1 past1 counts2 people2 day2 listed2 followed2 struck2 noted2 undoable2 kinds2 tempers2 notes2 past2 counts3 people3 day3 listed3 followed3 struck3 noted3 undoable3 kinds3 tempers3 notes3 past3 keptz wkind wtemper wcounts wday wlisted wfollowed xlength xstart xbehind xsort xnumber xbytes)[i]?))) rfl rfl (by decide) (by decide) (by decide) (by decide) (fun _ => rfl)
def m_X3_undo (rno : Int32) (day0 : Int32) (listed0 : Int32) (followed0 : Int32) (struck0 : Int32) (undoable0 : Nat) (tempers0 : (Nat → Int32)) (past0 : (Nat → Int32)) : Int32 × Int32 × Int32 × Int32 × Int32 × Int32 × Nat × (Nat → Int32) := (if 0 < undoable0 then (wl_bnd (m_X1_takePast day0 listed0 followed0 struck0 undoable0 tempers0 past0) (fun z2 => (z2.1, rno, z2.1, z2.2.1, z2.2.2.1, z2.2.2.2.1, z2.2.2.2.2.1, z2.2.2.2.2.2))) else (wl_bnd (m_X3_refuseNo rno) (fun z3 => (z3.1, z3.2, day0, listed0, followed0, struck0, undoable0, tempers0))))
set_option maxHeartbeats 4000000 in
set_option maxRecDepth 100000 in
theorem c_X3_undo {l : Launch} {D : va_G} {E : Nat → ClassId} {a : Nat → Nat} {fabove : Int64} {fbelow : Int64} {rbad : Int32} {rno : Int32} {rfull : Int32} {counts0 : Int32} {people0 : Nat} {day0 : Int32} {listed0 : Int32} {followed0 : Int32} {struck0 : Int32} {noted0 : Nat} {undoable0 : Nat} {kinds0 : (Nat → Int32)} {tempers0 : (Nat → Int32)} {notes0 : (Nat → Int32)} {past0 : (Nat → Int32)} {counts1 : Int32} {people1 : Nat} {day1 : Int32} {listed1 : Int32} {followed1 : Int32} {struck1 : Int32} {noted1 : Nat} {undoable1 : Nat} {kinds1 : (Nat → Int32)} {tempers1 : (Nat → Int32)} {notes1 : (Nat → Int32)} {past1 : (Nat → Int32)} {counts2 : Int32} {people2 : Nat} {day2 : Int32} {listed2 : Int32} {followed2 : Int32} {struck2 : Int32} {noted2 : Nat} {undoable2 : Nat} {kinds2 : (Nat → Int32)} {tempers2 : (Nat → Int32)} {notes2 : (Nat → Int32)} {past2 : (Nat → Int32)} {counts3 : Int32} {people3 : Nat} {day3 : Int32} {listed3 : Int32} {followed3 : Int32} {struck3 : Int32} {noted3 : Nat} {undoable3 : Nat} {kinds3 : (Nat → Int32)} {tempers3 : (Nat → Int32)} {notes3 : (Nat → Int32)} {past3 : (Nat → Int32)} {keptz : (Nat → Int32)} {wkind : Int32} {wtemper : Int32} {wcounts : Int32} {wday : Int32} {wlisted : Bool} {wfollowed : Bool} {xlength : Nat} {xstart : Nat} {xbehind : Nat} {xsort : Int32} {xnumber : Int32} {xbytes : (Nat → Int32)}  (hU8 : undoable0 ≤ 8) : wl_Met (τ := Int32 × Int32 × Int32 × Int32 × Int32 × Int32 × Nat × (Nat → Int32)) l D E yX3_undo cX3_undo 1 (some .int) ({ frames := 2, cells := 0, slots := 0, locals := 61 } : Room) [.ref (a 0)] (wX E a fabove fbelow rbad rno rfull counts0 people0 day0 listed0 followed0 struck0 noted0 undoable0 kinds0 tempers0 notes0 past0 counts1 people1 day1 listed1 followed1 struck1 noted1 undoable1 kinds1 tempers1 notes1 past1 counts2 people2 day2 listed2 followed2 struck2 noted2 undoable2 kinds2 tempers2 notes2 past2 counts3 people3 day3 listed3 followed3 struck3 noted3 undoable3 kinds3 tempers3 notes3 past3 keptz wkind wtemper wcounts wday wlisted wfollowed xlength xstart xbehind xsort xnumber xbytes) (fun z => some (.int z.1)) (fun z => (wX E a fabove fbelow rbad z.2.1 rfull counts0 people0 z.2.2.1 z.2.2.2.1 z.2.2.2.2.1 z.2.2.2.2.2.1 noted0 z.2.2.2.2.2.2.1 kinds0 z.2.2.2.2.2.2.2 notes0 past0 counts1 people1 day1 listed1 followed1 struck1 noted1 undoable1 kinds1 tempers1 notes1 past1 counts2 people2 day2 listed2 followed2 struck2 noted2 undoable2 kinds2 tempers2 notes2 past2 counts3 people3 day3 listed3 followed3 struck3 noted3 undoable3 kinds3 tempers3 notes3 past3 keptz wkind wtemper wcounts wday wlisted wfollowed xlength xstart xbehind xsort xnumber xbytes)) (m_X3_undo rno day0 listed0 followed0 struck0 undoable0 tempers0 past0) := by
  refine wl_enter (own := RX3) (by decide +kernel) rfl (Nat.le_of_ble_eq_true rfl) ?_
  intro p0 e0 s0 m0 bl0 mt0 c0 A hC hr hlk hA H locs hP hD hS ls hl
  have hx := hC.1
  have hb := hC.2.1
  have hl : lv_has ls 1 [(0, .ref (a 0))] := hl
  have hm := m_X3_undo.eq_1 rno day0 listed0 followed0 struck0 undoable0 tempers0 past0
  refine lv_aload_n hx hb dX3_undo_0 rfl (lv_at hl 0 rfl) ?_
  refine g_X_0_now hC hP mw_202 dX3_undo_1 ?_
  refine g_X_1_undoable hC hP mw_267 dX3_undo_4 ?_
  refine wl_if_gt_n hx hb (by first | omega | exact Nat.lt_of_le_of_lt Nat.and_le_right (by omega) | exact Nat.pow_lt_pow_right (by omega) (by omega) | exact Nat.lt_trans (by assumption) (Nat.pow_lt_pow_right (by omega) (by omega))) (tgt := 15) dX3_undo_7 (by decide) (fun c1 => ?_) (fun c1 => ?_)
  · have hm := hm.trans (if_pos c1)
    refine lv_aload_n hx hb dX3_undo_15 rfl (lv_at hl 0 rfl) ?_
    refine g_X_0_now hC hP mw_202 dX3_undo_16 ?_
    refine wl_callVv hC (c_X1_takePast__X_1  (by first | assumption | omega)) lk_RX3_116 rfl ⟨rfl, rfl, Nat.le_of_ble_eq_true rfl, Nat.le_of_ble_eq_true rfl⟩ hP hD hS hA 1 rfl (T1 := 12) rfl hl.1 rfl (Nat.le_of_ble_eq_true rfl) dX3_undo_19 ⟨Nat.zero_le _, Nat.zero_le _⟩ (fun z2 hz2 H locs hP hD hS => ?_)
    have hm := wl_bz hm hz2
    refine lv_aload_n hx hb dX3_undo_22 rfl (lv_at hl 0 rfl) ?_
    refine g_X_0_now hC hP mw_202 dX3_undo_23 ?_
    refine g_X_1_day hC hP mw_268 dX3_undo_26 ?_
    exact wl_iret hC hr hlk hm rfl hP hD hS dX3_undo_29
  · have hm := hm.trans (if_neg c1)
    refine lv_aload_n hx hb dX3_undo_10 rfl (lv_at hl 0 rfl) ?_
    refine wl_callVi hC (c_X3_refuseNo  ) lk_RX3_113 rfl ⟨rfl, rfl, Nat.le_of_ble_eq_true rfl, Nat.le_of_ble_eq_true rfl⟩ hP hD hS hA 0 rfl (T1 := 11) rfl hl.1 rfl (Nat.le_of_ble_eq_true rfl) dX3_undo_11 ⟨Nat.zero_le _, Nat.zero_le _⟩ (fun z3 hz3 H locs hP hD hS => ?_)
    have hm := wl_bz hm hz3
    exact wl_iret hC hr hlk hm rfl hP hD hS dX3_undo_14
set_option maxHeartbeats 4000000 in
set_option maxRecDepth 100000 in
theorem c_X1_startWalk__X_1_23 {l : Launch} {D : va_G} {E : Nat → ClassId} {a : Nat → Nat} {fabove : Int64} {fbelow : Int64} {rbad : Int32} {rno : Int32} {rfull : Int32} {counts0 : Int32} {people0 : Nat} {day0 : Int32} {listed0 : Int32} {followed0 : Int32} {struck0 : Int32} {noted0 : Nat} {undoable0 : Nat} {kinds0 : (Nat → Int32)} {tempers0 : (Nat → Int32)} {notes0 : (Nat → Int32)} {past0 : (Nat → Int32)} {counts1 : Int32} {people1 : Nat} {day1 : Int32} {listed1 : Int32} {followed1 : Int32} {struck1 : Int32} {noted1 : Nat} {undoable1 : Nat} {kinds1 : (Nat → Int32)} {tempers1 : (Nat → Int32)} {notes1 : (Nat → Int32)} {past1 : (Nat → Int32)} {counts2 : Int32} {people2 : Nat} {day2 : Int32} {listed2 : Int32} {followed2 : Int32} {struck2 : Int32} {noted2 : Nat} {undoable2 : Nat} {kinds2 : (Nat → Int32)} {tempers2 : (Nat → Int32)} {notes2 : (Nat → Int32)} {past2 : (Nat → Int32)} {counts3 : Int32} {people3 : Nat} {day3 : Int32} {listed3 : Int32} {followed3 : Int32} {struck3 : Int32} {noted3 : Nat} {undoable3 : Nat} {kinds3 : (Nat → Int32)} {tempers3 : (Nat → Int32)} {notes3 : (Nat → Int32)} {past3 : (Nat → Int32)} {keptz : (Nat → Int32)} {wkind : Int32} {wtemper : Int32} {wcounts : Int32} {wday : Int32} {wlisted : Bool} {wfollowed : Bool} {xlength : Nat} {xstart : Nat} {xbehind : Nat} {xsort : Int32} {xnumber : Int32} {xbytes : (Nat → Int32)} {p : Nat} (hp : p < 7) : wl_Met (τ := Int32 × Int32 × Int32 × Int32 × Bool × Bool) l D E yX1_startWalk cX1_startWalk 3 none ({ frames := 1, cells := 0, slots := 0, locals := 21 } : Room) [.ref (a 1), .ref (a 23), .int (nI p)] (wX E a fabove fbelow rbad rno rfull counts0 people0 day0 listed0 followed0 struck0 noted0 undoable0 kinds0 tempers0 notes0 past0 counts1 people1 day1 listed1 followed1 struck1 noted1 undoable1 kinds1 tempers1 notes1 past1 counts2 people2 day2 listed2 followed2 struck2 noted2 undoable2 kinds2 tempers2 notes2 past2 counts3 people3 day3 listed3 followed3 struck3 noted3 undoable3 kinds3 tempers3 notes3 past3 keptz wkind wtemper wcounts wday wlisted wfollowed xlength xstart xbehind xsort xnumber xbytes) (fun _ => none) (fun z => (wX E a fabove fbelow rbad rno rfull counts0 people0 day0 listed0 followed0 struck0 noted0 undoable0 kinds0 tempers0 notes0 past0 counts1 people1 day1 listed1 followed1 struck1 noted1 undoable1 kinds1 tempers1 notes1 past1 counts2 people2 day2 listed2 followed2 struck2 noted2 undoable2 kinds2 tempers2 notes2 past2 counts3 people3 day3 listed3 followed3 struck3 noted3 undoable3 kinds3 tempers3 notes3 past3 keptz z.1 z.2.1 z.2.2.1 z.2.2.2.1 z.2.2.2.2.1 z.2.2.2.2.2 xlength xstart xbehind xsort xnumber xbytes)) (m_X1_startWalk counts0 day0 listed0 followed0 kinds0 tempers0 p) :=
  wl_lift (c_X1_startWalk (a := (fun k => a ([1, 2, 3, 4, 5, 23].getD k 0))) (counts := counts0) (people := people0) (day := day0) (listed := listed0) (followed := followed0) (struck := struck0) (noted := noted0) (undoable := undoable0) (kinds := kinds0) (tempers := tempers0) (notes := notes0) (past := past0) (wkind := wkind) (wtemper := wtemper) (wcounts := wcounts) (wday := wday) (wlisted := wlisted) (wfollowed := wfollowed) (p := p) hp) [1, 2, 3, 4, 5, 23] [0, 6, 7, 8, 9, 10, 11, 12, 13, 14, 15, 16, 17, 18, 19, 20, 21, 22, 24, 25] [0, 20, 21, 22, 23, 24, 1, 2, 3, 4, 5, 6, 7, 8, 9, 10, 11, 12, 13, 14, 15, 16, 17, 25, 18, 19] (wr := ([0, 6, 7, 8, 9, 10, 11, 12, 13, 14, 15, 16, 17, 18, 19, 20, 21, 22, 24, 25].filterMap (fun i => (wX E a fabove fbelow rbad rno rfull counts0 people0 day0 listed0 followed0 struck0 noted0 undoable0 kinds0 tempers0 notes0 past0 counts1 people1 day1 listed1 followed1 struck1 noted1 undoable1 kinds1 tempers1 notes1 past1 counts2 people2 day2 listed2 followed2 struck2 noted2 undoable2 kinds2 tempers2 notes2 past2 counts3 people3 day3 listed3 followed3 struck3 noted3 undoable3 kinds3 tempers3 notes3 past3 keptz wkind wtemper wcounts wday wlisted wfollowed xlength xstart xbehind xsort xnumber xbytes)[i]?))) rfl rfl (by decide) (by decide) (by decide) (by decide) (fun _ => rfl)
set_option maxHeartbeats 4000000 in
set_option maxRecDepth 100000 in
theorem c_X2_actOfDay__X_23 {l : Launch} {D : va_G} {E : Nat → ClassId} {a : Nat → Nat} {fabove : Int64} {fbelow : Int64} {rbad : Int32} {rno : Int32} {rfull : Int32} {counts0 : Int32} {people0 : Nat} {day0 : Int32} {listed0 : Int32} {followed0 : Int32} {struck0 : Int32} {noted0 : Nat} {undoable0 : Nat} {kinds0 : (Nat → Int32)} {tempers0 : (Nat → Int32)} {notes0 : (Nat → Int32)} {past0 : (Nat → Int32)} {counts1 : Int32} {people1 : Nat} {day1 : Int32} {listed1 : Int32} {followed1 : Int32} {struck1 : Int32} {noted1 : Nat} {undoable1 : Nat} {kinds1 : (Nat → Int32)} {tempers1 : (Nat → Int32)} {notes1 : (Nat → Int32)} {past1 : (Nat → Int32)} {counts2 : Int32} {people2 : Nat} {day2 : Int32} {listed2 : Int32} {followed2 : Int32} {struck2 : Int32} {noted2 : Nat} {undoable2 : Nat} {kinds2 : (Nat → Int32)} {tempers2 : (Nat → Int32)} {notes2 : (Nat → Int32)} {past2 : (Nat → Int32)} {counts3 : Int32} {people3 : Nat} {day3 : Int32} {listed3 : Int32} {followed3 : Int32} {struck3 : Int32} {noted3 : Nat} {undoable3 : Nat} {kinds3 : (Nat → Int32)} {tempers3 : (Nat → Int32)} {notes3 : (Nat → Int32)} {past3 : (Nat → Int32)} {keptz : (Nat → Int32)} {wkind : Int32} {wtemper : Int32} {wcounts : Int32} {wday : Int32} {wlisted : Bool} {wfollowed : Bool} {xlength : Nat} {xstart : Nat} {xbehind : Nat} {xsort : Int32} {xnumber : Int32} {xbytes : (Nat → Int32)}  : wl_Met (τ := Int32) l D E yX2_actOfDay cX2_actOfDay 1 (some .int) ({ frames := 2, cells := 0, slots := 0, locals := 50 } : Room) [.ref (a 23)] (wX E a fabove fbelow rbad rno rfull counts0 people0 day0 listed0 followed0 struck0 noted0 undoable0 kinds0 tempers0 notes0 past0 counts1 people1 day1 listed1 followed1 struck1 noted1 undoable1 kinds1 tempers1 notes1 past1 counts2 people2 day2 listed2 followed2 struck2 noted2 undoable2 kinds2 tempers2 notes2 past2 counts3 people3 day3 listed3 followed3 struck3 noted3 undoable3 kinds3 tempers3 notes3 past3 keptz wkind wtemper wcounts wday wlisted wfollowed xlength xstart xbehind xsort xnumber xbytes) (fun z => some (.int z)) (fun _ => (wX E a fabove fbelow rbad rno rfull counts0 people0 day0 listed0 followed0 struck0 noted0 undoable0 kinds0 tempers0 notes0 past0 counts1 people1 day1 listed1 followed1 struck1 noted1 undoable1 kinds1 tempers1 notes1 past1 counts2 people2 day2 listed2 followed2 struck2 noted2 undoable2 kinds2 tempers2 notes2 past2 counts3 people3 day3 listed3 followed3 struck3 noted3 undoable3 kinds3 tempers3 notes3 past3 keptz wkind wtemper wcounts wday wlisted wfollowed xlength xstart xbehind xsort xnumber xbytes)) (m_X2_actOfDay wkind wtemper wday wfollowed) :=
  wl_lift (c_X2_actOfDay (a := (fun k => a ([23].getD k 0))) (wkind := wkind) (wtemper := wtemper) (wcounts := wcounts) (wday := wday) (wlisted := wlisted) (wfollowed := wfollowed)  ) [23] [0, 1, 2, 3, 4, 5, 6, 7, 8, 9, 10, 11, 12, 13, 14, 15, 16, 17, 18, 19, 20, 21, 22, 24, 25] [0, 1, 2, 3, 4, 5, 6, 7, 8, 9, 10, 11, 12, 13, 14, 15, 16, 17, 18, 19, 20, 21, 22, 25, 23, 24] (wr := ([0, 1, 2, 3, 4, 5, 6, 7, 8, 9, 10, 11, 12, 13, 14, 15, 16, 17, 18, 19, 20, 21, 22, 24, 25].filterMap (fun i => (wX E a fabove fbelow rbad rno rfull counts0 people0 day0 listed0 followed0 struck0 noted0 undoable0 kinds0 tempers0 notes0 past0 counts1 people1 day1 listed1 followed1 struck1 noted1 undoable1 kinds1 tempers1 notes1 past1 counts2 people2 day2 listed2 followed2 struck2 noted2 undoable2 kinds2 tempers2 notes2 past2 counts3 people3 day3 listed3 followed3 struck3 noted3 undoable3 kinds3 tempers3 notes3 past3 keptz wkind wtemper wcounts wday wlisted wfollowed xlength xstart xbehind xsort xnumber xbytes)[i]?))) rfl rfl (by decide) (by decide) (by decide) (by decide) (fun _ => rfl)
def m_X3_actToday (counts0 : Int32) (day0 : Int32) (listed0 : Int32) (followed0 : Int32) (kinds0 : (Nat → Int32)) (tempers0 : (Nat → Int32)) (p : Nat) : Int32 × Int32 × Int32 × Int32 × Int32 × Bool × Bool := (wl_bnd (m_X1_startWalk counts0 day0 listed0 followed0 kinds0 tempers0 p) (fun z1 => (wl_bnd (m_X2_actOfDay z1.1 z1.2.1 z1.2.2.2.1 z1.2.2.2.2.2) (fun z2 => (z2, z1.1, z1.2.1, z1.2.2.1, z1.2.2.2.1, z1.2.2.2.2.1, z1.2.2.2.2.2)))))
set_option maxHeartbeats 4000000 in
set_option maxRecDepth 100000 in
theorem c_X3_actToday {l : Launch} {D : va_G} {E : Nat → ClassId} {a : Nat → Nat} {fabove : Int64} {fbelow : Int64} {rbad : Int32} {rno : Int32} {rfull : Int32} {counts0 : Int32} {people0 : Nat} {day0 : Int32} {listed0 : Int32} {followed0 : Int32} {struck0 : Int32} {noted0 : Nat} {undoable0 : Nat} {kinds0 : (Nat → Int32)} {tempers0 : (Nat → Int32)} {notes0 : (Nat → Int32)} {past0 : (Nat → Int32)} {counts1 : Int32} {people1 : Nat} {day1 : Int32} {listed1 : Int32} {followed1 : Int32} {struck1 : Int32} {noted1 : Nat} {undoable1 : Nat} {kinds1 : (Nat → Int32)} {tempers1 : (Nat → Int32)} {notes1 : (Nat → Int32)} {past1 : (Nat → Int32)} {counts2 : Int32} {people2 : Nat} {day2 : Int32} {listed2 : Int32} {followed2 : Int32} {struck2 : Int32} {noted2 : Nat} {undoable2 : Nat} {kinds2 : (Nat → Int32)} {tempers2 : (Nat → Int32)} {notes2 : (Nat → Int32)} {past2 : (Nat → Int32)} {counts3 : Int32} {people3 : Nat} {day3 : Int32} {listed3 : Int32} {followed3 : Int32} {struck3 : Int32} {noted3 : Nat} {undoable3 : Nat} {kinds3 : (Nat → Int32)} {tempers3 : (Nat → Int32)} {notes3 : (Nat → Int32)} {past3 : (Nat → Int32)} {keptz : (Nat → Int32)} {wkind : Int32} {wtemper : Int32} {wcounts : Int32} {wday : Int32} {wlisted : Bool} {wfollowed : Bool} {xlength : Nat} {xstart : Nat} {xbehind : Nat} {xsort : Int32} {xnumber : Int32} {xbytes : (Nat → Int32)} {p : Nat} (hp : p < 7) : wl_Met (τ := Int32 × Int32 × Int32 × Int32 × Int32 × Bool × Bool) l D E yX3_actToday cX3_actToday 2 (some .int) ({ frames := 3, cells := 0, slots := 0, locals := 70 } : Room) [.ref (a 0), .int (nI p)] (wX E a fabove fbelow rbad rno rfull counts0 people0 day0 listed0 followed0 struck0 noted0 undoable0 kinds0 tempers0 notes0 past0 counts1 people1 day1 listed1 followed1 struck1 noted1 undoable1 kinds1 tempers1 notes1 past1 counts2 people2 day2 listed2 followed2 struck2 noted2 undoable2 kinds2 tempers2 notes2 past2 counts3 people3 day3 listed3 followed3 struck3 noted3 undoable3 kinds3 tempers3 notes3 past3 keptz wkind wtemper wcounts wday wlisted wfollowed xlength xstart xbehind xsort xnumber xbytes) (fun z => some (.int z.1)) (fun z => (wX E a fabove fbelow rbad rno rfull counts0 people0 day0 listed0 followed0 struck0 noted0 undoable0 kinds0 tempers0 notes0 past0 counts1 people1 day1 listed1 followed1 struck1 noted1 undoable1 kinds1 tempers1 notes1 past1 counts2 people2 day2 listed2 followed2 struck2 noted2 undoable2 kinds2 tempers2 notes2 past2 counts3 people3 day3 listed3 followed3 struck3 noted3 undoable3 kinds3 tempers3 notes3 past3 keptz z.2.1 z.2.2.1 z.2.2.2.1 z.2.2.2.2.1 z.2.2.2.2.2.1 z.2.2.2.2.2.2 xlength xstart xbehind xsort xnumber xbytes)) (m_X3_actToday counts0 day0 listed0 followed0 kinds0 tempers0 p) := by
  refine wl_enter (own := RX3) (by decide +kernel) rfl (Nat.le_of_ble_eq_true rfl) ?_
  intro p0 e0 s0 m0 bl0 mt0 c0 A hC hr hlk hA H locs hP hD hS ls hl
  have hx := hC.1
  have hb := hC.2.1
  have hl : lv_has ls 2 [(0, .ref (a 0)), (1, .int (nI p))] := hl
  have hm := m_X3_actToday.eq_1 counts0 day0 listed0 followed0 kinds0 tempers0 p
  refine lv_aload_n hx hb dX3_actToday_0 rfl (lv_at hl 0 rfl) ?_
  refine g_X_0_now hC hP mw_202 dX3_actToday_1 ?_
  refine lv_aload_n hx hb dX3_actToday_4 rfl (lv_at hl 0 rfl) ?_
  refine g_X_0_walk hC hP mw_209 dX3_actToday_5 ?_
  refine lv_iload_n hx hb dX3_actToday_8 rfl (lv_at hl 1 rfl) ?_
  refine wl_callVv hC (c_X1_startWalk__X_1_23 (p := p) (by first | assumption | omega)) lk_RX3_132 rfl ⟨rfl, rfl, Nat.le_of_ble_eq_true rfl, Nat.le_of_ble_eq_true rfl⟩ hP hD hS hA 1 rfl (T1 := 12) rfl hl.1 rfl (Nat.le_of_ble_eq_true rfl) dX3_actToday_9 ⟨Nat.zero_le _, Nat.zero_le _⟩ (fun z1 hz1 H locs hP hD hS => ?_)
  have hm := wl_bz hm hz1
  refine lv_aload_n hx hb dX3_actToday_12 rfl (lv_at hl 0 rfl) ?_
  refine g_X_0_walk hC hP mw_209 dX3_actToday_13 ?_
  refine wl_callVi hC (c_X2_actOfDay__X_23  ) lk_RX3_139 rfl ⟨rfl, rfl, Nat.le_of_ble_eq_true rfl, Nat.le_of_ble_eq_true rfl⟩ hP hD hS hA 23 rfl (T1 := 6) rfl hl.1 rfl (Nat.le_of_ble_eq_true rfl) dX3_actToday_16 ⟨Nat.zero_le _, Nat.zero_le _⟩ (fun z2 hz2 H locs hP hD hS => ?_)
  have hm := wl_bz hm hz2
  exact wl_iret hC hr hlk hm rfl hP hD hS dX3_actToday_19
def m_X3_of (rbad : Int32) (counts0 : Int32) (people0 : Nat) (day0 : Int32) (listed0 : Int32) (followed0 : Int32) (kinds0 : (Nat → Int32)) (tempers0 : (Nat → Int32)) (wkind : Int32) (wtemper : Int32) (wcounts : Int32) (wday : Int32) (wlisted : Bool) (wfollowed : Bool) (p : Int32) (what : Int32) : Int32 × Int32 × Int32 × Int32 × Int32 × Int32 × Bool × Bool := (wl_bnd (m_X3_isThere people0 p) (fun z1 => (if z1 = true then (wl_bnd (m_X3_isWithin what (nI 0) (nI 4)) (fun z5 => (if z5 = true then (if what = nI 0 then ((kinds0 (cl p)), rbad, wkind, wtemper, wcounts, wday, wlisted, wfollowed) else (if what = nI 1 then ((tempers0 (cl p)), rbad, wkind, wtemper, wcounts, wday, wlisted, wfollowed) else (if what = nI 2 then (wl_bnd (m_X3_bitOf listed0 (cl p)) (fun z8 => (z8, rbad, wkind, wtemper, wcounts, wday, wlisted, wfollowed))) else (if what = nI 3 then (wl_bnd (m_X3_bitOf followed0 (cl p)) (fun z9 => (z9, rbad, wkind, wtemper, wcounts, wday, wlisted, wfollowed))) else (wl_bnd (m_X3_actToday counts0 day0 listed0 followed0 kinds0 tempers0 (cl p)) (fun z10 => (z10.1, rbad, z10.2.1, z10.2.2.1, z10.2.2.2.1, z10.2.2.2.2.1, z10.2.2.2.2.2.1, z10.2.2.2.2.2.2))))))) else (wl_bnd (m_X3_refuseBad rbad) (fun z11 => (z11.1, z11.2, wkind, wtemper, wcounts, wday, wlisted, wfollowed)))))) else (wl_bnd (m_X3_refuseBad rbad) (fun z3 => (z3.1, z3.2, wkind, wtemper, wcounts, wday, wlisted, wfollowed))))))
set_option maxHeartbeats 4000000 in
set_option maxRecDepth 100000 in
theorem c_X3_of {l : Launch} {D : va_G} {E : Nat → ClassId} {a : Nat → Nat} {fabove : Int64} {fbelow : Int64} {rbad : Int32} {rno : Int32} {rfull : Int32} {counts0 : Int32} {people0 : Nat} {day0 : Int32} {listed0 : Int32} {followed0 : Int32} {struck0 : Int32} {noted0 : Nat} {undoable0 : Nat} {kinds0 : (Nat → Int32)} {tempers0 : (Nat → Int32)} {notes0 : (Nat → Int32)} {past0 : (Nat → Int32)} {counts1 : Int32} {people1 : Nat} {day1 : Int32} {listed1 : Int32} {followed1 : Int32} {struck1 : Int32} {noted1 : Nat} {undoable1 : Nat} {kinds1 : (Nat → Int32)} {tempers1 : (Nat → Int32)} {notes1 : (Nat → Int32)} {past1 : (Nat → Int32)} {counts2 : Int32} {people2 : Nat} {day2 : Int32} {listed2 : Int32} {followed2 : Int32} {struck2 : Int32} {noted2 : Nat} {undoable2 : Nat} {kinds2 : (Nat → Int32)} {tempers2 : (Nat → Int32)} {notes2 : (Nat → Int32)} {past2 : (Nat → Int32)} {counts3 : Int32} {people3 : Nat} {day3 : Int32} {listed3 : Int32} {followed3 : Int32} {struck3 : Int32} {noted3 : Nat} {undoable3 : Nat} {kinds3 : (Nat → Int32)} {tempers3 : (Nat → Int32)} {notes3 : (Nat → Int32)} {past3 : (Nat → Int32)} {keptz : (Nat → Int32)} {wkind : Int32} {wtemper : Int32} {wcounts : Int32} {wday : Int32} {wlisted : Bool} {wfollowed : Bool} {xlength : Nat} {xstart : Nat} {xbehind : Nat} {xsort : Int32} {xnumber : Int32} {xbytes : (Nat → Int32)} {p : Int32} {what : Int32} (hP7 : people0 ≤ 7) : wl_Met (τ := Int32 × Int32 × Int32 × Int32 × Int32 × Int32 × Bool × Bool) l D E yX3_of cX3_of 3 (some .int) ({ frames := 4, cells := 0, slots := 0, locals := 91 } : Room) [.ref (a 0), .int p, .int what] (wX E a fabove fbelow rbad rno rfull counts0 people0 day0 listed0 followed0 struck0 noted0 undoable0 kinds0 tempers0 notes0 past0 counts1 people1 day1 listed1 followed1 struck1 noted1 undoable1 kinds1 tempers1 notes1 past1 counts2 people2 day2 listed2 followed2 struck2 noted2 undoable2 kinds2 tempers2 notes2 past2 counts3 people3 day3 listed3 followed3 struck3 noted3 undoable3 kinds3 tempers3 notes3 past3 keptz wkind wtemper wcounts wday wlisted wfollowed xlength xstart xbehind xsort xnumber xbytes) (fun z => some (.int z.1)) (fun z => (wX E a fabove fbelow z.2.1 rno rfull counts0 people0 day0 listed0 followed0 struck0 noted0 undoable0 kinds0 tempers0 notes0 past0 counts1 people1 day1 listed1 followed1 struck1 noted1 undoable1 kinds1 tempers1 notes1 past1 counts2 people2 day2 listed2 followed2 struck2 noted2 undoable2 kinds2 tempers2 notes2 past2 counts3 people3 day3 listed3 followed3 struck3 noted3 undoable3 kinds3 tempers3 notes3 past3 keptz z.2.2.1 z.2.2.2.1 z.2.2.2.2.1 z.2.2.2.2.2.1 z.2.2.2.2.2.2.1 z.2.2.2.2.2.2.2 xlength xstart xbehind xsort xnumber xbytes)) (m_X3_of rbad counts0 people0 day0 listed0 followed0 kinds0 tempers0 wkind wtemper wcounts wday wlisted wfollowed p what) := by
  refine wl_enter (own := RX3) (by decide +kernel) rfl (Nat.le_of_ble_eq_true rfl) ?_
  intro p0 e0 s0 m0 bl0 mt0 c0 A hC hr hlk hA H locs hP hD hS ls hl
  have hx := hC.1
  have hb := hC.2.1
  have hl : lv_has ls 3 [(0, .ref (a 0)), (1, .int p), (2, .int what)] := hl
  have hm := m_X3_of.eq_1 rbad counts0 people0 day0 listed0 followed0 kinds0 tempers0 wkind wtemper wcounts wday wlisted wfollowed p what
  refine lv_aload_n hx hb dX3_of_0 rfl (lv_at hl 0 rfl) ?_
  refine lv_iload_n hx hb dX3_of_1 rfl (lv_at hl 1 rfl) ?_
  refine wl_callVi hC (c_X3_isThere (p := p) ) lk_RX3_86 rfl ⟨rfl, rfl, Nat.le_of_ble_eq_true rfl, Nat.le_of_ble_eq_true rfl⟩ hP hD hS hA 0 rfl (T1 := 11) rfl hl.1 rfl (Nat.le_of_ble_eq_true rfl) dX3_of_2 ⟨Nat.zero_le _, Nat.zero_le _⟩ (fun z1 hz1 H locs hP hD hS => ?_)
  have hm := wl_bz hm hz1
  refine wl_if_eq_b hx hb (tgt := 17) dX3_of_5 (by decide) (fun c2 => ?_) (fun c2 => ?_)
  · have hm := hm.trans (if_neg c2)
    refine lv_aload_n hx hb dX3_of_17 rfl (lv_at hl 0 rfl) ?_
    refine wl_callVi hC (c_X3_refuseBad  ) lk_RX3_52 rfl ⟨rfl, rfl, Nat.le_of_ble_eq_true rfl, Nat.le_of_ble_eq_true rfl⟩ hP hD hS hA 0 rfl (T1 := 11) rfl hl.1 rfl (Nat.le_of_ble_eq_true rfl) dX3_of_18 ⟨Nat.zero_le _, Nat.zero_le _⟩ (fun z3 hz3 H locs hP hD hS => ?_)
    have hm := wl_bz hm hz3
    exact wl_iret hC hr hlk hm rfl hP hD hS dX3_of_21
  · have hm := hm.trans (if_pos c2)
    obtain ⟨ha4, hb4_⟩ := isThere_spec hP7 (hz1.symm.trans c2)
    have hl : lv_has ls 3 [(0, .ref (a 0)), (1, .int (nI (cl p))), (2, .int what)] := by rw [← ha4]; exact hl
    refine lv_iload_n hx hb dX3_of_8 rfl (lv_at hl 2 rfl) ?_
    refine lv_iconst (v := (nI 0)) hx hb dX3_of_9 (by decide +kernel) ?_
    refine lv_iconst (v := (nI 4)) hx hb dX3_of_10 (by decide +kernel) ?_
    refine wl_callPi hC (c_X3_isWithin (v := what) (least := (nI 0)) (most := (nI 4)) ) lk_RX3_48 rfl ⟨rfl, rfl, Nat.le_of_ble_eq_true rfl, Nat.le_of_ble_eq_true rfl⟩ hP hS hA hl.1 rfl (Nat.le_of_ble_eq_true rfl) dX3_of_11 ⟨Nat.zero_le _, Nat.zero_le _⟩ (fun z5 hz5 H locs hP hS => ?_)
    have hm := wl_bz hm hz5
    refine wl_if_ne_b hx hb (tgt := 22) dX3_of_14 (by decide) (fun c6 => ?_) (fun c6 => ?_)
    · have hm := hm.trans (if_pos c6)
      refine lv_iload_n hx hb dX3_of_22 rfl (lv_at hl 2 rfl) ?_
      refine (Decidable.em (what = nI 0)).elim (fun c7_0 => ?_) (fun c7_0 => ?_)
      · have hm := hm.trans (if_pos c7_0)
        refine lv_tableIn (off := 29) (tgt := 52) hx hb dX3_of_23 (by rw [c7_0]; decide +kernel) (by rw [c7_0]; decide +kernel) (by rw [c7_0]; decide +kernel) (by decide) ?_
        refine lv_aload_n hx hb dX3_of_52 rfl (lv_at hl 0 rfl) ?_
        refine g_X_0_now hC hP mw_202 dX3_of_53 ?_
        refine g_X_1_kinds hC hP mw_281 dX3_of_56 ?_
        refine lv_iload_n hx hb dX3_of_59 rfl (lv_at hl 1 rfl) ?_
        refine ld_X_2 hC hP (cl p) (by omega) dX3_of_60 ?_
        exact wl_iret hC hr hlk hm rfl hP hD hS dX3_of_61
      · have hm := hm.trans (if_neg c7_0)
        refine (Decidable.em (what = nI 1)).elim (fun c7_1 => ?_) (fun c7_1 => ?_)
        · have hm := hm.trans (if_pos c7_1)
          refine lv_tableIn (off := 39) (tgt := 62) hx hb dX3_of_23 (by rw [c7_1]; decide +kernel) (by rw [c7_1]; decide +kernel) (by rw [c7_1]; decide +kernel) (by decide) ?_
          refine lv_aload_n hx hb dX3_of_62 rfl (lv_at hl 0 rfl) ?_
          refine g_X_0_now hC hP mw_202 dX3_of_63 ?_
          refine g_X_1_tempers hC hP mw_282 dX3_of_66 ?_
          refine lv_iload_n hx hb dX3_of_69 rfl (lv_at hl 1 rfl) ?_
          refine ld_X_3 hC hP (cl p) (by omega) dX3_of_70 ?_
          exact wl_iret hC hr hlk hm rfl hP hD hS dX3_of_71
        · have hm := hm.trans (if_neg c7_1)
          refine (Decidable.em (what = nI 2)).elim (fun c7_2 => ?_) (fun c7_2 => ?_)
          · have hm := hm.trans (if_pos c7_2)
            refine lv_tableIn (off := 49) (tgt := 72) hx hb dX3_of_23 (by rw [c7_2]; decide +kernel) (by rw [c7_2]; decide +kernel) (by rw [c7_2]; decide +kernel) (by decide) ?_
            refine lv_aload_n hx hb dX3_of_72 rfl (lv_at hl 0 rfl) ?_
            refine g_X_0_now hC hP mw_202 dX3_of_73 ?_
            refine g_X_1_listed hC hP mw_249 dX3_of_76 ?_
            refine lv_iload_n hx hb dX3_of_79 rfl (lv_at hl 1 rfl) ?_
            refine wl_callPi hC (c_X3_bitOf (bits := listed0) (i := (cl p)) ) lk_RX3_93 rfl ⟨rfl, rfl, Nat.le_of_ble_eq_true rfl, Nat.le_of_ble_eq_true rfl⟩ hP hS hA hl.1 rfl (Nat.le_of_ble_eq_true rfl) dX3_of_80 ⟨Nat.zero_le _, Nat.zero_le _⟩ (fun z8 hz8 H locs hP hS => ?_)
            have hm := wl_bz hm hz8
            exact wl_iret hC hr hlk hm rfl hP hD hS dX3_of_83
          · have hm := hm.trans (if_neg c7_2)
            refine (Decidable.em (what = nI 3)).elim (fun c7_3 => ?_) (fun c7_3 => ?_)
            · have hm := hm.trans (if_pos c7_3)
              refine lv_tableIn (off := 61) (tgt := 84) hx hb dX3_of_23 (by rw [c7_3]; decide +kernel) (by rw [c7_3]; decide +kernel) (by rw [c7_3]; decide +kernel) (by decide) ?_
              refine lv_aload_n hx hb dX3_of_84 rfl (lv_at hl 0 rfl) ?_
              refine g_X_0_now hC hP mw_202 dX3_of_85 ?_
              refine g_X_1_followed hC hP mw_259 dX3_of_88 ?_
              refine lv_iload_n hx hb dX3_of_91 rfl (lv_at hl 1 rfl) ?_
              refine wl_callPi hC (c_X3_bitOf (bits := followed0) (i := (cl p)) ) lk_RX3_93 rfl ⟨rfl, rfl, Nat.le_of_ble_eq_true rfl, Nat.le_of_ble_eq_true rfl⟩ hP hS hA hl.1 rfl (Nat.le_of_ble_eq_true rfl) dX3_of_92 ⟨Nat.zero_le _, Nat.zero_le _⟩ (fun z9 hz9 H locs hP hS => ?_)
              have hm := wl_bz hm hz9
              exact wl_iret hC hr hlk hm rfl hP hD hS dX3_of_95
            · have hm := hm.trans (if_neg c7_3)
              refine lv_tableOut (tgt := 96) hx hb dX3_of_23 (wl_tab0_3 c7_0 c7_1 c7_2 c7_3) (by decide) ?_
              refine lv_aload_n hx hb dX3_of_96 rfl (lv_at hl 0 rfl) ?_
              refine lv_iload_n hx hb dX3_of_97 rfl (lv_at hl 1 rfl) ?_
              refine wl_callVi hC (c_X3_actToday (p := (cl p)) (by first | assumption | omega)) lk_RX3_129 rfl ⟨rfl, rfl, Nat.le_of_ble_eq_true rfl, Nat.le_of_ble_eq_true rfl⟩ hP hD hS hA 0 rfl (T1 := 11) rfl hl.1 rfl (Nat.le_of_ble_eq_true rfl) dX3_of_98 ⟨Nat.zero_le _, Nat.zero_le _⟩ (fun z10 hz10 H locs hP hD hS => ?_)
              have hm := wl_bz hm hz10
              exact wl_iret hC hr hlk hm rfl hP hD hS dX3_of_101
    · have hm := hm.trans (if_neg c6)
      refine lv_aload_n hx hb dX3_of_17 rfl (lv_at hl 0 rfl) ?_
      refine wl_callVi hC (c_X3_refuseBad  ) lk_RX3_52 rfl ⟨rfl, rfl, Nat.le_of_ble_eq_true rfl, Nat.le_of_ble_eq_true rfl⟩ hP hD hS hA 0 rfl (T1 := 11) rfl hl.1 rfl (Nat.le_of_ble_eq_true rfl) dX3_of_18 ⟨Nat.zero_le _, Nat.zero_le _⟩ (fun z11 hz11 H locs hP hD hS => ?_)
      have hm := wl_bz hm hz11
      exact wl_iret hC hr hlk hm rfl hP hD hS dX3_of_21
set_option maxHeartbeats 4000000 in
set_option maxRecDepth 100000 in
theorem c_X2_goBy__X_23 {l : Launch} {D : va_G} {E : Nat → ClassId} {a : Nat → Nat} {fabove : Int64} {fbelow : Int64} {rbad : Int32} {rno : Int32} {rfull : Int32} {counts0 : Int32} {people0 : Nat} {day0 : Int32} {listed0 : Int32} {followed0 : Int32} {struck0 : Int32} {noted0 : Nat} {undoable0 : Nat} {kinds0 : (Nat → Int32)} {tempers0 : (Nat → Int32)} {notes0 : (Nat → Int32)} {past0 : (Nat → Int32)} {counts1 : Int32} {people1 : Nat} {day1 : Int32} {listed1 : Int32} {followed1 : Int32} {struck1 : Int32} {noted1 : Nat} {undoable1 : Nat} {kinds1 : (Nat → Int32)} {tempers1 : (Nat → Int32)} {notes1 : (Nat → Int32)} {past1 : (Nat → Int32)} {counts2 : Int32} {people2 : Nat} {day2 : Int32} {listed2 : Int32} {followed2 : Int32} {struck2 : Int32} {noted2 : Nat} {undoable2 : Nat} {kinds2 : (Nat → Int32)} {tempers2 : (Nat → Int32)} {notes2 : (Nat → Int32)} {past2 : (Nat → Int32)} {counts3 : Int32} {people3 : Nat} {day3 : Int32} {listed3 : Int32} {followed3 : Int32} {struck3 : Int32} {noted3 : Nat} {undoable3 : Nat} {kinds3 : (Nat → Int32)} {tempers3 : (Nat → Int32)} {notes3 : (Nat → Int32)} {past3 : (Nat → Int32)} {keptz : (Nat → Int32)} {wkind : Int32} {wtemper : Int32} {wcounts : Int32} {wday : Int32} {wlisted : Bool} {wfollowed : Bool} {xlength : Nat} {xstart : Nat} {xbehind : Nat} {xsort : Int32} {xnumber : Int32} {xbytes : (Nat → Int32)}  : wl_Met (τ := Bool × Int32 × Int32 × Bool × Bool) l D E yX2_goBy cX2_goBy 3 (some .boolean) ({ frames := 3, cells := 0, slots := 0, locals := 70 } : Room) [.ref (a 23)] (wX E a fabove fbelow rbad rno rfull counts0 people0 day0 listed0 followed0 struck0 noted0 undoable0 kinds0 tempers0 notes0 past0 counts1 people1 day1 listed1 followed1 struck1 noted1 undoable1 kinds1 tempers1 notes1 past1 counts2 people2 day2 listed2 followed2 struck2 noted2 undoable2 kinds2 tempers2 notes2 past2 counts3 people3 day3 listed3 followed3 struck3 noted3 undoable3 kinds3 tempers3 notes3 past3 keptz wkind wtemper wcounts wday wlisted wfollowed xlength xstart xbehind xsort xnumber xbytes) (fun z => some (.int (wl_b z.1))) (fun z => (wX E a fabove fbelow rbad rno rfull counts0 people0 day0 listed0 followed0 struck0 noted0 undoable0 kinds0 tempers0 notes0 past0 counts1 people1 day1 listed1 followed1 struck1 noted1 undoable1 kinds1 tempers1 notes1 past1 counts2 people2 day2 listed2 followed2 struck2 noted2 undoable2 kinds2 tempers2 notes2 past2 counts3 people3 day3 listed3 followed3 struck3 noted3 undoable3 kinds3 tempers3 notes3 past3 keptz wkind z.2.1 wcounts z.2.2.1 z.2.2.2.1 z.2.2.2.2 xlength xstart xbehind xsort xnumber xbytes)) (m_X2_goBy wkind wtemper wcounts wday wlisted wfollowed) :=
  wl_lift (c_X2_goBy (a := (fun k => a ([23].getD k 0))) (wkind := wkind) (wtemper := wtemper) (wcounts := wcounts) (wday := wday) (wlisted := wlisted) (wfollowed := wfollowed)  ) [23] [0, 1, 2, 3, 4, 5, 6, 7, 8, 9, 10, 11, 12, 13, 14, 15, 16, 17, 18, 19, 20, 21, 22, 24, 25] [0, 1, 2, 3, 4, 5, 6, 7, 8, 9, 10, 11, 12, 13, 14, 15, 16, 17, 18, 19, 20, 21, 22, 25, 23, 24] (wr := ([0, 1, 2, 3, 4, 5, 6, 7, 8, 9, 10, 11, 12, 13, 14, 15, 16, 17, 18, 19, 20, 21, 22, 24, 25].filterMap (fun i => (wX E a fabove fbelow rbad rno rfull counts0 people0 day0 listed0 followed0 struck0 noted0 undoable0 kinds0 tempers0 notes0 past0 counts1 people1 day1 listed1 followed1 struck1 noted1 undoable1 kinds1 tempers1 notes1 past1 counts2 people2 day2 listed2 followed2 struck2 noted2 undoable2 kinds2 tempers2 notes2 past2 counts3 people3 day3 listed3 followed3 struck3 noted3 undoable3 kinds3 tempers3 notes3 past3 keptz wkind wtemper wcounts wday wlisted wfollowed xlength xstart xbehind xsort xnumber xbytes)[i]?))) rfl rfl (by decide) (by decide) (by decide) (by decide) (fun _ => rfl)
def m_X3_then_l47 (z11 : Int32 × Int32 × Int32 × Int32 × Bool × Bool) (k12 : Nat) (v12 : Int32 × Int32 × Bool × Bool) : Int32 × Int32 × Bool × Bool := (wl_bnd (m_X2_goBy z11.1 v12.1 z11.2.2.1 v12.2.1 v12.2.2.1 v12.2.2.2) (fun z14 => (z14.2.1, z14.2.2.1, z14.2.2.2.1, z14.2.2.2.2)))
def m_X3_then (rbad : Int32) (counts0 : Int32) (people0 : Nat) (day0 : Int32) (listed0 : Int32) (followed0 : Int32) (kinds0 : (Nat → Int32)) (tempers0 : (Nat → Int32)) (wkind : Int32) (wtemper : Int32) (wcounts : Int32) (wday : Int32) (wlisted : Bool) (wfollowed : Bool) (p : Int32) (m : Int32) (what : Int32) : Int32 × Int32 × Int32 × Int32 × Int32 × Int32 × Bool × Bool := (wl_bnd (m_X3_isThere people0 p) (fun z1 => (if z1 = true then (wl_bnd (m_X3_isWithin m (nI 0) (nI 60)) (fun z5 => (if z5 = true then (wl_bnd (m_X3_isWithin what (nI 0) (nI 1)) (fun z9 => (if z9 = true then (wl_bnd (m_X1_startWalk counts0 day0 listed0 followed0 kinds0 tempers0 (cl p)) (fun z11 => (wl_bnd (wl_iter (m_X3_then_l47 z11) (cl m) 0 (z11.2.1, z11.2.2.2.1, z11.2.2.2.2.1, z11.2.2.2.2.2)) (fun z12 => (if what = 0 then (wl_bnd (m_X2_actOfDay z11.1 z12.1 z12.2.1 z12.2.2.2) (fun z17 => (z17, rbad, z11.1, z12.1, z11.2.2.1, z12.2.1, z12.2.2.1, z12.2.2.2))) else (z12.1, rbad, z11.1, z12.1, z11.2.2.1, z12.2.1, z12.2.2.1, z12.2.2.2)))))) else (wl_bnd (m_X3_refuseBad rbad) (fun z18 => (z18.1, z18.2, wkind, wtemper, wcounts, wday, wlisted, wfollowed)))))) else (wl_bnd (m_X3_refuseBad rbad) (fun z7 => (z7.1, z7.2, wkind, wtemper, wcounts, wday, wlisted, wfollowed)))))) else (wl_bnd (m_X3_refuseBad rbad) (fun z3 => (z3.1, z3.2, wkind, wtemper, wcounts, wday, wlisted, wfollowed))))))
set_option maxHeartbeats 4000000 in
set_option maxRecDepth 100000 in
theorem c_X3_then {l : Launch} {D : va_G} {E : Nat → ClassId} {a : Nat → Nat} {fabove : Int64} {fbelow : Int64} {rbad : Int32} {rno : Int32} {rfull : Int32} {counts0 : Int32} {people0 : Nat} {day0 : Int32} {listed0 : Int32} {followed0 : Int32} {struck0 : Int32} {noted0 : Nat} {undoable0 : Nat} {kinds0 : (Nat → Int32)} {tempers0 : (Nat → Int32)} {notes0 : (Nat → Int32)} {past0 : (Nat → Int32)} {counts1 : Int32} {people1 : Nat} {day1 : Int32} {listed1 : Int32} {followed1 : Int32} {struck1 : Int32} {noted1 : Nat} {undoable1 : Nat} {kinds1 : (Nat → Int32)} {tempers1 : (Nat → Int32)} {notes1 : (Nat → Int32)} {past1 : (Nat → Int32)} {counts2 : Int32} {people2 : Nat} {day2 : Int32} {listed2 : Int32} {followed2 : Int32} {struck2 : Int32} {noted2 : Nat} {undoable2 : Nat} {kinds2 : (Nat → Int32)} {tempers2 : (Nat → Int32)} {notes2 : (Nat → Int32)} {past2 : (Nat → Int32)} {counts3 : Int32} {people3 : Nat} {day3 : Int32} {listed3 : Int32} {followed3 : Int32} {struck3 : Int32} {noted3 : Nat} {undoable3 : Nat} {kinds3 : (Nat → Int32)} {tempers3 : (Nat → Int32)} {notes3 : (Nat → Int32)} {past3 : (Nat → Int32)} {keptz : (Nat → Int32)} {wkind : Int32} {wtemper : Int32} {wcounts : Int32} {wday : Int32} {wlisted : Bool} {wfollowed : Bool} {xlength : Nat} {xstart : Nat} {xbehind : Nat} {xsort : Int32} {xnumber : Int32} {xbytes : (Nat → Int32)} {p : Int32} {m : Int32} {what : Int32} (hP7 : people0 ≤ 7) : wl_Met (τ := Int32 × Int32 × Int32 × Int32 × Int32 × Int32 × Bool × Bool) l D E yX3_then cX3_then 5 (some .int) ({ frames := 4, cells := 0, slots := 0, locals := 92 } : Room) [.ref (a 0), .int p, .int m, .int what] (wX E a fabove fbelow rbad rno rfull counts0 people0 day0 listed0 followed0 struck0 noted0 undoable0 kinds0 tempers0 notes0 past0 counts1 people1 day1 listed1 followed1 struck1 noted1 undoable1 kinds1 tempers1 notes1 past1 counts2 people2 day2 listed2 followed2 struck2 noted2 undoable2 kinds2 tempers2 notes2 past2 counts3 people3 day3 listed3 followed3 struck3 noted3 undoable3 kinds3 tempers3 notes3 past3 keptz wkind wtemper wcounts wday wlisted wfollowed xlength xstart xbehind xsort xnumber xbytes) (fun z => some (.int z.1)) (fun z => (wX E a fabove fbelow z.2.1 rno rfull counts0 people0 day0 listed0 followed0 struck0 noted0 undoable0 kinds0 tempers0 notes0 past0 counts1 people1 day1 listed1 followed1 struck1 noted1 undoable1 kinds1 tempers1 notes1 past1 counts2 people2 day2 listed2 followed2 struck2 noted2 undoable2 kinds2 tempers2 notes2 past2 counts3 people3 day3 listed3 followed3 struck3 noted3 undoable3 kinds3 tempers3 notes3 past3 keptz z.2.2.1 z.2.2.2.1 z.2.2.2.2.1 z.2.2.2.2.2.1 z.2.2.2.2.2.2.1 z.2.2.2.2.2.2.2 xlength xstart xbehind xsort xnumber xbytes)) (m_X3_then rbad counts0 people0 day0 listed0 followed0 kinds0 tempers0 wkind wtemper wcounts wday wlisted wfollowed p m what) := by
  refine wl_enter (own := RX3) (by decide +kernel) rfl (Nat.le_of_ble_eq_true rfl) ?_
  intro p0 e0 s0 m0 bl0 mt0 c0 A hC hr hlk hA H locs hP hD hS ls hl
  have hx := hC.1
  have hb := hC.2.1
  have hl : lv_has ls 5 [(0, .ref (a 0)), (1, .int p), (2, .int m), (3, .int what)] := hl
  have hm := m_X3_then.eq_1 rbad counts0 people0 day0 listed0 followed0 kinds0 tempers0 wkind wtemper wcounts wday wlisted wfollowed p m what
  refine lv_aload_n hx hb dX3_then_0 rfl (lv_at hl 0 rfl) ?_
  refine lv_iload_n hx hb dX3_then_1 rfl (lv_at hl 1 rfl) ?_
  refine wl_callVi hC (c_X3_isThere (p := p) ) lk_RX3_86 rfl ⟨rfl, rfl, Nat.le_of_ble_eq_true rfl, Nat.le_of_ble_eq_true rfl⟩ hP hD hS hA 0 rfl (T1 := 11) rfl hl.1 rfl (Nat.le_of_ble_eq_true rfl) dX3_then_2 ⟨Nat.zero_le _, Nat.zero_le _⟩ (fun z1 hz1 H locs hP hD hS => ?_)
  have hm := wl_bz hm hz1
  refine wl_if_eq_b hx hb (tgt := 27) dX3_then_5 (by decide) (fun c2 => ?_) (fun c2 => ?_)
  · have hm := hm.trans (if_neg c2)
    refine lv_aload_n hx hb dX3_then_27 rfl (lv_at hl 0 rfl) ?_
    refine wl_callVi hC (c_X3_refuseBad  ) lk_RX3_52 rfl ⟨rfl, rfl, Nat.le_of_ble_eq_true rfl, Nat.le_of_ble_eq_true rfl⟩ hP hD hS hA 0 rfl (T1 := 11) rfl hl.1 rfl (Nat.le_of_ble_eq_true rfl) dX3_then_28 ⟨Nat.zero_le _, Nat.zero_le _⟩ (fun z3 hz3 H locs hP hD hS => ?_)
    have hm := wl_bz hm hz3
    exact wl_iret hC hr hlk hm rfl hP hD hS dX3_then_31
  · have hm := hm.trans (if_pos c2)
    obtain ⟨ha4, hb4_⟩ := isThere_spec hP7 (hz1.symm.trans c2)
    have hl : lv_has ls 5 [(0, .ref (a 0)), (1, .int (nI (cl p))), (2, .int m), (3, .int what)] := by rw [← ha4]; exact hl
    refine lv_iload_n hx hb dX3_then_8 rfl (lv_at hl 2 rfl) ?_
    refine lv_iconst (v := (nI 0)) hx hb dX3_then_9 (by decide +kernel) ?_
    refine lv_bipush (v := (nI 60)) hx hb dX3_then_10 (by decide +kernel) ?_
    refine wl_callPi hC (c_X3_isWithin (v := m) (least := (nI 0)) (most := (nI 60)) ) lk_RX3_48 rfl ⟨rfl, rfl, Nat.le_of_ble_eq_true rfl, Nat.le_of_ble_eq_true rfl⟩ hP hS hA hl.1 rfl (Nat.le_of_ble_eq_true rfl) dX3_then_12 ⟨Nat.zero_le _, Nat.zero_le _⟩ (fun z5 hz5 H locs hP hS => ?_)
    have hm := wl_bz hm hz5
    refine wl_if_eq_b hx hb (tgt := 27) dX3_then_15 (by decide) (fun c6 => ?_) (fun c6 => ?_)
    · have hm := hm.trans (if_neg c6)
      refine lv_aload_n hx hb dX3_then_27 rfl (lv_at hl 0 rfl) ?_
      refine wl_callVi hC (c_X3_refuseBad  ) lk_RX3_52 rfl ⟨rfl, rfl, Nat.le_of_ble_eq_true rfl, Nat.le_of_ble_eq_true rfl⟩ hP hD hS hA 0 rfl (T1 := 11) rfl hl.1 rfl (Nat.le_of_ble_eq_true rfl) dX3_then_28 ⟨Nat.zero_le _, Nat.zero_le _⟩ (fun z7 hz7 H locs hP hD hS => ?_)
      have hm := wl_bz hm hz7
      exact wl_iret hC hr hlk hm rfl hP hD hS dX3_then_31
    · have hm := hm.trans (if_pos c6)
      obtain ⟨ha8, hb8_, hc8_⟩ := within_spec (a := 0) (b := 60) (by decide) (by decide) (hz5.symm.trans c6)
      have hl : lv_has ls 5 [(0, .ref (a 0)), (1, .int (nI (cl p))), (2, .int (nI (cl m))), (3, .int what)] := by rw [← ha8]; exact hl
      refine lv_iload_n hx hb dX3_then_18 rfl (lv_at hl 3 rfl) ?_
      refine lv_iconst (v := (nI 0)) hx hb dX3_then_19 (by decide +kernel) ?_
      refine lv_iconst (v := (nI 1)) hx hb dX3_then_20 (by decide +kernel) ?_
      refine wl_callPi hC (c_X3_isWithin (v := what) (least := (nI 0)) (most := (nI 1)) ) lk_RX3_48 rfl ⟨rfl, rfl, Nat.le_of_ble_eq_true rfl, Nat.le_of_ble_eq_true rfl⟩ hP hS hA hl.1 rfl (Nat.le_of_ble_eq_true rfl) dX3_then_21 ⟨Nat.zero_le _, Nat.zero_le _⟩ (fun z9 hz9 H locs hP hS => ?_)
      have hm := wl_bz hm hz9
      refine wl_if_ne_b hx hb (tgt := 32) dX3_then_24 (by decide) (fun c10 => ?_) (fun c10 => ?_)
      · have hm := hm.trans (if_pos c10)
        refine lv_aload_n hx hb dX3_then_32 rfl (lv_at hl 0 rfl) ?_
        refine g_X_0_now hC hP mw_202 dX3_then_33 ?_
        refine lv_aload_n hx hb dX3_then_36 rfl (lv_at hl 0 rfl) ?_
        refine g_X_0_walk hC hP mw_209 dX3_then_37 ?_
        refine lv_iload_n hx hb dX3_then_40 rfl (lv_at hl 1 rfl) ?_
        refine wl_callVv hC (c_X1_startWalk__X_1_23 (p := (cl p)) (by first | assumption | omega)) lk_RX3_132 rfl ⟨rfl, rfl, Nat.le_of_ble_eq_true rfl, Nat.le_of_ble_eq_true rfl⟩ hP hD hS hA 1 rfl (T1 := 12) rfl hl.1 rfl (Nat.le_of_ble_eq_true rfl) dX3_then_41 ⟨Nat.zero_le _, Nat.zero_le _⟩ (fun z11 hz11 H locs hP hD hS => ?_)
        have hm := wl_bz hm hz11
        refine lv_iconst (v := (nI 0)) hx hb dX3_then_44 (by decide +kernel) ?_
        refine lv_istore (lv' := [(4, .int (nI 0)), (0, .ref (a 0)), (1, .int (nI (cl p))), (2, .int (nI (cl m))), (3, .int what)]) hx hb dX3_then_45 hl (by decide) rfl (fun ls hl => ?_)
        obtain ⟨u12, hu12, hk12⟩ := wl_bx hm
        refine wl_for (D := D) (A := A) (H0 := s0.heap) (m_X3_then_l47 z11) (cl m) 0 (cl m) (z11.2.1, z11.2.2.2.1, z11.2.2.2.2.1, z11.2.2.2.2.2) 47 5 (fun k12 v12 => [(0, .ref (a 0)), (2, .int (nI (cl m))), (3, .int what), (4, .int (nI k12))]) (fun k12 v12 => (wX E a fabove fbelow rbad rno rfull counts0 people0 day0 listed0 followed0 struck0 noted0 undoable0 kinds0 tempers0 notes0 past0 counts1 people1 day1 listed1 followed1 struck1 noted1 undoable1 kinds1 tempers1 notes1 past1 counts2 people2 day2 listed2 followed2 struck2 noted2 undoable2 kinds2 tempers2 notes2 past2 counts3 people3 day3 listed3 followed3 struck3 noted3 undoable3 kinds3 tempers3 notes3 past3 keptz z11.1 v12.1 z11.2.2.1 v12.2.1 v12.2.2.1 v12.2.2.2 xlength xstart xbehind xsort xnumber xbytes)) (fun k12 v12 => True) (by omega) trivial ?_ ?_ hP hD hS (lv_sub hl [1, 3, 4, 0] rfl)
        · intro z12 hv12 hI12 ls H locs hP hD hS hl
          have hm := hk12 z12 (hu12.trans hv12)
          refine lv_iload hx hb dX3_then_47 (lv_at hl 3 rfl) ?_
          refine lv_iload_n hx hb dX3_then_49 rfl (lv_at hl 1 rfl) ?_
          refine wl_icmp_ge_n hx hb (by first | omega | exact Nat.lt_of_le_of_lt Nat.and_le_right (by omega) | exact Nat.pow_lt_pow_right (by omega) (by omega) | exact Nat.lt_trans (by assumption) (Nat.pow_lt_pow_right (by omega) (by omega))) (by first | omega | exact Nat.lt_of_le_of_lt Nat.and_le_right (by omega) | exact Nat.pow_lt_pow_right (by omega) (by omega) | exact Nat.lt_trans (by assumption) (Nat.pow_lt_pow_right (by omega) (by omega))) (tgt := 67) dX3_then_50 (by decide) (fun c15 => ?_) (fun c15 => absurd (by omega) c15)
          refine lv_iload_n hx hb dX3_then_67 rfl (lv_at hl 2 rfl) ?_
          refine lv_if_ne hx hb (tgt := 81) dX3_then_68 (by decide) (fun c16 => ?_) (fun c16 => ?_)
          · have hm := hm.trans (if_neg c16)
            refine lv_aload_n hx hb dX3_then_81 rfl (lv_at hl 0 rfl) ?_
            refine g_X_0_walk hC hP mw_209 dX3_then_82 ?_
            refine g_X_23_temper hC hP mw_287 dX3_then_85 ?_
            exact wl_iret hC hr hlk hm rfl hP hD hS dX3_then_88
          · have hm := hm.trans (if_pos c16)
            refine lv_aload_n hx hb dX3_then_71 rfl (lv_at hl 0 rfl) ?_
            refine g_X_0_walk hC hP mw_209 dX3_then_72 ?_
            refine wl_callVi hC (c_X2_actOfDay__X_23  ) lk_RX3_139 rfl ⟨rfl, rfl, Nat.le_of_ble_eq_true rfl, Nat.le_of_ble_eq_true rfl⟩ hP hD hS hA 23 rfl (T1 := 6) rfl hl.1 rfl (Nat.le_of_ble_eq_true rfl) dX3_then_75 ⟨Nat.zero_le _, Nat.zero_le _⟩ (fun z17 hz17 H locs hP hD hS => ?_)
            have hm := wl_bz hm hz17
            refine lv_goto (tgt := 88) hx hb dX3_then_78 (by decide) ?_
            exact wl_iret hC hr hlk hm rfl hP hD hS dX3_then_88
        · intro k12 v12 hlo12 hhi12 hI12 IH12 ls H locs hP hD hS hl
          have hb12 := m_X3_then_l47.eq_1 z11 k12 v12
          refine lv_iload hx hb dX3_then_47 (lv_at hl 3 rfl) ?_
          refine lv_iload_n hx hb dX3_then_49 rfl (lv_at hl 1 rfl) ?_
          refine wl_icmp_ge_n hx hb (by first | omega | exact Nat.lt_of_le_of_lt Nat.and_le_right (by omega) | exact Nat.pow_lt_pow_right (by omega) (by omega) | exact Nat.lt_trans (by assumption) (Nat.pow_lt_pow_right (by omega) (by omega))) (by first | omega | exact Nat.lt_of_le_of_lt Nat.and_le_right (by omega) | exact Nat.pow_lt_pow_right (by omega) (by omega) | exact Nat.lt_trans (by assumption) (Nat.pow_lt_pow_right (by omega) (by omega))) (tgt := 67) dX3_then_50 (by decide) (fun c13 => absurd c13 (by omega)) (fun c13 => ?_)
          refine lv_aload_n hx hb dX3_then_53 rfl (lv_at hl 0 rfl) ?_
          refine g_X_0_walk hC hP mw_209 dX3_then_54 ?_
          refine wl_callVi hC (c_X2_goBy__X_23  ) lk_RX3_136 rfl ⟨rfl, rfl, Nat.le_of_ble_eq_true rfl, Nat.le_of_ble_eq_true rfl⟩ hP hD hS hA 23 rfl (T1 := 6) rfl hl.1 rfl (Nat.le_of_ble_eq_true rfl) dX3_then_57 ⟨Nat.zero_le _, Nat.zero_le _⟩ (fun z14 hz14 H locs hP hD hS => ?_)
          have hb12 := wl_bz hb12 hz14
          refine lv_pop hx hb dX3_then_60 rfl ?_
          refine lv_iinc (v := (nI (k12 + 1))) (lv' := [(4, .int (nI (k12 + 1))), (0, .ref (a 0)), (2, .int (nI (cl m))), (3, .int what)]) hx hb dX3_then_61 hl (k := 3) rfl (wl_inc k12 1) (by decide) rfl (fun ls hl => ?_)
          refine lv_goto (tgt := 47) hx hb dX3_then_64 (by decide) ?_
          exact IH12 _ hb12 trivial ls H locs hP hD hS (lv_sub hl [1, 2, 3, 0] rfl)
      · have hm := hm.trans (if_neg c10)
        refine lv_aload_n hx hb dX3_then_27 rfl (lv_at hl 0 rfl) ?_
        refine wl_callVi hC (c_X3_refuseBad  ) lk_RX3_52 rfl ⟨rfl, rfl, Nat.le_of_ble_eq_true rfl, Nat.le_of_ble_eq_true rfl⟩ hP hD hS hA 0 rfl (T1 := 11) rfl hl.1 rfl (Nat.le_of_ble_eq_true rfl) dX3_then_28 ⟨Nat.zero_le _, Nat.zero_le _⟩ (fun z18 hz18 H locs hP hD hS => ?_)
        have hm := wl_bz hm hz18
        exact wl_iret hC hr hlk hm rfl hP hD hS dX3_then_31
def m_X3_when_l27 (rbad : Int32) (z4 : Int32 × Int32 × Int32 × Int32 × Bool × Bool) (v5 : Int32 × Int32 × Bool × Bool × Nat) : (Int32 × Int32 × Bool × Bool × Nat) ⊕ (Int32 × Int32 × Int32 × Int32 × Int32 × Int32 × Bool × Bool) := (if 60 < v5.2.2.2.2 then (Sum.inr ((-1), rbad, z4.1, v5.1, z4.2.2.1, v5.2.1, v5.2.2.1, v5.2.2.2.1)) else (wl_bnd (m_X2_goBy z4.1 v5.1 z4.2.2.1 v5.2.1 v5.2.2.1 v5.2.2.2.1) (fun z7 => (if z7.1 = true then (Sum.inr ((nI v5.2.2.2.2), rbad, z4.1, z7.2.1, z4.2.2.1, z7.2.2.1, z7.2.2.2.1, z7.2.2.2.2)) else (Sum.inl (z7.2.1, z7.2.2.1, z7.2.2.2.1, z7.2.2.2.2, (v5.2.2.2.2 + 1)))))))
def m_X3_when (rbad : Int32) (counts0 : Int32) (people0 : Nat) (day0 : Int32) (listed0 : Int32) (followed0 : Int32) (kinds0 : (Nat → Int32)) (tempers0 : (Nat → Int32)) (wkind : Int32) (wtemper : Int32) (wcounts : Int32) (wday : Int32) (wlisted : Bool) (wfollowed : Bool) (p : Int32) : Int32 × Int32 × Int32 × Int32 × Int32 × Int32 × Bool × Bool := (wl_bnd (m_X3_isThere people0 p) (fun z1 => (if z1 = true then (wl_bnd (m_X1_startWalk counts0 day0 listed0 followed0 kinds0 tempers0 (cl p)) (fun z4 => (wl_run (m_X3_when_l27 rbad z4) default 61 (z4.2.1, z4.2.2.2.1, z4.2.2.2.2.1, z4.2.2.2.2.2, 1)))) else (wl_bnd (m_X3_refuseBad rbad) (fun z9 => (z9.1, z9.2, wkind, wtemper, wcounts, wday, wlisted, wfollowed))))))
set_option maxHeartbeats 4000000 in
set_option maxRecDepth 100000 in
theorem c_X3_when {l : Launch} {D : va_G} {E : Nat → ClassId} {a : Nat → Nat} {fabove : Int64} {fbelow : Int64} {rbad : Int32} {rno : Int32} {rfull : Int32} {counts0 : Int32} {people0 : Nat} {day0 : Int32} {listed0 : Int32} {followed0 : Int32} {struck0 : Int32} {noted0 : Nat} {undoable0 : Nat} {kinds0 : (Nat → Int32)} {tempers0 : (Nat → Int32)} {notes0 : (Nat → Int32)} {past0 : (Nat → Int32)} {counts1 : Int32} {people1 : Nat} {day1 : Int32} {listed1 : Int32} {followed1 : Int32} {struck1 : Int32} {noted1 : Nat} {undoable1 : Nat} {kinds1 : (Nat → Int32)} {tempers1 : (Nat → Int32)} {notes1 : (Nat → Int32)} {past1 : (Nat → Int32)} {counts2 : Int32} {people2 : Nat} {day2 : Int32} {listed2 : Int32} {followed2 : Int32} {struck2 : Int32} {noted2 : Nat} {undoable2 : Nat} {kinds2 : (Nat → Int32)} {tempers2 : (Nat → Int32)} {notes2 : (Nat → Int32)} {past2 : (Nat → Int32)} {counts3 : Int32} {people3 : Nat} {day3 : Int32} {listed3 : Int32} {followed3 : Int32} {struck3 : Int32} {noted3 : Nat} {undoable3 : Nat} {kinds3 : (Nat → Int32)} {tempers3 : (Nat → Int32)} {notes3 : (Nat → Int32)} {past3 : (Nat → Int32)} {keptz : (Nat → Int32)} {wkind : Int32} {wtemper : Int32} {wcounts : Int32} {wday : Int32} {wlisted : Bool} {wfollowed : Bool} {xlength : Nat} {xstart : Nat} {xbehind : Nat} {xsort : Int32} {xnumber : Int32} {xbytes : (Nat → Int32)} {p : Int32} (hP7 : people0 ≤ 7) : wl_Met (τ := Int32 × Int32 × Int32 × Int32 × Int32 × Int32 × Bool × Bool) l D E yX3_when cX3_when 3 (some .int) ({ frames := 4, cells := 0, slots := 0, locals := 92 } : Room) [.ref (a 0), .int p] (wX E a fabove fbelow rbad rno rfull counts0 people0 day0 listed0 followed0 struck0 noted0 undoable0 kinds0 tempers0 notes0 past0 counts1 people1 day1 listed1 followed1 struck1 noted1 undoable1 kinds1 tempers1 notes1 past1 counts2 people2 day2 listed2 followed2 struck2 noted2 undoable2 kinds2 tempers2 notes2 past2 counts3 people3 day3 listed3 followed3 struck3 noted3 undoable3 kinds3 tempers3 notes3 past3 keptz wkind wtemper wcounts wday wlisted wfollowed xlength xstart xbehind xsort xnumber xbytes) (fun z => some (.int z.1)) (fun z => (wX E a fabove fbelow z.2.1 rno rfull counts0 people0 day0 listed0 followed0 struck0 noted0 undoable0 kinds0 tempers0 notes0 past0 counts1 people1 day1 listed1 followed1 struck1 noted1 undoable1 kinds1 tempers1 notes1 past1 counts2 people2 day2 listed2 followed2 struck2 noted2 undoable2 kinds2 tempers2 notes2 past2 counts3 people3 day3 listed3 followed3 struck3 noted3 undoable3 kinds3 tempers3 notes3 past3 keptz z.2.2.1 z.2.2.2.1 z.2.2.2.2.1 z.2.2.2.2.2.1 z.2.2.2.2.2.2.1 z.2.2.2.2.2.2.2 xlength xstart xbehind xsort xnumber xbytes)) (m_X3_when rbad counts0 people0 day0 listed0 followed0 kinds0 tempers0 wkind wtemper wcounts wday wlisted wfollowed p) := by
  refine wl_enter (own := RX3) (by decide +kernel) rfl (Nat.le_of_ble_eq_true rfl) ?_
  intro p0 e0 s0 m0 bl0 mt0 c0 A hC hr hlk hA H locs hP hD hS ls hl
  have hx := hC.1
  have hb := hC.2.1
  have hl : lv_has ls 3 [(0, .ref (a 0)), (1, .int p)] := hl
  have hm := m_X3_when.eq_1 rbad counts0 people0 day0 listed0 followed0 kinds0 tempers0 wkind wtemper wcounts wday wlisted wfollowed p
  refine lv_aload_n hx hb dX3_when_0 rfl (lv_at hl 0 rfl) ?_
  refine lv_iload_n hx hb dX3_when_1 rfl (lv_at hl 1 rfl) ?_
  refine wl_callVi hC (c_X3_isThere (p := p) ) lk_RX3_86 rfl ⟨rfl, rfl, Nat.le_of_ble_eq_true rfl, Nat.le_of_ble_eq_true rfl⟩ hP hD hS hA 0 rfl (T1 := 11) rfl hl.1 rfl (Nat.le_of_ble_eq_true rfl) dX3_when_2 ⟨Nat.zero_le _, Nat.zero_le _⟩ (fun z1 hz1 H locs hP hD hS => ?_)
  have hm := wl_bz hm hz1
  refine wl_if_ne_b hx hb (tgt := 13) dX3_when_5 (by decide) (fun c2 => ?_) (fun c2 => ?_)
  · have hm := hm.trans (if_pos c2)
    obtain ⟨ha3, hb3_⟩ := isThere_spec hP7 (hz1.symm.trans c2)
    have hl : lv_has ls 3 [(0, .ref (a 0)), (1, .int (nI (cl p)))] := by rw [← ha3]; exact hl
    refine lv_aload_n hx hb dX3_when_13 rfl (lv_at hl 0 rfl) ?_
    refine g_X_0_now hC hP mw_202 dX3_when_14 ?_
    refine lv_aload_n hx hb dX3_when_17 rfl (lv_at hl 0 rfl) ?_
    refine g_X_0_walk hC hP mw_209 dX3_when_18 ?_
    refine lv_iload_n hx hb dX3_when_21 rfl (lv_at hl 1 rfl) ?_
    refine wl_callVv hC (c_X1_startWalk__X_1_23 (p := (cl p)) (by first | assumption | omega)) lk_RX3_132 rfl ⟨rfl, rfl, Nat.le_of_ble_eq_true rfl, Nat.le_of_ble_eq_true rfl⟩ hP hD hS hA 1 rfl (T1 := 12) rfl hl.1 rfl (Nat.le_of_ble_eq_true rfl) dX3_when_22 ⟨Nat.zero_le _, Nat.zero_le _⟩ (fun z4 hz4 H locs hP hD hS => ?_)
    have hm := wl_bz hm hz4
    refine lv_iconst (v := (nI 1)) hx hb dX3_when_25 (by decide +kernel) ?_
    refine lv_istore_n (lv' := [(2, .int (nI 1)), (0, .ref (a 0)), (1, .int (nI (cl p)))]) hx hb dX3_when_26 rfl hl (by decide) rfl (fun ls hl => ?_)
    refine wl_while (D := D) (A := A) (H0 := s0.heap) (m_X3_when_l27 rbad z4) default 61 (z4.2.1, z4.2.2.2.1, z4.2.2.2.2.1, z4.2.2.2.2.2, 1) 27 3 (fun v5 => [(0, .ref (a 0)), (2, .int (nI v5.2.2.2.2))]) (fun v5 => (wX E a fabove fbelow rbad rno rfull counts0 people0 day0 listed0 followed0 struck0 noted0 undoable0 kinds0 tempers0 notes0 past0 counts1 people1 day1 listed1 followed1 struck1 noted1 undoable1 kinds1 tempers1 notes1 past1 counts2 people2 day2 listed2 followed2 struck2 noted2 undoable2 kinds2 tempers2 notes2 past2 counts3 people3 day3 listed3 followed3 struck3 noted3 undoable3 kinds3 tempers3 notes3 past3 keptz z4.1 v5.1 z4.2.2.1 v5.2.1 v5.2.2.1 v5.2.2.2.1 xlength xstart xbehind xsort xnumber xbytes)) (fun v5 => (v5.2.2.2.2 ≤ 61)) (fun v5 => 61 - v5.2.2.2.2) (by show 1 ≤ 61; omega) (by show 61 - 1 < 61; first | decide | omega) ?_ hP hD hS (lv_sub hl [1, 0] rfl)
    intro v5 hI5 EX5 IH5 ls H locs hP hD hS hl
    have i2 := hI5
    have hb5 := m_X3_when_l27.eq_1 rbad z4 v5
    refine lv_iload_n hx hb dX3_when_27 rfl (lv_at hl 1 rfl) ?_
    refine lv_bipush (v := (nI 60)) hx hb dX3_when_28 (by decide +kernel) ?_
    refine wl_icmp_gt_n hx hb (by first | omega | exact Nat.lt_of_le_of_lt Nat.and_le_right (by omega) | exact Nat.pow_lt_pow_right (by omega) (by omega) | exact Nat.lt_trans (by assumption) (Nat.pow_lt_pow_right (by omega) (by omega))) (by first | omega | exact Nat.lt_of_le_of_lt Nat.and_le_right (by omega) | exact Nat.pow_lt_pow_right (by omega) (by omega) | exact Nat.lt_trans (by assumption) (Nat.pow_lt_pow_right (by omega) (by omega))) (tgt := 51) dX3_when_30 (by decide) (fun c6 => ?_) (fun c6 => ?_)
    · have hb5 := hb5.trans (if_pos c6)
      refine lv_iconst (v := (-1)) hx hb dX3_when_51 (by decide +kernel) ?_
      exact wl_iret hC hr hlk (hm.trans (EX5 _ hb5)) rfl hP hD hS dX3_when_52
    · have hb5 := hb5.trans (if_neg c6)
      refine lv_aload_n hx hb dX3_when_33 rfl (lv_at hl 0 rfl) ?_
      refine g_X_0_walk hC hP mw_209 dX3_when_34 ?_
      refine wl_callVi hC (c_X2_goBy__X_23  ) lk_RX3_136 rfl ⟨rfl, rfl, Nat.le_of_ble_eq_true rfl, Nat.le_of_ble_eq_true rfl⟩ hP hD hS hA 23 rfl (T1 := 6) rfl hl.1 rfl (Nat.le_of_ble_eq_true rfl) dX3_when_37 ⟨Nat.zero_le _, Nat.zero_le _⟩ (fun z7 hz7 H locs hP hD hS => ?_)
      have hb5 := wl_bz hb5 hz7
      refine wl_if_eq_b hx hb (tgt := 45) dX3_when_40 (by decide) (fun c8 => ?_) (fun c8 => ?_)
      · have hb5 := hb5.trans (if_neg c8)
        refine lv_iinc (v := (nI (v5.2.2.2.2 + 1))) (lv' := [(2, .int (nI (v5.2.2.2.2 + 1))), (0, .ref (a 0))]) hx hb dX3_when_45 hl (k := 1) rfl (wl_inc v5.2.2.2.2 1) (by decide) rfl (fun ls hl => ?_)
        refine lv_goto (tgt := 27) hx hb dX3_when_48 (by decide) ?_
        exact IH5 _ hb5 (by show (v5.2.2.2.2 + 1) ≤ 61; omega) (by show 61 - (v5.2.2.2.2 + 1) < 61 - v5.2.2.2.2; omega) ls H locs hP hD hS (lv_sub hl [1, 0] rfl)
      · have hb5 := hb5.trans (if_pos c8)
        refine lv_iload_n hx hb dX3_when_43 rfl (lv_at hl 1 rfl) ?_
        exact wl_iret hC hr hlk (hm.trans (EX5 _ hb5)) rfl hP hD hS dX3_when_44
  · have hm := hm.trans (if_neg c2)
    refine lv_aload_n hx hb dX3_when_8 rfl (lv_at hl 0 rfl) ?_
    refine wl_callVi hC (c_X3_refuseBad  ) lk_RX3_52 rfl ⟨rfl, rfl, Nat.le_of_ble_eq_true rfl, Nat.le_of_ble_eq_true rfl⟩ hP hD hS hA 0 rfl (T1 := 11) rfl hl.1 rfl (Nat.le_of_ble_eq_true rfl) dX3_when_9 ⟨Nat.zero_le _, Nat.zero_le _⟩ (fun z9 hz9 H locs hP hD hS => ?_)
    have hm := wl_bz hm hz9
    exact wl_iret hC hr hlk hm rfl hP hD hS dX3_when_12
