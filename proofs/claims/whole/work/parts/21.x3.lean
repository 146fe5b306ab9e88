def m_X3_setFraction_l9 (v1 : Nat × Nat × Nat) : (Nat × Nat × Nat) ⊕ (Nat) := (if 200 ≤ v1.2.2 then (Sum.inr v1.1) else (if v1.2.1 = 0 then (Sum.inr v1.1) else (Sum.inl (v1.2.1, (v1.1 % v1.2.1), (v1.2.2 + 1)))))
def m_X3_setFraction (fabove : Int64) (fbelow : Int64) (over : Nat) (under : Nat) : Int64 × Int64 := (wl_bnd (wl_run m_X3_setFraction_l9 default 201 (over, under, 0)) (fun z1 => (if z1 ≤ 0 then (fabove, fbelow) else ((lN (over / z1)), (lN (under / z1))))))
set_option maxHeartbeats 4000000 in
set_option maxRecDepth 100000 in
theorem c_X3_setFraction {l : Launch} {D : va_G} {E : Nat → ClassId} {a : Nat → Nat} {fabove : Int64} {fbelow : Int64} {rbad : Int32} {rno : Int32} {rfull : Int32} {counts0 : Int32} {people0 : Nat} {day0 : Int32} {listed0 : Int32} {followed0 : Int32} {struck0 : Int32} {noted0 : Nat} {undoable0 : Nat} {kinds0 : (Nat → Int32)} {tempers0 : (Nat → Int32)} {notes0 : (Nat → Int32)} {past0 : (Nat → Int32)} {counts1 : Int32} {people1 : Nat} {day1 : Int32} {listed1 : Int32} {followed1 : Int32} {struck1 : Int32} {noted1 : Nat} {undoable1 : Nat} {kinds1 : (Nat → Int32)} {tempers1 : (Nat → Int32)} {notes1 : (Nat → Int32)} {past1 : (Nat → Int32)} {counts2 : Int32} {people2 : Nat} {day2 : Int32} {listed2 : Int32} {followed2 : Int32} {struck2 : Int32} {noted2 : Nat} {undoable2 : Nat} {kinds2 : (Nat → Int32)} {tempers2 : (Nat → Int32)} {notes2 : (Nat → Int32)} {past2 : (Nat → Int32)} {counts3 : Int32} {people3 : Nat} {day3 : Int32} {listed3 : Int32} {followed3 : Int32} {struck3 : Int32} {noted3 : Nat} {undoable3 : Nat} {kinds3 : (Nat → Int32)} {tempers3 : (Nat → Int32)} {notes3 : (Nat → Int32)} {past3 : (Nat → Int32)} {keptz : (Nat → Int32)} {wkind : Int32} {wtemper : Int32} {wcounts : Int32} {wday : Int32} {wlisted : Bool} {wfollowed : Bool} {xlength : Nat} {xstart : Nat} {xbehind : Nat} {xsort : Int32} {xnumber : Int32} {xbytes : (Nat → Int32)} {over : Nat} {under : Nat} (ho : over < 2 ^ 62) (hu2 : under < 2 ^ 62) : wl_Met (τ := Int64 × Int64) l D E yX3_setFraction cX3_setFraction 12 none ({ frames := 0, cells := 0, slots := 0, locals := 0 } : Room) [.ref (a 0), .long (lN over), .long (lN under)] (wX E a fabove fbelow rbad rno rfull counts0 people0 day0 listed0 followed0 struck0 noted0 undoable0 kinds0 tempers0 notes0 past0 counts1 people1 day1 listed1 followed1 struck1 noted1 undoable1 kinds1 tempers1 notes1 past1 counts2 people2 day2 listed2 followed2 struck2 noted2 undoable2 kinds2 tempers2 notes2 past2 counts3 people3 day3 listed3 followed3 struck3 noted3 undoable3 kinds3 tempers3 notes3 past3 keptz wkind wtemper wcounts wday wlisted wfollowed xlength xstart xbehind xsort xnumber xbytes) (fun _ => none) (fun z => (wX E a z.1 z.2 rbad rno rfull counts0 people0 day0 listed0 followed0 struck0 noted0 undoable0 kinds0 tempers0 notes0 past0 counts1 people1 day1 listed1 followed1 struck1 noted1 undoable1 kinds1 tempers1 notes1 past1 counts2 people2 day2 listed2 followed2 struck2 noted2 undoable2 kinds2 tempers2 notes2 past2 counts3 people3 day3 listed3 followed3 struck3 noted3 undoable3 kinds3 tempers3 notes3 past3 keptz wkind wtemper wcounts wday wlisted wfollowed xlength xstart xbehind xsort xnumber xbytes)) (m_X3_setFraction fabove fbelow over under) := by
  refine wl_enter (own := RX3) (by decide +kernel) rfl (Nat.le_of_ble_eq_true rfl) ?_
  intro p0 e0 s0 m0 bl0 mt0 c0 A hC hr hlk hA H locs hP hD hS ls hl
  have hx := hC.1
  have hb := hC.2.1
  have hl : lv_has ls 12 [(0, .ref (a 0)), (1, .long (lN over)), (3, .long (lN under))] := hl
  have hm := m_X3_setFraction.eq_1 fabove fbelow over under
  refine lv_lload_n hx hb dX3_setFraction_0 rfl (lv_at hl 1 rfl) ?_
  refine lv_lstore (lv' := [(5, .long (lN over)), (0, .ref (a 0)), (1, .long (lN over)), (3, .long (lN under))]) hx hb dX3_setFraction_1 hl (by decide) rfl (fun ls hl => ?_)
  refine lv_lload_n hx hb dX3_setFraction_3 rfl (lv_at hl 3 rfl) ?_
  refine lv_lstore (lv' := [(7, .long (lN under)), (5, .long (lN over)), (0, .ref (a 0)), (1, .long (lN over)), (3, .long (lN under))]) hx hb dX3_setFraction_4 hl (by decide) rfl (fun ls hl => ?_)
  refine lv_iconst (v := (nI 0)) hx hb dX3_setFraction_6 (by decide +kernel) ?_
  refine lv_istore (lv' := [(9, .int (nI 0)), (7, .long (lN under)), (5, .long (lN over)), (0, .ref (a 0)), (1, .long (lN over)), (3, .long (lN under))]) hx hb dX3_setFraction_7 hl (by decide) rfl (fun ls hl => ?_)
  obtain ⟨u1, hu1, hk1⟩ := wl_bx hm
  refine wl_JP u1 45 (fun _ => []) 12 (fun z1 => [(0, .ref (a 0)), (1, .long (lN over)), (3, .long (lN under)), (5, .long (lN z1))]) D A s0.heap (fun z1 => (wX E a fabove fbelow rbad rno rfull counts0 people0 day0 listed0 followed0 struck0 noted0 undoable0 kinds0 tempers0 notes0 past0 counts1 people1 day1 listed1 followed1 struck1 noted1 undoable1 kinds1 tempers1 notes1 past1 counts2 people2 day2 listed2 followed2 struck2 noted2 undoable2 kinds2 tempers2 notes2 past2 counts3 people3 day3 listed3 followed3 struck3 noted3 undoable3 kinds3 tempers3 notes3 past3 keptz wkind wtemper wcounts wday wlisted wfollowed xlength xstart xbehind xsort xnumber xbytes)) (fun z1 => (z1 < 2 ^ 62)) (fun z1 hz1 hpost1 ls H locs hP hD hS hl => ?_) (fun J1 => ?_)
  · have hm := hk1 z1 hz1
    have pb := hpost1
    refine lv_lload hx hb dX3_setFraction_45 (lv_at hl 3 rfl) ?_
    refine lv_lconst (v := lN 0) hx hb dX3_setFraction_47 (by decide +kernel) ?_
    refine W.lcmp hx hb dX3_setFraction_48 ?_
    refine wl_d_le hx hb (by omega) (by omega) (tgt := 68) dX3_setFraction_49 (by decide) (fun c4 => ?_) (fun c4 => ?_)
    · have hm := hm.trans (if_pos c4)
      exact wl_vret hC hr hlk hm rfl hP hD hS dX3_setFraction_68
    · have hm := hm.trans (if_neg c4)
      refine lv_aload_n hx hb dX3_setFraction_52 rfl (lv_at hl 0 rfl) ?_
      refine lv_lload_n hx hb dX3_setFraction_53 rfl (lv_at hl 1 rfl) ?_
      refine lv_lload hx hb dX3_setFraction_54 (lv_at hl 3 rfl) ?_
      refine lv_ldiv hx hb dX3_setFraction_56 (wl_lne0 (by omega) (by omega)) ?_
      refine wl_reL (pk_lDiv (by omega) (by omega) (by omega)) ?_
      refine p_X_0_above hC hP hD hS (lN (over / z1)) mw_213 dX3_setFraction_57 (fun H locs hP hD hS => ?_)
      refine lv_aload_n hx hb dX3_setFraction_60 rfl (lv_at hl 0 rfl) ?_
      refine lv_lload_n hx hb dX3_setFraction_61 rfl (lv_at hl 2 rfl) ?_
      refine lv_lload hx hb dX3_setFraction_62 (lv_at hl 3 rfl) ?_
      refine lv_ldiv hx hb dX3_setFraction_64 (wl_lne0 (by omega) (by omega)) ?_
      refine wl_reL (pk_lDiv (by omega) (by omega) (by omega)) ?_
      refine p_X_0_below hC hP hD hS (lN (under / z1)) mw_214 dX3_setFraction_65 (fun H locs hP hD hS => ?_)
      exact wl_vret hC hr hlk hm rfl hP hD hS dX3_setFraction_68
  · refine wl_while (D := D) (A := A) (H0 := s0.heap) m_X3_setFraction_l9 default 201 (over, under, 0) 9 12 (fun v1 => [(0, .ref (a 0)), (1, .long (lN over)), (3, .long (lN under)), (5, .long (lN v1.1)), (7, .long (lN v1.2.1)), (9, .int (nI v1.2.2))]) (fun v1 => (wX E a fabove fbelow rbad rno rfull counts0 people0 day0 listed0 followed0 struck0 noted0 undoable0 kinds0 tempers0 notes0 past0 counts1 people1 day1 listed1 followed1 struck1 noted1 undoable1 kinds1 tempers1 notes1 past1 counts2 people2 day2 listed2 followed2 struck2 noted2 undoable2 kinds2 tempers2 notes2 past2 counts3 people3 day3 listed3 followed3 struck3 noted3 undoable3 kinds3 tempers3 notes3 past3 keptz wkind wtemper wcounts wday wlisted wfollowed xlength xstart xbehind xsort xnumber xbytes)) (fun v1 => (v1.1 < 2 ^ 62) ∧ (v1.2.1 < 2 ^ 62) ∧ (v1.2.2 ≤ 200)) (fun v1 => 200 - v1.2.2) ⟨(by show over < 2 ^ 62; omega), (by show under < 2 ^ 62; omega), (by show 0 ≤ 200; omega)⟩ (by show 200 - 0 < 201; first | decide | omega) ?_ hP hD hS (lv_sub hl [3, 4, 5, 2, 1, 0] rfl)
    intro v1 hI1 EX1 IH1 ls H locs hP hD hS hl
    obtain ⟨ib, ic, i9⟩ := hI1
    have hb1 := m_X3_setFraction_l9.eq_1 v1
    refine lv_iload hx hb dX3_setFraction_9 (lv_at hl 5 rfl) ?_
    refine lv_sipush (v := (nI 200)) hx hb dX3_setFraction_11 (by decide +kernel) ?_
    refine wl_icmp_ge_n hx hb (by first | omega | exact Nat.lt_of_le_of_lt Nat.and_le_right (by omega) | exact Nat.pow_lt_pow_right (by omega) (by omega) | exact Nat.lt_trans (by assumption) (Nat.pow_lt_pow_right (by omega) (by omega))) (by first | omega | exact Nat.lt_of_le_of_lt Nat.and_le_right (by omega) | exact Nat.pow_lt_pow_right (by omega) (by omega) | exact Nat.lt_trans (by assumption) (Nat.pow_lt_pow_right (by omega) (by omega))) (tgt := 45) dX3_setFraction_14 (by decide) (fun c2 => ?_) (fun c2 => ?_)
    · have hb1 := hb1.trans (if_pos c2)
      exact J1 _ (hu1.trans (EX1 _ hb1)) (by show v1.1 < 2 ^ 62; omega) ls H locs hP hD hS (lv_sub hl [0, 1, 2, 3] rfl)
    · have hb1 := hb1.trans (if_neg c2)
      refine lv_lload hx hb dX3_setFraction_17 (lv_at hl 4 rfl) ?_
      refine lv_lconst (v := lN 0) hx hb dX3_setFraction_19 (by decide +kernel) ?_
      refine W.lcmp hx hb dX3_setFraction_20 ?_
      refine wl_d_eq hx hb (by omega) (by omega) (tgt := 45) dX3_setFraction_21 (by decide) (fun c3 => ?_) (fun c3 => ?_)
      · have hb1 := hb1.trans (if_pos c3)
        exact J1 _ (hu1.trans (EX1 _ hb1)) (by show v1.1 < 2 ^ 62; omega) ls H locs hP hD hS (lv_sub hl [0, 1, 2, 3] rfl)
      · have hb1 := hb1.trans (if_neg c3)
        refine lv_lload hx hb dX3_setFraction_24 (lv_at hl 3 rfl) ?_
        refine lv_lload hx hb dX3_setFraction_26 (lv_at hl 4 rfl) ?_
        refine lv_lrem hx hb dX3_setFraction_28 (wl_lne0 (by omega) (by omega)) ?_
        refine wl_reL (pk_lRem (by omega) (by omega) (by omega)) ?_
        refine lv_lstore (lv' := [(10, .long (lN (v1.1 % v1.2.1))), (0, .ref (a 0)), (1, .long (lN over)), (3, .long (lN under)), (5, .long (lN v1.1)), (7, .long (lN v1.2.1)), (9, .int (nI v1.2.2))]) hx hb dX3_setFraction_29 hl (by decide) rfl (fun ls hl => ?_)
        refine lv_lload hx hb dX3_setFraction_31 (lv_at hl 5 rfl) ?_
        refine lv_lstore (lv' := [(5, .long (lN v1.2.1)), (10, .long (lN (v1.1 % v1.2.1))), (0, .ref (a 0)), (1, .long (lN over)), (3, .long (lN under)), (7, .long (lN v1.2.1)), (9, .int (nI v1.2.2))]) hx hb dX3_setFraction_33 hl (by decide) rfl (fun ls hl => ?_)
        refine lv_lload hx hb dX3_setFraction_35 (lv_at hl 1 rfl) ?_
        refine lv_lstore (lv' := [(7, .long (lN (v1.1 % v1.2.1))), (5, .long (lN v1.2.1)), (10, .long (lN (v1.1 % v1.2.1))), (0, .ref (a 0)), (1, .long (lN over)), (3, .long (lN under)), (9, .int (nI v1.2.2))]) hx hb dX3_setFraction_37 hl (by decide) rfl (fun ls hl => ?_)
        refine lv_iinc (v := (nI (v1.2.2 + 1))) (lv' := [(9, .int (nI (v1.2.2 + 1))), (7, .long (lN (v1.1 % v1.2.1))), (5, .long (lN v1.2.1)), (10, .long (lN (v1.1 % v1.2.1))), (0, .ref (a 0)), (1, .long (lN over)), (3, .long (lN under))]) hx hb dX3_setFraction_39 hl (k := 6) rfl (wl_inc v1.2.2 1) (by decide) rfl (fun ls hl => ?_)
        refine lv_goto (tgt := 9) hx hb dX3_setFraction_42 (by decide) ?_
        exact IH1 _ hb1 ⟨(by show v1.2.1 < 2 ^ 62; omega), (by show (v1.1 % v1.2.1) < 2 ^ 62; exact Nat.lt_trans (Nat.mod_lt _ (by omega)) ic), (by show (v1.2.2 + 1) ≤ 200; omega)⟩ (by show 200 - (v1.2.2 + 1) < 200 - v1.2.2; omega) ls H locs hP hD hS (lv_sub hl [4, 5, 6, 2, 1, 0] rfl)
def m_X3_odds_l75 (c : Int32) (k14 : Nat) (k16 : Nat) (v16 : Nat) : Nat := (wl_bnd (m_X3_bitOf (nI k14) k16) (fun z18 => (if z18 = (nI 1) then (v16 * (cl c)) else (v16 * (10 - (cl c))))))
def m_X3_odds_l61 (counts0 : Int32) (day0 : Int32) (listed0 : Int32) (followed0 : Int32) (kinds0 : (Nat → Int32)) (tempers0 : (Nat → Int32)) (p : Int32) (n : Int32) (c : Int32) (k14 : Nat) (v14 : Int32 × Int32 × Int32 × Int32 × Bool × Bool × Nat × Nat) : Int32 × Int32 × Int32 × Int32 × Bool × Bool × Nat × Nat := (wl_bnd (wl_iter (m_X3_odds_l75 c k14) (cl n) 0 1) (fun z16 => (wl_bnd (m_X3_isStruckBy counts0 day0 listed0 followed0 kinds0 tempers0 (cl p) (cl n) (nI k14)) (fun z21 => (if z21.1 = true then (z21.2.1, z21.2.2.1, z21.2.2.2.1, z21.2.2.2.2.1, z21.2.2.2.2.2.1, z21.2.2.2.2.2.2, (v14.2.2.2.2.2.2.1 + z16), (v14.2.2.2.2.2.2.2 + z16)) else (z21.2.1, z21.2.2.1, z21.2.2.2.1, z21.2.2.2.2.1, z21.2.2.2.2.2.1, z21.2.2.2.2.2.2, (v14.2.2.2.2.2.2.1 + 0), (v14.2.2.2.2.2.2.2 + z16)))))))
def m_X3_odds (fabove : Int64) (fbelow : Int64) (rbad : Int32) (rno : Int32) (counts0 : Int32) (people0 : Nat) (day0 : Int32) (listed0 : Int32) (followed0 : Int32) (kinds0 : (Nat → Int32)) (tempers0 : (Nat → Int32)) (wkind : Int32) (wtemper : Int32) (wcounts : Int32) (wday : Int32) (wlisted : Bool) (wfollowed : Bool) (p : Int32) (n : Int32) (c : Int32) : Int32 × Int64 × Int64 × Int32 × Int32 × Int32 × Int32 × Int32 × Int32 × Bool × Bool := (wl_bnd (m_X3_isThere people0 p) (fun z1 => (if z1 = true then (wl_bnd (m_X3_isWithin n (nI 0) (nI 8)) (fun z5 => (if z5 = true then (wl_bnd (m_X3_isWithin c (nI 0) (nI 10)) (fun z9 => (if z9 = true then (wl_bnd (m_X3_bitOf listed0 (cl p)) (fun z12 => (if z12 = 0 then (wl_bnd (m_X3_refuseNo rno) (fun z25 => (z25.1, fabove, fbelow, rbad, z25.2, wkind, wtemper, wcounts, wday, wlisted, wfollowed))) else (wl_bnd (wl_iter (m_X3_odds_l61 counts0 day0 listed0 followed0 kinds0 tempers0 p n c) (2 ^ (cl n)) 0 (wkind, wtemper, wcounts, wday, wlisted, wfollowed, 0, 0)) (fun z14 => (wl_bnd (m_X3_setFraction fabove fbelow z14.2.2.2.2.2.2.1 z14.2.2.2.2.2.2.2) (fun z24 => ((nI 1), z24.1, z24.2, rbad, rno, z14.1, z14.2.1, z14.2.2.1, z14.2.2.2.1, z14.2.2.2.2.1, z14.2.2.2.2.2.1)))))))) else (wl_bnd (m_X3_refuseBad rbad) (fun z26 => (z26.1, fabove, fbelow, z26.2, rno, wkind, wtemper, wcounts, wday, wlisted, wfollowed)))))) else (wl_bnd (m_X3_refuseBad rbad) (fun z7 => (z7.1, fabove, fbelow, z7.2, rno, wkind, wtemper, wcounts, wday, wlisted, wfollowed)))))) else (wl_bnd (m_X3_refuseBad rbad) (fun z3 => (z3.1, fabove, fbelow, z3.2, rno, wkind, wtemper, wcounts, wday, wlisted, wfollowed))))))
set_option maxHeartbeats 4000000 in
set_option maxRecDepth 100000 in
theorem c_X3_odds {l : Launch} {D : va_G} {E : Nat → ClassId} {a : Nat → Nat} {fabove : Int64} {fbelow : Int64} {rbad : Int32} {rno : Int32} {rfull : Int32} {counts0 : Int32} {people0 : Nat} {day0 : Int32} {listed0 : Int32} {followed0 : Int32} {struck0 : Int32} {noted0 : Nat} {undoable0 : Nat} {kinds0 : (Nat → Int32)} {tempers0 : (Nat → Int32)} {notes0 : (Nat → Int32)} {past0 : (Nat → Int32)} {counts1 : Int32} {people1 : Nat} {day1 : Int32} {listed1 : Int32} {followed1 : Int32} {struck1 : Int32} {noted1 : Nat} {undoable1 : Nat} {kinds1 : (Nat → Int32)} {tempers1 : (Nat → Int32)} {notes1 : (Nat → Int32)} {past1 : (Nat → Int32)} {counts2 : Int32} {people2 : Nat} {day2 : Int32} {listed2 : Int32} {followed2 : Int32} {struck2 : Int32} {noted2 : Nat} {undoable2 : Nat} {kinds2 : (Nat → Int32)} {tempers2 : (Nat → Int32)} {notes2 : (Nat → Int32)} {past2 : (Nat → Int32)} {counts3 : Int32} {people3 : Nat} {day3 : Int32} {listed3 : Int32} {followed3 : Int32} {struck3 : Int32} {noted3 : Nat} {undoable3 : Nat} {kinds3 : (Nat → Int32)} {tempers3 : (Nat → Int32)} {notes3 : (Nat → Int32)} {past3 : (Nat → Int32)} {keptz : (Nat → Int32)} {wkind : Int32} {wtemper : Int32} {wcounts : Int32} {wday : Int32} {wlisted : Bool} {wfollowed : Bool} {xlength : Nat} {xstart : Nat} {xbehind : Nat} {xsort : Int32} {xnumber : Int32} {xbytes : (Nat → Int32)} {p : Int32} {n : Int32} {c : Int32} (hP7 : people0 ≤ 7) : wl_Met (τ := Int32 × Int64 × Int64 × Int32 × Int32 × Int32 × Int32 × Int32 × Int32 × Bool × Bool) l D E yX3_odds cX3_odds 12 (some .int) ({ frames := 5, cells := 0, slots := 0, locals := 116 } : Room) [.ref (a 0), .int p, .int n, .int c] (wX E a fabove fbelow rbad rno rfull counts0 people0 day0 listed0 followed0 struck0 noted0 undoable0 kinds0 tempers0 notes0 past0 counts1 people1 day1 listed1 followed1 struck1 noted1 undoable1 kinds1 tempers1 notes1 past1 counts2 people2 day2 listed2 followed2 struck2 noted2 undoable2 kinds2 tempers2 notes2 past2 counts3 people3 day3 listed3 followed3 struck3 noted3 undoable3 kinds3 tempers3 notes3 past3 keptz wkind wtemper wcounts wday wlisted wfollowed xlength xstart xbehind xsort xnumber xbytes) (fun z => some (.int z.1)) (fun z => (wX E a z.2.1 z.2.2.1 z.2.2.2.1 z.2.2.2.2.1 rfull counts0 people0 day0 listed0 followed0 struck0 noted0 undoable0 kinds0 tempers0 notes0 past0 counts1 people1 day1 listed1 followed1 struck1 noted1 undoable1 kinds1 tempers1 notes1 past1 counts2 people2 day2 listed2 followed2 struck2 noted2 undoable2 kinds2 tempers2 notes2 past2 counts3 people3 day3 listed3 followed3 struck3 noted3 undoable3 kinds3 tempers3 notes3 past3 keptz z.2.2.2.2.2.1 z.2.2.2.2.2.2.1 z.2.2.2.2.2.2.2.1 z.2.2.2.2.2.2.2.2.1 z.2.2.2.2.2.2.2.2.2.1 z.2.2.2.2.2.2.2.2.2.2 xlength xstart xbehind xsort xnumber xbytes)) (m_X3_odds fabove fbelow rbad rno counts0 people0 day0 listed0 followed0 kinds0 tempers0 wkind wtemper wcounts wday wlisted wfollowed p n c) := by
  refine wl_enter (own := RX3) (by decide +kernel) rfl (Nat.le_of_ble_eq_true rfl) ?_
  intro p0 e0 s0 m0 bl0 mt0 c0 A hC hr hlk hA H locs hP hD hS ls hl
  have hx := hC.1
  have hb := hC.2.1
  have hl : lv_has ls 12 [(0, .ref (a 0)), (1, .int p), (2, .int n), (3, .int c)] := hl
  have hm := m_X3_odds.eq_1 fabove fbelow rbad rno counts0 people0 day0 listed0 followed0 kinds0 tempers0 wkind wtemper wcounts wday wlisted wfollowed p n c
  refine lv_aload_n hx hb dX3_odds_0 rfl (lv_at hl 0 rfl) ?_
  refine lv_iload_n hx hb dX3_odds_1 rfl (lv_at hl 1 rfl) ?_
  refine wl_callVi hC (c_X3_isThere (p := p) ) lk_RX3_86 rfl ⟨rfl, rfl, Nat.le_of_ble_eq_true rfl, Nat.le_of_ble_eq_true rfl⟩ hP hD hS hA 0 rfl (T1 := 11) rfl hl.1 rfl (Nat.le_of_ble_eq_true rfl) dX3_odds_2 ⟨Nat.zero_le _, Nat.zero_le _⟩ (fun z1 hz1 H locs hP hD hS => ?_)
  have hm := wl_bz hm hz1
  refine wl_if_eq_b hx hb (tgt := 28) dX3_odds_5 (by decide) (fun c2 => ?_) (fun c2 => ?_)
  · have hm := hm.trans (if_neg c2)
    refine lv_aload_n hx hb dX3_odds_28 rfl (lv_at hl 0 rfl) ?_
    refine wl_callVi hC (c_X3_refuseBad  ) lk_RX3_52 rfl ⟨rfl, rfl, Nat.le_of_ble_eq_true rfl, Nat.le_of_ble_eq_true rfl⟩ hP hD hS hA 0 rfl (T1 := 11) rfl hl.1 rfl (Nat.le_of_ble_eq_true rfl) dX3_odds_29 ⟨Nat.zero_le _, Nat.zero_le _⟩ (fun z3 hz3 H locs hP hD hS => ?_)
    have hm := wl_bz hm hz3
    exact wl_iret hC hr hlk hm rfl hP hD hS dX3_odds_32
  · have hm := hm.trans (if_pos c2)
    obtain ⟨ha4, hb4_⟩ := isThere_spec hP7 (hz1.symm.trans c2)
    have hl : lv_has ls 12 [(0, .ref (a 0)), (1, .int (nI (cl p))), (2, .int n), (3, .int c)] := by rw [← ha4]; exact hl
    refine lv_iload_n hx hb dX3_odds_8 rfl (lv_at hl 2 rfl) ?_
    refine lv_iconst (v := (nI 0)) hx hb dX3_odds_9 (by decide +kernel) ?_
    refine lv_bipush (v := (nI 8)) hx hb dX3_odds_10 (by decide +kernel) ?_
    refine wl_callPi hC (c_X3_isWithin (v := n) (least := (nI 0)) (most := (nI 8)) ) lk_RX3_48 rfl ⟨rfl, rfl, Nat.le_of_ble_eq_true rfl, Nat.le_of_ble_eq_true rfl⟩ hP hS hA hl.1 rfl (Nat.le_of_ble_eq_true rfl) dX3_odds_12 ⟨Nat.zero_le _, Nat.zero_le _⟩ (fun z5 hz5 H locs hP hS => ?_)
    have hm := wl_bz hm hz5
    refine wl_if_eq_b hx hb (tgt := 28) dX3_odds_15 (by decide) (fun c6 => ?_) (fun c6 => ?_)
    · have hm := hm.trans (if_neg c6)
      refine lv_aload_n hx hb dX3_odds_28 rfl (lv_at hl 0 rfl) ?_
      refine wl_callVi hC (c_X3_refuseBad  ) lk_RX3_52 rfl ⟨rfl, rfl, Nat.le_of_ble_eq_true rfl, Nat.le_of_ble_eq_true rfl⟩ hP hD hS hA 0 rfl (T1 := 11) rfl hl.1 rfl (Nat.le_of_ble_eq_true rfl) dX3_odds_29 ⟨Nat.zero_le _, Nat.zero_le _⟩ (fun z7 hz7 H locs hP hD hS => ?_)
      have hm := wl_bz hm hz7
      exact wl_iret hC hr hlk hm rfl hP hD hS dX3_odds_32
    · have hm := hm.trans (if_pos c6)
      obtain ⟨ha8, hb8_, hc8_⟩ := within_spec (a := 0) (b := 8) (by decide) (by decide) (hz5.symm.trans c6)
      have hl : lv_has ls 12 [(0, .ref (a 0)), (1, .int (nI (cl p))), (2, .int (nI (cl n))), (3, .int c)] := by rw [← ha8]; exact hl
      refine lv_iload_n hx hb dX3_odds_18 rfl (lv_at hl 3 rfl) ?_
      refine lv_iconst (v := (nI 0)) hx hb dX3_odds_19 (by decide +kernel) ?_
      refine lv_bipush (v := (nI 10)) hx hb dX3_odds_20 (by decide +kernel) ?_
      refine wl_callPi hC (c_X3_isWithin (v := c) (least := (nI 0)) (most := (nI 10)) ) lk_RX3_48 rfl ⟨rfl, rfl, Nat.le_of_ble_eq_true rfl, Nat.le_of_ble_eq_true rfl⟩ hP hS hA hl.1 rfl (Nat.le_of_ble_eq_true rfl) dX3_odds_22 ⟨Nat.zero_le _, Nat.zero_le _⟩ (fun z9 hz9 H locs hP hS => ?_)
      have hm := wl_bz hm hz9
      refine wl_if_ne_b hx hb (tgt := 33) dX3_odds_25 (by decide) (fun c10 => ?_) (fun c10 => ?_)
      · have hm := hm.trans (if_pos c10)
        obtain ⟨ha11, hb11_, hc11_⟩ := within_spec (a := 0) (b := 10) (by decide) (by decide) (hz9.symm.trans c10)
        have hl : lv_has ls 12 [(0, .ref (a 0)), (1, .int (nI (cl p))), (2, .int (nI (cl n))), (3, .int (nI (cl c)))] := by rw [← ha11]; exact hl
        refine lv_aload_n hx hb dX3_odds_33 rfl (lv_at hl 0 rfl) ?_
        refine g_X_0_now hC hP mw_202 dX3_odds_34 ?_
        refine g_X_1_listed hC hP mw_249 dX3_odds_37 ?_
        refine lv_iload_n hx hb dX3_odds_40 rfl (lv_at hl 1 rfl) ?_
        refine wl_callPi hC (c_X3_bitOf (bits := listed0) (i := (cl p)) ) lk_RX3_93 rfl ⟨rfl, rfl, Nat.le_of_ble_eq_true rfl, Nat.le_of_ble_eq_true rfl⟩ hP hS hA hl.1 rfl (Nat.le_of_ble_eq_true rfl) dX3_odds_41 ⟨Nat.zero_le _, Nat.zero_le _⟩ (fun z12 hz12 H locs hP hS => ?_)
        have hm := wl_bz hm hz12
        refine lv_if_ne hx hb (tgt := 52) dX3_odds_44 (by decide) (fun c13 => ?_) (fun c13 => ?_)
        · have hm := hm.trans (if_neg c13)
          refine lv_lconst (v := lN 0) hx hb dX3_odds_52 (by decide +kernel) ?_
          refine lv_lstore (lv' := [(4, .long (lN 0)), (0, .ref (a 0)), (1, .int (nI (cl p))), (2, .int (nI (cl n))), (3, .int (nI (cl c)))]) hx hb dX3_odds_53 hl (by decide) rfl (fun ls hl => ?_)
          refine lv_lconst (v := lN 0) hx hb dX3_odds_55 (by decide +kernel) ?_
          refine lv_lstore (lv' := [(6, .long (lN 0)), (4, .long (lN 0)), (0, .ref (a 0)), (1, .int (nI (cl p))), (2, .int (nI (cl n))), (3, .int (nI (cl c)))]) hx hb dX3_odds_56 hl (by decide) rfl (fun ls hl => ?_)
          refine lv_iconst (v := (nI 0)) hx hb dX3_odds_58 (by decide +kernel) ?_
          refine lv_istore (lv' := [(8, .int (nI 0)), (6, .long (lN 0)), (4, .long (lN 0)), (0, .ref (a 0)), (1, .int (nI (cl p))), (2, .int (nI (cl n))), (3, .int (nI (cl c)))]) hx hb dX3_odds_59 hl (by decide) rfl (fun ls hl => ?_)
          obtain ⟨u14, hu14, hk14⟩ := wl_bx hm
          refine wl_for (D := D) (A := A) (H0 := s0.heap) (m_X3_odds_l61 counts0 day0 listed0 followed0 kinds0 tempers0 p n c) (2 ^ (cl n)) 0 (2 ^ (cl n)) (wkind, wtemper, wcounts, wday, wlisted, wfollowed, 0, 0) 61 12 (fun k14 v14 => [(0, .ref (a 0)), (1, .int (nI (cl p))), (2, .int (nI (cl n))), (3, .int (nI (cl c))), (4, .long (lN v14.2.2.2.2.2.2.1)), (6, .long (lN v14.2.2.2.2.2.2.2)), (8, .int (nI k14))]) (fun k14 v14 => (wX E a fabove fbelow rbad rno rfull counts0 people0 day0 listed0 followed0 struck0 noted0 undoable0 kinds0 tempers0 notes0 past0 counts1 people1 day1 listed1 followed1 struck1 noted1 undoable1 kinds1 tempers1 notes1 past1 counts2 people2 day2 listed2 followed2 struck2 noted2 undoable2 kinds2 tempers2 notes2 past2 counts3 people3 day3 listed3 followed3 struck3 noted3 undoable3 kinds3 tempers3 notes3 past3 keptz v14.1 v14.2.1 v14.2.2.1 v14.2.2.2.1 v14.2.2.2.2.1 v14.2.2.2.2.2.1 xlength xstart xbehind xsort xnumber xbytes)) (fun k14 v14 => (v14.2.2.2.2.2.2.1 ≤ 100000000 * k14) ∧ (v14.2.2.2.2.2.2.2 ≤ 100000000 * k14)) (by omega) ⟨(by show 0 ≤ 100000000 * 0; omega), (by show 0 ≤ 100000000 * 0; omega)⟩ ?_ ?_ hP hD hS (lv_sub hl [3, 4, 5, 6, 2, 1, 0] rfl)
          · intro z14 hv14 hI14 ls H locs hP hD hS hl
            have hm := hk14 z14 (hu14.trans hv14)
            obtain ⟨s8, a8⟩ := hI14
            have hp9 := Nat.pow_le_pow_right (n := 2) (by decide) (show cl n ≤ 8 by omega)
            refine lv_iload hx hb dX3_odds_61 (lv_at hl 6 rfl) ?_
            refine lv_iconst (v := (nI 1)) hx hb dX3_odds_63 (by decide +kernel) ?_
            refine lv_iload_n hx hb dX3_odds_64 rfl (lv_at hl 2 rfl) ?_
            refine lv_ishl hx hb dX3_odds_65 ?_
            refine wl_re (wl_pow (by omega)) ?_
            refine wl_icmp_ge_n hx hb (by first | omega | exact Nat.lt_of_le_of_lt Nat.and_le_right (by omega) | exact Nat.pow_lt_pow_right (by omega) (by omega) | exact Nat.lt_trans (by assumption) (Nat.pow_lt_pow_right (by omega) (by omega))) (by first | omega | exact Nat.lt_of_le_of_lt Nat.and_le_right (by omega) | exact Nat.pow_lt_pow_right (by omega) (by omega) | exact Nat.lt_trans (by assumption) (Nat.pow_lt_pow_right (by omega) (by omega))) (tgt := 148) dX3_odds_66 (by decide) (fun c23 => ?_) (fun c23 => absurd (by omega) c23)
            refine lv_aload_n hx hb dX3_odds_148 rfl (lv_at hl 0 rfl) ?_
            refine lv_lload hx hb dX3_odds_149 (lv_at hl 4 rfl) ?_
            refine lv_lload hx hb dX3_odds_151 (lv_at hl 5 rfl) ?_
            refine wl_callVv hC (c_X3_setFraction (over := z14.2.2.2.2.2.2.1) (under := z14.2.2.2.2.2.2.2) (by omega) (by omega)) lk_RX3_186 rfl ⟨rfl, rfl, Nat.le_of_ble_eq_true rfl, Nat.le_of_ble_eq_true rfl⟩ hP hD hS hA 0 rfl (T1 := 11) rfl hl.1 rfl (Nat.le_of_ble_eq_true rfl) dX3_odds_153 ⟨Nat.zero_le _, Nat.zero_le _⟩ (fun z24 hz24 H locs hP hD hS => ?_)
            have hm := wl_bz hm hz24
            refine lv_iconst (v := (nI 1)) hx hb dX3_odds_156 (by decide +kernel) ?_
            exact wl_iret hC hr hlk hm rfl hP hD hS dX3_odds_157
          · intro k14 v14 hlo14 hhi14 hI14 IH14 ls H locs hP hD hS hl
            obtain ⟨s8, a8⟩ := hI14
            have hb14 := m_X3_odds_l61.eq_1 counts0 day0 listed0 followed0 kinds0 tempers0 p n c k14 v14
            have hp9 := Nat.pow_le_pow_right (n := 2) (by decide) (show cl n ≤ 8 by omega)
            refine lv_iload hx hb dX3_odds_61 (lv_at hl 6 rfl) ?_
            refine lv_iconst (v := (nI 1)) hx hb dX3_odds_63 (by decide +kernel) ?_
            refine lv_iload_n hx hb dX3_odds_64 rfl (lv_at hl 2 rfl) ?_
            refine lv_ishl hx hb dX3_odds_65 ?_
            refine wl_re (wl_pow (by omega)) ?_
            refine wl_icmp_ge_n hx hb (by first | omega | exact Nat.lt_of_le_of_lt Nat.and_le_right (by omega) | exact Nat.pow_lt_pow_right (by omega) (by omega) | exact Nat.lt_trans (by assumption) (Nat.pow_lt_pow_right (by omega) (by omega))) (by first | omega | exact Nat.lt_of_le_of_lt Nat.and_le_right (by omega) | exact Nat.pow_lt_pow_right (by omega) (by omega) | exact Nat.lt_trans (by assumption) (Nat.pow_lt_pow_right (by omega) (by omega))) (tgt := 148) dX3_odds_66 (by decide) (fun c15 => absurd c15 (by omega)) (fun c15 => ?_)
            refine lv_lconst (v := lN 1) hx hb dX3_odds_69 (by decide +kernel) ?_
            refine lv_lstore (lv' := [(9, .long (lN 1)), (0, .ref (a 0)), (1, .int (nI (cl p))), (2, .int (nI (cl n))), (3, .int (nI (cl c))), (4, .long (lN v14.2.2.2.2.2.2.1)), (6, .long (lN v14.2.2.2.2.2.2.2)), (8, .int (nI k14))]) hx hb dX3_odds_70 hl (by decide) rfl (fun ls hl => ?_)
            refine lv_iconst (v := (nI 0)) hx hb dX3_odds_72 (by decide +kernel) ?_
            refine lv_istore (lv' := [(11, .int (nI 0)), (9, .long (lN 1)), (0, .ref (a 0)), (1, .int (nI (cl p))), (2, .int (nI (cl n))), (3, .int (nI (cl c))), (4, .long (lN v14.2.2.2.2.2.2.1)), (6, .long (lN v14.2.2.2.2.2.2.2)), (8, .int (nI k14))]) hx hb dX3_odds_73 hl (by decide) rfl (fun ls hl => ?_)
            obtain ⟨u16, hu16, hk16⟩ := wl_bx hb14
            refine wl_for (D := D) (A := A) (H0 := s0.heap) (m_X3_odds_l75 c k14) (cl n) 0 (cl n) 1 75 12 (fun k16 v16 => [(0, .ref (a 0)), (1, .int (nI (cl p))), (2, .int (nI (cl n))), (3, .int (nI (cl c))), (4, .long (lN v14.2.2.2.2.2.2.1)), (6, .long (lN v14.2.2.2.2.2.2.2)), (8, .int (nI k14)), (9, .long (lN v16)), (11, .int (nI k16))]) (fun k16 v16 => (wX E a fabove fbelow rbad rno rfull counts0 people0 day0 listed0 followed0 struck0 noted0 undoable0 kinds0 tempers0 notes0 past0 counts1 people1 day1 listed1 followed1 struck1 noted1 undoable1 kinds1 tempers1 notes1 past1 counts2 people2 day2 listed2 followed2 struck2 noted2 undoable2 kinds2 tempers2 notes2 past2 counts3 people3 day3 listed3 followed3 struck3 noted3 undoable3 kinds3 tempers3 notes3 past3 keptz v14.1 v14.2.1 v14.2.2.1 v14.2.2.2.1 v14.2.2.2.2.1 v14.2.2.2.2.2.1 xlength xstart xbehind xsort xnumber xbytes)) (fun k16 v16 => (v16 ≤ 10 ^ k16)) (by omega) (by show 1 ≤ 10 ^ 0; exact (by decide)) ?_ ?_ hP hD hS (lv_sub hl [2, 3, 4, 5, 6, 7, 8, 1, 0] rfl)
            · intro z16 hv16 hI16 ls H locs hP hD hS hl
              have hb14 := hk16 z16 (hu16.trans hv16)
              have c9 := hI16
              have d9 : z16 ≤ 100000000 := Nat.le_trans c9 (Nat.pow_le_pow_right (show 10 > 0 by decide) (show cl n ≤ 8 by omega))
              refine lv_iload hx hb dX3_odds_75 (lv_at hl 8 rfl) ?_
              refine lv_iload_n hx hb dX3_odds_77 rfl (lv_at hl 2 rfl) ?_
              refine wl_icmp_ge_n hx hb (by first | omega | exact Nat.lt_of_le_of_lt Nat.and_le_right (by omega) | exact Nat.pow_lt_pow_right (by omega) (by omega) | exact Nat.lt_trans (by assumption) (Nat.pow_lt_pow_right (by omega) (by omega))) (by first | omega | exact Nat.lt_of_le_of_lt Nat.and_le_right (by omega) | exact Nat.pow_lt_pow_right (by omega) (by omega) | exact Nat.lt_trans (by assumption) (Nat.pow_lt_pow_right (by omega) (by omega))) (tgt := 113) dX3_odds_78 (by decide) (fun c20 => ?_) (fun c20 => absurd (by omega) c20)
              refine lv_lload hx hb dX3_odds_113 (lv_at hl 5 rfl) ?_
              refine lv_lload hx hb dX3_odds_115 (lv_at hl 7 rfl) ?_
              refine lv_ladd hx hb dX3_odds_117 ?_
              refine wl_reL (show lN v14.2.2.2.2.2.2.2 + lN z16 = lN (v14.2.2.2.2.2.2.2 + z16) from lN_add v14.2.2.2.2.2.2.2 z16) ?_
              refine lv_lstore (lv' := [(6, .long (lN (v14.2.2.2.2.2.2.2 + z16))), (0, .ref (a 0)), (1, .int (nI (cl p))), (2, .int (nI (cl n))), (3, .int (nI (cl c))), (4, .long (lN v14.2.2.2.2.2.2.1)), (8, .int (nI k14)), (9, .long (lN z16)), (11, .int (nI (cl n)))]) hx hb dX3_odds_118 hl (by decide) rfl (fun ls hl => ?_)
              refine lv_lload hx hb dX3_odds_120 (lv_at hl 5 rfl) ?_
              refine lv_aload_n hx hb dX3_odds_122 rfl (lv_at hl 1 rfl) ?_
              refine lv_iload_n hx hb dX3_odds_123 rfl (lv_at hl 2 rfl) ?_
              refine lv_iload_n hx hb dX3_odds_124 rfl (lv_at hl 3 rfl) ?_
              refine lv_iload hx hb dX3_odds_125 (lv_at hl 6 rfl) ?_
              refine wl_callVi hC (c_X3_isStruckBy (p := (cl p)) (n := (cl n)) (days := (nI k14)) (by first | assumption | omega) (by first | assumption | omega)) lk_RX3_183 rfl ⟨rfl, rfl, Nat.le_of_ble_eq_true rfl, Nat.le_of_ble_eq_true rfl⟩ hP hD hS hA 0 rfl (T1 := 11) rfl hl.1 rfl (Nat.le_of_ble_eq_true rfl) dX3_odds_127 ⟨Nat.zero_le _, Nat.zero_le _⟩ (fun z21 hz21 H locs hP hD hS => ?_)
              have hb14 := wl_bz hb14 hz21
              refine wl_if_eq_b hx hb (tgt := 138) dX3_odds_130 (by decide) (fun c22 => ?_) (fun c22 => ?_)
              · have hb14 := hb14.trans (if_neg c22)
                refine lv_lconst (v := lN 0) hx hb dX3_odds_138 (by decide +kernel) ?_
                refine lv_ladd hx hb dX3_odds_139 ?_
                refine wl_reL (show lN v14.2.2.2.2.2.2.1 + lN 0 = lN (v14.2.2.2.2.2.2.1 + 0) from lN_add v14.2.2.2.2.2.2.1 0) ?_
                refine lv_lstore (lv' := [(4, .long (lN (v14.2.2.2.2.2.2.1 + 0))), (6, .long (lN (v14.2.2.2.2.2.2.2 + z16))), (0, .ref (a 0)), (1, .int (nI (cl p))), (2, .int (nI (cl n))), (3, .int (nI (cl c))), (8, .int (nI k14)), (9, .long (lN z16)), (11, .int (nI (cl n)))]) hx hb dX3_odds_140 hl (by decide) rfl (fun ls hl => ?_)
                refine lv_iinc (v := (nI (k14 + 1))) (lv' := [(8, .int (nI (k14 + 1))), (4, .long (lN (v14.2.2.2.2.2.2.1 + 0))), (6, .long (lN (v14.2.2.2.2.2.2.2 + z16))), (0, .ref (a 0)), (1, .int (nI (cl p))), (2, .int (nI (cl n))), (3, .int (nI (cl c))), (9, .long (lN z16)), (11, .int (nI (cl n)))]) hx hb dX3_odds_142 hl (k := 6) rfl (wl_inc k14 1) (by decide) rfl (fun ls hl => ?_)
                refine lv_goto (tgt := 61) hx hb dX3_odds_145 (by decide) ?_
                exact IH14 _ hb14 ⟨(by show (v14.2.2.2.2.2.2.1 + 0) ≤ 100000000 * (k14 + 1); omega), (by show (v14.2.2.2.2.2.2.2 + z16) ≤ 100000000 * (k14 + 1); omega)⟩ ls H locs hP hD hS (lv_sub hl [3, 4, 5, 6, 1, 2, 0] rfl)
              · have hb14 := hb14.trans (if_pos c22)
                refine lv_lload hx hb dX3_odds_133 (lv_at hl 7 rfl) ?_
                refine lv_goto (tgt := 139) hx hb dX3_odds_135 (by decide) ?_
                refine lv_ladd hx hb dX3_odds_139 ?_
                refine wl_reL (show lN v14.2.2.2.2.2.2.1 + lN z16 = lN (v14.2.2.2.2.2.2.1 + z16) from lN_add v14.2.2.2.2.2.2.1 z16) ?_
                refine lv_lstore (lv' := [(4, .long (lN (v14.2.2.2.2.2.2.1 + z16))), (6, .long (lN (v14.2.2.2.2.2.2.2 + z16))), (0, .ref (a 0)), (1, .int (nI (cl p))), (2, .int (nI (cl n))), (3, .int (nI (cl c))), (8, .int (nI k14)), (9, .long (lN z16)), (11, .int (nI (cl n)))]) hx hb dX3_odds_140 hl (by decide) rfl (fun ls hl => ?_)
                refine lv_iinc (v := (nI (k14 + 1))) (lv' := [(8, .int (nI (k14 + 1))), (4, .long (lN (v14.2.2.2.2.2.2.1 + z16))), (6, .long (lN (v14.2.2.2.2.2.2.2 + z16))), (0, .ref (a 0)), (1, .int (nI (cl p))), (2, .int (nI (cl n))), (3, .int (nI (cl c))), (9, .long (lN z16)), (11, .int (nI (cl n)))]) hx hb dX3_odds_142 hl (k := 6) rfl (wl_inc k14 1) (by decide) rfl (fun ls hl => ?_)
                refine lv_goto (tgt := 61) hx hb dX3_odds_145 (by decide) ?_
                exact IH14 _ hb14 ⟨(by show (v14.2.2.2.2.2.2.1 + z16) ≤ 100000000 * (k14 + 1); omega), (by show (v14.2.2.2.2.2.2.2 + z16) ≤ 100000000 * (k14 + 1); omega)⟩ ls H locs hP hD hS (lv_sub hl [3, 4, 5, 6, 1, 2, 0] rfl)
            · intro k16 v16 hlo16 hhi16 hI16 IH16 ls H locs hP hD hS hl
              have c9 := hI16
              have hb16 := m_X3_odds_l75.eq_1 c k14 k16 v16
              refine lv_iload hx hb dX3_odds_75 (lv_at hl 8 rfl) ?_
              refine lv_iload_n hx hb dX3_odds_77 rfl (lv_at hl 2 rfl) ?_
              refine wl_icmp_ge_n hx hb (by first | omega | exact Nat.lt_of_le_of_lt Nat.and_le_right (by omega) | exact Nat.pow_lt_pow_right (by omega) (by omega) | exact Nat.lt_trans (by assumption) (Nat.pow_lt_pow_right (by omega) (by omega))) (by first | omega | exact Nat.lt_of_le_of_lt Nat.and_le_right (by omega) | exact Nat.pow_lt_pow_right (by omega) (by omega) | exact Nat.lt_trans (by assumption) (Nat.pow_lt_pow_right (by omega) (by omega))) (tgt := 113) dX3_odds_78 (by decide) (fun c17 => absurd c17 (by omega)) (fun c17 => ?_)
              refine lv_lload hx hb dX3_odds_81 (lv_at hl 7 rfl) ?_
              refine lv_iload hx hb dX3_odds_83 (lv_at hl 6 rfl) ?_
              refine lv_iload hx hb dX3_odds_85 (lv_at hl 8 rfl) ?_
              refine wl_callPi hC (c_X3_bitOf (bits := (nI k14)) (i := k16) ) lk_RX3_93 rfl ⟨rfl, rfl, Nat.le_of_ble_eq_true rfl, Nat.le_of_ble_eq_true rfl⟩ hP hS hA hl.1 rfl (Nat.le_of_ble_eq_true rfl) dX3_odds_87 ⟨Nat.zero_le _, Nat.zero_le _⟩ (fun z18 hz18 H locs hP hS => ?_)
              have hb16 := wl_bz hb16 hz18
              refine lv_iconst (v := (nI 1)) hx hb dX3_odds_90 (by decide +kernel) ?_
              refine lv_icmp_ne hx hb (tgt := 99) dX3_odds_91 (by decide) (fun c19 => ?_) (fun c19 => ?_)
              · have hb16 := hb16.trans (if_neg c19)
                refine lv_bipush (v := (nI 10)) hx hb dX3_odds_99 (by decide +kernel) ?_
                refine lv_iload_n hx hb dX3_odds_101 rfl (lv_at hl 3 rfl) ?_
                refine lv_isub hx hb dX3_odds_102 ?_
                refine wl_re (show nI 10 - nI (cl c) = nI (10 - (cl c)) from pk_sub (by omega)) ?_
                refine lv_i2l hx hb dX3_odds_103 (nI_l (by omega)) ?_
                refine lv_lmul hx hb dX3_odds_104 ?_
                refine wl_reL (show lN v16 * lN (10 - (cl c)) = lN (v16 * (10 - (cl c))) from lN_mul v16 (10 - (cl c))) ?_
                refine lv_lstore (lv' := [(9, .long (lN (v16 * (10 - (cl c))))), (0, .ref (a 0)), (1, .int (nI (cl p))), (2, .int (nI (cl n))), (3, .int (nI (cl c))), (4, .long (lN v14.2.2.2.2.2.2.1)), (6, .long (lN v14.2.2.2.2.2.2.2)), (8, .int (nI k14)), (11, .int (nI k16))]) hx hb dX3_odds_105 hl (by decide) rfl (fun ls hl => ?_)
                refine lv_iinc (v := (nI (k16 + 1))) (lv' := [(11, .int (nI (k16 + 1))), (9, .long (lN (v16 * (10 - (cl c))))), (0, .ref (a 0)), (1, .int (nI (cl p))), (2, .int (nI (cl n))), (3, .int (nI (cl c))), (4, .long (lN v14.2.2.2.2.2.2.1)), (6, .long (lN v14.2.2.2.2.2.2.2)), (8, .int (nI k14))]) hx hb dX3_odds_107 hl (k := 8) rfl (wl_inc k16 1) (by decide) rfl (fun ls hl => ?_)
                refine lv_goto (tgt := 75) hx hb dX3_odds_110 (by decide) ?_
                exact IH16 _ hb16 (by show (v16 * (10 - (cl c))) ≤ 10 ^ (k16 + 1); exact (Nat.mul_le_mul c9 (by omega))) ls H locs hP hD hS (lv_sub hl [2, 3, 4, 5, 6, 7, 8, 1, 0] rfl)
              · have hb16 := hb16.trans (if_pos c19)
                refine lv_iload_n hx hb dX3_odds_94 rfl (lv_at hl 3 rfl) ?_
                refine lv_i2l hx hb dX3_odds_95 (nI_l (by omega)) ?_
                refine lv_goto (tgt := 104) hx hb dX3_odds_96 (by decide) ?_
                refine lv_lmul hx hb dX3_odds_104 ?_
                refine wl_reL (show lN v16 * lN (cl c) = lN (v16 * (cl c)) from lN_mul v16 (cl c)) ?_
                refine lv_lstore (lv' := [(9, .long (lN (v16 * (cl c)))), (0, .ref (a 0)), (1, .int (nI (cl p))), (2, .int (nI (cl n))), (3, .int (nI (cl c))), (4, .long (lN v14.2.2.2.2.2.2.1)), (6, .long (lN v14.2.2.2.2.2.2.2)), (8, .int (nI k14)), (11, .int (nI k16))]) hx hb dX3_odds_105 hl (by decide) rfl (fun ls hl => ?_)
                refine lv_iinc (v := (nI (k16 + 1))) (lv' := [(11, .int (nI (k16 + 1))), (9, .long (lN (v16 * (cl c)))), (0, .ref (a 0)), (1, .int (nI (cl p))), (2, .int (nI (cl n))), (3, .int (nI (cl c))), (4, .long (lN v14.2.2.2.2.2.2.1)), (6, .long (lN v14.2.2.2.2.2.2.2)), (8, .int (nI k14))]) hx hb dX3_odds_107 hl (k := 8) rfl (wl_inc k16 1) (by decide) rfl (fun ls hl => ?_)
                refine lv_goto (tgt := 75) hx hb dX3_odds_110 (by decide) ?_
                exact IH16 _ hb16 (by show (v16 * (cl c)) ≤ 10 ^ (k16 + 1); exact (Nat.mul_le_mul c9 (by omega))) ls H locs hP hD hS (lv_sub hl [2, 3, 4, 5, 6, 7, 8, 1, 0] rfl)
        · have hm := hm.trans (if_pos c13)
          refine lv_aload_n hx hb dX3_odds_47 rfl (lv_at hl 0 rfl) ?_
          refine wl_callVi hC (c_X3_refuseNo  ) lk_RX3_113 rfl ⟨rfl, rfl, Nat.le_of_ble_eq_true rfl, Nat.le_of_ble_eq_true rfl⟩ hP hD hS hA 0 rfl (T1 := 11) rfl hl.1 rfl (Nat.le_of_ble_eq_true rfl) dX3_odds_48 ⟨Nat.zero_le _, Nat.zero_le _⟩ (fun z25 hz25 H locs hP hD hS => ?_)
          have hm := wl_bz hm hz25
          exact wl_iret hC hr hlk hm rfl hP hD hS dX3_odds_51
      · have hm := hm.trans (if_neg c10)
        refine lv_aload_n hx hb dX3_odds_28 rfl (lv_at hl 0 rfl) ?_
        refine wl_callVi hC (c_X3_refuseBad  ) lk_RX3_52 rfl ⟨rfl, rfl, Nat.le_of_ble_eq_true rfl, Nat.le_of_ble_eq_true rfl⟩ hP hD hS hA 0 rfl (T1 := 11) rfl hl.1 rfl (Nat.le_of_ble_eq_true rfl) dX3_odds_29 ⟨Nat.zero_le _, Nat.zero_le _⟩ (fun z26 hz26 H locs hP hD hS => ?_)
        have hm := wl_bz hm hz26
        exact wl_iret hC hr hlk hm rfl hP hD hS dX3_odds_32
set_option maxHeartbeats 4000000 in
set_option maxRecDepth 100000 in
theorem c_X1_copyFrom__X_6_1 {l : Launch} {D : va_G} {E : Nat → ClassId} {a : Nat → Nat} {fabove : Int64} {fbelow : Int64} {rbad : Int32} {rno : Int32} {rfull : Int32} {counts0 : Int32} {people0 : Nat} {day0 : Int32} {listed0 : Int32} {followed0 : Int32} {struck0 : Int32} {noted0 : Nat} {undoable0 : Nat} {kinds0 : (Nat → Int32)} {tempers0 : (Nat → Int32)} {notes0 : (Nat → Int32)} {past0 : (Nat → Int32)} {counts1 : Int32} {people1 : Nat} {day1 : Int32} {listed1 : Int32} {followed1 : Int32} {struck1 : Int32} {noted1 : Nat} {undoable1 : Nat} {kinds1 : (Nat → Int32)} {tempers1 : (Nat → Int32)} {notes1 : (Nat → Int32)} {past1 : (Nat → Int32)} {counts2 : Int32} {people2 : Nat} {day2 : Int32} {listed2 : Int32} {followed2 : Int32} {struck2 : Int32} {noted2 : Nat} {undoable2 : Nat} {kinds2 : (Nat → Int32)} {tempers2 : (Nat → Int32)} {notes2 : (Nat → Int32)} {past2 : (Nat → Int32)} {counts3 : Int32} {people3 : Nat} {day3 : Int32} {listed3 : Int32} {followed3 : Int32} {struck3 : Int32} {noted3 : Nat} {undoable3 : Nat} {kinds3 : (Nat → Int32)} {tempers3 : (Nat → Int32)} {notes3 : (Nat → Int32)} {past3 : (Nat → Int32)} {keptz : (Nat → Int32)} {wkind : Int32} {wtemper : Int32} {wcounts : Int32} {wday : Int32} {wlisted : Bool} {wfollowed : Bool} {xlength : Nat} {xstart : Nat} {xbehind : Nat} {xsort : Int32} {xnumber : Int32} {xbytes : (Nat → Int32)}  : wl_Met (τ := Int32 × Nat × Int32 × Int32 × Int32 × Int32 × Nat × Nat × (Nat → Int32) × (Nat → Int32) × (Nat → Int32) × (Nat → Int32)) l D E yX1_copyFrom cX1_copyFrom 2 none ({ frames := 1, cells := 0, slots := 0, locals := 40 } : Room) [.ref (a 6), .ref (a 1)] (wX E a fabove fbelow rbad rno rfull counts0 people0 day0 listed0 followed0 struck0 noted0 undoable0 kinds0 tempers0 notes0 past0 counts1 people1 day1 listed1 followed1 struck1 noted1 undoable1 kinds1 tempers1 notes1 past1 counts2 people2 day2 listed2 followed2 struck2 noted2 undoable2 kinds2 tempers2 notes2 past2 counts3 people3 day3 listed3 followed3 struck3 noted3 undoable3 kinds3 tempers3 notes3 past3 keptz wkind wtemper wcounts wday wlisted wfollowed xlength xstart xbehind xsort xnumber xbytes) (fun _ => none) (fun z => (wX E a fabove fbelow rbad rno rfull counts0 people0 day0 listed0 followed0 struck0 noted0 undoable0 kinds0 tempers0 notes0 past0 z.1 z.2.1 z.2.2.1 z.2.2.2.1 z.2.2.2.2.1 z.2.2.2.2.2.1 z.2.2.2.2.2.2.1 z.2.2.2.2.2.2.2.1 z.2.2.2.2.2.2.2.2.1 z.2.2.2.2.2.2.2.2.2.1 z.2.2.2.2.2.2.2.2.2.2.1 z.2.2.2.2.2.2.2.2.2.2.2 counts2 people2 day2 listed2 followed2 struck2 noted2 undoable2 kinds2 tempers2 notes2 past2 counts3 people3 day3 listed3 followed3 struck3 noted3 undoable3 kinds3 tempers3 notes3 past3 keptz wkind wtemper wcounts wday wlisted wfollowed xlength xstart xbehind xsort xnumber xbytes)) (m_X1_copyFrom kinds1 tempers1 notes1 past1 counts0 people0 day0 listed0 followed0 struck0 noted0 undoable0 kinds0 tempers0 notes0 past0) :=
  wl_lift (c_X1_copyFrom (a := (fun k => a ([6, 7, 8, 9, 10, 1, 2, 3, 4, 5].getD k 0))) (counts := counts1) (people := people1) (day := day1) (listed := listed1) (followed := followed1) (struck := struck1) (noted := noted1) (undoable := undoable1) (kinds := kinds1) (tempers := tempers1) (notes := notes1) (past := past1) (countsb := counts0) (peopleb := people0) (dayb := day0) (listedb := listed0) (followedb := followed0) (struckb := struck0) (notedb := noted0) (undoableb := undoable0) (kindsb := kinds0) (tempersb := tempers0) (notesb := notes0) (pastb := past0)  ) [6, 7, 8, 9, 10, 1, 2, 3, 4, 5] [0, 11, 12, 13, 14, 15, 16, 17, 18, 19, 20, 21, 22, 23, 24, 25] [0, 21, 22, 23, 24, 25, 16, 17, 18, 19, 20, 1, 2, 3, 4, 5, 6, 7, 8, 9, 10, 11, 12, 13, 14, 15] (wr := ([0, 11, 12, 13, 14, 15, 16, 17, 18, 19, 20, 21, 22, 23, 24, 25].filterMap (fun i => (wX E a fabove fbelow rbad rno rfull counts0 people0 day0 listed0 followed0 struck0 noted0 undoable0 kinds0 tempers0 notes0 past0 counts1 people1 day1 listed1 followed1 struck1 noted1 undoable1 kinds1 tempers1 notes1 past1 counts2 people2 day2 listed2 followed2 struck2 noted2 undoable2 kinds2 tempers2 notes2 past2 counts3 people3 day3 listed3 followed3 struck3 noted3 undoable3 kinds3 tempers3 notes3 past3 keptz wkind wtemper wcounts wday wlisted wfollowed xlength xstart xbehind xsort xnumber xbytes)[i]?))) rfl rfl (by decide) (by decide) (by decide) (by decide) (fun _ => rfl)
set_option maxHeartbeats 4000000 in
set_option maxRecDepth 100000 in
theorem c_X1_goBy__X_6_23 {l : Launch} {D : va_G} {E : Nat → ClassId} {a : Nat → Nat} {fabove : Int64} {fbelow : Int64} {rbad : Int32} {rno : Int32} {rfull : Int32} {counts0 : Int32} {people0 : Nat} {day0 : Int32} {listed0 : Int32} {followed0 : Int32} {struck0 : Int32} {noted0 : Nat} {undoable0 : Nat} {kinds0 : (Nat → Int32)} {tempers0 : (Nat → Int32)} {notes0 : (Nat → Int32)} {past0 : (Nat → Int32)} {counts1 : Int32} {people1 : Nat} {day1 : Int32} {listed1 : Int32} {followed1 : Int32} {struck1 : Int32} {noted1 : Nat} {undoable1 : Nat} {kinds1 : (Nat → Int32)} {tempers1 : (Nat → Int32)} {notes1 : (Nat → Int32)} {past1 : (Nat → Int32)} {counts2 : Int32} {people2 : Nat} {day2 : Int32} {listed2 : Int32} {followed2 : Int32} {struck2 : Int32} {noted2 : Nat} {undoable2 : Nat} {kinds2 : (Nat → Int32)} {tempers2 : (Nat → Int32)} {notes2 : (Nat → Int32)} {past2 : (Nat → Int32)} {counts3 : Int32} {people3 : Nat} {day3 : Int32} {listed3 : Int32} {followed3 : Int32} {struck3 : Int32} {noted3 : Nat} {undoable3 : Nat} {kinds3 : (Nat → Int32)} {tempers3 : (Nat → Int32)} {notes3 : (Nat → Int32)} {past3 : (Nat → Int32)} {keptz : (Nat → Int32)} {wkind : Int32} {wtemper : Int32} {wcounts : Int32} {wday : Int32} {wlisted : Bool} {wfollowed : Bool} {xlength : Nat} {xstart : Nat} {xbehind : Nat} {xsort : Int32} {xnumber : Int32} {xbytes : (Nat → Int32)}  (hP7 : people1 ≤ 7) : wl_Met (τ := Int32 × Int32 × Int32 × Int32 × Int32 × (Nat → Int32) × Int32 × Int32 × Int32 × Int32 × Bool × Bool) l D E yX1_goBy cX1_goBy 4 (some .int) ({ frames := 4, cells := 0, slots := 0, locals := 92 } : Room) [.ref (a 6), .ref (a 23)] (wX E a fabove fbelow rbad rno rfull counts0 people0 day0 listed0 followed0 struck0 noted0 undoable0 kinds0 tempers0 notes0 past0 counts1 people1 day1 listed1 followed1 struck1 noted1 undoable1 kinds1 tempers1 notes1 past1 counts2 people2 day2 listed2 followed2 struck2 noted2 undoable2 kinds2 tempers2 notes2 past2 counts3 people3 day3 listed3 followed3 struck3 noted3 undoable3 kinds3 tempers3 notes3 past3 keptz wkind wtemper wcounts wday wlisted wfollowed xlength xstart xbehind xsort xnumber xbytes) (fun z => some (.int z.1)) (fun z => (wX E a fabove fbelow rbad rno rfull counts0 people0 day0 listed0 followed0 struck0 noted0 undoable0 kinds0 tempers0 notes0 past0 counts1 people1 z.2.1 z.2.2.1 z.2.2.2.1 z.2.2.2.2.1 noted1 undoable1 kinds1 z.2.2.2.2.2.1 notes1 past1 counts2 people2 day2 listed2 followed2 struck2 noted2 undoable2 kinds2 tempers2 notes2 past2 counts3 people3 day3 listed3 followed3 struck3 noted3 undoable3 kinds3 tempers3 notes3 past3 keptz z.2.2.2.2.2.2.1 z.2.2.2.2.2.2.2.1 z.2.2.2.2.2.2.2.2.1 z.2.2.2.2.2.2.2.2.2.1 z.2.2.2.2.2.2.2.2.2.2.1 z.2.2.2.2.2.2.2.2.2.2.2 xlength xstart xbehind xsort xnumber xbytes)) (m_X1_goBy counts1 people1 day1 listed1 followed1 struck1 kinds1 tempers1 wkind wtemper wcounts wday wlisted wfollowed) :=
  wl_lift (c_X1_goBy (a := (fun k => a ([6, 7, 8, 9, 10, 23].getD k 0))) (counts := counts1) (people := people1) (day := day1) (listed := listed1) (followed := followed1) (struck := struck1) (noted := noted1) (undoable := undoable1) (kinds := kinds1) (tempers := tempers1) (notes := notes1) (past := past1) (wkind := wkind) (wtemper := wtemper) (wcounts := wcounts) (wday := wday) (wlisted := wlisted) (wfollowed := wfollowed)  hP7) [6, 7, 8, 9, 10, 23] [0, 1, 2, 3, 4, 5, 11, 12, 13, 14, 15, 16, 17, 18, 19, 20, 21, 22, 24, 25] [0, 1, 2, 3, 4, 5, 20, 21, 22, 23, 24, 6, 7, 8, 9, 10, 11, 12, 13, 14, 15, 16, 17, 25, 18, 19] (wr := ([0, 1, 2, 3, 4, 5, 11, 12, 13, 14, 15, 16, 17, 18, 19, 20, 21, 22, 24, 25].filterMap (fun i => (wX E a fabove fbelow rbad rno rfull counts0 people0 day0 listed0 followed0 struck0 noted0 undoable0 kinds0 tempers0 notes0 past0 counts1 people1 day1 listed1 followed1 struck1 noted1 undoable1 kinds1 tempers1 notes1 past1 counts2 people2 day2 listed2 followed2 struck2 noted2 undoable2 kinds2 tempers2 notes2 past2 counts3 people3 day3 listed3 followed3 struck3 noted3 undoable3 kinds3 tempers3 notes3 past3 keptz wkind wtemper wcounts wday wlisted wfollowed xlength xstart xbehind xsort xnumber xbytes)[i]?))) rfl rfl (by decide) (by decide) (by decide) (by decide) (fun _ => rfl)
def m_X3_years_l54 (k10 : Nat) (v10 : Int32 × Int64) : Int32 × Int64 := (wl_bnd (m_X3_withBit v10.1 k10 ((((((v10.2 * (lN 1103515245)) + (lN 12345)) - ((v10.2 * (lN 1103515245)) + (lN 12345)) / (lN 2147483648) * (lN 2147483648)) / (lN 65536)) - ((((v10.2 * (lN 1103515245)) + (lN 12345)) - ((v10.2 * (lN 1103515245)) + (lN 12345)) / (lN 2147483648) * (lN 2147483648)) / (lN 65536)) / (lN 2) * (lN 2)).toInt32)) (fun z12 => (z12, (((v10.2 * (lN 1103515245)) + (lN 12345)) - ((v10.2 * (lN 1103515245)) + (lN 12345)) / (lN 2147483648) * (lN 2147483648)))))
def m_X3_years_l45 (z7 : Int32 × Nat × Int32 × Int32 × Int32 × Int32 × Nat × Nat × (Nat → Int32) × (Nat → Int32) × (Nat → Int32) × (Nat → Int32)) (k8 : Nat) (v8 : Int32 × Int32 × Int32 × Int32 × (Nat → Int32) × Int32 × Int32 × Int32 × Int32 × Bool × Bool × Int64 × Int32) : Int32 × Int32 × Int32 × Int32 × (Nat → Int32) × Int32 × Int32 × Int32 × Int32 × Bool × Bool × Int64 × Int32 := (wl_bnd (wl_iter m_X3_years_l54 z7.2.1 0 (v8.2.2.1, v8.2.2.2.2.2.2.2.2.2.2.2.1)) (fun z10 => (wl_bnd (m_X1_goBy z7.1 z7.2.1 v8.1 v8.2.1 z10.1 v8.2.2.2.1 z7.2.2.2.2.2.2.2.2.1 v8.2.2.2.2.1 v8.2.2.2.2.2.1 v8.2.2.2.2.2.2.1 v8.2.2.2.2.2.2.2.1 v8.2.2.2.2.2.2.2.2.1 v8.2.2.2.2.2.2.2.2.2.1 v8.2.2.2.2.2.2.2.2.2.2.1) (fun z14 => (wl_bnd (m_J6_bitCount_0f7a4 z14.1) (fun z15 => (z14.2.1, z14.2.2.1, z14.2.2.2.1, z14.2.2.2.2.1, z14.2.2.2.2.2.1, z14.2.2.2.2.2.2.1, z14.2.2.2.2.2.2.2.1, z14.2.2.2.2.2.2.2.2.1, z14.2.2.2.2.2.2.2.2.2.1, z14.2.2.2.2.2.2.2.2.2.2.1, z14.2.2.2.2.2.2.2.2.2.2.2, z10.2, (v8.2.2.2.2.2.2.2.2.2.2.2.2 + z15))))))))
def m_X3_years (rbad : Int32) (counts0 : Int32) (people0 : Nat) (day0 : Int32) (listed0 : Int32) (followed0 : Int32) (struck0 : Int32) (noted0 : Nat) (undoable0 : Nat) (kinds0 : (Nat → Int32)) (tempers0 : (Nat → Int32)) (notes0 : (Nat → Int32)) (past0 : (Nat → Int32)) (counts1 : Int32) (people1 : Nat) (day1 : Int32) (listed1 : Int32) (followed1 : Int32) (struck1 : Int32) (noted1 : Nat) (undoable1 : Nat) (kinds1 : (Nat → Int32)) (tempers1 : (Nat → Int32)) (notes1 : (Nat → Int32)) (past1 : (Nat → Int32)) (wkind : Int32) (wtemper : Int32) (wcounts : Int32) (wday : Int32) (wlisted : Bool) (wfollowed : Bool) (seed : Int32) (n : Int32) : Int32 × Int32 × Int32 × Nat × Int32 × Int32 × Int32 × Int32 × Nat × Nat × (Nat → Int32) × (Nat → Int32) × (Nat → Int32) × (Nat → Int32) × Int32 × Int32 × Int32 × Int32 × Bool × Bool := (wl_bnd (m_X3_isWithin seed (nI 0) (999999)) (fun z1 => (if z1 = true then (wl_bnd (m_X3_isWithin n (nI 0) (nI 60)) (fun z4 => (if z4 = true then (wl_bnd (m_X1_copyFrom kinds1 tempers1 notes1 past1 counts0 people0 day0 listed0 followed0 struck0 noted0 undoable0 kinds0 tempers0 notes0 past0) (fun z7 => (wl_bnd (wl_iter (m_X3_years_l45 z7) (cl n) 0 (z7.2.2.1, z7.2.2.2.1, z7.2.2.2.2.1, z7.2.2.2.2.2.1, z7.2.2.2.2.2.2.2.2.2.1, wkind, wtemper, wcounts, wday, wlisted, wfollowed, seed.toInt64, (nI 0))) (fun z8 => (z8.2.2.2.2.2.2.2.2.2.2.2.2, rbad, z7.1, z7.2.1, z8.1, z8.2.1, z8.2.2.1, z8.2.2.2.1, z7.2.2.2.2.2.2.1, z7.2.2.2.2.2.2.2.1, z7.2.2.2.2.2.2.2.2.1, z8.2.2.2.2.1, z7.2.2.2.2.2.2.2.2.2.2.1, z7.2.2.2.2.2.2.2.2.2.2.2, z8.2.2.2.2.2.1, z8.2.2.2.2.2.2.1, z8.2.2.2.2.2.2.2.1, z8.2.2.2.2.2.2.2.2.1, z8.2.2.2.2.2.2.2.2.2.1, z8.2.2.2.2.2.2.2.2.2.2.1))))) else (wl_bnd (m_X3_refuseBad rbad) (fun z17 => (z17.1, z17.2, counts1, people1, day1, listed1, followed1, struck1, noted1, undoable1, kinds1, tempers1, notes1, past1, wkind, wtemper, wcounts, wday, wlisted, wfollowed)))))) else (wl_bnd (m_X3_refuseBad rbad) (fun z3 => (z3.1, z3.2, counts1, people1, day1, listed1, followed1, struck1, noted1, undoable1, kinds1, tempers1, notes1, past1, wkind, wtemper, wcounts, wday, wlisted, wfollowed))))))
set_option maxHeartbeats 4000000 in
set_option maxRecDepth 100000 in
theorem c_X3_years {l : Launch} {D : va_G} {E : Nat → ClassId} {a : Nat → Nat} {fabove : Int64} {fbelow : Int64} {rbad : Int32} {rno : Int32} {rfull : Int32} {counts0 : Int32} {people0 : Nat} {day0 : Int32} {listed0 : Int32} {followed0 : Int32} {struck0 : Int32} {noted0 : Nat} {undoable0 : Nat} {kinds0 : (Nat → Int32)} {tempers0 : (Nat → Int32)} {notes0 : (Nat → Int32)} {past0 : (Nat → Int32)} {counts1 : Int32} {people1 : Nat} {day1 : Int32} {listed1 : Int32} {followed1 : Int32} {struck1 : Int32} {noted1 : Nat} {undoable1 : Nat} {kinds1 : (Nat → Int32)} {tempers1 : (Nat → Int32)} {notes1 : (Nat → Int32)} {past1 : (Nat → Int32)} {counts2 : Int32} {people2 : Nat} {day2 : Int32} {listed2 : Int32} {followed2 : Int32} {struck2 : Int32} {noted2 : Nat} {undoable2 : Nat} {kinds2 : (Nat → Int32)} {tempers2 : (Nat → Int32)} {notes2 : (Nat → Int32)} {past2 : (Nat → Int32)} {counts3 : Int32} {people3 : Nat} {day3 : Int32} {listed3 : Int32} {followed3 : Int32} {struck3 : Int32} {noted3 : Nat} {undoable3 : Nat} {kinds3 : (Nat → Int32)} {tempers3 : (Nat → Int32)} {notes3 : (Nat → Int32)} {past3 : (Nat → Int32)} {keptz : (Nat → Int32)} {wkind : Int32} {wtemper : Int32} {wcounts : Int32} {wday : Int32} {wlisted : Bool} {wfollowed : Bool} {xlength : Nat} {xstart : Nat} {xbehind : Nat} {xsort : Int32} {xnumber : Int32} {xbytes : (Nat → Int32)} {seed : Int32} {n : Int32} (hP7 : people0 ≤ 7) : wl_Met (τ := Int32 × Int32 × Int32 × Nat × Int32 × Int32 × Int32 × Int32 × Nat × Nat × (Nat → Int32) × (Nat → Int32) × (Nat → Int32) × (Nat → Int32) × Int32 × Int32 × Int32 × Int32 × Bool × Bool) l D E yX3_years cX3_years 8 (some .int) ({ frames := 5, cells := 0, slots := 0, locals := 115 } : Room) [.ref (a 0), .int seed, .int n] (wX E a fabove fbelow rbad rno rfull counts0 people0 day0 listed0 followed0 struck0 noted0 undoable0 kinds0 tempers0 notes0 past0 counts1 people1 day1 listed1 followed1 struck1 noted1 undoable1 kinds1 tempers1 notes1 past1 counts2 people2 day2 listed2 followed2 struck2 noted2 undoable2 kinds2 tempers2 notes2 past2 counts3 people3 day3 listed3 followed3 struck3 noted3 undoable3 kinds3 tempers3 notes3 past3 keptz wkind wtemper wcounts wday wlisted wfollowed xlength xstart xbehind xsort xnumber xbytes) (fun z => some (.int z.1)) (fun z => (wX E a fabove fbelow z.2.1 rno rfull counts0 people0 day0 listed0 followed0 struck0 noted0 undoable0 kinds0 tempers0 notes0 past0 z.2.2.1 z.2.2.2.1 z.2.2.2.2.1 z.2.2.2.2.2.1 z.2.2.2.2.2.2.1 z.2.2.2.2.2.2.2.1 z.2.2.2.2.2.2.2.2.1 z.2.2.2.2.2.2.2.2.2.1 z.2.2.2.2.2.2.2.2.2.2.1 z.2.2.2.2.2.2.2.2.2.2.2.1 z.2.2.2.2.2.2.2.2.2.2.2.2.1 z.2.2.2.2.2.2.2.2.2.2.2.2.2.1 counts2 people2 day2 listed2 followed2 struck2 noted2 undoable2 kinds2 tempers2 notes2 past2 counts3 people3 day3 listed3 followed3 struck3 noted3 undoable3 kinds3 tempers3 notes3 past3 keptz z.2.2.2.2.2.2.2.2.2.2.2.2.2.2.1 z.2.2.2.2.2.2.2.2.2.2.2.2.2.2.2.1 z.2.2.2.2.2.2.2.2.2.2.2.2.2.2.2.2.1 z.2.2.2.2.2.2.2.2.2.2.2.2.2.2.2.2.2.1 z.2.2.2.2.2.2.2.2.2.2.2.2.2.2.2.2.2.2.1 z.2.2.2.2.2.2.2.2.2.2.2.2.2.2.2.2.2.2.2 xlength xstart xbehind xsort xnumber xbytes)) (m_X3_years rbad counts0 people0 day0 listed0 followed0 struck0 noted0 undoable0 kinds0 tempers0 notes0 past0 counts1 people1 day1 listed1 followed1 struck1 noted1 undoable1 kinds1 tempers1 notes1 past1 wkind wtemper wcounts wday wlisted wfollowed seed n) := by
  refine wl_enter (own := RX3) (by decide +kernel) rfl (Nat.le_of_ble_eq_true rfl) ?_
  intro p0 e0 s0 m0 bl0 mt0 c0 A hC hr hlk hA H locs hP hD hS ls hl
  have hx := hC.1
  have hb := hC.2.1
  have hl : lv_has ls 8 [(0, .ref (a 0)), (1, .int seed), (2, .int n)] := hl
  have hm := m_X3_years.eq_1 rbad counts0 people0 day0 listed0 followed0 struck0 noted0 undoable0 kinds0 tempers0 notes0 past0 counts1 people1 day1 listed1 followed1 struck1 noted1 undoable1 kinds1 tempers1 notes1 past1 wkind wtemper wcounts wday wlisted wfollowed seed n
  refine lv_iload_n hx hb dX3_years_0 rfl (lv_at hl 1 rfl) ?_
  refine lv_iconst (v := (nI 0)) hx hb dX3_years_1 (by decide +kernel) ?_
  refine lv_ldc hx hb hC.2.2.2.1 (hC.2.2.2.2.1 _ mw_362) dX3_years_2 ?_
  refine wl_callPi hC (c_X3_isWithin (v := seed) (least := (nI 0)) (most := (999999)) ) lk_RX3_48 rfl ⟨rfl, rfl, Nat.le_of_ble_eq_true rfl, Nat.le_of_ble_eq_true rfl⟩ hP hS hA hl.1 rfl (Nat.le_of_ble_eq_true rfl) dX3_years_4 ⟨Nat.zero_le _, Nat.zero_le _⟩ (fun z1 hz1 H locs hP hS => ?_)
  have hm := wl_bz hm hz1
  refine wl_if_eq_b hx hb (tgt := 20) dX3_years_7 (by decide) (fun c2 => ?_) (fun c2 => ?_)
  · have hm := hm.trans (if_neg c2)
    refine lv_aload_n hx hb dX3_years_20 rfl (lv_at hl 0 rfl) ?_
    refine wl_callVi hC (c_X3_refuseBad  ) lk_RX3_52 rfl ⟨rfl, rfl, Nat.le_of_ble_eq_true rfl, Nat.le_of_ble_eq_true rfl⟩ hP hD hS hA 0 rfl (T1 := 11) rfl hl.1 rfl (Nat.le_of_ble_eq_true rfl) dX3_years_21 ⟨Nat.zero_le _, Nat.zero_le _⟩ (fun z3 hz3 H locs hP hD hS => ?_)
    have hm := wl_bz hm hz3
    exact wl_iret hC hr hlk hm rfl hP hD hS dX3_years_24
  · have hm := hm.trans (if_pos c2)
    refine lv_iload_n hx hb dX3_years_10 rfl (lv_at hl 2 rfl) ?_
    refine lv_iconst (v := (nI 0)) hx hb dX3_years_11 (by decide +kernel) ?_
    refine lv_bipush (v := (nI 60)) hx hb dX3_years_12 (by decide +kernel) ?_
    refine wl_callPi hC (c_X3_isWithin (v := n) (least := (nI 0)) (most := (nI 60)) ) lk_RX3_48 rfl ⟨rfl, rfl, Nat.le_of_ble_eq_true rfl, Nat.le_of_ble_eq_true rfl⟩ hP hS hA hl.1 rfl (Nat.le_of_ble_eq_true rfl) dX3_years_14 ⟨Nat.zero_le _, Nat.zero_le _⟩ (fun z4 hz4 H locs hP hS => ?_)
    have hm := wl_bz hm hz4
    refine wl_if_ne_b hx hb (tgt := 25) dX3_years_17 (by decide) (fun c5 => ?_) (fun c5 => ?_)
    · have hm := hm.trans (if_pos c5)
      obtain ⟨ha6, hb6_, hc6_⟩ := within_spec (a := 0) (b := 60) (by decide) (by decide) (hz4.symm.trans c5)
      have hl : lv_has ls 8 [(0, .ref (a 0)), (1, .int seed), (2, .int (nI (cl n)))] := by rw [← ha6]; exact hl
      refine lv_aload_n hx hb dX3_years_25 rfl (lv_at hl 0 rfl) ?_
      refine g_X_0_spare hC hP mw_203 dX3_years_26 ?_
      refine lv_aload_n hx hb dX3_years_29 rfl (lv_at hl 0 rfl) ?_
      refine g_X_0_now hC hP mw_202 dX3_years_30 ?_
      refine wl_callVv hC (c_X1_copyFrom__X_6_1  ) lk_RX3_82 rfl ⟨rfl, rfl, Nat.le_of_ble_eq_true rfl, Nat.le_of_ble_eq_true rfl⟩ hP hD hS hA 6 rfl (T1 := 12) rfl hl.1 rfl (Nat.le_of_ble_eq_true rfl) dX3_years_33 ⟨Nat.zero_le _, Nat.zero_le _⟩ (fun z7 hz7 H locs hP hD hS => ?_)
      have hm := wl_bz hm hz7
      have hq_ : z7.2.1 ≤ 7 := by rw [hz7]; exact hP7
      refine lv_iload_n hx hb dX3_years_36 rfl (lv_at hl 1 rfl) ?_
      refine lv_i2l (v := seed.toInt64) hx hb dX3_years_37 rfl ?_
      refine lv_lstore_n (lv' := [(3, .long seed.toInt64), (0, .ref (a 0)), (1, .int seed), (2, .int (nI (cl n)))]) hx hb dX3_years_38 rfl hl (by decide) rfl (fun ls hl => ?_)
      refine lv_iconst (v := (nI 0)) hx hb dX3_years_39 (by decide +kernel) ?_
      refine lv_istore (lv' := [(5, .int (nI 0)), (3, .long seed.toInt64), (0, .ref (a 0)), (1, .int seed), (2, .int (nI (cl n)))]) hx hb dX3_years_40 hl (by decide) rfl (fun ls hl => ?_)
      refine lv_iconst (v := (nI 0)) hx hb dX3_years_42 (by decide +kernel) ?_
      refine lv_istore (lv' := [(6, .int (nI 0)), (5, .int (nI 0)), (3, .long seed.toInt64), (0, .ref (a 0)), (1, .int seed), (2, .int (nI (cl n)))]) hx hb dX3_years_43 hl (by decide) rfl (fun ls hl => ?_)
      obtain ⟨u8, hu8, hk8⟩ := wl_bx hm
      refine wl_for (D := D) (A := A) (H0 := s0.heap) (m_X3_years_l45 z7) (cl n) 0 (cl n) (z7.2.2.1, z7.2.2.2.1, z7.2.2.2.2.1, z7.2.2.2.2.2.1, z7.2.2.2.2.2.2.2.2.2.1, wkind, wtemper, wcounts, wday, wlisted, wfollowed, seed.toInt64, (nI 0)) 45 8 (fun k8 v8 => [(0, .ref (a 0)), (2, .int (nI (cl n))), (3, .long v8.2.2.2.2.2.2.2.2.2.2.2.1), (5, .int v8.2.2.2.2.2.2.2.2.2.2.2.2), (6, .int (nI k8))]) (fun k8 v8 => (wX E a fabove fbelow rbad rno rfull counts0 people0 day0 listed0 followed0 struck0 noted0 undoable0 kinds0 tempers0 notes0 past0 z7.1 z7.2.1 v8.1 v8.2.1 v8.2.2.1 v8.2.2.2.1 z7.2.2.2.2.2.2.1 z7.2.2.2.2.2.2.2.1 z7.2.2.2.2.2.2.2.2.1 v8.2.2.2.2.1 z7.2.2.2.2.2.2.2.2.2.2.1 z7.2.2.2.2.2.2.2.2.2.2.2 counts2 people2 day2 listed2 followed2 struck2 noted2 undoable2 kinds2 tempers2 notes2 past2 counts3 people3 day3 listed3 followed3 struck3 noted3 undoable3 kinds3 tempers3 notes3 past3 keptz v8.2.2.2.2.2.1 v8.2.2.2.2.2.2.1 v8.2.2.2.2.2.2.2.1 v8.2.2.2.2.2.2.2.2.1 v8.2.2.2.2.2.2.2.2.2.1 v8.2.2.2.2.2.2.2.2.2.2.1 xlength xstart xbehind xsort xnumber xbytes)) (fun k8 v8 => True) (by omega) trivial ?_ ?_ hP hD hS (lv_sub hl [3, 5, 2, 1, 0] rfl)
      · intro z8 hv8 hI8 ls H locs hP hD hS hl
        have hm := hk8 z8 (hu8.trans hv8)
        refine lv_iload hx hb dX3_years_45 (lv_at hl 4 rfl) ?_
        refine lv_iload_n hx hb dX3_years_47 rfl (lv_at hl 1 rfl) ?_
        refine wl_icmp_ge_n hx hb (by first | omega | exact Nat.lt_of_le_of_lt Nat.and_le_right (by omega) | exact Nat.pow_lt_pow_right (by omega) (by omega) | exact Nat.lt_trans (by assumption) (Nat.pow_lt_pow_right (by omega) (by omega))) (by first | omega | exact Nat.lt_of_le_of_lt Nat.and_le_right (by omega) | exact Nat.pow_lt_pow_right (by omega) (by omega) | exact Nat.lt_trans (by assumption) (Nat.pow_lt_pow_right (by omega) (by omega))) (tgt := 140) dX3_years_48 (by decide) (fun c16 => ?_) (fun c16 => absurd (by omega) c16)
        refine lv_iload hx hb dX3_years_140 (lv_at hl 3 rfl) ?_
        exact wl_iret hC hr hlk hm rfl hP hD hS dX3_years_142
      · intro k8 v8 hlo8 hhi8 hI8 IH8 ls H locs hP hD hS hl
        have hb8 := m_X3_years_l45.eq_1 z7 k8 v8
        refine lv_iload hx hb dX3_years_45 (lv_at hl 4 rfl) ?_
        refine lv_iload_n hx hb dX3_years_47 rfl (lv_at hl 1 rfl) ?_
        refine wl_icmp_ge_n hx hb (by first | omega | exact Nat.lt_of_le_of_lt Nat.and_le_right (by omega) | exact Nat.pow_lt_pow_right (by omega) (by omega) | exact Nat.lt_trans (by assumption) (Nat.pow_lt_pow_right (by omega) (by omega))) (by first | omega | exact Nat.lt_of_le_of_lt Nat.and_le_right (by omega) | exact Nat.pow_lt_pow_right (by omega) (by omega) | exact Nat.lt_trans (by assumption) (Nat.pow_lt_pow_right (by omega) (by omega))) (tgt := 140) dX3_years_48 (by decide) (fun c9 => absurd c9 (by omega)) (fun c9 => ?_)
        refine lv_iconst (v := (nI 0)) hx hb dX3_years_51 (by decide +kernel) ?_
        refine lv_istore (lv' := [(7, .int (nI 0)), (0, .ref (a 0)), (2, .int (nI (cl n))), (3, .long v8.2.2.2.2.2.2.2.2.2.2.2.1), (5, .int v8.2.2.2.2.2.2.2.2.2.2.2.2), (6, .int (nI k8))]) hx hb dX3_years_52 hl (by decide) rfl (fun ls hl => ?_)
        obtain ⟨u10, hu10, hk10⟩ := wl_bx hb8
        refine wl_for (D := D) (A := A) (H0 := s0.heap) m_X3_years_l54 z7.2.1 0 z7.2.1 (v8.2.2.1, v8.2.2.2.2.2.2.2.2.2.2.2.1) 54 8 (fun k10 v10 => [(0, .ref (a 0)), (2, .int (nI (cl n))), (3, .long v10.2), (5, .int v8.2.2.2.2.2.2.2.2.2.2.2.2), (6, .int (nI k8)), (7, .int (nI k10))]) (fun k10 v10 => (wX E a fabove fbelow rbad rno rfull counts0 people0 day0 listed0 followed0 struck0 noted0 undoable0 kinds0 tempers0 notes0 past0 z7.1 z7.2.1 v8.1 v8.2.1 v10.1 v8.2.2.2.1 z7.2.2.2.2.2.2.1 z7.2.2.2.2.2.2.2.1 z7.2.2.2.2.2.2.2.2.1 v8.2.2.2.2.1 z7.2.2.2.2.2.2.2.2.2.2.1 z7.2.2.2.2.2.2.2.2.2.2.2 counts2 people2 day2 listed2 followed2 struck2 noted2 undoable2 kinds2 tempers2 notes2 past2 counts3 people3 day3 listed3 followed3 struck3 noted3 undoable3 kinds3 tempers3 notes3 past3 keptz v8.2.2.2.2.2.1 v8.2.2.2.2.2.2.1 v8.2.2.2.2.2.2.2.1 v8.2.2.2.2.2.2.2.2.1 v8.2.2.2.2.2.2.2.2.2.1 v8.2.2.2.2.2.2.2.2.2.2.1 xlength xstart xbehind xsort xnumber xbytes)) (fun k10 v10 => True) (by omega) trivial ?_ ?_ hP hD hS (lv_sub hl [1, 2, 3, 4, 5, 0] rfl)
        · intro z10 hv10 hI10 ls H locs hP hD hS hl
          have hb8 := hk10 z10 (hu10.trans hv10)
          refine lv_iload hx hb dX3_years_54 (lv_at hl 5 rfl) ?_
          refine lv_aload_n hx hb dX3_years_56 rfl (lv_at hl 0 rfl) ?_
          refine g_X_0_spare hC hP mw_203 dX3_years_57 ?_
          refine g_X_6_people hC hP mw_221 dX3_years_60 ?_
          refine wl_icmp_ge_n hx hb (by first | omega | exact Nat.lt_of_le_of_lt Nat.and_le_right (by omega) | exact Nat.pow_lt_pow_right (by omega) (by omega) | exact Nat.lt_trans (by assumption) (Nat.pow_lt_pow_right (by omega) (by omega))) (by first | omega | exact Nat.lt_of_le_of_lt Nat.and_le_right (by omega) | exact Nat.pow_lt_pow_right (by omega) (by omega) | exact Nat.lt_trans (by assumption) (Nat.pow_lt_pow_right (by omega) (by omega))) (tgt := 115) dX3_years_63 (by decide) (fun c13 => ?_) (fun c13 => absurd (by omega) c13)
          refine lv_iload hx hb dX3_years_115 (lv_at hl 3 rfl) ?_
          refine lv_aload_n hx hb dX3_years_117 rfl (lv_at hl 0 rfl) ?_
          refine g_X_0_spare hC hP mw_203 dX3_years_118 ?_
          refine lv_aload_n hx hb dX3_years_121 rfl (lv_at hl 0 rfl) ?_
          refine g_X_0_walk hC hP mw_209 dX3_years_122 ?_
          refine wl_callVi hC (c_X1_goBy__X_6_23  (by first | assumption | omega)) lk_RX3_106 rfl ⟨rfl, rfl, Nat.le_of_ble_eq_true rfl, Nat.le_of_ble_eq_true rfl⟩ hP hD hS hA 6 rfl (T1 := 12) rfl hl.1 rfl (Nat.le_of_ble_eq_true rfl) dX3_years_125 ⟨Nat.zero_le _, Nat.zero_le _⟩ (fun z14 hz14 H locs hP hD hS => ?_)
          have hb8 := wl_bz hb8 hz14
          refine wl_callPi hC (c_J6_bitCount_0f7a4 (i := z14.1) ) lk_RX3_149 rfl ⟨rfl, rfl, Nat.le_of_ble_eq_true rfl, Nat.le_of_ble_eq_true rfl⟩ hP hS hA hl.1 rfl (Nat.le_of_ble_eq_true rfl) dX3_years_128 ⟨Nat.zero_le _, Nat.zero_le _⟩ (fun z15 hz15 H locs hP hS => ?_)
          have hb8 := wl_bz hb8 hz15
          refine lv_iadd hx hb dX3_years_131 ?_
          refine lv_istore (lv' := [(5, .int (v8.2.2.2.2.2.2.2.2.2.2.2.2 + z15)), (0, .ref (a 0)), (2, .int (nI (cl n))), (3, .long z10.2), (6, .int (nI k8)), (7, .int (nI z7.2.1))]) hx hb dX3_years_132 hl (by decide) rfl (fun ls hl => ?_)
          refine lv_iinc (v := (nI (k8 + 1))) (lv' := [(6, .int (nI (k8 + 1))), (5, .int (v8.2.2.2.2.2.2.2.2.2.2.2.2 + z15)), (0, .ref (a 0)), (2, .int (nI (cl n))), (3, .long z10.2), (7, .int (nI z7.2.1))]) hx hb dX3_years_134 hl (k := 4) rfl (wl_inc k8 1) (by decide) rfl (fun ls hl => ?_)
          refine lv_goto (tgt := 45) hx hb dX3_years_137 (by decide) ?_
          exact IH8 _ hb8 trivial ls H locs hP hD hS (lv_sub hl [2, 3, 4, 1, 0] rfl)
        · intro k10 v10 hlo10 hhi10 hI10 IH10 ls H locs hP hD hS hl
          have hb10 := m_X3_years_l54.eq_1 k10 v10
          refine lv_iload hx hb dX3_years_54 (lv_at hl 5 rfl) ?_
          refine lv_aload_n hx hb dX3_years_56 rfl (lv_at hl 0 rfl) ?_
          refine g_X_0_spare hC hP mw_203 dX3_years_57 ?_
          refine g_X_6_people hC hP mw_221 dX3_years_60 ?_
          refine wl_icmp_ge_n hx hb (by first | omega | exact Nat.lt_of_le_of_lt Nat.and_le_right (by omega) | exact Nat.pow_lt_pow_right (by omega) (by omega) | exact Nat.lt_trans (by assumption) (Nat.pow_lt_pow_right (by omega) (by omega))) (by first | omega | exact Nat.lt_of_le_of_lt Nat.and_le_right (by omega) | exact Nat.pow_lt_pow_right (by omega) (by omega) | exact Nat.lt_trans (by assumption) (Nat.pow_lt_pow_right (by omega) (by omega))) (tgt := 115) dX3_years_63 (by decide) (fun c11 => absurd c11 (by omega)) (fun c11 => ?_)
          refine lv_lload_n hx hb dX3_years_66 rfl (lv_at hl 2 rfl) ?_
          refine lv_ldc2 hx hb hC.2.2.2.1 (hC.2.2.2.2.1 _ mw_363) dX3_years_67 ?_
          refine wl_reL (show (1103515245 : Int64) = lN 1103515245 by decide +kernel) ?_
          refine lv_lmul hx hb dX3_years_70 ?_
          refine lv_ldc2 hx hb hC.2.2.2.1 (hC.2.2.2.2.1 _ mw_364) dX3_years_71 ?_
          refine wl_reL (show (12345 : Int64) = lN 12345 by decide +kernel) ?_
          refine lv_ladd hx hb dX3_years_74 ?_
          refine lv_ldc2 hx hb hC.2.2.2.1 (hC.2.2.2.2.1 _ mw_365) dX3_years_75 ?_
          refine wl_reL (show (2147483648 : Int64) = lN 2147483648 by decide +kernel) ?_
          refine lv_lrem hx hb dX3_years_78 (by decide +kernel) ?_
          refine lv_lstore_n (lv' := [(3, .long (((v10.2 * (lN 1103515245)) + (lN 12345)) - ((v10.2 * (lN 1103515245)) + (lN 12345)) / (lN 2147483648) * (lN 2147483648))), (0, .ref (a 0)), (2, .int (nI (cl n))), (5, .int v8.2.2.2.2.2.2.2.2.2.2.2.2), (6, .int (nI k8)), (7, .int (nI k10))]) hx hb dX3_years_79 rfl hl (by decide) rfl (fun ls hl => ?_)
          refine lv_aload_n hx hb dX3_years_80 rfl (lv_at hl 1 rfl) ?_
          refine g_X_0_spare hC hP mw_203 dX3_years_81 ?_
          refine lv_aload_n hx hb dX3_years_84 rfl (lv_at hl 1 rfl) ?_
          refine g_X_0_spare hC hP mw_203 dX3_years_85 ?_
          refine g_X_6_followed hC hP mw_259 dX3_years_88 ?_
          refine lv_iload hx hb dX3_years_91 (lv_at hl 5 rfl) ?_
          refine lv_lload_n hx hb dX3_years_93 rfl (lv_at hl 0 rfl) ?_
          refine lv_ldc2 hx hb hC.2.2.2.1 (hC.2.2.2.2.1 _ mw_366) dX3_years_94 ?_
          refine wl_reL (show (65536 : Int64) = lN 65536 by decide +kernel) ?_
          refine lv_ldiv hx hb dX3_years_97 (by decide +kernel) ?_
          refine lv_ldc2 hx hb hC.2.2.2.1 (hC.2.2.2.2.1 _ mw_367) dX3_years_98 ?_
          refine wl_reL (show (2 : Int64) = lN 2 by decide +kernel) ?_
          refine lv_lrem hx hb dX3_years_101 (by decide +kernel) ?_
          refine lv_l2i (v := (((((v10.2 * (lN 1103515245)) + (lN 12345)) - ((v10.2 * (lN 1103515245)) + (lN 12345)) / (lN 2147483648) * (lN 2147483648)) / (lN 65536)) - ((((v10.2 * (lN 1103515245)) + (lN 12345)) - ((v10.2 * (lN 1103515245)) + (lN 12345)) / (lN 2147483648) * (lN 2147483648)) / (lN 65536)) / (lN 2) * (lN 2)).toInt32) hx hb dX3_years_102 rfl ?_
          refine wl_callPi hC (c_X3_withBit (bits := v10.1) (i := k10) (is := ((((((v10.2 * (lN 1103515245)) + (lN 12345)) - ((v10.2 * (lN 1103515245)) + (lN 12345)) / (lN 2147483648) * (lN 2147483648)) / (lN 65536)) - ((((v10.2 * (lN 1103515245)) + (lN 12345)) - ((v10.2 * (lN 1103515245)) + (lN 12345)) / (lN 2147483648) * (lN 2147483648)) / (lN 65536)) / (lN 2) * (lN 2)).toInt32)) ) lk_RX3_99 rfl ⟨rfl, rfl, Nat.le_of_ble_eq_true rfl, Nat.le_of_ble_eq_true rfl⟩ hP hS hA hl.1 rfl (Nat.le_of_ble_eq_true rfl) dX3_years_103 ⟨Nat.zero_le _, Nat.zero_le _⟩ (fun z12 hz12 H locs hP hS => ?_)
          have hb10 := wl_bz hb10 hz12
          refine p_X_6_followed hC hP hD hS z12 mw_259 dX3_years_106 (fun H locs hP hD hS => ?_)
          refine lv_iinc (v := (nI (k10 + 1))) (lv' := [(7, .int (nI (k10 + 1))), (3, .long (((v10.2 * (lN 1103515245)) + (lN 12345)) - ((v10.2 * (lN 1103515245)) + (lN 12345)) / (lN 2147483648) * (lN 2147483648))), (0, .ref (a 0)), (2, .int (nI (cl n))), (5, .int v8.2.2.2.2.2.2.2.2.2.2.2.2), (6, .int (nI k8))]) hx hb dX3_years_109 hl (k := 5) rfl (wl_inc k10 1) (by decide) rfl (fun ls hl => ?_)
          refine lv_goto (tgt := 54) hx hb dX3_years_112 (by decide) ?_
          exact IH10 _ hb10 trivial ls H locs hP hD hS (lv_sub hl [2, 3, 1, 4, 5, 0] rfl)
    · have hm := hm.trans (if_neg c5)
      refine lv_aload_n hx hb dX3_years_20 rfl (lv_at hl 0 rfl) ?_
      refine wl_callVi hC (c_X3_refuseBad  ) lk_RX3_52 rfl ⟨rfl, rfl, Nat.le_of_ble_eq_true rfl, Nat.le_of_ble_eq_true rfl⟩ hP hD hS hA 0 rfl (T1 := 11) rfl hl.1 rfl (Nat.le_of_ble_eq_true rfl) dX3_years_21 ⟨Nat.zero_le _, Nat.zero_le _⟩ (fun z17 hz17 H locs hP hD hS => ?_)
      have hm := wl_bz hm hz17
      exact wl_iret hC hr hlk hm rfl hP hD hS dX3_years_24
def m_X3_part (fabove : Int64) (fbelow : Int64) (rbad : Int32) (what : Int32) : Int64 × Int32 := (wl_bnd (m_X3_isWithin what (nI 0) (nI 1)) (fun z1 => (if z1 = true then (if what = 0 then (fabove, rbad) else (fbelow, rbad)) else (wl_bnd (m_X3_refuseBad rbad) (fun z4 => (z4.1.toInt64, z4.2))))))
set_option maxHeartbeats 4000000 in
set_option maxRecDepth 100000 in
theorem c_X3_part {l : Launch} {D : va_G} {E : Nat → ClassId} {a : Nat → Nat} {fabove : Int64} {fbelow : Int64} {rbad : Int32} {rno : Int32} {rfull : Int32} {counts0 : Int32} {people0 : Nat} {day0 : Int32} {listed0 : Int32} {followed0 : Int32} {struck0 : Int32} {noted0 : Nat} {undoable0 : Nat} {kinds0 : (Nat → Int32)} {tempers0 : (Nat → Int32)} {notes0 : (Nat → Int32)} {past0 : (Nat → Int32)} {counts1 : Int32} {people1 : Nat} {day1 : Int32} {listed1 : Int32} {followed1 : Int32} {struck1 : Int32} {noted1 : Nat} {undoable1 : Nat} {kinds1 : (Nat → Int32)} {tempers1 : (Nat → Int32)} {notes1 : (Nat → Int32)} {past1 : (Nat → Int32)} {counts2 : Int32} {people2 : Nat} {day2 : Int32} {listed2 : Int32} {followed2 : Int32} {struck2 : Int32} {noted2 : Nat} {undoable2 : Nat} {kinds2 : (Nat → Int32)} {tempers2 : (Nat → Int32)} {notes2 : (Nat → Int32)} {past2 : (Nat → Int32)} {counts3 : Int32} {people3 : Nat} {day3 : Int32} {listed3 : Int32} {followed3 : Int32} {struck3 : Int32} {noted3 : Nat} {undoable3 : Nat} {kinds3 : (Nat → Int32)} {tempers3 : (Nat → Int32)} {notes3 : (Nat → Int32)} {past3 : (Nat → Int32)} {keptz : (Nat → Int32)} {wkind : Int32} {wtemper : Int32} {wcounts : Int32} {wday : Int32} {wlisted : Bool} {wfollowed : Bool} {xlength : Nat} {xstart : Nat} {xbehind : Nat} {xsort : Int32} {xnumber : Int32} {xbytes : (Nat → Int32)} {what : Int32} : wl_Met (τ := Int64 × Int32) l D E yX3_part cX3_part 2 (some .long) ({ frames := 1, cells := 0, slots := 0, locals := 22 } : Room) [.ref (a 0), .int what] (wX E a fabove fbelow rbad rno rfull counts0 people0 day0 listed0 followed0 struck0 noted0 undoable0 kinds0 tempers0 notes0 past0 counts1 people1 day1 listed1 followed1 struck1 noted1 undoable1 kinds1 tempers1 notes1 past1 counts2 people2 day2 listed2 followed2 struck2 noted2 undoable2 kinds2 tempers2 notes2 past2 counts3 people3 day3 listed3 followed3 struck3 noted3 undoable3 kinds3 tempers3 notes3 past3 keptz wkind wtemper wcounts wday wlisted wfollowed xlength xstart xbehind xsort xnumber xbytes) (fun z => some (.long z.1)) (fun z => (wX E a fabove fbelow z.2 rno rfull counts0 people0 day0 listed0 followed0 struck0 noted0 undoable0 kinds0 tempers0 notes0 past0 counts1 people1 day1 listed1 followed1 struck1 noted1 undoable1 kinds1 tempers1 notes1 past1 counts2 people2 day2 listed2 followed2 struck2 noted2 undoable2 kinds2 tempers2 notes2 past2 counts3 people3 day3 listed3 followed3 struck3 noted3 undoable3 kinds3 tempers3 notes3 past3 keptz wkind wtemper wcounts wday wlisted wfollowed xlength xstart xbehind xsort xnumber xbytes)) (m_X3_part fabove fbelow rbad what) := by
  refine wl_enter (own := RX3) (by decide +kernel) rfl (Nat.le_of_ble_eq_true rfl) ?_
  intro p0 e0 s0 m0 bl0 mt0 c0 A hC hr hlk hA H locs hP hD hS ls hl
  have hx := hC.1
  have hb := hC.2.1
  have hl : lv_has ls 2 [(0, .ref (a 0)), (1, .int what)] := hl
  have hm := m_X3_part.eq_1 fabove fbelow rbad what
  refine lv_iload_n hx hb dX3_part_0 rfl (lv_at hl 1 rfl) ?_
  refine lv_iconst (v := (nI 0)) hx hb dX3_part_1 (by decide +kernel) ?_
  refine lv_iconst (v := (nI 1)) hx hb dX3_part_2 (by decide +kernel) ?_
  refine wl_callPi hC (c_X3_isWithin (v := what) (least := (nI 0)) (most := (nI 1)) ) lk_RX3_48 rfl ⟨rfl, rfl, Nat.le_of_ble_eq_true rfl, Nat.le_of_ble_eq_true rfl⟩ hP hS hA hl.1 rfl (Nat.le_of_ble_eq_true rfl) dX3_part_3 ⟨Nat.zero_le _, Nat.zero_le _⟩ (fun z1 hz1 H locs hP hS => ?_)
  have hm := wl_bz hm hz1
  refine wl_if_ne_b hx hb (tgt := 15) dX3_part_6 (by decide) (fun c2 => ?_) (fun c2 => ?_)
  · have hm := hm.trans (if_pos c2)
    refine lv_iload_n hx hb dX3_part_15 rfl (lv_at hl 1 rfl) ?_
    refine lv_if_ne hx hb (tgt := 26) dX3_part_16 (by decide) (fun c3 => ?_) (fun c3 => ?_)
    · have hm := hm.trans (if_neg c3)
      refine lv_aload_n hx hb dX3_part_26 rfl (lv_at hl 0 rfl) ?_
      refine g_X_0_below hC hP mw_214 dX3_part_27 ?_
      exact wl_lret hC hr hlk hm rfl hP hD hS dX3_part_30
    · have hm := hm.trans (if_pos c3)
      refine lv_aload_n hx hb dX3_part_19 rfl (lv_at hl 0 rfl) ?_
      refine g_X_0_above hC hP mw_213 dX3_part_20 ?_
      refine lv_goto (tgt := 30) hx hb dX3_part_23 (by decide) ?_
      exact wl_lret hC hr hlk hm rfl hP hD hS dX3_part_30
  · have hm := hm.trans (if_neg c2)
    refine lv_aload_n hx hb dX3_part_9 rfl (lv_at hl 0 rfl) ?_
    refine wl_callVi hC (c_X3_refuseBad  ) lk_RX3_52 rfl ⟨rfl, rfl, Nat.le_of_ble_eq_true rfl, Nat.le_of_ble_eq_true rfl⟩ hP hD hS hA 0 rfl (T1 := 11) rfl hl.1 rfl (Nat.le_of_ble_eq_true rfl) dX3_part_10 ⟨Nat.zero_le _, Nat.zero_le _⟩ (fun z4 hz4 H locs hP hD hS => ?_)
    have hm := wl_bz hm hz4
    refine lv_i2l (v := z4.1.toInt64) hx hb dX3_part_13 rfl ?_
    exact wl_lret hC hr hlk hm rfl hP hD hS dX3_part_14
set_option maxHeartbeats 4000000 in
set_option maxRecDepth 100000 in
theorem c_X1_copyFrom__X_11_1 {l : Launch} {D : va_G} {E : Nat → ClassId} {a : Nat → Nat} {fabove : Int64} {fbelow : Int64} {rbad : Int32} {rno : Int32} {rfull : Int32} {counts0 : Int32} {people0 : Nat} {day0 : Int32} {listed0 : Int32} {followed0 : Int32} {struck0 : Int32} {noted0 : Nat} {undoable0 : Nat} {kinds0 : (Nat → Int32)} {tempers0 : (Nat → Int32)} {notes0 : (Nat → Int32)} {past0 : (Nat → Int32)} {counts1 : Int32} {people1 : Nat} {day1 : Int32} {listed1 : Int32} {followed1 : Int32} {struck1 : Int32} {noted1 : Nat} {undoable1 : Nat} {kinds1 : (Nat → Int32)} {tempers1 : (Nat → Int32)} {notes1 : (Nat → Int32)} {past1 : (Nat → Int32)} {counts2 : Int32} {people2 : Nat} {day2 : Int32} {listed2 : Int32} {followed2 : Int32} {struck2 : Int32} {noted2 : Nat} {undoable2 : Nat} {kinds2 : (Nat → Int32)} {tempers2 : (Nat → Int32)} {notes2 : (Nat → Int32)} {past2 : (Nat → Int32)} {counts3 : Int32} {people3 : Nat} {day3 : Int32} {listed3 : Int32} {followed3 : Int32} {struck3 : Int32} {noted3 : Nat} {undoable3 : Nat} {kinds3 : (Nat → Int32)} {tempers3 : (Nat → Int32)} {notes3 : (Nat → Int32)} {past3 : (Nat → Int32)} {keptz : (Nat → Int32)} {wkind : Int32} {wtemper : Int32} {wcounts : Int32} {wday : Int32} {wlisted : Bool} {wfollowed : Bool} {xlength : Nat} {xstart : Nat} {xbehind : Nat} {xsort : Int32} {xnumber : Int32} {xbytes : (Nat → Int32)}  : wl_Met (τ := Int32 × Nat × Int32 × Int32 × Int32 × Int32 × Nat × Nat × (Nat → Int32) × (Nat → Int32) × (Nat → Int32) × (Nat → Int32)) l D E yX1_copyFrom cX1_copyFrom 2 none ({ frames := 1, cells := 0, slots := 0, locals := 40 } : Room) [.ref (a 11), .ref (a 1)] (wX E a fabove fbelow rbad rno rfull counts0 people0 day0 listed0 followed0 struck0 noted0 undoable0 kinds0 tempers0 notes0 past0 counts1 people1 day1 listed1 followed1 struck1 noted1 undoable1 kinds1 tempers1 notes1 past1 counts2 people2 day2 listed2 followed2 struck2 noted2 undoable2 kinds2 tempers2 notes2 past2 counts3 people3 day3 listed3 followed3 struck3 noted3 undoable3 kinds3 tempers3 notes3 past3 keptz wkind wtemper wcounts wday wlisted wfollowed xlength xstart xbehind xsort xnumber xbytes) (fun _ => none) (fun z => (wX E a fabove fbelow rbad rno rfull counts0 people0 day0 listed0 followed0 struck0 noted0 undoable0 kinds0 tempers0 notes0 past0 counts1 people1 day1 listed1 followed1 struck1 noted1 undoable1 kinds1 tempers1 notes1 past1 z.1 z.2.1 z.2.2.1 z.2.2.2.1 z.2.2.2.2.1 z.2.2.2.2.2.1 z.2.2.2.2.2.2.1 z.2.2.2.2.2.2.2.1 z.2.2.2.2.2.2.2.2.1 z.2.2.2.2.2.2.2.2.2.1 z.2.2.2.2.2.2.2.2.2.2.1 z.2.2.2.2.2.2.2.2.2.2.2 counts3 people3 day3 listed3 followed3 struck3 noted3 undoable3 kinds3 tempers3 notes3 past3 keptz wkind wtemper wcounts wday wlisted wfollowed xlength xstart xbehind xsort xnumber xbytes)) (m_X1_copyFrom kinds2 tempers2 notes2 past2 counts0 people0 day0 listed0 followed0 struck0 noted0 undoable0 kinds0 tempers0 notes0 past0) :=
  wl_lift (c_X1_copyFrom (a := (fun k => a ([11, 12, 13, 14, 15, 1, 2, 3, 4, 5].getD k 0))) (counts := counts2) (people := people2) (day := day2) (listed := listed2) (followed := followed2) (struck := struck2) (noted := noted2) (undoable := undoable2) (kinds := kinds2) (tempers := tempers2) (notes := notes2) (past := past2) (countsb := counts0) (peopleb := people0) (dayb := day0) (listedb := listed0) (followedb := followed0) (struckb := struck0) (notedb := noted0) (undoableb := undoable0) (kindsb := kinds0) (tempersb := tempers0) (notesb := notes0) (pastb := past0)  ) [11, 12, 13, 14, 15, 1, 2, 3, 4, 5] [0, 6, 7, 8, 9, 10, 16, 17, 18, 19, 20, 21, 22, 23, 24, 25] [0, 21, 22, 23, 24, 25, 1, 2, 3, 4, 5, 16, 17, 18, 19, 20, 6, 7, 8, 9, 10, 11, 12, 13, 14, 15] (wr := ([0, 6, 7, 8, 9, 10, 16, 17, 18, 19, 20, 21, 22, 23, 24, 25].filterMap (fun i => (wX E a fabove fbelow rbad rno rfull counts0 people0 day0 listed0 followed0 struck0 noted0 undoable0 kinds0 tempers0 notes0 past0 counts1 people1 day1 listed1 followed1 struck1 noted1 undoable1 kinds1 tempers1 notes1 past1 counts2 people2 day2 listed2 followed2 struck2 noted2 undoable2 kinds2 tempers2 notes2 past2 counts3 people3 day3 listed3 followed3 struck3 noted3 undoable3 kinds3 tempers3 notes3 past3 keptz wkind wtemper wcounts wday wlisted wfollowed xlength xstart xbehind xsort xnumber xbytes)[i]?))) rfl rfl (by decide) (by decide) (by decide) (by decide) (fun _ => rfl)
set_option maxHeartbeats 4000000 in
set_option maxRecDepth 100000 in
theorem c_X1_copyFrom__X_16_1 {l : Launch} {D : va_G} {E : Nat → ClassId} {a : Nat → Nat} {fabove : Int64} {fbelow : Int64} {rbad : Int32} {rno : Int32} {rfull : Int32} {counts0 : Int32} {people0 : Nat} {day0 : Int32} {listed0 : Int32} {followed0 : Int32} {struck0 : Int32} {noted0 : Nat} {undoable0 : Nat} {kinds0 : (Nat → Int32)} {tempers0 : (Nat → Int32)} {notes0 : (Nat → Int32)} {past0 : (Nat → Int32)} {counts1 : Int32} {people1 : Nat} {day1 : Int32} {listed1 : Int32} {followed1 : Int32} {struck1 : Int32} {noted1 : Nat} {undoable1 : Nat} {kinds1 : (Nat → Int32)} {tempers1 : (Nat → Int32)} {notes1 : (Nat → Int32)} {past1 : (Nat → Int32)} {counts2 : Int32} {people2 : Nat} {day2 : Int32} {listed2 : Int32} {followed2 : Int32} {struck2 : Int32} {noted2 : Nat} {undoable2 : Nat} {kinds2 : (Nat → Int32)} {tempers2 : (Nat → Int32)} {notes2 : (Nat → Int32)} {past2 : (Nat → Int32)} {counts3 : Int32} {people3 : Nat} {day3 : Int32} {listed3 : Int32} {followed3 : Int32} {struck3 : Int32} {noted3 : Nat} {undoable3 : Nat} {kinds3 : (Nat → Int32)} {tempers3 : (Nat → Int32)} {notes3 : (Nat → Int32)} {past3 : (Nat → Int32)} {keptz : (Nat → Int32)} {wkind : Int32} {wtemper : Int32} {wcounts : Int32} {wday : Int32} {wlisted : Bool} {wfollowed : Bool} {xlength : Nat} {xstart : Nat} {xbehind : Nat} {xsort : Int32} {xnumber : Int32} {xbytes : (Nat → Int32)}  : wl_Met (τ := Int32 × Nat × Int32 × Int32 × Int32 × Int32 × Nat × Nat × (Nat → Int32) × (Nat → Int32) × (Nat → Int32) × (Nat → Int32)) l D E yX1_copyFrom cX1_copyFrom 2 none ({ frames := 1, cells := 0, slots := 0, locals := 40 } : Room) [.ref (a 16), .ref (a 1)] (wX E a fabove fbelow rbad rno rfull counts0 people0 day0 listed0 followed0 struck0 noted0 undoable0 kinds0 tempers0 notes0 past0 counts1 people1 day1 listed1 followed1 struck1 noted1 undoable1 kinds1 tempers1 notes1 past1 counts2 people2 day2 listed2 followed2 struck2 noted2 undoable2 kinds2 tempers2 notes2 past2 counts3 people3 day3 listed3 followed3 struck3 noted3 undoable3 kinds3 tempers3 notes3 past3 keptz wkind wtemper wcounts wday wlisted wfollowed xlength xstart xbehind xsort xnumber xbytes) (fun _ => none) (fun z => (wX E a fabove fbelow rbad rno rfull counts0 people0 day0 listed0 followed0 struck0 noted0 undoable0 kinds0 tempers0 notes0 past0 counts1 people1 day1 listed1 followed1 struck1 noted1 undoable1 kinds1 tempers1 notes1 past1 counts2 people2 day2 listed2 followed2 struck2 noted2 undoable2 kinds2 tempers2 notes2 past2 z.1 z.2.1 z.2.2.1 z.2.2.2.1 z.2.2.2.2.1 z.2.2.2.2.2.1 z.2.2.2.2.2.2.1 z.2.2.2.2.2.2.2.1 z.2.2.2.2.2.2.2.2.1 z.2.2.2.2.2.2.2.2.2.1 z.2.2.2.2.2.2.2.2.2.2.1 z.2.2.2.2.2.2.2.2.2.2.2 keptz wkind wtemper wcounts wday wlisted wfollowed xlength xstart xbehind xsort xnumber xbytes)) (m_X1_copyFrom kinds3 tempers3 notes3 past3 counts0 people0 day0 listed0 followed0 struck0 noted0 undoable0 kinds0 tempers0 notes0 past0) :=
  wl_lift (c_X1_copyFrom (a := (fun k => a ([16, 17, 18, 19, 20, 1, 2, 3, 4, 5].getD k 0))) (counts := counts3) (people := people3) (day := day3) (listed := listed3) (followed := followed3) (struck := struck3) (noted := noted3) (undoable := undoable3) (kinds := kinds3) (tempers := tempers3) (notes := notes3) (past := past3) (countsb := counts0) (peopleb := people0) (dayb := day0) (listedb := listed0) (followedb := followed0) (struckb := struck0) (notedb := noted0) (undoableb := undoable0) (kindsb := kinds0) (tempersb := tempers0) (notesb := notes0) (pastb := past0)  ) [16, 17, 18, 19, 20, 1, 2, 3, 4, 5] [0, 6, 7, 8, 9, 10, 11, 12, 13, 14, 15, 21, 22, 23, 24, 25] [0, 21, 22, 23, 24, 25, 1, 2, 3, 4, 5, 6, 7, 8, 9, 10, 16, 17, 18, 19, 20, 11, 12, 13, 14, 15] (wr := ([0, 6, 7, 8, 9, 10, 11, 12, 13, 14, 15, 21, 22, 23, 24, 25].filterMap (fun i => (wX E a fabove fbelow rbad rno rfull counts0 people0 day0 listed0 followed0 struck0 noted0 undoable0 kinds0 tempers0 notes0 past0 counts1 people1 day1 listed1 followed1 struck1 noted1 undoable1 kinds1 tempers1 notes1 past1 counts2 people2 day2 listed2 followed2 struck2 noted2 undoable2 kinds2 tempers2 notes2 past2 counts3 people3 day3 listed3 followed3 struck3 noted3 undoable3 kinds3 tempers3 notes3 past3 keptz wkind wtemper wcounts wday wlisted wfollowed xlength xstart xbehind xsort xnumber xbytes)[i]?))) rfl rfl (by decide) (by decide) (by decide) (by decide) (fun _ => rfl)
def m_X3_image (rbad : Int32) (counts0 : Int32) (people0 : Nat) (day0 : Int32) (listed0 : Int32) (followed0 : Int32) (struck0 : Int32) (noted0 : Nat) (undoable0 : Nat) (kinds0 : (Nat → Int32)) (tempers0 : (Nat → Int32)) (notes0 : (Nat → Int32)) (past0 : (Nat → Int32)) (counts2 : Int32) (people2 : Nat) (day2 : Int32) (listed2 : Int32) (followed2 : Int32) (struck2 : Int32) (noted2 : Nat) (undoable2 : Nat) (kinds2 : (Nat → Int32)) (tempers2 : (Nat → Int32)) (notes2 : (Nat → Int32)) (past2 : (Nat → Int32)) (counts3 : Int32) (people3 : Nat) (day3 : Int32) (listed3 : Int32) (followed3 : Int32) (struck3 : Int32) (noted3 : Nat) (undoable3 : Nat) (kinds3 : (Nat → Int32)) (tempers3 : (Nat → Int32)) (notes3 : (Nat → Int32)) (past3 : (Nat → Int32)) (keptz : (Nat → Int32)) (i : Int32) : Int32 × Int32 × Int32 × Nat × Int32 × Int32 × Int32 × Int32 × Nat × Nat × (Nat → Int32) × (Nat → Int32) × (Nat → Int32) × (Nat → Int32) × Int32 × Nat × Int32 × Int32 × Int32 × Int32 × Nat × Nat × (Nat → Int32) × (Nat → Int32) × (Nat → Int32) × (Nat → Int32) × (Nat → Int32) := (wl_bnd (m_X3_isWithin i (nI 0) (nI 1)) (fun z1 => (if z1 = true then (if (cl i) = 0 then (wl_bnd (m_X1_copyFrom kinds2 tempers2 notes2 past2 counts0 people0 day0 listed0 followed0 struck0 noted0 undoable0 kinds0 tempers0 notes0 past0) (fun z5 => ((nI 1), rbad, z5.1, z5.2.1, z5.2.2.1, z5.2.2.2.1, z5.2.2.2.2.1, z5.2.2.2.2.2.1, z5.2.2.2.2.2.2.1, z5.2.2.2.2.2.2.2.1, z5.2.2.2.2.2.2.2.2.1, z5.2.2.2.2.2.2.2.2.2.1, z5.2.2.2.2.2.2.2.2.2.2.1, z5.2.2.2.2.2.2.2.2.2.2.2, counts3, people3, day3, listed3, followed3, struck3, noted3, undoable3, kinds3, tempers3, notes3, past3, (upd keptz (cl i) (wl_b true))))) else (wl_bnd (m_X1_copyFrom kinds3 tempers3 notes3 past3 counts0 people0 day0 listed0 followed0 struck0 noted0 undoable0 kinds0 tempers0 notes0 past0) (fun z6 => ((nI 1), rbad, counts2, people2, day2, listed2, followed2, struck2, noted2, undoable2, kinds2, tempers2, notes2, past2, z6.1, z6.2.1, z6.2.2.1, z6.2.2.2.1, z6.2.2.2.2.1, z6.2.2.2.2.2.1, z6.2.2.2.2.2.2.1, z6.2.2.2.2.2.2.2.1, z6.2.2.2.2.2.2.2.2.1, z6.2.2.2.2.2.2.2.2.2.1, z6.2.2.2.2.2.2.2.2.2.2.1, z6.2.2.2.2.2.2.2.2.2.2.2, (upd keptz (cl i) (wl_b true)))))) else (wl_bnd (m_X3_refuseBad rbad) (fun z7 => (z7.1, z7.2, counts2, people2, day2, listed2, followed2, struck2, noted2, undoable2, kinds2, tempers2, notes2, past2, counts3, people3, day3, listed3, followed3, struck3, noted3, undoable3, kinds3, tempers3, notes3, past3, keptz))))))
set_option maxHeartbeats 4000000 in
set_option maxRecDepth 100000 in
theorem c_X3_image {l : Launch} {D : va_G} {E : Nat → ClassId} {a : Nat → Nat} {fabove : Int64} {fbelow : Int64} {rbad : Int32} {rno : Int32} {rfull : Int32} {counts0 : Int32} {people0 : Nat} {day0 : Int32} {listed0 : Int32} {followed0 : Int32} {struck0 : Int32} {noted0 : Nat} {undoable0 : Nat} {kinds0 : (Nat → Int32)} {tempers0 : (Nat → Int32)} {notes0 : (Nat → Int32)} {past0 : (Nat → Int32)} {counts1 : Int32} {people1 : Nat} {day1 : Int32} {listed1 : Int32} {followed1 : Int32} {struck1 : Int32} {noted1 : Nat} {undoable1 : Nat} {kinds1 : (Nat → Int32)} {tempers1 : (Nat → Int32)} {notes1 : (Nat → Int32)} {past1 : (Nat → Int32)} {counts2 : Int32} {people2 : Nat} {day2 : Int32} {listed2 : Int32} {followed2 : Int32} {struck2 : Int32} {noted2 : Nat} {undoable2 : Nat} {kinds2 : (Nat → Int32)} {tempers2 : (Nat → Int32)} {notes2 : (Nat → Int32)} {past2 : (Nat → Int32)} {counts3 : Int32} {people3 : Nat} {day3 : Int32} {listed3 : Int32} {followed3 : Int32} {struck3 : Int32} {noted3 : Nat} {undoable3 : Nat} {kinds3 : (Nat → Int32)} {tempers3 : (Nat → Int32)} {notes3 : (Nat → Int32)} {past3 : (Nat → Int32)} {keptz : (Nat → Int32)} {wkind : Int32} {wtemper : Int32} {wcounts : Int32} {wday : Int32} {wlisted : Bool} {wfollowed : Bool} {xlength : Nat} {xstart : Nat} {xbehind : Nat} {xsort : Int32} {xnumber : Int32} {xbytes : (Nat → Int32)} {i : Int32} : wl_Met (τ := Int32 × Int32 × Int32 × Nat × Int32 × Int32 × Int32 × Int32 × Nat × Nat × (Nat → Int32) × (Nat → Int32) × (Nat → Int32) × (Nat → Int32) × Int32 × Nat × Int32 × Int32 × Int32 × Int32 × Nat × Nat × (Nat → Int32) × (Nat → Int32) × (Nat → Int32) × (Nat → Int32) × (Nat → Int32)) l D E yX3_image cX3_image 2 (some .int) ({ frames := 2, cells := 0, slots := 0, locals := 61 } : Room) [.ref (a 0), .int i] (wX E a fabove fbelow rbad rno rfull counts0 people0 day0 listed0 followed0 struck0 noted0 undoable0 kinds0 tempers0 notes0 past0 counts1 people1 day1 listed1 followed1 struck1 noted1 undoable1 kinds1 tempers1 notes1 past1 counts2 people2 day2 listed2 followed2 struck2 noted2 undoable2 kinds2 tempers2 notes2 past2 counts3 people3 day3 listed3 followed3 struck3 noted3 undoable3 kinds3 tempers3 notes3 past3 keptz wkind wtemper wcounts wday wlisted wfollowed xlength xstart xbehind xsort xnumber xbytes) (fun z => some (.int z.1)) (fun z => (wX E a fabove fbelow z.2.1 rno rfull counts0 people0 day0 listed0 followed0 struck0 noted0 undoable0 kinds0 tempers0 notes0 past0 counts1 people1 day1 listed1 followed1 struck1 noted1 undoable1 kinds1 tempers1 notes1 past1 z.2.2.1 z.2.2.2.1 z.2.2.2.2.1 z.2.2.2.2.2.1 z.2.2.2.2.2.2.1 z.2.2.2.2.2.2.2.1 z.2.2.2.2.2.2.2.2.1 z.2.2.2.2.2.2.2.2.2.1 z.2.2.2.2.2.2.2.2.2.2.1 z.2.2.2.2.2.2.2.2.2.2.2.1 z.2.2.2.2.2.2.2.2.2.2.2.2.1 z.2.2.2.2.2.2.2.2.2.2.2.2.2.1 z.2.2.2.2.2.2.2.2.2.2.2.2.2.2.1 z.2.2.2.2.2.2.2.2.2.2.2.2.2.2.2.1 z.2.2.2.2.2.2.2.2.2.2.2.2.2.2.2.2.1 z.2.2.2.2.2.2.2.2.2.2.2.2.2.2.2.2.2.1 z.2.2.2.2.2.2.2.2.2.2.2.2.2.2.2.2.2.2.1 z.2.2.2.2.2.2.2.2.2.2.2.2.2.2.2.2.2.2.2.1 z.2.2.2.2.2.2.2.2.2.2.2.2.2.2.2.2.2.2.2.2.1 z.2.2.2.2.2.2.2.2.2.2.2.2.2.2.2.2.2.2.2.2.2.1 z.2.2.2.2.2.2.2.2.2.2.2.2.2.2.2.2.2.2.2.2.2.2.1 z.2.2.2.2.2.2.2.2.2.2.2.2.2.2.2.2.2.2.2.2.2.2.2.1 z.2.2.2.2.2.2.2.2.2.2.2.2.2.2.2.2.2.2.2.2.2.2.2.2.1 z.2.2.2.2.2.2.2.2.2.2.2.2.2.2.2.2.2.2.2.2.2.2.2.2.2.1 z.2.2.2.2.2.2.2.2.2.2.2.2.2.2.2.2.2.2.2.2.2.2.2.2.2.2 wkind wtemper wcounts wday wlisted wfollowed xlength xstart xbehind xsort xnumber xbytes)) (m_X3_image rbad counts0 people0 day0 listed0 followed0 struck0 noted0 undoable0 kinds0 tempers0 notes0 past0 counts2 people2 day2 listed2 followed2 struck2 noted2 undoable2 kinds2 tempers2 notes2 past2 counts3 people3 day3 listed3 followed3 struck3 noted3 undoable3 kinds3 tempers3 notes3 past3 keptz i) := by
  refine wl_enter (own := RX3) (by decide +kernel) rfl (Nat.le_of_ble_eq_true rfl) ?_
  intro p0 e0 s0 m0 bl0 mt0 c0 A hC hr hlk hA H locs hP hD hS ls hl
  have hx := hC.1
  have hb := hC.2.1
  have hl : lv_has ls 2 [(0, .ref (a 0)), (1, .int i)] := hl
  have hm := m_X3_image.eq_1 rbad counts0 people0 day0 listed0 followed0 struck0 noted0 undoable0 kinds0 tempers0 notes0 past0 counts2 people2 day2 listed2 followed2 struck2 noted2 undoable2 kinds2 tempers2 notes2 past2 counts3 people3 day3 listed3 followed3 struck3 noted3 undoable3 kinds3 tempers3 notes3 past3 keptz i
  refine lv_iload_n hx hb dX3_image_0 rfl (lv_at hl 1 rfl) ?_
  refine lv_iconst (v := (nI 0)) hx hb dX3_image_1 (by decide +kernel) ?_
  refine lv_iconst (v := (nI 1)) hx hb dX3_image_2 (by decide +kernel) ?_
  refine wl_callPi hC (c_X3_isWithin (v := i) (least := (nI 0)) (most := (nI 1)) ) lk_RX3_48 rfl ⟨rfl, rfl, Nat.le_of_ble_eq_true rfl, Nat.le_of_ble_eq_true rfl⟩ hP hS hA hl.1 rfl (Nat.le_of_ble_eq_true rfl) dX3_image_3 ⟨Nat.zero_le _, Nat.zero_le _⟩ (fun z1 hz1 H locs hP hS => ?_)
  have hm := wl_bz hm hz1
  refine wl_if_ne_b hx hb (tgt := 14) dX3_image_6 (by decide) (fun c2 => ?_) (fun c2 => ?_)
  · have hm := hm.trans (if_pos c2)
    obtain ⟨ha3, hb3_, hc3_⟩ := within_spec (a := 0) (b := 1) (by decide) (by decide) (hz1.symm.trans c2)
    have hl : lv_has ls 2 [(0, .ref (a 0)), (1, .int (nI (cl i)))] := by rw [← ha3]; exact hl
    refine lv_aload_n hx hb dX3_image_14 rfl (lv_at hl 0 rfl) ?_
    refine g_X_0_images hC hP mw_204 dX3_image_15 ?_
    refine lv_iload_n hx hb dX3_image_18 rfl (lv_at hl 1 rfl) ?_
    refine wl_ald2 hC hP (q0 := 21) rfl (cl i) (by omega) dX3_image_19 (fun c4 => ?_) (fun c4 => ?_)
    · have hm := hm.trans (if_pos c4)
      refine lv_aload_n hx hb dX3_image_20 rfl (lv_at hl 0 rfl) ?_
      refine g_X_0_now hC hP mw_202 dX3_image_21 ?_
      refine wl_callVv hC (c_X1_copyFrom__X_11_1  ) lk_RX3_82 rfl ⟨rfl, rfl, Nat.le_of_ble_eq_true rfl, Nat.le_of_ble_eq_true rfl⟩ hP hD hS hA 11 rfl (T1 := 12) rfl hl.1 rfl (Nat.le_of_ble_eq_true rfl) dX3_image_24 ⟨Nat.zero_le _, Nat.zero_le _⟩ (fun z5 hz5 H locs hP hD hS => ?_)
      have hm := wl_bz hm hz5
      refine lv_aload_n hx hb dX3_image_27 rfl (lv_at hl 0 rfl) ?_
      refine g_X_0_kept hC hP mw_206 dX3_image_28 ?_
      refine lv_iload_n hx hb dX3_image_31 rfl (lv_at hl 1 rfl) ?_
      refine lv_iconst (v := (nI 1)) hx hb dX3_image_32 (by decide +kernel) ?_
      refine st_X_22 hC hP hD hS (cl i) true (by omega) dX3_image_33 (fun H locs hP hD hS => ?_)
      refine lv_iconst (v := (nI 1)) hx hb dX3_image_34 (by decide +kernel) ?_
      exact wl_iret hC hr hlk hm rfl hP hD hS dX3_image_35
    · have hm := hm.trans (if_neg c4)
      refine lv_aload_n hx hb dX3_image_20 rfl (lv_at hl 0 rfl) ?_
      refine g_X_0_now hC hP mw_202 dX3_image_21 ?_
      refine wl_callVv hC (c_X1_copyFrom__X_16_1  ) lk_RX3_82 rfl ⟨rfl, rfl, Nat.le_of_ble_eq_true rfl, Nat.le_of_ble_eq_true rfl⟩ hP hD hS hA 16 rfl (T1 := 12) rfl hl.1 rfl (Nat.le_of_ble_eq_true rfl) dX3_image_24 ⟨Nat.zero_le _, Nat.zero_le _⟩ (fun z6 hz6 H locs hP hD hS => ?_)
      have hm := wl_bz hm hz6
      refine lv_aload_n hx hb dX3_image_27 rfl (lv_at hl 0 rfl) ?_
      refine g_X_0_kept hC hP mw_206 dX3_image_28 ?_
      refine lv_iload_n hx hb dX3_image_31 rfl (lv_at hl 1 rfl) ?_
      refine lv_iconst (v := (nI 1)) hx hb dX3_image_32 (by decide +kernel) ?_
      refine st_X_22 hC hP hD hS (cl i) true (by omega) dX3_image_33 (fun H locs hP hD hS => ?_)
      refine lv_iconst (v := (nI 1)) hx hb dX3_image_34 (by decide +kernel) ?_
      exact wl_iret hC hr hlk hm rfl hP hD hS dX3_image_35
  · have hm := hm.trans (if_neg c2)
    refine lv_aload_n hx hb dX3_image_9 rfl (lv_at hl 0 rfl) ?_
    refine wl_callVi hC (c_X3_refuseBad  ) lk_RX3_52 rfl ⟨rfl, rfl, Nat.le_of_ble_eq_true rfl, Nat.le_of_ble_eq_true rfl⟩ hP hD hS hA 0 rfl (T1 := 11) rfl hl.1 rfl (Nat.le_of_ble_eq_true rfl) dX3_image_10 ⟨Nat.zero_le _, Nat.zero_le _⟩ (fun z7 hz7 H locs hP hD hS => ?_)
    have hm := wl_bz hm hz7
    exact wl_iret hC hr hlk hm rfl hP hD hS dX3_image_13
set_option maxHeartbeats 4000000 in
set_option maxRecDepth 100000 in
theorem c_X1_copyFrom__X_1_11 {l : Launch} {D : va_G} {E : Nat → ClassId} {a : Nat → Nat} {fabove : Int64} {fbelow : Int64} {rbad : Int32} {rno : Int32} {rfull : Int32} {counts0 : Int32} {people0 : Nat} {day0 : Int32} {listed0 : Int32} {followed0 : Int32} {struck0 : Int32} {noted0 : Nat} {undoable0 : Nat} {kinds0 : (Nat → Int32)} {tempers0 : (Nat → Int32)} {notes0 : (Nat → Int32)} {past0 : (Nat → Int32)} {counts1 : Int32} {people1 : Nat} {day1 : Int32} {listed1 : Int32} {followed1 : Int32} {struck1 : Int32} {noted1 : Nat} {undoable1 : Nat} {kinds1 : (Nat → Int32)} {tempers1 : (Nat → Int32)} {notes1 : (Nat → Int32)} {past1 : (Nat → Int32)} {counts2 : Int32} {people2 : Nat} {day2 : Int32} {listed2 : Int32} {followed2 : Int32} {struck2 : Int32} {noted2 : Nat} {undoable2 : Nat} {kinds2 : (Nat → Int32)} {tempers2 : (Nat → Int32)} {notes2 : (Nat → Int32)} {past2 : (Nat → Int32)} {counts3 : Int32} {people3 : Nat} {day3 : Int32} {listed3 : Int32} {followed3 : Int32} {struck3 : Int32} {noted3 : Nat} {undoable3 : Nat} {kinds3 : (Nat → Int32)} {tempers3 : (Nat → Int32)} {notes3 : (Nat → Int32)} {past3 : (Nat → Int32)} {keptz : (Nat → Int32)} {wkind : Int32} {wtemper : Int32} {wcounts : Int32} {wday : Int32} {wlisted : Bool} {wfollowed : Bool} {xlength : Nat} {xstart : Nat} {xbehind : Nat} {xsort : Int32} {xnumber : Int32} {xbytes : (Nat → Int32)}  : wl_Met (τ := Int32 × Nat × Int32 × Int32 × Int32 × Int32 × Nat × Nat × (Nat → Int32) × (Nat → Int32) × (Nat → Int32) × (Nat → Int32)) l D E yX1_copyFrom cX1_copyFrom 2 none ({ frames := 1, cells := 0, slots := 0, locals := 40 } : Room) [.ref (a 1), .ref (a 11)] (wX E a fabove fbelow rbad rno rfull counts0 people0 day0 listed0 followed0 struck0 noted0 undoable0 kinds0 tempers0 notes0 past0 counts1 people1 day1 listed1 followed1 struck1 noted1 undoable1 kinds1 tempers1 notes1 past1 counts2 people2 day2 listed2 followed2 struck2 noted2 undoable2 kinds2 tempers2 notes2 past2 counts3 people3 day3 listed3 followed3 struck3 noted3 undoable3 kinds3 tempers3 notes3 past3 keptz wkind wtemper wcounts wday wlisted wfollowed xlength xstart xbehind xsort xnumber xbytes) (fun _ => none) (fun z => (wX E a fabove fbelow rbad rno rfull z.1 z.2.1 z.2.2.1 z.2.2.2.1 z.2.2.2.2.1 z.2.2.2.2.2.1 z.2.2.2.2.2.2.1 z.2.2.2.2.2.2.2.1 z.2.2.2.2.2.2.2.2.1 z.2.2.2.2.2.2.2.2.2.1 z.2.2.2.2.2.2.2.2.2.2.1 z.2.2.2.2.2.2.2.2.2.2.2 counts1 people1 day1 listed1 followed1 struck1 noted1 undoable1 kinds1 tempers1 notes1 past1 counts2 people2 day2 listed2 followed2 struck2 noted2 undoable2 kinds2 tempers2 notes2 past2 counts3 people3 day3 listed3 followed3 struck3 noted3 undoable3 kinds3 tempers3 notes3 past3 keptz wkind wtemper wcounts wday wlisted wfollowed xlength xstart xbehind xsort xnumber xbytes)) (m_X1_copyFrom kinds0 tempers0 notes0 past0 counts2 people2 day2 listed2 followed2 struck2 noted2 undoable2 kinds2 tempers2 notes2 past2) :=
  wl_lift (c_X1_copyFrom (a := (fun k => a ([1, 2, 3, 4, 5, 11, 12, 13, 14, 15].getD k 0))) (counts := counts0) (people := people0) (day := day0) (listed := listed0) (followed := followed0) (struck := struck0) (noted := noted0) (undoable := undoable0) (kinds := kinds0) (tempers := tempers0) (notes := notes0) (past := past0) (countsb := counts2) (peopleb := people2) (dayb := day2) (listedb := listed2) (followedb := followed2) (struckb := struck2) (notedb := noted2) (undoableb := undoable2) (kindsb := kinds2) (tempersb := tempers2) (notesb := notes2) (pastb := past2)  ) [1, 2, 3, 4, 5, 11, 12, 13, 14, 15] [0, 6, 7, 8, 9, 10, 16, 17, 18, 19, 20, 21, 22, 23, 24, 25] [0, 16, 17, 18, 19, 20, 1, 2, 3, 4, 5, 21, 22, 23, 24, 25, 6, 7, 8, 9, 10, 11, 12, 13, 14, 15] (wr := ([0, 6, 7, 8, 9, 10, 16, 17, 18, 19, 20, 21, 22, 23, 24, 25].filterMap (fun i => (wX E a fabove fbelow rbad rno rfull counts0 people0 day0 listed0 followed0 struck0 noted0 undoable0 kinds0 tempers0 notes0 past0 counts1 people1 day1 listed1 followed1 struck1 noted1 undoable1 kinds1 tempers1 notes1 past1 counts2 people2 day2 listed2 followed2 struck2 noted2 undoable2 kinds2 tempers2 notes2 past2 counts3 people3 day3 listed3 followed3 struck3 noted3 undoable3 kinds3 tempers3 notes3 past3 keptz wkind wtemper wcounts wday wlisted wfollowed xlength xstart xbehind xsort xnumber xbytes)[i]?))) rfl rfl (by decide) (by decide) (by decide) (by decide) (fun _ => rfl)
set_option maxHeartbeats 4000000 in
set_option maxRecDepth 100000 in
theorem c_X1_copyFrom__X_1_16 {l : Launch} {D : va_G} {E : Nat → ClassId} {a : Nat → Nat} {fabove : Int64} {fbelow : Int64} {rbad : Int32} {rno : Int32} {rfull : Int32} {counts0 : Int32} {people0 : Nat} {day0 : Int32} {listed0 : Int32} {followed0 : Int32} {struck0 : Int32} {noted0 : Nat} {undoable0 : Nat} {kinds0 : (Nat → Int32)} {tempers0 : (Nat → Int32)} {notes0 : (Nat → Int32)} {past0 : (Nat → Int32)} {counts1 : Int32} {people1 : Nat} {day1 : Int32} {listed1 : Int32} {followed1 : Int32} {struck1 : Int32} {noted1 : Nat} {undoable1 : Nat} {kinds1 : (Nat → Int32)} {tempers1 : (Nat → Int32)} {notes1 : (Nat → Int32)} {past1 : (Nat → Int32)} {counts2 : Int32} {people2 : Nat} {day2 : Int32} {listed2 : Int32} {followed2 : Int32} {struck2 : Int32} {noted2 : Nat} {undoable2 : Nat} {kinds2 : (Nat → Int32)} {tempers2 : (Nat → Int32)} {notes2 : (Nat → Int32)} {past2 : (Nat → Int32)} {counts3 : Int32} {people3 : Nat} {day3 : Int32} {listed3 : Int32} {followed3 : Int32} {struck3 : Int32} {noted3 : Nat} {undoable3 : Nat} {kinds3 : (Nat → Int32)} {tempers3 : (Nat → Int32)} {notes3 : (Nat → Int32)} {past3 : (Nat → Int32)} {keptz : (Nat → Int32)} {wkind : Int32} {wtemper : Int32} {wcounts : Int32} {wday : Int32} {wlisted : Bool} {wfollowed : Bool} {xlength : Nat} {xstart : Nat} {xbehind : Nat} {xsort : Int32} {xnumber : Int32} {xbytes : (Nat → Int32)}  : wl_Met (τ := Int32 × Nat × Int32 × Int32 × Int32 × Int32 × Nat × Nat × (Nat → Int32) × (Nat → Int32) × (Nat → Int32) × (Nat → Int32)) l D E yX1_copyFrom cX1_copyFrom 2 none ({ frames := 1, cells := 0, slots := 0, locals := 40 } : Room) [.ref (a 1), .ref (a 16)] (wX E a fabove fbelow rbad rno rfull counts0 people0 day0 listed0 followed0 struck0 noted0 undoable0 kinds0 tempers0 notes0 past0 counts1 people1 day1 listed1 followed1 struck1 noted1 undoable1 kinds1 tempers1 notes1 past1 counts2 people2 day2 listed2 followed2 struck2 noted2 undoable2 kinds2 tempers2 notes2 past2 counts3 people3 day3 listed3 followed3 struck3 noted3 undoable3 kinds3 tempers3 notes3 past3 keptz wkind wtemper wcounts wday wlisted wfollowed xlength xstart xbehind xsort xnumber xbytes) (fun _ => none) (fun z => (wX E a fabove fbelow rbad rno rfull z.1 z.2.1 z.2.2.1 z.2.2.2.1 z.2.2.2.2.1 z.2.2.2.2.2.1 z.2.2.2.2.2.2.1 z.2.2.2.2.2.2.2.1 z.2.2.2.2.2.2.2.2.1 z.2.2.2.2.2.2.2.2.2.1 z.2.2.2.2.2.2.2.2.2.2.1 z.2.2.2.2.2.2.2.2.2.2.2 counts1 people1 day1 listed1 followed1 struck1 noted1 undoable1 kinds1 tempers1 notes1 past1 counts2 people2 day2 listed2 followed2 struck2 noted2 undoable2 kinds2 tempers2 notes2 past2 counts3 people3 day3 listed3 followed3 struck3 noted3 undoable3 kinds3 tempers3 notes3 past3 keptz wkind wtemper wcounts wday wlisted wfollowed xlength xstart xbehind xsort xnumber xbytes)) (m_X1_copyFrom kinds0 tempers0 notes0 past0 counts3 people3 day3 listed3 followed3 struck3 noted3 undoable3 kinds3 tempers3 notes3 past3) :=
  wl_lift (c_X1_copyFrom (a := (fun k => a ([1, 2, 3, 4, 5, 16, 17, 18, 19, 20].getD k 0))) (counts := counts0) (people := people0) (day := day0) (listed := listed0) (followed := followed0) (struck := struck0) (noted := noted0) (undoable := undoable0) (kinds := kinds0) (tempers := tempers0) (notes := notes0) (past := past0) (countsb := counts3) (peopleb := people3) (dayb := day3) (listedb := listed3) (followedb := followed3) (struckb := struck3) (notedb := noted3) (undoableb := undoable3) (kindsb := kinds3) (tempersb := tempers3) (notesb := notes3) (pastb := past3)  ) [1, 2, 3, 4, 5, 16, 17, 18, 19, 20] [0, 6, 7, 8, 9, 10, 11, 12, 13, 14, 15, 21, 22, 23, 24, 25] [0, 16, 17, 18, 19, 20, 1, 2, 3, 4, 5, 6, 7, 8, 9, 10, 21, 22, 23, 24, 25, 11, 12, 13, 14, 15] (wr := ([0, 6, 7, 8, 9, 10, 11, 12, 13, 14, 15, 21, 22, 23, 24, 25].filterMap (fun i => (wX E a fabove fbelow rbad rno rfull counts0 people0 day0 listed0 followed0 struck0 noted0 undoable0 kinds0 tempers0 notes0 past0 counts1 people1 day1 listed1 followed1 struck1 noted1 undoable1 kinds1 tempers1 notes1 past1 counts2 people2 day2 listed2 followed2 struck2 noted2 undoable2 kinds2 tempers2 notes2 past2 counts3 people3 day3 listed3 followed3 struck3 noted3 undoable3 kinds3 tempers3 notes3 past3 keptz wkind wtemper wcounts wday wlisted wfollowed xlength xstart xbehind xsort xnumber xbytes)[i]?))) rfl rfl (by decide) (by decide) (by decide) (by decide) (fun _ => rfl)
def m_X3_from (rbad : Int32) (rno : Int32) (counts0 : Int32) (people0 : Nat) (day0 : Int32) (listed0 : Int32) (followed0 : Int32) (struck0 : Int32) (noted0 : Nat) (undoable0 : Nat) (kinds0 : (Nat → Int32)) (tempers0 : (Nat → Int32)) (notes0 : (Nat → Int32)) (past0 : (Nat → Int32)) (counts2 : Int32) (people2 : Nat) (day2 : Int32) (listed2 : Int32) (followed2 : Int32) (struck2 : Int32) (noted2 : Nat) (undoable2 : Nat) (kinds2 : (Nat → Int32)) (tempers2 : (Nat → Int32)) (notes2 : (Nat → Int32)) (past2 : (Nat → Int32)) (counts3 : Int32) (people3 : Nat) (day3 : Int32) (listed3 : Int32) (followed3 : Int32) (struck3 : Int32) (noted3 : Nat) (undoable3 : Nat) (kinds3 : (Nat → Int32)) (tempers3 : (Nat → Int32)) (notes3 : (Nat → Int32)) (past3 : (Nat → Int32)) (keptz : (Nat → Int32)) (i : Int32) : Int32 × Int32 × Int32 × Int32 × Nat × Int32 × Int32 × Int32 × Int32 × Nat × Nat × (Nat → Int32) × (Nat → Int32) × (Nat → Int32) × (Nat → Int32) := (wl_bnd (m_X3_isWithin i (nI 0) (nI 1)) (fun z1 => (if z1 = true then (if (keptz (cl i)) = 0 then (wl_bnd (m_X3_refuseNo rno) (fun z8 => (z8.1, rbad, z8.2, counts0, people0, day0, listed0, followed0, struck0, noted0, undoable0, kinds0, tempers0, notes0, past0))) else (if (cl i) = 0 then (wl_bnd (m_X1_copyFrom kinds0 tempers0 notes0 past0 counts2 people2 day2 listed2 followed2 struck2 noted2 undoable2 kinds2 tempers2 notes2 past2) (fun z6 => ((nI 1), rbad, rno, z6.1, z6.2.1, z6.2.2.1, z6.2.2.2.1, z6.2.2.2.2.1, z6.2.2.2.2.2.1, z6.2.2.2.2.2.2.1, z6.2.2.2.2.2.2.2.1, z6.2.2.2.2.2.2.2.2.1, z6.2.2.2.2.2.2.2.2.2.1, z6.2.2.2.2.2.2.2.2.2.2.1, z6.2.2.2.2.2.2.2.2.2.2.2))) else (wl_bnd (m_X1_copyFrom kinds0 tempers0 notes0 past0 counts3 people3 day3 listed3 followed3 struck3 noted3 undoable3 kinds3 tempers3 notes3 past3) (fun z7 => ((nI 1), rbad, rno, z7.1, z7.2.1, z7.2.2.1, z7.2.2.2.1, z7.2.2.2.2.1, z7.2.2.2.2.2.1, z7.2.2.2.2.2.2.1, z7.2.2.2.2.2.2.2.1, z7.2.2.2.2.2.2.2.2.1, z7.2.2.2.2.2.2.2.2.2.1, z7.2.2.2.2.2.2.2.2.2.2.1, z7.2.2.2.2.2.2.2.2.2.2.2))))) else (wl_bnd (m_X3_refuseBad rbad) (fun z9 => (z9.1, z9.2, rno, counts0, people0, day0, listed0, followed0, struck0, noted0, undoable0, kinds0, tempers0, notes0, past0))))))
set_option maxHeartbeats 4000000 in
set_option maxRecDepth 100000 in
theorem c_X3_from {l : Launch} {D : va_G} {E : Nat → ClassId} {a : Nat → Nat} {fabove : Int64} {fbelow : Int64} {rbad : Int32} {rno : Int32} {rfull : Int32} {counts0 : Int32} {people0 : Nat} {day0 : Int32} {listed0 : Int32} {followed0 : Int32} {struck0 : Int32} {noted0 : Nat} {undoable0 : Nat} {kinds0 : (Nat → Int32)} {tempers0 : (Nat → Int32)} {notes0 : (Nat → Int32)} {past0 : (Nat → Int32)} {counts1 : Int32} {people1 : Nat} {day1 : Int32} {listed1 : Int32} {followed1 : Int32} {struck1 : Int32} {noted1 : Nat} {undoable1 : Nat} {kinds1 : (Nat → Int32)} {tempers1 : (Nat → Int32)} {notes1 : (Nat → Int32)} {past1 : (Nat → Int32)} {counts2 : Int32} {people2 : Nat} {day2 : Int32} {listed2 : Int32} {followed2 : Int32} {struck2 : Int32} {noted2 : Nat} {undoable2 : Nat} {kinds2 : (Nat → Int32)} {tempers2 : (Nat → Int32)} {notes2 : (Nat → Int32)} {past2 : (Nat → Int32)} {counts3 : Int32} {people3 : Nat} {day3 : Int32} {listed3 : Int32} {followed3 : Int32} {struck3 : Int32} {noted3 : Nat} {undoable3 : Nat} {kinds3 : (Nat → Int32)} {tempers3 : (Nat → Int32)} {notes3 : (Nat → Int32)} {past3 : (Nat → Int32)} {keptz : (Nat → Int32)} {wkind : Int32} {wtemper : Int32} {wcounts : Int32} {wday : Int32} {wlisted : Bool} {wfollowed : Bool} {xlength : Nat} {xstart : Nat} {xbehind : Nat} {xsort : Int32} {xnumber : Int32} {xbytes : (Nat → Int32)} {i : Int32} : wl_Met (τ := Int32 × Int32 × Int32 × Int32 × Nat × Int32 × Int32 × Int32 × Int32 × Nat × Nat × (Nat → Int32) × (Nat → Int32) × (Nat → Int32) × (Nat → Int32)) l D E yX3_from cX3_from 2 (some .int) ({ frames := 2, cells := 0, slots := 0, locals := 61 } : Room) [.ref (a 0), .int i] (wX E a fabove fbelow rbad rno rfull counts0 people0 day0 listed0 followed0 struck0 noted0 undoable0 kinds0 tempers0 notes0 past0 counts1 people1 day1 listed1 followed1 struck1 noted1 undoable1 kinds1 tempers1 notes1 past1 counts2 people2 day2 listed2 followed2 struck2 noted2 undoable2 kinds2 tempers2 notes2 past2 counts3 people3 day3 listed3 followed3 struck3 noted3 undoable3 kinds3 tempers3 notes3 past3 keptz wkind wtemper wcounts wday wlisted wfollowed xlength xstart xbehind xsort xnumber xbytes) (fun z => some (.int z.1)) (fun z => (wX E a fabove fbelow z.2.1 z.2.2.1 rfull z.2.2.2.1 z.2.2.2.2.1 z.2.2.2.2.2.1 z.2.2.2.2.2.2.1 z.2.2.2.2.2.2.2.1 z.2.2.2.2.2.2.2.2.1 z.2.2.2.2.2.2.2.2.2.1 z.2.2.2.2.2.2.2.2.2.2.1 z.2.2.2.2.2.2.2.2.2.2.2.1 z.2.2.2.2.2.2.2.2.2.2.2.2.1 z.2.2.2.2.2.2.2.2.2.2.2.2.2.1 z.2.2.2.2.2.2.2.2.2.2.2.2.2.2 counts1 people1 day1 listed1 followed1 struck1 noted1 undoable1 kinds1 tempers1 notes1 past1 counts2 people2 day2 listed2 followed2 struck2 noted2 undoable2 kinds2 tempers2 notes2 past2 counts3 people3 day3 listed3 followed3 struck3 noted3 undoable3 kinds3 tempers3 notes3 past3 keptz wkind wtemper wcounts wday wlisted wfollowed xlength xstart xbehind xsort xnumber xbytes)) (m_X3_from rbad rno counts0 people0 day0 listed0 followed0 struck0 noted0 undoable0 kinds0 tempers0 notes0 past0 counts2 people2 day2 listed2 followed2 struck2 noted2 undoable2 kinds2 tempers2 notes2 past2 counts3 people3 day3 listed3 followed3 struck3 noted3 undoable3 kinds3 tempers3 notes3 past3 keptz i) := by
  refine wl_enter (own := RX3) (by decide +kernel) rfl (Nat.le_of_ble_eq_true rfl) ?_
  intro p0 e0 s0 m0 bl0 mt0 c0 A hC hr hlk hA H locs hP hD hS ls hl
  have hx := hC.1
  have hb := hC.2.1
  have hl : lv_has ls 2 [(0, .ref (a 0)), (1, .int i)] := hl
  have hm := m_X3_from.eq_1 rbad rno counts0 people0 day0 listed0 followed0 struck0 noted0 undoable0 kinds0 tempers0 notes0 past0 counts2 people2 day2 listed2 followed2 struck2 noted2 undoable2 kinds2 tempers2 notes2 past2 counts3 people3 day3 listed3 followed3 struck3 noted3 undoable3 kinds3 tempers3 notes3 past3 keptz i
  refine lv_iload_n hx hb dX3_from_0 rfl (lv_at hl 1 rfl) ?_
  refine lv_iconst (v := (nI 0)) hx hb dX3_from_1 (by decide +kernel) ?_
  refine lv_iconst (v := (nI 1)) hx hb dX3_from_2 (by decide +kernel) ?_
  refine wl_callPi hC (c_X3_isWithin (v := i) (least := (nI 0)) (most := (nI 1)) ) lk_RX3_48 rfl ⟨rfl, rfl, Nat.le_of_ble_eq_true rfl, Nat.le_of_ble_eq_true rfl⟩ hP hS hA hl.1 rfl (Nat.le_of_ble_eq_true rfl) dX3_from_3 ⟨Nat.zero_le _, Nat.zero_le _⟩ (fun z1 hz1 H locs hP hS => ?_)
  have hm := wl_bz hm hz1
  refine wl_if_ne_b hx hb (tgt := 14) dX3_from_6 (by decide) (fun c2 => ?_) (fun c2 => ?_)
  · have hm := hm.trans (if_pos c2)
    obtain ⟨ha3, hb3_, hc3_⟩ := within_spec (a := 0) (b := 1) (by decide) (by decide) (hz1.symm.trans c2)
    have hl : lv_has ls 2 [(0, .ref (a 0)), (1, .int (nI (cl i)))] := by rw [← ha3]; exact hl
    refine lv_aload_n hx hb dX3_from_14 rfl (lv_at hl 0 rfl) ?_
    refine g_X_0_kept hC hP mw_206 dX3_from_15 ?_
    refine lv_iload_n hx hb dX3_from_18 rfl (lv_at hl 1 rfl) ?_
    refine ld_X_22 hC hP (cl i) (by omega) dX3_from_19 ?_
    refine lv_if_ne hx hb (tgt := 28) dX3_from_20 (by decide) (fun c4 => ?_) (fun c4 => ?_)
    · have hm := hm.trans (if_neg c4)
      refine lv_aload_n hx hb dX3_from_28 rfl (lv_at hl 0 rfl) ?_
      refine g_X_0_now hC hP mw_202 dX3_from_29 ?_
      refine lv_aload_n hx hb dX3_from_32 rfl (lv_at hl 0 rfl) ?_
      refine g_X_0_images hC hP mw_204 dX3_from_33 ?_
      refine lv_iload_n hx hb dX3_from_36 rfl (lv_at hl 1 rfl) ?_
      refine wl_ald2 hC hP (q0 := 21) rfl (cl i) (by omega) dX3_from_37 (fun c5 => ?_) (fun c5 => ?_)
      · have hm := hm.trans (if_pos c5)
        refine wl_callVv hC (c_X1_copyFrom__X_1_11  ) lk_RX3_82 rfl ⟨rfl, rfl, Nat.le_of_ble_eq_true rfl, Nat.le_of_ble_eq_true rfl⟩ hP hD hS hA 1 rfl (T1 := 12) rfl hl.1 rfl (Nat.le_of_ble_eq_true rfl) dX3_from_38 ⟨Nat.zero_le _, Nat.zero_le _⟩ (fun z6 hz6 H locs hP hD hS => ?_)
        have hm := wl_bz hm hz6
        refine lv_iconst (v := (nI 1)) hx hb dX3_from_41 (by decide +kernel) ?_
        exact wl_iret hC hr hlk hm rfl hP hD hS dX3_from_42
      · have hm := hm.trans (if_neg c5)
        refine wl_callVv hC (c_X1_copyFrom__X_1_16  ) lk_RX3_82 rfl ⟨rfl, rfl, Nat.le_of_ble_eq_true rfl, Nat.le_of_ble_eq_true rfl⟩ hP hD hS hA 1 rfl (T1 := 12) rfl hl.1 rfl (Nat.le_of_ble_eq_true rfl) dX3_from_38 ⟨Nat.zero_le _, Nat.zero_le _⟩ (fun z7 hz7 H locs hP hD hS => ?_)
        have hm := wl_bz hm hz7
        refine lv_iconst (v := (nI 1)) hx hb dX3_from_41 (by decide +kernel) ?_
        exact wl_iret hC hr hlk hm rfl hP hD hS dX3_from_42
    · have hm := hm.trans (if_pos c4)
      refine lv_aload_n hx hb dX3_from_23 rfl (lv_at hl 0 rfl) ?_
      refine wl_callVi hC (c_X3_refuseNo  ) lk_RX3_113 rfl ⟨rfl, rfl, Nat.le_of_ble_eq_true rfl, Nat.le_of_ble_eq_true rfl⟩ hP hD hS hA 0 rfl (T1 := 11) rfl hl.1 rfl (Nat.le_of_ble_eq_true rfl) dX3_from_24 ⟨Nat.zero_le _, Nat.zero_le _⟩ (fun z8 hz8 H locs hP hD hS => ?_)
      have hm := wl_bz hm hz8
      exact wl_iret hC hr hlk hm rfl hP hD hS dX3_from_27
  · have hm := hm.trans (if_neg c2)
    refine lv_aload_n hx hb dX3_from_9 rfl (lv_at hl 0 rfl) ?_
    refine wl_callVi hC (c_X3_refuseBad  ) lk_RX3_52 rfl ⟨rfl, rfl, Nat.le_of_ble_eq_true rfl, Nat.le_of_ble_eq_true rfl⟩ hP hD hS hA 0 rfl (T1 := 11) rfl hl.1 rfl (Nat.le_of_ble_eq_true rfl) dX3_from_10 ⟨Nat.zero_le _, Nat.zero_le _⟩ (fun z9 hz9 H locs hP hD hS => ?_)
    have hm := wl_bz hm hz9
    exact wl_iret hC hr hlk hm rfl hP hD hS dX3_from_13
def m_X3_status (rbad : Int32) (rno : Int32) (rfull : Int32) (what : Int32) : Int32 × Int32 := (if what = nI 0 then (rbad, rbad) else (if what = nI 1 then (rno, rbad) else (if what = nI 2 then (rfull, rbad) else (wl_bnd (m_X3_refuseBad rbad) (fun z2 => ((-1), z2.2))))))
set_option maxHeartbeats 4000000 in
set_option maxRecDepth 100000 in
theorem c_X3_status {l : Launch} {D : va_G} {E : Nat → ClassId} {a : Nat → Nat} {fabove : Int64} {fbelow : Int64} {rbad : Int32} {rno : Int32} {rfull : Int32} {counts0 : Int32} {people0 : Nat} {day0 : Int32} {listed0 : Int32} {followed0 : Int32} {struck0 : Int32} {noted0 : Nat} {undoable0 : Nat} {kinds0 : (Nat → Int32)} {tempers0 : (Nat → Int32)} {notes0 : (Nat → Int32)} {past0 : (Nat → Int32)} {counts1 : Int32} {people1 : Nat} {day1 : Int32} {listed1 : Int32} {followed1 : Int32} {struck1 : Int32} {noted1 : Nat} {undoable1 : Nat} {kinds1 : (Nat → Int32)} {tempers1 : (Nat → Int32)} {notes1 : (Nat → Int32)} {past1 : (Nat → Int32)} {counts2 : Int32} {people2 : Nat} {day2 : Int32} {listed2 : Int32} {followed2 : Int32} {struck2 : Int32} {noted2 : Nat} {undoable2 : Nat} {kinds2 : (Nat → Int32)} {tempers2 : (Nat → Int32)} {notes2 : (Nat → Int32)} {past2 : (Nat → Int32)} {counts3 : Int32} {people3 : Nat} {day3 : Int32} {listed3 : Int32} {followed3 : Int32} {struck3 : Int32} {noted3 : Nat} {undoable3 : Nat} {kinds3 : (Nat → Int32)} {tempers3 : (Nat → Int32)} {notes3 : (Nat → Int32)} {past3 : (Nat → Int32)} {keptz : (Nat → Int32)} {wkind : Int32} {wtemper : Int32} {wcounts : Int32} {wday : Int32} {wlisted : Bool} {wfollowed : Bool} {xlength : Nat} {xstart : Nat} {xbehind : Nat} {xsort : Int32} {xnumber : Int32} {xbytes : (Nat → Int32)} {what : Int32} : wl_Met (τ := Int32 × Int32) l D E yX3_status cX3_status 2 (some .int) ({ frames := 1, cells := 0, slots := 0, locals := 20 } : Room) [.ref (a 0), .int what] (wX E a fabove fbelow rbad rno rfull counts0 people0 day0 listed0 followed0 struck0 noted0 undoable0 kinds0 tempers0 notes0 past0 counts1 people1 day1 listed1 followed1 struck1 noted1 undoable1 kinds1 tempers1 notes1 past1 counts2 people2 day2 listed2 followed2 struck2 noted2 undoable2 kinds2 tempers2 notes2 past2 counts3 people3 day3 listed3 followed3 struck3 noted3 undoable3 kinds3 tempers3 notes3 past3 keptz wkind wtemper wcounts wday wlisted wfollowed xlength xstart xbehind xsort xnumber xbytes) (fun z => some (.int z.1)) (fun z => (wX E a fabove fbelow z.2 rno rfull counts0 people0 day0 listed0 followed0 struck0 noted0 undoable0 kinds0 tempers0 notes0 past0 counts1 people1 day1 listed1 followed1 struck1 noted1 undoable1 kinds1 tempers1 notes1 past1 counts2 people2 day2 listed2 followed2 struck2 noted2 undoable2 kinds2 tempers2 notes2 past2 counts3 people3 day3 listed3 followed3 struck3 noted3 undoable3 kinds3 tempers3 notes3 past3 keptz wkind wtemper wcounts wday wlisted wfollowed xlength xstart xbehind xsort xnumber xbytes)) (m_X3_status rbad rno rfull what) := by
  refine wl_enter (own := RX3) (by decide +kernel) rfl (Nat.le_of_ble_eq_true rfl) ?_
  intro p0 e0 s0 m0 bl0 mt0 c0 A hC hr hlk hA H locs hP hD hS ls hl
  have hx := hC.1
  have hb := hC.2.1
  have hl : lv_has ls 2 [(0, .ref (a 0)), (1, .int what)] := hl
  have hm := m_X3_status.eq_1 rbad rno rfull what
  refine lv_iload_n hx hb dX3_status_0 rfl (lv_at hl 1 rfl) ?_
  refine (Decidable.em (what = nI 0)).elim (fun c1_0 => ?_) (fun c1_0 => ?_)
  · have hm := hm.trans (if_pos c1_0)
    refine lv_tableIn (off := 27) (tgt := 28) hx hb dX3_status_1 (by rw [c1_0]; decide +kernel) (by rw [c1_0]; decide +kernel) (by rw [c1_0]; decide +kernel) (by decide) ?_
    refine lv_aload_n hx hb dX3_status_28 rfl (lv_at hl 0 rfl) ?_
    refine g_X_0_refusedBad hC hP mw_219 dX3_status_29 ?_
    exact wl_iret hC hr hlk hm rfl hP hD hS dX3_status_32
  · have hm := hm.trans (if_neg c1_0)
    refine (Decidable.em (what = nI 1)).elim (fun c1_1 => ?_) (fun c1_1 => ?_)
    · have hm := hm.trans (if_pos c1_1)
      refine lv_tableIn (off := 32) (tgt := 33) hx hb dX3_status_1 (by rw [c1_1]; decide +kernel) (by rw [c1_1]; decide +kernel) (by rw [c1_1]; decide +kernel) (by decide) ?_
      refine lv_aload_n hx hb dX3_status_33 rfl (lv_at hl 0 rfl) ?_
      refine g_X_0_refusedNo hC hP mw_265 dX3_status_34 ?_
      exact wl_iret hC hr hlk hm rfl hP hD hS dX3_status_37
    · have hm := hm.trans (if_neg c1_1)
      refine (Decidable.em (what = nI 2)).elim (fun c1_2 => ?_) (fun c1_2 => ?_)
      · have hm := hm.trans (if_pos c1_2)
        refine lv_tableIn (off := 37) (tgt := 38) hx hb dX3_status_1 (by rw [c1_2]; decide +kernel) (by rw [c1_2]; decide +kernel) (by rw [c1_2]; decide +kernel) (by decide) ?_
        refine lv_aload_n hx hb dX3_status_38 rfl (lv_at hl 0 rfl) ?_
        refine g_X_0_refusedFull hC hP mw_228 dX3_status_39 ?_
        exact wl_iret hC hr hlk hm rfl hP hD hS dX3_status_42
      · have hm := hm.trans (if_neg c1_2)
        refine lv_tableOut (tgt := 43) hx hb dX3_status_1 (wl_tab0_2 c1_0 c1_1 c1_2) (by decide) ?_
        refine lv_aload_n hx hb dX3_status_43 rfl (lv_at hl 0 rfl) ?_
        refine wl_callVi hC (c_X3_refuseBad  ) lk_RX3_52 rfl ⟨rfl, rfl, Nat.le_of_ble_eq_true rfl, Nat.le_of_ble_eq_true rfl⟩ hP hD hS hA 0 rfl (T1 := 11) rfl hl.1 rfl (Nat.le_of_ble_eq_true rfl) dX3_status_44 ⟨Nat.zero_le _, Nat.zero_le _⟩ (fun z2 hz2 H locs hP hD hS => ?_)
        have hm := wl_bz hm hz2
        refine lv_pop hx hb dX3_status_47 rfl ?_
        refine lv_iconst (v := (-1)) hx hb dX3_status_48 (by decide +kernel) ?_
        exact wl_iret hC hr hlk hm rfl hP hD hS dX3_status_49
def m_X3_howMany (people0 : Nat) (day0 : Int32) (listed0 : Int32) (followed0 : Int32) (struck0 : Int32) (noted0 : Nat) (undoable0 : Nat) (xlength : Nat) (what : Int32) : Int32 := (if what = nI 0 then (nI people0) else (if what = nI 1 then day0 else (if what = nI 2 then (wl_bnd (m_J6_bitCount_0f7a4 listed0) (fun z2 => z2)) else (if what = nI 3 then (wl_bnd (m_J6_bitCount_0f7a4 followed0) (fun z3 => z3)) else (if what = nI 4 then struck0 else (if what = nI 5 then (nI noted0) else (if what = nI 6 then (nI undoable0) else (nI xlength))))))))
set_option maxHeartbeats 4000000 in
set_option maxRecDepth 100000 in
theorem c_X3_howMany {l : Launch} {D : va_G} {E : Nat → ClassId} {a : Nat → Nat} {fabove : Int64} {fbelow : Int64} {rbad : Int32} {rno : Int32} {rfull : Int32} {counts0 : Int32} {people0 : Nat} {day0 : Int32} {listed0 : Int32} {followed0 : Int32} {struck0 : Int32} {noted0 : Nat} {undoable0 : Nat} {kinds0 : (Nat → Int32)} {tempers0 : (Nat → Int32)} {notes0 : (Nat → Int32)} {past0 : (Nat → Int32)} {counts1 : Int32} {people1 : Nat} {day1 : Int32} {listed1 : Int32} {followed1 : Int32} {struck1 : Int32} {noted1 : Nat} {undoable1 : Nat} {kinds1 : (Nat → Int32)} {tempers1 : (Nat → Int32)} {notes1 : (Nat → Int32)} {past1 : (Nat → Int32)} {counts2 : Int32} {people2 : Nat} {day2 : Int32} {listed2 : Int32} {followed2 : Int32} {struck2 : Int32} {noted2 : Nat} {undoable2 : Nat} {kinds2 : (Nat → Int32)} {tempers2 : (Nat → Int32)} {notes2 : (Nat → Int32)} {past2 : (Nat → Int32)} {counts3 : Int32} {people3 : Nat} {day3 : Int32} {listed3 : Int32} {followed3 : Int32} {struck3 : Int32} {noted3 : Nat} {undoable3 : Nat} {kinds3 : (Nat → Int32)} {tempers3 : (Nat → Int32)} {notes3 : (Nat → Int32)} {past3 : (Nat → Int32)} {keptz : (Nat → Int32)} {wkind : Int32} {wtemper : Int32} {wcounts : Int32} {wday : Int32} {wlisted : Bool} {wfollowed : Bool} {xlength : Nat} {xstart : Nat} {xbehind : Nat} {xsort : Int32} {xnumber : Int32} {xbytes : (Nat → Int32)} {what : Int32} : wl_Met (τ := Int32) l D E yX3_howMany cX3_howMany 2 (some .int) ({ frames := 1, cells := 0, slots := 0, locals := 20 } : Room) [.ref (a 0), .int what] (wX E a fabove fbelow rbad rno rfull counts0 people0 day0 listed0 followed0 struck0 noted0 undoable0 kinds0 tempers0 notes0 past0 counts1 people1 day1 listed1 followed1 struck1 noted1 undoable1 kinds1 tempers1 notes1 past1 counts2 people2 day2 listed2 followed2 struck2 noted2 undoable2 kinds2 tempers2 notes2 past2 counts3 people3 day3 listed3 followed3 struck3 noted3 undoable3 kinds3 tempers3 notes3 past3 keptz wkind wtemper wcounts wday wlisted wfollowed xlength xstart xbehind xsort xnumber xbytes) (fun z => some (.int z)) (fun _ => (wX E a fabove fbelow rbad rno rfull counts0 people0 day0 listed0 followed0 struck0 noted0 undoable0 kinds0 tempers0 notes0 past0 counts1 people1 day1 listed1 followed1 struck1 noted1 undoable1 kinds1 tempers1 notes1 past1 counts2 people2 day2 listed2 followed2 struck2 noted2 undoable2 kinds2 tempers2 notes2 past2 counts3 people3 day3 listed3 followed3 struck3 noted3 undoable3 kinds3 tempers3 notes3 past3 keptz wkind wtemper wcounts wday wlisted wfollowed xlength xstart xbehind xsort xnumber xbytes)) (m_X3_howMany people0 day0 listed0 followed0 struck0 noted0 undoable0 xlength what) := by
  refine wl_enter (own := RX3) (by decide +kernel) rfl (Nat.le_of_ble_eq_true rfl) ?_
  intro p0 e0 s0 m0 bl0 mt0 c0 A hC hr hlk hA H locs hP hD hS ls hl
  have hx := hC.1
  have hb := hC.2.1
  have hl : lv_has ls 2 [(0, .ref (a 0)), (1, .int what)] := hl
  have hm := m_X3_howMany.eq_1 people0 day0 listed0 followed0 struck0 noted0 undoable0 xlength what
  refine lv_iload_n hx hb dX3_howMany_0 rfl (lv_at hl 1 rfl) ?_
  refine (Decidable.em (what = nI 0)).elim (fun c1_0 => ?_) (fun c1_0 => ?_)
  · have hm := hm.trans (if_pos c1_0)
    refine lv_tableIn (off := 43) (tgt := 44) hx hb dX3_howMany_1 (by rw [c1_0]; decide +kernel) (by rw [c1_0]; decide +kernel) (by rw [c1_0]; decide +kernel) (by decide) ?_
    refine lv_aload_n hx hb dX3_howMany_44 rfl (lv_at hl 0 rfl) ?_
    refine g_X_0_now hC hP mw_202 dX3_howMany_45 ?_
    refine g_X_1_people hC hP mw_221 dX3_howMany_48 ?_
    exact wl_iret hC hr hlk hm rfl hP hD hS dX3_howMany_51
  · have hm := hm.trans (if_neg c1_0)
    refine (Decidable.em (what = nI 1)).elim (fun c1_1 => ?_) (fun c1_1 => ?_)
    · have hm := hm.trans (if_pos c1_1)
      refine lv_tableIn (off := 51) (tgt := 52) hx hb dX3_howMany_1 (by rw [c1_1]; decide +kernel) (by rw [c1_1]; decide +kernel) (by rw [c1_1]; decide +kernel) (by decide) ?_
      refine lv_aload_n hx hb dX3_howMany_52 rfl (lv_at hl 0 rfl) ?_
      refine g_X_0_now hC hP mw_202 dX3_howMany_53 ?_
      refine g_X_1_day hC hP mw_268 dX3_howMany_56 ?_
      exact wl_iret hC hr hlk hm rfl hP hD hS dX3_howMany_59
    · have hm := hm.trans (if_neg c1_1)
      refine (Decidable.em (what = nI 2)).elim (fun c1_2 => ?_) (fun c1_2 => ?_)
      · have hm := hm.trans (if_pos c1_2)
        refine lv_tableIn (off := 59) (tgt := 60) hx hb dX3_howMany_1 (by rw [c1_2]; decide +kernel) (by rw [c1_2]; decide +kernel) (by rw [c1_2]; decide +kernel) (by decide) ?_
        refine lv_aload_n hx hb dX3_howMany_60 rfl (lv_at hl 0 rfl) ?_
        refine g_X_0_now hC hP mw_202 dX3_howMany_61 ?_
        refine g_X_1_listed hC hP mw_249 dX3_howMany_64 ?_
        refine wl_callPi hC (c_J6_bitCount_0f7a4 (i := listed0) ) lk_RX3_149 rfl ⟨rfl, rfl, Nat.le_of_ble_eq_true rfl, Nat.le_of_ble_eq_true rfl⟩ hP hS hA hl.1 rfl (Nat.le_of_ble_eq_true rfl) dX3_howMany_67 ⟨Nat.zero_le _, Nat.zero_le _⟩ (fun z2 hz2 H locs hP hS => ?_)
        have hm := wl_bz hm hz2
        exact wl_iret hC hr hlk hm rfl hP hD hS dX3_howMany_70
      · have hm := hm.trans (if_neg c1_2)
        refine (Decidable.em (what = nI 3)).elim (fun c1_3 => ?_) (fun c1_3 => ?_)
        · have hm := hm.trans (if_pos c1_3)
          refine lv_tableIn (off := 70) (tgt := 71) hx hb dX3_howMany_1 (by rw [c1_3]; decide +kernel) (by rw [c1_3]; decide +kernel) (by rw [c1_3]; decide +kernel) (by decide) ?_
          refine lv_aload_n hx hb dX3_howMany_71 rfl (lv_at hl 0 rfl) ?_
          refine g_X_0_now hC hP mw_202 dX3_howMany_72 ?_
          refine g_X_1_followed hC hP mw_259 dX3_howMany_75 ?_
          refine wl_callPi hC (c_J6_bitCount_0f7a4 (i := followed0) ) lk_RX3_149 rfl ⟨rfl, rfl, Nat.le_of_ble_eq_true rfl, Nat.le_of_ble_eq_true rfl⟩ hP hS hA hl.1 rfl (Nat.le_of_ble_eq_true rfl) dX3_howMany_78 ⟨Nat.zero_le _, Nat.zero_le _⟩ (fun z3 hz3 H locs hP hS => ?_)
          have hm := wl_bz hm hz3
          exact wl_iret hC hr hlk hm rfl hP hD hS dX3_howMany_81
        · have hm := hm.trans (if_neg c1_3)
          refine (Decidable.em (what = nI 4)).elim (fun c1_4 => ?_) (fun c1_4 => ?_)
          · have hm := hm.trans (if_pos c1_4)
            refine lv_tableIn (off := 81) (tgt := 82) hx hb dX3_howMany_1 (by rw [c1_4]; decide +kernel) (by rw [c1_4]; decide +kernel) (by rw [c1_4]; decide +kernel) (by decide) ?_
            refine lv_aload_n hx hb dX3_howMany_82 rfl (lv_at hl 0 rfl) ?_
            refine g_X_0_now hC hP mw_202 dX3_howMany_83 ?_
            refine g_X_1_struck hC hP mw_373 dX3_howMany_86 ?_
            exact wl_iret hC hr hlk hm rfl hP hD hS dX3_howMany_89
          · have hm := hm.trans (if_neg c1_4)
            refine (Decidable.em (what = nI 5)).elim (fun c1_5 => ?_) (fun c1_5 => ?_)
            · have hm := hm.trans (if_pos c1_5)
              refine lv_tableIn (off := 89) (tgt := 90) hx hb dX3_howMany_1 (by rw [c1_5]; decide +kernel) (by rw [c1_5]; decide +kernel) (by rw [c1_5]; decide +kernel) (by decide) ?_
              refine lv_aload_n hx hb dX3_howMany_90 rfl (lv_at hl 0 rfl) ?_
              refine g_X_0_now hC hP mw_202 dX3_howMany_91 ?_
              refine g_X_1_noted hC hP mw_334 dX3_howMany_94 ?_
              exact wl_iret hC hr hlk hm rfl hP hD hS dX3_howMany_97
            · have hm := hm.trans (if_neg c1_5)
              refine (Decidable.em (what = nI 6)).elim (fun c1_6 => ?_) (fun c1_6 => ?_)
              · have hm := hm.trans (if_pos c1_6)
                refine lv_tableIn (off := 97) (tgt := 98) hx hb dX3_howMany_1 (by rw [c1_6]; decide +kernel) (by rw [c1_6]; decide +kernel) (by rw [c1_6]; decide +kernel) (by decide) ?_
                refine lv_aload_n hx hb dX3_howMany_98 rfl (lv_at hl 0 rfl) ?_
                refine g_X_0_now hC hP mw_202 dX3_howMany_99 ?_
                refine g_X_1_undoable hC hP mw_267 dX3_howMany_102 ?_
                exact wl_iret hC hr hlk hm rfl hP hD hS dX3_howMany_105
              · have hm := hm.trans (if_neg c1_6)
                refine lv_tableOut (tgt := 106) hx hb dX3_howMany_1 (wl_tab0_6 c1_0 c1_1 c1_2 c1_3 c1_4 c1_5 c1_6) (by decide) ?_
                refine lv_aload_n hx hb dX3_howMany_106 rfl (lv_at hl 0 rfl) ?_
                refine g_X_0_text hC hP mw_212 dX3_howMany_107 ?_
                refine g_X_24_length hC hP mw_235 dX3_howMany_110 ?_
                exact wl_iret hC hr hlk hm rfl hP hD hS dX3_howMany_113
def m_X3_count (rbad : Int32) (people0 : Nat) (day0 : Int32) (listed0 : Int32) (followed0 : Int32) (struck0 : Int32) (noted0 : Nat) (undoable0 : Nat) (xlength : Nat) (what : Int32) : Int32 × Int32 := (wl_bnd (m_X3_isWithin what (nI 0) (nI 7)) (fun z1 => (if z1 = true then (wl_bnd (m_X3_howMany people0 day0 listed0 followed0 struck0 noted0 undoable0 xlength what) (fun z3 => (z3, rbad))) else (wl_bnd (m_X3_refuseBad rbad) (fun z4 => (z4.1, z4.2))))))
set_option maxHeartbeats 4000000 in
set_option maxRecDepth 100000 in
theorem c_X3_count {l : Launch} {D : va_G} {E : Nat → ClassId} {a : Nat → Nat} {fabove : Int64} {fbelow : Int64} {rbad : Int32} {rno : Int32} {rfull : Int32} {counts0 : Int32} {people0 : Nat} {day0 : Int32} {listed0 : Int32} {followed0 : Int32} {struck0 : Int32} {noted0 : Nat} {undoable0 : Nat} {kinds0 : (Nat → Int32)} {tempers0 : (Nat → Int32)} {notes0 : (Nat → Int32)} {past0 : (Nat → Int32)} {counts1 : Int32} {people1 : Nat} {day1 : Int32} {listed1 : Int32} {followed1 : Int32} {struck1 : Int32} {noted1 : Nat} {undoable1 : Nat} {kinds1 : (Nat → Int32)} {tempers1 : (Nat → Int32)} {notes1 : (Nat → Int32)} {past1 : (Nat → Int32)} {counts2 : Int32} {people2 : Nat} {day2 : Int32} {listed2 : Int32} {followed2 : Int32} {struck2 : Int32} {noted2 : Nat} {undoable2 : Nat} {kinds2 : (Nat → Int32)} {tempers2 : (Nat → Int32)} {notes2 : (Nat → Int32)} {past2 : (Nat → Int32)} {counts3 : Int32} {people3 : Nat} {day3 : Int32} {listed3 : Int32} {followed3 : Int32} {struck3 : Int32} {noted3 : Nat} {undoable3 : Nat} {kinds3 : (Nat → Int32)} {tempers3 : (Nat → Int32)} {notes3 : (Nat → Int32)} {past3 : (Nat → Int32)} {keptz : (Nat → Int32)} {wkind : Int32} {wtemper : Int32} {wcounts : Int32} {wday : Int32} {wlisted : Bool} {wfollowed : Bool} {xlength : Nat} {xstart : Nat} {xbehind : Nat} {xsort : Int32} {xnumber : Int32} {xbytes : (Nat → Int32)} {what : Int32} : wl_Met (τ := Int32 × Int32) l D E yX3_count cX3_count 2 (some .int) ({ frames := 2, cells := 0, slots := 0, locals := 41 } : Room) [.ref (a 0), .int what] (wX E a fabove fbelow rbad rno rfull counts0 people0 day0 listed0 followed0 struck0 noted0 undoable0 kinds0 tempers0 notes0 past0 counts1 people1 day1 listed1 followed1 struck1 noted1 undoable1 kinds1 tempers1 notes1 past1 counts2 people2 day2 listed2 followed2 struck2 noted2 undoable2 kinds2 tempers2 notes2 past2 counts3 people3 day3 listed3 followed3 struck3 noted3 undoable3 kinds3 tempers3 notes3 past3 keptz wkind wtemper wcounts wday wlisted wfollowed xlength xstart xbehind xsort xnumber xbytes) (fun z => some (.int z.1)) (fun z => (wX E a fabove fbelow z.2 rno rfull counts0 people0 day0 listed0 followed0 struck0 noted0 undoable0 kinds0 tempers0 notes0 past0 counts1 people1 day1 listed1 followed1 struck1 noted1 undoable1 kinds1 tempers1 notes1 past1 counts2 people2 day2 listed2 followed2 struck2 noted2 undoable2 kinds2 tempers2 notes2 past2 counts3 people3 day3 listed3 followed3 struck3 noted3 undoable3 kinds3 tempers3 notes3 past3 keptz wkind wtemper wcounts wday wlisted wfollowed xlength xstart xbehind xsort xnumber xbytes)) (m_X3_count rbad people0 day0 listed0 followed0 struck0 noted0 undoable0 xlength what) := by
  refine wl_enter (own := RX3) (by decide +kernel) rfl (Nat.le_of_ble_eq_true rfl) ?_
  intro p0 e0 s0 m0 bl0 mt0 c0 A hC hr hlk hA H locs hP hD hS ls hl
  have hx := hC.1
  have hb := hC.2.1
  have hl : lv_has ls 2 [(0, .ref (a 0)), (1, .int what)] := hl
  have hm := m_X3_count.eq_1 rbad people0 day0 listed0 followed0 struck0 noted0 undoable0 xlength what
  refine lv_iload_n hx hb dX3_count_0 rfl (lv_at hl 1 rfl) ?_
  refine lv_iconst (v := (nI 0)) hx hb dX3_count_1 (by decide +kernel) ?_
  refine lv_bipush (v := (nI 7)) hx hb dX3_count_2 (by decide +kernel) ?_
  refine wl_callPi hC (c_X3_isWithin (v := what) (least := (nI 0)) (most := (nI 7)) ) lk_RX3_48 rfl ⟨rfl, rfl, Nat.le_of_ble_eq_true rfl, Nat.le_of_ble_eq_true rfl⟩ hP hS hA hl.1 rfl (Nat.le_of_ble_eq_true rfl) dX3_count_4 ⟨Nat.zero_le _, Nat.zero_le _⟩ (fun z1 hz1 H locs hP hS => ?_)
  have hm := wl_bz hm hz1
  refine wl_if_ne_b hx hb (tgt := 15) dX3_count_7 (by decide) (fun c2 => ?_) (fun c2 => ?_)
  · have hm := hm.trans (if_pos c2)
    refine lv_aload_n hx hb dX3_count_15 rfl (lv_at hl 0 rfl) ?_
    refine lv_iload_n hx hb dX3_count_16 rfl (lv_at hl 1 rfl) ?_
    refine wl_callVi hC (c_X3_howMany (what := what) ) lk_RX3_210 rfl ⟨rfl, rfl, Nat.le_of_ble_eq_true rfl, Nat.le_of_ble_eq_true rfl⟩ hP hD hS hA 0 rfl (T1 := 11) rfl hl.1 rfl (Nat.le_of_ble_eq_true rfl) dX3_count_17 ⟨Nat.zero_le _, Nat.zero_le _⟩ (fun z3 hz3 H locs hP hD hS => ?_)
    have hm := wl_bz hm hz3
    exact wl_iret hC hr hlk hm rfl hP hD hS dX3_count_20
  · have hm := hm.trans (if_neg c2)
    refine lv_aload_n hx hb dX3_count_10 rfl (lv_at hl 0 rfl) ?_
    refine wl_callVi hC (c_X3_refuseBad  ) lk_RX3_52 rfl ⟨rfl, rfl, Nat.le_of_ble_eq_true rfl, Nat.le_of_ble_eq_true rfl⟩ hP hD hS hA 0 rfl (T1 := 11) rfl hl.1 rfl (Nat.le_of_ble_eq_true rfl) dX3_count_11 ⟨Nat.zero_le _, Nat.zero_le _⟩ (fun z4 hz4 H locs hP hD hS => ?_)
    have hm := wl_bz hm hz4
    exact wl_iret hC hr hlk hm rfl hP hD hS dX3_count_14
def m_X3_digest_l6 (people0 : Nat) (day0 : Int32) (listed0 : Int32) (followed0 : Int32) (struck0 : Int32) (noted0 : Nat) (undoable0 : Nat) (xlength : Nat) (k1 : Nat) (v1 : Int64) : Int64 := (wl_bnd (m_X3_howMany people0 day0 listed0 followed0 struck0 noted0 undoable0 xlength (nI k1)) (fun z3 => (((lN 31) * v1) + z3.toInt64)))
def m_X3_digest_l48 (listed0 : Int32) (followed0 : Int32) (kinds0 : (Nat → Int32)) (tempers0 : (Nat → Int32)) (k5 : Nat) (v5 : Int64) : Int64 := (wl_bnd (m_X3_bitOf listed0 k5) (fun z7 => (wl_bnd (m_X3_bitOf followed0 k5) (fun z8 => (((lN 31) * (((lN 31) * (((lN 31) * (((lN 31) * v5) + (kinds0 k5).toInt64)) + (tempers0 k5).toInt64)) + z7.toInt64)) + z8.toInt64)))))
def m_X3_digest_l139 (notes0 : (Nat → Int32)) (k10 : Nat) (v10 : Int64) : Int64 := (((lN 31) * v10) + (notes0 k10).toInt64)
def m_X3_digest (fabove : Int64) (fbelow : Int64) (counts0 : Int32) (people0 : Nat) (day0 : Int32) (listed0 : Int32) (followed0 : Int32) (struck0 : Int32) (noted0 : Nat) (undoable0 : Nat) (kinds0 : (Nat → Int32)) (tempers0 : (Nat → Int32)) (notes0 : (Nat → Int32)) (xlength : Nat) : Int64 := (wl_bnd (wl_iter (m_X3_digest_l6 people0 day0 listed0 followed0 struck0 noted0 undoable0 xlength) 8 0 (lN 1213)) (fun z1 => (wl_bnd (wl_iter (m_X3_digest_l48 listed0 followed0 kinds0 tempers0) people0 0 (((lN 31) * z1) + counts0.toInt64)) (fun z5 => (wl_bnd (wl_iter (m_X3_digest_l139 notes0) (noted0 * 5) 0 z5) (fun z10 => (((lN 31) * (((lN 31) * z10) + fabove)) + fbelow)))))))
set_option maxHeartbeats 4000000 in
set_option maxRecDepth 100000 in
theorem c_X3_digest {l : Launch} {D : va_G} {E : Nat → ClassId} {a : Nat → Nat} {fabove : Int64} {fbelow : Int64} {rbad : Int32} {rno : Int32} {rfull : Int32} {counts0 : Int32} {people0 : Nat} {day0 : Int32} {listed0 : Int32} {followed0 : Int32} {struck0 : Int32} {noted0 : Nat} {undoable0 : Nat} {kinds0 : (Nat → Int32)} {tempers0 : (Nat → Int32)} {notes0 : (Nat → Int32)} {past0 : (Nat → Int32)} {counts1 : Int32} {people1 : Nat} {day1 : Int32} {listed1 : Int32} {followed1 : Int32} {struck1 : Int32} {noted1 : Nat} {undoable1 : Nat} {kinds1 : (Nat → Int32)} {tempers1 : (Nat → Int32)} {notes1 : (Nat → Int32)} {past1 : (Nat → Int32)} {counts2 : Int32} {people2 : Nat} {day2 : Int32} {listed2 : Int32} {followed2 : Int32} {struck2 : Int32} {noted2 : Nat} {undoable2 : Nat} {kinds2 : (Nat → Int32)} {tempers2 : (Nat → Int32)} {notes2 : (Nat → Int32)} {past2 : (Nat → Int32)} {counts3 : Int32} {people3 : Nat} {day3 : Int32} {listed3 : Int32} {followed3 : Int32} {struck3 : Int32} {noted3 : Nat} {undoable3 : Nat} {kinds3 : (Nat → Int32)} {tempers3 : (Nat → Int32)} {notes3 : (Nat → Int32)} {past3 : (Nat → Int32)} {keptz : (Nat → Int32)} {wkind : Int32} {wtemper : Int32} {wcounts : Int32} {wday : Int32} {wlisted : Bool} {wfollowed : Bool} {xlength : Nat} {xstart : Nat} {xbehind : Nat} {xsort : Int32} {xnumber : Int32} {xbytes : (Nat → Int32)}  (hP7 : people0 ≤ 7) (hN6 : noted0 ≤ 6) : wl_Met (τ := Int64) l D E yX3_digest cX3_digest 4 (some .long) ({ frames := 2, cells := 0, slots := 0, locals := 41 } : Room) [.ref (a 0)] (wX E a fabove fbelow rbad rno rfull counts0 people0 day0 listed0 followed0 struck0 noted0 undoable0 kinds0 tempers0 notes0 past0 counts1 people1 day1 listed1 followed1 struck1 noted1 undoable1 kinds1 tempers1 notes1 past1 counts2 people2 day2 listed2 followed2 struck2 noted2 undoable2 kinds2 tempers2 notes2 past2 counts3 people3 day3 listed3 followed3 struck3 noted3 undoable3 kinds3 tempers3 notes3 past3 keptz wkind wtemper wcounts wday wlisted wfollowed xlength xstart xbehind xsort xnumber xbytes) (fun z => some (.long z)) (fun _ => (wX E a fabove fbelow rbad rno rfull counts0 people0 day0 listed0 followed0 struck0 noted0 undoable0 kinds0 tempers0 notes0 past0 counts1 people1 day1 listed1 followed1 struck1 noted1 undoable1 kinds1 tempers1 notes1 past1 counts2 people2 day2 listed2 followed2 struck2 noted2 undoable2 kinds2 tempers2 notes2 past2 counts3 people3 day3 listed3 followed3 struck3 noted3 undoable3 kinds3 tempers3 notes3 past3 keptz wkind wtemper wcounts wday wlisted wfollowed xlength xstart xbehind xsort xnumber xbytes)) (m_X3_digest fabove fbelow counts0 people0 day0 listed0 followed0 struck0 noted0 undoable0 kinds0 tempers0 notes0 xlength) := by
  refine wl_enter (own := RX3) (by decide +kernel) rfl (Nat.le_of_ble_eq_true rfl) ?_
  intro p0 e0 s0 m0 bl0 mt0 c0 A hC hr hlk hA H locs hP hD hS ls hl
  have hx := hC.1
  have hb := hC.2.1
  have hl : lv_has ls 4 [(0, .ref (a 0))] := hl
  have hm := m_X3_digest.eq_1 fabove fbelow counts0 people0 day0 listed0 followed0 struck0 noted0 undoable0 kinds0 tempers0 notes0 xlength
  refine lv_ldc2 hx hb hC.2.2.2.1 (hC.2.2.2.2.1 _ mw_379) dX3_digest_0 ?_
  refine wl_reL (show (1213 : Int64) = lN 1213 by decide +kernel) ?_
  refine lv_lstore_n (lv' := [(1, .long (lN 1213)), (0, .ref (a 0))]) hx hb dX3_digest_3 rfl hl (by decide) rfl (fun ls hl => ?_)
  refine lv_iconst (v := (nI 0)) hx hb dX3_digest_4 (by decide +kernel) ?_
  refine lv_istore_n (lv' := [(3, .int (nI 0)), (1, .long (lN 1213)), (0, .ref (a 0))]) hx hb dX3_digest_5 rfl hl (by decide) rfl (fun ls hl => ?_)
  obtain ⟨u1, hu1, hk1⟩ := wl_bx hm
  refine wl_for (D := D) (A := A) (H0 := s0.heap) (m_X3_digest_l6 people0 day0 listed0 followed0 struck0 noted0 undoable0 xlength) 8 0 8 (lN 1213) 6 4 (fun k1 v1 => [(0, .ref (a 0)), (1, .long v1), (3, .int (nI k1))]) (fun k1 v1 => (wX E a fabove fbelow rbad rno rfull counts0 people0 day0 listed0 followed0 struck0 noted0 undoable0 kinds0 tempers0 notes0 past0 counts1 people1 day1 listed1 followed1 struck1 noted1 undoable1 kinds1 tempers1 notes1 past1 counts2 people2 day2 listed2 followed2 struck2 noted2 undoable2 kinds2 tempers2 notes2 past2 counts3 people3 day3 listed3 followed3 struck3 noted3 undoable3 kinds3 tempers3 notes3 past3 keptz wkind wtemper wcounts wday wlisted wfollowed xlength xstart xbehind xsort xnumber xbytes)) (fun k1 v1 => True) (by omega) trivial ?_ ?_ hP hD hS (lv_sub hl [2, 1, 0] rfl)
  · intro z1 hv1 hI1 ls H locs hP hD hS hl
    have hm := hk1 z1 (hu1.trans hv1)
    refine lv_iload_n hx hb dX3_digest_6 rfl (lv_at hl 2 rfl) ?_
    refine lv_bipush (v := (nI 8)) hx hb dX3_digest_7 (by decide +kernel) ?_
    refine wl_icmp_ge_n hx hb (by first | omega | exact Nat.lt_of_le_of_lt Nat.and_le_right (by omega) | exact Nat.pow_lt_pow_right (by omega) (by omega) | exact Nat.lt_trans (by assumption) (Nat.pow_lt_pow_right (by omega) (by omega))) (by first | omega | exact Nat.lt_of_le_of_lt Nat.and_le_right (by omega) | exact Nat.pow_lt_pow_right (by omega) (by omega) | exact Nat.lt_trans (by assumption) (Nat.pow_lt_pow_right (by omega) (by omega))) (tgt := 31) dX3_digest_9 (by decide) (fun c4 => ?_) (fun c4 => absurd (by omega) c4)
    refine lv_ldc2 hx hb hC.2.2.2.1 (hC.2.2.2.2.1 _ mw_380) dX3_digest_31 ?_
    refine wl_reL (show (31 : Int64) = lN 31 by decide +kernel) ?_
    refine lv_lload_n hx hb dX3_digest_34 rfl (lv_at hl 1 rfl) ?_
    refine lv_lmul hx hb dX3_digest_35 ?_
    refine lv_aload_n hx hb dX3_digest_36 rfl (lv_at hl 0 rfl) ?_
    refine g_X_0_now hC hP mw_202 dX3_digest_37 ?_
    refine g_X_1_counts hC hP mw_317 dX3_digest_40 ?_
    refine lv_i2l (v := counts0.toInt64) hx hb dX3_digest_43 rfl ?_
    refine lv_ladd hx hb dX3_digest_44 ?_
    refine lv_lstore_n (lv' := [(1, .long (((lN 31) * z1) + counts0.toInt64)), (0, .ref (a 0)), (3, .int (nI 8))]) hx hb dX3_digest_45 rfl hl (by decide) rfl (fun ls hl => ?_)
    refine lv_iconst (v := (nI 0)) hx hb dX3_digest_46 (by decide +kernel) ?_
    refine lv_istore_n (lv' := [(3, .int (nI 0)), (1, .long (((lN 31) * z1) + counts0.toInt64)), (0, .ref (a 0))]) hx hb dX3_digest_47 rfl hl (by decide) rfl (fun ls hl => ?_)
    obtain ⟨u5, hu5, hk5⟩ := wl_bx hm
    refine wl_for (D := D) (A := A) (H0 := s0.heap) (m_X3_digest_l48 listed0 followed0 kinds0 tempers0) people0 0 people0 (((lN 31) * z1) + counts0.toInt64) 48 4 (fun k5 v5 => [(0, .ref (a 0)), (1, .long v5), (3, .int (nI k5))]) (fun k5 v5 => (wX E a fabove fbelow rbad rno rfull counts0 people0 day0 listed0 followed0 struck0 noted0 undoable0 kinds0 tempers0 notes0 past0 counts1 people1 day1 listed1 followed1 struck1 noted1 undoable1 kinds1 tempers1 notes1 past1 counts2 people2 day2 listed2 followed2 struck2 noted2 undoable2 kinds2 tempers2 notes2 past2 counts3 people3 day3 listed3 followed3 struck3 noted3 undoable3 kinds3 tempers3 notes3 past3 keptz wkind wtemper wcounts wday wlisted wfollowed xlength xstart xbehind xsort xnumber xbytes)) (fun k5 v5 => True) (by omega) trivial ?_ ?_ hP hD hS (lv_sub hl [2, 1, 0] rfl)
    · intro z5 hv5 hI5 ls H locs hP hD hS hl
      have hm := hk5 z5 (hu5.trans hv5)
      refine lv_iload_n hx hb dX3_digest_48 rfl (lv_at hl 2 rfl) ?_
      refine lv_aload_n hx hb dX3_digest_49 rfl (lv_at hl 0 rfl) ?_
      refine g_X_0_now hC hP mw_202 dX3_digest_50 ?_
      refine g_X_1_people hC hP mw_221 dX3_digest_53 ?_
      refine wl_icmp_ge_n hx hb (by first | omega | exact Nat.lt_of_le_of_lt Nat.and_le_right (by omega) | exact Nat.pow_lt_pow_right (by omega) (by omega) | exact Nat.lt_trans (by assumption) (Nat.pow_lt_pow_right (by omega) (by omega))) (by first | omega | exact Nat.lt_of_le_of_lt Nat.and_le_right (by omega) | exact Nat.pow_lt_pow_right (by omega) (by omega) | exact Nat.lt_trans (by assumption) (Nat.pow_lt_pow_right (by omega) (by omega))) (tgt := 137) dX3_digest_56 (by decide) (fun c9 => ?_) (fun c9 => absurd (by omega) c9)
      refine lv_iconst (v := (nI 0)) hx hb dX3_digest_137 (by decide +kernel) ?_
      refine lv_istore_n (lv' := [(3, .int (nI 0)), (0, .ref (a 0)), (1, .long z5)]) hx hb dX3_digest_138 rfl hl (by decide) rfl (fun ls hl => ?_)
      obtain ⟨u10, hu10, hk10⟩ := wl_bx hm
      refine wl_for (D := D) (A := A) (H0 := s0.heap) (m_X3_digest_l139 notes0) (noted0 * 5) 0 (noted0 * 5) z5 139 4 (fun k10 v10 => [(0, .ref (a 0)), (1, .long v10), (3, .int (nI k10))]) (fun k10 v10 => (wX E a fabove fbelow rbad rno rfull counts0 people0 day0 listed0 followed0 struck0 noted0 undoable0 kinds0 tempers0 notes0 past0 counts1 people1 day1 listed1 followed1 struck1 noted1 undoable1 kinds1 tempers1 notes1 past1 counts2 people2 day2 listed2 followed2 struck2 noted2 undoable2 kinds2 tempers2 notes2 past2 counts3 people3 day3 listed3 followed3 struck3 noted3 undoable3 kinds3 tempers3 notes3 past3 keptz wkind wtemper wcounts wday wlisted wfollowed xlength xstart xbehind xsort xnumber xbytes)) (fun k10 v10 => True) (by omega) trivial ?_ ?_ hP hD hS (lv_sub hl [1, 2, 0] rfl)
      · intro z10 hv10 hI10 ls H locs hP hD hS hl
        have hm := hk10 z10 (hu10.trans hv10)
        refine lv_iload_n hx hb dX3_digest_139 rfl (lv_at hl 2 rfl) ?_
        refine lv_aload_n hx hb dX3_digest_140 rfl (lv_at hl 0 rfl) ?_
        refine g_X_0_now hC hP mw_202 dX3_digest_141 ?_
        refine g_X_1_noted hC hP mw_334 dX3_digest_144 ?_
        refine lv_iconst (v := (nI 5)) hx hb dX3_digest_147 (by decide +kernel) ?_
        refine lv_imul hx hb dX3_digest_148 ?_
        refine wl_re (show nI noted0 * nI 5 = nI (noted0 * 5) from pk_mul noted0 5) ?_
        refine wl_icmp_ge_n hx hb (by first | omega | exact Nat.lt_of_le_of_lt Nat.and_le_right (by omega) | exact Nat.pow_lt_pow_right (by omega) (by omega) | exact Nat.lt_trans (by assumption) (Nat.pow_lt_pow_right (by omega) (by omega))) (by first | omega | exact Nat.lt_of_le_of_lt Nat.and_le_right (by omega) | exact Nat.pow_lt_pow_right (by omega) (by omega) | exact Nat.lt_trans (by assumption) (Nat.pow_lt_pow_right (by omega) (by omega))) (tgt := 175) dX3_digest_149 (by decide) (fun c12 => ?_) (fun c12 => absurd (by omega) c12)
        refine lv_ldc2 hx hb hC.2.2.2.1 (hC.2.2.2.2.1 _ mw_380) dX3_digest_175 ?_
        refine wl_reL (show (31 : Int64) = lN 31 by decide +kernel) ?_
        refine lv_lload_n hx hb dX3_digest_178 rfl (lv_at hl 1 rfl) ?_
        refine lv_lmul hx hb dX3_digest_179 ?_
        refine lv_aload_n hx hb dX3_digest_180 rfl (lv_at hl 0 rfl) ?_
        refine g_X_0_above hC hP mw_213 dX3_digest_181 ?_
        refine lv_ladd hx hb dX3_digest_184 ?_
        refine lv_lstore_n (lv' := [(1, .long (((lN 31) * z10) + fabove)), (0, .ref (a 0)), (3, .int (nI (noted0 * 5)))]) hx hb dX3_digest_185 rfl hl (by decide) rfl (fun ls hl => ?_)
        refine lv_ldc2 hx hb hC.2.2.2.1 (hC.2.2.2.2.1 _ mw_380) dX3_digest_186 ?_
        refine wl_reL (show (31 : Int64) = lN 31 by decide +kernel) ?_
        refine lv_lload_n hx hb dX3_digest_189 rfl (lv_at hl 0 rfl) ?_
        refine lv_lmul hx hb dX3_digest_190 ?_
        refine lv_aload_n hx hb dX3_digest_191 rfl (lv_at hl 1 rfl) ?_
        refine g_X_0_below hC hP mw_214 dX3_digest_192 ?_
        refine lv_ladd hx hb dX3_digest_195 ?_
        exact wl_lret hC hr hlk hm rfl hP hD hS dX3_digest_196
      · intro k10 v10 hlo10 hhi10 hI10 IH10 ls H locs hP hD hS hl
        have hb10 := m_X3_digest_l139.eq_1 notes0 k10 v10
        refine lv_iload_n hx hb dX3_digest_139 rfl (lv_at hl 2 rfl) ?_
        refine lv_aload_n hx hb dX3_digest_140 rfl (lv_at hl 0 rfl) ?_
        refine g_X_0_now hC hP mw_202 dX3_digest_141 ?_
        refine g_X_1_noted hC hP mw_334 dX3_digest_144 ?_
        refine lv_iconst (v := (nI 5)) hx hb dX3_digest_147 (by decide +kernel) ?_
        refine lv_imul hx hb dX3_digest_148 ?_
        refine wl_re (show nI noted0 * nI 5 = nI (noted0 * 5) from pk_mul noted0 5) ?_
        refine wl_icmp_ge_n hx hb (by first | omega | exact Nat.lt_of_le_of_lt Nat.and_le_right (by omega) | exact Nat.pow_lt_pow_right (by omega) (by omega) | exact Nat.lt_trans (by assumption) (Nat.pow_lt_pow_right (by omega) (by omega))) (by first | omega | exact Nat.lt_of_le_of_lt Nat.and_le_right (by omega) | exact Nat.pow_lt_pow_right (by omega) (by omega) | exact Nat.lt_trans (by assumption) (Nat.pow_lt_pow_right (by omega) (by omega))) (tgt := 175) dX3_digest_149 (by decide) (fun c11 => absurd c11 (by omega)) (fun c11 => ?_)
        refine lv_ldc2 hx hb hC.2.2.2.1 (hC.2.2.2.2.1 _ mw_380) dX3_digest_152 ?_
        refine wl_reL (show (31 : Int64) = lN 31 by decide +kernel) ?_
        refine lv_lload_n hx hb dX3_digest_155 rfl (lv_at hl 1 rfl) ?_
        refine lv_lmul hx hb dX3_digest_156 ?_
        refine lv_aload_n hx hb dX3_digest_157 rfl (lv_at hl 0 rfl) ?_
        refine g_X_0_now hC hP mw_202 dX3_digest_158 ?_
        refine g_X_1_notes hC hP mw_381 dX3_digest_161 ?_
        refine lv_iload_n hx hb dX3_digest_164 rfl (lv_at hl 2 rfl) ?_
        refine ld_X_4 hC hP k10 (by omega) dX3_digest_165 ?_
        refine lv_i2l (v := (notes0 k10).toInt64) hx hb dX3_digest_166 rfl ?_
        refine lv_ladd hx hb dX3_digest_167 ?_
        refine lv_lstore_n (lv' := [(1, .long (((lN 31) * v10) + (notes0 k10).toInt64)), (0, .ref (a 0)), (3, .int (nI k10))]) hx hb dX3_digest_168 rfl hl (by decide) rfl (fun ls hl => ?_)
        refine lv_iinc (v := (nI (k10 + 1))) (lv' := [(3, .int (nI (k10 + 1))), (1, .long (((lN 31) * v10) + (notes0 k10).toInt64)), (0, .ref (a 0))]) hx hb dX3_digest_169 hl (k := 2) rfl (wl_inc k10 1) (by decide) rfl (fun ls hl => ?_)
        refine lv_goto (tgt := 139) hx hb dX3_digest_172 (by decide) ?_
        exact IH10 _ hb10 trivial ls H locs hP hD hS (lv_sub hl [2, 1, 0] rfl)
    · intro k5 v5 hlo5 hhi5 hI5 IH5 ls H locs hP hD hS hl
      have hb5 := m_X3_digest_l48.eq_1 listed0 followed0 kinds0 tempers0 k5 v5
      refine lv_iload_n hx hb dX3_digest_48 rfl (lv_at hl 2 rfl) ?_
      refine lv_aload_n hx hb dX3_digest_49 rfl (lv_at hl 0 rfl) ?_
      refine g_X_0_now hC hP mw_202 dX3_digest_50 ?_
      refine g_X_1_people hC hP mw_221 dX3_digest_53 ?_
      refine wl_icmp_ge_n hx hb (by first | omega | exact Nat.lt_of_le_of_lt Nat.and_le_right (by omega) | exact Nat.pow_lt_pow_right (by omega) (by omega) | exact Nat.lt_trans (by assumption) (Nat.pow_lt_pow_right (by omega) (by omega))) (by first | omega | exact Nat.lt_of_le_of_lt Nat.and_le_right (by omega) | exact Nat.pow_lt_pow_right (by omega) (by omega) | exact Nat.lt_trans (by assumption) (Nat.pow_lt_pow_right (by omega) (by omega))) (tgt := 137) dX3_digest_56 (by decide) (fun c6 => absurd c6 (by omega)) (fun c6 => ?_)
      refine lv_ldc2 hx hb hC.2.2.2.1 (hC.2.2.2.2.1 _ mw_380) dX3_digest_59 ?_
      refine wl_reL (show (31 : Int64) = lN 31 by decide +kernel) ?_
      refine lv_lload_n hx hb dX3_digest_62 rfl (lv_at hl 1 rfl) ?_
      refine lv_lmul hx hb dX3_digest_63 ?_
      refine lv_aload_n hx hb dX3_digest_64 rfl (lv_at hl 0 rfl) ?_
      refine g_X_0_now hC hP mw_202 dX3_digest_65 ?_
      refine g_X_1_kinds hC hP mw_281 dX3_digest_68 ?_
      refine lv_iload_n hx hb dX3_digest_71 rfl (lv_at hl 2 rfl) ?_
      refine ld_X_2 hC hP k5 (by omega) dX3_digest_72 ?_
      refine lv_i2l (v := (kinds0 k5).toInt64) hx hb dX3_digest_73 rfl ?_
      refine lv_ladd hx hb dX3_digest_74 ?_
      refine lv_lstore_n (lv' := [(1, .long (((lN 31) * v5) + (kinds0 k5).toInt64)), (0, .ref (a 0)), (3, .int (nI k5))]) hx hb dX3_digest_75 rfl hl (by decide) rfl (fun ls hl => ?_)
      refine lv_ldc2 hx hb hC.2.2.2.1 (hC.2.2.2.2.1 _ mw_380) dX3_digest_76 ?_
      refine wl_reL (show (31 : Int64) = lN 31 by decide +kernel) ?_
      refine lv_lload_n hx hb dX3_digest_79 rfl (lv_at hl 0 rfl) ?_
      refine lv_lmul hx hb dX3_digest_80 ?_
      refine lv_aload_n hx hb dX3_digest_81 rfl (lv_at hl 1 rfl) ?_
      refine g_X_0_now hC hP mw_202 dX3_digest_82 ?_
      refine g_X_1_tempers hC hP mw_282 dX3_digest_85 ?_
      refine lv_iload_n hx hb dX3_digest_88 rfl (lv_at hl 2 rfl) ?_
      refine ld_X_3 hC hP k5 (by omega) dX3_digest_89 ?_
      refine lv_i2l (v := (tempers0 k5).toInt64) hx hb dX3_digest_90 rfl ?_
      refine lv_ladd hx hb dX3_digest_91 ?_
      refine lv_lstore_n (lv' := [(1, .long (((lN 31) * (((lN 31) * v5) + (kinds0 k5).toInt64)) + (tempers0 k5).toInt64)), (0, .ref (a 0)), (3, .int (nI k5))]) hx hb dX3_digest_92 rfl hl (by decide) rfl (fun ls hl => ?_)
      refine lv_ldc2 hx hb hC.2.2.2.1 (hC.2.2.2.2.1 _ mw_380) dX3_digest_93 ?_
      refine wl_reL (show (31 : Int64) = lN 31 by decide +kernel) ?_
      refine lv_lload_n hx hb dX3_digest_96 rfl (lv_at hl 0 rfl) ?_
      refine lv_lmul hx hb dX3_digest_97 ?_
      refine lv_aload_n hx hb dX3_digest_98 rfl (lv_at hl 1 rfl) ?_
      refine g_X_0_now hC hP mw_202 dX3_digest_99 ?_
      refine g_X_1_listed hC hP mw_249 dX3_digest_102 ?_
      refine lv_iload_n hx hb dX3_digest_105 rfl (lv_at hl 2 rfl) ?_
      refine wl_callPi hC (c_X3_bitOf (bits := listed0) (i := k5) ) lk_RX3_93 rfl ⟨rfl, rfl, Nat.le_of_ble_eq_true rfl, Nat.le_of_ble_eq_true rfl⟩ hP hS hA hl.1 rfl (Nat.le_of_ble_eq_true rfl) dX3_digest_106 ⟨Nat.zero_le _, Nat.zero_le _⟩ (fun z7 hz7 H locs hP hS => ?_)
      have hb5 := wl_bz hb5 hz7
      refine lv_i2l (v := z7.toInt64) hx hb dX3_digest_109 rfl ?_
      refine lv_ladd hx hb dX3_digest_110 ?_
      refine lv_lstore_n (lv' := [(1, .long (((lN 31) * (((lN 31) * (((lN 31) * v5) + (kinds0 k5).toInt64)) + (tempers0 k5).toInt64)) + z7.toInt64)), (0, .ref (a 0)), (3, .int (nI k5))]) hx hb dX3_digest_111 rfl hl (by decide) rfl (fun ls hl => ?_)
      refine lv_ldc2 hx hb hC.2.2.2.1 (hC.2.2.2.2.1 _ mw_380) dX3_digest_112 ?_
      refine wl_reL (show (31 : Int64) = lN 31 by decide +kernel) ?_
      refine lv_lload_n hx hb dX3_digest_115 rfl (lv_at hl 0 rfl) ?_
      refine lv_lmul hx hb dX3_digest_116 ?_
      refine lv_aload_n hx hb dX3_digest_117 rfl (lv_at hl 1 rfl) ?_
      refine g_X_0_now hC hP mw_202 dX3_digest_118 ?_
      refine g_X_1_followed hC hP mw_259 dX3_digest_121 ?_
      refine lv_iload_n hx hb dX3_digest_124 rfl (lv_at hl 2 rfl) ?_
      refine wl_callPi hC (c_X3_bitOf (bits := followed0) (i := k5) ) lk_RX3_93 rfl ⟨rfl, rfl, Nat.le_of_ble_eq_true rfl, Nat.le_of_ble_eq_true rfl⟩ hP hS hA hl.1 rfl (Nat.le_of_ble_eq_true rfl) dX3_digest_125 ⟨Nat.zero_le _, Nat.zero_le _⟩ (fun z8 hz8 H locs hP hS => ?_)
      have hb5 := wl_bz hb5 hz8
      refine lv_i2l (v := z8.toInt64) hx hb dX3_digest_128 rfl ?_
      refine lv_ladd hx hb dX3_digest_129 ?_
      refine lv_lstore_n (lv' := [(1, .long (((lN 31) * (((lN 31) * (((lN 31) * (((lN 31) * v5) + (kinds0 k5).toInt64)) + (tempers0 k5).toInt64)) + z7.toInt64)) + z8.toInt64)), (0, .ref (a 0)), (3, .int (nI k5))]) hx hb dX3_digest_130 rfl hl (by decide) rfl (fun ls hl => ?_)
      refine lv_iinc (v := (nI (k5 + 1))) (lv' := [(3, .int (nI (k5 + 1))), (1, .long (((lN 31) * (((lN 31) * (((lN 31) * (((lN 31) * v5) + (kinds0 k5).toInt64)) + (tempers0 k5).toInt64)) + z7.toInt64)) + z8.toInt64)), (0, .ref (a 0))]) hx hb dX3_digest_131 hl (k := 2) rfl (wl_inc k5 1) (by decide) rfl (fun ls hl => ?_)
      refine lv_goto (tgt := 48) hx hb dX3_digest_134 (by decide) ?_
      exact IH5 _ hb5 trivial ls H locs hP hD hS (lv_sub hl [2, 1, 0] rfl)
  · intro k1 v1 hlo1 hhi1 hI1 IH1 ls H locs hP hD hS hl
    have hb1 := m_X3_digest_l6.eq_1 people0 day0 listed0 followed0 struck0 noted0 undoable0 xlength k1 v1
    refine lv_iload_n hx hb dX3_digest_6 rfl (lv_at hl 2 rfl) ?_
    refine lv_bipush (v := (nI 8)) hx hb dX3_digest_7 (by decide +kernel) ?_
    refine wl_icmp_ge_n hx hb (by first | omega | exact Nat.lt_of_le_of_lt Nat.and_le_right (by omega) | exact Nat.pow_lt_pow_right (by omega) (by omega) | exact Nat.lt_trans (by assumption) (Nat.pow_lt_pow_right (by omega) (by omega))) (by first | omega | exact Nat.lt_of_le_of_lt Nat.and_le_right (by omega) | exact Nat.pow_lt_pow_right (by omega) (by omega) | exact Nat.lt_trans (by assumption) (Nat.pow_lt_pow_right (by omega) (by omega))) (tgt := 31) dX3_digest_9 (by decide) (fun c2 => absurd c2 (by omega)) (fun c2 => ?_)
    refine lv_ldc2 hx hb hC.2.2.2.1 (hC.2.2.2.2.1 _ mw_380) dX3_digest_12 ?_
    refine wl_reL (show (31 : Int64) = lN 31 by decide +kernel) ?_
    refine lv_lload_n hx hb dX3_digest_15 rfl (lv_at hl 1 rfl) ?_
    refine lv_lmul hx hb dX3_digest_16 ?_
    refine lv_aload_n hx hb dX3_digest_17 rfl (lv_at hl 0 rfl) ?_
    refine lv_iload_n hx hb dX3_digest_18 rfl (lv_at hl 2 rfl) ?_
    refine wl_callVi hC (c_X3_howMany (what := (nI k1)) ) lk_RX3_210 rfl ⟨rfl, rfl, Nat.le_of_ble_eq_true rfl, Nat.le_of_ble_eq_true rfl⟩ hP hD hS hA 0 rfl (T1 := 11) rfl hl.1 rfl (Nat.le_of_ble_eq_true rfl) dX3_digest_19 ⟨Nat.zero_le _, Nat.zero_le _⟩ (fun z3 hz3 H locs hP hD hS => ?_)
    have hb1 := wl_bz hb1 hz3
    refine lv_i2l (v := z3.toInt64) hx hb dX3_digest_22 rfl ?_
    refine lv_ladd hx hb dX3_digest_23 ?_
    refine lv_lstore_n (lv' := [(1, .long (((lN 31) * v1) + z3.toInt64)), (0, .ref (a 0)), (3, .int (nI k1))]) hx hb dX3_digest_24 rfl hl (by decide) rfl (fun ls hl => ?_)
    refine lv_iinc (v := (nI (k1 + 1))) (lv' := [(3, .int (nI (k1 + 1))), (1, .long (((lN 31) * v1) + z3.toInt64)), (0, .ref (a 0))]) hx hb dX3_digest_25 hl (k := 2) rfl (wl_inc k1 1) (by decide) rfl (fun ls hl => ?_)
    refine lv_goto (tgt := 6) hx hb dX3_digest_28 (by decide) ?_
    exact IH1 _ hb1 trivial ls H locs hP hD hS (lv_sub hl [2, 1, 0] rfl)
set_option maxHeartbeats 4000000 in
set_option maxRecDepth 100000 in
theorem c_X0_add__X_24 {l : Launch} {D : va_G} {E : Nat → ClassId} {a : Nat → Nat} {fabove : Int64} {fbelow : Int64} {rbad : Int32} {rno : Int32} {rfull : Int32} {counts0 : Int32} {people0 : Nat} {day0 : Int32} {listed0 : Int32} {followed0 : Int32} {struck0 : Int32} {noted0 : Nat} {undoable0 : Nat} {kinds0 : (Nat → Int32)} {tempers0 : (Nat → Int32)} {notes0 : (Nat → Int32)} {past0 : (Nat → Int32)} {counts1 : Int32} {people1 : Nat} {day1 : Int32} {listed1 : Int32} {followed1 : Int32} {struck1 : Int32} {noted1 : Nat} {undoable1 : Nat} {kinds1 : (Nat → Int32)} {tempers1 : (Nat → Int32)} {notes1 : (Nat → Int32)} {past1 : (Nat → Int32)} {counts2 : Int32} {people2 : Nat} {day2 : Int32} {listed2 : Int32} {followed2 : Int32} {struck2 : Int32} {noted2 : Nat} {undoable2 : Nat} {kinds2 : (Nat → Int32)} {tempers2 : (Nat → Int32)} {notes2 : (Nat → Int32)} {past2 : (Nat → Int32)} {counts3 : Int32} {people3 : Nat} {day3 : Int32} {listed3 : Int32} {followed3 : Int32} {struck3 : Int32} {noted3 : Nat} {undoable3 : Nat} {kinds3 : (Nat → Int32)} {tempers3 : (Nat → Int32)} {notes3 : (Nat → Int32)} {past3 : (Nat → Int32)} {keptz : (Nat → Int32)} {wkind : Int32} {wtemper : Int32} {wcounts : Int32} {wday : Int32} {wlisted : Bool} {wfollowed : Bool} {xlength : Nat} {xstart : Nat} {xbehind : Nat} {xsort : Int32} {xnumber : Int32} {xbytes : (Nat → Int32)} {c : Nat} (hXL : xlength ≤ 150) (hc : c < 128) : wl_Met (τ := Nat × Nat × (Nat → Int32)) l D E yX0_add cX0_add 2 (some .int) ({ frames := 0, cells := 0, slots := 0, locals := 0 } : Room) [.ref (a 24), .int (nI c)] (wX E a fabove fbelow rbad rno rfull counts0 people0 day0 listed0 followed0 struck0 noted0 undoable0 kinds0 tempers0 notes0 past0 counts1 people1 day1 listed1 followed1 struck1 noted1 undoable1 kinds1 tempers1 notes1 past1 counts2 people2 day2 listed2 followed2 struck2 noted2 undoable2 kinds2 tempers2 notes2 past2 counts3 people3 day3 listed3 followed3 struck3 noted3 undoable3 kinds3 tempers3 notes3 past3 keptz wkind wtemper wcounts wday wlisted wfollowed xlength xstart xbehind xsort xnumber xbytes) (fun z => some (.int (nI z.1))) (fun z => (wX E a fabove fbelow rbad rno rfull counts0 people0 day0 listed0 followed0 struck0 noted0 undoable0 kinds0 tempers0 notes0 past0 counts1 people1 day1 listed1 followed1 struck1 noted1 undoable1 kinds1 tempers1 notes1 past1 counts2 people2 day2 listed2 followed2 struck2 noted2 undoable2 kinds2 tempers2 notes2 past2 counts3 people3 day3 listed3 followed3 struck3 noted3 undoable3 kinds3 tempers3 notes3 past3 keptz wkind wtemper wcounts wday wlisted wfollowed z.2.1 xstart xbehind xsort xnumber z.2.2)) (m_X0_add xlength xbytes c) :=
  wl_lift (c_X0_add (a := (fun k => a ([24, 25].getD k 0))) (xlength := xlength) (xstart := xstart) (xbehind := xbehind) (xsort := xsort) (xnumber := xnumber) (xbytes := xbytes) (c := c) hXL hc) [24, 25] [0, 1, 2, 3, 4, 5, 6, 7, 8, 9, 10, 11, 12, 13, 14, 15, 16, 17, 18, 19, 20, 21, 22, 23] [0, 1, 2, 3, 4, 5, 6, 7, 8, 9, 10, 11, 12, 13, 14, 15, 16, 17, 18, 19, 20, 21, 22, 23, 24, 25] (wr := ([0, 1, 2, 3, 4, 5, 6, 7, 8, 9, 10, 11, 12, 13, 14, 15, 16, 17, 18, 19, 20, 21, 22, 23].filterMap (fun i => (wX E a fabove fbelow rbad rno rfull counts0 people0 day0 listed0 followed0 struck0 noted0 undoable0 kinds0 tempers0 notes0 past0 counts1 people1 day1 listed1 followed1 struck1 noted1 undoable1 kinds1 tempers1 notes1 past1 counts2 people2 day2 listed2 followed2 struck2 noted2 undoable2 kinds2 tempers2 notes2 past2 counts3 people3 day3 listed3 followed3 struck3 noted3 undoable3 kinds3 tempers3 notes3 past3 keptz wkind wtemper wcounts wday wlisted wfollowed xlength xstart xbehind xsort xnumber xbytes)[i]?))) rfl rfl (by decide) (by decide) (by decide) (by decide) (fun _ => rfl)
def m_X3_type (rbad : Int32) (rfull : Int32) (xlength : Nat) (xbytes : (Nat → Int32)) (c : Int32) : Int32 × Int32 × Int32 × Nat × (Nat → Int32) := (wl_bnd (m_X3_isWithin c (nI 0) (nI 127)) (fun z1 => (if z1 = true then (if xlength < 150 then (wl_bnd (m_X0_add xlength xbytes (cl c)) (fun z5 => ((nI z5.1), rbad, rfull, z5.2.1, z5.2.2))) else (wl_bnd (m_X3_refuseFull rfull) (fun z6 => (z6.1, rbad, z6.2, xlength, xbytes)))) else (wl_bnd (m_X3_refuseBad rbad) (fun z7 => (z7.1, z7.2, rfull, xlength, xbytes))))))
set_option maxHeartbeats 4000000 in
set_option maxRecDepth 100000 in
theorem c_X3_type {l : Launch} {D : va_G} {E : Nat → ClassId} {a : Nat → Nat} {fabove : Int64} {fbelow : Int64} {rbad : Int32} {rno : Int32} {rfull : Int32} {counts0 : Int32} {people0 : Nat} {day0 : Int32} {listed0 : Int32} {followed0 : Int32} {struck0 : Int32} {noted0 : Nat} {undoable0 : Nat} {kinds0 : (Nat → Int32)} {tempers0 : (Nat → Int32)} {notes0 : (Nat → Int32)} {past0 : (Nat → Int32)} {counts1 : Int32} {people1 : Nat} {day1 : Int32} {listed1 : Int32} {followed1 : Int32} {struck1 : Int32} {noted1 : Nat} {undoable1 : Nat} {kinds1 : (Nat → Int32)} {tempers1 : (Nat → Int32)} {notes1 : (Nat → Int32)} {past1 : (Nat → Int32)} {counts2 : Int32} {people2 : Nat} {day2 : Int32} {listed2 : Int32} {followed2 : Int32} {struck2 : Int32} {noted2 : Nat} {undoable2 : Nat} {kinds2 : (Nat → Int32)} {tempers2 : (Nat → Int32)} {notes2 : (Nat → Int32)} {past2 : (Nat → Int32)} {counts3 : Int32} {people3 : Nat} {day3 : Int32} {listed3 : Int32} {followed3 : Int32} {struck3 : Int32} {noted3 : Nat} {undoable3 : Nat} {kinds3 : (Nat → Int32)} {tempers3 : (Nat → Int32)} {notes3 : (Nat → Int32)} {past3 : (Nat → Int32)} {keptz : (Nat → Int32)} {wkind : Int32} {wtemper : Int32} {wcounts : Int32} {wday : Int32} {wlisted : Bool} {wfollowed : Bool} {xlength : Nat} {xstart : Nat} {xbehind : Nat} {xsort : Int32} {xnumber : Int32} {xbytes : (Nat → Int32)} {c : Int32} (hXL : xlength ≤ 150) : wl_Met (τ := Int32 × Int32 × Int32 × Nat × (Nat → Int32)) l D E yX3_type cX3_type 2 (some .int) ({ frames := 1, cells := 0, slots := 0, locals := 22 } : Room) [.ref (a 0), .int c] (wX E a fabove fbelow rbad rno rfull counts0 people0 day0 listed0 followed0 struck0 noted0 undoable0 kinds0 tempers0 notes0 past0 counts1 people1 day1 listed1 followed1 struck1 noted1 undoable1 kinds1 tempers1 notes1 past1 counts2 people2 day2 listed2 followed2 struck2 noted2 undoable2 kinds2 tempers2 notes2 past2 counts3 people3 day3 listed3 followed3 struck3 noted3 undoable3 kinds3 tempers3 notes3 past3 keptz wkind wtemper wcounts wday wlisted wfollowed xlength xstart xbehind xsort xnumber xbytes) (fun z => some (.int z.1)) (fun z => (wX E a fabove fbelow z.2.1 rno z.2.2.1 counts0 people0 day0 listed0 followed0 struck0 noted0 undoable0 kinds0 tempers0 notes0 past0 counts1 people1 day1 listed1 followed1 struck1 noted1 undoable1 kinds1 tempers1 notes1 past1 counts2 people2 day2 listed2 followed2 struck2 noted2 undoable2 kinds2 tempers2 notes2 past2 counts3 people3 day3 listed3 followed3 struck3 noted3 undoable3 kinds3 tempers3 notes3 past3 keptz wkind wtemper wcounts wday wlisted wfollowed z.2.2.2.1 xstart xbehind xsort xnumber z.2.2.2.2)) (m_X3_type rbad rfull xlength xbytes c) := by
  refine wl_enter (own := RX3) (by decide +kernel) rfl (Nat.le_of_ble_eq_true rfl) ?_
  intro p0 e0 s0 m0 bl0 mt0 c0 A hC hr hlk hA H locs hP hD hS ls hl
  have hx := hC.1
  have hb := hC.2.1
  have hl : lv_has ls 2 [(0, .ref (a 0)), (1, .int c)] := hl
  have hm := m_X3_type.eq_1 rbad rfull xlength xbytes c
  refine lv_iload_n hx hb dX3_type_0 rfl (lv_at hl 1 rfl) ?_
  refine lv_iconst (v := (nI 0)) hx hb dX3_type_1 (by decide +kernel) ?_
  refine lv_bipush (v := (nI 127)) hx hb dX3_type_2 (by decide +kernel) ?_
  refine wl_callPi hC (c_X3_isWithin (v := c) (least := (nI 0)) (most := (nI 127)) ) lk_RX3_48 rfl ⟨rfl, rfl, Nat.le_of_ble_eq_true rfl, Nat.le_of_ble_eq_true rfl⟩ hP hS hA hl.1 rfl (Nat.le_of_ble_eq_true rfl) dX3_type_4 ⟨Nat.zero_le _, Nat.zero_le _⟩ (fun z1 hz1 H locs hP hS => ?_)
  have hm := wl_bz hm hz1
  refine wl_if_ne_b hx hb (tgt := 15) dX3_type_7 (by decide) (fun c2 => ?_) (fun c2 => ?_)
  · have hm := hm.trans (if_pos c2)
    obtain ⟨ha3, hb3_, hc3_⟩ := within_spec (a := 0) (b := 127) (by decide) (by decide) (hz1.symm.trans c2)
    have hl : lv_has ls 2 [(0, .ref (a 0)), (1, .int (nI (cl c)))] := by rw [← ha3]; exact hl
    refine lv_aload_n hx hb dX3_type_15 rfl (lv_at hl 0 rfl) ?_
    refine g_X_0_text hC hP mw_212 dX3_type_16 ?_
    refine g_X_24_length hC hP mw_235 dX3_type_19 ?_
    refine lv_sipush (v := (nI 150)) hx hb dX3_type_22 (by decide +kernel) ?_
    refine wl_icmp_lt_n hx hb (by first | omega | exact Nat.lt_of_le_of_lt Nat.and_le_right (by omega) | exact Nat.pow_lt_pow_right (by omega) (by omega) | exact Nat.lt_trans (by assumption) (Nat.pow_lt_pow_right (by omega) (by omega))) (by first | omega | exact Nat.lt_of_le_of_lt Nat.and_le_right (by omega) | exact Nat.pow_lt_pow_right (by omega) (by omega) | exact Nat.lt_trans (by assumption) (Nat.pow_lt_pow_right (by omega) (by omega))) (tgt := 33) dX3_type_25 (by decide) (fun c4 => ?_) (fun c4 => ?_)
    · have hm := hm.trans (if_pos c4)
      refine lv_aload_n hx hb dX3_type_33 rfl (lv_at hl 0 rfl) ?_
      refine g_X_0_text hC hP mw_212 dX3_type_34 ?_
      refine lv_iload_n hx hb dX3_type_37 rfl (lv_at hl 1 rfl) ?_
      refine wl_callVi hC (c_X0_add__X_24 (c := (cl c)) (by first | assumption | omega) (by first | assumption | omega)) lk_RX3_74 rfl ⟨rfl, rfl, Nat.le_of_ble_eq_true rfl, Nat.le_of_ble_eq_true rfl⟩ hP hD hS hA 24 rfl (T1 := 6) rfl hl.1 rfl (Nat.le_of_ble_eq_true rfl) dX3_type_38 ⟨Nat.zero_le _, Nat.zero_le _⟩ (fun z5 hz5 H locs hP hD hS => ?_)
      have hm := wl_bz hm hz5
      exact wl_iret hC hr hlk hm rfl hP hD hS dX3_type_41
    · have hm := hm.trans (if_neg c4)
      refine lv_aload_n hx hb dX3_type_28 rfl (lv_at hl 0 rfl) ?_
      refine wl_callVi hC (c_X3_refuseFull  ) lk_RX3_64 rfl ⟨rfl, rfl, Nat.le_of_ble_eq_true rfl, Nat.le_of_ble_eq_true rfl⟩ hP hD hS hA 0 rfl (T1 := 11) rfl hl.1 rfl (Nat.le_of_ble_eq_true rfl) dX3_type_29 ⟨Nat.zero_le _, Nat.zero_le _⟩ (fun z6 hz6 H locs hP hD hS => ?_)
      have hm := wl_bz hm hz6
      exact wl_iret hC hr hlk hm rfl hP hD hS dX3_type_32
  · have hm := hm.trans (if_neg c2)
    refine lv_aload_n hx hb dX3_type_10 rfl (lv_at hl 0 rfl) ?_
    refine wl_callVi hC (c_X3_refuseBad  ) lk_RX3_52 rfl ⟨rfl, rfl, Nat.le_of_ble_eq_true rfl, Nat.le_of_ble_eq_true rfl⟩ hP hD hS hA 0 rfl (T1 := 11) rfl hl.1 rfl (Nat.le_of_ble_eq_true rfl) dX3_type_11 ⟨Nat.zero_le _, Nat.zero_le _⟩ (fun z7 hz7 H locs hP hD hS => ?_)
    have hm := wl_bz hm hz7
    exact wl_iret hC hr hlk hm rfl hP hD hS dX3_type_14
