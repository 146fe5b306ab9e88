set_option maxHeartbeats 4000000 in
set_option maxRecDepth 100000 in
theorem c_X2_doesIt__X_23 {l : Launch} {D : va_G} {E : Nat → ClassId} {a : Nat → Nat} {fabove : Int64} {fbelow : Int64} {rbad : Int32} {rno : Int32} {rfull : Int32} {counts0 : Int32} {people0 : Nat} {day0 : Int32} {listed0 : Int32} {followed0 : Int32} {struck0 : Int32} {noted0 : Nat} {undoable0 : Nat} {kinds0 : (Nat → Int32)} {tempers0 : (Nat → Int32)} {notes0 : (Nat → Int32)} {past0 : (Nat → Int32)} {counts1 : Int32} {people1 : Nat} {day1 : Int32} {listed1 : Int32} {followed1 : Int32} {struck1 : Int32} {noted1 : Nat} {undoable1 : Nat} {kinds1 : (Nat → Int32)} {tempers1 : (Nat → Int32)} {notes1 : (Nat → Int32)} {past1 : (Nat → Int32)} {counts2 : Int32} {people2 : Nat} {day2 : Int32} {listed2 : Int32} {followed2 : Int32} {struck2 : Int32} {noted2 : Nat} {undoable2 : Nat} {kinds2 : (Nat → Int32)} {tempers2 : (Nat → Int32)} {notes2 : (Nat → Int32)} {past2 : (Nat → Int32)} {counts3 : Int32} {people3 : Nat} {day3 : Int32} {listed3 : Int32} {followed3 : Int32} {struck3 : Int32} {noted3 : Nat} {undoable3 : Nat} {kinds3 : (Nat → Int32)} {tempers3 : (Nat → Int32)} {notes3 : (Nat → Int32)} {past3 : (Nat → Int32)} {keptz : (Nat → Int32)} {wkind : Int32} {wtemper : Int32} {wcounts : Int32} {wday : Int32} {wlisted : Bool} {wfollowed : Bool} {xlength : Nat} {xstart : Nat} {xbehind : Nat} {xsort : Int32} {xnumber : Int32} {xbytes : (Nat → Int32)}  : wl_Met (τ := Bool) l D E yX2_doesIt cX2_doesIt 1 (some .boolean) ({ frames := 2, cells := 0, slots := 0, locals := 50 } : Room) [.ref (a 23)] (wX E a fabove fbelow rbad rno rfull counts0 people0 day0 listed0 followed0 struck0 noted0 undoable0 kinds0 tempers0 notes0 past0 counts1 people1 day1 listed1 followed1 struck1 noted1 undoable1 kinds1 tempers1 notes1 past1 counts2 people2 day2 listed2 followed2 struck2 noted2 undoable2 kinds2 tempers2 notes2 past2 counts3 people3 day3 listed3 followed3 struck3 noted3 undoable3 kinds3 tempers3 notes3 past3 keptz wkind wtemper wcounts wday wlisted wfollowed xlength xstart xbehind xsort xnumber xbytes) (fun z => some (.int (wl_b z))) (fun _ => (wX E a fabove fbelow rbad rno rfull counts0 people0 day0 listed0 followed0 struck0 noted0 undoable0 kinds0 tempers0 notes0 past0 counts1 people1 day1 listed1 followed1 struck1 noted1 undoable1 kinds1 tempers1 notes1 past1 counts2 people2 day2 listed2 followed2 struck2 noted2 undoable2 kinds2 tempers2 notes2 past2 counts3 people3 day3 listed3 followed3 struck3 noted3 undoable3 kinds3 tempers3 notes3 past3 keptz wkind wtemper wcounts wday wlisted wfollowed xlength xstart xbehind xsort xnumber xbytes)) (m_X2_doesIt wkind wtemper wcounts wday wfollowed) :=
  wl_lift (c_X2_doesIt (a := (fun k => a ([23].getD k 0))) (wkind := wkind) (wtemper := wtemper) (wcounts := wcounts) (wday := wday) (wlisted := wlisted) (wfollowed := wfollowed)  ) [23] [0, 1, 2, 3, 4, 5, 6, 7, 8, 9, 10, 11, 12, 13, 14, 15, 16, 17, 18, 19, 20, 21, 22, 24, 25] [0, 1, 2, 3, 4, 5, 6, 7, 8, 9, 10, 11, 12, 13, 14, 15, 16, 17, 18, 19, 20, 21, 22, 25, 23, 24] (wr := ([0, 1, 2, 3, 4, 5, 6, 7, 8, 9, 10, 11, 12, 13, 14, 15, 16, 17, 18, 19, 20, 21, 22, 24, 25].filterMap (fun i => (wX E a fabove fbelow rbad rno rfull counts0 people0 day0 listed0 followed0 struck0 noted0 undoable0 kinds0 tempers0 notes0 past0 counts1 people1 day1 listed1 followed1 struck1 noted1 undoable1 kinds1 tempers1 notes1 past1 counts2 people2 day2 listed2 followed2 struck2 noted2 undoable2 kinds2 tempers2 notes2 past2 counts3 people3 day3 listed3 followed3 struck3 noted3 undoable3 kinds3 tempers3 notes3 past3 keptz wkind wtemper wcounts wday wlisted wfollowed xlength xstart xbehind xsort xnumber xbytes)[i]?))) rfl rfl (by decide) (by decide) (by decide) (by decide) (fun _ => rfl)
def m_X3_wouldDoIt_l31 (m : Nat) (z1 : Int32 × Int32 × Int32 × Int32 × Bool × Bool) (v2 : Int32 × Int32 × Bool × Bool × Nat) : (Int32 × Int32 × Bool × Bool × Nat) ⊕ (Bool × Int32 × Int32 × Int32 × Int32 × Bool × Bool) := (if m ≤ v2.2.2.2.2 then (Sum.inr (false, z1.1, v2.1, z1.2.2.1, v2.2.1, v2.2.2.1, v2.2.2.2.1)) else (wl_bnd (m_X2_doesIt z1.1 v2.1 z1.2.2.1 v2.2.1 v2.2.2.2.1) (fun z4 => (if z4 = true then (Sum.inr (true, z1.1, v2.1, z1.2.2.1, v2.2.1, v2.2.2.1, v2.2.2.2.1)) else (wl_bnd (m_X2_goBy z1.1 v2.1 z1.2.2.1 v2.2.1 v2.2.2.1 v2.2.2.2.1) (fun z6 => (Sum.inl (z6.2.1, z6.2.2.1, z6.2.2.2.1, z6.2.2.2.2, (v2.2.2.2.2 + 1)))))))))
def m_X3_wouldDoIt (counts0 : Int32) (day0 : Int32) (listed0 : Int32) (followed0 : Int32) (kinds0 : (Nat → Int32)) (tempers0 : (Nat → Int32)) (p : Nat) (m : Nat) (followed : Bool) : Bool × Int32 × Int32 × Int32 × Int32 × Bool × Bool := (wl_bnd (m_X1_startWalk counts0 day0 listed0 followed0 kinds0 tempers0 p) (fun z1 => (wl_run (m_X3_wouldDoIt_l31 m z1) default (m + 1) (z1.2.1, z1.2.2.2.1, false, followed, 0))))
set_option maxHeartbeats 4000000 in
set_option maxRecDepth 100000 in
theorem c_X3_wouldDoIt {l : Launch} {D : va_G} {E : Nat → ClassId} {a : Nat → Nat} {fabove : Int64} {fbelow : Int64} {rbad : Int32} {rno : Int32} {rfull : Int32} {counts0 : Int32} {people0 : Nat} {day0 : Int32} {listed0 : Int32} {followed0 : Int32} {struck0 : Int32} {noted0 : Nat} {undoable0 : Nat} {kinds0 : (Nat → Int32)} {tempers0 : (Nat → Int32)} {notes0 : (Nat → Int32)} {past0 : (Nat → Int32)} {counts1 : Int32} {people1 : Nat} {day1 : Int32} {listed1 : Int32} {followed1 : Int32} {struck1 : Int32} {noted1 : Nat} {undoable1 : Nat} {kinds1 : (Nat → Int32)} {tempers1 : (Nat → Int32)} {notes1 : (Nat → Int32)} {past1 : (Nat → Int32)} {counts2 : Int32} {people2 : Nat} {day2 : Int32} {listed2 : Int32} {followed2 : Int32} {struck2 : Int32} {noted2 : Nat} {undoable2 : Nat} {kinds2 : (Nat → Int32)} {tempers2 : (Nat → Int32)} {notes2 : (Nat → Int32)} {past2 : (Nat → Int32)} {counts3 : Int32} {people3 : Nat} {day3 : Int32} {listed3 : Int32} {followed3 : Int32} {struck3 : Int32} {noted3 : Nat} {undoable3 : Nat} {kinds3 : (Nat → Int32)} {tempers3 : (Nat → Int32)} {notes3 : (Nat → Int32)} {past3 : (Nat → Int32)} {keptz : (Nat → Int32)} {wkind : Int32} {wtemper : Int32} {wcounts : Int32} {wday : Int32} {wlisted : Bool} {wfollowed : Bool} {xlength : Nat} {xstart : Nat} {xbehind : Nat} {xsort : Int32} {xnumber : Int32} {xbytes : (Nat → Int32)} {p : Nat} {m : Nat} {followed : Bool} (hp : p < 7) (hd : m ≤ 60) : wl_Met (τ := Bool × Int32 × Int32 × Int32 × Int32 × Bool × Bool) l D E yX3_wouldDoIt cX3_wouldDoIt 5 (some .boolean) ({ frames := 4, cells := 0, slots := 0, locals := 92 } : Room) [.ref (a 0), .int (nI p), .int (nI m), .int (wl_b followed)] (wX E a fabove fbelow rbad rno rfull counts0 people0 day0 listed0 followed0 struck0 noted0 undoable0 kinds0 tempers0 notes0 past0 counts1 people1 day1 listed1 followed1 struck1 noted1 undoable1 kinds1 tempers1 notes1 past1 counts2 people2 day2 listed2 followed2 struck2 noted2 undoable2 kinds2 tempers2 notes2 past2 counts3 people3 day3 listed3 followed3 struck3 noted3 undoable3 kinds3 tempers3 notes3 past3 keptz wkind wtemper wcounts wday wlisted wfollowed xlength xstart xbehind xsort xnumber xbytes) (fun z => some (.int (wl_b z.1))) (fun z => (wX E a fabove fbelow rbad rno rfull counts0 people0 day0 listed0 followed0 struck0 noted0 undoable0 kinds0 tempers0 notes0 past0 counts1 people1 day1 listed1 followed1 struck1 noted1 undoable1 kinds1 tempers1 notes1 past1 counts2 people2 day2 listed2 followed2 struck2 noted2 undoable2 kinds2 tempers2 notes2 past2 counts3 people3 day3 listed3 followed3 struck3 noted3 undoable3 kinds3 tempers3 notes3 past3 keptz z.2.1 z.2.2.1 z.2.2.2.1 z.2.2.2.2.1 z.2.2.2.2.2.1 z.2.2.2.2.2.2 xlength xstart xbehind xsort xnumber xbytes)) (m_X3_wouldDoIt counts0 day0 listed0 followed0 kinds0 tempers0 p m followed) := by
  refine wl_enter (own := RX3) (by decide +kernel) rfl (Nat.le_of_ble_eq_true rfl) ?_
  intro p0 e0 s0 m0 bl0 mt0 c0 A hC hr hlk hA H locs hP hD hS ls hl
  have hx := hC.1
  have hb := hC.2.1
  have hl : lv_has ls 5 [(0, .ref (a 0)), (1, .int (nI p)), (2, .int (nI m)), (3, .int (wl_b followed))] := hl
  have hm := m_X3_wouldDoIt.eq_1 counts0 day0 listed0 followed0 kinds0 tempers0 p m followed
  refine lv_aload_n hx hb dX3_wouldDoIt_0 rfl (lv_at hl 0 rfl) ?_
  refine g_X_0_now hC hP mw_202 dX3_wouldDoIt_1 ?_
  refine lv_aload_n hx hb dX3_wouldDoIt_4 rfl (lv_at hl 0 rfl) ?_
  refine g_X_0_walk hC hP mw_209 dX3_wouldDoIt_5 ?_
  refine lv_iload_n hx hb dX3_wouldDoIt_8 rfl (lv_at hl 1 rfl) ?_
  refine wl_callVv hC (c_X1_startWalk__X_1_23 (p := p) (by first | assumption | omega)) lk_RX3_132 rfl ⟨rfl, rfl, Nat.le_of_ble_eq_true rfl, Nat.le_of_ble_eq_true rfl⟩ hP hD hS hA 1 rfl (T1 := 12) rfl hl.1 rfl (Nat.le_of_ble_eq_true rfl) dX3_wouldDoIt_9 ⟨Nat.zero_le _, Nat.zero_le _⟩ (fun z1 hz1 H locs hP hD hS => ?_)
  have hm := wl_bz hm hz1
  refine lv_aload_n hx hb dX3_wouldDoIt_12 rfl (lv_at hl 0 rfl) ?_
  refine g_X_0_walk hC hP mw_209 dX3_wouldDoIt_13 ?_
  refine lv_iconst (v := (nI 0)) hx hb dX3_wouldDoIt_16 (by decide +kernel) ?_
  refine p_X_23_listed hC hP hD hS false mw_291 dX3_wouldDoIt_17 (fun H locs hP hD hS => ?_)
  refine lv_aload_n hx hb dX3_wouldDoIt_20 rfl (lv_at hl 0 rfl) ?_
  refine g_X_0_walk hC hP mw_209 dX3_wouldDoIt_21 ?_
  refine lv_iload_n hx hb dX3_wouldDoIt_24 rfl (lv_at hl 3 rfl) ?_
  refine p_X_23_followed hC hP hD hS followed mw_292 dX3_wouldDoIt_25 (fun H locs hP hD hS => ?_)
  refine lv_iconst (v := (nI 0)) hx hb dX3_wouldDoIt_28 (by decide +kernel) ?_
  refine lv_istore (lv' := [(4, .int (nI 0)), (0, .ref (a 0)), (1, .int (nI p)), (2, .int (nI m)), (3, .int (wl_b followed))]) hx hb dX3_wouldDoIt_29 hl (by decide) rfl (fun ls hl => ?_)
  refine wl_while (D := D) (A := A) (H0 := s0.heap) (m_X3_wouldDoIt_l31 m z1) default (m + 1) (z1.2.1, z1.2.2.2.1, false, followed, 0) 31 5 (fun v2 => [(0, .ref (a 0)), (2, .int (nI m)), (4, .int (nI v2.2.2.2.2))]) (fun v2 => (wX E a fabove fbelow rbad rno rfull counts0 people0 day0 listed0 followed0 struck0 noted0 undoable0 kinds0 tempers0 notes0 past0 counts1 people1 day1 listed1 followed1 struck1 noted1 undoable1 kinds1 tempers1 notes1 past1 counts2 people2 day2 listed2 followed2 struck2 noted2 undoable2 kinds2 tempers2 notes2 past2 counts3 people3 day3 listed3 followed3 struck3 noted3 undoable3 kinds3 tempers3 notes3 past3 keptz z1.1 v2.1 z1.2.2.1 v2.2.1 v2.2.2.1 v2.2.2.2.1 xlength xstart xbehind xsort xnumber xbytes)) (fun v2 => (v2.2.2.2.2 ≤ m)) (fun v2 => m - v2.2.2.2.2) (by show 0 ≤ m; omega) (by show m - 0 < (m + 1); first | decide | omega) ?_ hP hD hS (lv_sub hl [1, 3, 0] rfl)
  intro v2 hI2 EX2 IH2 ls H locs hP hD hS hl
  have i4 := hI2
  have hb2 := m_X3_wouldDoIt_l31.eq_1 m z1 v2
  refine lv_iload hx hb dX3_wouldDoIt_31 (lv_at hl 2 rfl) ?_
  refine lv_iload_n hx hb dX3_wouldDoIt_33 rfl (lv_at hl 1 rfl) ?_
  refine wl_icmp_ge_n hx hb (by first | omega | exact Nat.lt_of_le_of_lt Nat.and_le_right (by omega) | exact Nat.pow_lt_pow_right (by omega) (by omega) | exact Nat.lt_trans (by assumption) (Nat.pow_lt_pow_right (by omega) (by omega))) (by first | omega | exact Nat.lt_of_le_of_lt Nat.and_le_right (by omega) | exact Nat.pow_lt_pow_right (by omega) (by omega) | exact Nat.lt_trans (by assumption) (Nat.pow_lt_pow_right (by omega) (by omega))) (tgt := 63) dX3_wouldDoIt_34 (by decide) (fun c3 => ?_) (fun c3 => ?_)
  · have hb2 := hb2.trans (if_pos c3)
    refine lv_iconst (v := (nI 0)) hx hb dX3_wouldDoIt_63 (by decide +kernel) ?_
    exact wl_zret (v := false) hC hr hlk (hm.trans (EX2 _ hb2)) rfl hP hD hS dX3_wouldDoIt_64
  · have hb2 := hb2.trans (if_neg c3)
    refine lv_aload_n hx hb dX3_wouldDoIt_37 rfl (lv_at hl 0 rfl) ?_
    refine g_X_0_walk hC hP mw_209 dX3_wouldDoIt_38 ?_
    refine wl_callVi hC (c_X2_doesIt__X_23  ) lk_RX3_235 rfl ⟨rfl, rfl, Nat.le_of_ble_eq_true rfl, Nat.le_of_ble_eq_true rfl⟩ hP hD hS hA 23 rfl (T1 := 6) rfl hl.1 rfl (Nat.le_of_ble_eq_true rfl) dX3_wouldDoIt_41 ⟨Nat.zero_le _, Nat.zero_le _⟩ (fun z4 hz4 H locs hP hD hS => ?_)
    have hb2 := wl_bz hb2 hz4
    refine wl_if_eq_b hx hb (tgt := 49) dX3_wouldDoIt_44 (by decide) (fun c5 => ?_) (fun c5 => ?_)
    · have hb2 := hb2.trans (if_neg c5)
      refine lv_aload_n hx hb dX3_wouldDoIt_49 rfl (lv_at hl 0 rfl) ?_
      refine g_X_0_walk hC hP mw_209 dX3_wouldDoIt_50 ?_
      refine wl_callVi hC (c_X2_goBy__X_23  ) lk_RX3_136 rfl ⟨rfl, rfl, Nat.le_of_ble_eq_true rfl, Nat.le_of_ble_eq_true rfl⟩ hP hD hS hA 23 rfl (T1 := 6) rfl hl.1 rfl (Nat.le_of_ble_eq_true rfl) dX3_wouldDoIt_53 ⟨Nat.zero_le _, Nat.zero_le _⟩ (fun z6 hz6 H locs hP hD hS => ?_)
      have hb2 := wl_bz hb2 hz6
      refine lv_pop hx hb dX3_wouldDoIt_56 rfl ?_
      refine lv_iinc (v := (nI (v2.2.2.2.2 + 1))) (lv' := [(4, .int (nI (v2.2.2.2.2 + 1))), (0, .ref (a 0)), (2, .int (nI m))]) hx hb dX3_wouldDoIt_57 hl (k := 2) rfl (wl_inc v2.2.2.2.2 1) (by decide) rfl (fun ls hl => ?_)
      refine lv_goto (tgt := 31) hx hb dX3_wouldDoIt_60 (by decide) ?_
      exact IH2 _ hb2 (by show (v2.2.2.2.2 + 1) ≤ m; omega) (by show m - (v2.2.2.2.2 + 1) < m - v2.2.2.2.2; omega) ls H locs hP hD hS (lv_sub hl [1, 2, 0] rfl)
    · have hb2 := hb2.trans (if_pos c5)
      refine lv_iconst (v := (nI 1)) hx hb dX3_wouldDoIt_47 (by decide +kernel) ?_
      exact wl_zret (v := true) hC hr hlk (hm.trans (EX2 _ hb2)) rfl hP hD hS dX3_wouldDoIt_48
def m_X3_whoDoIt_l5 (counts0 : Int32) (day0 : Int32) (listed0 : Int32) (followed0 : Int32) (kinds0 : (Nat → Int32)) (tempers0 : (Nat → Int32)) (m : Nat) (followed : Bool) (k1 : Nat) (v1 : Int32 × Int32 × Int32 × Int32 × Bool × Bool × Int32) : Int32 × Int32 × Int32 × Int32 × Bool × Bool × Int32 := (wl_bnd (m_X3_wouldDoIt counts0 day0 listed0 followed0 kinds0 tempers0 k1 m followed) (fun z3 => (wl_bnd ((if z3.1 = true then true else false) : Bool) (fun z4 => (wl_bnd (m_X3_withBit v1.2.2.2.2.2.2 k1 (wl_b z4)) (fun z6 => (z3.2.1, z3.2.2.1, z3.2.2.2.1, z3.2.2.2.2.1, z3.2.2.2.2.2.1, z3.2.2.2.2.2.2, z6)))))))
def m_X3_whoDoIt (counts0 : Int32) (people0 : Nat) (day0 : Int32) (listed0 : Int32) (followed0 : Int32) (kinds0 : (Nat → Int32)) (tempers0 : (Nat → Int32)) (wkind : Int32) (wtemper : Int32) (wcounts : Int32) (wday : Int32) (wlisted : Bool) (wfollowed : Bool) (m : Nat) (followed : Bool) : Int32 × Int32 × Int32 × Int32 × Int32 × Bool × Bool := (wl_bnd (wl_iter (m_X3_whoDoIt_l5 counts0 day0 listed0 followed0 kinds0 tempers0 m followed) people0 0 (wkind, wtemper, wcounts, wday, wlisted, wfollowed, (nI 0))) (fun z1 => (z1.2.2.2.2.2.2, z1.1, z1.2.1, z1.2.2.1, z1.2.2.2.1, z1.2.2.2.2.1, z1.2.2.2.2.2.1)))
set_option maxHeartbeats 4000000 in
set_option maxRecDepth 100000 in
theorem c_X3_whoDoIt {l : Launch} {D : va_G} {E : Nat → ClassId} {a : Nat → Nat} {fabove : Int64} {fbelow : Int64} {rbad : Int32} {rno : Int32} {rfull : Int32} {counts0 : Int32} {people0 : Nat} {day0 : Int32} {listed0 : Int32} {followed0 : Int32} {struck0 : Int32} {noted0 : Nat} {undoable0 : Nat} {kinds0 : (Nat → Int32)} {tempers0 : (Nat → Int32)} {notes0 : (Nat → Int32)} {past0 : (Nat → Int32)} {counts1 : Int32} {people1 : Nat} {day1 : Int32} {listed1 : Int32} {followed1 : Int32} {struck1 : Int32} {noted1 : Nat} {undoable1 : Nat} {kinds1 : (Nat → Int32)} {tempers1 : (Nat → Int32)} {notes1 : (Nat → Int32)} {past1 : (Nat → Int32)} {counts2 : Int32} {people2 : Nat} {day2 : Int32} {listed2 : Int32} {followed2 : Int32} {struck2 : Int32} {noted2 : Nat} {undoable2 : Nat} {kinds2 : (Nat → Int32)} {tempers2 : (Nat → Int32)} {notes2 : (Nat → Int32)} {past2 : (Nat → Int32)} {counts3 : Int32} {people3 : Nat} {day3 : Int32} {listed3 : Int32} {followed3 : Int32} {struck3 : Int32} {noted3 : Nat} {undoable3 : Nat} {kinds3 : (Nat → Int32)} {tempers3 : (Nat → Int32)} {notes3 : (Nat → Int32)} {past3 : (Nat → Int32)} {keptz : (Nat → Int32)} {wkind : Int32} {wtemper : Int32} {wcounts : Int32} {wday : Int32} {wlisted : Bool} {wfollowed : Bool} {xlength : Nat} {xstart : Nat} {xbehind : Nat} {xsort : Int32} {xnumber : Int32} {xbytes : (Nat → Int32)} {m : Nat} {followed : Bool} (hP7 : people0 ≤ 7) (hd : m ≤ 60) : wl_Met (τ := Int32 × Int32 × Int32 × Int32 × Int32 × Bool × Bool) l D E yX3_whoDoIt cX3_whoDoIt 5 (some .int) ({ frames := 5, cells := 0, slots := 0, locals := 116 } : Room) [.ref (a 0), .int (nI m), .int (wl_b followed)] (wX E a fabove fbelow rbad rno rfull counts0 people0 day0 listed0 followed0 struck0 noted0 undoable0 kinds0 tempers0 notes0 past0 counts1 people1 day1 listed1 followed1 struck1 noted1 undoable1 kinds1 tempers1 notes1 past1 counts2 people2 day2 listed2 followed2 struck2 noted2 undoable2 kinds2 tempers2 notes2 past2 counts3 people3 day3 listed3 followed3 struck3 noted3 undoable3 kinds3 tempers3 notes3 past3 keptz wkind wtemper wcounts wday wlisted wfollowed xlength xstart xbehind xsort xnumber xbytes) (fun z => some (.int z.1)) (fun z => (wX E a fabove fbelow rbad rno rfull counts0 people0 day0 listed0 followed0 struck0 noted0 undoable0 kinds0 tempers0 notes0 past0 counts1 people1 day1 listed1 followed1 struck1 noted1 undoable1 kinds1 tempers1 notes1 past1 counts2 people2 day2 listed2 followed2 struck2 noted2 undoable2 kinds2 tempers2 notes2 past2 counts3 people3 day3 listed3 followed3 struck3 noted3 undoable3 kinds3 tempers3 notes3 past3 keptz z.2.1 z.2.2.1 z.2.2.2.1 z.2.2.2.2.1 z.2.2.2.2.2.1 z.2.2.2.2.2.2 xlength xstart xbehind xsort xnumber xbytes)) (m_X3_whoDoIt counts0 people0 day0 listed0 followed0 kinds0 tempers0 wkind wtemper wcounts wday wlisted wfollowed m followed) := by
  refine wl_enter (own := RX3) (by decide +kernel) rfl (Nat.le_of_ble_eq_true rfl) ?_
  intro p0 e0 s0 m0 bl0 mt0 c0 A hC hr hlk hA H locs hP hD hS ls hl
  have hx := hC.1
  have hb := hC.2.1
  have hl : lv_has ls 5 [(0, .ref (a 0)), (1, .int (nI m)), (2, .int (wl_b followed))] := hl
  have hm := m_X3_whoDoIt.eq_1 counts0 people0 day0 listed0 followed0 kinds0 tempers0 wkind wtemper wcounts wday wlisted wfollowed m followed
  refine lv_iconst (v := (nI 0)) hx hb dX3_whoDoIt_0 (by decide +kernel) ?_
  refine lv_istore_n (lv' := [(3, .int (nI 0)), (0, .ref (a 0)), (1, .int (nI m)), (2, .int (wl_b followed))]) hx hb dX3_whoDoIt_1 rfl hl (by decide) rfl (fun ls hl => ?_)
  refine lv_iconst (v := (nI 0)) hx hb dX3_whoDoIt_2 (by decide +kernel) ?_
  refine lv_istore (lv' := [(4, .int (nI 0)), (3, .int (nI 0)), (0, .ref (a 0)), (1, .int (nI m)), (2, .int (wl_b followed))]) hx hb dX3_whoDoIt_3 hl (by decide) rfl (fun ls hl => ?_)
  obtain ⟨u1, hu1, hk1⟩ := wl_bx hm
  refine wl_for (D := D) (A := A) (H0 := s0.heap) (m_X3_whoDoIt_l5 counts0 day0 listed0 followed0 kinds0 tempers0 m followed) people0 0 people0 (wkind, wtemper, wcounts, wday, wlisted, wfollowed, (nI 0)) 5 5 (fun k1 v1 => [(0, .ref (a 0)), (1, .int (nI m)), (2, .int (wl_b followed)), (3, .int v1.2.2.2.2.2.2), (4, .int (nI k1))]) (fun k1 v1 => (wX E a fabove fbelow rbad rno rfull counts0 people0 day0 listed0 followed0 struck0 noted0 undoable0 kinds0 tempers0 notes0 past0 counts1 people1 day1 listed1 followed1 struck1 noted1 undoable1 kinds1 tempers1 notes1 past1 counts2 people2 day2 listed2 followed2 struck2 noted2 undoable2 kinds2 tempers2 notes2 past2 counts3 people3 day3 listed3 followed3 struck3 noted3 undoable3 kinds3 tempers3 notes3 past3 keptz v1.1 v1.2.1 v1.2.2.1 v1.2.2.2.1 v1.2.2.2.2.1 v1.2.2.2.2.2.1 xlength xstart xbehind xsort xnumber xbytes)) (fun k1 v1 => True) (by omega) trivial ?_ ?_ hP hD hS (lv_sub hl [2, 3, 4, 1, 0] rfl)
  · intro z1 hv1 hI1 ls H locs hP hD hS hl
    have hm := hk1 z1 (hu1.trans hv1)
    refine lv_iload hx hb dX3_whoDoIt_5 (lv_at hl 4 rfl) ?_
    refine lv_aload_n hx hb dX3_whoDoIt_7 rfl (lv_at hl 0 rfl) ?_
    refine g_X_0_now hC hP mw_202 dX3_whoDoIt_8 ?_
    refine g_X_1_people hC hP mw_221 dX3_whoDoIt_11 ?_
    refine wl_icmp_ge_n hx hb (by first | omega | exact Nat.lt_of_le_of_lt Nat.and_le_right (by omega) | exact Nat.pow_lt_pow_right (by omega) (by omega) | exact Nat.lt_trans (by assumption) (Nat.pow_lt_pow_right (by omega) (by omega))) (by first | omega | exact Nat.lt_of_le_of_lt Nat.and_le_right (by omega) | exact Nat.pow_lt_pow_right (by omega) (by omega) | exact Nat.lt_trans (by assumption) (Nat.pow_lt_pow_right (by omega) (by omega))) (tgt := 46) dX3_whoDoIt_14 (by decide) (fun c7 => ?_) (fun c7 => absurd (by omega) c7)
    refine lv_iload_n hx hb dX3_whoDoIt_46 rfl (lv_at hl 3 rfl) ?_
    exact wl_iret hC hr hlk hm rfl hP hD hS dX3_whoDoIt_47
  · intro k1 v1 hlo1 hhi1 hI1 IH1 ls H locs hP hD hS hl
    have hb1 := m_X3_whoDoIt_l5.eq_1 counts0 day0 listed0 followed0 kinds0 tempers0 m followed k1 v1
    refine lv_iload hx hb dX3_whoDoIt_5 (lv_at hl 4 rfl) ?_
    refine lv_aload_n hx hb dX3_whoDoIt_7 rfl (lv_at hl 0 rfl) ?_
    refine g_X_0_now hC hP mw_202 dX3_whoDoIt_8 ?_
    refine g_X_1_people hC hP mw_221 dX3_whoDoIt_11 ?_
    refine wl_icmp_ge_n hx hb (by first | omega | exact Nat.lt_of_le_of_lt Nat.and_le_right (by omega) | exact Nat.pow_lt_pow_right (by omega) (by omega) | exact Nat.lt_trans (by assumption) (Nat.pow_lt_pow_right (by omega) (by omega))) (by first | omega | exact Nat.lt_of_le_of_lt Nat.and_le_right (by omega) | exact Nat.pow_lt_pow_right (by omega) (by omega) | exact Nat.lt_trans (by assumption) (Nat.pow_lt_pow_right (by omega) (by omega))) (tgt := 46) dX3_whoDoIt_14 (by decide) (fun c2 => absurd c2 (by omega)) (fun c2 => ?_)
    refine lv_iload_n hx hb dX3_whoDoIt_17 rfl (lv_at hl 3 rfl) ?_
    refine lv_iload hx hb dX3_whoDoIt_18 (lv_at hl 4 rfl) ?_
    refine lv_aload_n hx hb dX3_whoDoIt_20 rfl (lv_at hl 0 rfl) ?_
    refine lv_iload hx hb dX3_whoDoIt_21 (lv_at hl 4 rfl) ?_
    refine lv_iload_n hx hb dX3_whoDoIt_23 rfl (lv_at hl 1 rfl) ?_
    refine lv_iload_n hx hb dX3_whoDoIt_24 rfl (lv_at hl 2 rfl) ?_
    refine wl_callVi hC (c_X3_wouldDoIt (p := k1) (m := m) (followed := followed) (by first | assumption | omega) (by first | assumption | omega)) lk_RX3_226 rfl ⟨rfl, rfl, Nat.le_of_ble_eq_true rfl, Nat.le_of_ble_eq_true rfl⟩ hP hD hS hA 0 rfl (T1 := 11) rfl hl.1 rfl (Nat.le_of_ble_eq_true rfl) dX3_whoDoIt_25 ⟨Nat.zero_le _, Nat.zero_le _⟩ (fun z3 hz3 H locs hP hD hS => ?_)
    have hb1 := wl_bz hb1 hz3
    obtain ⟨u4, hj4, hk4⟩ := wl_bx hb1
    refine wl_J u4 36 (fun z4 => [.int (wl_b z4), .int (nI k1), .int v1.2.2.2.2.2.2]) 5 (fun z4 => [(0, .ref (a 0)), (1, .int (nI m)), (2, .int (wl_b followed)), (4, .int (nI k1))]) D A s0.heap (fun z4 => (wX E a fabove fbelow rbad rno rfull counts0 people0 day0 listed0 followed0 struck0 noted0 undoable0 kinds0 tempers0 notes0 past0 counts1 people1 day1 listed1 followed1 struck1 noted1 undoable1 kinds1 tempers1 notes1 past1 counts2 people2 day2 listed2 followed2 struck2 noted2 undoable2 kinds2 tempers2 notes2 past2 counts3 people3 day3 listed3 followed3 struck3 noted3 undoable3 kinds3 tempers3 notes3 past3 keptz z3.2.1 z3.2.2.1 z3.2.2.2.1 z3.2.2.2.2.1 z3.2.2.2.2.2.1 z3.2.2.2.2.2.2 xlength xstart xbehind xsort xnumber xbytes)) (fun z4 hz4 ls H locs hP hD hS hl => ?_) (fun J4 => ?_)
    · have hb1 := hk4 z4 hz4
      refine wl_callPi hC (c_X3_withBit (bits := v1.2.2.2.2.2.2) (i := k1) (is := (wl_b z4)) ) lk_RX3_99 rfl ⟨rfl, rfl, Nat.le_of_ble_eq_true rfl, Nat.le_of_ble_eq_true rfl⟩ hP hS hA hl.1 rfl (Nat.le_of_ble_eq_true rfl) dX3_whoDoIt_36 ⟨Nat.zero_le _, Nat.zero_le _⟩ (fun z6 hz6 H locs hP hS => ?_)
      have hb1 := wl_bz hb1 hz6
      refine lv_istore_n (lv' := [(3, .int z6), (0, .ref (a 0)), (1, .int (nI m)), (2, .int (wl_b followed)), (4, .int (nI k1))]) hx hb dX3_whoDoIt_39 rfl hl (by decide) rfl (fun ls hl => ?_)
      refine lv_iinc (v := (nI (k1 + 1))) (lv' := [(4, .int (nI (k1 + 1))), (3, .int z6), (0, .ref (a 0)), (1, .int (nI m)), (2, .int (wl_b followed))]) hx hb dX3_whoDoIt_40 hl (k := 4) rfl (wl_inc k1 1) (by decide) rfl (fun ls hl => ?_)
      refine lv_goto (tgt := 5) hx hb dX3_whoDoIt_43 (by decide) ?_
      exact IH1 _ hb1 trivial ls H locs hP hD hS (lv_sub hl [2, 3, 4, 1, 0] rfl)
    · refine wl_if_eq_b hx hb (tgt := 35) dX3_whoDoIt_28 (by decide) (fun c5 => ?_) (fun c5 => ?_)
      · have hj4 := hj4.trans (if_neg c5)
        refine lv_iconst (v := (nI 0)) hx hb dX3_whoDoIt_35 (by decide +kernel) ?_
        exact J4 _ hj4 ls H locs hP hD hS (lv_sub hl [0, 1, 2, 4] rfl)
      · have hj4 := hj4.trans (if_pos c5)
        refine lv_iconst (v := (nI 1)) hx hb dX3_whoDoIt_31 (by decide +kernel) ?_
        refine lv_goto (tgt := 36) hx hb dX3_whoDoIt_32 (by decide) ?_
        exact J4 _ hj4 ls H locs hP hD hS (lv_sub hl [0, 1, 2, 4] rfl)
def m_X3_lack (counts0 : Int32) (people0 : Nat) (day0 : Int32) (listed0 : Int32) (followed0 : Int32) (kinds0 : (Nat → Int32)) (tempers0 : (Nat → Int32)) (wkind : Int32) (wtemper : Int32) (wcounts : Int32) (wday : Int32) (wlisted : Bool) (wfollowed : Bool) : Int32 × Int32 × Int32 × Int32 × Int32 × Bool × Bool := (wl_bnd (m_X3_whoDoIt counts0 people0 day0 listed0 followed0 kinds0 tempers0 wkind wtemper wcounts wday wlisted wfollowed 30 true) (fun z1 => (wl_bnd (m_X3_whoDoIt counts0 people0 day0 listed0 followed0 kinds0 tempers0 z1.2.1 z1.2.2.1 z1.2.2.2.1 z1.2.2.2.2.1 z1.2.2.2.2.2.1 z1.2.2.2.2.2.2 30 false) (fun z2 => ((z1.1 &&& (z2.1 ^^^ (-1))), z2.2.1, z2.2.2.1, z2.2.2.2.1, z2.2.2.2.2.1, z2.2.2.2.2.2.1, z2.2.2.2.2.2.2)))))
set_option maxHeartbeats 4000000 in
set_option maxRecDepth 100000 in
theorem c_X3_lack {l : Launch} {D : va_G} {E : Nat → ClassId} {a : Nat → Nat} {fabove : Int64} {fbelow : Int64} {rbad : Int32} {rno : Int32} {rfull : Int32} {counts0 : Int32} {people0 : Nat} {day0 : Int32} {listed0 : Int32} {followed0 : Int32} {struck0 : Int32} {noted0 : Nat} {undoable0 : Nat} {kinds0 : (Nat → Int32)} {tempers0 : (Nat → Int32)} {notes0 : (Nat → Int32)} {past0 : (Nat → Int32)} {counts1 : Int32} {people1 : Nat} {day1 : Int32} {listed1 : Int32} {followed1 : Int32} {struck1 : Int32} {noted1 : Nat} {undoable1 : Nat} {kinds1 : (Nat → Int32)} {tempers1 : (Nat → Int32)} {notes1 : (Nat → Int32)} {past1 : (Nat → Int32)} {counts2 : Int32} {people2 : Nat} {day2 : Int32} {listed2 : Int32} {followed2 : Int32} {struck2 : Int32} {noted2 : Nat} {undoable2 : Nat} {kinds2 : (Nat → Int32)} {tempers2 : (Nat → Int32)} {notes2 : (Nat → Int32)} {past2 : (Nat → Int32)} {counts3 : Int32} {people3 : Nat} {day3 : Int32} {listed3 : Int32} {followed3 : Int32} {struck3 : Int32} {noted3 : Nat} {undoable3 : Nat} {kinds3 : (Nat → Int32)} {tempers3 : (Nat → Int32)} {notes3 : (Nat → Int32)} {past3 : (Nat → Int32)} {keptz : (Nat → Int32)} {wkind : Int32} {wtemper : Int32} {wcounts : Int32} {wday : Int32} {wlisted : Bool} {wfollowed : Bool} {xlength : Nat} {xstart : Nat} {xbehind : Nat} {xsort : Int32} {xnumber : Int32} {xbytes : (Nat → Int32)}  (hP7 : people0 ≤ 7) : wl_Met (τ := Int32 × Int32 × Int32 × Int32 × Int32 × Bool × Bool) l D E yX3_lack cX3_lack 1 (some .int) ({ frames := 6, cells := 0, slots := 0, locals := 140 } : Room) [.ref (a 0)] (wX E a fabove fbelow rbad rno rfull counts0 people0 day0 listed0 followed0 struck0 noted0 undoable0 kinds0 tempers0 notes0 past0 counts1 people1 day1 listed1 followed1 struck1 noted1 undoable1 kinds1 tempers1 notes1 past1 counts2 people2 day2 listed2 followed2 struck2 noted2 undoable2 kinds2 tempers2 notes2 past2 counts3 people3 day3 listed3 followed3 struck3 noted3 undoable3 kinds3 tempers3 notes3 past3 keptz wkind wtemper wcounts wday wlisted wfollowed xlength xstart xbehind xsort xnumber xbytes) (fun z => some (.int z.1)) (fun z => (wX E a fabove fbelow rbad rno rfull counts0 people0 day0 listed0 followed0 struck0 noted0 undoable0 kinds0 tempers0 notes0 past0 counts1 people1 day1 listed1 followed1 struck1 noted1 undoable1 kinds1 tempers1 notes1 past1 counts2 people2 day2 listed2 followed2 struck2 noted2 undoable2 kinds2 tempers2 notes2 past2 counts3 people3 day3 listed3 followed3 struck3 noted3 undoable3 kinds3 tempers3 notes3 past3 keptz z.2.1 z.2.2.1 z.2.2.2.1 z.2.2.2.2.1 z.2.2.2.2.2.1 z.2.2.2.2.2.2 xlength xstart xbehind xsort xnumber xbytes)) (m_X3_lack counts0 people0 day0 listed0 followed0 kinds0 tempers0 wkind wtemper wcounts wday wlisted wfollowed) := by
  refine wl_enter (own := RX3) (by decide +kernel) rfl (Nat.le_of_ble_eq_true rfl) ?_
  intro p0 e0 s0 m0 bl0 mt0 c0 A hC hr hlk hA H locs hP hD hS ls hl
  have hx := hC.1
  have hb := hC.2.1
  have hl : lv_has ls 1 [(0, .ref (a 0))] := hl
  have hm := m_X3_lack.eq_1 counts0 people0 day0 listed0 followed0 kinds0 tempers0 wkind wtemper wcounts wday wlisted wfollowed
  refine lv_aload_n hx hb dX3_lack_0 rfl (lv_at hl 0 rfl) ?_
  refine lv_bipush (v := (nI 30)) hx hb dX3_lack_1 (by decide +kernel) ?_
  refine lv_iconst (v := (nI 1)) hx hb dX3_lack_3 (by decide +kernel) ?_
  refine wl_callVi hC (c_X3_whoDoIt (m := 30) (followed := true) (by first | assumption | omega) (by first | assumption | omega)) lk_RX3_145 rfl ⟨rfl, rfl, Nat.le_of_ble_eq_true rfl, Nat.le_of_ble_eq_true rfl⟩ hP hD hS hA 0 rfl (T1 := 11) rfl hl.1 rfl (Nat.le_of_ble_eq_true rfl) dX3_lack_4 ⟨Nat.zero_le _, Nat.zero_le _⟩ (fun z1 hz1 H locs hP hD hS => ?_)
  have hm := wl_bz hm hz1
  refine lv_aload_n hx hb dX3_lack_7 rfl (lv_at hl 0 rfl) ?_
  refine lv_bipush (v := (nI 30)) hx hb dX3_lack_8 (by decide +kernel) ?_
  refine lv_iconst (v := (nI 0)) hx hb dX3_lack_10 (by decide +kernel) ?_
  refine wl_callVi hC (c_X3_whoDoIt (m := 30) (followed := false) (by first | assumption | omega) (by first | assumption | omega)) lk_RX3_145 rfl ⟨rfl, rfl, Nat.le_of_ble_eq_true rfl, Nat.le_of_ble_eq_true rfl⟩ hP hD hS hA 0 rfl (T1 := 11) rfl hl.1 rfl (Nat.le_of_ble_eq_true rfl) dX3_lack_11 ⟨Nat.zero_le _, Nat.zero_le _⟩ (fun z2 hz2 H locs hP hD hS => ?_)
  have hm := wl_bz hm hz2
  refine lv_iconst (v := (-1)) hx hb dX3_lack_14 (by decide +kernel) ?_
  refine lv_ixor hx hb dX3_lack_15 ?_
  refine lv_iand hx hb dX3_lack_16 ?_
  exact wl_iret hC hr hlk hm rfl hP hD hS dX3_lack_17
def m_X3_comesTrue_l48 (z7 : Int32 × Int32 × Int32 × Int32 × Int32 × Bool × Bool) (z8 : Int32 × Int32 × Int32 × Int32 × Int32 × Bool × Bool) (k9 : Nat) (v9 : Int32 × Int32) : Int32 × Int32 := (if ((nI k9) &&& (z7.1 ^^^ (-1))) = 0 then (if (z8.1 &&& ((nI k9) ^^^ (-1))) = 0 then (if v9.2 = (-1) then ((v9.1 + Int32.ofInt 1), (nI k9)) else ((v9.1 + Int32.ofInt 1), v9.2)) else (v9.1, v9.2)) else (v9.1, v9.2))
def m_X3_comesTrue (rbad : Int32) (counts0 : Int32) (people0 : Nat) (day0 : Int32) (listed0 : Int32) (followed0 : Int32) (kinds0 : (Nat → Int32)) (tempers0 : (Nat → Int32)) (wkind : Int32) (wtemper : Int32) (wcounts : Int32) (wday : Int32) (wlisted : Bool) (wfollowed : Bool) (m : Int32) (what : Int32) : Int32 × Int32 × Int32 × Int32 × Int32 × Int32 × Bool × Bool := (wl_bnd (m_X3_isWithin m (nI 1) (nI 30)) (fun z1 => (if z1 = true then (wl_bnd (m_X3_isWithin what (nI 0) (nI 1)) (fun z5 => (if z5 = true then (wl_bnd (m_X3_whoDoIt counts0 people0 day0 listed0 followed0 kinds0 tempers0 wkind wtemper wcounts wday wlisted wfollowed (cl m) true) (fun z7 => (wl_bnd (m_X3_whoDoIt counts0 people0 day0 listed0 followed0 kinds0 tempers0 z7.2.1 z7.2.2.1 z7.2.2.2.1 z7.2.2.2.2.1 z7.2.2.2.2.2.1 z7.2.2.2.2.2.2 (cl m) false) (fun z8 => (wl_bnd (wl_iter (m_X3_comesTrue_l48 z7 z8) (2 ^ people0) 0 ((nI 0), (-1))) (fun z9 => (if what = 0 then (z9.1, rbad, z8.2.1, z8.2.2.1, z8.2.2.2.1, z8.2.2.2.2.1, z8.2.2.2.2.2.1, z8.2.2.2.2.2.2) else (z9.2, rbad, z8.2.1, z8.2.2.1, z8.2.2.2.1, z8.2.2.2.2.1, z8.2.2.2.2.2.1, z8.2.2.2.2.2.2)))))))) else (wl_bnd (m_X3_refuseBad rbad) (fun z16 => (z16.1, z16.2, wkind, wtemper, wcounts, wday, wlisted, wfollowed)))))) else (wl_bnd (m_X3_refuseBad rbad) (fun z3 => (z3.1, z3.2, wkind, wtemper, wcounts, wday, wlisted, wfollowed))))))
set_option maxHeartbeats 4000000 in
set_option maxRecDepth 100000 in
theorem c_X3_comesTrue {l : Launch} {D : va_G} {E : Nat → ClassId} {a : Nat → Nat} {fabove : Int64} {fbelow : Int64} {rbad : Int32} {rno : Int32} {rfull : Int32} {counts0 : Int32} {people0 : Nat} {day0 : Int32} {listed0 : Int32} {followed0 : Int32} {struck0 : Int32} {noted0 : Nat} {undoable0 : Nat} {kinds0 : (Nat → Int32)} {tempers0 : (Nat → Int32)} {notes0 : (Nat → Int32)} {past0 : (Nat → Int32)} {counts1 : Int32} {people1 : Nat} {day1 : Int32} {listed1 : Int32} {followed1 : Int32} {struck1 : Int32} {noted1 : Nat} {undoable1 : Nat} {kinds1 : (Nat → Int32)} {tempers1 : (Nat → Int32)} {notes1 : (Nat → Int32)} {past1 : (Nat → Int32)} {counts2 : Int32} {people2 : Nat} {day2 : Int32} {listed2 : Int32} {followed2 : Int32} {struck2 : Int32} {noted2 : Nat} {undoable2 : Nat} {kinds2 : (Nat → Int32)} {tempers2 : (Nat → Int32)} {notes2 : (Nat → Int32)} {past2 : (Nat → Int32)} {counts3 : Int32} {people3 : Nat} {day3 : Int32} {listed3 : Int32} {followed3 : Int32} {struck3 : Int32} {noted3 : Nat} {undoable3 : Nat} {kinds3 : (Nat → Int32)} {tempers3 : (Nat → Int32)} {notes3 : (Nat → Int32)} {past3 : (Nat → Int32)} {keptz : (Nat → Int32)} {wkind : Int32} {wtemper : Int32} {wcounts : Int32} {wday : Int32} {wlisted : Bool} {wfollowed : Bool} {xlength : Nat} {xstart : Nat} {xbehind : Nat} {xsort : Int32} {xnumber : Int32} {xbytes : (Nat → Int32)} {m : Int32} {what : Int32} (hP7 : people0 ≤ 7) : wl_Met (τ := Int32 × Int32 × Int32 × Int32 × Int32 × Int32 × Bool × Bool) l D E yX3_comesTrue cX3_comesTrue 8 (some .int) ({ frames := 6, cells := 0, slots := 0, locals := 140 } : Room) [.ref (a 0), .int m, .int what] (wX E a fabove fbelow rbad rno rfull counts0 people0 day0 listed0 followed0 struck0 noted0 undoable0 kinds0 tempers0 notes0 past0 counts1 people1 day1 listed1 followed1 struck1 noted1 undoable1 kinds1 tempers1 notes1 past1 counts2 people2 day2 listed2 followed2 struck2 noted2 undoable2 kinds2 tempers2 notes2 past2 counts3 people3 day3 listed3 followed3 struck3 noted3 undoable3 kinds3 tempers3 notes3 past3 keptz wkind wtemper wcounts wday wlisted wfollowed xlength xstart xbehind xsort xnumber xbytes) (fun z => some (.int z.1)) (fun z => (wX E a fabove fbelow z.2.1 rno rfull counts0 people0 day0 listed0 followed0 struck0 noted0 undoable0 kinds0 tempers0 notes0 past0 counts1 people1 day1 listed1 followed1 struck1 noted1 undoable1 kinds1 tempers1 notes1 past1 counts2 people2 day2 listed2 followed2 struck2 noted2 undoable2 kinds2 tempers2 notes2 past2 counts3 people3 day3 listed3 followed3 struck3 noted3 undoable3 kinds3 tempers3 notes3 past3 keptz z.2.2.1 z.2.2.2.1 z.2.2.2.2.1 z.2.2.2.2.2.1 z.2.2.2.2.2.2.1 z.2.2.2.2.2.2.2 xlength xstart xbehind xsort xnumber xbytes)) (m_X3_comesTrue rbad counts0 people0 day0 listed0 followed0 kinds0 tempers0 wkind wtemper wcounts wday wlisted wfollowed m what) := by
  refine wl_enter (own := RX3) (by decide +kernel) rfl (Nat.le_of_ble_eq_true rfl) ?_
  intro p0 e0 s0 m0 bl0 mt0 c0 A hC hr hlk hA H locs hP hD hS ls hl
  have hx := hC.1
  have hb := hC.2.1
  have hl : lv_has ls 8 [(0, .ref (a 0)), (1, .int m), (2, .int what)] := hl
  have hm := m_X3_comesTrue.eq_1 rbad counts0 people0 day0 listed0 followed0 kinds0 tempers0 wkind wtemper wcounts wday wlisted wfollowed m what
  refine lv_iload_n hx hb dX3_comesTrue_0 rfl (lv_at hl 1 rfl) ?_
  refine lv_iconst (v := (nI 1)) hx hb dX3_comesTrue_1 (by decide +kernel) ?_
  refine lv_bipush (v := (nI 30)) hx hb dX3_comesTrue_2 (by decide +kernel) ?_
  refine wl_callPi hC (c_X3_isWithin (v := m) (least := (nI 1)) (most := (nI 30)) ) lk_RX3_48 rfl ⟨rfl, rfl, Nat.le_of_ble_eq_true rfl, Nat.le_of_ble_eq_true rfl⟩ hP hS hA hl.1 rfl (Nat.le_of_ble_eq_true rfl) dX3_comesTrue_4 ⟨Nat.zero_le _, Nat.zero_le _⟩ (fun z1 hz1 H locs hP hS => ?_)
  have hm := wl_bz hm hz1
  refine wl_if_eq_b hx hb (tgt := 19) dX3_comesTrue_7 (by decide) (fun c2 => ?_) (fun c2 => ?_)
  · have hm := hm.trans (if_neg c2)
    refine lv_aload_n hx hb dX3_comesTrue_19 rfl (lv_at hl 0 rfl) ?_
    refine wl_callVi hC (c_X3_refuseBad  ) lk_RX3_52 rfl ⟨rfl, rfl, Nat.le_of_ble_eq_true rfl, Nat.le_of_ble_eq_true rfl⟩ hP hD hS hA 0 rfl (T1 := 11) rfl hl.1 rfl (Nat.le_of_ble_eq_true rfl) dX3_comesTrue_20 ⟨Nat.zero_le _, Nat.zero_le _⟩ (fun z3 hz3 H locs hP hD hS => ?_)
    have hm := wl_bz hm hz3
    exact wl_iret hC hr hlk hm rfl hP hD hS dX3_comesTrue_23
  · have hm := hm.trans (if_pos c2)
    obtain ⟨ha4, hb4_, hc4_⟩ := within_spec (a := 1) (b := 30) (by decide) (by decide) (hz1.symm.trans c2)
    have hl : lv_has ls 8 [(0, .ref (a 0)), (1, .int (nI (cl m))), (2, .int what)] := by rw [← ha4]; exact hl
    refine lv_iload_n hx hb dX3_comesTrue_10 rfl (lv_at hl 2 rfl) ?_
    refine lv_iconst (v := (nI 0)) hx hb dX3_comesTrue_11 (by decide +kernel) ?_
    refine lv_iconst (v := (nI 1)) hx hb dX3_comesTrue_12 (by decide +kernel) ?_
    refine wl_callPi hC (c_X3_isWithin (v := what) (least := (nI 0)) (most := (nI 1)) ) lk_RX3_48 rfl ⟨rfl, rfl, Nat.le_of_ble_eq_true rfl, Nat.le_of_ble_eq_true rfl⟩ hP hS hA hl.1 rfl (Nat.le_of_ble_eq_true rfl) dX3_comesTrue_13 ⟨Nat.zero_le _, Nat.zero_le _⟩ (fun z5 hz5 H locs hP hS => ?_)
    have hm := wl_bz hm hz5
    refine wl_if_ne_b hx hb (tgt := 24) dX3_comesTrue_16 (by decide) (fun c6 => ?_) (fun c6 => ?_)
    · have hm := hm.trans (if_pos c6)
      refine lv_aload_n hx hb dX3_comesTrue_24 rfl (lv_at hl 0 rfl) ?_
      refine lv_iload_n hx hb dX3_comesTrue_25 rfl (lv_at hl 1 rfl) ?_
      refine lv_iconst (v := (nI 1)) hx hb dX3_comesTrue_26 (by decide +kernel) ?_
      refine wl_callVi hC (c_X3_whoDoIt (m := (cl m)) (followed := true) (by first | assumption | omega) (by first | assumption | omega)) lk_RX3_145 rfl ⟨rfl, rfl, Nat.le_of_ble_eq_true rfl, Nat.le_of_ble_eq_true rfl⟩ hP hD hS hA 0 rfl (T1 := 11) rfl hl.1 rfl (Nat.le_of_ble_eq_true rfl) dX3_comesTrue_27 ⟨Nat.zero_le _, Nat.zero_le _⟩ (fun z7 hz7 H locs hP hD hS => ?_)
      have hm := wl_bz hm hz7
      refine lv_istore_n (lv' := [(3, .int z7.1), (0, .ref (a 0)), (1, .int (nI (cl m))), (2, .int what)]) hx hb dX3_comesTrue_30 rfl hl (by decide) rfl (fun ls hl => ?_)
      refine lv_aload_n hx hb dX3_comesTrue_31 rfl (lv_at hl 1 rfl) ?_
      refine lv_iload_n hx hb dX3_comesTrue_32 rfl (lv_at hl 2 rfl) ?_
      refine lv_iconst (v := (nI 0)) hx hb dX3_comesTrue_33 (by decide +kernel) ?_
      refine wl_callVi hC (c_X3_whoDoIt (m := (cl m)) (followed := false) (by first | assumption | omega) (by first | assumption | omega)) lk_RX3_145 rfl ⟨rfl, rfl, Nat.le_of_ble_eq_true rfl, Nat.le_of_ble_eq_true rfl⟩ hP hD hS hA 0 rfl (T1 := 11) rfl hl.1 rfl (Nat.le_of_ble_eq_true rfl) dX3_comesTrue_34 ⟨Nat.zero_le _, Nat.zero_le _⟩ (fun z8 hz8 H locs hP hD hS => ?_)
      have hm := wl_bz hm hz8
      refine lv_istore (lv' := [(4, .int z8.1), (3, .int z7.1), (0, .ref (a 0)), (1, .int (nI (cl m))), (2, .int what)]) hx hb dX3_comesTrue_37 hl (by decide) rfl (fun ls hl => ?_)
      refine lv_iconst (v := (nI 0)) hx hb dX3_comesTrue_39 (by decide +kernel) ?_
      refine lv_istore (lv' := [(5, .int (nI 0)), (4, .int z8.1), (3, .int z7.1), (0, .ref (a 0)), (1, .int (nI (cl m))), (2, .int what)]) hx hb dX3_comesTrue_40 hl (by decide) rfl (fun ls hl => ?_)
      refine lv_iconst (v := (-1)) hx hb dX3_comesTrue_42 (by decide +kernel) ?_
      refine lv_istore (lv' := [(6, .int (-1)), (5, .int (nI 0)), (4, .int z8.1), (3, .int z7.1), (0, .ref (a 0)), (1, .int (nI (cl m))), (2, .int what)]) hx hb dX3_comesTrue_43 hl (by decide) rfl (fun ls hl => ?_)
      refine lv_iconst (v := (nI 0)) hx hb dX3_comesTrue_45 (by decide +kernel) ?_
      refine lv_istore (lv' := [(7, .int (nI 0)), (6, .int (-1)), (5, .int (nI 0)), (4, .int z8.1), (3, .int z7.1), (0, .ref (a 0)), (1, .int (nI (cl m))), (2, .int what)]) hx hb dX3_comesTrue_46 hl (by decide) rfl (fun ls hl => ?_)
      obtain ⟨u9, hu9, hk9⟩ := wl_bx hm
      refine wl_for (D := D) (A := A) (H0 := s0.heap) (m_X3_comesTrue_l48 z7 z8) (2 ^ people0) 0 (2 ^ people0) ((nI 0), (-1)) 48 8 (fun k9 v9 => [(0, .ref (a 0)), (2, .int what), (3, .int z7.1), (4, .int z8.1), (5, .int v9.1), (6, .int v9.2), (7, .int (nI k9))]) (fun k9 v9 => (wX E a fabove fbelow rbad rno rfull counts0 people0 day0 listed0 followed0 struck0 noted0 undoable0 kinds0 tempers0 notes0 past0 counts1 people1 day1 listed1 followed1 struck1 noted1 undoable1 kinds1 tempers1 notes1 past1 counts2 people2 day2 listed2 followed2 struck2 noted2 undoable2 kinds2 tempers2 notes2 past2 counts3 people3 day3 listed3 followed3 struck3 noted3 undoable3 kinds3 tempers3 notes3 past3 keptz z8.2.1 z8.2.2.1 z8.2.2.2.1 z8.2.2.2.2.1 z8.2.2.2.2.2.1 z8.2.2.2.2.2.2 xlength xstart xbehind xsort xnumber xbytes)) (fun k9 v9 => True) (by omega) trivial ?_ ?_ hP hD hS (lv_sub hl [5, 7, 4, 3, 2, 1, 0] rfl)
      · intro z9 hv9 hI9 ls H locs hP hD hS hl
        have hm := hk9 z9 (hu9.trans hv9)
        refine lv_iload hx hb dX3_comesTrue_48 (lv_at hl 6 rfl) ?_
        refine lv_iconst (v := (nI 1)) hx hb dX3_comesTrue_50 (by decide +kernel) ?_
        refine lv_aload_n hx hb dX3_comesTrue_51 rfl (lv_at hl 0 rfl) ?_
        refine g_X_0_now hC hP mw_202 dX3_comesTrue_52 ?_
        refine g_X_1_people hC hP mw_221 dX3_comesTrue_55 ?_
        refine lv_ishl hx hb dX3_comesTrue_58 ?_
        refine wl_re (wl_pow (by omega)) ?_
        refine wl_icmp_ge_n hx hb (by first | omega | exact Nat.lt_of_le_of_lt Nat.and_le_right (by omega) | exact Nat.pow_lt_pow_right (by omega) (by omega) | exact Nat.lt_trans (by assumption) (Nat.pow_lt_pow_right (by omega) (by omega))) (by first | omega | exact Nat.lt_of_le_of_lt Nat.and_le_right (by omega) | exact Nat.pow_lt_pow_right (by omega) (by omega) | exact Nat.lt_trans (by assumption) (Nat.pow_lt_pow_right (by omega) (by omega))) (tgt := 105) dX3_comesTrue_59 (by decide) (fun c14 => ?_) (fun c14 => absurd (by omega) c14)
        refine lv_iload_n hx hb dX3_comesTrue_105 rfl (lv_at hl 1 rfl) ?_
        refine lv_if_ne hx hb (tgt := 114) dX3_comesTrue_106 (by decide) (fun c15 => ?_) (fun c15 => ?_)
        · have hm := hm.trans (if_neg c15)
          refine lv_iload hx hb dX3_comesTrue_114 (lv_at hl 5 rfl) ?_
          exact wl_iret hC hr hlk hm rfl hP hD hS dX3_comesTrue_116
        · have hm := hm.trans (if_pos c15)
          refine lv_iload hx hb dX3_comesTrue_109 (lv_at hl 4 rfl) ?_
          refine lv_goto (tgt := 116) hx hb dX3_comesTrue_111 (by decide) ?_
          exact wl_iret hC hr hlk hm rfl hP hD hS dX3_comesTrue_116
      · intro k9 v9 hlo9 hhi9 hI9 IH9 ls H locs hP hD hS hl
        have hb9 := m_X3_comesTrue_l48.eq_1 z7 z8 k9 v9
        refine lv_iload hx hb dX3_comesTrue_48 (lv_at hl 6 rfl) ?_
        refine lv_iconst (v := (nI 1)) hx hb dX3_comesTrue_50 (by decide +kernel) ?_
        refine lv_aload_n hx hb dX3_comesTrue_51 rfl (lv_at hl 0 rfl) ?_
        refine g_X_0_now hC hP mw_202 dX3_comesTrue_52 ?_
        refine g_X_1_people hC hP mw_221 dX3_comesTrue_55 ?_
        refine lv_ishl hx hb dX3_comesTrue_58 ?_
        refine wl_re (wl_pow (by omega)) ?_
        refine wl_icmp_ge_n hx hb (by first | omega | exact Nat.lt_of_le_of_lt Nat.and_le_right (by omega) | exact Nat.pow_lt_pow_right (by omega) (by omega) | exact Nat.lt_trans (by assumption) (Nat.pow_lt_pow_right (by omega) (by omega))) (by first | omega | exact Nat.lt_of_le_of_lt Nat.and_le_right (by omega) | exact Nat.pow_lt_pow_right (by omega) (by omega) | exact Nat.lt_trans (by assumption) (Nat.pow_lt_pow_right (by omega) (by omega))) (tgt := 105) dX3_comesTrue_59 (by decide) (fun c10 => absurd c10 (by omega)) (fun c10 => ?_)
        refine lv_iload hx hb dX3_comesTrue_62 (lv_at hl 6 rfl) ?_
        refine lv_iload_n hx hb dX3_comesTrue_64 rfl (lv_at hl 2 rfl) ?_
        refine lv_iconst (v := (-1)) hx hb dX3_comesTrue_65 (by decide +kernel) ?_
        refine lv_ixor hx hb dX3_comesTrue_66 ?_
        refine lv_iand hx hb dX3_comesTrue_67 ?_
        refine lv_if_ne hx hb (tgt := 99) dX3_comesTrue_68 (by decide) (fun c11 => ?_) (fun c11 => ?_)
        · have hb9 := hb9.trans (if_neg c11)
          refine lv_iinc (v := (nI (k9 + 1))) (lv' := [(7, .int (nI (k9 + 1))), (0, .ref (a 0)), (2, .int what), (3, .int z7.1), (4, .int z8.1), (5, .int v9.1), (6, .int v9.2)]) hx hb dX3_comesTrue_99 hl (k := 6) rfl (wl_inc k9 1) (by decide) rfl (fun ls hl => ?_)
          refine lv_goto (tgt := 48) hx hb dX3_comesTrue_102 (by decide) ?_
          exact IH9 _ hb9 trivial ls H locs hP hD hS (lv_sub hl [1, 2, 3, 4, 5, 6, 0] rfl)
        · have hb9 := hb9.trans (if_pos c11)
          refine lv_iload hx hb dX3_comesTrue_71 (lv_at hl 3 rfl) ?_
          refine lv_iload hx hb dX3_comesTrue_73 (lv_at hl 6 rfl) ?_
          refine lv_iconst (v := (-1)) hx hb dX3_comesTrue_75 (by decide +kernel) ?_
          refine lv_ixor hx hb dX3_comesTrue_76 ?_
          refine lv_iand hx hb dX3_comesTrue_77 ?_
          refine lv_if_ne hx hb (tgt := 99) dX3_comesTrue_78 (by decide) (fun c12 => ?_) (fun c12 => ?_)
          · have hb9 := hb9.trans (if_neg c12)
            refine lv_iinc (v := (nI (k9 + 1))) (lv' := [(7, .int (nI (k9 + 1))), (0, .ref (a 0)), (2, .int what), (3, .int z7.1), (4, .int z8.1), (5, .int v9.1), (6, .int v9.2)]) hx hb dX3_comesTrue_99 hl (k := 6) rfl (wl_inc k9 1) (by decide) rfl (fun ls hl => ?_)
            refine lv_goto (tgt := 48) hx hb dX3_comesTrue_102 (by decide) ?_
            exact IH9 _ hb9 trivial ls H locs hP hD hS (lv_sub hl [1, 2, 3, 4, 5, 6, 0] rfl)
          · have hb9 := hb9.trans (if_pos c12)
            refine lv_iinc (v := (v9.1 + Int32.ofInt 1)) (lv' := [(5, .int (v9.1 + Int32.ofInt 1)), (0, .ref (a 0)), (2, .int what), (3, .int z7.1), (4, .int z8.1), (6, .int v9.2), (7, .int (nI k9))]) hx hb dX3_comesTrue_81 hl (k := 4) rfl rfl (by decide) rfl (fun ls hl => ?_)
            refine lv_iload hx hb dX3_comesTrue_84 (lv_at hl 5 rfl) ?_
            refine lv_iconst (v := (-1)) hx hb dX3_comesTrue_86 (by decide +kernel) ?_
            refine lv_icmp_ne hx hb (tgt := 95) dX3_comesTrue_87 (by decide) (fun c13 => ?_) (fun c13 => ?_)
            · have hb9 := hb9.trans (if_neg c13)
              refine lv_iload hx hb dX3_comesTrue_95 (lv_at hl 5 rfl) ?_
              refine lv_istore (lv' := [(6, .int v9.2), (5, .int (v9.1 + Int32.ofInt 1)), (0, .ref (a 0)), (2, .int what), (3, .int z7.1), (4, .int z8.1), (7, .int (nI k9))]) hx hb dX3_comesTrue_97 hl (by decide) rfl (fun ls hl => ?_)
              refine lv_iinc (v := (nI (k9 + 1))) (lv' := [(7, .int (nI (k9 + 1))), (6, .int v9.2), (5, .int (v9.1 + Int32.ofInt 1)), (0, .ref (a 0)), (2, .int what), (3, .int z7.1), (4, .int z8.1)]) hx hb dX3_comesTrue_99 hl (k := 6) rfl (wl_inc k9 1) (by decide) rfl (fun ls hl => ?_)
              refine lv_goto (tgt := 48) hx hb dX3_comesTrue_102 (by decide) ?_
              exact IH9 _ hb9 trivial ls H locs hP hD hS (lv_sub hl [3, 4, 5, 6, 2, 1, 0] rfl)
            · have hb9 := hb9.trans (if_pos c13)
              refine lv_iload hx hb dX3_comesTrue_90 (lv_at hl 6 rfl) ?_
              refine lv_goto (tgt := 97) hx hb dX3_comesTrue_92 (by decide) ?_
              refine lv_istore (lv' := [(6, .int (nI k9)), (5, .int (v9.1 + Int32.ofInt 1)), (0, .ref (a 0)), (2, .int what), (3, .int z7.1), (4, .int z8.1), (7, .int (nI k9))]) hx hb dX3_comesTrue_97 hl (by decide) rfl (fun ls hl => ?_)
              refine lv_iinc (v := (nI (k9 + 1))) (lv' := [(7, .int (nI (k9 + 1))), (6, .int (nI k9)), (5, .int (v9.1 + Int32.ofInt 1)), (0, .ref (a 0)), (2, .int what), (3, .int z7.1), (4, .int z8.1)]) hx hb dX3_comesTrue_99 hl (k := 6) rfl (wl_inc k9 1) (by decide) rfl (fun ls hl => ?_)
              refine lv_goto (tgt := 48) hx hb dX3_comesTrue_102 (by decide) ?_
              exact IH9 _ hb9 trivial ls H locs hP hD hS (lv_sub hl [3, 4, 5, 6, 2, 1, 0] rfl)
    · have hm := hm.trans (if_neg c6)
      refine lv_aload_n hx hb dX3_comesTrue_19 rfl (lv_at hl 0 rfl) ?_
      refine wl_callVi hC (c_X3_refuseBad  ) lk_RX3_52 rfl ⟨rfl, rfl, Nat.le_of_ble_eq_true rfl, Nat.le_of_ble_eq_true rfl⟩ hP hD hS hA 0 rfl (T1 := 11) rfl hl.1 rfl (Nat.le_of_ble_eq_true rfl) dX3_comesTrue_20 ⟨Nat.zero_le _, Nat.zero_le _⟩ (fun z16 hz16 H locs hP hD hS => ?_)
      have hm := wl_bz hm hz16
      exact wl_iret hC hr hlk hm rfl hP hD hS dX3_comesTrue_23
def m_X3_readings_l14 (counts0 : Int32) (day0 : Int32) (listed0 : Int32) (followed0 : Int32) (kinds0 : (Nat → Int32)) (tempers0 : (Nat → Int32)) (k1 : Nat) (k3 : Nat) (v3 : Int32 × Int32 × Int32 × Int32 × Bool × Bool × Int32) : Int32 × Int32 × Int32 × Int32 × Bool × Bool × Int32 := (wl_bnd (m_X3_actToday counts0 day0 listed0 followed0 kinds0 tempers0 k3) (fun z5 => (wl_bnd ((if z5.1 < (nI k1) then false else true) : Bool) (fun z6 => (wl_bnd (m_X3_withBit v3.2.2.2.2.2.2 k3 (wl_b z6)) (fun z8 => (z5.2.1, z5.2.2.1, z5.2.2.2.1, z5.2.2.2.2.1, z5.2.2.2.2.2.1, z5.2.2.2.2.2.2, z8)))))))
def m_X3_readings_l4 (counts0 : Int32) (people0 : Nat) (day0 : Int32) (listed0 : Int32) (followed0 : Int32) (kinds0 : (Nat → Int32)) (tempers0 : (Nat → Int32)) (k1 : Nat) (v1 : Int32 × Int32 × Int32 × Int32 × Bool × Bool × Int32) : Int32 × Int32 × Int32 × Int32 × Bool × Bool × Int32 := (wl_bnd (wl_iter (m_X3_readings_l14 counts0 day0 listed0 followed0 kinds0 tempers0 k1) people0 0 (v1.1, v1.2.1, v1.2.2.1, v1.2.2.2.1, v1.2.2.2.2.1, v1.2.2.2.2.2.1, (nI 0))) (fun z3 => (wl_bnd ((if z3.2.2.2.2.2.2 = listed0 then true else false) : Bool) (fun z10 => (wl_bnd (m_X3_withBit v1.2.2.2.2.2.2 k1 (wl_b z10)) (fun z12 => (z3.1, z3.2.1, z3.2.2.1, z3.2.2.2.1, z3.2.2.2.2.1, z3.2.2.2.2.2.1, z12)))))))
def m_X3_readings (counts0 : Int32) (people0 : Nat) (day0 : Int32) (listed0 : Int32) (followed0 : Int32) (kinds0 : (Nat → Int32)) (tempers0 : (Nat → Int32)) (wkind : Int32) (wtemper : Int32) (wcounts : Int32) (wday : Int32) (wlisted : Bool) (wfollowed : Bool) : Int32 × Int32 × Int32 × Int32 × Int32 × Bool × Bool := (wl_bnd (wl_iter (m_X3_readings_l4 counts0 people0 day0 listed0 followed0 kinds0 tempers0) 5 1 (wkind, wtemper, wcounts, wday, wlisted, wfollowed, (nI 0))) (fun z1 => (z1.2.2.2.2.2.2, z1.1, z1.2.1, z1.2.2.1, z1.2.2.2.1, z1.2.2.2.2.1, z1.2.2.2.2.2.1)))
set_option maxHeartbeats 4000000 in
set_option maxRecDepth 100000 in
theorem c_X3_readings {l : Launch} {D : va_G} {E : Nat → ClassId} {a : Nat → Nat} {fabove : Int64} {fbelow : Int64} {rbad : Int32} {rno : Int32} {rfull : Int32} {counts0 : Int32} {people0 : Nat} {day0 : Int32} {listed0 : Int32} {followed0 : Int32} {struck0 : Int32} {noted0 : Nat} {undoable0 : Nat} {kinds0 : (Nat → Int32)} {tempers0 : (Nat → Int32)} {notes0 : (Nat → Int32)} {past0 : (Nat → Int32)} {counts1 : Int32} {people1 : Nat} {day1 : Int32} {listed1 : Int32} {followed1 : Int32} {struck1 : Int32} {noted1 : Nat} {undoable1 : Nat} {kinds1 : (Nat → Int32)} {tempers1 : (Nat → Int32)} {notes1 : (Nat → Int32)} {past1 : (Nat → Int32)} {counts2 : Int32} {people2 : Nat} {day2 : Int32} {listed2 : Int32} {followed2 : Int32} {struck2 : Int32} {noted2 : Nat} {undoable2 : Nat} {kinds2 : (Nat → Int32)} {tempers2 : (Nat → Int32)} {notes2 : (Nat → Int32)} {past2 : (Nat → Int32)} {counts3 : Int32} {people3 : Nat} {day3 : Int32} {listed3 : Int32} {followed3 : Int32} {struck3 : Int32} {noted3 : Nat} {undoable3 : Nat} {kinds3 : (Nat → Int32)} {tempers3 : (Nat → Int32)} {notes3 : (Nat → Int32)} {past3 : (Nat → Int32)} {keptz : (Nat → Int32)} {wkind : Int32} {wtemper : Int32} {wcounts : Int32} {wday : Int32} {wlisted : Bool} {wfollowed : Bool} {xlength : Nat} {xstart : Nat} {xbehind : Nat} {xsort : Int32} {xnumber : Int32} {xbytes : (Nat → Int32)}  (hP7 : people0 ≤ 7) : wl_Met (τ := Int32 × Int32 × Int32 × Int32 × Int32 × Bool × Bool) l D E yX3_readings cX3_readings 5 (some .int) ({ frames := 4, cells := 0, slots := 0, locals := 91 } : Room) [.ref (a 0)] (wX E a fabove fbelow rbad rno rfull counts0 people0 day0 listed0 followed0 struck0 noted0 undoable0 kinds0 tempers0 notes0 past0 counts1 people1 day1 listed1 followed1 struck1 noted1 undoable1 kinds1 tempers1 notes1 past1 counts2 people2 day2 listed2 followed2 struck2 noted2 undoable2 kinds2 tempers2 notes2 past2 counts3 people3 day3 listed3 followed3 struck3 noted3 undoable3 kinds3 tempers3 notes3 past3 keptz wkind wtemper wcounts wday wlisted wfollowed xlength xstart xbehind xsort xnumber xbytes) (fun z => some (.int z.1)) (fun z => (wX E a fabove fbelow rbad rno rfull counts0 people0 day0 listed0 followed0 struck0 noted0 undoable0 kinds0 tempers0 notes0 past0 counts1 people1 day1 listed1 followed1 struck1 noted1 undoable1 kinds1 tempers1 notes1 past1 counts2 people2 day2 listed2 followed2 struck2 noted2 undoable2 kinds2 tempers2 notes2 past2 counts3 people3 day3 listed3 followed3 struck3 noted3 undoable3 kinds3 tempers3 notes3 past3 keptz z.2.1 z.2.2.1 z.2.2.2.1 z.2.2.2.2.1 z.2.2.2.2.2.1 z.2.2.2.2.2.2 xlength xstart xbehind xsort xnumber xbytes)) (m_X3_readings counts0 people0 day0 listed0 followed0 kinds0 tempers0 wkind wtemper wcounts wday wlisted wfollowed) := by
  refine wl_enter (own := RX3) (by decide +kernel) rfl (Nat.le_of_ble_eq_true rfl) ?_
  intro p0 e0 s0 m0 bl0 mt0 c0 A hC hr hlk hA H locs hP hD hS ls hl
  have hx := hC.1
  have hb := hC.2.1
  have hl : lv_has ls 5 [(0, .ref (a 0))] := hl
  have hm := m_X3_readings.eq_1 counts0 people0 day0 listed0 followed0 kinds0 tempers0 wkind wtemper wcounts wday wlisted wfollowed
  refine lv_iconst (v := (nI 0)) hx hb dX3_readings_0 (by decide +kernel) ?_
  refine lv_istore_n (lv' := [(1, .int (nI 0)), (0, .ref (a 0))]) hx hb dX3_readings_1 rfl hl (by decide) rfl (fun ls hl => ?_)
  refine lv_iconst (v := (nI 1)) hx hb dX3_readings_2 (by decide +kernel) ?_
  refine lv_istore_n (lv' := [(2, .int (nI 1)), (1, .int (nI 0)), (0, .ref (a 0))]) hx hb dX3_readings_3 rfl hl (by decide) rfl (fun ls hl => ?_)
  obtain ⟨u1, hu1, hk1⟩ := wl_bx hm
  refine wl_for (D := D) (A := A) (H0 := s0.heap) (m_X3_readings_l4 counts0 people0 day0 listed0 followed0 kinds0 tempers0) 5 1 6 (wkind, wtemper, wcounts, wday, wlisted, wfollowed, (nI 0)) 4 5 (fun k1 v1 => [(0, .ref (a 0)), (1, .int v1.2.2.2.2.2.2), (2, .int (nI k1))]) (fun k1 v1 => (wX E a fabove fbelow rbad rno rfull counts0 people0 day0 listed0 followed0 struck0 noted0 undoable0 kinds0 tempers0 notes0 past0 counts1 people1 day1 listed1 followed1 struck1 noted1 undoable1 kinds1 tempers1 notes1 past1 counts2 people2 day2 listed2 followed2 struck2 noted2 undoable2 kinds2 tempers2 notes2 past2 counts3 people3 day3 listed3 followed3 struck3 noted3 undoable3 kinds3 tempers3 notes3 past3 keptz v1.1 v1.2.1 v1.2.2.1 v1.2.2.2.1 v1.2.2.2.2.1 v1.2.2.2.2.2.1 xlength xstart xbehind xsort xnumber xbytes)) (fun k1 v1 => True) (by omega) trivial ?_ ?_ hP hD hS (lv_sub hl [2, 1, 0] rfl)
  · intro z1 hv1 hI1 ls H locs hP hD hS hl
    have hm := hk1 z1 (hu1.trans hv1)
    refine lv_iload_n hx hb dX3_readings_4 rfl (lv_at hl 2 rfl) ?_
    refine lv_iconst (v := (nI 5)) hx hb dX3_readings_5 (by decide +kernel) ?_
    refine wl_icmp_gt_n hx hb (by first | omega | exact Nat.lt_of_le_of_lt Nat.and_le_right (by omega) | exact Nat.pow_lt_pow_right (by omega) (by omega) | exact Nat.lt_trans (by assumption) (Nat.pow_lt_pow_right (by omega) (by omega))) (by first | omega | exact Nat.lt_of_le_of_lt Nat.and_le_right (by omega) | exact Nat.pow_lt_pow_right (by omega) (by omega) | exact Nat.lt_trans (by assumption) (Nat.pow_lt_pow_right (by omega) (by omega))) (tgt := 82) dX3_readings_6 (by decide) (fun c13 => ?_) (fun c13 => absurd (by omega) c13)
    refine lv_iload_n hx hb dX3_readings_82 rfl (lv_at hl 1 rfl) ?_
    exact wl_iret hC hr hlk hm rfl hP hD hS dX3_readings_83
  · intro k1 v1 hlo1 hhi1 hI1 IH1 ls H locs hP hD hS hl
    have hb1 := m_X3_readings_l4.eq_1 counts0 people0 day0 listed0 followed0 kinds0 tempers0 k1 v1
    refine lv_iload_n hx hb dX3_readings_4 rfl (lv_at hl 2 rfl) ?_
    refine lv_iconst (v := (nI 5)) hx hb dX3_readings_5 (by decide +kernel) ?_
    refine wl_icmp_gt_n hx hb (by first | omega | exact Nat.lt_of_le_of_lt Nat.and_le_right (by omega) | exact Nat.pow_lt_pow_right (by omega) (by omega) | exact Nat.lt_trans (by assumption) (Nat.pow_lt_pow_right (by omega) (by omega))) (by first | omega | exact Nat.lt_of_le_of_lt Nat.and_le_right (by omega) | exact Nat.pow_lt_pow_right (by omega) (by omega) | exact Nat.lt_trans (by assumption) (Nat.pow_lt_pow_right (by omega) (by omega))) (tgt := 82) dX3_readings_6 (by decide) (fun c2 => absurd c2 (by omega)) (fun c2 => ?_)
    refine lv_iconst (v := (nI 0)) hx hb dX3_readings_9 (by decide +kernel) ?_
    refine lv_istore_n (lv' := [(3, .int (nI 0)), (0, .ref (a 0)), (1, .int v1.2.2.2.2.2.2), (2, .int (nI k1))]) hx hb dX3_readings_10 rfl hl (by decide) rfl (fun ls hl => ?_)
    refine lv_iconst (v := (nI 0)) hx hb dX3_readings_11 (by decide +kernel) ?_
    refine lv_istore (lv' := [(4, .int (nI 0)), (3, .int (nI 0)), (0, .ref (a 0)), (1, .int v1.2.2.2.2.2.2), (2, .int (nI k1))]) hx hb dX3_readings_12 hl (by decide) rfl (fun ls hl => ?_)
    obtain ⟨u3, hu3, hk3⟩ := wl_bx hb1
    refine wl_for (D := D) (A := A) (H0 := s0.heap) (m_X3_readings_l14 counts0 day0 listed0 followed0 kinds0 tempers0 k1) people0 0 people0 (v1.1, v1.2.1, v1.2.2.1, v1.2.2.2.1, v1.2.2.2.2.1, v1.2.2.2.2.2.1, (nI 0)) 14 5 (fun k3 v3 => [(0, .ref (a 0)), (1, .int v1.2.2.2.2.2.2), (2, .int (nI k1)), (3, .int v3.2.2.2.2.2.2), (4, .int (nI k3))]) (fun k3 v3 => (wX E a fabove fbelow rbad rno rfull counts0 people0 day0 listed0 followed0 struck0 noted0 undoable0 kinds0 tempers0 notes0 past0 counts1 people1 day1 listed1 followed1 struck1 noted1 undoable1 kinds1 tempers1 notes1 past1 counts2 people2 day2 listed2 followed2 struck2 noted2 undoable2 kinds2 tempers2 notes2 past2 counts3 people3 day3 listed3 followed3 struck3 noted3 undoable3 kinds3 tempers3 notes3 past3 keptz v3.1 v3.2.1 v3.2.2.1 v3.2.2.2.1 v3.2.2.2.2.1 v3.2.2.2.2.2.1 xlength xstart xbehind xsort xnumber xbytes)) (fun k3 v3 => True) (by omega) trivial ?_ ?_ hP hD hS (lv_sub hl [2, 3, 4, 1, 0] rfl)
    · intro z3 hv3 hI3 ls H locs hP hD hS hl
      have hb1 := hk3 z3 (hu3.trans hv3)
      refine lv_iload hx hb dX3_readings_14 (lv_at hl 4 rfl) ?_
      refine lv_aload_n hx hb dX3_readings_16 rfl (lv_at hl 0 rfl) ?_
      refine g_X_0_now hC hP mw_202 dX3_readings_17 ?_
      refine g_X_1_people hC hP mw_221 dX3_readings_20 ?_
      refine wl_icmp_ge_n hx hb (by first | omega | exact Nat.lt_of_le_of_lt Nat.and_le_right (by omega) | exact Nat.pow_lt_pow_right (by omega) (by omega) | exact Nat.lt_trans (by assumption) (Nat.pow_lt_pow_right (by omega) (by omega))) (by first | omega | exact Nat.lt_of_le_of_lt Nat.and_le_right (by omega) | exact Nat.pow_lt_pow_right (by omega) (by omega) | exact Nat.lt_trans (by assumption) (Nat.pow_lt_pow_right (by omega) (by omega))) (tgt := 54) dX3_readings_23 (by decide) (fun c9 => ?_) (fun c9 => absurd (by omega) c9)
      refine lv_iload_n hx hb dX3_readings_54 rfl (lv_at hl 1 rfl) ?_
      refine lv_iload_n hx hb dX3_readings_55 rfl (lv_at hl 2 rfl) ?_
      refine lv_iload_n hx hb dX3_readings_56 rfl (lv_at hl 3 rfl) ?_
      refine lv_aload_n hx hb dX3_readings_57 rfl (lv_at hl 0 rfl) ?_
      refine g_X_0_now hC hP mw_202 dX3_readings_58 ?_
      refine g_X_1_listed hC hP mw_249 dX3_readings_61 ?_
      obtain ⟨u10, hj10, hk10⟩ := wl_bx hb1
      refine wl_J u10 72 (fun z10 => [.int (wl_b z10), .int (nI k1), .int v1.2.2.2.2.2.2]) 5 (fun z10 => [(0, .ref (a 0)), (2, .int (nI k1))]) D A s0.heap (fun z10 => (wX E a fabove fbelow rbad rno rfull counts0 people0 day0 listed0 followed0 struck0 noted0 undoable0 kinds0 tempers0 notes0 past0 counts1 people1 day1 listed1 followed1 struck1 noted1 undoable1 kinds1 tempers1 notes1 past1 counts2 people2 day2 listed2 followed2 struck2 noted2 undoable2 kinds2 tempers2 notes2 past2 counts3 people3 day3 listed3 followed3 struck3 noted3 undoable3 kinds3 tempers3 notes3 past3 keptz z3.1 z3.2.1 z3.2.2.1 z3.2.2.2.1 z3.2.2.2.2.1 z3.2.2.2.2.2.1 xlength xstart xbehind xsort xnumber xbytes)) (fun z10 hz10 ls H locs hP hD hS hl => ?_) (fun J10 => ?_)
      · have hb1 := hk10 z10 hz10
        refine wl_callPi hC (c_X3_withBit (bits := v1.2.2.2.2.2.2) (i := k1) (is := (wl_b z10)) ) lk_RX3_99 rfl ⟨rfl, rfl, Nat.le_of_ble_eq_true rfl, Nat.le_of_ble_eq_true rfl⟩ hP hS hA hl.1 rfl (Nat.le_of_ble_eq_true rfl) dX3_readings_72 ⟨Nat.zero_le _, Nat.zero_le _⟩ (fun z12 hz12 H locs hP hS => ?_)
        have hb1 := wl_bz hb1 hz12
        refine lv_istore_n (lv' := [(1, .int z12), (0, .ref (a 0)), (2, .int (nI k1))]) hx hb dX3_readings_75 rfl hl (by decide) rfl (fun ls hl => ?_)
        refine lv_iinc (v := (nI (k1 + 1))) (lv' := [(2, .int (nI (k1 + 1))), (1, .int z12), (0, .ref (a 0))]) hx hb dX3_readings_76 hl (k := 2) rfl (wl_inc k1 1) (by decide) rfl (fun ls hl => ?_)
        refine lv_goto (tgt := 4) hx hb dX3_readings_79 (by decide) ?_
        exact IH1 _ hb1 trivial ls H locs hP hD hS (lv_sub hl [2, 1, 0] rfl)
      · refine lv_icmp_ne hx hb (tgt := 71) dX3_readings_64 (by decide) (fun c11 => ?_) (fun c11 => ?_)
        · have hj10 := hj10.trans (if_neg c11)
          refine lv_iconst (v := (nI 0)) hx hb dX3_readings_71 (by decide +kernel) ?_
          exact J10 _ hj10 ls H locs hP hD hS (lv_sub hl [0, 2] rfl)
        · have hj10 := hj10.trans (if_pos c11)
          refine lv_iconst (v := (nI 1)) hx hb dX3_readings_67 (by decide +kernel) ?_
          refine lv_goto (tgt := 72) hx hb dX3_readings_68 (by decide) ?_
          exact J10 _ hj10 ls H locs hP hD hS (lv_sub hl [0, 2] rfl)
    · intro k3 v3 hlo3 hhi3 hI3 IH3 ls H locs hP hD hS hl
      have hb3 := m_X3_readings_l14.eq_1 counts0 day0 listed0 followed0 kinds0 tempers0 k1 k3 v3
      refine lv_iload hx hb dX3_readings_14 (lv_at hl 4 rfl) ?_
      refine lv_aload_n hx hb dX3_readings_16 rfl (lv_at hl 0 rfl) ?_
      refine g_X_0_now hC hP mw_202 dX3_readings_17 ?_
      refine g_X_1_people hC hP mw_221 dX3_readings_20 ?_
      refine wl_icmp_ge_n hx hb (by first | omega | exact Nat.lt_of_le_of_lt Nat.and_le_right (by omega) | exact Nat.pow_lt_pow_right (by omega) (by omega) | exact Nat.lt_trans (by assumption) (Nat.pow_lt_pow_right (by omega) (by omega))) (by first | omega | exact Nat.lt_of_le_of_lt Nat.and_le_right (by omega) | exact Nat.pow_lt_pow_right (by omega) (by omega) | exact Nat.lt_trans (by assumption) (Nat.pow_lt_pow_right (by omega) (by omega))) (tgt := 54) dX3_readings_23 (by decide) (fun c4 => absurd c4 (by omega)) (fun c4 => ?_)
      refine lv_iload_n hx hb dX3_readings_26 rfl (lv_at hl 3 rfl) ?_
      refine lv_iload hx hb dX3_readings_27 (lv_at hl 4 rfl) ?_
      refine lv_aload_n hx hb dX3_readings_29 rfl (lv_at hl 0 rfl) ?_
      refine lv_iload hx hb dX3_readings_30 (lv_at hl 4 rfl) ?_
      refine wl_callVi hC (c_X3_actToday (p := k3) (by first | assumption | omega)) lk_RX3_129 rfl ⟨rfl, rfl, Nat.le_of_ble_eq_true rfl, Nat.le_of_ble_eq_true rfl⟩ hP hD hS hA 0 rfl (T1 := 11) rfl hl.1 rfl (Nat.le_of_ble_eq_true rfl) dX3_readings_32 ⟨Nat.zero_le _, Nat.zero_le _⟩ (fun z5 hz5 H locs hP hD hS => ?_)
      have hb3 := wl_bz hb3 hz5
      refine lv_iload_n hx hb dX3_readings_35 rfl (lv_at hl 2 rfl) ?_
      obtain ⟨u6, hj6, hk6⟩ := wl_bx hb3
      refine wl_J u6 44 (fun z6 => [.int (wl_b z6), .int (nI k3), .int v3.2.2.2.2.2.2]) 5 (fun z6 => [(0, .ref (a 0)), (1, .int v1.2.2.2.2.2.2), (2, .int (nI k1)), (4, .int (nI k3))]) D A s0.heap (fun z6 => (wX E a fabove fbelow rbad rno rfull counts0 people0 day0 listed0 followed0 struck0 noted0 undoable0 kinds0 tempers0 notes0 past0 counts1 people1 day1 listed1 followed1 struck1 noted1 undoable1 kinds1 tempers1 notes1 past1 counts2 people2 day2 listed2 followed2 struck2 noted2 undoable2 kinds2 tempers2 notes2 past2 counts3 people3 day3 listed3 followed3 struck3 noted3 undoable3 kinds3 tempers3 notes3 past3 keptz z5.2.1 z5.2.2.1 z5.2.2.2.1 z5.2.2.2.2.1 z5.2.2.2.2.2.1 z5.2.2.2.2.2.2 xlength xstart xbehind xsort xnumber xbytes)) (fun z6 hz6 ls H locs hP hD hS hl => ?_) (fun J6 => ?_)
      · have hb3 := hk6 z6 hz6
        refine wl_callPi hC (c_X3_withBit (bits := v3.2.2.2.2.2.2) (i := k3) (is := (wl_b z6)) ) lk_RX3_99 rfl ⟨rfl, rfl, Nat.le_of_ble_eq_true rfl, Nat.le_of_ble_eq_true rfl⟩ hP hS hA hl.1 rfl (Nat.le_of_ble_eq_true rfl) dX3_readings_44 ⟨Nat.zero_le _, Nat.zero_le _⟩ (fun z8 hz8 H locs hP hS => ?_)
        have hb3 := wl_bz hb3 hz8
        refine lv_istore_n (lv' := [(3, .int z8), (0, .ref (a 0)), (1, .int v1.2.2.2.2.2.2), (2, .int (nI k1)), (4, .int (nI k3))]) hx hb dX3_readings_47 rfl hl (by decide) rfl (fun ls hl => ?_)
        refine lv_iinc (v := (nI (k3 + 1))) (lv' := [(4, .int (nI (k3 + 1))), (3, .int z8), (0, .ref (a 0)), (1, .int v1.2.2.2.2.2.2), (2, .int (nI k1))]) hx hb dX3_readings_48 hl (k := 4) rfl (wl_inc k3 1) (by decide) rfl (fun ls hl => ?_)
        refine lv_goto (tgt := 14) hx hb dX3_readings_51 (by decide) ?_
        exact IH3 _ hb3 trivial ls H locs hP hD hS (lv_sub hl [2, 3, 4, 1, 0] rfl)
      · refine lv_icmp_lt hx hb (tgt := 43) dX3_readings_36 (by decide) (fun c7 => ?_) (fun c7 => ?_)
        · have hj6 := hj6.trans (if_pos c7)
          refine lv_iconst (v := (nI 0)) hx hb dX3_readings_43 (by decide +kernel) ?_
          exact J6 _ hj6 ls H locs hP hD hS (lv_sub hl [0, 1, 2, 4] rfl)
        · have hj6 := hj6.trans (if_neg c7)
          refine lv_iconst (v := (nI 1)) hx hb dX3_readings_39 (by decide +kernel) ?_
          refine lv_goto (tgt := 44) hx hb dX3_readings_40 (by decide) ?_
          exact J6 _ hj6 ls H locs hP hD hS (lv_sub hl [0, 1, 2, 4] rfl)
def m_X3_roster (rbad : Int32) (listed0 : Int32) (n : Int32) (d : Int32) : Int32 × Int32 := (wl_bnd (m_X3_isWithin n (nI 1) (nI 9)) (fun z1 => (if z1 = true then (wl_bnd (m_X3_isWithin d (nI 0) (nI 9)) (fun z5 => (if z5 = true then (if (cl d) ≤ (cl n) then (wl_bnd (m_J6_bitCount_0f7a4 listed0) (fun z9 => (((((z9 * (nI (cl d))) + (nI (cl n))) - (nI 1)) / (nI (cl n))), rbad))) else ((-1), rbad)) else (wl_bnd (m_X3_refuseBad rbad) (fun z10 => (z10.1, z10.2)))))) else (wl_bnd (m_X3_refuseBad rbad) (fun z3 => (z3.1, z3.2))))))
set_option maxHeartbeats 4000000 in
set_option maxRecDepth 100000 in
theorem c_X3_roster {l : Launch} {D : va_G} {E : Nat → ClassId} {a : Nat → Nat} {fabove : Int64} {fbelow : Int64} {rbad : Int32} {rno : Int32} {rfull : Int32} {counts0 : Int32} {people0 : Nat} {day0 : Int32} {listed0 : Int32} {followed0 : Int32} {struck0 : Int32} {noted0 : Nat} {undoable0 : Nat} {kinds0 : (Nat → Int32)} {tempers0 : (Nat → Int32)} {notes0 : (Nat → Int32)} {past0 : (Nat → Int32)} {counts1 : Int32} {people1 : Nat} {day1 : Int32} {listed1 : Int32} {followed1 : Int32} {struck1 : Int32} {noted1 : Nat} {undoable1 : Nat} {kinds1 : (Nat → Int32)} {tempers1 : (Nat → Int32)} {notes1 : (Nat → Int32)} {past1 : (Nat → Int32)} {counts2 : Int32} {people2 : Nat} {day2 : Int32} {listed2 : Int32} {followed2 : Int32} {struck2 : Int32} {noted2 : Nat} {undoable2 : Nat} {kinds2 : (Nat → Int32)} {tempers2 : (Nat → Int32)} {notes2 : (Nat → Int32)} {past2 : (Nat → Int32)} {counts3 : Int32} {people3 : Nat} {day3 : Int32} {listed3 : Int32} {followed3 : Int32} {struck3 : Int32} {noted3 : Nat} {undoable3 : Nat} {kinds3 : (Nat → Int32)} {tempers3 : (Nat → Int32)} {notes3 : (Nat → Int32)} {past3 : (Nat → Int32)} {keptz : (Nat → Int32)} {wkind : Int32} {wtemper : Int32} {wcounts : Int32} {wday : Int32} {wlisted : Bool} {wfollowed : Bool} {xlength : Nat} {xstart : Nat} {xbehind : Nat} {xsort : Int32} {xnumber : Int32} {xbytes : (Nat → Int32)} {n : Int32} {d : Int32} : wl_Met (τ := Int32 × Int32) l D E yX3_roster cX3_roster 3 (some .int) ({ frames := 1, cells := 0, slots := 0, locals := 22 } : Room) [.ref (a 0), .int n, .int d] (wX E a fabove fbelow rbad rno rfull counts0 people0 day0 listed0 followed0 struck0 noted0 undoable0 kinds0 tempers0 notes0 past0 counts1 people1 day1 listed1 followed1 struck1 noted1 undoable1 kinds1 tempers1 notes1 past1 counts2 people2 day2 listed2 followed2 struck2 noted2 undoable2 kinds2 tempers2 notes2 past2 counts3 people3 day3 listed3 followed3 struck3 noted3 undoable3 kinds3 tempers3 notes3 past3 keptz wkind wtemper wcounts wday wlisted wfollowed xlength xstart xbehind xsort xnumber xbytes) (fun z => some (.int z.1)) (fun z => (wX E a fabove fbelow z.2 rno rfull counts0 people0 day0 listed0 followed0 struck0 noted0 undoable0 kinds0 tempers0 notes0 past0 counts1 people1 day1 listed1 followed1 struck1 noted1 undoable1 kinds1 tempers1 notes1 past1 counts2 people2 day2 listed2 followed2 struck2 noted2 undoable2 kinds2 tempers2 notes2 past2 counts3 people3 day3 listed3 followed3 struck3 noted3 undoable3 kinds3 tempers3 notes3 past3 keptz wkind wtemper wcounts wday wlisted wfollowed xlength xstart xbehind xsort xnumber xbytes)) (m_X3_roster rbad listed0 n d) := by
  refine wl_enter (own := RX3) (by decide +kernel) rfl (Nat.le_of_ble_eq_true rfl) ?_
  intro p0 e0 s0 m0 bl0 mt0 c0 A hC hr hlk hA H locs hP hD hS ls hl
  have hx := hC.1
  have hb := hC.2.1
  have hl : lv_has ls 3 [(0, .ref (a 0)), (1, .int n), (2, .int d)] := hl
  have hm := m_X3_roster.eq_1 rbad listed0 n d
  refine lv_iload_n hx hb dX3_roster_0 rfl (lv_at hl 1 rfl) ?_
  refine lv_iconst (v := (nI 1)) hx hb dX3_roster_1 (by decide +kernel) ?_
  refine lv_bipush (v := (nI 9)) hx hb dX3_roster_2 (by decide +kernel) ?_
  refine wl_callPi hC (c_X3_isWithin (v := n) (least := (nI 1)) (most := (nI 9)) ) lk_RX3_48 rfl ⟨rfl, rfl, Nat.le_of_ble_eq_true rfl, Nat.le_of_ble_eq_true rfl⟩ hP hS hA hl.1 rfl (Nat.le_of_ble_eq_true rfl) dX3_roster_4 ⟨Nat.zero_le _, Nat.zero_le _⟩ (fun z1 hz1 H locs hP hS => ?_)
  have hm := wl_bz hm hz1
  refine wl_if_eq_b hx hb (tgt := 20) dX3_roster_7 (by decide) (fun c2 => ?_) (fun c2 => ?_)
  · have hm := hm.trans (if_neg c2)
    refine lv_aload_n hx hb dX3_roster_20 rfl (lv_at hl 0 rfl) ?_
    refine wl_callVi hC (c_X3_refuseBad  ) lk_RX3_52 rfl ⟨rfl, rfl, Nat.le_of_ble_eq_true rfl, Nat.le_of_ble_eq_true rfl⟩ hP hD hS hA 0 rfl (T1 := 11) rfl hl.1 rfl (Nat.le_of_ble_eq_true rfl) dX3_roster_21 ⟨Nat.zero_le _, Nat.zero_le _⟩ (fun z3 hz3 H locs hP hD hS => ?_)
    have hm := wl_bz hm hz3
    exact wl_iret hC hr hlk hm rfl hP hD hS dX3_roster_24
  · have hm := hm.trans (if_pos c2)
    obtain ⟨ha4, hb4_, hc4_⟩ := within_spec (a := 1) (b := 9) (by decide) (by decide) (hz1.symm.trans c2)
    have hl : lv_has ls 3 [(0, .ref (a 0)), (1, .int (nI (cl n))), (2, .int d)] := by rw [← ha4]; exact hl
    refine lv_iload_n hx hb dX3_roster_10 rfl (lv_at hl 2 rfl) ?_
    refine lv_iconst (v := (nI 0)) hx hb dX3_roster_11 (by decide +kernel) ?_
    refine lv_bipush (v := (nI 9)) hx hb dX3_roster_12 (by decide +kernel) ?_
    refine wl_callPi hC (c_X3_isWithin (v := d) (least := (nI 0)) (most := (nI 9)) ) lk_RX3_48 rfl ⟨rfl, rfl, Nat.le_of_ble_eq_true rfl, Nat.le_of_ble_eq_true rfl⟩ hP hS hA hl.1 rfl (Nat.le_of_ble_eq_true rfl) dX3_roster_14 ⟨Nat.zero_le _, Nat.zero_le _⟩ (fun z5 hz5 H locs hP hS => ?_)
    have hm := wl_bz hm hz5
    refine wl_if_ne_b hx hb (tgt := 25) dX3_roster_17 (by decide) (fun c6 => ?_) (fun c6 => ?_)
    · have hm := hm.trans (if_pos c6)
      obtain ⟨ha7, hb7_, hc7_⟩ := within_spec (a := 0) (b := 9) (by decide) (by decide) (hz5.symm.trans c6)
      have hl : lv_has ls 3 [(0, .ref (a 0)), (1, .int (nI (cl n))), (2, .int (nI (cl d)))] := by rw [← ha7]; exact hl
      refine lv_iload_n hx hb dX3_roster_25 rfl (lv_at hl 2 rfl) ?_
      refine lv_iload_n hx hb dX3_roster_26 rfl (lv_at hl 1 rfl) ?_
      refine wl_icmp_le_n hx hb (by first | omega | exact Nat.lt_of_le_of_lt Nat.and_le_right (by omega) | exact Nat.pow_lt_pow_right (by omega) (by omega) | exact Nat.lt_trans (by assumption) (Nat.pow_lt_pow_right (by omega) (by omega))) (by first | omega | exact Nat.lt_of_le_of_lt Nat.and_le_right (by omega) | exact Nat.pow_lt_pow_right (by omega) (by omega) | exact Nat.lt_trans (by assumption) (Nat.pow_lt_pow_right (by omega) (by omega))) (tgt := 32) dX3_roster_27 (by decide) (fun c8 => ?_) (fun c8 => ?_)
      · have hm := hm.trans (if_pos c8)
        refine lv_aload_n hx hb dX3_roster_32 rfl (lv_at hl 0 rfl) ?_
        refine g_X_0_now hC hP mw_202 dX3_roster_33 ?_
        refine g_X_1_listed hC hP mw_249 dX3_roster_36 ?_
        refine wl_callPi hC (c_J6_bitCount_0f7a4 (i := listed0) ) lk_RX3_149 rfl ⟨rfl, rfl, Nat.le_of_ble_eq_true rfl, Nat.le_of_ble_eq_true rfl⟩ hP hS hA hl.1 rfl (Nat.le_of_ble_eq_true rfl) dX3_roster_39 ⟨Nat.zero_le _, Nat.zero_le _⟩ (fun z9 hz9 H locs hP hS => ?_)
        have hm := wl_bz hm hz9
        refine lv_iload_n hx hb dX3_roster_42 rfl (lv_at hl 2 rfl) ?_
        refine lv_imul hx hb dX3_roster_43 ?_
        refine lv_iload_n hx hb dX3_roster_44 rfl (lv_at hl 1 rfl) ?_
        refine lv_iadd hx hb dX3_roster_45 ?_
        refine lv_iconst (v := (nI 1)) hx hb dX3_roster_46 (by decide +kernel) ?_
        refine lv_isub hx hb dX3_roster_47 ?_
        refine lv_iload_n hx hb dX3_roster_48 rfl (lv_at hl 1 rfl) ?_
        refine lv_idiv hx hb dX3_roster_49 (nI_ne0 (by omega) (by omega)) ?_
        exact wl_iret hC hr hlk hm rfl hP hD hS dX3_roster_50
      · have hm := hm.trans (if_neg c8)
        refine lv_iconst (v := (-1)) hx hb dX3_roster_30 (by decide +kernel) ?_
        exact wl_iret hC hr hlk hm rfl hP hD hS dX3_roster_31
    · have hm := hm.trans (if_neg c6)
      refine lv_aload_n hx hb dX3_roster_20 rfl (lv_at hl 0 rfl) ?_
      refine wl_callVi hC (c_X3_refuseBad  ) lk_RX3_52 rfl ⟨rfl, rfl, Nat.le_of_ble_eq_true rfl, Nat.le_of_ble_eq_true rfl⟩ hP hD hS hA 0 rfl (T1 := 11) rfl hl.1 rfl (Nat.le_of_ble_eq_true rfl) dX3_roster_21 ⟨Nat.zero_le _, Nat.zero_le _⟩ (fun z10 hz10 H locs hP hD hS => ?_)
      have hm := wl_bz hm hz10
      exact wl_iret hC hr hlk hm rfl hP hD hS dX3_roster_24
def m_X3_isStruckBy_l15 (n : Nat) (days : Int32) (z1 : Int32 × Int32 × Int32 × Int32 × Bool × Bool) (v2 : Int32 × Int32 × Bool × Bool × Nat) : (Int32 × Int32 × Bool × Bool × Nat) ⊕ (Bool × Int32 × Int32 × Int32 × Int32 × Bool × Bool) := (if n ≤ v2.2.2.2.2 then (Sum.inr (false, z1.1, v2.1, z1.2.2.1, v2.2.1, v2.2.2.1, v2.2.2.2.1)) else (wl_bnd (m_X3_bitOf days v2.2.2.2.2) (fun z4 => (wl_bnd ((if z4 = (nI 1) then true else false) : Bool) (fun z5 => (wl_bnd (m_X2_goBy z1.1 v2.1 z1.2.2.1 v2.2.1 v2.2.2.1 z5) (fun z7 => (if z7.1 = true then (Sum.inr (true, z1.1, z7.2.1, z1.2.2.1, z7.2.2.1, z7.2.2.2.1, z7.2.2.2.2)) else (Sum.inl (z7.2.1, z7.2.2.1, z7.2.2.2.1, z7.2.2.2.2, (v2.2.2.2.2 + 1)))))))))))
def m_X3_isStruckBy (counts0 : Int32) (day0 : Int32) (listed0 : Int32) (followed0 : Int32) (kinds0 : (Nat → Int32)) (tempers0 : (Nat → Int32)) (p : Nat) (n : Nat) (days : Int32) : Bool × Int32 × Int32 × Int32 × Int32 × Bool × Bool := (wl_bnd (m_X1_startWalk counts0 day0 listed0 followed0 kinds0 tempers0 p) (fun z1 => (wl_run (m_X3_isStruckBy_l15 n days z1) default (n + 1) (z1.2.1, z1.2.2.2.1, z1.2.2.2.2.1, z1.2.2.2.2.2, 0))))
set_option maxHeartbeats 4000000 in
set_option maxRecDepth 100000 in
theorem c_X3_isStruckBy {l : Launch} {D : va_G} {E : Nat → ClassId} {a : Nat → Nat} {fabove : Int64} {fbelow : Int64} {rbad : Int32} {rno : Int32} {rfull : Int32} {counts0 : Int32} {people0 : Nat} {day0 : Int32} {listed0 : Int32} {followed0 : Int32} {struck0 : Int32} {noted0 : Nat} {undoable0 : Nat} {kinds0 : (Nat → Int32)} {tempers0 : (Nat → Int32)} {notes0 : (Nat → Int32)} {past0 : (Nat → Int32)} {counts1 : Int32} {people1 : Nat} {day1 : Int32} {listed1 : Int32} {followed1 : Int32} {struck1 : Int32} {noted1 : Nat} {undoable1 : Nat} {kinds1 : (Nat → Int32)} {tempers1 : (Nat → Int32)} {notes1 : (Nat → Int32)} {past1 : (Nat → Int32)} {counts2 : Int32} {people2 : Nat} {day2 : Int32} {listed2 : Int32} {followed2 : Int32} {struck2 : Int32} {noted2 : Nat} {undoable2 : Nat} {kinds2 : (Nat → Int32)} {tempers2 : (Nat → Int32)} {notes2 : (Nat → Int32)} {past2 : (Nat → Int32)} {counts3 : Int32} {people3 : Nat} {day3 : Int32} {listed3 : Int32} {followed3 : Int32} {struck3 : Int32} {noted3 : Nat} {undoable3 : Nat} {kinds3 : (Nat → Int32)} {tempers3 : (Nat → Int32)} {notes3 : (Nat → Int32)} {past3 : (Nat → Int32)} {keptz : (Nat → Int32)} {wkind : Int32} {wtemper : Int32} {wcounts : Int32} {wday : Int32} {wlisted : Bool} {wfollowed : Bool} {xlength : Nat} {xstart : Nat} {xbehind : Nat} {xsort : Int32} {xnumber : Int32} {xbytes : (Nat → Int32)} {p : Nat} {n : Nat} {days : Int32} (hp : p < 7) (hn : n ≤ 8) : wl_Met (τ := Bool × Int32 × Int32 × Int32 × Int32 × Bool × Bool) l D E yX3_isStruckBy cX3_isStruckBy 5 (some .boolean) ({ frames := 4, cells := 0, slots := 0, locals := 92 } : Room) [.ref (a 0), .int (nI p), .int (nI n), .int days] (wX E a fabove fbelow rbad rno rfull counts0 people0 day0 listed0 followed0 struck0 noted0 undoable0 kinds0 tempers0 notes0 past0 counts1 people1 day1 listed1 followed1 struck1 noted1 undoable1 kinds1 tempers1 notes1 past1 counts2 people2 day2 listed2 followed2 struck2 noted2 undoable2 kinds2 tempers2 notes2 past2 counts3 people3 day3 listed3 followed3 struck3 noted3 undoable3 kinds3 tempers3 notes3 past3 keptz wkind wtemper wcounts wday wlisted wfollowed xlength xstart xbehind xsort xnumber xbytes) (fun z => some (.int (wl_b z.1))) (fun z => (wX E a fabove fbelow rbad rno rfull counts0 people0 day0 listed0 followed0 struck0 noted0 undoable0 kinds0 tempers0 notes0 past0 counts1 people1 day1 listed1 followed1 struck1 noted1 undoable1 kinds1 tempers1 notes1 past1 counts2 people2 day2 listed2 followed2 struck2 noted2 undoable2 kinds2 tempers2 notes2 past2 counts3 people3 day3 listed3 followed3 struck3 noted3 undoable3 kinds3 tempers3 notes3 past3 keptz z.2.1 z.2.2.1 z.2.2.2.1 z.2.2.2.2.1 z.2.2.2.2.2.1 z.2.2.2.2.2.2 xlength xstart xbehind xsort xnumber xbytes)) (m_X3_isStruckBy counts0 day0 listed0 followed0 kinds0 tempers0 p n days) := by
  refine wl_enter (own := RX3) (by decide +kernel) rfl (Nat.le_of_ble_eq_true rfl) ?_
  intro p0 e0 s0 m0 bl0 mt0 c0 A hC hr hlk hA H locs hP hD hS ls hl
  have hx := hC.1
  have hb := hC.2.1
  have hl : lv_has ls 5 [(0, .ref (a 0)), (1, .int (nI p)), (2, .int (nI n)), (3, .int days)] := hl
  have hm := m_X3_isStruckBy.eq_1 counts0 day0 listed0 followed0 kinds0 tempers0 p n days
  refine lv_aload_n hx hb dX3_isStruckBy_0 rfl (lv_at hl 0 rfl) ?_
  refine g_X_0_now hC hP mw_202 dX3_isStruckBy_1 ?_
  refine lv_aload_n hx hb dX3_isStruckBy_4 rfl (lv_at hl 0 rfl) ?_
  refine g_X_0_walk hC hP mw_209 dX3_isStruckBy_5 ?_
  refine lv_iload_n hx hb dX3_isStruckBy_8 rfl (lv_at hl 1 rfl) ?_
  refine wl_callVv hC (c_X1_startWalk__X_1_23 (p := p) (by first | assumption | omega)) lk_RX3_132 rfl ⟨rfl, rfl, Nat.le_of_ble_eq_true rfl, Nat.le_of_ble_eq_true rfl⟩ hP hD hS hA 1 rfl (T1 := 12) rfl hl.1 rfl (Nat.le_of_ble_eq_true rfl) dX3_isStruckBy_9 ⟨Nat.zero_le _, Nat.zero_le _⟩ (fun z1 hz1 H locs hP hD hS => ?_)
  have hm := wl_bz hm hz1
  refine lv_iconst (v := (nI 0)) hx hb dX3_isStruckBy_12 (by decide +kernel) ?_
  refine lv_istore (lv' := [(4, .int (nI 0)), (0, .ref (a 0)), (1, .int (nI p)), (2, .int (nI n)), (3, .int days)]) hx hb dX3_isStruckBy_13 hl (by decide) rfl (fun ls hl => ?_)
  refine wl_while (D := D) (A := A) (H0 := s0.heap) (m_X3_isStruckBy_l15 n days z1) default (n + 1) (z1.2.1, z1.2.2.2.1, z1.2.2.2.2.1, z1.2.2.2.2.2, 0) 15 5 (fun v2 => [(0, .ref (a 0)), (2, .int (nI n)), (3, .int days), (4, .int (nI v2.2.2.2.2))]) (fun v2 => (wX E a fabove fbelow rbad rno rfull counts0 people0 day0 listed0 followed0 struck0 noted0 undoable0 kinds0 tempers0 notes0 past0 counts1 people1 day1 listed1 followed1 struck1 noted1 undoable1 kinds1 tempers1 notes1 past1 counts2 people2 day2 listed2 followed2 struck2 noted2 undoable2 kinds2 tempers2 notes2 past2 counts3 people3 day3 listed3 followed3 struck3 noted3 undoable3 kinds3 tempers3 notes3 past3 keptz z1.1 v2.1 z1.2.2.1 v2.2.1 v2.2.2.1 v2.2.2.2.1 xlength xstart xbehind xsort xnumber xbytes)) (fun v2 => (v2.2.2.2.2 ≤ n)) (fun v2 => n - v2.2.2.2.2) (by show 0 ≤ n; omega) (by show n - 0 < (n + 1); first | decide | omega) ?_ hP hD hS (lv_sub hl [1, 3, 4, 0] rfl)
  intro v2 hI2 EX2 IH2 ls H locs hP hD hS hl
  have i4 := hI2
  have hb2 := m_X3_isStruckBy_l15.eq_1 n days z1 v2
  refine lv_iload hx hb dX3_isStruckBy_15 (lv_at hl 3 rfl) ?_
  refine lv_iload_n hx hb dX3_isStruckBy_17 rfl (lv_at hl 1 rfl) ?_
  refine wl_icmp_ge_n hx hb (by first | omega | exact Nat.lt_of_le_of_lt Nat.and_le_right (by omega) | exact Nat.pow_lt_pow_right (by omega) (by omega) | exact Nat.lt_trans (by assumption) (Nat.pow_lt_pow_right (by omega) (by omega))) (by first | omega | exact Nat.lt_of_le_of_lt Nat.and_le_right (by omega) | exact Nat.pow_lt_pow_right (by omega) (by omega) | exact Nat.lt_trans (by assumption) (Nat.pow_lt_pow_right (by omega) (by omega))) (tgt := 61) dX3_isStruckBy_18 (by decide) (fun c3 => ?_) (fun c3 => ?_)
  · have hb2 := hb2.trans (if_pos c3)
    refine lv_iconst (v := (nI 0)) hx hb dX3_isStruckBy_61 (by decide +kernel) ?_
    exact wl_zret (v := false) hC hr hlk (hm.trans (EX2 _ hb2)) rfl hP hD hS dX3_isStruckBy_62
  · have hb2 := hb2.trans (if_neg c3)
    refine lv_aload_n hx hb dX3_isStruckBy_21 rfl (lv_at hl 0 rfl) ?_
    refine g_X_0_walk hC hP mw_209 dX3_isStruckBy_22 ?_
    refine lv_iload_n hx hb dX3_isStruckBy_25 rfl (lv_at hl 2 rfl) ?_
    refine lv_iload hx hb dX3_isStruckBy_26 (lv_at hl 3 rfl) ?_
    refine wl_callPi hC (c_X3_bitOf (bits := days) (i := v2.2.2.2.2) ) lk_RX3_93 rfl ⟨rfl, rfl, Nat.le_of_ble_eq_true rfl, Nat.le_of_ble_eq_true rfl⟩ hP hS hA hl.1 rfl (Nat.le_of_ble_eq_true rfl) dX3_isStruckBy_28 ⟨Nat.zero_le _, Nat.zero_le _⟩ (fun z4 hz4 H locs hP hS => ?_)
    have hb2 := wl_bz hb2 hz4
    refine lv_iconst (v := (nI 1)) hx hb dX3_isStruckBy_31 (by decide +kernel) ?_
    obtain ⟨u5, hj5, hk5⟩ := wl_bx hb2
    refine wl_J u5 40 (fun z5 => [.int (wl_b z5), .ref (a 23)]) 5 (fun z5 => [(0, .ref (a 0)), (2, .int (nI n)), (3, .int days), (4, .int (nI v2.2.2.2.2))]) D A s0.heap (fun z5 => (wX E a fabove fbelow rbad rno rfull counts0 people0 day0 listed0 followed0 struck0 noted0 undoable0 kinds0 tempers0 notes0 past0 counts1 people1 day1 listed1 followed1 struck1 noted1 undoable1 kinds1 tempers1 notes1 past1 counts2 people2 day2 listed2 followed2 struck2 noted2 undoable2 kinds2 tempers2 notes2 past2 counts3 people3 day3 listed3 followed3 struck3 noted3 undoable3 kinds3 tempers3 notes3 past3 keptz z1.1 v2.1 z1.2.2.1 v2.2.1 v2.2.2.1 v2.2.2.2.1 xlength xstart xbehind xsort xnumber xbytes)) (fun z5 hz5 ls H locs hP hD hS hl => ?_) (fun J5 => ?_)
    · have hb2 := hk5 z5 hz5
      refine p_X_23_followed hC hP hD hS z5 mw_292 dX3_isStruckBy_40 (fun H locs hP hD hS => ?_)
      refine lv_aload_n hx hb dX3_isStruckBy_43 rfl (lv_at hl 0 rfl) ?_
      refine g_X_0_walk hC hP mw_209 dX3_isStruckBy_44 ?_
      refine wl_callVi hC (c_X2_goBy__X_23  ) lk_RX3_136 rfl ⟨rfl, rfl, Nat.le_of_ble_eq_true rfl, Nat.le_of_ble_eq_true rfl⟩ hP hD hS hA 23 rfl (T1 := 6) rfl hl.1 rfl (Nat.le_of_ble_eq_true rfl) dX3_isStruckBy_47 ⟨Nat.zero_le _, Nat.zero_le _⟩ (fun z7 hz7 H locs hP hD hS => ?_)
      have hb2 := wl_bz hb2 hz7
      refine wl_if_eq_b hx hb (tgt := 55) dX3_isStruckBy_50 (by decide) (fun c8 => ?_) (fun c8 => ?_)
      · have hb2 := hb2.trans (if_neg c8)
        refine lv_iinc (v := (nI (v2.2.2.2.2 + 1))) (lv' := [(4, .int (nI (v2.2.2.2.2 + 1))), (0, .ref (a 0)), (2, .int (nI n)), (3, .int days)]) hx hb dX3_isStruckBy_55 hl (k := 3) rfl (wl_inc v2.2.2.2.2 1) (by decide) rfl (fun ls hl => ?_)
        refine lv_goto (tgt := 15) hx hb dX3_isStruckBy_58 (by decide) ?_
        exact IH2 _ hb2 (by show (v2.2.2.2.2 + 1) ≤ n; omega) (by show n - (v2.2.2.2.2 + 1) < n - v2.2.2.2.2; omega) ls H locs hP hD hS (lv_sub hl [1, 2, 3, 0] rfl)
      · have hb2 := hb2.trans (if_pos c8)
        refine lv_iconst (v := (nI 1)) hx hb dX3_isStruckBy_53 (by decide +kernel) ?_
        exact wl_zret (v := true) hC hr hlk (hm.trans (EX2 _ hb2)) rfl hP hD hS dX3_isStruckBy_54
    · refine lv_icmp_ne hx hb (tgt := 39) dX3_isStruckBy_32 (by decide) (fun c6 => ?_) (fun c6 => ?_)
      · have hj5 := hj5.trans (if_neg c6)
        refine lv_iconst (v := (nI 0)) hx hb dX3_isStruckBy_39 (by decide +kernel) ?_
        exact J5 _ hj5 ls H locs hP hD hS (lv_sub hl [0, 1, 2, 3] rfl)
      · have hj5 := hj5.trans (if_pos c6)
        refine lv_iconst (v := (nI 1)) hx hb dX3_isStruckBy_35 (by decide +kernel) ?_
        refine lv_goto (tgt := 40) hx hb dX3_isStruckBy_36 (by decide) ?_
        exact J5 _ hj5 ls H locs hP hD hS (lv_sub hl [0, 1, 2, 3] rfl)
def m_X3_fewestDays_l5 (counts0 : Int32) (day0 : Int32) (listed0 : Int32) (followed0 : Int32) (kinds0 : (Nat → Int32)) (tempers0 : (Nat → Int32)) (p : Nat) (n : Nat) (k1 : Nat) (v1 : Int32 × Int32 × Int32 × Int32 × Bool × Bool × Int32) : Int32 × Int32 × Int32 × Int32 × Bool × Bool × Int32 := (wl_bnd ((if v1.2.2.2.2.2.2 = (-1) then true else (wl_bnd (m_J6_bitCount_0f7a4 (nI k1)) (fun z5 => (wl_bnd (m_J6_bitCount_0f7a4 v1.2.2.2.2.2.2) (fun z6 => (if z6 ≤ z5 then false else true)))))) : Bool) (fun z3 => (if z3 = true then (wl_bnd (m_X3_isStruckBy counts0 day0 listed0 followed0 kinds0 tempers0 p n (nI k1)) (fun z9 => (if z9.1 = true then (z9.2.1, z9.2.2.1, z9.2.2.2.1, z9.2.2.2.2.1, z9.2.2.2.2.2.1, z9.2.2.2.2.2.2, (nI k1)) else (z9.2.1, z9.2.2.1, z9.2.2.2.1, z9.2.2.2.2.1, z9.2.2.2.2.2.1, z9.2.2.2.2.2.2, v1.2.2.2.2.2.2)))) else (v1.1, v1.2.1, v1.2.2.1, v1.2.2.2.1, v1.2.2.2.2.1, v1.2.2.2.2.2.1, v1.2.2.2.2.2.2))))
def m_X3_fewestDays (counts0 : Int32) (day0 : Int32) (listed0 : Int32) (followed0 : Int32) (kinds0 : (Nat → Int32)) (tempers0 : (Nat → Int32)) (wkind : Int32) (wtemper : Int32) (wcounts : Int32) (wday : Int32) (wlisted : Bool) (wfollowed : Bool) (p : Nat) (n : Nat) : Int32 × Int32 × Int32 × Int32 × Int32 × Bool × Bool := (wl_bnd (wl_iter (m_X3_fewestDays_l5 counts0 day0 listed0 followed0 kinds0 tempers0 p n) (2 ^ n) 0 (wkind, wtemper, wcounts, wday, wlisted, wfollowed, (-1))) (fun z1 => (z1.2.2.2.2.2.2, z1.1, z1.2.1, z1.2.2.1, z1.2.2.2.1, z1.2.2.2.2.1, z1.2.2.2.2.2.1)))
set_option maxHeartbeats 4000000 in
set_option maxRecDepth 100000 in
theorem c_X3_fewestDays {l : Launch} {D : va_G} {E : Nat → ClassId} {a : Nat → Nat} {fabove : Int64} {fbelow : Int64} {rbad : Int32} {rno : Int32} {rfull : Int32} {counts0 : Int32} {people0 : Nat} {day0 : Int32} {listed0 : Int32} {followed0 : Int32} {struck0 : Int32} {noted0 : Nat} {undoable0 : Nat} {kinds0 : (Nat → Int32)} {tempers0 : (Nat → Int32)} {notes0 : (Nat → Int32)} {past0 : (Nat → Int32)} {counts1 : Int32} {people1 : Nat} {day1 : Int32} {listed1 : Int32} {followed1 : Int32} {struck1 : Int32} {noted1 : Nat} {undoable1 : Nat} {kinds1 : (Nat → Int32)} {tempers1 : (Nat → Int32)} {notes1 : (Nat → Int32)} {past1 : (Nat → Int32)} {counts2 : Int32} {people2 : Nat} {day2 : Int32} {listed2 : Int32} {followed2 : Int32} {struck2 : Int32} {noted2 : Nat} {undoable2 : Nat} {kinds2 : (Nat → Int32)} {tempers2 : (Nat → Int32)} {notes2 : (Nat → Int32)} {past2 : (Nat → Int32)} {counts3 : Int32} {people3 : Nat} {day3 : Int32} {listed3 : Int32} {followed3 : Int32} {struck3 : Int32} {noted3 : Nat} {undoable3 : Nat} {kinds3 : (Nat → Int32)} {tempers3 : (Nat → Int32)} {notes3 : (Nat → Int32)} {past3 : (Nat → Int32)} {keptz : (Nat → Int32)} {wkind : Int32} {wtemper : Int32} {wcounts : Int32} {wday : Int32} {wlisted : Bool} {wfollowed : Bool} {xlength : Nat} {xstart : Nat} {xbehind : Nat} {xsort : Int32} {xnumber : Int32} {xbytes : (Nat → Int32)} {p : Nat} {n : Nat} (hp : p < 7) (hn : n ≤ 8) : wl_Met (τ := Int32 × Int32 × Int32 × Int32 × Int32 × Bool × Bool) l D E yX3_fewestDays cX3_fewestDays 6 (some .int) ({ frames := 5, cells := 0, slots := 0, locals := 116 } : Room) [.ref (a 0), .int (nI p), .int (nI n)] (wX E a fabove fbelow rbad rno rfull counts0 people0 day0 listed0 followed0 struck0 noted0 undoable0 kinds0 tempers0 notes0 past0 counts1 people1 day1 listed1 followed1 struck1 noted1 undoable1 kinds1 tempers1 notes1 past1 counts2 people2 day2 listed2 followed2 struck2 noted2 undoable2 kinds2 tempers2 notes2 past2 counts3 people3 day3 listed3 followed3 struck3 noted3 undoable3 kinds3 tempers3 notes3 past3 keptz wkind wtemper wcounts wday wlisted wfollowed xlength xstart xbehind xsort xnumber xbytes) (fun z => some (.int z.1)) (fun z => (wX E a fabove fbelow rbad rno rfull counts0 people0 day0 listed0 followed0 struck0 noted0 undoable0 kinds0 tempers0 notes0 past0 counts1 people1 day1 listed1 followed1 struck1 noted1 undoable1 kinds1 tempers1 notes1 past1 counts2 people2 day2 listed2 followed2 struck2 noted2 undoable2 kinds2 tempers2 notes2 past2 counts3 people3 day3 listed3 followed3 struck3 noted3 undoable3 kinds3 tempers3 notes3 past3 keptz z.2.1 z.2.2.1 z.2.2.2.1 z.2.2.2.2.1 z.2.2.2.2.2.1 z.2.2.2.2.2.2 xlength xstart xbehind xsort xnumber xbytes)) (m_X3_fewestDays counts0 day0 listed0 followed0 kinds0 tempers0 wkind wtemper wcounts wday wlisted wfollowed p n) := by
  refine wl_enter (own := RX3) (by decide +kernel) rfl (Nat.le_of_ble_eq_true rfl) ?_
  intro p0 e0 s0 m0 bl0 mt0 c0 A hC hr hlk hA H locs hP hD hS ls hl
  have hx := hC.1
  have hb := hC.2.1
  have hl : lv_has ls 6 [(0, .ref (a 0)), (1, .int (nI p)), (2, .int (nI n))] := hl
  have hm := m_X3_fewestDays.eq_1 counts0 day0 listed0 followed0 kinds0 tempers0 wkind wtemper wcounts wday wlisted wfollowed p n
  refine lv_iconst (v := (-1)) hx hb dX3_fewestDays_0 (by decide +kernel) ?_
  refine lv_istore_n (lv' := [(3, .int (-1)), (0, .ref (a 0)), (1, .int (nI p)), (2, .int (nI n))]) hx hb dX3_fewestDays_1 rfl hl (by decide) rfl (fun ls hl => ?_)
  refine lv_iconst (v := (nI 0)) hx hb dX3_fewestDays_2 (by decide +kernel) ?_
  refine lv_istore (lv' := [(4, .int (nI 0)), (3, .int (-1)), (0, .ref (a 0)), (1, .int (nI p)), (2, .int (nI n))]) hx hb dX3_fewestDays_3 hl (by decide) rfl (fun ls hl => ?_)
  obtain ⟨u1, hu1, hk1⟩ := wl_bx hm
  refine wl_for (D := D) (A := A) (H0 := s0.heap) (m_X3_fewestDays_l5 counts0 day0 listed0 followed0 kinds0 tempers0 p n) (2 ^ n) 0 (2 ^ n) (wkind, wtemper, wcounts, wday, wlisted, wfollowed, (-1)) 5 6 (fun k1 v1 => [(0, .ref (a 0)), (1, .int (nI p)), (2, .int (nI n)), (3, .int v1.2.2.2.2.2.2), (4, .int (nI k1))]) (fun k1 v1 => (wX E a fabove fbelow rbad rno rfull counts0 people0 day0 listed0 followed0 struck0 noted0 undoable0 kinds0 tempers0 notes0 past0 counts1 people1 day1 listed1 followed1 struck1 noted1 undoable1 kinds1 tempers1 notes1 past1 counts2 people2 day2 listed2 followed2 struck2 noted2 undoable2 kinds2 tempers2 notes2 past2 counts3 people3 day3 listed3 followed3 struck3 noted3 undoable3 kinds3 tempers3 notes3 past3 keptz v1.1 v1.2.1 v1.2.2.1 v1.2.2.2.1 v1.2.2.2.2.1 v1.2.2.2.2.2.1 xlength xstart xbehind xsort xnumber xbytes)) (fun k1 v1 => True) (by omega) trivial ?_ ?_ hP hD hS (lv_sub hl [2, 3, 4, 1, 0] rfl)
  · intro z1 hv1 hI1 ls H locs hP hD hS hl
    have hm := hk1 z1 (hu1.trans hv1)
    refine lv_iload hx hb dX3_fewestDays_5 (lv_at hl 4 rfl) ?_
    refine lv_iconst (v := (nI 1)) hx hb dX3_fewestDays_7 (by decide +kernel) ?_
    refine lv_iload_n hx hb dX3_fewestDays_8 rfl (lv_at hl 2 rfl) ?_
    refine lv_ishl hx hb dX3_fewestDays_9 ?_
    refine wl_re (wl_pow (by omega)) ?_
    refine wl_icmp_ge_n hx hb (by first | omega | exact Nat.lt_of_le_of_lt Nat.and_le_right (by omega) | exact Nat.pow_lt_pow_right (by omega) (by omega) | exact Nat.lt_trans (by assumption) (Nat.pow_lt_pow_right (by omega) (by omega))) (by first | omega | exact Nat.lt_of_le_of_lt Nat.and_le_right (by omega) | exact Nat.pow_lt_pow_right (by omega) (by omega) | exact Nat.lt_trans (by assumption) (Nat.pow_lt_pow_right (by omega) (by omega))) (tgt := 62) dX3_fewestDays_10 (by decide) (fun c11 => ?_) (fun c11 => absurd (by omega) c11)
    refine lv_iload_n hx hb dX3_fewestDays_62 rfl (lv_at hl 3 rfl) ?_
    exact wl_iret hC hr hlk hm rfl hP hD hS dX3_fewestDays_63
  · intro k1 v1 hlo1 hhi1 hI1 IH1 ls H locs hP hD hS hl
    have hb1 := m_X3_fewestDays_l5.eq_1 counts0 day0 listed0 followed0 kinds0 tempers0 p n k1 v1
    refine lv_iload hx hb dX3_fewestDays_5 (lv_at hl 4 rfl) ?_
    refine lv_iconst (v := (nI 1)) hx hb dX3_fewestDays_7 (by decide +kernel) ?_
    refine lv_iload_n hx hb dX3_fewestDays_8 rfl (lv_at hl 2 rfl) ?_
    refine lv_ishl hx hb dX3_fewestDays_9 ?_
    refine wl_re (wl_pow (by omega)) ?_
    refine wl_icmp_ge_n hx hb (by first | omega | exact Nat.lt_of_le_of_lt Nat.and_le_right (by omega) | exact Nat.pow_lt_pow_right (by omega) (by omega) | exact Nat.lt_trans (by assumption) (Nat.pow_lt_pow_right (by omega) (by omega))) (by first | omega | exact Nat.lt_of_le_of_lt Nat.and_le_right (by omega) | exact Nat.pow_lt_pow_right (by omega) (by omega) | exact Nat.lt_trans (by assumption) (Nat.pow_lt_pow_right (by omega) (by omega))) (tgt := 62) dX3_fewestDays_10 (by decide) (fun c2 => absurd c2 (by omega)) (fun c2 => ?_)
    refine lv_iload_n hx hb dX3_fewestDays_13 rfl (lv_at hl 3 rfl) ?_
    refine lv_iconst (v := (-1)) hx hb dX3_fewestDays_14 (by decide +kernel) ?_
    obtain ⟨u3, hj3, hk3⟩ := wl_bx hb1
    refine wl_J u3 35 (fun z3 => [.int (wl_b z3)]) 6 (fun z3 => [(0, .ref (a 0)), (1, .int (nI p)), (2, .int (nI n)), (3, .int v1.2.2.2.2.2.2), (4, .int (nI k1))]) D A s0.heap (fun z3 => (wX E a fabove fbelow rbad rno rfull counts0 people0 day0 listed0 followed0 struck0 noted0 undoable0 kinds0 tempers0 notes0 past0 counts1 people1 day1 listed1 followed1 struck1 noted1 undoable1 kinds1 tempers1 notes1 past1 counts2 people2 day2 listed2 followed2 struck2 noted2 undoable2 kinds2 tempers2 notes2 past2 counts3 people3 day3 listed3 followed3 struck3 noted3 undoable3 kinds3 tempers3 notes3 past3 keptz v1.1 v1.2.1 v1.2.2.1 v1.2.2.2.1 v1.2.2.2.2.1 v1.2.2.2.2.2.1 xlength xstart xbehind xsort xnumber xbytes)) (fun z3 hz3 ls H locs hP hD hS hl => ?_) (fun J3 => ?_)
    · have hb1 := hk3 z3 hz3
      refine lv_istore (lv' := [(5, .int (wl_b z3)), (0, .ref (a 0)), (1, .int (nI p)), (2, .int (nI n)), (3, .int v1.2.2.2.2.2.2), (4, .int (nI k1))]) hx hb dX3_fewestDays_35 hl (by decide) rfl (fun ls hl => ?_)
      refine lv_iload hx hb dX3_fewestDays_37 (lv_at hl 0 rfl) ?_
      refine wl_if_eq_b hx hb (tgt := 56) dX3_fewestDays_39 (by decide) (fun c8 => ?_) (fun c8 => ?_)
      · have hb1 := hb1.trans (if_neg c8)
        refine lv_iinc (v := (nI (k1 + 1))) (lv' := [(4, .int (nI (k1 + 1))), (5, .int (wl_b z3)), (0, .ref (a 0)), (1, .int (nI p)), (2, .int (nI n)), (3, .int v1.2.2.2.2.2.2)]) hx hb dX3_fewestDays_56 hl (k := 5) rfl (wl_inc k1 1) (by decide) rfl (fun ls hl => ?_)
        refine lv_goto (tgt := 5) hx hb dX3_fewestDays_59 (by decide) ?_
        exact IH1 _ hb1 trivial ls H locs hP hD hS (lv_sub hl [2, 3, 4, 5, 0] rfl)
      · have hb1 := hb1.trans (if_pos c8)
        refine lv_aload_n hx hb dX3_fewestDays_42 rfl (lv_at hl 1 rfl) ?_
        refine lv_iload_n hx hb dX3_fewestDays_43 rfl (lv_at hl 2 rfl) ?_
        refine lv_iload_n hx hb dX3_fewestDays_44 rfl (lv_at hl 3 rfl) ?_
        refine lv_iload hx hb dX3_fewestDays_45 (lv_at hl 5 rfl) ?_
        refine wl_callVi hC (c_X3_isStruckBy (p := p) (n := n) (days := (nI k1)) (by first | assumption | omega) (by first | assumption | omega)) lk_RX3_183 rfl ⟨rfl, rfl, Nat.le_of_ble_eq_true rfl, Nat.le_of_ble_eq_true rfl⟩ hP hD hS hA 0 rfl (T1 := 11) rfl hl.1 rfl (Nat.le_of_ble_eq_true rfl) dX3_fewestDays_47 ⟨Nat.zero_le _, Nat.zero_le _⟩ (fun z9 hz9 H locs hP hD hS => ?_)
        have hb1 := wl_bz hb1 hz9
        refine wl_if_eq_b hx hb (tgt := 56) dX3_fewestDays_50 (by decide) (fun c10 => ?_) (fun c10 => ?_)
        · have hb1 := hb1.trans (if_neg c10)
          refine lv_iinc (v := (nI (k1 + 1))) (lv' := [(4, .int (nI (k1 + 1))), (5, .int (wl_b z3)), (0, .ref (a 0)), (1, .int (nI p)), (2, .int (nI n)), (3, .int v1.2.2.2.2.2.2)]) hx hb dX3_fewestDays_56 hl (k := 5) rfl (wl_inc k1 1) (by decide) rfl (fun ls hl => ?_)
          refine lv_goto (tgt := 5) hx hb dX3_fewestDays_59 (by decide) ?_
          exact IH1 _ hb1 trivial ls H locs hP hD hS (lv_sub hl [2, 3, 4, 5, 0] rfl)
        · have hb1 := hb1.trans (if_pos c10)
          refine lv_iload hx hb dX3_fewestDays_53 (lv_at hl 5 rfl) ?_
          refine lv_istore_n (lv' := [(3, .int (nI k1)), (5, .int (wl_b z3)), (0, .ref (a 0)), (1, .int (nI p)), (2, .int (nI n)), (4, .int (nI k1))]) hx hb dX3_fewestDays_55 rfl hl (by decide) rfl (fun ls hl => ?_)
          refine lv_iinc (v := (nI (k1 + 1))) (lv' := [(4, .int (nI (k1 + 1))), (3, .int (nI k1)), (5, .int (wl_b z3)), (0, .ref (a 0)), (1, .int (nI p)), (2, .int (nI n))]) hx hb dX3_fewestDays_56 hl (k := 5) rfl (wl_inc k1 1) (by decide) rfl (fun ls hl => ?_)
          refine lv_goto (tgt := 5) hx hb dX3_fewestDays_59 (by decide) ?_
          exact IH1 _ hb1 trivial ls H locs hP hD hS (lv_sub hl [3, 4, 5, 1, 0] rfl)
    · refine lv_icmp_eq hx hb (tgt := 30) dX3_fewestDays_15 (by decide) (fun c4 => ?_) (fun c4 => ?_)
      · have hj3 := hj3.trans (if_pos c4)
        refine lv_iconst (v := (nI 1)) hx hb dX3_fewestDays_30 (by decide +kernel) ?_
        refine lv_goto (tgt := 35) hx hb dX3_fewestDays_31 (by decide) ?_
        exact J3 _ hj3 ls H locs hP hD hS (lv_sub hl [0, 1, 2, 3, 4] rfl)
      · have hj3 := hj3.trans (if_neg c4)
        refine lv_iload hx hb dX3_fewestDays_18 (lv_at hl 4 rfl) ?_
        refine wl_callPi hC (c_J6_bitCount_0f7a4 (i := (nI k1)) ) lk_RX3_149 rfl ⟨rfl, rfl, Nat.le_of_ble_eq_true rfl, Nat.le_of_ble_eq_true rfl⟩ hP hS hA hl.1 rfl (Nat.le_of_ble_eq_true rfl) dX3_fewestDays_20 ⟨Nat.zero_le _, Nat.zero_le _⟩ (fun z5 hz5 H locs hP hS => ?_)
        have hj3 := wl_bz hj3 hz5
        refine lv_iload_n hx hb dX3_fewestDays_23 rfl (lv_at hl 3 rfl) ?_
        refine wl_callPi hC (c_J6_bitCount_0f7a4 (i := v1.2.2.2.2.2.2) ) lk_RX3_149 rfl ⟨rfl, rfl, Nat.le_of_ble_eq_true rfl, Nat.le_of_ble_eq_true rfl⟩ hP hS hA hl.1 rfl (Nat.le_of_ble_eq_true rfl) dX3_fewestDays_24 ⟨Nat.zero_le _, Nat.zero_le _⟩ (fun z6 hz6 H locs hP hS => ?_)
        have hj3 := wl_bz hj3 hz6
        refine lv_icmp_ge hx hb (tgt := 34) dX3_fewestDays_27 (by decide) (fun c7 => ?_) (fun c7 => ?_)
        · have hj3 := hj3.trans (if_pos c7)
          refine lv_iconst (v := (nI 0)) hx hb dX3_fewestDays_34 (by decide +kernel) ?_
          exact J3 _ hj3 ls H locs hP hD hS (lv_sub hl [0, 1, 2, 3, 4] rfl)
        · have hj3 := hj3.trans (if_neg c7)
          refine lv_iconst (v := (nI 1)) hx hb dX3_fewestDays_30 (by decide +kernel) ?_
          refine lv_goto (tgt := 35) hx hb dX3_fewestDays_31 (by decide) ?_
          exact J3 _ hj3 ls H locs hP hD hS (lv_sub hl [0, 1, 2, 3, 4] rfl)
def m_X3_off (rbad : Int32) (rno : Int32) (counts0 : Int32) (people0 : Nat) (day0 : Int32) (listed0 : Int32) (followed0 : Int32) (kinds0 : (Nat → Int32)) (tempers0 : (Nat → Int32)) (wkind : Int32) (wtemper : Int32) (wcounts : Int32) (wday : Int32) (wlisted : Bool) (wfollowed : Bool) (p : Int32) (n : Int32) (what : Int32) : Int32 × Int32 × Int32 × Int32 × Int32 × Int32 × Int32 × Bool × Bool := (wl_bnd (m_X3_isThere people0 p) (fun z1 => (if z1 = true then (wl_bnd (m_X3_isWithin n (nI 1) (nI 8)) (fun z5 => (if z5 = true then (wl_bnd (m_X3_isWithin what (nI 0) (nI 1)) (fun z9 => (if z9 = true then (wl_bnd (m_X3_bitOf listed0 (cl p)) (fun z11 => (if z11 = 0 then (wl_bnd (m_X3_refuseNo rno) (fun z17 => (z17.1, rbad, z17.2, wkind, wtemper, wcounts, wday, wlisted, wfollowed))) else (wl_bnd (m_X3_fewestDays counts0 day0 listed0 followed0 kinds0 tempers0 wkind wtemper wcounts wday wlisted wfollowed (cl p) (cl n)) (fun z13 => (if what = (nI 1) then (z13.1, rbad, rno, z13.2.1, z13.2.2.1, z13.2.2.2.1, z13.2.2.2.2.1, z13.2.2.2.2.2.1, z13.2.2.2.2.2.2) else (if z13.1 = (-1) then (z13.1, rbad, rno, z13.2.1, z13.2.2.1, z13.2.2.2.1, z13.2.2.2.2.1, z13.2.2.2.2.2.1, z13.2.2.2.2.2.2) else (wl_bnd (m_J6_bitCount_0f7a4 z13.1) (fun z16 => (z16, rbad, rno, z13.2.1, z13.2.2.1, z13.2.2.2.1, z13.2.2.2.2.1, z13.2.2.2.2.2.1, z13.2.2.2.2.2.2)))))))))) else (wl_bnd (m_X3_refuseBad rbad) (fun z18 => (z18.1, z18.2, rno, wkind, wtemper, wcounts, wday, wlisted, wfollowed)))))) else (wl_bnd (m_X3_refuseBad rbad) (fun z7 => (z7.1, z7.2, rno, wkind, wtemper, wcounts, wday, wlisted, wfollowed)))))) else (wl_bnd (m_X3_refuseBad rbad) (fun z3 => (z3.1, z3.2, rno, wkind, wtemper, wcounts, wday, wlisted, wfollowed))))))
set_option maxHeartbeats 4000000 in
set_option maxRecDepth 100000 in
theorem c_X3_off {l : Launch} {D : va_G} {E : Nat → ClassId} {a : Nat → Nat} {fabove : Int64} {fbelow : Int64} {rbad : Int32} {rno : Int32} {rfull : Int32} {counts0 : Int32} {people0 : Nat} {day0 : Int32} {listed0 : Int32} {followed0 : Int32} {struck0 : Int32} {noted0 : Nat} {undoable0 : Nat} {kinds0 : (Nat → Int32)} {tempers0 : (Nat → Int32)} {notes0 : (Nat → Int32)} {past0 : (Nat → Int32)} {counts1 : Int32} {people1 : Nat} {day1 : Int32} {listed1 : Int32} {followed1 : Int32} {struck1 : Int32} {noted1 : Nat} {undoable1 : Nat} {kinds1 : (Nat → Int32)} {tempers1 : (Nat → Int32)} {notes1 : (Nat → Int32)} {past1 : (Nat → Int32)} {counts2 : Int32} {people2 : Nat} {day2 : Int32} {listed2 : Int32} {followed2 : Int32} {struck2 : Int32} {noted2 : Nat} {undoable2 : Nat} {kinds2 : (Nat → Int32)} {tempers2 : (Nat → Int32)} {notes2 : (Nat → Int32)} {past2 : (Nat → Int32)} {counts3 : Int32} {people3 : Nat} {day3 : Int32} {listed3 : Int32} {followed3 : Int32} {struck3 : Int32} {noted3 : Nat} {undoable3 : Nat} {kinds3 : (Nat → Int32)} {tempers3 : (Nat → Int32)} {notes3 : (Nat → Int32)} {past3 : (Nat → Int32)} {keptz : (Nat → Int32)} {wkind : Int32} {wtemper : Int32} {wcounts : Int32} {wday : Int32} {wlisted : Bool} {wfollowed : Bool} {xlength : Nat} {xstart : Nat} {xbehind : Nat} {xsort : Int32} {xnumber : Int32} {xbytes : (Nat → Int32)} {p : Int32} {n : Int32} {what : Int32} (hP7 : people0 ≤ 7) : wl_Met (τ := Int32 × Int32 × Int32 × Int32 × Int32 × Int32 × Int32 × Bool × Bool) l D E yX3_off cX3_off 5 (some .int) ({ frames := 6, cells := 0, slots := 0, locals := 141 } : Room) [.ref (a 0), .int p, .int n, .int what] (wX E a fabove fbelow rbad rno rfull counts0 people0 day0 listed0 followed0 struck0 noted0 undoable0 kinds0 tempers0 notes0 past0 counts1 people1 day1 listed1 followed1 struck1 noted1 undoable1 kinds1 tempers1 notes1 past1 counts2 people2 day2 listed2 followed2 struck2 noted2 undoable2 kinds2 tempers2 notes2 past2 counts3 people3 day3 listed3 followed3 struck3 noted3 undoable3 kinds3 tempers3 notes3 past3 keptz wkind wtemper wcounts wday wlisted wfollowed xlength xstart xbehind xsort xnumber xbytes) (fun z => some (.int z.1)) (fun z => (wX E a fabove fbelow z.2.1 z.2.2.1 rfull counts0 people0 day0 listed0 followed0 struck0 noted0 undoable0 kinds0 tempers0 notes0 past0 counts1 people1 day1 listed1 followed1 struck1 noted1 undoable1 kinds1 tempers1 notes1 past1 counts2 people2 day2 listed2 followed2 struck2 noted2 undoable2 kinds2 tempers2 notes2 past2 counts3 people3 day3 listed3 followed3 struck3 noted3 undoable3 kinds3 tempers3 notes3 past3 keptz z.2.2.2.1 z.2.2.2.2.1 z.2.2.2.2.2.1 z.2.2.2.2.2.2.1 z.2.2.2.2.2.2.2.1 z.2.2.2.2.2.2.2.2 xlength xstart xbehind xsort xnumber xbytes)) (m_X3_off rbad rno counts0 people0 day0 listed0 followed0 kinds0 tempers0 wkind wtemper wcounts wday wlisted wfollowed p n what) := by
  refine wl_enter (own := RX3) (by decide +kernel) rfl (Nat.le_of_ble_eq_true rfl) ?_
  intro p0 e0 s0 m0 bl0 mt0 c0 A hC hr hlk hA H locs hP hD hS ls hl
  have hx := hC.1
  have hb := hC.2.1
  have hl : lv_has ls 5 [(0, .ref (a 0)), (1, .int p), (2, .int n), (3, .int what)] := hl
  have hm := m_X3_off.eq_1 rbad rno counts0 people0 day0 listed0 followed0 kinds0 tempers0 wkind wtemper wcounts wday wlisted wfollowed p n what
  refine lv_aload_n hx hb dX3_off_0 rfl (lv_at hl 0 rfl) ?_
  refine lv_iload_n hx hb dX3_off_1 rfl (lv_at hl 1 rfl) ?_
  refine wl_callVi hC (c_X3_isThere (p := p) ) lk_RX3_86 rfl ⟨rfl, rfl, Nat.le_of_ble_eq_true rfl, Nat.le_of_ble_eq_true rfl⟩ hP hD hS hA 0 rfl (T1 := 11) rfl hl.1 rfl (Nat.le_of_ble_eq_true rfl) dX3_off_2 ⟨Nat.zero_le _, Nat.zero_le _⟩ (fun z1 hz1 H locs hP hD hS => ?_)
  have hm := wl_bz hm hz1
  refine wl_if_eq_b hx hb (tgt := 27) dX3_off_5 (by decide) (fun c2 => ?_) (fun c2 => ?_)
  · have hm := hm.trans (if_neg c2)
    refine lv_aload_n hx hb dX3_off_27 rfl (lv_at hl 0 rfl) ?_
    refine wl_callVi hC (c_X3_refuseBad  ) lk_RX3_52 rfl ⟨rfl, rfl, Nat.le_of_ble_eq_true rfl, Nat.le_of_ble_eq_true rfl⟩ hP hD hS hA 0 rfl (T1 := 11) rfl hl.1 rfl (Nat.le_of_ble_eq_true rfl) dX3_off_28 ⟨Nat.zero_le _, Nat.zero_le _⟩ (fun z3 hz3 H locs hP hD hS => ?_)
    have hm := wl_bz hm hz3
    exact wl_iret hC hr hlk hm rfl hP hD hS dX3_off_31
  · have hm := hm.trans (if_pos c2)
    obtain ⟨ha4, hb4_⟩ := isThere_spec hP7 (hz1.symm.trans c2)
    have hl : lv_has ls 5 [(0, .ref (a 0)), (1, .int (nI (cl p))), (2, .int n), (3, .int what)] := by rw [← ha4]; exact hl
    refine lv_iload_n hx hb dX3_off_8 rfl (lv_at hl 2 rfl) ?_
    refine lv_iconst (v := (nI 1)) hx hb dX3_off_9 (by decide +kernel) ?_
    refine lv_bipush (v := (nI 8)) hx hb dX3_off_10 (by decide +kernel) ?_
    refine wl_callPi hC (c_X3_isWithin (v := n) (least := (nI 1)) (most := (nI 8)) ) lk_RX3_48 rfl ⟨rfl, rfl, Nat.le_of_ble_eq_true rfl, Nat.le_of_ble_eq_true rfl⟩ hP hS hA hl.1 rfl (Nat.le_of_ble_eq_true rfl) dX3_off_12 ⟨Nat.zero_le _, Nat.zero_le _⟩ (fun z5 hz5 H locs hP hS => ?_)
    have hm := wl_bz hm hz5
    refine wl_if_eq_b hx hb (tgt := 27) dX3_off_15 (by decide) (fun c6 => ?_) (fun c6 => ?_)
    · have hm := hm.trans (if_neg c6)
      refine lv_aload_n hx hb dX3_off_27 rfl (lv_at hl 0 rfl) ?_
      refine wl_callVi hC (c_X3_refuseBad  ) lk_RX3_52 rfl ⟨rfl, rfl, Nat.le_of_ble_eq_true rfl, Nat.le_of_ble_eq_true rfl⟩ hP hD hS hA 0 rfl (T1 := 11) rfl hl.1 rfl (Nat.le_of_ble_eq_true rfl) dX3_off_28 ⟨Nat.zero_le _, Nat.zero_le _⟩ (fun z7 hz7 H locs hP hD hS => ?_)
      have hm := wl_bz hm hz7
      exact wl_iret hC hr hlk hm rfl hP hD hS dX3_off_31
    · have hm := hm.trans (if_pos c6)
      obtain ⟨ha8, hb8_, hc8_⟩ := within_spec (a := 1) (b := 8) (by decide) (by decide) (hz5.symm.trans c6)
      have hl : lv_has ls 5 [(0, .ref (a 0)), (1, .int (nI (cl p))), (2, .int (nI (cl n))), (3, .int what)] := by rw [← ha8]; exact hl
      refine lv_iload_n hx hb dX3_off_18 rfl (lv_at hl 3 rfl) ?_
      refine lv_iconst (v := (nI 0)) hx hb dX3_off_19 (by decide +kernel) ?_
      refine lv_iconst (v := (nI 1)) hx hb dX3_off_20 (by decide +kernel) ?_
      refine wl_callPi hC (c_X3_isWithin (v := what) (least := (nI 0)) (most := (nI 1)) ) lk_RX3_48 rfl ⟨rfl, rfl, Nat.le_of_ble_eq_true rfl, Nat.le_of_ble_eq_true rfl⟩ hP hS hA hl.1 rfl (Nat.le_of_ble_eq_true rfl) dX3_off_21 ⟨Nat.zero_le _, Nat.zero_le _⟩ (fun z9 hz9 H locs hP hS => ?_)
      have hm := wl_bz hm hz9
      refine wl_if_ne_b hx hb (tgt := 32) dX3_off_24 (by decide) (fun c10 => ?_) (fun c10 => ?_)
      · have hm := hm.trans (if_pos c10)
        refine lv_aload_n hx hb dX3_off_32 rfl (lv_at hl 0 rfl) ?_
        refine g_X_0_now hC hP mw_202 dX3_off_33 ?_
        refine g_X_1_listed hC hP mw_249 dX3_off_36 ?_
        refine lv_iload_n hx hb dX3_off_39 rfl (lv_at hl 1 rfl) ?_
        refine wl_callPi hC (c_X3_bitOf (bits := listed0) (i := (cl p)) ) lk_RX3_93 rfl ⟨rfl, rfl, Nat.le_of_ble_eq_true rfl, Nat.le_of_ble_eq_true rfl⟩ hP hS hA hl.1 rfl (Nat.le_of_ble_eq_true rfl) dX3_off_40 ⟨Nat.zero_le _, Nat.zero_le _⟩ (fun z11 hz11 H locs hP hS => ?_)
        have hm := wl_bz hm hz11
        refine lv_if_ne hx hb (tgt := 51) dX3_off_43 (by decide) (fun c12 => ?_) (fun c12 => ?_)
        · have hm := hm.trans (if_neg c12)
          refine lv_aload_n hx hb dX3_off_51 rfl (lv_at hl 0 rfl) ?_
          refine lv_iload_n hx hb dX3_off_52 rfl (lv_at hl 1 rfl) ?_
          refine lv_iload_n hx hb dX3_off_53 rfl (lv_at hl 2 rfl) ?_
          refine wl_callVi hC (c_X3_fewestDays (p := (cl p)) (n := (cl n)) (by first | assumption | omega) (by first | assumption | omega)) lk_RX3_154 rfl ⟨rfl, rfl, Nat.le_of_ble_eq_true rfl, Nat.le_of_ble_eq_true rfl⟩ hP hD hS hA 0 rfl (T1 := 11) rfl hl.1 rfl (Nat.le_of_ble_eq_true rfl) dX3_off_54 ⟨Nat.zero_le _, Nat.zero_le _⟩ (fun z13 hz13 H locs hP hD hS => ?_)
          have hm := wl_bz hm hz13
          refine lv_istore (lv' := [(4, .int z13.1), (0, .ref (a 0)), (1, .int (nI (cl p))), (2, .int (nI (cl n))), (3, .int what)]) hx hb dX3_off_57 hl (by decide) rfl (fun ls hl => ?_)
          refine lv_iload_n hx hb dX3_off_59 rfl (lv_at hl 4 rfl) ?_
          refine lv_iconst (v := (nI 1)) hx hb dX3_off_60 (by decide +kernel) ?_
          refine lv_icmp_eq hx hb (tgt := 70) dX3_off_61 (by decide) (fun c14 => ?_) (fun c14 => ?_)
          · have hm := hm.trans (if_pos c14)
            refine lv_iload hx hb dX3_off_70 (lv_at hl 0 rfl) ?_
            refine lv_goto (tgt := 80) hx hb dX3_off_72 (by decide) ?_
            exact wl_iret hC hr hlk hm rfl hP hD hS dX3_off_80
          · have hm := hm.trans (if_neg c14)
            refine lv_iload hx hb dX3_off_64 (lv_at hl 0 rfl) ?_
            refine lv_iconst (v := (-1)) hx hb dX3_off_66 (by decide +kernel) ?_
            refine lv_icmp_ne hx hb (tgt := 75) dX3_off_67 (by decide) (fun c15 => ?_) (fun c15 => ?_)
            · have hm := hm.trans (if_neg c15)
              refine lv_iload hx hb dX3_off_75 (lv_at hl 0 rfl) ?_
              refine wl_callPi hC (c_J6_bitCount_0f7a4 (i := z13.1) ) lk_RX3_149 rfl ⟨rfl, rfl, Nat.le_of_ble_eq_true rfl, Nat.le_of_ble_eq_true rfl⟩ hP hS hA hl.1 rfl (Nat.le_of_ble_eq_true rfl) dX3_off_77 ⟨Nat.zero_le _, Nat.zero_le _⟩ (fun z16 hz16 H locs hP hS => ?_)
              have hm := wl_bz hm hz16
              exact wl_iret hC hr hlk hm rfl hP hD hS dX3_off_80
            · have hm := hm.trans (if_pos c15)
              refine lv_iload hx hb dX3_off_70 (lv_at hl 0 rfl) ?_
              refine lv_goto (tgt := 80) hx hb dX3_off_72 (by decide) ?_
              exact wl_iret hC hr hlk hm rfl hP hD hS dX3_off_80
        · have hm := hm.trans (if_pos c12)
          refine lv_aload_n hx hb dX3_off_46 rfl (lv_at hl 0 rfl) ?_
          refine wl_callVi hC (c_X3_refuseNo  ) lk_RX3_113 rfl ⟨rfl, rfl, Nat.le_of_ble_eq_true rfl, Nat.le_of_ble_eq_true rfl⟩ hP hD hS hA 0 rfl (T1 := 11) rfl hl.1 rfl (Nat.le_of_ble_eq_true rfl) dX3_off_47 ⟨Nat.zero_le _, Nat.zero_le _⟩ (fun z17 hz17 H locs hP hD hS => ?_)
          have hm := wl_bz hm hz17
          exact wl_iret hC hr hlk hm rfl hP hD hS dX3_off_50
      · have hm := hm.trans (if_neg c10)
        refine lv_aload_n hx hb dX3_off_27 rfl (lv_at hl 0 rfl) ?_
        refine wl_callVi hC (c_X3_refuseBad  ) lk_RX3_52 rfl ⟨rfl, rfl, Nat.le_of_ble_eq_true rfl, Nat.le_of_ble_eq_true rfl⟩ hP hD hS hA 0 rfl (T1 := 11) rfl hl.1 rfl (Nat.le_of_ble_eq_true rfl) dX3_off_28 ⟨Nat.zero_le _, Nat.zero_le _⟩ (fun z18 hz18 H locs hP hD hS => ?_)
        have hm := wl_bz hm hz18
        exact wl_iret hC hr hlk hm rfl hP hD hS dX3_off_31
def m_X3_isItIn (counts0 : Int32) (day0 : Int32) (kinds0 : (Nat → Int32)) (tempers0 : (Nat → Int32)) (p : Nat) (pair : Nat) : Bool := (wl_bnd ((if (pair &&& 1) = 0 then true else false) : Bool) (fun z1 => (wl_bnd ((if z1 = true then (wl_bnd (m_X3_isFollowedIn pair) (fun z5 => (wl_bnd (m_X3_actOf (kinds0 p) day0 z5 (tempers0 p)) (fun z6 => z6)))) else (nI 0)) : Int32) (fun z3 => (if z3 < counts0 then false else true)))))
set_option maxHeartbeats 4000000 in
set_option maxRecDepth 100000 in
theorem c_X3_isItIn {l : Launch} {D : va_G} {E : Nat → ClassId} {a : Nat → Nat} {fabove : Int64} {fbelow : Int64} {rbad : Int32} {rno : Int32} {rfull : Int32} {counts0 : Int32} {people0 : Nat} {day0 : Int32} {listed0 : Int32} {followed0 : Int32} {struck0 : Int32} {noted0 : Nat} {undoable0 : Nat} {kinds0 : (Nat → Int32)} {tempers0 : (Nat → Int32)} {notes0 : (Nat → Int32)} {past0 : (Nat → Int32)} {counts1 : Int32} {people1 : Nat} {day1 : Int32} {listed1 : Int32} {followed1 : Int32} {struck1 : Int32} {noted1 : Nat} {undoable1 : Nat} {kinds1 : (Nat → Int32)} {tempers1 : (Nat → Int32)} {notes1 : (Nat → Int32)} {past1 : (Nat → Int32)} {counts2 : Int32} {people2 : Nat} {day2 : Int32} {listed2 : Int32} {followed2 : Int32} {struck2 : Int32} {noted2 : Nat} {undoable2 : Nat} {kinds2 : (Nat → Int32)} {tempers2 : (Nat → Int32)} {notes2 : (Nat → Int32)} {past2 : (Nat → Int32)} {counts3 : Int32} {people3 : Nat} {day3 : Int32} {listed3 : Int32} {followed3 : Int32} {struck3 : Int32} {noted3 : Nat} {undoable3 : Nat} {kinds3 : (Nat → Int32)} {tempers3 : (Nat → Int32)} {notes3 : (Nat → Int32)} {past3 : (Nat → Int32)} {keptz : (Nat → Int32)} {wkind : Int32} {wtemper : Int32} {wcounts : Int32} {wday : Int32} {wlisted : Bool} {wfollowed : Bool} {xlength : Nat} {xstart : Nat} {xbehind : Nat} {xsort : Int32} {xnumber : Int32} {xbytes : (Nat → Int32)} {p : Nat} {pair : Nat} (hp : p < 7) : wl_Met (τ := Bool) l D E yX3_isItIn cX3_isItIn 5 (some .boolean) ({ frames := 2, cells := 0, slots := 0, locals := 50 } : Room) [.ref (a 0), .int (nI p), .int (nI pair)] (wX E a fabove fbelow rbad rno rfull counts0 people0 day0 listed0 followed0 struck0 noted0 undoable0 kinds0 tempers0 notes0 past0 counts1 people1 day1 listed1 followed1 struck1 noted1 undoable1 kinds1 tempers1 notes1 past1 counts2 people2 day2 listed2 followed2 struck2 noted2 undoable2 kinds2 tempers2 notes2 past2 counts3 people3 day3 listed3 followed3 struck3 noted3 undoable3 kinds3 tempers3 notes3 past3 keptz wkind wtemper wcounts wday wlisted wfollowed xlength xstart xbehind xsort xnumber xbytes) (fun z => some (.int (wl_b z))) (fun _ => (wX E a fabove fbelow rbad rno rfull counts0 people0 day0 listed0 followed0 struck0 noted0 undoable0 kinds0 tempers0 notes0 past0 counts1 people1 day1 listed1 followed1 struck1 noted1 undoable1 kinds1 tempers1 notes1 past1 counts2 people2 day2 listed2 followed2 struck2 noted2 undoable2 kinds2 tempers2 notes2 past2 counts3 people3 day3 listed3 followed3 struck3 noted3 undoable3 kinds3 tempers3 notes3 past3 keptz wkind wtemper wcounts wday wlisted wfollowed xlength xstart xbehind xsort xnumber xbytes)) (m_X3_isItIn counts0 day0 kinds0 tempers0 p pair) := by
  refine wl_enter (own := RX3) (by decide +kernel) rfl (Nat.le_of_ble_eq_true rfl) ?_
  intro p0 e0 s0 m0 bl0 mt0 c0 A hC hr hlk hA H locs hP hD hS ls hl
  have hx := hC.1
  have hb := hC.2.1
  have hl : lv_has ls 5 [(0, .ref (a 0)), (1, .int (nI p)), (2, .int (nI pair))] := hl
  have hm := m_X3_isItIn.eq_1 counts0 day0 kinds0 tempers0 p pair
  refine lv_iload_n hx hb dX3_isItIn_0 rfl (lv_at hl 2 rfl) ?_
  refine lv_iconst (v := (nI 1)) hx hb dX3_isItIn_1 (by decide +kernel) ?_
  refine lv_iand hx hb dX3_isItIn_2 ?_
  refine wl_re (show nI pair &&& nI 1 = nI (pair &&& 1) from wl_and pair 1) ?_
  obtain ⟨u1, hj1, hk1⟩ := wl_bx hm
  refine wl_J u1 11 (fun z1 => [.int (wl_b z1)]) 5 (fun z1 => [(0, .ref (a 0)), (1, .int (nI p)), (2, .int (nI pair))]) D A s0.heap (fun z1 => (wX E a fabove fbelow rbad rno rfull counts0 people0 day0 listed0 followed0 struck0 noted0 undoable0 kinds0 tempers0 notes0 past0 counts1 people1 day1 listed1 followed1 struck1 noted1 undoable1 kinds1 tempers1 notes1 past1 counts2 people2 day2 listed2 followed2 struck2 noted2 undoable2 kinds2 tempers2 notes2 past2 counts3 people3 day3 listed3 followed3 struck3 noted3 undoable3 kinds3 tempers3 notes3 past3 keptz wkind wtemper wcounts wday wlisted wfollowed xlength xstart xbehind xsort xnumber xbytes)) (fun z1 hz1 ls H locs hP hD hS hl => ?_) (fun J1 => ?_)
  · have hm := hk1 z1 hz1
    refine lv_istore_n (lv' := [(3, .int (wl_b z1)), (0, .ref (a 0)), (1, .int (nI p)), (2, .int (nI pair))]) hx hb dX3_isItIn_11 rfl hl (by decide) rfl (fun ls hl => ?_)
    refine lv_iload_n hx hb dX3_isItIn_12 rfl (lv_at hl 0 rfl) ?_
    obtain ⟨u3, hj3, hk3⟩ := wl_bx hm
    refine wl_J u3 52 (fun z3 => [.int z3]) 5 (fun z3 => [(0, .ref (a 0))]) D A s0.heap (fun z3 => (wX E a fabove fbelow rbad rno rfull counts0 people0 day0 listed0 followed0 struck0 noted0 undoable0 kinds0 tempers0 notes0 past0 counts1 people1 day1 listed1 followed1 struck1 noted1 undoable1 kinds1 tempers1 notes1 past1 counts2 people2 day2 listed2 followed2 struck2 noted2 undoable2 kinds2 tempers2 notes2 past2 counts3 people3 day3 listed3 followed3 struck3 noted3 undoable3 kinds3 tempers3 notes3 past3 keptz wkind wtemper wcounts wday wlisted wfollowed xlength xstart xbehind xsort xnumber xbytes)) (fun z3 hz3 ls H locs hP hD hS hl => ?_) (fun J3 => ?_)
    · have hm := hk3 z3 hz3
      refine lv_istore (lv' := [(4, .int z3), (0, .ref (a 0))]) hx hb dX3_isItIn_52 hl (by decide) rfl (fun ls hl => ?_)
      refine lv_iload hx hb dX3_isItIn_54 (lv_at hl 0 rfl) ?_
      refine lv_aload_n hx hb dX3_isItIn_56 rfl (lv_at hl 1 rfl) ?_
      refine g_X_0_now hC hP mw_202 dX3_isItIn_57 ?_
      refine g_X_1_counts hC hP mw_317 dX3_isItIn_60 ?_
      refine lv_icmp_lt hx hb (tgt := 70) dX3_isItIn_63 (by decide) (fun c7 => ?_) (fun c7 => ?_)
      · have hm := hm.trans (if_pos c7)
        refine lv_iconst (v := (nI 0)) hx hb dX3_isItIn_70 (by decide +kernel) ?_
        exact wl_zret (v := false) hC hr hlk hm rfl hP hD hS dX3_isItIn_71
      · have hm := hm.trans (if_neg c7)
        refine lv_iconst (v := (nI 1)) hx hb dX3_isItIn_66 (by decide +kernel) ?_
        refine lv_goto (tgt := 71) hx hb dX3_isItIn_67 (by decide) ?_
        exact wl_zret (v := true) hC hr hlk hm rfl hP hD hS dX3_isItIn_71
    · refine wl_if_eq_b hx hb (tgt := 51) dX3_isItIn_13 (by decide) (fun c4 => ?_) (fun c4 => ?_)
      · have hj3 := hj3.trans (if_neg c4)
        refine lv_iconst (v := (nI 0)) hx hb dX3_isItIn_51 (by decide +kernel) ?_
        exact J3 _ hj3 ls H locs hP hD hS (lv_sub hl [1] rfl)
      · have hj3 := hj3.trans (if_pos c4)
        refine lv_aload_n hx hb dX3_isItIn_16 rfl (lv_at hl 1 rfl) ?_
        refine g_X_0_now hC hP mw_202 dX3_isItIn_17 ?_
        refine g_X_1_kinds hC hP mw_281 dX3_isItIn_20 ?_
        refine lv_iload_n hx hb dX3_isItIn_23 rfl (lv_at hl 2 rfl) ?_
        refine ld_X_2 hC hP p (by omega) dX3_isItIn_24 ?_
        refine lv_aload_n hx hb dX3_isItIn_25 rfl (lv_at hl 1 rfl) ?_
        refine g_X_0_now hC hP mw_202 dX3_isItIn_26 ?_
        refine g_X_1_day hC hP mw_268 dX3_isItIn_29 ?_
        refine lv_iload_n hx hb dX3_isItIn_32 rfl (lv_at hl 3 rfl) ?_
        refine wl_callPi hC (c_X3_isFollowedIn (pair := pair) ) lk_RX3_238 rfl ⟨rfl, rfl, Nat.le_of_ble_eq_true rfl, Nat.le_of_ble_eq_true rfl⟩ hP hS hA hl.1 rfl (Nat.le_of_ble_eq_true rfl) dX3_isItIn_33 ⟨Nat.zero_le _, Nat.zero_le _⟩ (fun z5 hz5 H locs hP hS => ?_)
        have hj3 := wl_bz hj3 hz5
        refine lv_aload_n hx hb dX3_isItIn_36 rfl (lv_at hl 1 rfl) ?_
        refine g_X_0_now hC hP mw_202 dX3_isItIn_37 ?_
        refine g_X_1_tempers hC hP mw_282 dX3_isItIn_40 ?_
        refine lv_iload_n hx hb dX3_isItIn_43 rfl (lv_at hl 2 rfl) ?_
        refine ld_X_3 hC hP p (by omega) dX3_isItIn_44 ?_
        refine wl_callPi hC (c_X3_actOf (kind := (kinds0 p)) (day := day0) (followed := z5) (temper := (tempers0 p)) ) lk_RX3_241 rfl ⟨rfl, rfl, Nat.le_of_ble_eq_true rfl, Nat.le_of_ble_eq_true rfl⟩ hP hS hA hl.1 rfl (Nat.le_of_ble_eq_true rfl) dX3_isItIn_45 ⟨Nat.zero_le _, Nat.zero_le _⟩ (fun z6 hz6 H locs hP hS => ?_)
        have hj3 := wl_bz hj3 hz6
        refine lv_goto (tgt := 52) hx hb dX3_isItIn_48 (by decide) ?_
        exact J3 _ hj3 ls H locs hP hD hS (lv_sub hl [1] rfl)
  · refine wl_if_ne_n hx hb (by first | omega | exact Nat.lt_of_le_of_lt Nat.and_le_right (by omega) | exact Nat.pow_lt_pow_right (by omega) (by omega) | exact Nat.lt_trans (by assumption) (Nat.pow_lt_pow_right (by omega) (by omega))) (tgt := 10) dX3_isItIn_3 (by decide) (fun c2 => ?_) (fun c2 => ?_)
    · have hj1 := hj1.trans (if_neg c2)
      refine lv_iconst (v := (nI 0)) hx hb dX3_isItIn_10 (by decide +kernel) ?_
      exact J1 _ hj1 ls H locs hP hD hS (lv_sub hl [0, 1, 2] rfl)
    · have hj1 := hj1.trans (if_pos c2)
      refine lv_iconst (v := (nI 1)) hx hb dX3_isItIn_6 (by decide +kernel) ?_
      refine lv_goto (tgt := 11) hx hb dX3_isItIn_7 (by decide) ?_
      exact J1 _ hj1 ls H locs hP hD hS (lv_sub hl [0, 1, 2] rfl)
def m_X3_paysOne (counts0 : Int32) (day0 : Int32) (kinds0 : (Nat → Int32)) (tempers0 : (Nat → Int32)) (p : Nat) (pair : Nat) : Int32 := (wl_bnd (m_X3_isFollowedIn pair) (fun z1 => (if z1 = true then (wl_bnd (m_X3_isItIn counts0 day0 kinds0 tempers0 p pair) (fun z3 => (if z3 = true then (nI 2) else (nI 0)))) else (nI 1))))
set_option maxHeartbeats 4000000 in
set_option maxRecDepth 100000 in
theorem c_X3_paysOne {l : Launch} {D : va_G} {E : Nat → ClassId} {a : Nat → Nat} {fabove : Int64} {fbelow : Int64} {rbad : Int32} {rno : Int32} {rfull : Int32} {counts0 : Int32} {people0 : Nat} {day0 : Int32} {listed0 : Int32} {followed0 : Int32} {struck0 : Int32} {noted0 : Nat} {undoable0 : Nat} {kinds0 : (Nat → Int32)} {tempers0 : (Nat → Int32)} {notes0 : (Nat → Int32)} {past0 : (Nat → Int32)} {counts1 : Int32} {people1 : Nat} {day1 : Int32} {listed1 : Int32} {followed1 : Int32} {struck1 : Int32} {noted1 : Nat} {undoable1 : Nat} {kinds1 : (Nat → Int32)} {tempers1 : (Nat → Int32)} {notes1 : (Nat → Int32)} {past1 : (Nat → Int32)} {counts2 : Int32} {people2 : Nat} {day2 : Int32} {listed2 : Int32} {followed2 : Int32} {struck2 : Int32} {noted2 : Nat} {undoable2 : Nat} {kinds2 : (Nat → Int32)} {tempers2 : (Nat → Int32)} {notes2 : (Nat → Int32)} {past2 : (Nat → Int32)} {counts3 : Int32} {people3 : Nat} {day3 : Int32} {listed3 : Int32} {followed3 : Int32} {struck3 : Int32} {noted3 : Nat} {undoable3 : Nat} {kinds3 : (Nat → Int32)} {tempers3 : (Nat → Int32)} {notes3 : (Nat → Int32)} {past3 : (Nat → Int32)} {keptz : (Nat → Int32)} {wkind : Int32} {wtemper : Int32} {wcounts : Int32} {wday : Int32} {wlisted : Bool} {wfollowed : Bool} {xlength : Nat} {xstart : Nat} {xbehind : Nat} {xsort : Int32} {xnumber : Int32} {xbytes : (Nat → Int32)} {p : Nat} {pair : Nat} (hp : p < 7) : wl_Met (τ := Int32) l D E yX3_paysOne cX3_paysOne 3 (some .int) ({ frames := 3, cells := 0, slots := 0, locals := 74 } : Room) [.ref (a 0), .int (nI p), .int (nI pair)] (wX E a fabove fbelow rbad rno rfull counts0 people0 day0 listed0 followed0 struck0 noted0 undoable0 kinds0 tempers0 notes0 past0 counts1 people1 day1 listed1 followed1 struck1 noted1 undoable1 kinds1 tempers1 notes1 past1 counts2 people2 day2 listed2 followed2 struck2 noted2 undoable2 kinds2 tempers2 notes2 past2 counts3 people3 day3 listed3 followed3 struck3 noted3 undoable3 kinds3 tempers3 notes3 past3 keptz wkind wtemper wcounts wday wlisted wfollowed xlength xstart xbehind xsort xnumber xbytes) (fun z => some (.int z)) (fun _ => (wX E a fabove fbelow rbad rno rfull counts0 people0 day0 listed0 followed0 struck0 noted0 undoable0 kinds0 tempers0 notes0 past0 counts1 people1 day1 listed1 followed1 struck1 noted1 undoable1 kinds1 tempers1 notes1 past1 counts2 people2 day2 listed2 followed2 struck2 noted2 undoable2 kinds2 tempers2 notes2 past2 counts3 people3 day3 listed3 followed3 struck3 noted3 undoable3 kinds3 tempers3 notes3 past3 keptz wkind wtemper wcounts wday wlisted wfollowed xlength xstart xbehind xsort xnumber xbytes)) (m_X3_paysOne counts0 day0 kinds0 tempers0 p pair) := by
  refine wl_enter (own := RX3) (by decide +kernel) rfl (Nat.le_of_ble_eq_true rfl) ?_
  intro p0 e0 s0 m0 bl0 mt0 c0 A hC hr hlk hA H locs hP hD hS ls hl
  have hx := hC.1
  have hb := hC.2.1
  have hl : lv_has ls 3 [(0, .ref (a 0)), (1, .int (nI p)), (2, .int (nI pair))] := hl
  have hm := m_X3_paysOne.eq_1 counts0 day0 kinds0 tempers0 p pair
  refine lv_iload_n hx hb dX3_paysOne_0 rfl (lv_at hl 2 rfl) ?_
  refine wl_callPi hC (c_X3_isFollowedIn (pair := pair) ) lk_RX3_238 rfl ⟨rfl, rfl, Nat.le_of_ble_eq_true rfl, Nat.le_of_ble_eq_true rfl⟩ hP hS hA hl.1 rfl (Nat.le_of_ble_eq_true rfl) dX3_paysOne_1 ⟨Nat.zero_le _, Nat.zero_le _⟩ (fun z1 hz1 H locs hP hS => ?_)
  have hm := wl_bz hm hz1
  refine wl_if_ne_b hx hb (tgt := 9) dX3_paysOne_4 (by decide) (fun c2 => ?_) (fun c2 => ?_)
  · have hm := hm.trans (if_pos c2)
    refine lv_aload_n hx hb dX3_paysOne_9 rfl (lv_at hl 0 rfl) ?_
    refine lv_iload_n hx hb dX3_paysOne_10 rfl (lv_at hl 1 rfl) ?_
    refine lv_iload_n hx hb dX3_paysOne_11 rfl (lv_at hl 2 rfl) ?_
    refine wl_callVi hC (c_X3_isItIn (p := p) (pair := pair) (by first | assumption | omega)) lk_RX3_244 rfl ⟨rfl, rfl, Nat.le_of_ble_eq_true rfl, Nat.le_of_ble_eq_true rfl⟩ hP hD hS hA 0 rfl (T1 := 11) rfl hl.1 rfl (Nat.le_of_ble_eq_true rfl) dX3_paysOne_12 ⟨Nat.zero_le _, Nat.zero_le _⟩ (fun z3 hz3 H locs hP hD hS => ?_)
    have hm := wl_bz hm hz3
    refine wl_if_eq_b hx hb (tgt := 22) dX3_paysOne_15 (by decide) (fun c4 => ?_) (fun c4 => ?_)
    · have hm := hm.trans (if_neg c4)
      refine lv_iconst (v := (nI 0)) hx hb dX3_paysOne_22 (by decide +kernel) ?_
      exact wl_iret hC hr hlk hm rfl hP hD hS dX3_paysOne_23
    · have hm := hm.trans (if_pos c4)
      refine lv_iconst (v := (nI 2)) hx hb dX3_paysOne_18 (by decide +kernel) ?_
      refine lv_goto (tgt := 23) hx hb dX3_paysOne_19 (by decide) ?_
      exact wl_iret hC hr hlk hm rfl hP hD hS dX3_paysOne_23
  · have hm := hm.trans (if_neg c2)
    refine lv_iconst (v := (nI 1)) hx hb dX3_paysOne_7 (by decide +kernel) ?_
    exact wl_iret hC hr hlk hm rfl hP hD hS dX3_paysOne_8
def m_X3_paysFollower (counts0 : Int32) (day0 : Int32) (kinds0 : (Nat → Int32)) (tempers0 : (Nat → Int32)) (p : Nat) (pair : Nat) : Int32 := (wl_bnd (m_X3_isFollowedIn pair) (fun z1 => (if z1 = true then (nI 0) else (wl_bnd (m_X3_isItIn counts0 day0 kinds0 tempers0 p pair) (fun z3 => (if z3 = true then (-1) else (nI 1)))))))
set_option maxHeartbeats 4000000 in
set_option maxRecDepth 100000 in
theorem c_X3_paysFollower {l : Launch} {D : va_G} {E : Nat → ClassId} {a : Nat → Nat} {fabove : Int64} {fbelow : Int64} {rbad : Int32} {rno : Int32} {rfull : Int32} {counts0 : Int32} {people0 : Nat} {day0 : Int32} {listed0 : Int32} {followed0 : Int32} {struck0 : Int32} {noted0 : Nat} {undoable0 : Nat} {kinds0 : (Nat → Int32)} {tempers0 : (Nat → Int32)} {notes0 : (Nat → Int32)} {past0 : (Nat → Int32)} {counts1 : Int32} {people1 : Nat} {day1 : Int32} {listed1 : Int32} {followed1 : Int32} {struck1 : Int32} {noted1 : Nat} {undoable1 : Nat} {kinds1 : (Nat → Int32)} {tempers1 : (Nat → Int32)} {notes1 : (Nat → Int32)} {past1 : (Nat → Int32)} {counts2 : Int32} {people2 : Nat} {day2 : Int32} {listed2 : Int32} {followed2 : Int32} {struck2 : Int32} {noted2 : Nat} {undoable2 : Nat} {kinds2 : (Nat → Int32)} {tempers2 : (Nat → Int32)} {notes2 : (Nat → Int32)} {past2 : (Nat → Int32)} {counts3 : Int32} {people3 : Nat} {day3 : Int32} {listed3 : Int32} {followed3 : Int32} {struck3 : Int32} {noted3 : Nat} {undoable3 : Nat} {kinds3 : (Nat → Int32)} {tempers3 : (Nat → Int32)} {notes3 : (Nat → Int32)} {past3 : (Nat → Int32)} {keptz : (Nat → Int32)} {wkind : Int32} {wtemper : Int32} {wcounts : Int32} {wday : Int32} {wlisted : Bool} {wfollowed : Bool} {xlength : Nat} {xstart : Nat} {xbehind : Nat} {xsort : Int32} {xnumber : Int32} {xbytes : (Nat → Int32)} {p : Nat} {pair : Nat} (hp : p < 7) : wl_Met (τ := Int32) l D E yX3_paysFollower cX3_paysFollower 3 (some .int) ({ frames := 3, cells := 0, slots := 0, locals := 74 } : Room) [.ref (a 0), .int (nI p), .int (nI pair)] (wX E a fabove fbelow rbad rno rfull counts0 people0 day0 listed0 followed0 struck0 noted0 undoable0 kinds0 tempers0 notes0 past0 counts1 people1 day1 listed1 followed1 struck1 noted1 undoable1 kinds1 tempers1 notes1 past1 counts2 people2 day2 listed2 followed2 struck2 noted2 undoable2 kinds2 tempers2 notes2 past2 counts3 people3 day3 listed3 followed3 struck3 noted3 undoable3 kinds3 tempers3 notes3 past3 keptz wkind wtemper wcounts wday wlisted wfollowed xlength xstart xbehind xsort xnumber xbytes) (fun z => some (.int z)) (fun _ => (wX E a fabove fbelow rbad rno rfull counts0 people0 day0 listed0 followed0 struck0 noted0 undoable0 kinds0 tempers0 notes0 past0 counts1 people1 day1 listed1 followed1 struck1 noted1 undoable1 kinds1 tempers1 notes1 past1 counts2 people2 day2 listed2 followed2 struck2 noted2 undoable2 kinds2 tempers2 notes2 past2 counts3 people3 day3 listed3 followed3 struck3 noted3 undoable3 kinds3 tempers3 notes3 past3 keptz wkind wtemper wcounts wday wlisted wfollowed xlength xstart xbehind xsort xnumber xbytes)) (m_X3_paysFollower counts0 day0 kinds0 tempers0 p pair) := by
  refine wl_enter (own := RX3) (by decide +kernel) rfl (Nat.le_of_ble_eq_true rfl) ?_
  intro p0 e0 s0 m0 bl0 mt0 c0 A hC hr hlk hA H locs hP hD hS ls hl
  have hx := hC.1
  have hb := hC.2.1
  have hl : lv_has ls 3 [(0, .ref (a 0)), (1, .int (nI p)), (2, .int (nI pair))] := hl
  have hm := m_X3_paysFollower.eq_1 counts0 day0 kinds0 tempers0 p pair
  refine lv_iload_n hx hb dX3_paysFollower_0 rfl (lv_at hl 2 rfl) ?_
  refine wl_callPi hC (c_X3_isFollowedIn (pair := pair) ) lk_RX3_238 rfl ⟨rfl, rfl, Nat.le_of_ble_eq_true rfl, Nat.le_of_ble_eq_true rfl⟩ hP hS hA hl.1 rfl (Nat.le_of_ble_eq_true rfl) dX3_paysFollower_1 ⟨Nat.zero_le _, Nat.zero_le _⟩ (fun z1 hz1 H locs hP hS => ?_)
  have hm := wl_bz hm hz1
  refine wl_if_eq_b hx hb (tgt := 9) dX3_paysFollower_4 (by decide) (fun c2 => ?_) (fun c2 => ?_)
  · have hm := hm.trans (if_neg c2)
    refine lv_aload_n hx hb dX3_paysFollower_9 rfl (lv_at hl 0 rfl) ?_
    refine lv_iload_n hx hb dX3_paysFollower_10 rfl (lv_at hl 1 rfl) ?_
    refine lv_iload_n hx hb dX3_paysFollower_11 rfl (lv_at hl 2 rfl) ?_
    refine wl_callVi hC (c_X3_isItIn (p := p) (pair := pair) (by first | assumption | omega)) lk_RX3_244 rfl ⟨rfl, rfl, Nat.le_of_ble_eq_true rfl, Nat.le_of_ble_eq_true rfl⟩ hP hD hS hA 0 rfl (T1 := 11) rfl hl.1 rfl (Nat.le_of_ble_eq_true rfl) dX3_paysFollower_12 ⟨Nat.zero_le _, Nat.zero_le _⟩ (fun z3 hz3 H locs hP hD hS => ?_)
    have hm := wl_bz hm hz3
    refine wl_if_eq_b hx hb (tgt := 22) dX3_paysFollower_15 (by decide) (fun c4 => ?_) (fun c4 => ?_)
    · have hm := hm.trans (if_neg c4)
      refine lv_iconst (v := (nI 1)) hx hb dX3_paysFollower_22 (by decide +kernel) ?_
      exact wl_iret hC hr hlk hm rfl hP hD hS dX3_paysFollower_23
    · have hm := hm.trans (if_pos c4)
      refine lv_iconst (v := (-1)) hx hb dX3_paysFollower_18 (by decide +kernel) ?_
      refine lv_goto (tgt := 23) hx hb dX3_paysFollower_19 (by decide) ?_
      exact wl_iret hC hr hlk hm rfl hP hD hS dX3_paysFollower_23
  · have hm := hm.trans (if_pos c2)
    refine lv_iconst (v := (nI 0)) hx hb dX3_paysFollower_7 (by decide +kernel) ?_
    exact wl_iret hC hr hlk hm rfl hP hD hS dX3_paysFollower_8
def m_X3_rests_l17 (counts0 : Int32) (day0 : Int32) (kinds0 : (Nat → Int32)) (tempers0 : (Nat → Int32)) (p : Int32) (k4 : Nat) (v4 : Int32) : Int32 := (wl_bnd (m_X3_paysOne counts0 day0 kinds0 tempers0 (cl p) (k4 ^^^ 1)) (fun z6 => (wl_bnd (m_X3_paysOne counts0 day0 kinds0 tempers0 (cl p) k4) (fun z7 => (wl_bnd ((if z7 < z6 then false else true) : Bool) (fun z8 => (wl_bnd (m_X3_paysFollower counts0 day0 kinds0 tempers0 (cl p) (k4 ^^^ 2)) (fun z10 => (wl_bnd (m_X3_paysFollower counts0 day0 kinds0 tempers0 (cl p) k4) (fun z11 => (wl_bnd ((if z11 < z10 then false else true) : Bool) (fun z12 => (wl_bnd ((if z8 = true then (if z12 = true then true else false) else false) : Bool) (fun z14 => (wl_bnd (m_X3_withBit v4 k4 (wl_b z14)) (fun z17 => z17))))))))))))))))
def m_X3_rests (rbad : Int32) (counts0 : Int32) (people0 : Nat) (day0 : Int32) (kinds0 : (Nat → Int32)) (tempers0 : (Nat → Int32)) (p : Int32) : Int32 × Int32 := (wl_bnd (m_X3_isThere people0 p) (fun z1 => (if z1 = true then (wl_bnd (wl_iter (m_X3_rests_l17 counts0 day0 kinds0 tempers0 p) 4 0 (nI 0)) (fun z4 => (z4, rbad))) else (wl_bnd (m_X3_refuseBad rbad) (fun z19 => (z19.1, z19.2))))))
set_option maxHeartbeats 4000000 in
set_option maxRecDepth 100000 in
theorem c_X3_rests {l : Launch} {D : va_G} {E : Nat → ClassId} {a : Nat → Nat} {fabove : Int64} {fbelow : Int64} {rbad : Int32} {rno : Int32} {rfull : Int32} {counts0 : Int32} {people0 : Nat} {day0 : Int32} {listed0 : Int32} {followed0 : Int32} {struck0 : Int32} {noted0 : Nat} {undoable0 : Nat} {kinds0 : (Nat → Int32)} {tempers0 : (Nat → Int32)} {notes0 : (Nat → Int32)} {past0 : (Nat → Int32)} {counts1 : Int32} {people1 : Nat} {day1 : Int32} {listed1 : Int32} {followed1 : Int32} {struck1 : Int32} {noted1 : Nat} {undoable1 : Nat} {kinds1 : (Nat → Int32)} {tempers1 : (Nat → Int32)} {notes1 : (Nat → Int32)} {past1 : (Nat → Int32)} {counts2 : Int32} {people2 : Nat} {day2 : Int32} {listed2 : Int32} {followed2 : Int32} {struck2 : Int32} {noted2 : Nat} {undoable2 : Nat} {kinds2 : (Nat → Int32)} {tempers2 : (Nat → Int32)} {notes2 : (Nat → Int32)} {past2 : (Nat → Int32)} {counts3 : Int32} {people3 : Nat} {day3 : Int32} {listed3 : Int32} {followed3 : Int32} {struck3 : Int32} {noted3 : Nat} {undoable3 : Nat} {kinds3 : (Nat → Int32)} {tempers3 : (Nat → Int32)} {notes3 : (Nat → Int32)} {past3 : (Nat → Int32)} {keptz : (Nat → Int32)} {wkind : Int32} {wtemper : Int32} {wcounts : Int32} {wday : Int32} {wlisted : Bool} {wfollowed : Bool} {xlength : Nat} {xstart : Nat} {xbehind : Nat} {xsort : Int32} {xnumber : Int32} {xbytes : (Nat → Int32)} {p : Int32} (hP7 : people0 ≤ 7) : wl_Met (τ := Int32 × Int32) l D E yX3_rests cX3_rests 6 (some .int) ({ frames := 4, cells := 0, slots := 0, locals := 96 } : Room) [.ref (a 0), .int p] (wX E a fabove fbelow rbad rno rfull counts0 people0 day0 listed0 followed0 struck0 noted0 undoable0 kinds0 tempers0 notes0 past0 counts1 people1 day1 listed1 followed1 struck1 noted1 undoable1 kinds1 tempers1 notes1 past1 counts2 people2 day2 listed2 followed2 struck2 noted2 undoable2 kinds2 tempers2 notes2 past2 counts3 people3 day3 listed3 followed3 struck3 noted3 undoable3 kinds3 tempers3 notes3 past3 keptz wkind wtemper wcounts wday wlisted wfollowed xlength xstart xbehind xsort xnumber xbytes) (fun z => some (.int z.1)) (fun z => (wX E a fabove fbelow z.2 rno rfull counts0 people0 day0 listed0 followed0 struck0 noted0 undoable0 kinds0 tempers0 notes0 past0 counts1 people1 day1 listed1 followed1 struck1 noted1 undoable1 kinds1 tempers1 notes1 past1 counts2 people2 day2 listed2 followed2 struck2 noted2 undoable2 kinds2 tempers2 notes2 past2 counts3 people3 day3 listed3 followed3 struck3 noted3 undoable3 kinds3 tempers3 notes3 past3 keptz wkind wtemper wcounts wday wlisted wfollowed xlength xstart xbehind xsort xnumber xbytes)) (m_X3_rests rbad counts0 people0 day0 kinds0 tempers0 p) := by
  refine wl_enter (own := RX3) (by decide +kernel) rfl (Nat.le_of_ble_eq_true rfl) ?_
  intro p0 e0 s0 m0 bl0 mt0 c0 A hC hr hlk hA H locs hP hD hS ls hl
  have hx := hC.1
  have hb := hC.2.1
  have hl : lv_has ls 6 [(0, .ref (a 0)), (1, .int p)] := hl
  have hm := m_X3_rests.eq_1 rbad counts0 people0 day0 kinds0 tempers0 p
  refine lv_aload_n hx hb dX3_rests_0 rfl (lv_at hl 0 rfl) ?_
  refine lv_iload_n hx hb dX3_rests_1 rfl (lv_at hl 1 rfl) ?_
  refine wl_callVi hC (c_X3_isThere (p := p) ) lk_RX3_86 rfl ⟨rfl, rfl, Nat.le_of_ble_eq_true rfl, Nat.le_of_ble_eq_true rfl⟩ hP hD hS hA 0 rfl (T1 := 11) rfl hl.1 rfl (Nat.le_of_ble_eq_true rfl) dX3_rests_2 ⟨Nat.zero_le _, Nat.zero_le _⟩ (fun z1 hz1 H locs hP hD hS => ?_)
  have hm := wl_bz hm hz1
  refine wl_if_ne_b hx hb (tgt := 13) dX3_rests_5 (by decide) (fun c2 => ?_) (fun c2 => ?_)
  · have hm := hm.trans (if_pos c2)
    obtain ⟨ha3, hb3_⟩ := isThere_spec hP7 (hz1.symm.trans c2)
    have hl : lv_has ls 6 [(0, .ref (a 0)), (1, .int (nI (cl p)))] := by rw [← ha3]; exact hl
    refine lv_iconst (v := (nI 0)) hx hb dX3_rests_13 (by decide +kernel) ?_
    refine lv_istore_n (lv' := [(2, .int (nI 0)), (0, .ref (a 0)), (1, .int (nI (cl p)))]) hx hb dX3_rests_14 rfl hl (by decide) rfl (fun ls hl => ?_)
    refine lv_iconst (v := (nI 0)) hx hb dX3_rests_15 (by decide +kernel) ?_
    refine lv_istore_n (lv' := [(3, .int (nI 0)), (2, .int (nI 0)), (0, .ref (a 0)), (1, .int (nI (cl p)))]) hx hb dX3_rests_16 rfl hl (by decide) rfl (fun ls hl => ?_)
    obtain ⟨u4, hu4, hk4⟩ := wl_bx hm
    refine wl_for (D := D) (A := A) (H0 := s0.heap) (m_X3_rests_l17 counts0 day0 kinds0 tempers0 p) 4 0 4 (nI 0) 17 6 (fun k4 v4 => [(0, .ref (a 0)), (1, .int (nI (cl p))), (2, .int v4), (3, .int (nI k4))]) (fun k4 v4 => (wX E a fabove fbelow rbad rno rfull counts0 people0 day0 listed0 followed0 struck0 noted0 undoable0 kinds0 tempers0 notes0 past0 counts1 people1 day1 listed1 followed1 struck1 noted1 undoable1 kinds1 tempers1 notes1 past1 counts2 people2 day2 listed2 followed2 struck2 noted2 undoable2 kinds2 tempers2 notes2 past2 counts3 people3 day3 listed3 followed3 struck3 noted3 undoable3 kinds3 tempers3 notes3 past3 keptz wkind wtemper wcounts wday wlisted wfollowed xlength xstart xbehind xsort xnumber xbytes)) (fun k4 v4 => True) (by omega) trivial ?_ ?_ hP hD hS (lv_sub hl [2, 3, 1, 0] rfl)
    · intro z4 hv4 hI4 ls H locs hP hD hS hl
      have hm := hk4 z4 (hu4.trans hv4)
      refine lv_iload_n hx hb dX3_rests_17 rfl (lv_at hl 3 rfl) ?_
      refine lv_iconst (v := (nI 4)) hx hb dX3_rests_18 (by decide +kernel) ?_
      refine wl_icmp_ge_n hx hb (by first | omega | exact Nat.lt_of_le_of_lt Nat.and_le_right (by omega) | exact Nat.pow_lt_pow_right (by omega) (by omega) | exact Nat.lt_trans (by assumption) (Nat.pow_lt_pow_right (by omega) (by omega))) (by first | omega | exact Nat.lt_of_le_of_lt Nat.and_le_right (by omega) | exact Nat.pow_lt_pow_right (by omega) (by omega) | exact Nat.lt_trans (by assumption) (Nat.pow_lt_pow_right (by omega) (by omega))) (tgt := 97) dX3_rests_19 (by decide) (fun c18 => ?_) (fun c18 => absurd (by omega) c18)
      refine lv_iload_n hx hb dX3_rests_97 rfl (lv_at hl 2 rfl) ?_
      exact wl_iret hC hr hlk hm rfl hP hD hS dX3_rests_98
    · intro k4 v4 hlo4 hhi4 hI4 IH4 ls H locs hP hD hS hl
      have hb4 := m_X3_rests_l17.eq_1 counts0 day0 kinds0 tempers0 p k4 v4
      refine lv_iload_n hx hb dX3_rests_17 rfl (lv_at hl 3 rfl) ?_
      refine lv_iconst (v := (nI 4)) hx hb dX3_rests_18 (by decide +kernel) ?_
      refine wl_icmp_ge_n hx hb (by first | omega | exact Nat.lt_of_le_of_lt Nat.and_le_right (by omega) | exact Nat.pow_lt_pow_right (by omega) (by omega) | exact Nat.lt_trans (by assumption) (Nat.pow_lt_pow_right (by omega) (by omega))) (by first | omega | exact Nat.lt_of_le_of_lt Nat.and_le_right (by omega) | exact Nat.pow_lt_pow_right (by omega) (by omega) | exact Nat.lt_trans (by assumption) (Nat.pow_lt_pow_right (by omega) (by omega))) (tgt := 97) dX3_rests_19 (by decide) (fun c5 => absurd c5 (by omega)) (fun c5 => ?_)
      refine lv_aload_n hx hb dX3_rests_22 rfl (lv_at hl 0 rfl) ?_
      refine lv_iload_n hx hb dX3_rests_23 rfl (lv_at hl 1 rfl) ?_
      refine lv_iload_n hx hb dX3_rests_24 rfl (lv_at hl 3 rfl) ?_
      refine lv_iconst (v := (nI 1)) hx hb dX3_rests_25 (by decide +kernel) ?_
      refine lv_ixor hx hb dX3_rests_26 ?_
      refine wl_re (show nI k4 ^^^ nI 1 = nI (k4 ^^^ 1) from wl_xor k4 1) ?_
      refine wl_callVi hC (c_X3_paysOne (p := (cl p)) (pair := (k4 ^^^ 1)) (by first | assumption | omega)) lk_RX3_157 rfl ⟨rfl, rfl, Nat.le_of_ble_eq_true rfl, Nat.le_of_ble_eq_true rfl⟩ hP hD hS hA 0 rfl (T1 := 11) rfl hl.1 rfl (Nat.le_of_ble_eq_true rfl) dX3_rests_27 ⟨Nat.zero_le _, Nat.zero_le _⟩ (fun z6 hz6 H locs hP hD hS => ?_)
      have hb4 := wl_bz hb4 hz6
      refine lv_aload_n hx hb dX3_rests_30 rfl (lv_at hl 0 rfl) ?_
      refine lv_iload_n hx hb dX3_rests_31 rfl (lv_at hl 1 rfl) ?_
      refine lv_iload_n hx hb dX3_rests_32 rfl (lv_at hl 3 rfl) ?_
      refine wl_callVi hC (c_X3_paysOne (p := (cl p)) (pair := k4) (by first | assumption | omega)) lk_RX3_157 rfl ⟨rfl, rfl, Nat.le_of_ble_eq_true rfl, Nat.le_of_ble_eq_true rfl⟩ hP hD hS hA 0 rfl (T1 := 11) rfl hl.1 rfl (Nat.le_of_ble_eq_true rfl) dX3_rests_33 ⟨Nat.zero_le _, Nat.zero_le _⟩ (fun z7 hz7 H locs hP hD hS => ?_)
      have hb4 := wl_bz hb4 hz7
      obtain ⟨u8, hj8, hk8⟩ := wl_bx hb4
      refine wl_J u8 44 (fun z8 => [.int (wl_b z8)]) 6 (fun z8 => [(0, .ref (a 0)), (1, .int (nI (cl p))), (2, .int v4), (3, .int (nI k4))]) D A s0.heap (fun z8 => (wX E a fabove fbelow rbad rno rfull counts0 people0 day0 listed0 followed0 struck0 noted0 undoable0 kinds0 tempers0 notes0 past0 counts1 people1 day1 listed1 followed1 struck1 noted1 undoable1 kinds1 tempers1 notes1 past1 counts2 people2 day2 listed2 followed2 struck2 noted2 undoable2 kinds2 tempers2 notes2 past2 counts3 people3 day3 listed3 followed3 struck3 noted3 undoable3 kinds3 tempers3 notes3 past3 keptz wkind wtemper wcounts wday wlisted wfollowed xlength xstart xbehind xsort xnumber xbytes)) (fun z8 hz8 ls H locs hP hD hS hl => ?_) (fun J8 => ?_)
      · have hb4 := hk8 z8 hz8
        refine lv_istore (lv' := [(4, .int (wl_b z8)), (0, .ref (a 0)), (1, .int (nI (cl p))), (2, .int v4), (3, .int (nI k4))]) hx hb dX3_rests_44 hl (by decide) rfl (fun ls hl => ?_)
        refine lv_aload_n hx hb dX3_rests_46 rfl (lv_at hl 1 rfl) ?_
        refine lv_iload_n hx hb dX3_rests_47 rfl (lv_at hl 2 rfl) ?_
        refine lv_iload_n hx hb dX3_rests_48 rfl (lv_at hl 4 rfl) ?_
        refine lv_iconst (v := (nI 2)) hx hb dX3_rests_49 (by decide +kernel) ?_
        refine lv_ixor hx hb dX3_rests_50 ?_
        refine wl_re (show nI k4 ^^^ nI 2 = nI (k4 ^^^ 2) from wl_xor k4 2) ?_
        refine wl_callVi hC (c_X3_paysFollower (p := (cl p)) (pair := (k4 ^^^ 2)) (by first | assumption | omega)) lk_RX3_160 rfl ⟨rfl, rfl, Nat.le_of_ble_eq_true rfl, Nat.le_of_ble_eq_true rfl⟩ hP hD hS hA 0 rfl (T1 := 11) rfl hl.1 rfl (Nat.le_of_ble_eq_true rfl) dX3_rests_51 ⟨Nat.zero_le _, Nat.zero_le _⟩ (fun z10 hz10 H locs hP hD hS => ?_)
        have hb4 := wl_bz hb4 hz10
        refine lv_aload_n hx hb dX3_rests_54 rfl (lv_at hl 1 rfl) ?_
        refine lv_iload_n hx hb dX3_rests_55 rfl (lv_at hl 2 rfl) ?_
        refine lv_iload_n hx hb dX3_rests_56 rfl (lv_at hl 4 rfl) ?_
        refine wl_callVi hC (c_X3_paysFollower (p := (cl p)) (pair := k4) (by first | assumption | omega)) lk_RX3_160 rfl ⟨rfl, rfl, Nat.le_of_ble_eq_true rfl, Nat.le_of_ble_eq_true rfl⟩ hP hD hS hA 0 rfl (T1 := 11) rfl hl.1 rfl (Nat.le_of_ble_eq_true rfl) dX3_rests_57 ⟨Nat.zero_le _, Nat.zero_le _⟩ (fun z11 hz11 H locs hP hD hS => ?_)
        have hb4 := wl_bz hb4 hz11
        obtain ⟨u12, hj12, hk12⟩ := wl_bx hb4
        refine wl_J u12 68 (fun z12 => [.int (wl_b z12)]) 6 (fun z12 => [(4, .int (wl_b z8)), (0, .ref (a 0)), (1, .int (nI (cl p))), (2, .int v4), (3, .int (nI k4))]) D A s0.heap (fun z12 => (wX E a fabove fbelow rbad rno rfull counts0 people0 day0 listed0 followed0 struck0 noted0 undoable0 kinds0 tempers0 notes0 past0 counts1 people1 day1 listed1 followed1 struck1 noted1 undoable1 kinds1 tempers1 notes1 past1 counts2 people2 day2 listed2 followed2 struck2 noted2 undoable2 kinds2 tempers2 notes2 past2 counts3 people3 day3 listed3 followed3 struck3 noted3 undoable3 kinds3 tempers3 notes3 past3 keptz wkind wtemper wcounts wday wlisted wfollowed xlength xstart xbehind xsort xnumber xbytes)) (fun z12 hz12 ls H locs hP hD hS hl => ?_) (fun J12 => ?_)
        · have hb4 := hk12 z12 hz12
          refine lv_istore (lv' := [(5, .int (wl_b z12)), (4, .int (wl_b z8)), (0, .ref (a 0)), (1, .int (nI (cl p))), (2, .int v4), (3, .int (nI k4))]) hx hb dX3_rests_68 hl (by decide) rfl (fun ls hl => ?_)
          refine lv_iload_n hx hb dX3_rests_70 rfl (lv_at hl 4 rfl) ?_
          refine lv_iload_n hx hb dX3_rests_71 rfl (lv_at hl 5 rfl) ?_
          refine lv_iload hx hb dX3_rests_72 (lv_at hl 1 rfl) ?_
          obtain ⟨u14, hj14, hk14⟩ := wl_bx hb4
          refine wl_J u14 87 (fun z14 => [.int (wl_b z14), .int (nI k4), .int v4]) 6 (fun z14 => [(0, .ref (a 0)), (1, .int (nI (cl p))), (3, .int (nI k4))]) D A s0.heap (fun z14 => (wX E a fabove fbelow rbad rno rfull counts0 people0 day0 listed0 followed0 struck0 noted0 undoable0 kinds0 tempers0 notes0 past0 counts1 people1 day1 listed1 followed1 struck1 noted1 undoable1 kinds1 tempers1 notes1 past1 counts2 people2 day2 listed2 followed2 struck2 noted2 undoable2 kinds2 tempers2 notes2 past2 counts3 people3 day3 listed3 followed3 struck3 noted3 undoable3 kinds3 tempers3 notes3 past3 keptz wkind wtemper wcounts wday wlisted wfollowed xlength xstart xbehind xsort xnumber xbytes)) (fun z14 hz14 ls H locs hP hD hS hl => ?_) (fun J14 => ?_)
          · have hb4 := hk14 z14 hz14
            refine wl_callPi hC (c_X3_withBit (bits := v4) (i := k4) (is := (wl_b z14)) ) lk_RX3_99 rfl ⟨rfl, rfl, Nat.le_of_ble_eq_true rfl, Nat.le_of_ble_eq_true rfl⟩ hP hS hA hl.1 rfl (Nat.le_of_ble_eq_true rfl) dX3_rests_87 ⟨Nat.zero_le _, Nat.zero_le _⟩ (fun z17 hz17 H locs hP hS => ?_)
            have hb4 := wl_bz hb4 hz17
            refine lv_istore_n (lv' := [(2, .int z17), (0, .ref (a 0)), (1, .int (nI (cl p))), (3, .int (nI k4))]) hx hb dX3_rests_90 rfl hl (by decide) rfl (fun ls hl => ?_)
            refine lv_iinc (v := (nI (k4 + 1))) (lv' := [(3, .int (nI (k4 + 1))), (2, .int z17), (0, .ref (a 0)), (1, .int (nI (cl p)))]) hx hb dX3_rests_91 hl (k := 3) rfl (wl_inc k4 1) (by decide) rfl (fun ls hl => ?_)
            refine lv_goto (tgt := 17) hx hb dX3_rests_94 (by decide) ?_
            exact IH4 _ hb4 trivial ls H locs hP hD hS (lv_sub hl [2, 3, 1, 0] rfl)
          · refine wl_if_eq_b hx hb (tgt := 86) dX3_rests_74 (by decide) (fun c15 => ?_) (fun c15 => ?_)
            · have hj14 := hj14.trans (if_neg c15)
              refine lv_iconst (v := (nI 0)) hx hb dX3_rests_86 (by decide +kernel) ?_
              exact J14 _ hj14 ls H locs hP hD hS (lv_sub hl [2, 3, 5] rfl)
            · have hj14 := hj14.trans (if_pos c15)
              refine lv_iload hx hb dX3_rests_77 (lv_at hl 0 rfl) ?_
              refine wl_if_eq_b hx hb (tgt := 86) dX3_rests_79 (by decide) (fun c16 => ?_) (fun c16 => ?_)
              · have hj14 := hj14.trans (if_neg c16)
                refine lv_iconst (v := (nI 0)) hx hb dX3_rests_86 (by decide +kernel) ?_
                exact J14 _ hj14 ls H locs hP hD hS (lv_sub hl [2, 3, 5] rfl)
              · have hj14 := hj14.trans (if_pos c16)
                refine lv_iconst (v := (nI 1)) hx hb dX3_rests_82 (by decide +kernel) ?_
                refine lv_goto (tgt := 87) hx hb dX3_rests_83 (by decide) ?_
                exact J14 _ hj14 ls H locs hP hD hS (lv_sub hl [2, 3, 5] rfl)
        · refine lv_icmp_gt hx hb (tgt := 67) dX3_rests_60 (by decide) (fun c13 => ?_) (fun c13 => ?_)
          · have hj12 := hj12.trans (if_pos c13)
            refine lv_iconst (v := (nI 0)) hx hb dX3_rests_67 (by decide +kernel) ?_
            exact J12 _ hj12 ls H locs hP hD hS (lv_sub hl [0, 1, 2, 3, 4] rfl)
          · have hj12 := hj12.trans (if_neg c13)
            refine lv_iconst (v := (nI 1)) hx hb dX3_rests_63 (by decide +kernel) ?_
            refine lv_goto (tgt := 68) hx hb dX3_rests_64 (by decide) ?_
            exact J12 _ hj12 ls H locs hP hD hS (lv_sub hl [0, 1, 2, 3, 4] rfl)
      · refine lv_icmp_gt hx hb (tgt := 43) dX3_rests_36 (by decide) (fun c9 => ?_) (fun c9 => ?_)
        · have hj8 := hj8.trans (if_pos c9)
          refine lv_iconst (v := (nI 0)) hx hb dX3_rests_43 (by decide +kernel) ?_
          exact J8 _ hj8 ls H locs hP hD hS (lv_sub hl [0, 1, 2, 3] rfl)
        · have hj8 := hj8.trans (if_neg c9)
          refine lv_iconst (v := (nI 1)) hx hb dX3_rests_39 (by decide +kernel) ?_
          refine lv_goto (tgt := 44) hx hb dX3_rests_40 (by decide) ?_
          exact J8 _ hj8 ls H locs hP hD hS (lv_sub hl [0, 1, 2, 3] rfl)
  · have hm := hm.trans (if_neg c2)
    refine lv_aload_n hx hb dX3_rests_8 rfl (lv_at hl 0 rfl) ?_
    refine wl_callVi hC (c_X3_refuseBad  ) lk_RX3_52 rfl ⟨rfl, rfl, Nat.le_of_ble_eq_true rfl, Nat.le_of_ble_eq_true rfl⟩ hP hD hS hA 0 rfl (T1 := 11) rfl hl.1 rfl (Nat.le_of_ble_eq_true rfl) dX3_rests_9 ⟨Nat.zero_le _, Nat.zero_le _⟩ (fun z19 hz19 H locs hP hD hS => ?_)
    have hm := wl_bz hm hz19
    exact wl_iret hC hr hlk hm rfl hP hD hS dX3_rests_12
set_option maxHeartbeats 4000000 in
set_option maxRecDepth 100000 in
theorem c_X1_addNote__X_1 {l : Launch} {D : va_G} {E : Nat → ClassId} {a : Nat → Nat} {fabove : Int64} {fbelow : Int64} {rbad : Int32} {rno : Int32} {rfull : Int32} {counts0 : Int32} {people0 : Nat} {day0 : Int32} {listed0 : Int32} {followed0 : Int32} {struck0 : Int32} {noted0 : Nat} {undoable0 : Nat} {kinds0 : (Nat → Int32)} {tempers0 : (Nat → Int32)} {notes0 : (Nat → Int32)} {past0 : (Nat → Int32)} {counts1 : Int32} {people1 : Nat} {day1 : Int32} {listed1 : Int32} {followed1 : Int32} {struck1 : Int32} {noted1 : Nat} {undoable1 : Nat} {kinds1 : (Nat → Int32)} {tempers1 : (Nat → Int32)} {notes1 : (Nat → Int32)} {past1 : (Nat → Int32)} {counts2 : Int32} {people2 : Nat} {day2 : Int32} {listed2 : Int32} {followed2 : Int32} {struck2 : Int32} {noted2 : Nat} {undoable2 : Nat} {kinds2 : (Nat → Int32)} {tempers2 : (Nat → Int32)} {notes2 : (Nat → Int32)} {past2 : (Nat → Int32)} {counts3 : Int32} {people3 : Nat} {day3 : Int32} {listed3 : Int32} {followed3 : Int32} {struck3 : Int32} {noted3 : Nat} {undoable3 : Nat} {kinds3 : (Nat → Int32)} {tempers3 : (Nat → Int32)} {notes3 : (Nat → Int32)} {past3 : (Nat → Int32)} {keptz : (Nat → Int32)} {wkind : Int32} {wtemper : Int32} {wcounts : Int32} {wday : Int32} {wlisted : Bool} {wfollowed : Bool} {xlength : Nat} {xstart : Nat} {xbehind : Nat} {xsort : Int32} {xnumber : Int32} {xbytes : (Nat → Int32)} {p : Int32} {d : Int32} {wasFollowed : Int32} {t : Int32} {act : Int32} (hN6 : noted0 ≤ 6) : wl_Met (τ := Nat × Nat × (Nat → Int32)) l D E yX1_addNote cX1_addNote 7 (some .int) ({ frames := 0, cells := 0, slots := 0, locals := 0 } : Room) [.ref (a 1), .int p, .int d, .int wasFollowed, .int t, .int act] (wX E a fabove fbelow rbad rno rfull counts0 people0 day0 listed0 followed0 struck0 noted0 undoable0 kinds0 tempers0 notes0 past0 counts1 people1 day1 listed1 followed1 struck1 noted1 undoable1 kinds1 tempers1 notes1 past1 counts2 people2 day2 listed2 followed2 struck2 noted2 undoable2 kinds2 tempers2 notes2 past2 counts3 people3 day3 listed3 followed3 struck3 noted3 undoable3 kinds3 tempers3 notes3 past3 keptz wkind wtemper wcounts wday wlisted wfollowed xlength xstart xbehind xsort xnumber xbytes) (fun z => some (.int (nI z.1))) (fun z => (wX E a fabove fbelow rbad rno rfull counts0 people0 day0 listed0 followed0 struck0 z.2.1 undoable0 kinds0 tempers0 z.2.2 past0 counts1 people1 day1 listed1 followed1 struck1 noted1 undoable1 kinds1 tempers1 notes1 past1 counts2 people2 day2 listed2 followed2 struck2 noted2 undoable2 kinds2 tempers2 notes2 past2 counts3 people3 day3 listed3 followed3 struck3 noted3 undoable3 kinds3 tempers3 notes3 past3 keptz wkind wtemper wcounts wday wlisted wfollowed xlength xstart xbehind xsort xnumber xbytes)) (m_X1_addNote noted0 notes0 p d wasFollowed t act) :=
  wl_lift (c_X1_addNote (a := (fun k => a ([1, 2, 3, 4, 5].getD k 0))) (counts := counts0) (people := people0) (day := day0) (listed := listed0) (followed := followed0) (struck := struck0) (noted := noted0) (undoable := undoable0) (kinds := kinds0) (tempers := tempers0) (notes := notes0) (past := past0) (p := p) (d := d) (wasFollowed := wasFollowed) (t := t) (act := act) hN6) [1, 2, 3, 4, 5] [0, 6, 7, 8, 9, 10, 11, 12, 13, 14, 15, 16, 17, 18, 19, 20, 21, 22, 23, 24, 25] [0, 21, 22, 23, 24, 25, 1, 2, 3, 4, 5, 6, 7, 8, 9, 10, 11, 12, 13, 14, 15, 16, 17, 18, 19, 20] (wr := ([0, 6, 7, 8, 9, 10, 11, 12, 13, 14, 15, 16, 17, 18, 19, 20, 21, 22, 23, 24, 25].filterMap (fun i => (wX E a fabove fbelow rbad rno rfull counts0 people0 day0 listed0 followed0 struck0 noted0 undoable0 kinds0 tempers0 notes0 past0 counts1 people1 day1 listed1 followed1 struck1 noted1 undoable1 kinds1 tempers1 notes1 past1 counts2 people2 day2 listed2 followed2 struck2 noted2 undoable2 kinds2 tempers2 notes2 past2 counts3 people3 day3 listed3 followed3 struck3 noted3 undoable3 kinds3 tempers3 notes3 past3 keptz wkind wtemper wcounts wday wlisted wfollowed xlength xstart xbehind xsort xnumber xbytes)[i]?))) rfl rfl (by decide) (by decide) (by decide) (by decide) (fun _ => rfl)
def m_X3_note (rbad : Int32) (rfull : Int32) (people0 : Nat) (noted0 : Nat) (notes0 : (Nat → Int32)) (p : Int32) (d : Int32) (followed : Int32) (t : Int32) (act : Int32) : Int32 × Int32 × Int32 × Nat × (Nat → Int32) := (wl_bnd (m_X3_isThere people0 p) (fun z1 => (if z1 = true then (wl_bnd (m_X3_isWithin d (nI 0) (nI 99)) (fun z4 => (if z4 = true then (wl_bnd (m_X3_isWithin followed (nI 0) (nI 1)) (fun z7 => (if z7 = true then (wl_bnd (m_X3_isWithin t (nI 0) (nI 99)) (fun z10 => (if z10 = true then (wl_bnd (m_X3_isWithin act (nI 0) (nI 5)) (fun z13 => (if z13 = true then (if noted0 < 6 then (wl_bnd (m_X1_addNote noted0 notes0 p d followed t act) (fun z16 => ((nI z16.1), rbad, rfull, z16.2.1, z16.2.2))) else (wl_bnd (m_X3_refuseFull rfull) (fun z17 => (z17.1, rbad, z17.2, noted0, notes0)))) else (wl_bnd (m_X3_refuseBad rbad) (fun z18 => (z18.1, z18.2, rfull, noted0, notes0)))))) else (wl_bnd (m_X3_refuseBad rbad) (fun z12 => (z12.1, z12.2, rfull, noted0, notes0)))))) else (wl_bnd (m_X3_refuseBad rbad) (fun z9 => (z9.1, z9.2, rfull, noted0, notes0)))))) else (wl_bnd (m_X3_refuseBad rbad) (fun z6 => (z6.1, z6.2, rfull, noted0, notes0)))))) else (wl_bnd (m_X3_refuseBad rbad) (fun z3 => (z3.1, z3.2, rfull, noted0, notes0))))))
set_option maxHeartbeats 4000000 in
set_option maxRecDepth 100000 in
theorem c_X3_note {l : Launch} {D : va_G} {E : Nat → ClassId} {a : Nat → Nat} {fabove : Int64} {fbelow : Int64} {rbad : Int32} {rno : Int32} {rfull : Int32} {counts0 : Int32} {people0 : Nat} {day0 : Int32} {listed0 : Int32} {followed0 : Int32} {struck0 : Int32} {noted0 : Nat} {undoable0 : Nat} {kinds0 : (Nat → Int32)} {tempers0 : (Nat → Int32)} {notes0 : (Nat → Int32)} {past0 : (Nat → Int32)} {counts1 : Int32} {people1 : Nat} {day1 : Int32} {listed1 : Int32} {followed1 : Int32} {struck1 : Int32} {noted1 : Nat} {undoable1 : Nat} {kinds1 : (Nat → Int32)} {tempers1 : (Nat → Int32)} {notes1 : (Nat → Int32)} {past1 : (Nat → Int32)} {counts2 : Int32} {people2 : Nat} {day2 : Int32} {listed2 : Int32} {followed2 : Int32} {struck2 : Int32} {noted2 : Nat} {undoable2 : Nat} {kinds2 : (Nat → Int32)} {tempers2 : (Nat → Int32)} {notes2 : (Nat → Int32)} {past2 : (Nat → Int32)} {counts3 : Int32} {people3 : Nat} {day3 : Int32} {listed3 : Int32} {followed3 : Int32} {struck3 : Int32} {noted3 : Nat} {undoable3 : Nat} {kinds3 : (Nat → Int32)} {tempers3 : (Nat → Int32)} {notes3 : (Nat → Int32)} {past3 : (Nat → Int32)} {keptz : (Nat → Int32)} {wkind : Int32} {wtemper : Int32} {wcounts : Int32} {wday : Int32} {wlisted : Bool} {wfollowed : Bool} {xlength : Nat} {xstart : Nat} {xbehind : Nat} {xsort : Int32} {xnumber : Int32} {xbytes : (Nat → Int32)} {p : Int32} {d : Int32} {followed : Int32} {t : Int32} {act : Int32} (hP7 : people0 ≤ 7) (hN6 : noted0 ≤ 6) : wl_Met (τ := Int32 × Int32 × Int32 × Nat × (Nat → Int32)) l D E yX3_note cX3_note 6 (some .int) ({ frames := 2, cells := 0, slots := 0, locals := 43 } : Room) [.ref (a 0), .int p, .int d, .int followed, .int t, .int act] (wX E a fabove fbelow rbad rno rfull counts0 people0 day0 listed0 followed0 struck0 noted0 undoable0 kinds0 tempers0 notes0 past0 counts1 people1 day1 listed1 followed1 struck1 noted1 undoable1 kinds1 tempers1 notes1 past1 counts2 people2 day2 listed2 followed2 struck2 noted2 undoable2 kinds2 tempers2 notes2 past2 counts3 people3 day3 listed3 followed3 struck3 noted3 undoable3 kinds3 tempers3 notes3 past3 keptz wkind wtemper wcounts wday wlisted wfollowed xlength xstart xbehind xsort xnumber xbytes) (fun z => some (.int z.1)) (fun z => (wX E a fabove fbelow z.2.1 rno z.2.2.1 counts0 people0 day0 listed0 followed0 struck0 z.2.2.2.1 undoable0 kinds0 tempers0 z.2.2.2.2 past0 counts1 people1 day1 listed1 followed1 struck1 noted1 undoable1 kinds1 tempers1 notes1 past1 counts2 people2 day2 listed2 followed2 struck2 noted2 undoable2 kinds2 tempers2 notes2 past2 counts3 people3 day3 listed3 followed3 struck3 noted3 undoable3 kinds3 tempers3 notes3 past3 keptz wkind wtemper wcounts wday wlisted wfollowed xlength xstart xbehind xsort xnumber xbytes)) (m_X3_note rbad rfull people0 noted0 notes0 p d followed t act) := by
  refine wl_enter (own := RX3) (by decide +kernel) rfl (Nat.le_of_ble_eq_true rfl) ?_
  intro p0 e0 s0 m0 bl0 mt0 c0 A hC hr hlk hA H locs hP hD hS ls hl
  have hx := hC.1
  have hb := hC.2.1
  have hl : lv_has ls 6 [(0, .ref (a 0)), (1, .int p), (2, .int d), (3, .int followed), (4, .int t), (5, .int act)] := hl
  have hm := m_X3_note.eq_1 rbad rfull people0 noted0 notes0 p d followed t act
  refine lv_aload_n hx hb dX3_note_0 rfl (lv_at hl 0 rfl) ?_
  refine lv_iload_n hx hb dX3_note_1 rfl (lv_at hl 1 rfl) ?_
  refine wl_callVi hC (c_X3_isThere (p := p) ) lk_RX3_86 rfl ⟨rfl, rfl, Nat.le_of_ble_eq_true rfl, Nat.le_of_ble_eq_true rfl⟩ hP hD hS hA 0 rfl (T1 := 11) rfl hl.1 rfl (Nat.le_of_ble_eq_true rfl) dX3_note_2 ⟨Nat.zero_le _, Nat.zero_le _⟩ (fun z1 hz1 H locs hP hD hS => ?_)
  have hm := wl_bz hm hz1
  refine wl_if_eq_b hx hb (tgt := 48) dX3_note_5 (by decide) (fun c2 => ?_) (fun c2 => ?_)
  · have hm := hm.trans (if_neg c2)
    refine lv_aload_n hx hb dX3_note_48 rfl (lv_at hl 0 rfl) ?_
    refine wl_callVi hC (c_X3_refuseBad  ) lk_RX3_52 rfl ⟨rfl, rfl, Nat.le_of_ble_eq_true rfl, Nat.le_of_ble_eq_true rfl⟩ hP hD hS hA 0 rfl (T1 := 11) rfl hl.1 rfl (Nat.le_of_ble_eq_true rfl) dX3_note_49 ⟨Nat.zero_le _, Nat.zero_le _⟩ (fun z3 hz3 H locs hP hD hS => ?_)
    have hm := wl_bz hm hz3
    exact wl_iret hC hr hlk hm rfl hP hD hS dX3_note_52
  · have hm := hm.trans (if_pos c2)
    refine lv_iload_n hx hb dX3_note_8 rfl (lv_at hl 2 rfl) ?_
    refine lv_iconst (v := (nI 0)) hx hb dX3_note_9 (by decide +kernel) ?_
    refine lv_bipush (v := (nI 99)) hx hb dX3_note_10 (by decide +kernel) ?_
    refine wl_callPi hC (c_X3_isWithin (v := d) (least := (nI 0)) (most := (nI 99)) ) lk_RX3_48 rfl ⟨rfl, rfl, Nat.le_of_ble_eq_true rfl, Nat.le_of_ble_eq_true rfl⟩ hP hS hA hl.1 rfl (Nat.le_of_ble_eq_true rfl) dX3_note_12 ⟨Nat.zero_le _, Nat.zero_le _⟩ (fun z4 hz4 H locs hP hS => ?_)
    have hm := wl_bz hm hz4
    refine wl_if_eq_b hx hb (tgt := 48) dX3_note_15 (by decide) (fun c5 => ?_) (fun c5 => ?_)
    · have hm := hm.trans (if_neg c5)
      refine lv_aload_n hx hb dX3_note_48 rfl (lv_at hl 0 rfl) ?_
      refine wl_callVi hC (c_X3_refuseBad  ) lk_RX3_52 rfl ⟨rfl, rfl, Nat.le_of_ble_eq_true rfl, Nat.le_of_ble_eq_true rfl⟩ hP hD hS hA 0 rfl (T1 := 11) rfl hl.1 rfl (Nat.le_of_ble_eq_true rfl) dX3_note_49 ⟨Nat.zero_le _, Nat.zero_le _⟩ (fun z6 hz6 H locs hP hD hS => ?_)
      have hm := wl_bz hm hz6
      exact wl_iret hC hr hlk hm rfl hP hD hS dX3_note_52
    · have hm := hm.trans (if_pos c5)
      refine lv_iload_n hx hb dX3_note_18 rfl (lv_at hl 3 rfl) ?_
      refine lv_iconst (v := (nI 0)) hx hb dX3_note_19 (by decide +kernel) ?_
      refine lv_iconst (v := (nI 1)) hx hb dX3_note_20 (by decide +kernel) ?_
      refine wl_callPi hC (c_X3_isWithin (v := followed) (least := (nI 0)) (most := (nI 1)) ) lk_RX3_48 rfl ⟨rfl, rfl, Nat.le_of_ble_eq_true rfl, Nat.le_of_ble_eq_true rfl⟩ hP hS hA hl.1 rfl (Nat.le_of_ble_eq_true rfl) dX3_note_21 ⟨Nat.zero_le _, Nat.zero_le _⟩ (fun z7 hz7 H locs hP hS => ?_)
      have hm := wl_bz hm hz7
      refine wl_if_eq_b hx hb (tgt := 48) dX3_note_24 (by decide) (fun c8 => ?_) (fun c8 => ?_)
      · have hm := hm.trans (if_neg c8)
        refine lv_aload_n hx hb dX3_note_48 rfl (lv_at hl 0 rfl) ?_
        refine wl_callVi hC (c_X3_refuseBad  ) lk_RX3_52 rfl ⟨rfl, rfl, Nat.le_of_ble_eq_true rfl, Nat.le_of_ble_eq_true rfl⟩ hP hD hS hA 0 rfl (T1 := 11) rfl hl.1 rfl (Nat.le_of_ble_eq_true rfl) dX3_note_49 ⟨Nat.zero_le _, Nat.zero_le _⟩ (fun z9 hz9 H locs hP hD hS => ?_)
        have hm := wl_bz hm hz9
        exact wl_iret hC hr hlk hm rfl hP hD hS dX3_note_52
      · have hm := hm.trans (if_pos c8)
        refine lv_iload hx hb dX3_note_27 (lv_at hl 4 rfl) ?_
        refine lv_iconst (v := (nI 0)) hx hb dX3_note_29 (by decide +kernel) ?_
        refine lv_bipush (v := (nI 99)) hx hb dX3_note_30 (by decide +kernel) ?_
        refine wl_callPi hC (c_X3_isWithin (v := t) (least := (nI 0)) (most := (nI 99)) ) lk_RX3_48 rfl ⟨rfl, rfl, Nat.le_of_ble_eq_true rfl, Nat.le_of_ble_eq_true rfl⟩ hP hS hA hl.1 rfl (Nat.le_of_ble_eq_true rfl) dX3_note_32 ⟨Nat.zero_le _, Nat.zero_le _⟩ (fun z10 hz10 H locs hP hS => ?_)
        have hm := wl_bz hm hz10
        refine wl_if_eq_b hx hb (tgt := 48) dX3_note_35 (by decide) (fun c11 => ?_) (fun c11 => ?_)
        · have hm := hm.trans (if_neg c11)
          refine lv_aload_n hx hb dX3_note_48 rfl (lv_at hl 0 rfl) ?_
          refine wl_callVi hC (c_X3_refuseBad  ) lk_RX3_52 rfl ⟨rfl, rfl, Nat.le_of_ble_eq_true rfl, Nat.le_of_ble_eq_true rfl⟩ hP hD hS hA 0 rfl (T1 := 11) rfl hl.1 rfl (Nat.le_of_ble_eq_true rfl) dX3_note_49 ⟨Nat.zero_le _, Nat.zero_le _⟩ (fun z12 hz12 H locs hP hD hS => ?_)
          have hm := wl_bz hm hz12
          exact wl_iret hC hr hlk hm rfl hP hD hS dX3_note_52
        · have hm := hm.trans (if_pos c11)
          refine lv_iload hx hb dX3_note_38 (lv_at hl 5 rfl) ?_
          refine lv_iconst (v := (nI 0)) hx hb dX3_note_40 (by decide +kernel) ?_
          refine lv_iconst (v := (nI 5)) hx hb dX3_note_41 (by decide +kernel) ?_
          refine wl_callPi hC (c_X3_isWithin (v := act) (least := (nI 0)) (most := (nI 5)) ) lk_RX3_48 rfl ⟨rfl, rfl, Nat.le_of_ble_eq_true rfl, Nat.le_of_ble_eq_true rfl⟩ hP hS hA hl.1 rfl (Nat.le_of_ble_eq_true rfl) dX3_note_42 ⟨Nat.zero_le _, Nat.zero_le _⟩ (fun z13 hz13 H locs hP hS => ?_)
          have hm := wl_bz hm hz13
          refine wl_if_ne_b hx hb (tgt := 53) dX3_note_45 (by decide) (fun c14 => ?_) (fun c14 => ?_)
          · have hm := hm.trans (if_pos c14)
            refine lv_aload_n hx hb dX3_note_53 rfl (lv_at hl 0 rfl) ?_
            refine g_X_0_now hC hP mw_202 dX3_note_54 ?_
            refine g_X_1_noted hC hP mw_334 dX3_note_57 ?_
            refine lv_bipush (v := (nI 6)) hx hb dX3_note_60 (by decide +kernel) ?_
            refine wl_icmp_lt_n hx hb (by first | omega | exact Nat.lt_of_le_of_lt Nat.and_le_right (by omega) | exact Nat.pow_lt_pow_right (by omega) (by omega) | exact Nat.lt_trans (by assumption) (Nat.pow_lt_pow_right (by omega) (by omega))) (by first | omega | exact Nat.lt_of_le_of_lt Nat.and_le_right (by omega) | exact Nat.pow_lt_pow_right (by omega) (by omega) | exact Nat.lt_trans (by assumption) (Nat.pow_lt_pow_right (by omega) (by omega))) (tgt := 70) dX3_note_62 (by decide) (fun c15 => ?_) (fun c15 => ?_)
            · have hm := hm.trans (if_pos c15)
              refine lv_aload_n hx hb dX3_note_70 rfl (lv_at hl 0 rfl) ?_
              refine g_X_0_now hC hP mw_202 dX3_note_71 ?_
              refine lv_iload_n hx hb dX3_note_74 rfl (lv_at hl 1 rfl) ?_
              refine lv_iload_n hx hb dX3_note_75 rfl (lv_at hl 2 rfl) ?_
              refine lv_iload_n hx hb dX3_note_76 rfl (lv_at hl 3 rfl) ?_
              refine lv_iload hx hb dX3_note_77 (lv_at hl 4 rfl) ?_
              refine lv_iload hx hb dX3_note_79 (lv_at hl 5 rfl) ?_
              refine wl_callVi hC (c_X1_addNote__X_1 (p := p) (d := d) (wasFollowed := followed) (t := t) (act := act) (by first | assumption | omega)) lk_RX3_166 rfl ⟨rfl, rfl, Nat.le_of_ble_eq_true rfl, Nat.le_of_ble_eq_true rfl⟩ hP hD hS hA 1 rfl (T1 := 12) rfl hl.1 rfl (Nat.le_of_ble_eq_true rfl) dX3_note_81 ⟨Nat.zero_le _, Nat.zero_le _⟩ (fun z16 hz16 H locs hP hD hS => ?_)
              have hm := wl_bz hm hz16
              exact wl_iret hC hr hlk hm rfl hP hD hS dX3_note_84
            · have hm := hm.trans (if_neg c15)
              refine lv_aload_n hx hb dX3_note_65 rfl (lv_at hl 0 rfl) ?_
              refine wl_callVi hC (c_X3_refuseFull  ) lk_RX3_64 rfl ⟨rfl, rfl, Nat.le_of_ble_eq_true rfl, Nat.le_of_ble_eq_true rfl⟩ hP hD hS hA 0 rfl (T1 := 11) rfl hl.1 rfl (Nat.le_of_ble_eq_true rfl) dX3_note_66 ⟨Nat.zero_le _, Nat.zero_le _⟩ (fun z17 hz17 H locs hP hD hS => ?_)
              have hm := wl_bz hm hz17
              exact wl_iret hC hr hlk hm rfl hP hD hS dX3_note_69
          · have hm := hm.trans (if_neg c14)
            refine lv_aload_n hx hb dX3_note_48 rfl (lv_at hl 0 rfl) ?_
            refine wl_callVi hC (c_X3_refuseBad  ) lk_RX3_52 rfl ⟨rfl, rfl, Nat.le_of_ble_eq_true rfl, Nat.le_of_ble_eq_true rfl⟩ hP hD hS hA 0 rfl (T1 := 11) rfl hl.1 rfl (Nat.le_of_ble_eq_true rfl) dX3_note_49 ⟨Nat.zero_le _, Nat.zero_le _⟩ (fun z18 hz18 H locs hP hD hS => ?_)
            have hm := wl_bz hm hz18
            exact wl_iret hC hr hlk hm rfl hP hD hS dX3_note_52
def m_X3_forget (noted0 : Nat) : Int32 × Nat := ((nI noted0), 0)
set_option maxHeartbeats 4000000 in
set_option maxRecDepth 100000 in
theorem c_X3_forget {l : Launch} {D : va_G} {E : Nat → ClassId} {a : Nat → Nat} {fabove : Int64} {fbelow : Int64} {rbad : Int32} {rno : Int32} {rfull : Int32} {counts0 : Int32} {people0 : Nat} {day0 : Int32} {listed0 : Int32} {followed0 : Int32} {struck0 : Int32} {noted0 : Nat} {undoable0 : Nat} {kinds0 : (Nat → Int32)} {tempers0 : (Nat → Int32)} {notes0 : (Nat → Int32)} {past0 : (Nat → Int32)} {counts1 : Int32} {people1 : Nat} {day1 : Int32} {listed1 : Int32} {followed1 : Int32} {struck1 : Int32} {noted1 : Nat} {undoable1 : Nat} {kinds1 : (Nat → Int32)} {tempers1 : (Nat → Int32)} {notes1 : (Nat → Int32)} {past1 : (Nat → Int32)} {counts2 : Int32} {people2 : Nat} {day2 : Int32} {listed2 : Int32} {followed2 : Int32} {struck2 : Int32} {noted2 : Nat} {undoable2 : Nat} {kinds2 : (Nat → Int32)} {tempers2 : (Nat → Int32)} {notes2 : (Nat → Int32)} {past2 : (Nat → Int32)} {counts3 : Int32} {people3 : Nat} {day3 : Int32} {listed3 : Int32} {followed3 : Int32} {struck3 : Int32} {noted3 : Nat} {undoable3 : Nat} {kinds3 : (Nat → Int32)} {tempers3 : (Nat → Int32)} {notes3 : (Nat → Int32)} {past3 : (Nat → Int32)} {keptz : (Nat → Int32)} {wkind : Int32} {wtemper : Int32} {wcounts : Int32} {wday : Int32} {wlisted : Bool} {wfollowed : Bool} {xlength : Nat} {xstart : Nat} {xbehind : Nat} {xsort : Int32} {xnumber : Int32} {xbytes : (Nat → Int32)}  : wl_Met (τ := Int32 × Nat) l D E yX3_forget cX3_forget 2 (some .int) ({ frames := 0, cells := 0, slots := 0, locals := 0 } : Room) [.ref (a 0)] (wX E a fabove fbelow rbad rno rfull counts0 people0 day0 listed0 followed0 struck0 noted0 undoable0 kinds0 tempers0 notes0 past0 counts1 people1 day1 listed1 followed1 struck1 noted1 undoable1 kinds1 tempers1 notes1 past1 counts2 people2 day2 listed2 followed2 struck2 noted2 undoable2 kinds2 tempers2 notes2 past2 counts3 people3 day3 listed3 followed3 struck3 noted3 undoable3 kinds3 tempers3 notes3 past3 keptz wkind wtemper wcounts wday wlisted wfollowed xlength xstart xbehind xsort xnumber xbytes) (fun z => some (.int z.1)) (fun z => (wX E a fabove fbelow rbad rno rfull counts0 people0 day0 listed0 followed0 struck0 z.2 undoable0 kinds0 tempers0 notes0 past0 counts1 people1 day1 listed1 followed1 struck1 noted1 undoable1 kinds1 tempers1 notes1 past1 counts2 people2 day2 listed2 followed2 struck2 noted2 undoable2 kinds2 tempers2 notes2 past2 counts3 people3 day3 listed3 followed3 struck3 noted3 undoable3 kinds3 tempers3 notes3 past3 keptz wkind wtemper wcounts wday wlisted wfollowed xlength xstart xbehind xsort xnumber xbytes)) (m_X3_forget noted0) := by
  refine wl_enter (own := RX3) (by decide +kernel) rfl (Nat.le_of_ble_eq_true rfl) ?_
  intro p0 e0 s0 m0 bl0 mt0 c0 A hC hr hlk hA H locs hP hD hS ls hl
  have hx := hC.1
  have hb := hC.2.1
  have hl : lv_has ls 2 [(0, .ref (a 0))] := hl
  have hm := m_X3_forget.eq_1 noted0
  refine lv_aload_n hx hb dX3_forget_0 rfl (lv_at hl 0 rfl) ?_
  refine g_X_0_now hC hP mw_202 dX3_forget_1 ?_
  refine g_X_1_noted hC hP mw_334 dX3_forget_4 ?_
  refine lv_istore_n (lv' := [(1, .int (nI noted0)), (0, .ref (a 0))]) hx hb dX3_forget_7 rfl hl (by decide) rfl (fun ls hl => ?_)
  refine lv_aload_n hx hb dX3_forget_8 rfl (lv_at hl 1 rfl) ?_
  refine g_X_0_now hC hP mw_202 dX3_forget_9 ?_
  refine lv_iconst (v := (nI 0)) hx hb dX3_forget_12 (by decide +kernel) ?_
  refine p_X_1_noted hC hP hD hS 0 mw_334 dX3_forget_13 (fun H locs hP hD hS => ?_)
  refine lv_iload_n hx hb dX3_forget_16 rfl (lv_at hl 0 rfl) ?_
  exact wl_iret hC hr hlk hm rfl hP hD hS dX3_forget_17
set_option maxHeartbeats 4000000 in
set_option maxRecDepth 100000 in
theorem c_X1_kindsByNotes__X_1 {l : Launch} {D : va_G} {E : Nat → ClassId} {a : Nat → Nat} {fabove : Int64} {fbelow : Int64} {rbad : Int32} {rno : Int32} {rfull : Int32} {counts0 : Int32} {people0 : Nat} {day0 : Int32} {listed0 : Int32} {followed0 : Int32} {struck0 : Int32} {noted0 : Nat} {undoable0 : Nat} {kinds0 : (Nat → Int32)} {tempers0 : (Nat → Int32)} {notes0 : (Nat → Int32)} {past0 : (Nat → Int32)} {counts1 : Int32} {people1 : Nat} {day1 : Int32} {listed1 : Int32} {followed1 : Int32} {struck1 : Int32} {noted1 : Nat} {undoable1 : Nat} {kinds1 : (Nat → Int32)} {tempers1 : (Nat → Int32)} {notes1 : (Nat → Int32)} {past1 : (Nat → Int32)} {counts2 : Int32} {people2 : Nat} {day2 : Int32} {listed2 : Int32} {followed2 : Int32} {struck2 : Int32} {noted2 : Nat} {undoable2 : Nat} {kinds2 : (Nat → Int32)} {tempers2 : (Nat → Int32)} {notes2 : (Nat → Int32)} {past2 : (Nat → Int32)} {counts3 : Int32} {people3 : Nat} {day3 : Int32} {listed3 : Int32} {followed3 : Int32} {struck3 : Int32} {noted3 : Nat} {undoable3 : Nat} {kinds3 : (Nat → Int32)} {tempers3 : (Nat → Int32)} {notes3 : (Nat → Int32)} {past3 : (Nat → Int32)} {keptz : (Nat → Int32)} {wkind : Int32} {wtemper : Int32} {wcounts : Int32} {wday : Int32} {wlisted : Bool} {wfollowed : Bool} {xlength : Nat} {xstart : Nat} {xbehind : Nat} {xsort : Int32} {xnumber : Int32} {xbytes : (Nat → Int32)} {p : Int32} (hN6 : noted0 ≤ 6) : wl_Met (τ := Int32) l D E yX1_kindsByNotes cX1_kindsByNotes 6 (some .int) ({ frames := 3, cells := 0, slots := 0, locals := 73 } : Room) [.ref (a 1), .int p] (wX E a fabove fbelow rbad rno rfull counts0 people0 day0 listed0 followed0 struck0 noted0 undoable0 kinds0 tempers0 notes0 past0 counts1 people1 day1 listed1 followed1 struck1 noted1 undoable1 kinds1 tempers1 notes1 past1 counts2 people2 day2 listed2 followed2 struck2 noted2 undoable2 kinds2 tempers2 notes2 past2 counts3 people3 day3 listed3 followed3 struck3 noted3 undoable3 kinds3 tempers3 notes3 past3 keptz wkind wtemper wcounts wday wlisted wfollowed xlength xstart xbehind xsort xnumber xbytes) (fun z => some (.int z)) (fun _ => (wX E a fabove fbelow rbad rno rfull counts0 people0 day0 listed0 followed0 struck0 noted0 undoable0 kinds0 tempers0 notes0 past0 counts1 people1 day1 listed1 followed1 struck1 noted1 undoable1 kinds1 tempers1 notes1 past1 counts2 people2 day2 listed2 followed2 struck2 noted2 undoable2 kinds2 tempers2 notes2 past2 counts3 people3 day3 listed3 followed3 struck3 noted3 undoable3 kinds3 tempers3 notes3 past3 keptz wkind wtemper wcounts wday wlisted wfollowed xlength xstart xbehind xsort xnumber xbytes)) (m_X1_kindsByNotes noted0 notes0 p) :=
  wl_lift (c_X1_kindsByNotes (a := (fun k => a ([1, 2, 3, 4, 5].getD k 0))) (counts := counts0) (people := people0) (day := day0) (listed := listed0) (followed := followed0) (struck := struck0) (noted := noted0) (undoable := undoable0) (kinds := kinds0) (tempers := tempers0) (notes := notes0) (past := past0) (p := p) hN6) [1, 2, 3, 4, 5] [0, 6, 7, 8, 9, 10, 11, 12, 13, 14, 15, 16, 17, 18, 19, 20, 21, 22, 23, 24, 25] [0, 21, 22, 23, 24, 25, 1, 2, 3, 4, 5, 6, 7, 8, 9, 10, 11, 12, 13, 14, 15, 16, 17, 18, 19, 20] (wr := ([0, 6, 7, 8, 9, 10, 11, 12, 13, 14, 15, 16, 17, 18, 19, 20, 21, 22, 23, 24, 25].filterMap (fun i => (wX E a fabove fbelow rbad rno rfull counts0 people0 day0 listed0 followed0 struck0 noted0 undoable0 kinds0 tempers0 notes0 past0 counts1 people1 day1 listed1 followed1 struck1 noted1 undoable1 kinds1 tempers1 notes1 past1 counts2 people2 day2 listed2 followed2 struck2 noted2 undoable2 kinds2 tempers2 notes2 past2 counts3 people3 day3 listed3 followed3 struck3 noted3 undoable3 kinds3 tempers3 notes3 past3 keptz wkind wtemper wcounts wday wlisted wfollowed xlength xstart xbehind xsort xnumber xbytes)[i]?))) rfl rfl (by decide) (by decide) (by decide) (by decide) (fun _ => rfl)
def m_X3_is (rbad : Int32) (people0 : Nat) (noted0 : Nat) (notes0 : (Nat → Int32)) (p : Int32) : Int32 × Int32 := (wl_bnd (m_X3_isThere people0 p) (fun z1 => (if z1 = true then (wl_bnd (m_X1_kindsByNotes noted0 notes0 p) (fun z3 => (z3, rbad))) else (wl_bnd (m_X3_refuseBad rbad) (fun z4 => (z4.1, z4.2))))))
set_option maxHeartbeats 4000000 in
set_option maxRecDepth 100000 in
theorem c_X3_is {l : Launch} {D : va_G} {E : Nat → ClassId} {a : Nat → Nat} {fabove : Int64} {fbelow : Int64} {rbad : Int32} {rno : Int32} {rfull : Int32} {counts0 : Int32} {people0 : Nat} {day0 : Int32} {listed0 : Int32} {followed0 : Int32} {struck0 : Int32} {noted0 : Nat} {undoable0 : Nat} {kinds0 : (Nat → Int32)} {tempers0 : (Nat → Int32)} {notes0 : (Nat → Int32)} {past0 : (Nat → Int32)} {counts1 : Int32} {people1 : Nat} {day1 : Int32} {listed1 : Int32} {followed1 : Int32} {struck1 : Int32} {noted1 : Nat} {undoable1 : Nat} {kinds1 : (Nat → Int32)} {tempers1 : (Nat → Int32)} {notes1 : (Nat → Int32)} {past1 : (Nat → Int32)} {counts2 : Int32} {people2 : Nat} {day2 : Int32} {listed2 : Int32} {followed2 : Int32} {struck2 : Int32} {noted2 : Nat} {undoable2 : Nat} {kinds2 : (Nat → Int32)} {tempers2 : (Nat → Int32)} {notes2 : (Nat → Int32)} {past2 : (Nat → Int32)} {counts3 : Int32} {people3 : Nat} {day3 : Int32} {listed3 : Int32} {followed3 : Int32} {struck3 : Int32} {noted3 : Nat} {undoable3 : Nat} {kinds3 : (Nat → Int32)} {tempers3 : (Nat → Int32)} {notes3 : (Nat → Int32)} {past3 : (Nat → Int32)} {keptz : (Nat → Int32)} {wkind : Int32} {wtemper : Int32} {wcounts : Int32} {wday : Int32} {wlisted : Bool} {wfollowed : Bool} {xlength : Nat} {xstart : Nat} {xbehind : Nat} {xsort : Int32} {xnumber : Int32} {xbytes : (Nat → Int32)} {p : Int32} (hP7 : people0 ≤ 7) (hN6 : noted0 ≤ 6) : wl_Met (τ := Int32 × Int32) l D E yX3_is cX3_is 2 (some .int) ({ frames := 4, cells := 0, slots := 0, locals := 98 } : Room) [.ref (a 0), .int p] (wX E a fabove fbelow rbad rno rfull counts0 people0 day0 listed0 followed0 struck0 noted0 undoable0 kinds0 tempers0 notes0 past0 counts1 people1 day1 listed1 followed1 struck1 noted1 undoable1 kinds1 tempers1 notes1 past1 counts2 people2 day2 listed2 followed2 struck2 noted2 undoable2 kinds2 tempers2 notes2 past2 counts3 people3 day3 listed3 followed3 struck3 noted3 undoable3 kinds3 tempers3 notes3 past3 keptz wkind wtemper wcounts wday wlisted wfollowed xlength xstart xbehind xsort xnumber xbytes) (fun z => some (.int z.1)) (fun z => (wX E a fabove fbelow z.2 rno rfull counts0 people0 day0 listed0 followed0 struck0 noted0 undoable0 kinds0 tempers0 notes0 past0 counts1 people1 day1 listed1 followed1 struck1 noted1 undoable1 kinds1 tempers1 notes1 past1 counts2 people2 day2 listed2 followed2 struck2 noted2 undoable2 kinds2 tempers2 notes2 past2 counts3 people3 day3 listed3 followed3 struck3 noted3 undoable3 kinds3 tempers3 notes3 past3 keptz wkind wtemper wcounts wday wlisted wfollowed xlength xstart xbehind xsort xnumber xbytes)) (m_X3_is rbad people0 noted0 notes0 p) := by
  refine wl_enter (own := RX3) (by decide +kernel) rfl (Nat.le_of_ble_eq_true rfl) ?_
  intro p0 e0 s0 m0 bl0 mt0 c0 A hC hr hlk hA H locs hP hD hS ls hl
  have hx := hC.1
  have hb := hC.2.1
  have hl : lv_has ls 2 [(0, .ref (a 0)), (1, .int p)] := hl
  have hm := m_X3_is.eq_1 rbad people0 noted0 notes0 p
  refine lv_aload_n hx hb dX3_is_0 rfl (lv_at hl 0 rfl) ?_
  refine lv_iload_n hx hb dX3_is_1 rfl (lv_at hl 1 rfl) ?_
  refine wl_callVi hC (c_X3_isThere (p := p) ) lk_RX3_86 rfl ⟨rfl, rfl, Nat.le_of_ble_eq_true rfl, Nat.le_of_ble_eq_true rfl⟩ hP hD hS hA 0 rfl (T1 := 11) rfl hl.1 rfl (Nat.le_of_ble_eq_true rfl) dX3_is_2 ⟨Nat.zero_le _, Nat.zero_le _⟩ (fun z1 hz1 H locs hP hD hS => ?_)
  have hm := wl_bz hm hz1
  refine wl_if_ne_b hx hb (tgt := 13) dX3_is_5 (by decide) (fun c2 => ?_) (fun c2 => ?_)
  · have hm := hm.trans (if_pos c2)
    refine lv_aload_n hx hb dX3_is_13 rfl (lv_at hl 0 rfl) ?_
    refine g_X_0_now hC hP mw_202 dX3_is_14 ?_
    refine lv_iload_n hx hb dX3_is_17 rfl (lv_at hl 1 rfl) ?_
    refine wl_callVi hC (c_X1_kindsByNotes__X_1 (p := p) (by first | assumption | omega)) lk_RX3_170 rfl ⟨rfl, rfl, Nat.le_of_ble_eq_true rfl, Nat.le_of_ble_eq_true rfl⟩ hP hD hS hA 1 rfl (T1 := 12) rfl hl.1 rfl (Nat.le_of_ble_eq_true rfl) dX3_is_18 ⟨Nat.zero_le _, Nat.zero_le _⟩ (fun z3 hz3 H locs hP hD hS => ?_)
    have hm := wl_bz hm hz3
    exact wl_iret hC hr hlk hm rfl hP hD hS dX3_is_21
  · have hm := hm.trans (if_neg c2)
    refine lv_aload_n hx hb dX3_is_8 rfl (lv_at hl 0 rfl) ?_
    refine wl_callVi hC (c_X3_refuseBad  ) lk_RX3_52 rfl ⟨rfl, rfl, Nat.le_of_ble_eq_true rfl, Nat.le_of_ble_eq_true rfl⟩ hP hD hS hA 0 rfl (T1 := 11) rfl hl.1 rfl (Nat.le_of_ble_eq_true rfl) dX3_is_9 ⟨Nat.zero_le _, Nat.zero_le _⟩ (fun z4 hz4 H locs hP hD hS => ?_)
    have hm := wl_bz hm hz4
    exact wl_iret hC hr hlk hm rfl hP hD hS dX3_is_12
def m_X3_look_l48 (t : Int32) (z7 : Int32) (k9 : Nat) (v9 : Nat × Int32) : Nat × Int32 := (wl_bnd ((if k9 < 6 then false else true) : Bool) (fun z11 => (wl_bnd (m_X3_mostAlike z7 (nI (k9 % 6)) z11 (nI (cl t))) (fun z13 => (if v9.2 ≤ z13 then (v9.1, v9.2) else (k9, z13))))))
def m_X3_look (rbad : Int32) (people0 : Nat) (noted0 : Nat) (notes0 : (Nat → Int32)) (p : Int32) (t : Int32) : Int32 × Int32 := (wl_bnd (m_X3_isThere people0 p) (fun z1 => (if z1 = true then (wl_bnd (m_X3_isWithin t (nI 0) (nI 99)) (fun z4 => (if z4 = true then (wl_bnd (m_X1_kindsByNotes noted0 notes0 p) (fun z7 => (if z7 = 0 then ((-1), rbad) else (wl_bnd (wl_iter (m_X3_look_l48 t z7) 12 0 (0, (nI 7))) (fun z9 => ((nI z9.1), rbad)))))) else (wl_bnd (m_X3_refuseBad rbad) (fun z16 => (z16.1, z16.2)))))) else (wl_bnd (m_X3_refuseBad rbad) (fun z3 => (z3.1, z3.2))))))
set_option maxHeartbeats 4000000 in
set_option maxRecDepth 100000 in
theorem c_X3_look {l : Launch} {D : va_G} {E : Nat → ClassId} {a : Nat → Nat} {fabove : Int64} {fbelow : Int64} {rbad : Int32} {rno : Int32} {rfull : Int32} {counts0 : Int32} {people0 : Nat} {day0 : Int32} {listed0 : Int32} {followed0 : Int32} {struck0 : Int32} {noted0 : Nat} {undoable0 : Nat} {kinds0 : (Nat → Int32)} {tempers0 : (Nat → Int32)} {notes0 : (Nat → Int32)} {past0 : (Nat → Int32)} {counts1 : Int32} {people1 : Nat} {day1 : Int32} {listed1 : Int32} {followed1 : Int32} {struck1 : Int32} {noted1 : Nat} {undoable1 : Nat} {kinds1 : (Nat → Int32)} {tempers1 : (Nat → Int32)} {notes1 : (Nat → Int32)} {past1 : (Nat → Int32)} {counts2 : Int32} {people2 : Nat} {day2 : Int32} {listed2 : Int32} {followed2 : Int32} {struck2 : Int32} {noted2 : Nat} {undoable2 : Nat} {kinds2 : (Nat → Int32)} {tempers2 : (Nat → Int32)} {notes2 : (Nat → Int32)} {past2 : (Nat → Int32)} {counts3 : Int32} {people3 : Nat} {day3 : Int32} {listed3 : Int32} {followed3 : Int32} {struck3 : Int32} {noted3 : Nat} {undoable3 : Nat} {kinds3 : (Nat → Int32)} {tempers3 : (Nat → Int32)} {notes3 : (Nat → Int32)} {past3 : (Nat → Int32)} {keptz : (Nat → Int32)} {wkind : Int32} {wtemper : Int32} {wcounts : Int32} {wday : Int32} {wlisted : Bool} {wfollowed : Bool} {xlength : Nat} {xstart : Nat} {xbehind : Nat} {xsort : Int32} {xnumber : Int32} {xbytes : (Nat → Int32)} {p : Int32} {t : Int32} (hP7 : people0 ≤ 7) (hN6 : noted0 ≤ 6) : wl_Met (τ := Int32 × Int32) l D E yX3_look cX3_look 8 (some .int) ({ frames := 4, cells := 0, slots := 0, locals := 98 } : Room) [.ref (a 0), .int p, .int t] (wX E a fabove fbelow rbad rno rfull counts0 people0 day0 listed0 followed0 struck0 noted0 undoable0 kinds0 tempers0 notes0 past0 counts1 people1 day1 listed1 followed1 struck1 noted1 undoable1 kinds1 tempers1 notes1 past1 counts2 people2 day2 listed2 followed2 struck2 noted2 undoable2 kinds2 tempers2 notes2 past2 counts3 people3 day3 listed3 followed3 struck3 noted3 undoable3 kinds3 tempers3 notes3 past3 keptz wkind wtemper wcounts wday wlisted wfollowed xlength xstart xbehind xsort xnumber xbytes) (fun z => some (.int z.1)) (fun z => (wX E a fabove fbelow z.2 rno rfull counts0 people0 day0 listed0 followed0 struck0 noted0 undoable0 kinds0 tempers0 notes0 past0 counts1 people1 day1 listed1 followed1 struck1 noted1 undoable1 kinds1 tempers1 notes1 past1 counts2 people2 day2 listed2 followed2 struck2 noted2 undoable2 kinds2 tempers2 notes2 past2 counts3 people3 day3 listed3 followed3 struck3 noted3 undoable3 kinds3 tempers3 notes3 past3 keptz wkind wtemper wcounts wday wlisted wfollowed xlength xstart xbehind xsort xnumber xbytes)) (m_X3_look rbad people0 noted0 notes0 p t) := by
  refine wl_enter (own := RX3) (by decide +kernel) rfl (Nat.le_of_ble_eq_true rfl) ?_
  intro p0 e0 s0 m0 bl0 mt0 c0 A hC hr hlk hA H locs hP hD hS ls hl
  have hx := hC.1
  have hb := hC.2.1
  have hl : lv_has ls 8 [(0, .ref (a 0)), (1, .int p), (2, .int t)] := hl
  have hm := m_X3_look.eq_1 rbad people0 noted0 notes0 p t
  refine lv_aload_n hx hb dX3_look_0 rfl (lv_at hl 0 rfl) ?_
  refine lv_iload_n hx hb dX3_look_1 rfl (lv_at hl 1 rfl) ?_
  refine wl_callVi hC (c_X3_isThere (p := p) ) lk_RX3_86 rfl ⟨rfl, rfl, Nat.le_of_ble_eq_true rfl, Nat.le_of_ble_eq_true rfl⟩ hP hD hS hA 0 rfl (T1 := 11) rfl hl.1 rfl (Nat.le_of_ble_eq_true rfl) dX3_look_2 ⟨Nat.zero_le _, Nat.zero_le _⟩ (fun z1 hz1 H locs hP hD hS => ?_)
  have hm := wl_bz hm hz1
  refine wl_if_eq_b hx hb (tgt := 18) dX3_look_5 (by decide) (fun c2 => ?_) (fun c2 => ?_)
  · have hm := hm.trans (if_neg c2)
    refine lv_aload_n hx hb dX3_look_18 rfl (lv_at hl 0 rfl) ?_
    refine wl_callVi hC (c_X3_refuseBad  ) lk_RX3_52 rfl ⟨rfl, rfl, Nat.le_of_ble_eq_true rfl, Nat.le_of_ble_eq_true rfl⟩ hP hD hS hA 0 rfl (T1 := 11) rfl hl.1 rfl (Nat.le_of_ble_eq_true rfl) dX3_look_19 ⟨Nat.zero_le _, Nat.zero_le _⟩ (fun z3 hz3 H locs hP hD hS => ?_)
    have hm := wl_bz hm hz3
    exact wl_iret hC hr hlk hm rfl hP hD hS dX3_look_22
  · have hm := hm.trans (if_pos c2)
    refine lv_iload_n hx hb dX3_look_8 rfl (lv_at hl 2 rfl) ?_
    refine lv_iconst (v := (nI 0)) hx hb dX3_look_9 (by decide +kernel) ?_
    refine lv_bipush (v := (nI 99)) hx hb dX3_look_10 (by decide +kernel) ?_
    refine wl_callPi hC (c_X3_isWithin (v := t) (least := (nI 0)) (most := (nI 99)) ) lk_RX3_48 rfl ⟨rfl, rfl, Nat.le_of_ble_eq_true rfl, Nat.le_of_ble_eq_true rfl⟩ hP hS hA hl.1 rfl (Nat.le_of_ble_eq_true rfl) dX3_look_12 ⟨Nat.zero_le _, Nat.zero_le _⟩ (fun z4 hz4 H locs hP hS => ?_)
    have hm := wl_bz hm hz4
    refine wl_if_ne_b hx hb (tgt := 23) dX3_look_15 (by decide) (fun c5 => ?_) (fun c5 => ?_)
    · have hm := hm.trans (if_pos c5)
      obtain ⟨ha6, hb6_, hc6_⟩ := within_spec (a := 0) (b := 99) (by decide) (by decide) (hz4.symm.trans c5)
      have hl : lv_has ls 8 [(0, .ref (a 0)), (1, .int p), (2, .int (nI (cl t)))] := by rw [← ha6]; exact hl
      refine lv_aload_n hx hb dX3_look_23 rfl (lv_at hl 0 rfl) ?_
      refine g_X_0_now hC hP mw_202 dX3_look_24 ?_
      refine lv_iload_n hx hb dX3_look_27 rfl (lv_at hl 1 rfl) ?_
      refine wl_callVi hC (c_X1_kindsByNotes__X_1 (p := p) (by first | assumption | omega)) lk_RX3_170 rfl ⟨rfl, rfl, Nat.le_of_ble_eq_true rfl, Nat.le_of_ble_eq_true rfl⟩ hP hD hS hA 1 rfl (T1 := 12) rfl hl.1 rfl (Nat.le_of_ble_eq_true rfl) dX3_look_28 ⟨Nat.zero_le _, Nat.zero_le _⟩ (fun z7 hz7 H locs hP hD hS => ?_)
      have hm := wl_bz hm hz7
      refine lv_istore_n (lv' := [(3, .int z7), (0, .ref (a 0)), (1, .int p), (2, .int (nI (cl t)))]) hx hb dX3_look_31 rfl hl (by decide) rfl (fun ls hl => ?_)
      refine lv_iload_n hx hb dX3_look_32 rfl (lv_at hl 0 rfl) ?_
      refine lv_if_ne hx hb (tgt := 38) dX3_look_33 (by decide) (fun c8 => ?_) (fun c8 => ?_)
      · have hm := hm.trans (if_neg c8)
        refine lv_iconst (v := (nI 0)) hx hb dX3_look_38 (by decide +kernel) ?_
        refine lv_istore (lv' := [(4, .int (nI 0)), (3, .int z7), (0, .ref (a 0)), (1, .int p), (2, .int (nI (cl t)))]) hx hb dX3_look_39 hl (by decide) rfl (fun ls hl => ?_)
        refine lv_bipush (v := (nI 7)) hx hb dX3_look_41 (by decide +kernel) ?_
        refine lv_istore (lv' := [(5, .int (nI 7)), (4, .int (nI 0)), (3, .int z7), (0, .ref (a 0)), (1, .int p), (2, .int (nI (cl t)))]) hx hb dX3_look_43 hl (by decide) rfl (fun ls hl => ?_)
        refine lv_iconst (v := (nI 0)) hx hb dX3_look_45 (by decide +kernel) ?_
        refine lv_istore (lv' := [(6, .int (nI 0)), (5, .int (nI 7)), (4, .int (nI 0)), (3, .int z7), (0, .ref (a 0)), (1, .int p), (2, .int (nI (cl t)))]) hx hb dX3_look_46 hl (by decide) rfl (fun ls hl => ?_)
        obtain ⟨u9, hu9, hk9⟩ := wl_bx hm
        refine wl_for (D := D) (A := A) (H0 := s0.heap) (m_X3_look_l48 t z7) 12 0 12 (0, (nI 7)) 48 8 (fun k9 v9 => [(2, .int (nI (cl t))), (3, .int z7), (4, .int (nI v9.1)), (5, .int v9.2), (6, .int (nI k9))]) (fun k9 v9 => (wX E a fabove fbelow rbad rno rfull counts0 people0 day0 listed0 followed0 struck0 noted0 undoable0 kinds0 tempers0 notes0 past0 counts1 people1 day1 listed1 followed1 struck1 noted1 undoable1 kinds1 tempers1 notes1 past1 counts2 people2 day2 listed2 followed2 struck2 noted2 undoable2 kinds2 tempers2 notes2 past2 counts3 people3 day3 listed3 followed3 struck3 noted3 undoable3 kinds3 tempers3 notes3 past3 keptz wkind wtemper wcounts wday wlisted wfollowed xlength xstart xbehind xsort xnumber xbytes)) (fun k9 v9 => True) (by omega) trivial ?_ ?_ hP hD hS (lv_sub hl [6, 3, 2, 1, 0] rfl)
        · intro z9 hv9 hI9 ls H locs hP hD hS hl
          have hm := hk9 z9 (hu9.trans hv9)
          refine lv_iload hx hb dX3_look_48 (lv_at hl 4 rfl) ?_
          refine lv_bipush (v := (nI 12)) hx hb dX3_look_50 (by decide +kernel) ?_
          refine wl_icmp_ge_n hx hb (by first | omega | exact Nat.lt_of_le_of_lt Nat.and_le_right (by omega) | exact Nat.pow_lt_pow_right (by omega) (by omega) | exact Nat.lt_trans (by assumption) (Nat.pow_lt_pow_right (by omega) (by omega))) (by first | omega | exact Nat.lt_of_le_of_lt Nat.and_le_right (by omega) | exact Nat.pow_lt_pow_right (by omega) (by omega) | exact Nat.lt_trans (by assumption) (Nat.pow_lt_pow_right (by omega) (by omega))) (tgt := 100) dX3_look_52 (by decide) (fun c15 => ?_) (fun c15 => absurd (by omega) c15)
          refine lv_iload hx hb dX3_look_100 (lv_at hl 2 rfl) ?_
          exact wl_iret hC hr hlk hm rfl hP hD hS dX3_look_102
        · intro k9 v9 hlo9 hhi9 hI9 IH9 ls H locs hP hD hS hl
          have hb9 := m_X3_look_l48.eq_1 t z7 k9 v9
          refine lv_iload hx hb dX3_look_48 (lv_at hl 4 rfl) ?_
          refine lv_bipush (v := (nI 12)) hx hb dX3_look_50 (by decide +kernel) ?_
          refine wl_icmp_ge_n hx hb (by first | omega | exact Nat.lt_of_le_of_lt Nat.and_le_right (by omega) | exact Nat.pow_lt_pow_right (by omega) (by omega) | exact Nat.lt_trans (by assumption) (Nat.pow_lt_pow_right (by omega) (by omega))) (by first | omega | exact Nat.lt_of_le_of_lt Nat.and_le_right (by omega) | exact Nat.pow_lt_pow_right (by omega) (by omega) | exact Nat.lt_trans (by assumption) (Nat.pow_lt_pow_right (by omega) (by omega))) (tgt := 100) dX3_look_52 (by decide) (fun c10 => absurd c10 (by omega)) (fun c10 => ?_)
          refine lv_iload_n hx hb dX3_look_55 rfl (lv_at hl 1 rfl) ?_
          refine lv_iload hx hb dX3_look_56 (lv_at hl 4 rfl) ?_
          refine lv_bipush (v := (nI 6)) hx hb dX3_look_58 (by decide +kernel) ?_
          refine lv_irem hx hb dX3_look_60 (nI_ne0 (by omega) (by omega)) ?_
          refine wl_re (pk_rem (by omega) (by omega) (by omega)) ?_
          refine lv_iload hx hb dX3_look_61 (lv_at hl 4 rfl) ?_
          refine lv_bipush (v := (nI 6)) hx hb dX3_look_63 (by decide +kernel) ?_
          obtain ⟨u11, hj11, hk11⟩ := wl_bx hb9
          refine wl_J u11 73 (fun z11 => [.int (wl_b z11), .int (nI (k9 % 6)), .int z7]) 8 (fun z11 => [(2, .int (nI (cl t))), (3, .int z7), (4, .int (nI v9.1)), (5, .int v9.2), (6, .int (nI k9))]) D A s0.heap (fun z11 => (wX E a fabove fbelow rbad rno rfull counts0 people0 day0 listed0 followed0 struck0 noted0 undoable0 kinds0 tempers0 notes0 past0 counts1 people1 day1 listed1 followed1 struck1 noted1 undoable1 kinds1 tempers1 notes1 past1 counts2 people2 day2 listed2 followed2 struck2 noted2 undoable2 kinds2 tempers2 notes2 past2 counts3 people3 day3 listed3 followed3 struck3 noted3 undoable3 kinds3 tempers3 notes3 past3 keptz wkind wtemper wcounts wday wlisted wfollowed xlength xstart xbehind xsort xnumber xbytes)) (fun z11 hz11 ls H locs hP hD hS hl => ?_) (fun J11 => ?_)
          · have hb9 := hk11 z11 hz11
            refine lv_iload_n hx hb dX3_look_73 rfl (lv_at hl 0 rfl) ?_
            refine wl_callPi hC (c_X3_mostAlike (kinds := z7) (day := (nI (k9 % 6))) (followed := z11) (temper := (nI (cl t))) ) lk_RX3_173 rfl ⟨rfl, rfl, Nat.le_of_ble_eq_true rfl, Nat.le_of_ble_eq_true rfl⟩ hP hS hA hl.1 rfl (Nat.le_of_ble_eq_true rfl) dX3_look_74 ⟨Nat.zero_le _, Nat.zero_le _⟩ (fun z13 hz13 H locs hP hS => ?_)
            have hb9 := wl_bz hb9 hz13
            refine lv_istore (lv' := [(7, .int z13), (2, .int (nI (cl t))), (3, .int z7), (4, .int (nI v9.1)), (5, .int v9.2), (6, .int (nI k9))]) hx hb dX3_look_77 hl (by decide) rfl (fun ls hl => ?_)
            refine lv_iload hx hb dX3_look_79 (lv_at hl 0 rfl) ?_
            refine lv_iload hx hb dX3_look_81 (lv_at hl 4 rfl) ?_
            refine lv_icmp_ge hx hb (tgt := 94) dX3_look_83 (by decide) (fun c14 => ?_) (fun c14 => ?_)
            · have hb9 := hb9.trans (if_pos c14)
              refine lv_iinc (v := (nI (k9 + 1))) (lv' := [(6, .int (nI (k9 + 1))), (7, .int z13), (2, .int (nI (cl t))), (3, .int z7), (4, .int (nI v9.1)), (5, .int v9.2)]) hx hb dX3_look_94 hl (k := 5) rfl (wl_inc k9 1) (by decide) rfl (fun ls hl => ?_)
              refine lv_goto (tgt := 48) hx hb dX3_look_97 (by decide) ?_
              exact IH9 _ hb9 trivial ls H locs hP hD hS (lv_sub hl [2, 3, 4, 5, 0] rfl)
            · have hb9 := hb9.trans (if_neg c14)
              refine lv_iload hx hb dX3_look_86 (lv_at hl 0 rfl) ?_
              refine lv_istore (lv' := [(5, .int z13), (7, .int z13), (2, .int (nI (cl t))), (3, .int z7), (4, .int (nI v9.1)), (6, .int (nI k9))]) hx hb dX3_look_88 hl (by decide) rfl (fun ls hl => ?_)
              refine lv_iload hx hb dX3_look_90 (lv_at hl 5 rfl) ?_
              refine lv_istore (lv' := [(4, .int (nI k9)), (5, .int z13), (7, .int z13), (2, .int (nI (cl t))), (3, .int z7), (6, .int (nI k9))]) hx hb dX3_look_92 hl (by decide) rfl (fun ls hl => ?_)
              refine lv_iinc (v := (nI (k9 + 1))) (lv' := [(6, .int (nI (k9 + 1))), (4, .int (nI k9)), (5, .int z13), (7, .int z13), (2, .int (nI (cl t))), (3, .int z7)]) hx hb dX3_look_94 hl (k := 5) rfl (wl_inc k9 1) (by decide) rfl (fun ls hl => ?_)
              refine lv_goto (tgt := 48) hx hb dX3_look_97 (by decide) ?_
              exact IH9 _ hb9 trivial ls H locs hP hD hS (lv_sub hl [4, 5, 1, 2, 0] rfl)
          · refine wl_icmp_lt_n hx hb (by first | omega | exact Nat.lt_of_le_of_lt Nat.and_le_right (by omega) | exact Nat.pow_lt_pow_right (by omega) (by omega) | exact Nat.lt_trans (by assumption) (Nat.pow_lt_pow_right (by omega) (by omega))) (by first | omega | exact Nat.lt_of_le_of_lt Nat.and_le_right (by omega) | exact Nat.pow_lt_pow_right (by omega) (by omega) | exact Nat.lt_trans (by assumption) (Nat.pow_lt_pow_right (by omega) (by omega))) (tgt := 72) dX3_look_65 (by decide) (fun c12 => ?_) (fun c12 => ?_)
            · have hj11 := hj11.trans (if_pos c12)
              refine lv_iconst (v := (nI 0)) hx hb dX3_look_72 (by decide +kernel) ?_
              exact J11 _ hj11 ls H locs hP hD hS (lv_sub hl [0, 1, 2, 3, 4] rfl)
            · have hj11 := hj11.trans (if_neg c12)
              refine lv_iconst (v := (nI 1)) hx hb dX3_look_68 (by decide +kernel) ?_
              refine lv_goto (tgt := 73) hx hb dX3_look_69 (by decide) ?_
              exact J11 _ hj11 ls H locs hP hD hS (lv_sub hl [0, 1, 2, 3, 4] rfl)
      · have hm := hm.trans (if_pos c8)
        refine lv_iconst (v := (-1)) hx hb dX3_look_36 (by decide +kernel) ?_
        exact wl_iret hC hr hlk hm rfl hP hD hS dX3_look_37
    · have hm := hm.trans (if_neg c5)
      refine lv_aload_n hx hb dX3_look_18 rfl (lv_at hl 0 rfl) ?_
      refine wl_callVi hC (c_X3_refuseBad  ) lk_RX3_52 rfl ⟨rfl, rfl, Nat.le_of_ble_eq_true rfl, Nat.le_of_ble_eq_true rfl⟩ hP hD hS hA 0 rfl (T1 := 11) rfl hl.1 rfl (Nat.le_of_ble_eq_true rfl) dX3_look_19 ⟨Nat.zero_le _, Nat.zero_le _⟩ (fun z16 hz16 H locs hP hD hS => ?_)
      have hm := wl_bz hm hz16
      exact wl_iret hC hr hlk hm rfl hP hD hS dX3_look_22
def m_X3_tempersOfSource_l15 (tempers0 : (Nat → Int32)) (k1 : Nat) (k3 : Nat) (v3 : Int32) : Int32 := (wl_bnd ((if (tempers0 k3) < (nI k1) then false else true) : Bool) (fun z5 => (wl_bnd (m_X3_withBit v3 k3 (wl_b z5)) (fun z7 => z7))))
def m_X3_tempersOfSource_l4 (people0 : Nat) (listed0 : Int32) (tempers0 : (Nat → Int32)) (k1 : Nat) (v1 : Nat) : Nat := (wl_bnd (wl_iter (m_X3_tempersOfSource_l15 tempers0 k1) people0 0 (nI 0)) (fun z3 => (if z3 = listed0 then (v1 + 1) else v1)))
def m_X3_tempersOfSource (people0 : Nat) (listed0 : Int32) (tempers0 : (Nat → Int32)) : Nat := (wl_bnd (wl_iter (m_X3_tempersOfSource_l4 people0 listed0 tempers0) 101 0 0) (fun z1 => z1))
set_option maxHeartbeats 4000000 in
set_option maxRecDepth 100000 in
theorem c_X3_tempersOfSource {l : Launch} {D : va_G} {E : Nat → ClassId} {a : Nat → Nat} {fabove : Int64} {fbelow : Int64} {rbad : Int32} {rno : Int32} {rfull : Int32} {counts0 : Int32} {people0 : Nat} {day0 : Int32} {listed0 : Int32} {followed0 : Int32} {struck0 : Int32} {noted0 : Nat} {undoable0 : Nat} {kinds0 : (Nat → Int32)} {tempers0 : (Nat → Int32)} {notes0 : (Nat → Int32)} {past0 : (Nat → Int32)} {counts1 : Int32} {people1 : Nat} {day1 : Int32} {listed1 : Int32} {followed1 : Int32} {struck1 : Int32} {noted1 : Nat} {undoable1 : Nat} {kinds1 : (Nat → Int32)} {tempers1 : (Nat → Int32)} {notes1 : (Nat → Int32)} {past1 : (Nat → Int32)} {counts2 : Int32} {people2 : Nat} {day2 : Int32} {listed2 : Int32} {followed2 : Int32} {struck2 : Int32} {noted2 : Nat} {undoable2 : Nat} {kinds2 : (Nat → Int32)} {tempers2 : (Nat → Int32)} {notes2 : (Nat → Int32)} {past2 : (Nat → Int32)} {counts3 : Int32} {people3 : Nat} {day3 : Int32} {listed3 : Int32} {followed3 : Int32} {struck3 : Int32} {noted3 : Nat} {undoable3 : Nat} {kinds3 : (Nat → Int32)} {tempers3 : (Nat → Int32)} {notes3 : (Nat → Int32)} {past3 : (Nat → Int32)} {keptz : (Nat → Int32)} {wkind : Int32} {wtemper : Int32} {wcounts : Int32} {wday : Int32} {wlisted : Bool} {wfollowed : Bool} {xlength : Nat} {xstart : Nat} {xbehind : Nat} {xsort : Int32} {xnumber : Int32} {xbytes : (Nat → Int32)}  (hP7 : people0 ≤ 7) : wl_Met (τ := Nat) l D E yX3_tempersOfSource cX3_tempersOfSource 5 (some .int) ({ frames := 1, cells := 0, slots := 0, locals := 22 } : Room) [.ref (a 0)] (wX E a fabove fbelow rbad rno rfull counts0 people0 day0 listed0 followed0 struck0 noted0 undoable0 kinds0 tempers0 notes0 past0 counts1 people1 day1 listed1 followed1 struck1 noted1 undoable1 kinds1 tempers1 notes1 past1 counts2 people2 day2 listed2 followed2 struck2 noted2 undoable2 kinds2 tempers2 notes2 past2 counts3 people3 day3 listed3 followed3 struck3 noted3 undoable3 kinds3 tempers3 notes3 past3 keptz wkind wtemper wcounts wday wlisted wfollowed xlength xstart xbehind xsort xnumber xbytes) (fun z => some (.int (nI z))) (fun _ => (wX E a fabove fbelow rbad rno rfull counts0 people0 day0 listed0 followed0 struck0 noted0 undoable0 kinds0 tempers0 notes0 past0 counts1 people1 day1 listed1 followed1 struck1 noted1 undoable1 kinds1 tempers1 notes1 past1 counts2 people2 day2 listed2 followed2 struck2 noted2 undoable2 kinds2 tempers2 notes2 past2 counts3 people3 day3 listed3 followed3 struck3 noted3 undoable3 kinds3 tempers3 notes3 past3 keptz wkind wtemper wcounts wday wlisted wfollowed xlength xstart xbehind xsort xnumber xbytes)) (m_X3_tempersOfSource people0 listed0 tempers0) := by
  refine wl_enter (own := RX3) (by decide +kernel) rfl (Nat.le_of_ble_eq_true rfl) ?_
  intro p0 e0 s0 m0 bl0 mt0 c0 A hC hr hlk hA H locs hP hD hS ls hl
  have hx := hC.1
  have hb := hC.2.1
  have hl : lv_has ls 5 [(0, .ref (a 0))] := hl
  have hm := m_X3_tempersOfSource.eq_1 people0 listed0 tempers0
  refine lv_iconst (v := (nI 0)) hx hb dX3_tempersOfSource_0 (by decide +kernel) ?_
  refine lv_istore_n (lv' := [(1, .int (nI 0)), (0, .ref (a 0))]) hx hb dX3_tempersOfSource_1 rfl hl (by decide) rfl (fun ls hl => ?_)
  refine lv_iconst (v := (nI 0)) hx hb dX3_tempersOfSource_2 (by decide +kernel) ?_
  refine lv_istore_n (lv' := [(2, .int (nI 0)), (1, .int (nI 0)), (0, .ref (a 0))]) hx hb dX3_tempersOfSource_3 rfl hl (by decide) rfl (fun ls hl => ?_)
  obtain ⟨u1, hu1, hk1⟩ := wl_bx hm
  refine wl_for (D := D) (A := A) (H0 := s0.heap) (m_X3_tempersOfSource_l4 people0 listed0 tempers0) 101 0 101 0 4 5 (fun k1 v1 => [(0, .ref (a 0)), (1, .int (nI v1)), (2, .int (nI k1))]) (fun k1 v1 => (wX E a fabove fbelow rbad rno rfull counts0 people0 day0 listed0 followed0 struck0 noted0 undoable0 kinds0 tempers0 notes0 past0 counts1 people1 day1 listed1 followed1 struck1 noted1 undoable1 kinds1 tempers1 notes1 past1 counts2 people2 day2 listed2 followed2 struck2 noted2 undoable2 kinds2 tempers2 notes2 past2 counts3 people3 day3 listed3 followed3 struck3 noted3 undoable3 kinds3 tempers3 notes3 past3 keptz wkind wtemper wcounts wday wlisted wfollowed xlength xstart xbehind xsort xnumber xbytes)) (fun k1 v1 => True) (by omega) trivial ?_ ?_ hP hD hS (lv_sub hl [2, 1, 0] rfl)
  · intro z1 hv1 hI1 ls H locs hP hD hS hl
    have hm := hk1 z1 (hu1.trans hv1)
    refine lv_iload_n hx hb dX3_tempersOfSource_4 rfl (lv_at hl 2 rfl) ?_
    refine lv_bipush (v := (nI 100)) hx hb dX3_tempersOfSource_5 (by decide +kernel) ?_
    refine wl_icmp_gt_n hx hb (by first | omega | exact Nat.lt_of_le_of_lt Nat.and_le_right (by omega) | exact Nat.pow_lt_pow_right (by omega) (by omega) | exact Nat.lt_trans (by assumption) (Nat.pow_lt_pow_right (by omega) (by omega))) (by first | omega | exact Nat.lt_of_le_of_lt Nat.and_le_right (by omega) | exact Nat.pow_lt_pow_right (by omega) (by omega) | exact Nat.lt_trans (by assumption) (Nat.pow_lt_pow_right (by omega) (by omega))) (tgt := 79) dX3_tempersOfSource_7 (by decide) (fun c10 => ?_) (fun c10 => absurd (by omega) c10)
    refine lv_iload_n hx hb dX3_tempersOfSource_79 rfl (lv_at hl 1 rfl) ?_
    exact wl_iret hC hr hlk hm rfl hP hD hS dX3_tempersOfSource_80
  · intro k1 v1 hlo1 hhi1 hI1 IH1 ls H locs hP hD hS hl
    have hb1 := m_X3_tempersOfSource_l4.eq_1 people0 listed0 tempers0 k1 v1
    refine lv_iload_n hx hb dX3_tempersOfSource_4 rfl (lv_at hl 2 rfl) ?_
    refine lv_bipush (v := (nI 100)) hx hb dX3_tempersOfSource_5 (by decide +kernel) ?_
    refine wl_icmp_gt_n hx hb (by first | omega | exact Nat.lt_of_le_of_lt Nat.and_le_right (by omega) | exact Nat.pow_lt_pow_right (by omega) (by omega) | exact Nat.lt_trans (by assumption) (Nat.pow_lt_pow_right (by omega) (by omega))) (by first | omega | exact Nat.lt_of_le_of_lt Nat.and_le_right (by omega) | exact Nat.pow_lt_pow_right (by omega) (by omega) | exact Nat.lt_trans (by assumption) (Nat.pow_lt_pow_right (by omega) (by omega))) (tgt := 79) dX3_tempersOfSource_7 (by decide) (fun c2 => absurd c2 (by omega)) (fun c2 => ?_)
    refine lv_iconst (v := (nI 0)) hx hb dX3_tempersOfSource_10 (by decide +kernel) ?_
    refine lv_istore_n (lv' := [(3, .int (nI 0)), (0, .ref (a 0)), (1, .int (nI v1)), (2, .int (nI k1))]) hx hb dX3_tempersOfSource_11 rfl hl (by decide) rfl (fun ls hl => ?_)
    refine lv_iconst (v := (nI 0)) hx hb dX3_tempersOfSource_12 (by decide +kernel) ?_
    refine lv_istore (lv' := [(4, .int (nI 0)), (3, .int (nI 0)), (0, .ref (a 0)), (1, .int (nI v1)), (2, .int (nI k1))]) hx hb dX3_tempersOfSource_13 hl (by decide) rfl (fun ls hl => ?_)
    obtain ⟨u3, hu3, hk3⟩ := wl_bx hb1
    refine wl_for (D := D) (A := A) (H0 := s0.heap) (m_X3_tempersOfSource_l15 tempers0 k1) people0 0 people0 (nI 0) 15 5 (fun k3 v3 => [(0, .ref (a 0)), (1, .int (nI v1)), (2, .int (nI k1)), (3, .int v3), (4, .int (nI k3))]) (fun k3 v3 => (wX E a fabove fbelow rbad rno rfull counts0 people0 day0 listed0 followed0 struck0 noted0 undoable0 kinds0 tempers0 notes0 past0 counts1 people1 day1 listed1 followed1 struck1 noted1 undoable1 kinds1 tempers1 notes1 past1 counts2 people2 day2 listed2 followed2 struck2 noted2 undoable2 kinds2 tempers2 notes2 past2 counts3 people3 day3 listed3 followed3 struck3 noted3 undoable3 kinds3 tempers3 notes3 past3 keptz wkind wtemper wcounts wday wlisted wfollowed xlength xstart xbehind xsort xnumber xbytes)) (fun k3 v3 => True) (by omega) trivial ?_ ?_ hP hD hS (lv_sub hl [2, 3, 4, 1, 0] rfl)
    · intro z3 hv3 hI3 ls H locs hP hD hS hl
      have hb1 := hk3 z3 (hu3.trans hv3)
      refine lv_iload hx hb dX3_tempersOfSource_15 (lv_at hl 4 rfl) ?_
      refine lv_aload_n hx hb dX3_tempersOfSource_17 rfl (lv_at hl 0 rfl) ?_
      refine g_X_0_now hC hP mw_202 dX3_tempersOfSource_18 ?_
      refine g_X_1_people hC hP mw_221 dX3_tempersOfSource_21 ?_
      refine wl_icmp_ge_n hx hb (by first | omega | exact Nat.lt_of_le_of_lt Nat.and_le_right (by omega) | exact Nat.pow_lt_pow_right (by omega) (by omega) | exact Nat.lt_trans (by assumption) (Nat.pow_lt_pow_right (by omega) (by omega))) (by first | omega | exact Nat.lt_of_le_of_lt Nat.and_le_right (by omega) | exact Nat.pow_lt_pow_right (by omega) (by omega) | exact Nat.lt_trans (by assumption) (Nat.pow_lt_pow_right (by omega) (by omega))) (tgt := 59) dX3_tempersOfSource_24 (by decide) (fun c8 => ?_) (fun c8 => absurd (by omega) c8)
      refine lv_iload_n hx hb dX3_tempersOfSource_59 rfl (lv_at hl 3 rfl) ?_
      refine lv_aload_n hx hb dX3_tempersOfSource_60 rfl (lv_at hl 0 rfl) ?_
      refine g_X_0_now hC hP mw_202 dX3_tempersOfSource_61 ?_
      refine g_X_1_listed hC hP mw_249 dX3_tempersOfSource_64 ?_
      refine lv_icmp_ne hx hb (tgt := 73) dX3_tempersOfSource_67 (by decide) (fun c9 => ?_) (fun c9 => ?_)
      · have hb1 := hb1.trans (if_neg c9)
        refine lv_iinc (v := (nI (k1 + 1))) (lv' := [(2, .int (nI (k1 + 1))), (0, .ref (a 0)), (1, .int (nI v1)), (3, .int z3), (4, .int (nI people0))]) hx hb dX3_tempersOfSource_73 hl (k := 2) rfl (wl_inc k1 1) (by decide) rfl (fun ls hl => ?_)
        refine lv_goto (tgt := 4) hx hb dX3_tempersOfSource_76 (by decide) ?_
        exact IH1 _ hb1 trivial ls H locs hP hD hS (lv_sub hl [1, 2, 0] rfl)
      · have hb1 := hb1.trans (if_pos c9)
        refine lv_iinc (v := (nI (v1 + 1))) (lv' := [(1, .int (nI (v1 + 1))), (0, .ref (a 0)), (2, .int (nI k1)), (3, .int z3), (4, .int (nI people0))]) hx hb dX3_tempersOfSource_70 hl (k := 1) rfl (wl_inc v1 1) (by decide) rfl (fun ls hl => ?_)
        refine lv_iinc (v := (nI (k1 + 1))) (lv' := [(2, .int (nI (k1 + 1))), (1, .int (nI (v1 + 1))), (0, .ref (a 0)), (3, .int z3), (4, .int (nI people0))]) hx hb dX3_tempersOfSource_73 hl (k := 2) rfl (wl_inc k1 1) (by decide) rfl (fun ls hl => ?_)
        refine lv_goto (tgt := 4) hx hb dX3_tempersOfSource_76 (by decide) ?_
        exact IH1 _ hb1 trivial ls H locs hP hD hS (lv_sub hl [2, 1, 0] rfl)
    · intro k3 v3 hlo3 hhi3 hI3 IH3 ls H locs hP hD hS hl
      have hb3 := m_X3_tempersOfSource_l15.eq_1 tempers0 k1 k3 v3
      refine lv_iload hx hb dX3_tempersOfSource_15 (lv_at hl 4 rfl) ?_
      refine lv_aload_n hx hb dX3_tempersOfSource_17 rfl (lv_at hl 0 rfl) ?_
      refine g_X_0_now hC hP mw_202 dX3_tempersOfSource_18 ?_
      refine g_X_1_people hC hP mw_221 dX3_tempersOfSource_21 ?_
      refine wl_icmp_ge_n hx hb (by first | omega | exact Nat.lt_of_le_of_lt Nat.and_le_right (by omega) | exact Nat.pow_lt_pow_right (by omega) (by omega) | exact Nat.lt_trans (by assumption) (Nat.pow_lt_pow_right (by omega) (by omega))) (by first | omega | exact Nat.lt_of_le_of_lt Nat.and_le_right (by omega) | exact Nat.pow_lt_pow_right (by omega) (by omega) | exact Nat.lt_trans (by assumption) (Nat.pow_lt_pow_right (by omega) (by omega))) (tgt := 59) dX3_tempersOfSource_24 (by decide) (fun c4 => absurd c4 (by omega)) (fun c4 => ?_)
      refine lv_iload_n hx hb dX3_tempersOfSource_27 rfl (lv_at hl 3 rfl) ?_
      refine lv_iload hx hb dX3_tempersOfSource_28 (lv_at hl 4 rfl) ?_
      refine lv_aload_n hx hb dX3_tempersOfSource_30 rfl (lv_at hl 0 rfl) ?_
      refine g_X_0_now hC hP mw_202 dX3_tempersOfSource_31 ?_
      refine g_X_1_tempers hC hP mw_282 dX3_tempersOfSource_34 ?_
      refine lv_iload hx hb dX3_tempersOfSource_37 (lv_at hl 4 rfl) ?_
      refine ld_X_3 hC hP k3 (by omega) dX3_tempersOfSource_39 ?_
      refine lv_iload_n hx hb dX3_tempersOfSource_40 rfl (lv_at hl 2 rfl) ?_
      obtain ⟨u5, hj5, hk5⟩ := wl_bx hb3
      refine wl_J u5 49 (fun z5 => [.int (wl_b z5), .int (nI k3), .int v3]) 5 (fun z5 => [(0, .ref (a 0)), (1, .int (nI v1)), (2, .int (nI k1)), (4, .int (nI k3))]) D A s0.heap (fun z5 => (wX E a fabove fbelow rbad rno rfull counts0 people0 day0 listed0 followed0 struck0 noted0 undoable0 kinds0 tempers0 notes0 past0 counts1 people1 day1 listed1 followed1 struck1 noted1 undoable1 kinds1 tempers1 notes1 past1 counts2 people2 day2 listed2 followed2 struck2 noted2 undoable2 kinds2 tempers2 notes2 past2 counts3 people3 day3 listed3 followed3 struck3 noted3 undoable3 kinds3 tempers3 notes3 past3 keptz wkind wtemper wcounts wday wlisted wfollowed xlength xstart xbehind xsort xnumber xbytes)) (fun z5 hz5 ls H locs hP hD hS hl => ?_) (fun J5 => ?_)
      · have hb3 := hk5 z5 hz5
        refine wl_callPi hC (c_X3_withBit (bits := v3) (i := k3) (is := (wl_b z5)) ) lk_RX3_99 rfl ⟨rfl, rfl, Nat.le_of_ble_eq_true rfl, Nat.le_of_ble_eq_true rfl⟩ hP hS hA hl.1 rfl (Nat.le_of_ble_eq_true rfl) dX3_tempersOfSource_49 ⟨Nat.zero_le _, Nat.zero_le _⟩ (fun z7 hz7 H locs hP hS => ?_)
        have hb3 := wl_bz hb3 hz7
        refine lv_istore_n (lv' := [(3, .int z7), (0, .ref (a 0)), (1, .int (nI v1)), (2, .int (nI k1)), (4, .int (nI k3))]) hx hb dX3_tempersOfSource_52 rfl hl (by decide) rfl (fun ls hl => ?_)
        refine lv_iinc (v := (nI (k3 + 1))) (lv' := [(4, .int (nI (k3 + 1))), (3, .int z7), (0, .ref (a 0)), (1, .int (nI v1)), (2, .int (nI k1))]) hx hb dX3_tempersOfSource_53 hl (k := 4) rfl (wl_inc k3 1) (by decide) rfl (fun ls hl => ?_)
        refine lv_goto (tgt := 15) hx hb dX3_tempersOfSource_56 (by decide) ?_
        exact IH3 _ hb3 trivial ls H locs hP hD hS (lv_sub hl [2, 3, 4, 1, 0] rfl)
      · refine lv_icmp_lt hx hb (tgt := 48) dX3_tempersOfSource_41 (by decide) (fun c6 => ?_) (fun c6 => ?_)
        · have hj5 := hj5.trans (if_pos c6)
          refine lv_iconst (v := (nI 0)) hx hb dX3_tempersOfSource_48 (by decide +kernel) ?_
          exact J5 _ hj5 ls H locs hP hD hS (lv_sub hl [0, 1, 2, 4] rfl)
        · have hj5 := hj5.trans (if_neg c6)
          refine lv_iconst (v := (nI 1)) hx hb dX3_tempersOfSource_44 (by decide +kernel) ?_
          refine lv_goto (tgt := 49) hx hb dX3_tempersOfSource_45 (by decide) ?_
          exact J5 _ hj5 ls H locs hP hD hS (lv_sub hl [0, 1, 2, 4] rfl)
def m_X3_kindsOfSource_l12 (kinds0 : (Nat → Int32)) (v1 : Nat) (k3 : Nat) (v3 : Int32) : Int32 := (wl_bnd ((if (kinds0 k3) = (nI v1) then true else false) : Bool) (fun z5 => (wl_bnd (m_X3_withBit v3 k3 (wl_b z5)) (fun z7 => z7))))
def m_X3_kindsOfSource_l2 (people0 : Nat) (listed0 : Int32) (kinds0 : (Nat → Int32)) (v1 : Nat) : (Nat) ⊕ (Nat) := (if 6 ≤ v1 then (Sum.inr 1) else (wl_bnd (wl_iter (m_X3_kindsOfSource_l12 kinds0 v1) people0 0 (nI 0)) (fun z3 => (if (z3 &&& listed0) = 0 then (Sum.inl (v1 + 1)) else (if (z3 &&& listed0) = z3 then (Sum.inl (v1 + 1)) else (Sum.inr 0))))))
def m_X3_kindsOfSource (people0 : Nat) (listed0 : Int32) (kinds0 : (Nat → Int32)) : Nat := (wl_run (m_X3_kindsOfSource_l2 people0 listed0 kinds0) default 7 0)
set_option maxHeartbeats 4000000 in
set_option maxRecDepth 100000 in
theorem c_X3_kindsOfSource {l : Launch} {D : va_G} {E : Nat → ClassId} {a : Nat → Nat} {fabove : Int64} {fbelow : Int64} {rbad : Int32} {rno : Int32} {rfull : Int32} {counts0 : Int32} {people0 : Nat} {day0 : Int32} {listed0 : Int32} {followed0 : Int32} {struck0 : Int32} {noted0 : Nat} {undoable0 : Nat} {kinds0 : (Nat → Int32)} {tempers0 : (Nat → Int32)} {notes0 : (Nat → Int32)} {past0 : (Nat → Int32)} {counts1 : Int32} {people1 : Nat} {day1 : Int32} {listed1 : Int32} {followed1 : Int32} {struck1 : Int32} {noted1 : Nat} {undoable1 : Nat} {kinds1 : (Nat → Int32)} {tempers1 : (Nat → Int32)} {notes1 : (Nat → Int32)} {past1 : (Nat → Int32)} {counts2 : Int32} {people2 : Nat} {day2 : Int32} {listed2 : Int32} {followed2 : Int32} {struck2 : Int32} {noted2 : Nat} {undoable2 : Nat} {kinds2 : (Nat → Int32)} {tempers2 : (Nat → Int32)} {notes2 : (Nat → Int32)} {past2 : (Nat → Int32)} {counts3 : Int32} {people3 : Nat} {day3 : Int32} {listed3 : Int32} {followed3 : Int32} {struck3 : Int32} {noted3 : Nat} {undoable3 : Nat} {kinds3 : (Nat → Int32)} {tempers3 : (Nat → Int32)} {notes3 : (Nat → Int32)} {past3 : (Nat → Int32)} {keptz : (Nat → Int32)} {wkind : Int32} {wtemper : Int32} {wcounts : Int32} {wday : Int32} {wlisted : Bool} {wfollowed : Bool} {xlength : Nat} {xstart : Nat} {xbehind : Nat} {xsort : Int32} {xnumber : Int32} {xbytes : (Nat → Int32)}  (hP7 : people0 ≤ 7) : wl_Met (τ := Nat) l D E yX3_kindsOfSource cX3_kindsOfSource 4 (some .int) ({ frames := 1, cells := 0, slots := 0, locals := 22 } : Room) [.ref (a 0)] (wX E a fabove fbelow rbad rno rfull counts0 people0 day0 listed0 followed0 struck0 noted0 undoable0 kinds0 tempers0 notes0 past0 counts1 people1 day1 listed1 followed1 struck1 noted1 undoable1 kinds1 tempers1 notes1 past1 counts2 people2 day2 listed2 followed2 struck2 noted2 undoable2 kinds2 tempers2 notes2 past2 counts3 people3 day3 listed3 followed3 struck3 noted3 undoable3 kinds3 tempers3 notes3 past3 keptz wkind wtemper wcounts wday wlisted wfollowed xlength xstart xbehind xsort xnumber xbytes) (fun z => some (.int (nI z))) (fun _ => (wX E a fabove fbelow rbad rno rfull counts0 people0 day0 listed0 followed0 struck0 noted0 undoable0 kinds0 tempers0 notes0 past0 counts1 people1 day1 listed1 followed1 struck1 noted1 undoable1 kinds1 tempers1 notes1 past1 counts2 people2 day2 listed2 followed2 struck2 noted2 undoable2 kinds2 tempers2 notes2 past2 counts3 people3 day3 listed3 followed3 struck3 noted3 undoable3 kinds3 tempers3 notes3 past3 keptz wkind wtemper wcounts wday wlisted wfollowed xlength xstart xbehind xsort xnumber xbytes)) (m_X3_kindsOfSource people0 listed0 kinds0) := by
  refine wl_enter (own := RX3) (by decide +kernel) rfl (Nat.le_of_ble_eq_true rfl) ?_
  intro p0 e0 s0 m0 bl0 mt0 c0 A hC hr hlk hA H locs hP hD hS ls hl
  have hx := hC.1
  have hb := hC.2.1
  have hl : lv_has ls 4 [(0, .ref (a 0))] := hl
  have hm := m_X3_kindsOfSource.eq_1 people0 listed0 kinds0
  refine lv_iconst (v := (nI 0)) hx hb dX3_kindsOfSource_0 (by decide +kernel) ?_
  refine lv_istore_n (lv' := [(1, .int (nI 0)), (0, .ref (a 0))]) hx hb dX3_kindsOfSource_1 rfl hl (by decide) rfl (fun ls hl => ?_)
  refine wl_while (D := D) (A := A) (H0 := s0.heap) (m_X3_kindsOfSource_l2 people0 listed0 kinds0) default 7 0 2 4 (fun v1 => [(0, .ref (a 0)), (1, .int (nI v1))]) (fun v1 => (wX E a fabove fbelow rbad rno rfull counts0 people0 day0 listed0 followed0 struck0 noted0 undoable0 kinds0 tempers0 notes0 past0 counts1 people1 day1 listed1 followed1 struck1 noted1 undoable1 kinds1 tempers1 notes1 past1 counts2 people2 day2 listed2 followed2 struck2 noted2 undoable2 kinds2 tempers2 notes2 past2 counts3 people3 day3 listed3 followed3 struck3 noted3 undoable3 kinds3 tempers3 notes3 past3 keptz wkind wtemper wcounts wday wlisted wfollowed xlength xstart xbehind xsort xnumber xbytes)) (fun v1 => (v1 ≤ 6)) (fun v1 => 6 - v1) (by show 0 ≤ 6; omega) (by show 6 - 0 < 7; first | decide | omega) ?_ hP hD hS (lv_sub hl [1, 0] rfl)
  intro v1 hI1 EX1 IH1 ls H locs hP hD hS hl
  have i1 := hI1
  have hb1 := m_X3_kindsOfSource_l2.eq_1 people0 listed0 kinds0 v1
  refine lv_iload_n hx hb dX3_kindsOfSource_2 rfl (lv_at hl 1 rfl) ?_
  refine lv_bipush (v := (nI 6)) hx hb dX3_kindsOfSource_3 (by decide +kernel) ?_
  refine wl_icmp_ge_n hx hb (by first | omega | exact Nat.lt_of_le_of_lt Nat.and_le_right (by omega) | exact Nat.pow_lt_pow_right (by omega) (by omega) | exact Nat.lt_trans (by assumption) (Nat.pow_lt_pow_right (by omega) (by omega))) (by first | omega | exact Nat.lt_of_le_of_lt Nat.and_le_right (by omega) | exact Nat.pow_lt_pow_right (by omega) (by omega) | exact Nat.lt_trans (by assumption) (Nat.pow_lt_pow_right (by omega) (by omega))) (tgt := 80) dX3_kindsOfSource_5 (by decide) (fun c2 => ?_) (fun c2 => ?_)
  · have hb1 := hb1.trans (if_pos c2)
    refine lv_iconst (v := (nI 1)) hx hb dX3_kindsOfSource_80 (by decide +kernel) ?_
    exact wl_iret hC hr hlk (hm.trans (EX1 _ hb1)) rfl hP hD hS dX3_kindsOfSource_81
  · have hb1 := hb1.trans (if_neg c2)
    refine lv_iconst (v := (nI 0)) hx hb dX3_kindsOfSource_8 (by decide +kernel) ?_
    refine lv_istore_n (lv' := [(2, .int (nI 0)), (0, .ref (a 0)), (1, .int (nI v1))]) hx hb dX3_kindsOfSource_9 rfl hl (by decide) rfl (fun ls hl => ?_)
    refine lv_iconst (v := (nI 0)) hx hb dX3_kindsOfSource_10 (by decide +kernel) ?_
    refine lv_istore_n (lv' := [(3, .int (nI 0)), (2, .int (nI 0)), (0, .ref (a 0)), (1, .int (nI v1))]) hx hb dX3_kindsOfSource_11 rfl hl (by decide) rfl (fun ls hl => ?_)
    obtain ⟨u3, hu3, hk3⟩ := wl_bx hb1
    refine wl_for (D := D) (A := A) (H0 := s0.heap) (m_X3_kindsOfSource_l12 kinds0 v1) people0 0 people0 (nI 0) 12 4 (fun k3 v3 => [(0, .ref (a 0)), (1, .int (nI v1)), (2, .int v3), (3, .int (nI k3))]) (fun k3 v3 => (wX E a fabove fbelow rbad rno rfull counts0 people0 day0 listed0 followed0 struck0 noted0 undoable0 kinds0 tempers0 notes0 past0 counts1 people1 day1 listed1 followed1 struck1 noted1 undoable1 kinds1 tempers1 notes1 past1 counts2 people2 day2 listed2 followed2 struck2 noted2 undoable2 kinds2 tempers2 notes2 past2 counts3 people3 day3 listed3 followed3 struck3 noted3 undoable3 kinds3 tempers3 notes3 past3 keptz wkind wtemper wcounts wday wlisted wfollowed xlength xstart xbehind xsort xnumber xbytes)) (fun k3 v3 => True) (by omega) trivial ?_ ?_ hP hD hS (lv_sub hl [2, 3, 1, 0] rfl)
    · intro z3 hv3 hI3 ls H locs hP hD hS hl
      have hb1 := hk3 z3 (hu3.trans hv3)
      refine lv_iload_n hx hb dX3_kindsOfSource_12 rfl (lv_at hl 3 rfl) ?_
      refine lv_aload_n hx hb dX3_kindsOfSource_13 rfl (lv_at hl 0 rfl) ?_
      refine g_X_0_now hC hP mw_202 dX3_kindsOfSource_14 ?_
      refine g_X_1_people hC hP mw_221 dX3_kindsOfSource_17 ?_
      refine wl_icmp_ge_n hx hb (by first | omega | exact Nat.lt_of_le_of_lt Nat.and_le_right (by omega) | exact Nat.pow_lt_pow_right (by omega) (by omega) | exact Nat.lt_trans (by assumption) (Nat.pow_lt_pow_right (by omega) (by omega))) (by first | omega | exact Nat.lt_of_le_of_lt Nat.and_le_right (by omega) | exact Nat.pow_lt_pow_right (by omega) (by omega) | exact Nat.lt_trans (by assumption) (Nat.pow_lt_pow_right (by omega) (by omega))) (tgt := 53) dX3_kindsOfSource_20 (by decide) (fun c8 => ?_) (fun c8 => absurd (by omega) c8)
      refine lv_iload_n hx hb dX3_kindsOfSource_53 rfl (lv_at hl 2 rfl) ?_
      refine lv_aload_n hx hb dX3_kindsOfSource_54 rfl (lv_at hl 0 rfl) ?_
      refine g_X_0_now hC hP mw_202 dX3_kindsOfSource_55 ?_
      refine g_X_1_listed hC hP mw_249 dX3_kindsOfSource_58 ?_
      refine lv_iand hx hb dX3_kindsOfSource_61 ?_
      refine lv_istore_n (lv' := [(3, .int (z3 &&& listed0)), (0, .ref (a 0)), (1, .int (nI v1)), (2, .int z3)]) hx hb dX3_kindsOfSource_62 rfl hl (by decide) rfl (fun ls hl => ?_)
      refine lv_iload_n hx hb dX3_kindsOfSource_63 rfl (lv_at hl 0 rfl) ?_
      refine lv_if_eq hx hb (tgt := 74) dX3_kindsOfSource_64 (by decide) (fun c9 => ?_) (fun c9 => ?_)
      · have hb1 := hb1.trans (if_pos c9)
        refine lv_iinc (v := (nI (v1 + 1))) (lv' := [(1, .int (nI (v1 + 1))), (3, .int (z3 &&& listed0)), (0, .ref (a 0)), (2, .int z3)]) hx hb dX3_kindsOfSource_74 hl (k := 2) rfl (wl_inc v1 1) (by decide) rfl (fun ls hl => ?_)
        refine lv_goto (tgt := 2) hx hb dX3_kindsOfSource_77 (by decide) ?_
        exact IH1 _ hb1 (by show (v1 + 1) ≤ 6; omega) (by show 6 - (v1 + 1) < 6 - v1; omega) ls H locs hP hD hS (lv_sub hl [2, 0] rfl)
      · have hb1 := hb1.trans (if_neg c9)
        refine lv_iload_n hx hb dX3_kindsOfSource_67 rfl (lv_at hl 0 rfl) ?_
        refine lv_iload_n hx hb dX3_kindsOfSource_68 rfl (lv_at hl 3 rfl) ?_
        refine lv_icmp_eq hx hb (tgt := 74) dX3_kindsOfSource_69 (by decide) (fun c10 => ?_) (fun c10 => ?_)
        · have hb1 := hb1.trans (if_pos c10)
          refine lv_iinc (v := (nI (v1 + 1))) (lv' := [(1, .int (nI (v1 + 1))), (3, .int (z3 &&& listed0)), (0, .ref (a 0)), (2, .int z3)]) hx hb dX3_kindsOfSource_74 hl (k := 2) rfl (wl_inc v1 1) (by decide) rfl (fun ls hl => ?_)
          refine lv_goto (tgt := 2) hx hb dX3_kindsOfSource_77 (by decide) ?_
          exact IH1 _ hb1 (by show (v1 + 1) ≤ 6; omega) (by show 6 - (v1 + 1) < 6 - v1; omega) ls H locs hP hD hS (lv_sub hl [2, 0] rfl)
        · have hb1 := hb1.trans (if_neg c10)
          refine lv_iconst (v := (nI 0)) hx hb dX3_kindsOfSource_72 (by decide +kernel) ?_
          exact wl_iret hC hr hlk (hm.trans (EX1 _ hb1)) rfl hP hD hS dX3_kindsOfSource_73
    · intro k3 v3 hlo3 hhi3 hI3 IH3 ls H locs hP hD hS hl
      have hb3 := m_X3_kindsOfSource_l12.eq_1 kinds0 v1 k3 v3
      refine lv_iload_n hx hb dX3_kindsOfSource_12 rfl (lv_at hl 3 rfl) ?_
      refine lv_aload_n hx hb dX3_kindsOfSource_13 rfl (lv_at hl 0 rfl) ?_
      refine g_X_0_now hC hP mw_202 dX3_kindsOfSource_14 ?_
      refine g_X_1_people hC hP mw_221 dX3_kindsOfSource_17 ?_
      refine wl_icmp_ge_n hx hb (by first | omega | exact Nat.lt_of_le_of_lt Nat.and_le_right (by omega) | exact Nat.pow_lt_pow_right (by omega) (by omega) | exact Nat.lt_trans (by assumption) (Nat.pow_lt_pow_right (by omega) (by omega))) (by first | omega | exact Nat.lt_of_le_of_lt Nat.and_le_right (by omega) | exact Nat.pow_lt_pow_right (by omega) (by omega) | exact Nat.lt_trans (by assumption) (Nat.pow_lt_pow_right (by omega) (by omega))) (tgt := 53) dX3_kindsOfSource_20 (by decide) (fun c4 => absurd c4 (by omega)) (fun c4 => ?_)
      refine lv_iload_n hx hb dX3_kindsOfSource_23 rfl (lv_at hl 2 rfl) ?_
      refine lv_iload_n hx hb dX3_kindsOfSource_24 rfl (lv_at hl 3 rfl) ?_
      refine lv_aload_n hx hb dX3_kindsOfSource_25 rfl (lv_at hl 0 rfl) ?_
      refine g_X_0_now hC hP mw_202 dX3_kindsOfSource_26 ?_
      refine g_X_1_kinds hC hP mw_281 dX3_kindsOfSource_29 ?_
      refine lv_iload_n hx hb dX3_kindsOfSource_32 rfl (lv_at hl 3 rfl) ?_
      refine ld_X_2 hC hP k3 (by omega) dX3_kindsOfSource_33 ?_
      refine lv_iload_n hx hb dX3_kindsOfSource_34 rfl (lv_at hl 1 rfl) ?_
      obtain ⟨u5, hj5, hk5⟩ := wl_bx hb3
      refine wl_J u5 43 (fun z5 => [.int (wl_b z5), .int (nI k3), .int v3]) 4 (fun z5 => [(0, .ref (a 0)), (1, .int (nI v1)), (3, .int (nI k3))]) D A s0.heap (fun z5 => (wX E a fabove fbelow rbad rno rfull counts0 people0 day0 listed0 followed0 struck0 noted0 undoable0 kinds0 tempers0 notes0 past0 counts1 people1 day1 listed1 followed1 struck1 noted1 undoable1 kinds1 tempers1 notes1 past1 counts2 people2 day2 listed2 followed2 struck2 noted2 undoable2 kinds2 tempers2 notes2 past2 counts3 people3 day3 listed3 followed3 struck3 noted3 undoable3 kinds3 tempers3 notes3 past3 keptz wkind wtemper wcounts wday wlisted wfollowed xlength xstart xbehind xsort xnumber xbytes)) (fun z5 hz5 ls H locs hP hD hS hl => ?_) (fun J5 => ?_)
      · have hb3 := hk5 z5 hz5
        refine wl_callPi hC (c_X3_withBit (bits := v3) (i := k3) (is := (wl_b z5)) ) lk_RX3_99 rfl ⟨rfl, rfl, Nat.le_of_ble_eq_true rfl, Nat.le_of_ble_eq_true rfl⟩ hP hS hA hl.1 rfl (Nat.le_of_ble_eq_true rfl) dX3_kindsOfSource_43 ⟨Nat.zero_le _, Nat.zero_le _⟩ (fun z7 hz7 H locs hP hS => ?_)
        have hb3 := wl_bz hb3 hz7
        refine lv_istore_n (lv' := [(2, .int z7), (0, .ref (a 0)), (1, .int (nI v1)), (3, .int (nI k3))]) hx hb dX3_kindsOfSource_46 rfl hl (by decide) rfl (fun ls hl => ?_)
        refine lv_iinc (v := (nI (k3 + 1))) (lv' := [(3, .int (nI (k3 + 1))), (2, .int z7), (0, .ref (a 0)), (1, .int (nI v1))]) hx hb dX3_kindsOfSource_47 hl (k := 3) rfl (wl_inc k3 1) (by decide) rfl (fun ls hl => ?_)
        refine lv_goto (tgt := 12) hx hb dX3_kindsOfSource_50 (by decide) ?_
        exact IH3 _ hb3 trivial ls H locs hP hD hS (lv_sub hl [2, 3, 1, 0] rfl)
      · refine lv_icmp_ne hx hb (tgt := 42) dX3_kindsOfSource_35 (by decide) (fun c6 => ?_) (fun c6 => ?_)
        · have hj5 := hj5.trans (if_neg c6)
          refine lv_iconst (v := (nI 0)) hx hb dX3_kindsOfSource_42 (by decide +kernel) ?_
          exact J5 _ hj5 ls H locs hP hD hS (lv_sub hl [0, 1, 3] rfl)
        · have hj5 := hj5.trans (if_pos c6)
          refine lv_iconst (v := (nI 1)) hx hb dX3_kindsOfSource_38 (by decide +kernel) ?_
          refine lv_goto (tgt := 43) hx hb dX3_kindsOfSource_39 (by decide) ?_
          exact J5 _ hj5 ls H locs hP hD hS (lv_sub hl [0, 1, 3] rfl)
def m_X3_source (rbad : Int32) (people0 : Nat) (listed0 : Int32) (kinds0 : (Nat → Int32)) (tempers0 : (Nat → Int32)) (what : Int32) : Int32 × Int32 := (wl_bnd (m_X3_isWithin what (nI 0) (nI 1)) (fun z1 => (if z1 = true then (if what = 0 then (wl_bnd (m_X3_tempersOfSource people0 listed0 tempers0) (fun z5 => ((nI z5), rbad))) else (wl_bnd (m_X3_kindsOfSource people0 listed0 kinds0) (fun z4 => ((nI z4), rbad)))) else (wl_bnd (m_X3_refuseBad rbad) (fun z6 => (z6.1, z6.2))))))
set_option maxHeartbeats 4000000 in
set_option maxRecDepth 100000 in
theorem c_X3_source {l : Launch} {D : va_G} {E : Nat → ClassId} {a : Nat → Nat} {fabove : Int64} {fbelow : Int64} {rbad : Int32} {rno : Int32} {rfull : Int32} {counts0 : Int32} {people0 : Nat} {day0 : Int32} {listed0 : Int32} {followed0 : Int32} {struck0 : Int32} {noted0 : Nat} {undoable0 : Nat} {kinds0 : (Nat → Int32)} {tempers0 : (Nat → Int32)} {notes0 : (Nat → Int32)} {past0 : (Nat → Int32)} {counts1 : Int32} {people1 : Nat} {day1 : Int32} {listed1 : Int32} {followed1 : Int32} {struck1 : Int32} {noted1 : Nat} {undoable1 : Nat} {kinds1 : (Nat → Int32)} {tempers1 : (Nat → Int32)} {notes1 : (Nat → Int32)} {past1 : (Nat → Int32)} {counts2 : Int32} {people2 : Nat} {day2 : Int32} {listed2 : Int32} {followed2 : Int32} {struck2 : Int32} {noted2 : Nat} {undoable2 : Nat} {kinds2 : (Nat → Int32)} {tempers2 : (Nat → Int32)} {notes2 : (Nat → Int32)} {past2 : (Nat → Int32)} {counts3 : Int32} {people3 : Nat} {day3 : Int32} {listed3 : Int32} {followed3 : Int32} {struck3 : Int32} {noted3 : Nat} {undoable3 : Nat} {kinds3 : (Nat → Int32)} {tempers3 : (Nat → Int32)} {notes3 : (Nat → Int32)} {past3 : (Nat → Int32)} {keptz : (Nat → Int32)} {wkind : Int32} {wtemper : Int32} {wcounts : Int32} {wday : Int32} {wlisted : Bool} {wfollowed : Bool} {xlength : Nat} {xstart : Nat} {xbehind : Nat} {xsort : Int32} {xnumber : Int32} {xbytes : (Nat → Int32)} {what : Int32} (hP7 : people0 ≤ 7) : wl_Met (τ := Int32 × Int32) l D E yX3_source cX3_source 2 (some .int) ({ frames := 2, cells := 0, slots := 0, locals := 46 } : Room) [.ref (a 0), .int what] (wX E a fabove fbelow rbad rno rfull counts0 people0 day0 listed0 followed0 struck0 noted0 undoable0 kinds0 tempers0 notes0 past0 counts1 people1 day1 listed1 followed1 struck1 noted1 undoable1 kinds1 tempers1 notes1 past1 counts2 people2 day2 listed2 followed2 struck2 noted2 undoable2 kinds2 tempers2 notes2 past2 counts3 people3 day3 listed3 followed3 struck3 noted3 undoable3 kinds3 tempers3 notes3 past3 keptz wkind wtemper wcounts wday wlisted wfollowed xlength xstart xbehind xsort xnumber xbytes) (fun z => some (.int z.1)) (fun z => (wX E a fabove fbelow z.2 rno rfull counts0 people0 day0 listed0 followed0 struck0 noted0 undoable0 kinds0 tempers0 notes0 past0 counts1 people1 day1 listed1 followed1 struck1 noted1 undoable1 kinds1 tempers1 notes1 past1 counts2 people2 day2 listed2 followed2 struck2 noted2 undoable2 kinds2 tempers2 notes2 past2 counts3 people3 day3 listed3 followed3 struck3 noted3 undoable3 kinds3 tempers3 notes3 past3 keptz wkind wtemper wcounts wday wlisted wfollowed xlength xstart xbehind xsort xnumber xbytes)) (m_X3_source rbad people0 listed0 kinds0 tempers0 what) := by
  refine wl_enter (own := RX3) (by decide +kernel) rfl (Nat.le_of_ble_eq_true rfl) ?_
  intro p0 e0 s0 m0 bl0 mt0 c0 A hC hr hlk hA H locs hP hD hS ls hl
  have hx := hC.1
  have hb := hC.2.1
  have hl : lv_has ls 2 [(0, .ref (a 0)), (1, .int what)] := hl
  have hm := m_X3_source.eq_1 rbad people0 listed0 kinds0 tempers0 what
  refine lv_iload_n hx hb dX3_source_0 rfl (lv_at hl 1 rfl) ?_
  refine lv_iconst (v := (nI 0)) hx hb dX3_source_1 (by decide +kernel) ?_
  refine lv_iconst (v := (nI 1)) hx hb dX3_source_2 (by decide +kernel) ?_
  refine wl_callPi hC (c_X3_isWithin (v := what) (least := (nI 0)) (most := (nI 1)) ) lk_RX3_48 rfl ⟨rfl, rfl, Nat.le_of_ble_eq_true rfl, Nat.le_of_ble_eq_true rfl⟩ hP hS hA hl.1 rfl (Nat.le_of_ble_eq_true rfl) dX3_source_3 ⟨Nat.zero_le _, Nat.zero_le _⟩ (fun z1 hz1 H locs hP hS => ?_)
  have hm := wl_bz hm hz1
  refine wl_if_ne_b hx hb (tgt := 14) dX3_source_6 (by decide) (fun c2 => ?_) (fun c2 => ?_)
  · have hm := hm.trans (if_pos c2)
    refine lv_iload_n hx hb dX3_source_14 rfl (lv_at hl 1 rfl) ?_
    refine lv_if_ne hx hb (tgt := 25) dX3_source_15 (by decide) (fun c3 => ?_) (fun c3 => ?_)
    · have hm := hm.trans (if_neg c3)
      refine lv_aload_n hx hb dX3_source_25 rfl (lv_at hl 0 rfl) ?_
      refine wl_callVi hC (c_X3_kindsOfSource  (by first | assumption | omega)) lk_RX3_180 rfl ⟨rfl, rfl, Nat.le_of_ble_eq_true rfl, Nat.le_of_ble_eq_true rfl⟩ hP hD hS hA 0 rfl (T1 := 11) rfl hl.1 rfl (Nat.le_of_ble_eq_true rfl) dX3_source_26 ⟨Nat.zero_le _, Nat.zero_le _⟩ (fun z4 hz4 H locs hP hD hS => ?_)
      have hm := wl_bz hm hz4
      exact wl_iret hC hr hlk hm rfl hP hD hS dX3_source_29
    · have hm := hm.trans (if_pos c3)
      refine lv_aload_n hx hb dX3_source_18 rfl (lv_at hl 0 rfl) ?_
      refine wl_callVi hC (c_X3_tempersOfSource  (by first | assumption | omega)) lk_RX3_177 rfl ⟨rfl, rfl, Nat.le_of_ble_eq_true rfl, Nat.le_of_ble_eq_true rfl⟩ hP hD hS hA 0 rfl (T1 := 11) rfl hl.1 rfl (Nat.le_of_ble_eq_true rfl) dX3_source_19 ⟨Nat.zero_le _, Nat.zero_le _⟩ (fun z5 hz5 H locs hP hD hS => ?_)
      have hm := wl_bz hm hz5
      refine lv_goto (tgt := 29) hx hb dX3_source_22 (by decide) ?_
      exact wl_iret hC hr hlk hm rfl hP hD hS dX3_source_29
  · have hm := hm.trans (if_neg c2)
    refine lv_aload_n hx hb dX3_source_9 rfl (lv_at hl 0 rfl) ?_
    refine wl_callVi hC (c_X3_refuseBad  ) lk_RX3_52 rfl ⟨rfl, rfl, Nat.le_of_ble_eq_true rfl, Nat.le_of_ble_eq_true rfl⟩ hP hD hS hA 0 rfl (T1 := 11) rfl hl.1 rfl (Nat.le_of_ble_eq_true rfl) dX3_source_10 ⟨Nat.zero_le _, Nat.zero_le _⟩ (fun z6 hz6 H locs hP hD hS => ?_)
    have hm := wl_bz hm hz6
    exact wl_iret hC hr hlk hm rfl hP hD hS dX3_source_13
