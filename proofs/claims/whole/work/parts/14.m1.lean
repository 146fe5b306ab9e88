def m_X4_bad (mrefused : (Nat → Int32)) (tells : Int32) : Int32 × (Nat → Int32) := (tells, (upd mrefused 0 ((mrefused 0) + (nI 1))))
set_option maxHeartbeats 4000000 in
set_option maxRecDepth 100000 in
theorem c_X4_bad {l : Launch} {D : va_G} {E : Nat → ClassId} {a : Nat → Nat} {mabove : Int64} {mbelow : Int64} {mlisted : Int32} {mfollowing : Int32} {mdayThen : Int32} {mbytesLong : Nat} {mtokenAt : Nat} {mtokenLong : Nat} {mtoken : Int32} {mvalue : Int32} {mnow : (Nat → Int32)} {mkept : (Nat → Int32)} {misKept : (Nat → Int32)} {mrefused : (Nat → Int32)} {mtempers : (Nat → Int32)} {mhis : (Nat → Int32)} {mtheirs : (Nat → Int32)} {mmanyBy : (Nat → Int32)} {mbytes : (Nat → Int32)} {manew : (Nat → Int32)} {mvalues : (Nat → Int32)} {tells : Int32} : wl_Met (τ := Int32 × (Nat → Int32)) l D E yX4_bad cX4_bad 2 (some .int) ({ frames := 0, cells := 0, slots := 0, locals := 0 } : Room) [.ref (a 0), .int tells] (wM E a mabove mbelow mlisted mfollowing mdayThen mbytesLong mtokenAt mtokenLong mtoken mvalue mnow mkept misKept mrefused mtempers mhis mtheirs mmanyBy mbytes manew mvalues) (fun z => some (.int z.1)) (fun z => (wM E a mabove mbelow mlisted mfollowing mdayThen mbytesLong mtokenAt mtokenLong mtoken mvalue mnow mkept misKept z.2 mtempers mhis mtheirs mmanyBy mbytes manew mvalues)) (m_X4_bad mrefused tells) := by
  refine wl_enter (own := RX4) (by decide +kernel) rfl (Nat.le_of_ble_eq_true rfl) ?_
  intro p0 e0 s0 m0 bl0 mt0 c0 A hC hr hlk hA H locs hP hD hS ls hl
  have hx := hC.1
  have hb := hC.2.1
  have hl : lv_has ls 2 [(0, .ref (a 0)), (1, .int tells)] := hl
  have hm := m_X4_bad.eq_1 mrefused tells
  refine lv_aload_n hx hb dX4_bad_0 rfl (lv_at hl 0 rfl) ?_
  refine g_M_0_refused hC hP mw_388 dX4_bad_1 ?_
  refine lv_iconst (v := (nI 0)) hx hb dX4_bad_4 (by decide +kernel) ?_
  refine lv_dup2_11 hx hb dX4_bad_5 rfl rfl ?_
  refine ld_M_4 hC hP 0 (by omega) dX4_bad_6 ?_
  refine lv_iconst (v := (nI 1)) hx hb dX4_bad_7 (by decide +kernel) ?_
  refine lv_iadd hx hb dX4_bad_8 ?_
  refine st_M_4 hC hP hD hS 0 ((mrefused 0) + (nI 1)) (by omega) dX4_bad_9 (fun H locs hP hD hS => ?_)
  refine lv_iload_n hx hb dX4_bad_10 rfl (lv_at hl 1 rfl) ?_
  exact wl_iret hC hr hlk hm rfl hP hD hS dX4_bad_11
def m_X4_no (mrefused : (Nat → Int32)) : Int32 × (Nat → Int32) := ((-3), (upd mrefused 1 ((mrefused 1) + (nI 1))))
set_option maxHeartbeats 4000000 in
set_option maxRecDepth 100000 in
theorem c_X4_no {l : Launch} {D : va_G} {E : Nat → ClassId} {a : Nat → Nat} {mabove : Int64} {mbelow : Int64} {mlisted : Int32} {mfollowing : Int32} {mdayThen : Int32} {mbytesLong : Nat} {mtokenAt : Nat} {mtokenLong : Nat} {mtoken : Int32} {mvalue : Int32} {mnow : (Nat → Int32)} {mkept : (Nat → Int32)} {misKept : (Nat → Int32)} {mrefused : (Nat → Int32)} {mtempers : (Nat → Int32)} {mhis : (Nat → Int32)} {mtheirs : (Nat → Int32)} {mmanyBy : (Nat → Int32)} {mbytes : (Nat → Int32)} {manew : (Nat → Int32)} {mvalues : (Nat → Int32)}  : wl_Met (τ := Int32 × (Nat → Int32)) l D E yX4_no cX4_no 1 (some .int) ({ frames := 0, cells := 0, slots := 0, locals := 0 } : Room) [.ref (a 0)] (wM E a mabove mbelow mlisted mfollowing mdayThen mbytesLong mtokenAt mtokenLong mtoken mvalue mnow mkept misKept mrefused mtempers mhis mtheirs mmanyBy mbytes manew mvalues) (fun z => some (.int z.1)) (fun z => (wM E a mabove mbelow mlisted mfollowing mdayThen mbytesLong mtokenAt mtokenLong mtoken mvalue mnow mkept misKept z.2 mtempers mhis mtheirs mmanyBy mbytes manew mvalues)) (m_X4_no mrefused) := by
  refine wl_enter (own := RX4) (by decide +kernel) rfl (Nat.le_of_ble_eq_true rfl) ?_
  intro p0 e0 s0 m0 bl0 mt0 c0 A hC hr hlk hA H locs hP hD hS ls hl
  have hx := hC.1
  have hb := hC.2.1
  have hl : lv_has ls 1 [(0, .ref (a 0))] := hl
  have hm := m_X4_no.eq_1 mrefused
  refine lv_aload_n hx hb dX4_no_0 rfl (lv_at hl 0 rfl) ?_
  refine g_M_0_refused hC hP mw_388 dX4_no_1 ?_
  refine lv_iconst (v := (nI 1)) hx hb dX4_no_4 (by decide +kernel) ?_
  refine lv_dup2_11 hx hb dX4_no_5 rfl rfl ?_
  refine ld_M_4 hC hP 1 (by omega) dX4_no_6 ?_
  refine lv_iconst (v := (nI 1)) hx hb dX4_no_7 (by decide +kernel) ?_
  refine lv_iadd hx hb dX4_no_8 ?_
  refine st_M_4 hC hP hD hS 1 ((mrefused 1) + (nI 1)) (by omega) dX4_no_9 (fun H locs hP hD hS => ?_)
  refine lv_bipush (v := (-3)) hx hb dX4_no_10 (by decide +kernel) ?_
  exact wl_iret hC hr hlk hm rfl hP hD hS dX4_no_12
def m_X4_full (mrefused : (Nat → Int32)) : Int32 × (Nat → Int32) := ((-4), (upd mrefused 2 ((mrefused 2) + (nI 1))))
set_option maxHeartbeats 4000000 in
set_option maxRecDepth 100000 in
theorem c_X4_full {l : Launch} {D : va_G} {E : Nat → ClassId} {a : Nat → Nat} {mabove : Int64} {mbelow : Int64} {mlisted : Int32} {mfollowing : Int32} {mdayThen : Int32} {mbytesLong : Nat} {mtokenAt : Nat} {mtokenLong : Nat} {mtoken : Int32} {mvalue : Int32} {mnow : (Nat → Int32)} {mkept : (Nat → Int32)} {misKept : (Nat → Int32)} {mrefused : (Nat → Int32)} {mtempers : (Nat → Int32)} {mhis : (Nat → Int32)} {mtheirs : (Nat → Int32)} {mmanyBy : (Nat → Int32)} {mbytes : (Nat → Int32)} {manew : (Nat → Int32)} {mvalues : (Nat → Int32)}  : wl_Met (τ := Int32 × (Nat → Int32)) l D E yX4_full cX4_full 1 (some .int) ({ frames := 0, cells := 0, slots := 0, locals := 0 } : Room) [.ref (a 0)] (wM E a mabove mbelow mlisted mfollowing mdayThen mbytesLong mtokenAt mtokenLong mtoken mvalue mnow mkept misKept mrefused mtempers mhis mtheirs mmanyBy mbytes manew mvalues) (fun z => some (.int z.1)) (fun z => (wM E a mabove mbelow mlisted mfollowing mdayThen mbytesLong mtokenAt mtokenLong mtoken mvalue mnow mkept misKept z.2 mtempers mhis mtheirs mmanyBy mbytes manew mvalues)) (m_X4_full mrefused) := by
  refine wl_enter (own := RX4) (by decide +kernel) rfl (Nat.le_of_ble_eq_true rfl) ?_
  intro p0 e0 s0 m0 bl0 mt0 c0 A hC hr hlk hA H locs hP hD hS ls hl
  have hx := hC.1
  have hb := hC.2.1
  have hl : lv_has ls 1 [(0, .ref (a 0))] := hl
  have hm := m_X4_full.eq_1 mrefused
  refine lv_aload_n hx hb dX4_full_0 rfl (lv_at hl 0 rfl) ?_
  refine g_M_0_refused hC hP mw_388 dX4_full_1 ?_
  refine lv_iconst (v := (nI 2)) hx hb dX4_full_4 (by decide +kernel) ?_
  refine lv_dup2_11 hx hb dX4_full_5 rfl rfl ?_
  refine ld_M_4 hC hP 2 (by omega) dX4_full_6 ?_
  refine lv_iconst (v := (nI 1)) hx hb dX4_full_7 (by decide +kernel) ?_
  refine lv_iadd hx hb dX4_full_8 ?_
  refine st_M_4 hC hP hD hS 2 ((mrefused 2) + (nI 1)) (by omega) dX4_full_9 (fun H locs hP hD hS => ?_)
  refine lv_bipush (v := (-4)) hx hb dX4_full_10 (by decide +kernel) ?_
  exact wl_iret hC hr hlk hm rfl hP hD hS dX4_full_12
def m_X4_begin_l2 (k1 : Nat) (v1 : (Nat → Int32)) : (Nat → Int32) := (upd v1 k1 (nI 0))
def m_X4_begin (arr : (Nat → Int32)) (counts : Int32) : (Nat → Int32) := (wl_bnd (wl_iter m_X4_begin_l2 52 0 arr) (fun z1 => (upd z1 1 counts)))
set_option maxHeartbeats 4000000 in
set_option maxRecDepth 100000 in
theorem c_X4_begin {l : Launch} {D : va_G} {E : Nat → ClassId} {a : Nat → Nat} {arr : (Nat → Int32)} {n : Nat} {counts : Int32} (hn1 : 52 ≤ n) (hn2 : n ≤ 2000) : wl_Met (τ := (Nat → Int32)) l D E yX4_begin cX4_begin 3 none ({ frames := 0, cells := 0, slots := 0, locals := 0 } : Room) [.ref (a 0), .int counts] (wA E a n arr) (fun _ => none) (fun z => (wA E a n z)) (m_X4_begin arr counts) := by
  refine wl_enter (own := RX4) (by decide +kernel) rfl (Nat.le_of_ble_eq_true rfl) ?_
  intro p0 e0 s0 m0 bl0 mt0 c0 A hC hr hlk hA H locs hP hD hS ls hl
  have hx := hC.1
  have hb := hC.2.1
  have hl : lv_has ls 3 [(0, .ref (a 0)), (1, .int counts)] := hl
  have hm := m_X4_begin.eq_1 arr counts
  refine lv_iconst (v := (nI 0)) hx hb dX4_begin_0 (by decide +kernel) ?_
  refine lv_istore_n (lv' := [(2, .int (nI 0)), (0, .ref (a 0)), (1, .int counts)]) hx hb dX4_begin_1 rfl hl (by decide) rfl (fun ls hl => ?_)
  obtain ⟨u1, hu1, hk1⟩ := wl_bx hm
  refine wl_for (D := D) (A := A) (H0 := s0.heap) m_X4_begin_l2 52 0 52 arr 2 3 (fun k1 v1 => [(0, .ref (a 0)), (1, .int counts), (2, .int (nI k1))]) (fun k1 v1 => (wA E a n v1)) (fun k1 v1 => True) (by omega) trivial ?_ ?_ hP hD hS (lv_sub hl [1, 2, 0] rfl)
  · intro z1 hv1 hI1 ls H locs hP hD hS hl
    have hm := hk1 z1 (hu1.trans hv1)
    refine lv_iload_n hx hb dX4_begin_2 rfl (lv_at hl 2 rfl) ?_
    refine lv_bipush (v := (nI 52)) hx hb dX4_begin_3 (by decide +kernel) ?_
    refine wl_icmp_ge_n hx hb (by first | omega | exact Nat.lt_of_le_of_lt Nat.and_le_right (by omega) | exact Nat.pow_lt_pow_right (by omega) (by omega) | exact Nat.lt_trans (by assumption) (Nat.pow_lt_pow_right (by omega) (by omega))) (by first | omega | exact Nat.lt_of_le_of_lt Nat.and_le_right (by omega) | exact Nat.pow_lt_pow_right (by omega) (by omega) | exact Nat.lt_trans (by assumption) (Nat.pow_lt_pow_right (by omega) (by omega))) (tgt := 18) dX4_begin_5 (by decide) (fun c3 => ?_) (fun c3 => absurd (by omega) c3)
    refine lv_aload_n hx hb dX4_begin_18 rfl (lv_at hl 0 rfl) ?_
    refine lv_iconst (v := (nI 1)) hx hb dX4_begin_19 (by decide +kernel) ?_
    refine lv_iload_n hx hb dX4_begin_20 rfl (lv_at hl 1 rfl) ?_
    refine st_A_0 (by omega) hC hP hD hS 1 counts (by omega) dX4_begin_21 (fun H locs hP hD hS => ?_)
    exact wl_vret hC hr hlk hm rfl hP hD hS dX4_begin_22
  · intro k1 v1 hlo1 hhi1 hI1 IH1 ls H locs hP hD hS hl
    have hb1 := m_X4_begin_l2.eq_1 k1 v1
    refine lv_iload_n hx hb dX4_begin_2 rfl (lv_at hl 2 rfl) ?_
    refine lv_bipush (v := (nI 52)) hx hb dX4_begin_3 (by decide +kernel) ?_
    refine wl_icmp_ge_n hx hb (by first | omega | exact Nat.lt_of_le_of_lt Nat.and_le_right (by omega) | exact Nat.pow_lt_pow_right (by omega) (by omega) | exact Nat.lt_trans (by assumption) (Nat.pow_lt_pow_right (by omega) (by omega))) (by first | omega | exact Nat.lt_of_le_of_lt Nat.and_le_right (by omega) | exact Nat.pow_lt_pow_right (by omega) (by omega) | exact Nat.lt_trans (by assumption) (Nat.pow_lt_pow_right (by omega) (by omega))) (tgt := 18) dX4_begin_5 (by decide) (fun c2 => absurd c2 (by omega)) (fun c2 => ?_)
    refine lv_aload_n hx hb dX4_begin_8 rfl (lv_at hl 0 rfl) ?_
    refine lv_iload_n hx hb dX4_begin_9 rfl (lv_at hl 2 rfl) ?_
    refine lv_iconst (v := (nI 0)) hx hb dX4_begin_10 (by decide +kernel) ?_
    refine st_A_0 (by omega) hC hP hD hS k1 (nI 0) (by omega) dX4_begin_11 (fun H locs hP hD hS => ?_)
    refine lv_iinc (v := (nI (k1 + 1))) (lv' := [(2, .int (nI (k1 + 1))), (0, .ref (a 0)), (1, .int counts)]) hx hb dX4_begin_12 hl (k := 2) rfl (wl_inc k1 1) (by decide) rfl (fun ls hl => ?_)
    refine lv_goto (tgt := 2) hx hb dX4_begin_15 (by decide) ?_
    exact IH1 _ hb1 trivial ls H locs hP hD hS (lv_sub hl [1, 2, 0] rfl)
set_option maxHeartbeats 4000000 in
set_option maxRecDepth 100000 in
theorem c_X4_many {l : Launch} {D : va_G} {E : Nat → ClassId} {a : Nat → Nat} {mabove : Int64} {mbelow : Int64} {mlisted : Int32} {mfollowing : Int32} {mdayThen : Int32} {mbytesLong : Nat} {mtokenAt : Nat} {mtokenLong : Nat} {mtoken : Int32} {mvalue : Int32} {mnow : (Nat → Int32)} {mkept : (Nat → Int32)} {misKept : (Nat → Int32)} {mrefused : (Nat → Int32)} {mtempers : (Nat → Int32)} {mhis : (Nat → Int32)} {mtheirs : (Nat → Int32)} {mmanyBy : (Nat → Int32)} {mbytes : (Nat → Int32)} {manew : (Nat → Int32)} {mvalues : (Nat → Int32)} {P : Nat} (h0 : mnow 0 = nI P) : wl_Met (τ := Nat) l D E yX4_many cX4_many 1 (some .int) ({ frames := 0, cells := 0, slots := 0, locals := 0 } : Room) [.ref (a 0)] (wM E a mabove mbelow mlisted mfollowing mdayThen mbytesLong mtokenAt mtokenLong mtoken mvalue mnow mkept misKept mrefused mtempers mhis mtheirs mmanyBy mbytes manew mvalues) (fun z => some (.int (nI z))) (fun _ => (wM E a mabove mbelow mlisted mfollowing mdayThen mbytesLong mtokenAt mtokenLong mtoken mvalue mnow mkept misKept mrefused mtempers mhis mtheirs mmanyBy mbytes manew mvalues)) P := by
  refine wl_enter (own := RX4) (by decide +kernel) rfl (Nat.le_of_ble_eq_true rfl) ?_
  intro p0 e0 s0 m0 bl0 mt0 c0 A hC hr hlk hA H locs hP hD hS ls hl
  have hx := hC.1
  have hb := hC.2.1
  have hl : lv_has ls 1 [(0, .ref (a 0))] := hl
  have hm : P = P := rfl
  refine lv_aload_n hx hb dX4_many_0 rfl (lv_at hl 0 rfl) ?_
  refine g_M_0_now hC hP mw_385 dX4_many_1 ?_
  refine lv_iconst (v := (nI 0)) hx hb dX4_many_4 (by decide +kernel) ?_
  refine ld_M_1 hC hP 0 (by omega) dX4_many_5 ?_
  refine wl_re (h0) ?_
  exact wl_iret hC hr hlk hm rfl hP hD hS dX4_many_6
def m_X4_isOne (p : Int32) (P : Nat) : Bool := (wl_bnd (m_X4_in p.toInt64 (lN 0) (((nI P) - (nI 1)).toInt64)) (fun z2 => z2))
set_option maxHeartbeats 4000000 in
set_option maxRecDepth 100000 in
theorem c_X4_isOne {l : Launch} {D : va_G} {E : Nat → ClassId} {a : Nat → Nat} {mabove : Int64} {mbelow : Int64} {mlisted : Int32} {mfollowing : Int32} {mdayThen : Int32} {mbytesLong : Nat} {mtokenAt : Nat} {mtokenLong : Nat} {mtoken : Int32} {mvalue : Int32} {mnow : (Nat → Int32)} {mkept : (Nat → Int32)} {misKept : (Nat → Int32)} {mrefused : (Nat → Int32)} {mtempers : (Nat → Int32)} {mhis : (Nat → Int32)} {mtheirs : (Nat → Int32)} {mmanyBy : (Nat → Int32)} {mbytes : (Nat → Int32)} {manew : (Nat → Int32)} {mvalues : (Nat → Int32)} {p : Int32} {P : Nat} (h0 : mnow 0 = nI P) : wl_Met (τ := Bool) l D E yX4_isOne cX4_isOne 2 (some .boolean) ({ frames := 1, cells := 0, slots := 0, locals := 25 } : Room) [.ref (a 0), .int p] (wM E a mabove mbelow mlisted mfollowing mdayThen mbytesLong mtokenAt mtokenLong mtoken mvalue mnow mkept misKept mrefused mtempers mhis mtheirs mmanyBy mbytes manew mvalues) (fun z => some (.int (wl_b z))) (fun _ => (wM E a mabove mbelow mlisted mfollowing mdayThen mbytesLong mtokenAt mtokenLong mtoken mvalue mnow mkept misKept mrefused mtempers mhis mtheirs mmanyBy mbytes manew mvalues)) (m_X4_isOne p P) := by
  refine wl_enter (own := RX4) (by decide +kernel) rfl (Nat.le_of_ble_eq_true rfl) ?_
  intro p0 e0 s0 m0 bl0 mt0 c0 A hC hr hlk hA H locs hP hD hS ls hl
  have hx := hC.1
  have hb := hC.2.1
  have hl : lv_has ls 2 [(0, .ref (a 0)), (1, .int p)] := hl
  have hm := m_X4_isOne.eq_1 p P
  refine lv_iload_n hx hb dX4_isOne_0 rfl (lv_at hl 1 rfl) ?_
  refine lv_i2l (v := p.toInt64) hx hb dX4_isOne_1 rfl ?_
  refine lv_lconst (v := lN 0) hx hb dX4_isOne_2 (by decide +kernel) ?_
  refine lv_aload_n hx hb dX4_isOne_3 rfl (lv_at hl 0 rfl) ?_
  refine wl_callVi hC (c_X4_many (P := P) (h0)) lk_RX4_52 rfl ⟨rfl, rfl, Nat.le_of_ble_eq_true rfl, Nat.le_of_ble_eq_true rfl⟩ hP hD hS hA 0 rfl (T1 := 21) rfl hl.1 rfl (Nat.le_of_ble_eq_true rfl) dX4_isOne_4 ⟨Nat.zero_le _, Nat.zero_le _⟩ (fun z1 hz1 H locs hP hD hS => ?_)
  have hz1 := hz1.symm
  subst hz1
  refine lv_iconst (v := (nI 1)) hx hb dX4_isOne_7 (by decide +kernel) ?_
  refine lv_isub hx hb dX4_isOne_8 ?_
  refine lv_i2l (v := ((nI P) - (nI 1)).toInt64) hx hb dX4_isOne_9 rfl ?_
  refine wl_callPi hC (c_X4_in (v := p.toInt64) (low := (lN 0)) (high := (((nI P) - (nI 1)).toInt64)) ) lk_RX4_56 rfl ⟨rfl, rfl, Nat.le_of_ble_eq_true rfl, Nat.le_of_ble_eq_true rfl⟩ hP hS hA hl.1 rfl (Nat.le_of_ble_eq_true rfl) dX4_isOne_10 ⟨Nat.zero_le _, Nat.zero_le _⟩ (fun z2 hz2 H locs hP hS => ?_)
  have hm := wl_bz hm hz2
  exact wl_zret (v := z2) hC hr hlk hm rfl hP hD hS dX4_isOne_13
def m_X4_layOne (arr : (Nat → Int32)) (kind : Int32) (temper : Int32) (P : Nat) : (Nat → Int32) := (upd (upd (upd arr (4 + P) kind) (11 + P) temper) 0 (nI (P + 1)))
set_option maxHeartbeats 4000000 in
set_option maxRecDepth 100000 in
theorem c_X4_layOne {l : Launch} {D : va_G} {E : Nat → ClassId} {a : Nat → Nat} {arr : (Nat → Int32)} {n : Nat} {kind : Int32} {temper : Int32} {P : Nat} (h0 : arr 0 = nI P) (hn1 : 52 ≤ n) (hn2 : n ≤ 2000) (hP6 : P < 7) : wl_Met (τ := (Nat → Int32)) l D E yX4_layOne cX4_layOne 3 none ({ frames := 0, cells := 0, slots := 0, locals := 0 } : Room) [.ref (a 0), .int kind, .int temper] (wA E a n arr) (fun _ => none) (fun z => (wA E a n z)) (m_X4_layOne arr kind temper P) := by
  refine wl_enter (own := RX4) (by decide +kernel) rfl (Nat.le_of_ble_eq_true rfl) ?_
  intro p0 e0 s0 m0 bl0 mt0 c0 A hC hr hlk hA H locs hP hD hS ls hl
  have hx := hC.1
  have hb := hC.2.1
  have hl : lv_has ls 3 [(0, .ref (a 0)), (1, .int kind), (2, .int temper)] := hl
  have hm := m_X4_layOne.eq_1 arr kind temper P
  refine lv_aload_n hx hb dX4_layOne_0 rfl (lv_at hl 0 rfl) ?_
  refine lv_iconst (v := (nI 4)) hx hb dX4_layOne_1 (by decide +kernel) ?_
  refine lv_aload_n hx hb dX4_layOne_2 rfl (lv_at hl 0 rfl) ?_
  refine lv_iconst (v := (nI 0)) hx hb dX4_layOne_3 (by decide +kernel) ?_
  refine ld_A_0 (by omega) hC hP 0 (by omega) dX4_layOne_4 ?_
  refine wl_re (h0) ?_
  refine lv_iadd hx hb dX4_layOne_5 ?_
  refine wl_re (show nI 4 + nI P = nI (4 + P) from nI_add 4 P) ?_
  refine lv_iload_n hx hb dX4_layOne_6 rfl (lv_at hl 1 rfl) ?_
  refine st_A_0 (by omega) hC hP hD hS (4 + P) kind (by omega) dX4_layOne_7 (fun H locs hP hD hS => ?_)
  refine lv_aload_n hx hb dX4_layOne_8 rfl (lv_at hl 0 rfl) ?_
  refine lv_bipush (v := (nI 11)) hx hb dX4_layOne_9 (by decide +kernel) ?_
  refine lv_aload_n hx hb dX4_layOne_11 rfl (lv_at hl 0 rfl) ?_
  refine lv_iconst (v := (nI 0)) hx hb dX4_layOne_12 (by decide +kernel) ?_
  refine ld_A_0 (by omega) hC hP 0 (by omega) dX4_layOne_13 ?_
  refine wl_re (((pk_un (by omega)).trans h0)) ?_
  refine lv_iadd hx hb dX4_layOne_14 ?_
  refine wl_re (show nI 11 + nI P = nI (11 + P) from nI_add 11 P) ?_
  refine lv_iload_n hx hb dX4_layOne_15 rfl (lv_at hl 2 rfl) ?_
  refine st_A_0 (by omega) hC hP hD hS (11 + P) temper (by omega) dX4_layOne_16 (fun H locs hP hD hS => ?_)
  refine lv_aload_n hx hb dX4_layOne_17 rfl (lv_at hl 0 rfl) ?_
  refine lv_iconst (v := (nI 0)) hx hb dX4_layOne_18 (by decide +kernel) ?_
  refine lv_dup2_11 hx hb dX4_layOne_19 rfl rfl ?_
  refine ld_A_0 (by omega) hC hP 0 (by omega) dX4_layOne_20 ?_
  refine wl_re (((pk_un (by omega)).trans ((pk_un (by omega)).trans h0))) ?_
  refine lv_iconst (v := (nI 1)) hx hb dX4_layOne_21 (by decide +kernel) ?_
  refine lv_iadd hx hb dX4_layOne_22 ?_
  refine wl_re (show nI P + nI 1 = nI (P + 1) from nI_add P 1) ?_
  refine st_A_0 (by omega) hC hP hD hS 0 (nI (P + 1)) (by omega) dX4_layOne_23 (fun H locs hP hD hS => ?_)
  exact wl_vret hC hr hlk hm rfl hP hD hS dX4_layOne_24
theorem isOne_iff {p : Int32} {P : Nat} (hP : P ≤ 7) : m_X4_isOne p P = true ↔ 0 ≤ p.toInt ∧ p.toInt < (P : Int) := by
  unfold m_X4_isOne wl_bnd m_X4_in
  have e0 : (lN 0).toInt = 0 := by decide +kernel
  have e1 : p.toInt64 < lN 0 ↔ p.toInt < 0 := by rw [Int64.lt_iff_toInt_lt, Int32.toInt_toInt64, e0]
  have e2 : ((nI P - nI 1).toInt64) < p.toInt64 ↔ (P : Int) - 1 < p.toInt := by rw [Int64.lt_iff_toInt_lt, Int32.toInt_toInt64, Int32.toInt_toInt64, wl_pm1 hP]
  by_cases h1 : p.toInt64 < lN 0
  · rw [if_pos h1]
    have g := e1.mp h1
    simp
    omega
  · rw [if_neg h1]
    have g : ¬ p.toInt < 0 := fun q => h1 (e1.mpr q)
    by_cases h2 : ((nI P - nI 1).toInt64) < p.toInt64
    · rw [if_pos h2]
      have g2 := e2.mp h2
      simp
      omega
    · rw [if_neg h2]
      have g2 : ¬ (P : Int) - 1 < p.toInt := fun q => h2 (e2.mpr q)
      simp
      omega
theorem isOne_spec {p : Int32} {P : Nat} (hP : P ≤ 7) (h : m_X4_isOne p P = true) : p = nI (cl p) ∧ cl p < P := by
  obtain ⟨h1, h2⟩ := (isOne_iff hP).mp h
  obtain ⟨g1, g2⟩ := wl_cl h1
  exact ⟨g1, by omega⟩
def m_X4_kindOf (mnow : (Nat → Int32)) (p : Nat) : Int32 := (mnow (4 + p))
set_option maxHeartbeats 4000000 in
set_option maxRecDepth 100000 in
theorem c_X4_kindOf {l : Launch} {D : va_G} {E : Nat → ClassId} {a : Nat → Nat} {mabove : Int64} {mbelow : Int64} {mlisted : Int32} {mfollowing : Int32} {mdayThen : Int32} {mbytesLong : Nat} {mtokenAt : Nat} {mtokenLong : Nat} {mtoken : Int32} {mvalue : Int32} {mnow : (Nat → Int32)} {mkept : (Nat → Int32)} {misKept : (Nat → Int32)} {mrefused : (Nat → Int32)} {mtempers : (Nat → Int32)} {mhis : (Nat → Int32)} {mtheirs : (Nat → Int32)} {mmanyBy : (Nat → Int32)} {mbytes : (Nat → Int32)} {manew : (Nat → Int32)} {mvalues : (Nat → Int32)} {p : Nat} (hp : p < 7) : wl_Met (τ := Int32) l D E yX4_kindOf cX4_kindOf 2 (some .int) ({ frames := 0, cells := 0, slots := 0, locals := 0 } : Room) [.ref (a 0), .int (nI p)] (wM E a mabove mbelow mlisted mfollowing mdayThen mbytesLong mtokenAt mtokenLong mtoken mvalue mnow mkept misKept mrefused mtempers mhis mtheirs mmanyBy mbytes manew mvalues) (fun z => some (.int z)) (fun _ => (wM E a mabove mbelow mlisted mfollowing mdayThen mbytesLong mtokenAt mtokenLong mtoken mvalue mnow mkept misKept mrefused mtempers mhis mtheirs mmanyBy mbytes manew mvalues)) (m_X4_kindOf mnow p) := by
  refine wl_enter (own := RX4) (by decide +kernel) rfl (Nat.le_of_ble_eq_true rfl) ?_
  intro p0 e0 s0 m0 bl0 mt0 c0 A hC hr hlk hA H locs hP hD hS ls hl
  have hx := hC.1
  have hb := hC.2.1
  have hl : lv_has ls 2 [(0, .ref (a 0)), (1, .int (nI p))] := hl
  have hm := m_X4_kindOf.eq_1 mnow p
  refine lv_aload_n hx hb dX4_kindOf_0 rfl (lv_at hl 0 rfl) ?_
  refine g_M_0_now hC hP mw_385 dX4_kindOf_1 ?_
  refine lv_iconst (v := (nI 4)) hx hb dX4_kindOf_4 (by decide +kernel) ?_
  refine lv_iload_n hx hb dX4_kindOf_5 rfl (lv_at hl 1 rfl) ?_
  refine lv_iadd hx hb dX4_kindOf_6 ?_
  refine wl_re (show nI 4 + nI p = nI (4 + p) from nI_add 4 p) ?_
  refine ld_M_1 hC hP (4 + p) (by omega) dX4_kindOf_7 ?_
  exact wl_iret hC hr hlk hm rfl hP hD hS dX4_kindOf_8
def m_X4_actOf (mfollowing : Int32) (mdayThen : Int32) (mnow : (Nat → Int32)) (mtempers : (Nat → Int32)) (p : Nat) : Int32 := (wl_bnd (m_X4_kindOf mnow p) (fun z1 => (wl_bnd (m_X4_has mfollowing p) (fun z2 => (wl_bnd (m_X4_actAs z1 (mtempers p) mdayThen z2) (fun z3 => z3))))))
set_option maxHeartbeats 4000000 in
set_option maxRecDepth 100000 in
theorem c_X4_actOf {l : Launch} {D : va_G} {E : Nat → ClassId} {a : Nat → Nat} {mabove : Int64} {mbelow : Int64} {mlisted : Int32} {mfollowing : Int32} {mdayThen : Int32} {mbytesLong : Nat} {mtokenAt : Nat} {mtokenLong : Nat} {mtoken : Int32} {mvalue : Int32} {mnow : (Nat → Int32)} {mkept : (Nat → Int32)} {misKept : (Nat → Int32)} {mrefused : (Nat → Int32)} {mtempers : (Nat → Int32)} {mhis : (Nat → Int32)} {mtheirs : (Nat → Int32)} {mmanyBy : (Nat → Int32)} {mbytes : (Nat → Int32)} {manew : (Nat → Int32)} {mvalues : (Nat → Int32)} {p : Nat} (hp : p < 7) : wl_Met (τ := Int32) l D E yX4_actOf cX4_actOf 2 (some .int) ({ frames := 1, cells := 0, slots := 0, locals := 26 } : Room) [.ref (a 0), .int (nI p)] (wM E a mabove mbelow mlisted mfollowing mdayThen mbytesLong mtokenAt mtokenLong mtoken mvalue mnow mkept misKept mrefused mtempers mhis mtheirs mmanyBy mbytes manew mvalues) (fun z => some (.int z)) (fun _ => (wM E a mabove mbelow mlisted mfollowing mdayThen mbytesLong mtokenAt mtokenLong mtoken mvalue mnow mkept misKept mrefused mtempers mhis mtheirs mmanyBy mbytes manew mvalues)) (m_X4_actOf mfollowing mdayThen mnow mtempers p) := by
  refine wl_enter (own := RX4) (by decide +kernel) rfl (Nat.le_of_ble_eq_true rfl) ?_
  intro p0 e0 s0 m0 bl0 mt0 c0 A hC hr hlk hA H locs hP hD hS ls hl
  have hx := hC.1
  have hb := hC.2.1
  have hl : lv_has ls 2 [(0, .ref (a 0)), (1, .int (nI p))] := hl
  have hm := m_X4_actOf.eq_1 mfollowing mdayThen mnow mtempers p
  refine lv_aload_n hx hb dX4_actOf_0 rfl (lv_at hl 0 rfl) ?_
  refine lv_iload_n hx hb dX4_actOf_1 rfl (lv_at hl 1 rfl) ?_
  refine wl_callVi hC (c_X4_kindOf (p := p) (by first | assumption | omega)) lk_RX4_88 rfl ⟨rfl, rfl, Nat.le_of_ble_eq_true rfl, Nat.le_of_ble_eq_true rfl⟩ hP hD hS hA 0 rfl (T1 := 21) rfl hl.1 rfl (Nat.le_of_ble_eq_true rfl) dX4_actOf_2 ⟨Nat.zero_le _, Nat.zero_le _⟩ (fun z1 hz1 H locs hP hD hS => ?_)
  have hm := wl_bz hm hz1
  refine lv_aload_n hx hb dX4_actOf_5 rfl (lv_at hl 0 rfl) ?_
  refine g_M_0_tempers hC hP mw_390 dX4_actOf_6 ?_
  refine lv_iload_n hx hb dX4_actOf_9 rfl (lv_at hl 1 rfl) ?_
  refine ld_M_5 hC hP p (by omega) dX4_actOf_10 ?_
  refine lv_aload_n hx hb dX4_actOf_11 rfl (lv_at hl 0 rfl) ?_
  refine g_M_0_dayThen hC hP mw_434 dX4_actOf_12 ?_
  refine lv_aload_n hx hb dX4_actOf_15 rfl (lv_at hl 0 rfl) ?_
  refine g_M_0_following hC hP mw_433 dX4_actOf_16 ?_
  refine lv_iload_n hx hb dX4_actOf_19 rfl (lv_at hl 1 rfl) ?_
  refine wl_callPi hC (c_X4_has (set := mfollowing) (k := p) ) lk_RX4_91 rfl ⟨rfl, rfl, Nat.le_of_ble_eq_true rfl, Nat.le_of_ble_eq_true rfl⟩ hP hS hA hl.1 rfl (Nat.le_of_ble_eq_true rfl) dX4_actOf_20 ⟨Nat.zero_le _, Nat.zero_le _⟩ (fun z2 hz2 H locs hP hS => ?_)
  have hm := wl_bz hm hz2
  refine wl_callPi hC (c_X4_actAs (kind := z1) (t := (mtempers p)) (day := mdayThen) (followed := z2) ) lk_RX4_95 rfl ⟨rfl, rfl, Nat.le_of_ble_eq_true rfl, Nat.le_of_ble_eq_true rfl⟩ hP hS hA hl.1 rfl (Nat.le_of_ble_eq_true rfl) dX4_actOf_23 ⟨Nat.zero_le _, Nat.zero_le _⟩ (fun z3 hz3 H locs hP hS => ?_)
  have hm := wl_bz hm hz3
  exact wl_iret hC hr hlk hm rfl hP hD hS dX4_actOf_26
def m_X4_doesIt (mfollowing : Int32) (mdayThen : Int32) (mnow : (Nat → Int32)) (mtempers : (Nat → Int32)) (p : Nat) : Bool := (wl_bnd (m_X4_actOf mfollowing mdayThen mnow mtempers p) (fun z1 => (if z1 < (mnow 1) then false else true)))
set_option maxHeartbeats 4000000 in
set_option maxRecDepth 100000 in
theorem c_X4_doesIt {l : Launch} {D : va_G} {E : Nat → ClassId} {a : Nat → Nat} {mabove : Int64} {mbelow : Int64} {mlisted : Int32} {mfollowing : Int32} {mdayThen : Int32} {mbytesLong : Nat} {mtokenAt : Nat} {mtokenLong : Nat} {mtoken : Int32} {mvalue : Int32} {mnow : (Nat → Int32)} {mkept : (Nat → Int32)} {misKept : (Nat → Int32)} {mrefused : (Nat → Int32)} {mtempers : (Nat → Int32)} {mhis : (Nat → Int32)} {mtheirs : (Nat → Int32)} {mmanyBy : (Nat → Int32)} {mbytes : (Nat → Int32)} {manew : (Nat → Int32)} {mvalues : (Nat → Int32)} {p : Nat} (hp : p < 7) : wl_Met (τ := Bool) l D E yX4_doesIt cX4_doesIt 2 (some .boolean) ({ frames := 2, cells := 0, slots := 0, locals := 47 } : Room) [.ref (a 0), .int (nI p)] (wM E a mabove mbelow mlisted mfollowing mdayThen mbytesLong mtokenAt mtokenLong mtoken mvalue mnow mkept misKept mrefused mtempers mhis mtheirs mmanyBy mbytes manew mvalues) (fun z => some (.int (wl_b z))) (fun _ => (wM E a mabove mbelow mlisted mfollowing mdayThen mbytesLong mtokenAt mtokenLong mtoken mvalue mnow mkept misKept mrefused mtempers mhis mtheirs mmanyBy mbytes manew mvalues)) (m_X4_doesIt mfollowing mdayThen mnow mtempers p) := by
  refine wl_enter (own := RX4) (by decide +kernel) rfl (Nat.le_of_ble_eq_true rfl) ?_
  intro p0 e0 s0 m0 bl0 mt0 c0 A hC hr hlk hA H locs hP hD hS ls hl
  have hx := hC.1
  have hb := hC.2.1
  have hl : lv_has ls 2 [(0, .ref (a 0)), (1, .int (nI p))] := hl
  have hm := m_X4_doesIt.eq_1 mfollowing mdayThen mnow mtempers p
  refine lv_aload_n hx hb dX4_doesIt_0 rfl (lv_at hl 0 rfl) ?_
  refine lv_iload_n hx hb dX4_doesIt_1 rfl (lv_at hl 1 rfl) ?_
  refine wl_callVi hC (c_X4_actOf (p := p) (by first | assumption | omega)) lk_RX4_99 rfl ⟨rfl, rfl, Nat.le_of_ble_eq_true rfl, Nat.le_of_ble_eq_true rfl⟩ hP hD hS hA 0 rfl (T1 := 21) rfl hl.1 rfl (Nat.le_of_ble_eq_true rfl) dX4_doesIt_2 ⟨Nat.zero_le _, Nat.zero_le _⟩ (fun z1 hz1 H locs hP hD hS => ?_)
  have hm := wl_bz hm hz1
  refine lv_aload_n hx hb dX4_doesIt_5 rfl (lv_at hl 0 rfl) ?_
  refine g_M_0_now hC hP mw_385 dX4_doesIt_6 ?_
  refine lv_iconst (v := (nI 1)) hx hb dX4_doesIt_9 (by decide +kernel) ?_
  refine ld_M_1 hC hP 1 (by omega) dX4_doesIt_10 ?_
  refine lv_icmp_lt hx hb (tgt := 18) dX4_doesIt_11 (by decide) (fun c2 => ?_) (fun c2 => ?_)
  · have hm := hm.trans (if_pos c2)
    refine lv_iconst (v := (nI 0)) hx hb dX4_doesIt_18 (by decide +kernel) ?_
    exact wl_zret (v := false) hC hr hlk hm rfl hP hD hS dX4_doesIt_19
  · have hm := hm.trans (if_neg c2)
    refine lv_iconst (v := (nI 1)) hx hb dX4_doesIt_14 (by decide +kernel) ?_
    refine lv_goto (tgt := 19) hx hb dX4_doesIt_15 (by decide) ?_
    exact wl_zret (v := true) hC hr hlk hm rfl hP hD hS dX4_doesIt_19
def m_X4_layHand_l2 (mnow : (Nat → Int32)) (k1 : Nat) (v1 : (Nat → Int32)) : (Nat → Int32) := (upd v1 k1 (mnow (11 + k1)))
def m_X4_layHand (mnow : (Nat → Int32)) (mtempers : (Nat → Int32)) (P : Nat) : Int32 × Int32 × Int32 × (Nat → Int32) := (wl_bnd (wl_iter (m_X4_layHand_l2 mnow) P 0 mtempers) (fun z1 => ((mnow 18), (mnow 19), (mnow 21), z1)))
set_option maxHeartbeats 4000000 in
set_option maxRecDepth 100000 in
theorem c_X4_layHand {l : Launch} {D : va_G} {E : Nat → ClassId} {a : Nat → Nat} {mabove : Int64} {mbelow : Int64} {mlisted : Int32} {mfollowing : Int32} {mdayThen : Int32} {mbytesLong : Nat} {mtokenAt : Nat} {mtokenLong : Nat} {mtoken : Int32} {mvalue : Int32} {mnow : (Nat → Int32)} {mkept : (Nat → Int32)} {misKept : (Nat → Int32)} {mrefused : (Nat → Int32)} {mtempers : (Nat → Int32)} {mhis : (Nat → Int32)} {mtheirs : (Nat → Int32)} {mmanyBy : (Nat → Int32)} {mbytes : (Nat → Int32)} {manew : (Nat → Int32)} {mvalues : (Nat → Int32)} {P : Nat} (h0 : mnow 0 = nI P) (hP7 : P ≤ 7) : wl_Met (τ := Int32 × Int32 × Int32 × (Nat → Int32)) l D E yX4_layHand cX4_layHand 2 none ({ frames := 1, cells := 0, slots := 0, locals := 20 } : Room) [.ref (a 0)] (wM E a mabove mbelow mlisted mfollowing mdayThen mbytesLong mtokenAt mtokenLong mtoken mvalue mnow mkept misKept mrefused mtempers mhis mtheirs mmanyBy mbytes manew mvalues) (fun _ => none) (fun z => (wM E a mabove mbelow z.1 z.2.1 z.2.2.1 mbytesLong mtokenAt mtokenLong mtoken mvalue mnow mkept misKept mrefused z.2.2.2 mhis mtheirs mmanyBy mbytes manew mvalues)) (m_X4_layHand mnow mtempers P) := by
  refine wl_enter (own := RX4) (by decide +kernel) rfl (Nat.le_of_ble_eq_true rfl) ?_
  intro p0 e0 s0 m0 bl0 mt0 c0 A hC hr hlk hA H locs hP hD hS ls hl
  have hx := hC.1
  have hb := hC.2.1
  have hl : lv_has ls 2 [(0, .ref (a 0))] := hl
  have hm := m_X4_layHand.eq_1 mnow mtempers P
  refine lv_iconst (v := (nI 0)) hx hb dX4_layHand_0 (by decide +kernel) ?_
  refine lv_istore_n (lv' := [(1, .int (nI 0)), (0, .ref (a 0))]) hx hb dX4_layHand_1 rfl hl (by decide) rfl (fun ls hl => ?_)
  obtain ⟨u1, hu1, hk1⟩ := wl_bx hm
  refine wl_for (D := D) (A := A) (H0 := s0.heap) (m_X4_layHand_l2 mnow) P 0 P mtempers 2 2 (fun k1 v1 => [(0, .ref (a 0)), (1, .int (nI k1))]) (fun k1 v1 => (wM E a mabove mbelow mlisted mfollowing mdayThen mbytesLong mtokenAt mtokenLong mtoken mvalue mnow mkept misKept mrefused v1 mhis mtheirs mmanyBy mbytes manew mvalues)) (fun k1 v1 => True) (by omega) trivial ?_ ?_ hP hD hS (lv_sub hl [1, 0] rfl)
  · intro z1 hv1 hI1 ls H locs hP hD hS hl
    have hm := hk1 z1 (hu1.trans hv1)
    refine lv_iload_n hx hb dX4_layHand_2 rfl (lv_at hl 1 rfl) ?_
    refine lv_aload_n hx hb dX4_layHand_3 rfl (lv_at hl 0 rfl) ?_
    refine wl_callVi hC (c_X4_many (P := P) (h0)) lk_RX4_52 rfl ⟨rfl, rfl, Nat.le_of_ble_eq_true rfl, Nat.le_of_ble_eq_true rfl⟩ hP hD hS hA 0 rfl (T1 := 21) rfl hl.1 rfl (Nat.le_of_ble_eq_true rfl) dX4_layHand_4 ⟨Nat.zero_le _, Nat.zero_le _⟩ (fun z4 hz4 H locs hP hD hS => ?_)
    have hz4 := hz4.symm
    subst hz4
    refine wl_icmp_ge_n hx hb (by first | omega | exact Nat.lt_of_le_of_lt Nat.and_le_right (by omega) | exact Nat.pow_lt_pow_right (by omega) (by omega) | exact Nat.lt_trans (by assumption) (Nat.pow_lt_pow_right (by omega) (by omega))) (by first | omega | exact Nat.lt_of_le_of_lt Nat.and_le_right (by omega) | exact Nat.pow_lt_pow_right (by omega) (by omega) | exact Nat.lt_trans (by assumption) (Nat.pow_lt_pow_right (by omega) (by omega))) (tgt := 31) dX4_layHand_7 (by decide) (fun c5 => ?_) (fun c5 => absurd (by omega) c5)
    refine lv_aload_n hx hb dX4_layHand_31 rfl (lv_at hl 0 rfl) ?_
    refine lv_aload_n hx hb dX4_layHand_32 rfl (lv_at hl 0 rfl) ?_
    refine g_M_0_now hC hP mw_385 dX4_layHand_33 ?_
    refine lv_bipush (v := (nI 18)) hx hb dX4_layHand_36 (by decide +kernel) ?_
    refine ld_M_1 hC hP 18 (by omega) dX4_layHand_38 ?_
    refine p_M_0_listed hC hP hD hS (mnow 18) mw_432 dX4_layHand_39 (fun H locs hP hD hS => ?_)
    refine lv_aload_n hx hb dX4_layHand_42 rfl (lv_at hl 0 rfl) ?_
    refine lv_aload_n hx hb dX4_layHand_43 rfl (lv_at hl 0 rfl) ?_
    refine g_M_0_now hC hP mw_385 dX4_layHand_44 ?_
    refine lv_bipush (v := (nI 19)) hx hb dX4_layHand_47 (by decide +kernel) ?_
    refine ld_M_1 hC hP 19 (by omega) dX4_layHand_49 ?_
    refine p_M_0_following hC hP hD hS (mnow 19) mw_433 dX4_layHand_50 (fun H locs hP hD hS => ?_)
    refine lv_aload_n hx hb dX4_layHand_53 rfl (lv_at hl 0 rfl) ?_
    refine lv_aload_n hx hb dX4_layHand_54 rfl (lv_at hl 0 rfl) ?_
    refine g_M_0_now hC hP mw_385 dX4_layHand_55 ?_
    refine lv_bipush (v := (nI 21)) hx hb dX4_layHand_58 (by decide +kernel) ?_
    refine ld_M_1 hC hP 21 (by omega) dX4_layHand_60 ?_
    refine p_M_0_dayThen hC hP hD hS (mnow 21) mw_434 dX4_layHand_61 (fun H locs hP hD hS => ?_)
    exact wl_vret hC hr hlk hm rfl hP hD hS dX4_layHand_64
  · intro k1 v1 hlo1 hhi1 hI1 IH1 ls H locs hP hD hS hl
    have hb1 := m_X4_layHand_l2.eq_1 mnow k1 v1
    refine lv_iload_n hx hb dX4_layHand_2 rfl (lv_at hl 1 rfl) ?_
    refine lv_aload_n hx hb dX4_layHand_3 rfl (lv_at hl 0 rfl) ?_
    refine wl_callVi hC (c_X4_many (P := P) (h0)) lk_RX4_52 rfl ⟨rfl, rfl, Nat.le_of_ble_eq_true rfl, Nat.le_of_ble_eq_true rfl⟩ hP hD hS hA 0 rfl (T1 := 21) rfl hl.1 rfl (Nat.le_of_ble_eq_true rfl) dX4_layHand_4 ⟨Nat.zero_le _, Nat.zero_le _⟩ (fun z2 hz2 H locs hP hD hS => ?_)
    have hz2 := hz2.symm
    subst hz2
    refine wl_icmp_ge_n hx hb (by first | omega | exact Nat.lt_of_le_of_lt Nat.and_le_right (by omega) | exact Nat.pow_lt_pow_right (by omega) (by omega) | exact Nat.lt_trans (by assumption) (Nat.pow_lt_pow_right (by omega) (by omega))) (by first | omega | exact Nat.lt_of_le_of_lt Nat.and_le_right (by omega) | exact Nat.pow_lt_pow_right (by omega) (by omega) | exact Nat.lt_trans (by assumption) (Nat.pow_lt_pow_right (by omega) (by omega))) (tgt := 31) dX4_layHand_7 (by decide) (fun c3 => absurd c3 (by omega)) (fun c3 => ?_)
    refine lv_aload_n hx hb dX4_layHand_10 rfl (lv_at hl 0 rfl) ?_
    refine g_M_0_tempers hC hP mw_390 dX4_layHand_11 ?_
    refine lv_iload_n hx hb dX4_layHand_14 rfl (lv_at hl 1 rfl) ?_
    refine lv_aload_n hx hb dX4_layHand_15 rfl (lv_at hl 0 rfl) ?_
    refine g_M_0_now hC hP mw_385 dX4_layHand_16 ?_
    refine lv_bipush (v := (nI 11)) hx hb dX4_layHand_19 (by decide +kernel) ?_
    refine lv_iload_n hx hb dX4_layHand_21 rfl (lv_at hl 1 rfl) ?_
    refine lv_iadd hx hb dX4_layHand_22 ?_
    refine wl_re (show nI 11 + nI k1 = nI (11 + k1) from nI_add 11 k1) ?_
    refine ld_M_1 hC hP (11 + k1) (by omega) dX4_layHand_23 ?_
    refine st_M_5 hC hP hD hS k1 (mnow (11 + k1)) (by omega) dX4_layHand_24 (fun H locs hP hD hS => ?_)
    refine lv_iinc (v := (nI (k1 + 1))) (lv' := [(1, .int (nI (k1 + 1))), (0, .ref (a 0))]) hx hb dX4_layHand_25 hl (k := 1) rfl (wl_inc k1 1) (by decide) rfl (fun ls hl => ?_)
    refine lv_goto (tgt := 2) hx hb dX4_layHand_28 (by decide) ?_
    exact IH1 _ hb1 trivial ls H locs hP hD hS (lv_sub hl [1, 0] rfl)
def m_X4_goDay_l4 (mlisted : Int32) (mfollowing : Int32) (mdayThen : Int32) (mnow : (Nat → Int32)) (mtempers : (Nat → Int32)) (k1 : Nat) (v1 : Int32) : Int32 := (wl_bnd (m_X4_has (mlisted &&& mfollowing) k1) (fun z4 => (if z4 = true then (wl_bnd (m_X4_doesIt mfollowing mdayThen mnow mtempers k1) (fun z6 => (if z6 = true then (v1 ||| ((nI 1) <<< ((nI k1) &&& 31))) else (v1 ||| (nI 0))))) else (v1 ||| (nI 0)))))
def m_X4_goDay_l54 (mfollowing : Int32) (mnow : (Nat → Int32)) (k10 : Nat) (v10 : (Nat → Int32)) : (Nat → Int32) := (wl_bnd (m_X4_kindOf mnow k10) (fun z13 => (wl_bnd (m_X4_has mfollowing k10) (fun z14 => (wl_bnd (m_X4_temperBehind z13 (v10 k10) z14) (fun z15 => (upd v10 k10 z15)))))))
def m_X4_goDay (mlisted : Int32) (mfollowing : Int32) (mdayThen : Int32) (mnow : (Nat → Int32)) (mtempers : (Nat → Int32)) (P : Nat) : Int32 × Int32 × Int32 × Int32 × (Nat → Int32) := (wl_bnd (wl_iter (m_X4_goDay_l4 mlisted mfollowing mdayThen mnow mtempers) P 0 (nI 0)) (fun z1 => (wl_bnd (wl_iter (m_X4_goDay_l54 mfollowing mnow) P 0 mtempers) (fun z10 => (z1, (mlisted &&& (z1 ^^^ (-1))), (mfollowing &&& (z1 ^^^ (-1))), (mdayThen + (nI 1)), z10)))))
set_option maxHeartbeats 4000000 in
set_option maxRecDepth 100000 in
theorem c_X4_goDay {l : Launch} {D : va_G} {E : Nat → ClassId} {a : Nat → Nat} {mabove : Int64} {mbelow : Int64} {mlisted : Int32} {mfollowing : Int32} {mdayThen : Int32} {mbytesLong : Nat} {mtokenAt : Nat} {mtokenLong : Nat} {mtoken : Int32} {mvalue : Int32} {mnow : (Nat → Int32)} {mkept : (Nat → Int32)} {misKept : (Nat → Int32)} {mrefused : (Nat → Int32)} {mtempers : (Nat → Int32)} {mhis : (Nat → Int32)} {mtheirs : (Nat → Int32)} {mmanyBy : (Nat → Int32)} {mbytes : (Nat → Int32)} {manew : (Nat → Int32)} {mvalues : (Nat → Int32)} {P : Nat} (h0 : mnow 0 = nI P) (hP7 : P ≤ 7) : wl_Met (τ := Int32 × Int32 × Int32 × Int32 × (Nat → Int32)) l D E yX4_goDay cX4_goDay 3 (some .int) ({ frames := 3, cells := 0, slots := 0, locals := 68 } : Room) [.ref (a 0)] (wM E a mabove mbelow mlisted mfollowing mdayThen mbytesLong mtokenAt mtokenLong mtoken mvalue mnow mkept misKept mrefused mtempers mhis mtheirs mmanyBy mbytes manew mvalues) (fun z => some (.int z.1)) (fun z => (wM E a mabove mbelow z.2.1 z.2.2.1 z.2.2.2.1 mbytesLong mtokenAt mtokenLong mtoken mvalue mnow mkept misKept mrefused z.2.2.2.2 mhis mtheirs mmanyBy mbytes manew mvalues)) (m_X4_goDay mlisted mfollowing mdayThen mnow mtempers P) := by
  refine wl_enter (own := RX4) (by decide +kernel) rfl (Nat.le_of_ble_eq_true rfl) ?_
  intro p0 e0 s0 m0 bl0 mt0 c0 A hC hr hlk hA H locs hP hD hS ls hl
  have hx := hC.1
  have hb := hC.2.1
  have hl : lv_has ls 3 [(0, .ref (a 0))] := hl
  have hm := m_X4_goDay.eq_1 mlisted mfollowing mdayThen mnow mtempers P
  refine lv_iconst (v := (nI 0)) hx hb dX4_goDay_0 (by decide +kernel) ?_
  refine lv_istore_n (lv' := [(1, .int (nI 0)), (0, .ref (a 0))]) hx hb dX4_goDay_1 rfl hl (by decide) rfl (fun ls hl => ?_)
  refine lv_iconst (v := (nI 0)) hx hb dX4_goDay_2 (by decide +kernel) ?_
  refine lv_istore_n (lv' := [(2, .int (nI 0)), (1, .int (nI 0)), (0, .ref (a 0))]) hx hb dX4_goDay_3 rfl hl (by decide) rfl (fun ls hl => ?_)
  obtain ⟨u1, hu1, hk1⟩ := wl_bx hm
  refine wl_for (D := D) (A := A) (H0 := s0.heap) (m_X4_goDay_l4 mlisted mfollowing mdayThen mnow mtempers) P 0 P (nI 0) 4 3 (fun k1 v1 => [(0, .ref (a 0)), (1, .int v1), (2, .int (nI k1))]) (fun k1 v1 => (wM E a mabove mbelow mlisted mfollowing mdayThen mbytesLong mtokenAt mtokenLong mtoken mvalue mnow mkept misKept mrefused mtempers mhis mtheirs mmanyBy mbytes manew mvalues)) (fun k1 v1 => True) (by omega) trivial ?_ ?_ hP hD hS (lv_sub hl [2, 1, 0] rfl)
  · intro z1 hv1 hI1 ls H locs hP hD hS hl
    have hm := hk1 z1 (hu1.trans hv1)
    refine lv_iload_n hx hb dX4_goDay_4 rfl (lv_at hl 2 rfl) ?_
    refine lv_aload_n hx hb dX4_goDay_5 rfl (lv_at hl 0 rfl) ?_
    refine wl_callVi hC (c_X4_many (P := P) (h0)) lk_RX4_52 rfl ⟨rfl, rfl, Nat.le_of_ble_eq_true rfl, Nat.le_of_ble_eq_true rfl⟩ hP hD hS hA 0 rfl (T1 := 21) rfl hl.1 rfl (Nat.le_of_ble_eq_true rfl) dX4_goDay_6 ⟨Nat.zero_le _, Nat.zero_le _⟩ (fun z8 hz8 H locs hP hD hS => ?_)
    have hz8 := hz8.symm
    subst hz8
    refine wl_icmp_ge_n hx hb (by first | omega | exact Nat.lt_of_le_of_lt Nat.and_le_right (by omega) | exact Nat.pow_lt_pow_right (by omega) (by omega) | exact Nat.lt_trans (by assumption) (Nat.pow_lt_pow_right (by omega) (by omega))) (by first | omega | exact Nat.lt_of_le_of_lt Nat.and_le_right (by omega) | exact Nat.pow_lt_pow_right (by omega) (by omega) | exact Nat.lt_trans (by assumption) (Nat.pow_lt_pow_right (by omega) (by omega))) (tgt := 52) dX4_goDay_9 (by decide) (fun c9 => ?_) (fun c9 => absurd (by omega) c9)
    refine lv_iconst (v := (nI 0)) hx hb dX4_goDay_52 (by decide +kernel) ?_
    refine lv_istore_n (lv' := [(2, .int (nI 0)), (0, .ref (a 0)), (1, .int z1)]) hx hb dX4_goDay_53 rfl hl (by decide) rfl (fun ls hl => ?_)
    obtain ⟨u10, hu10, hk10⟩ := wl_bx hm
    refine wl_for (D := D) (A := A) (H0 := s0.heap) (m_X4_goDay_l54 mfollowing mnow) P 0 P mtempers 54 3 (fun k10 v10 => [(0, .ref (a 0)), (1, .int z1), (2, .int (nI k10))]) (fun k10 v10 => (wM E a mabove mbelow mlisted mfollowing mdayThen mbytesLong mtokenAt mtokenLong mtoken mvalue mnow mkept misKept mrefused v10 mhis mtheirs mmanyBy mbytes manew mvalues)) (fun k10 v10 => True) (by omega) trivial ?_ ?_ hP hD hS (lv_sub hl [1, 2, 0] rfl)
    · intro z10 hv10 hI10 ls H locs hP hD hS hl
      have hm := hk10 z10 (hu10.trans hv10)
      refine lv_iload_n hx hb dX4_goDay_54 rfl (lv_at hl 2 rfl) ?_
      refine lv_aload_n hx hb dX4_goDay_55 rfl (lv_at hl 0 rfl) ?_
      refine wl_callVi hC (c_X4_many (P := P) (h0)) lk_RX4_52 rfl ⟨rfl, rfl, Nat.le_of_ble_eq_true rfl, Nat.le_of_ble_eq_true rfl⟩ hP hD hS hA 0 rfl (T1 := 21) rfl hl.1 rfl (Nat.le_of_ble_eq_true rfl) dX4_goDay_56 ⟨Nat.zero_le _, Nat.zero_le _⟩ (fun z16 hz16 H locs hP hD hS => ?_)
      have hz16 := hz16.symm
      subst hz16
      refine wl_icmp_ge_n hx hb (by first | omega | exact Nat.lt_of_le_of_lt Nat.and_le_right (by omega) | exact Nat.pow_lt_pow_right (by omega) (by omega) | exact Nat.lt_trans (by assumption) (Nat.pow_lt_pow_right (by omega) (by omega))) (by first | omega | exact Nat.lt_of_le_of_lt Nat.and_le_right (by omega) | exact Nat.pow_lt_pow_right (by omega) (by omega) | exact Nat.lt_trans (by assumption) (Nat.pow_lt_pow_right (by omega) (by omega))) (tgt := 96) dX4_goDay_59 (by decide) (fun c17 => ?_) (fun c17 => absurd (by omega) c17)
      refine lv_aload_n hx hb dX4_goDay_96 rfl (lv_at hl 0 rfl) ?_
      refine lv_dup hx hb dX4_goDay_97 rfl ?_
      refine g_M_0_listed hC hP mw_432 dX4_goDay_98 ?_
      refine lv_iload_n hx hb dX4_goDay_101 rfl (lv_at hl 1 rfl) ?_
      refine lv_iconst (v := (-1)) hx hb dX4_goDay_102 (by decide +kernel) ?_
      refine lv_ixor hx hb dX4_goDay_103 ?_
      refine lv_iand hx hb dX4_goDay_104 ?_
      refine p_M_0_listed hC hP hD hS (mlisted &&& (z1 ^^^ (-1))) mw_432 dX4_goDay_105 (fun H locs hP hD hS => ?_)
      refine lv_aload_n hx hb dX4_goDay_108 rfl (lv_at hl 0 rfl) ?_
      refine lv_dup hx hb dX4_goDay_109 rfl ?_
      refine g_M_0_following hC hP mw_433 dX4_goDay_110 ?_
      refine lv_iload_n hx hb dX4_goDay_113 rfl (lv_at hl 1 rfl) ?_
      refine lv_iconst (v := (-1)) hx hb dX4_goDay_114 (by decide +kernel) ?_
      refine lv_ixor hx hb dX4_goDay_115 ?_
      refine lv_iand hx hb dX4_goDay_116 ?_
      refine p_M_0_following hC hP hD hS (mfollowing &&& (z1 ^^^ (-1))) mw_433 dX4_goDay_117 (fun H locs hP hD hS => ?_)
      refine lv_aload_n hx hb dX4_goDay_120 rfl (lv_at hl 0 rfl) ?_
      refine lv_dup hx hb dX4_goDay_121 rfl ?_
      refine g_M_0_dayThen hC hP mw_434 dX4_goDay_122 ?_
      refine lv_iconst (v := (nI 1)) hx hb dX4_goDay_125 (by decide +kernel) ?_
      refine lv_iadd hx hb dX4_goDay_126 ?_
      refine p_M_0_dayThen hC hP hD hS (mdayThen + (nI 1)) mw_434 dX4_goDay_127 (fun H locs hP hD hS => ?_)
      refine lv_iload_n hx hb dX4_goDay_130 rfl (lv_at hl 1 rfl) ?_
      exact wl_iret hC hr hlk hm rfl hP hD hS dX4_goDay_131
    · intro k10 v10 hlo10 hhi10 hI10 IH10 ls H locs hP hD hS hl
      have hb10 := m_X4_goDay_l54.eq_1 mfollowing mnow k10 v10
      refine lv_iload_n hx hb dX4_goDay_54 rfl (lv_at hl 2 rfl) ?_
      refine lv_aload_n hx hb dX4_goDay_55 rfl (lv_at hl 0 rfl) ?_
      refine wl_callVi hC (c_X4_many (P := P) (h0)) lk_RX4_52 rfl ⟨rfl, rfl, Nat.le_of_ble_eq_true rfl, Nat.le_of_ble_eq_true rfl⟩ hP hD hS hA 0 rfl (T1 := 21) rfl hl.1 rfl (Nat.le_of_ble_eq_true rfl) dX4_goDay_56 ⟨Nat.zero_le _, Nat.zero_le _⟩ (fun z11 hz11 H locs hP hD hS => ?_)
      have hz11 := hz11.symm
      subst hz11
      refine wl_icmp_ge_n hx hb (by first | omega | exact Nat.lt_of_le_of_lt Nat.and_le_right (by omega) | exact Nat.pow_lt_pow_right (by omega) (by omega) | exact Nat.lt_trans (by assumption) (Nat.pow_lt_pow_right (by omega) (by omega))) (by first | omega | exact Nat.lt_of_le_of_lt Nat.and_le_right (by omega) | exact Nat.pow_lt_pow_right (by omega) (by omega) | exact Nat.lt_trans (by assumption) (Nat.pow_lt_pow_right (by omega) (by omega))) (tgt := 96) dX4_goDay_59 (by decide) (fun c12 => absurd c12 (by omega)) (fun c12 => ?_)
      refine lv_aload_n hx hb dX4_goDay_62 rfl (lv_at hl 0 rfl) ?_
      refine g_M_0_tempers hC hP mw_390 dX4_goDay_63 ?_
      refine lv_iload_n hx hb dX4_goDay_66 rfl (lv_at hl 2 rfl) ?_
      refine lv_aload_n hx hb dX4_goDay_67 rfl (lv_at hl 0 rfl) ?_
      refine lv_iload_n hx hb dX4_goDay_68 rfl (lv_at hl 2 rfl) ?_
      refine wl_callVi hC (c_X4_kindOf (p := k10) (by first | assumption | omega)) lk_RX4_88 rfl ⟨rfl, rfl, Nat.le_of_ble_eq_true rfl, Nat.le_of_ble_eq_true rfl⟩ hP hD hS hA 0 rfl (T1 := 21) rfl hl.1 rfl (Nat.le_of_ble_eq_true rfl) dX4_goDay_69 ⟨Nat.zero_le _, Nat.zero_le _⟩ (fun z13 hz13 H locs hP hD hS => ?_)
      have hb10 := wl_bz hb10 hz13
      refine lv_aload_n hx hb dX4_goDay_72 rfl (lv_at hl 0 rfl) ?_
      refine g_M_0_tempers hC hP mw_390 dX4_goDay_73 ?_
      refine lv_iload_n hx hb dX4_goDay_76 rfl (lv_at hl 2 rfl) ?_
      refine ld_M_5 hC hP k10 (by omega) dX4_goDay_77 ?_
      refine lv_aload_n hx hb dX4_goDay_78 rfl (lv_at hl 0 rfl) ?_
      refine g_M_0_following hC hP mw_433 dX4_goDay_79 ?_
      refine lv_iload_n hx hb dX4_goDay_82 rfl (lv_at hl 2 rfl) ?_
      refine wl_callPi hC (c_X4_has (set := mfollowing) (k := k10) ) lk_RX4_91 rfl ⟨rfl, rfl, Nat.le_of_ble_eq_true rfl, Nat.le_of_ble_eq_true rfl⟩ hP hS hA hl.1 rfl (Nat.le_of_ble_eq_true rfl) dX4_goDay_83 ⟨Nat.zero_le _, Nat.zero_le _⟩ (fun z14 hz14 H locs hP hS => ?_)
      have hb10 := wl_bz hb10 hz14
      refine wl_callPi hC (c_X4_temperBehind (kind := z13) (t := (v10 k10)) (followed := z14) ) lk_RX4_106 rfl ⟨rfl, rfl, Nat.le_of_ble_eq_true rfl, Nat.le_of_ble_eq_true rfl⟩ hP hS hA hl.1 rfl (Nat.le_of_ble_eq_true rfl) dX4_goDay_86 ⟨Nat.zero_le _, Nat.zero_le _⟩ (fun z15 hz15 H locs hP hS => ?_)
      have hb10 := wl_bz hb10 hz15
      refine st_M_5 hC hP hD hS k10 z15 (by omega) dX4_goDay_89 (fun H locs hP hD hS => ?_)
      refine lv_iinc (v := (nI (k10 + 1))) (lv' := [(2, .int (nI (k10 + 1))), (0, .ref (a 0)), (1, .int z1)]) hx hb dX4_goDay_90 hl (k := 2) rfl (wl_inc k10 1) (by decide) rfl (fun ls hl => ?_)
      refine lv_goto (tgt := 54) hx hb dX4_goDay_93 (by decide) ?_
      exact IH10 _ hb10 trivial ls H locs hP hD hS (lv_sub hl [1, 2, 0] rfl)
  · intro k1 v1 hlo1 hhi1 hI1 IH1 ls H locs hP hD hS hl
    have hb1 := m_X4_goDay_l4.eq_1 mlisted mfollowing mdayThen mnow mtempers k1 v1
    refine lv_iload_n hx hb dX4_goDay_4 rfl (lv_at hl 2 rfl) ?_
    refine lv_aload_n hx hb dX4_goDay_5 rfl (lv_at hl 0 rfl) ?_
    refine wl_callVi hC (c_X4_many (P := P) (h0)) lk_RX4_52 rfl ⟨rfl, rfl, Nat.le_of_ble_eq_true rfl, Nat.le_of_ble_eq_true rfl⟩ hP hD hS hA 0 rfl (T1 := 21) rfl hl.1 rfl (Nat.le_of_ble_eq_true rfl) dX4_goDay_6 ⟨Nat.zero_le _, Nat.zero_le _⟩ (fun z2 hz2 H locs hP hD hS => ?_)
    have hz2 := hz2.symm
    subst hz2
    refine wl_icmp_ge_n hx hb (by first | omega | exact Nat.lt_of_le_of_lt Nat.and_le_right (by omega) | exact Nat.pow_lt_pow_right (by omega) (by omega) | exact Nat.lt_trans (by assumption) (Nat.pow_lt_pow_right (by omega) (by omega))) (by first | omega | exact Nat.lt_of_le_of_lt Nat.and_le_right (by omega) | exact Nat.pow_lt_pow_right (by omega) (by omega) | exact Nat.lt_trans (by assumption) (Nat.pow_lt_pow_right (by omega) (by omega))) (tgt := 52) dX4_goDay_9 (by decide) (fun c3 => absurd c3 (by omega)) (fun c3 => ?_)
    refine lv_iload_n hx hb dX4_goDay_12 rfl (lv_at hl 1 rfl) ?_
    refine lv_aload_n hx hb dX4_goDay_13 rfl (lv_at hl 0 rfl) ?_
    refine g_M_0_listed hC hP mw_432 dX4_goDay_14 ?_
    refine lv_aload_n hx hb dX4_goDay_17 rfl (lv_at hl 0 rfl) ?_
    refine g_M_0_following hC hP mw_433 dX4_goDay_18 ?_
    refine lv_iand hx hb dX4_goDay_21 ?_
    refine lv_iload_n hx hb dX4_goDay_22 rfl (lv_at hl 2 rfl) ?_
    refine wl_callPi hC (c_X4_has (set := (mlisted &&& mfollowing)) (k := k1) ) lk_RX4_91 rfl ⟨rfl, rfl, Nat.le_of_ble_eq_true rfl, Nat.le_of_ble_eq_true rfl⟩ hP hS hA hl.1 rfl (Nat.le_of_ble_eq_true rfl) dX4_goDay_23 ⟨Nat.zero_le _, Nat.zero_le _⟩ (fun z4 hz4 H locs hP hS => ?_)
    have hb1 := wl_bz hb1 hz4
    refine wl_if_eq_b hx hb (tgt := 43) dX4_goDay_26 (by decide) (fun c5 => ?_) (fun c5 => ?_)
    · have hb1 := hb1.trans (if_neg c5)
      refine lv_iconst (v := (nI 0)) hx hb dX4_goDay_43 (by decide +kernel) ?_
      refine lv_ior hx hb dX4_goDay_44 ?_
      refine lv_istore_n (lv' := [(1, .int (v1 ||| (nI 0))), (0, .ref (a 0)), (2, .int (nI k1))]) hx hb dX4_goDay_45 rfl hl (by decide) rfl (fun ls hl => ?_)
      refine lv_iinc (v := (nI (k1 + 1))) (lv' := [(2, .int (nI (k1 + 1))), (1, .int (v1 ||| (nI 0))), (0, .ref (a 0))]) hx hb dX4_goDay_46 hl (k := 2) rfl (wl_inc k1 1) (by decide) rfl (fun ls hl => ?_)
      refine lv_goto (tgt := 4) hx hb dX4_goDay_49 (by decide) ?_
      exact IH1 _ hb1 trivial ls H locs hP hD hS (lv_sub hl [2, 1, 0] rfl)
    · have hb1 := hb1.trans (if_pos c5)
      refine lv_aload_n hx hb dX4_goDay_29 rfl (lv_at hl 0 rfl) ?_
      refine lv_iload_n hx hb dX4_goDay_30 rfl (lv_at hl 2 rfl) ?_
      refine wl_callVi hC (c_X4_doesIt (p := k1) (by first | assumption | omega)) lk_RX4_102 rfl ⟨rfl, rfl, Nat.le_of_ble_eq_true rfl, Nat.le_of_ble_eq_true rfl⟩ hP hD hS hA 0 rfl (T1 := 21) rfl hl.1 rfl (Nat.le_of_ble_eq_true rfl) dX4_goDay_31 ⟨Nat.zero_le _, Nat.zero_le _⟩ (fun z6 hz6 H locs hP hD hS => ?_)
      have hb1 := wl_bz hb1 hz6
      refine wl_if_eq_b hx hb (tgt := 43) dX4_goDay_34 (by decide) (fun c7 => ?_) (fun c7 => ?_)
      · have hb1 := hb1.trans (if_neg c7)
        refine lv_iconst (v := (nI 0)) hx hb dX4_goDay_43 (by decide +kernel) ?_
        refine lv_ior hx hb dX4_goDay_44 ?_
        refine lv_istore_n (lv' := [(1, .int (v1 ||| (nI 0))), (0, .ref (a 0)), (2, .int (nI k1))]) hx hb dX4_goDay_45 rfl hl (by decide) rfl (fun ls hl => ?_)
        refine lv_iinc (v := (nI (k1 + 1))) (lv' := [(2, .int (nI (k1 + 1))), (1, .int (v1 ||| (nI 0))), (0, .ref (a 0))]) hx hb dX4_goDay_46 hl (k := 2) rfl (wl_inc k1 1) (by decide) rfl (fun ls hl => ?_)
        refine lv_goto (tgt := 4) hx hb dX4_goDay_49 (by decide) ?_
        exact IH1 _ hb1 trivial ls H locs hP hD hS (lv_sub hl [2, 1, 0] rfl)
      · have hb1 := hb1.trans (if_pos c7)
        refine lv_iconst (v := (nI 1)) hx hb dX4_goDay_37 (by decide +kernel) ?_
        refine lv_iload_n hx hb dX4_goDay_38 rfl (lv_at hl 2 rfl) ?_
        refine lv_ishl hx hb dX4_goDay_39 ?_
        refine lv_goto (tgt := 44) hx hb dX4_goDay_40 (by decide) ?_
        refine lv_ior hx hb dX4_goDay_44 ?_
        refine lv_istore_n (lv' := [(1, .int (v1 ||| ((nI 1) <<< ((nI k1) &&& 31)))), (0, .ref (a 0)), (2, .int (nI k1))]) hx hb dX4_goDay_45 rfl hl (by decide) rfl (fun ls hl => ?_)
        refine lv_iinc (v := (nI (k1 + 1))) (lv' := [(2, .int (nI (k1 + 1))), (1, .int (v1 ||| ((nI 1) <<< ((nI k1) &&& 31)))), (0, .ref (a 0))]) hx hb dX4_goDay_46 hl (k := 2) rfl (wl_inc k1 1) (by decide) rfl (fun ls hl => ?_)
        refine lv_goto (tgt := 4) hx hb dX4_goDay_49 (by decide) ?_
        exact IH1 _ hb1 trivial ls H locs hP hD hS (lv_sub hl [2, 1, 0] rfl)
