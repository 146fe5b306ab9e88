theorem wl_nle {x : Int32} (h : ¬ x ≤ 0) : 0 < x := by
  rw [Int32.le_iff_toInt_le] at h
  rw [Int32.lt_iff_toInt_lt]
  omega
def m_X4_bits_l4 (v1 : Int32 × Int32) : (Int32 × Int32) ⊕ (Int32) := (if v1.2 ≤ 0 then (Sum.inr v1.1) else (Sum.inl ((v1.1 + (v1.2 &&& (nI 1))), (v1.2 >>> ((nI 1) &&& 31)))))
def m_X4_bits (set : Int32) : Int32 := (wl_bnd (wl_run m_X4_bits_l4 default 32 ((nI 0), set)) (fun z1 => z1))
set_option maxHeartbeats 4000000 in
set_option maxRecDepth 100000 in
theorem c_X4_bits {l : Launch} {D : va_G} {E : Nat → ClassId}  {set : Int32} : wl_Met (τ := Int32) l D E yX4_bits cX4_bits 3 (some .int) ({ frames := 0, cells := 0, slots := 0, locals := 0 } : Room) [.int set] [] (fun z => some (.int z)) (fun _ => []) (m_X4_bits set) := by
  refine wl_enter (own := RX4) (by decide +kernel) rfl (Nat.le_of_ble_eq_true rfl) ?_
  intro p0 e0 s0 m0 bl0 mt0 c0 A hC hr hlk hA H locs hP hD hS ls hl
  have hx := hC.1
  have hb := hC.2.1
  have hl : lv_has ls 3 [(0, .int set)] := hl
  have hm := m_X4_bits.eq_1 set
  refine lv_iconst (v := (nI 0)) hx hb dX4_bits_0 (by decide +kernel) ?_
  refine lv_istore_n (lv' := [(1, .int (nI 0)), (0, .int set)]) hx hb dX4_bits_1 rfl hl (by decide) rfl (fun ls hl => ?_)
  refine lv_iload_n hx hb dX4_bits_2 rfl (lv_at hl 1 rfl) ?_
  refine lv_istore_n (lv' := [(2, .int set), (1, .int (nI 0)), (0, .int set)]) hx hb dX4_bits_3 rfl hl (by decide) rfl (fun ls hl => ?_)
  obtain ⟨u1, hu1, hk1⟩ := wl_bx hm
  refine wl_J u1 21 (fun _ => []) 3 (fun z1 => [(1, .int z1)]) D A s0.heap (fun z1 => []) (fun z1 hz1 ls H locs hP hD hS hl => ?_) (fun J1 => ?_)
  · have hm := hk1 z1 hz1
    refine lv_iload_n hx hb dX4_bits_21 rfl (lv_at hl 0 rfl) ?_
    exact wl_iret hC hr hlk hm rfl hP hD hS dX4_bits_22
  · refine wl_while (D := D) (A := A) (H0 := s0.heap) m_X4_bits_l4 default 32 ((nI 0), set) 4 3 (fun v1 => [(1, .int v1.1), (2, .int v1.2)]) (fun v1 => []) (fun v1 => True) (fun v1 => wl_sz (cl v1.2)) trivial (wl_sz_lt (wl_cl_lt _)) ?_ hP hD hS (lv_sub hl [1, 0] rfl)
    intro v1 hI1 EX1 IH1 ls H locs hP hD hS hl
    have hb1 := m_X4_bits_l4.eq_1 v1
    refine lv_iload_n hx hb dX4_bits_4 rfl (lv_at hl 1 rfl) ?_
    refine lv_if_le hx hb (tgt := 21) dX4_bits_5 (by decide) (fun c2 => ?_) (fun c2 => ?_)
    · have hb1 := hb1.trans (if_pos c2)
      exact J1 _ (hu1.trans (EX1 _ hb1)) ls H locs hP hD hS (lv_sub hl [0] rfl)
    · have hb1 := hb1.trans (if_neg c2)
      refine lv_iload_n hx hb dX4_bits_8 rfl (lv_at hl 0 rfl) ?_
      refine lv_iload_n hx hb dX4_bits_9 rfl (lv_at hl 1 rfl) ?_
      refine lv_iconst (v := (nI 1)) hx hb dX4_bits_10 (by decide +kernel) ?_
      refine lv_iand hx hb dX4_bits_11 ?_
      refine lv_iadd hx hb dX4_bits_12 ?_
      refine lv_istore_n (lv' := [(1, .int (v1.1 + (v1.2 &&& (nI 1)))), (2, .int v1.2)]) hx hb dX4_bits_13 rfl hl (by decide) rfl (fun ls hl => ?_)
      refine lv_iload_n hx hb dX4_bits_14 rfl (lv_at hl 1 rfl) ?_
      refine lv_iconst (v := (nI 1)) hx hb dX4_bits_15 (by decide +kernel) ?_
      refine lv_ishr hx hb dX4_bits_16 ?_
      refine lv_istore_n (lv' := [(2, .int (v1.2 >>> ((nI 1) &&& 31))), (1, .int (v1.1 + (v1.2 &&& (nI 1))))]) hx hb dX4_bits_17 rfl hl (by decide) rfl (fun ls hl => ?_)
      refine lv_goto (tgt := 4) hx hb dX4_bits_18 (by decide) ?_
      exact IH1 _ hb1 trivial (by show wl_sz (cl (v1.2 >>> ((nI 1) &&& 31))) < _; rw [wl_shr1 (wl_nle (by assumption))]; exact wl_sz_half (wl_pos (wl_nle (by assumption)))) ls H locs hP hD hS (lv_sub hl [1, 0] rfl)
set_option maxHeartbeats 4000000 in
set_option maxRecDepth 100000 in
theorem c_X4_begin__M_1 {l : Launch} {D : va_G} {E : Nat → ClassId} {a : Nat → Nat} {mabove : Int64} {mbelow : Int64} {mlisted : Int32} {mfollowing : Int32} {mdayThen : Int32} {mbytesLong : Nat} {mtokenAt : Nat} {mtokenLong : Nat} {mtoken : Int32} {mvalue : Int32} {mnow : (Nat → Int32)} {mkept : (Nat → Int32)} {misKept : (Nat → Int32)} {mrefused : (Nat → Int32)} {mtempers : (Nat → Int32)} {mhis : (Nat → Int32)} {mtheirs : (Nat → Int32)} {mmanyBy : (Nat → Int32)} {mbytes : (Nat → Int32)} {manew : (Nat → Int32)} {mvalues : (Nat → Int32)} {counts : Int32} (hn1 : 52 ≤ 140) (hn2 : 140 ≤ 2000) : wl_Met (τ := (Nat → Int32)) l D E yX4_begin cX4_begin 3 none ({ frames := 0, cells := 0, slots := 0, locals := 0 } : Room) [.ref (a 1), .int counts] (wM E a mabove mbelow mlisted mfollowing mdayThen mbytesLong mtokenAt mtokenLong mtoken mvalue mnow mkept misKept mrefused mtempers mhis mtheirs mmanyBy mbytes manew mvalues) (fun _ => none) (fun z => (wM E a mabove mbelow mlisted mfollowing mdayThen mbytesLong mtokenAt mtokenLong mtoken mvalue z mkept misKept mrefused mtempers mhis mtheirs mmanyBy mbytes manew mvalues)) (m_X4_begin mnow counts) :=
  wl_lift (c_X4_begin (a := (fun k => a ([1].getD k 0))) (arr := mnow) (counts := counts) (n := 140) hn1 hn2) [1] [0, 2, 3, 4, 5, 6, 7, 8, 9, 10, 11] [0, 11, 1, 2, 3, 4, 5, 6, 7, 8, 9, 10] (wr := ([0, 2, 3, 4, 5, 6, 7, 8, 9, 10, 11].filterMap (fun i => (wM E a mabove mbelow mlisted mfollowing mdayThen mbytesLong mtokenAt mtokenLong mtoken mvalue mnow mkept misKept mrefused mtempers mhis mtheirs mmanyBy mbytes manew mvalues)[i]?))) rfl rfl (by decide) (by decide) (by decide) (by decide) (fun _ => rfl)
def m_X4_town (mnow : (Nat → Int32)) (mrefused : (Nat → Int32)) (counts : Int32) (P : Nat) : Int32 × (Nat → Int32) × (Nat → Int32) := (wl_bnd (m_X4_in counts.toInt64 (lN 1) (lN 5)) (fun z1 => (if z1 = true then (wl_bnd (m_X4_begin mnow counts) (fun z4 => ((nI P), z4, mrefused))) else (wl_bnd (m_X4_bad mrefused (-2)) (fun z5 => (z5.1, mnow, z5.2))))))
set_option maxHeartbeats 4000000 in
set_option maxRecDepth 100000 in
theorem c_X4_town {l : Launch} {D : va_G} {E : Nat → ClassId} {a : Nat → Nat} {mabove : Int64} {mbelow : Int64} {mlisted : Int32} {mfollowing : Int32} {mdayThen : Int32} {mbytesLong : Nat} {mtokenAt : Nat} {mtokenLong : Nat} {mtoken : Int32} {mvalue : Int32} {mnow : (Nat → Int32)} {mkept : (Nat → Int32)} {misKept : (Nat → Int32)} {mrefused : (Nat → Int32)} {mtempers : (Nat → Int32)} {mhis : (Nat → Int32)} {mtheirs : (Nat → Int32)} {mmanyBy : (Nat → Int32)} {mbytes : (Nat → Int32)} {manew : (Nat → Int32)} {mvalues : (Nat → Int32)} {counts : Int32} {P : Nat} (h0 : mnow 0 = nI P) : wl_Met (τ := Int32 × (Nat → Int32) × (Nat → Int32)) l D E yX4_town cX4_town 3 (some .int) ({ frames := 1, cells := 0, slots := 0, locals := 25 } : Room) [.ref (a 0), .int counts] (wM E a mabove mbelow mlisted mfollowing mdayThen mbytesLong mtokenAt mtokenLong mtoken mvalue mnow mkept misKept mrefused mtempers mhis mtheirs mmanyBy mbytes manew mvalues) (fun z => some (.int z.1)) (fun z => (wM E a mabove mbelow mlisted mfollowing mdayThen mbytesLong mtokenAt mtokenLong mtoken mvalue z.2.1 mkept misKept z.2.2 mtempers mhis mtheirs mmanyBy mbytes manew mvalues)) (m_X4_town mnow mrefused counts P) := by
  refine wl_enter (own := RX4) (by decide +kernel) rfl (Nat.le_of_ble_eq_true rfl) ?_
  intro p0 e0 s0 m0 bl0 mt0 c0 A hC hr hlk hA H locs hP hD hS ls hl
  have hx := hC.1
  have hb := hC.2.1
  have hl : lv_has ls 3 [(0, .ref (a 0)), (1, .int counts)] := hl
  have hm := m_X4_town.eq_1 mnow mrefused counts P
  refine lv_iload_n hx hb dX4_town_0 rfl (lv_at hl 1 rfl) ?_
  refine lv_i2l (v := counts.toInt64) hx hb dX4_town_1 rfl ?_
  refine lv_lconst (v := lN 1) hx hb dX4_town_2 (by decide +kernel) ?_
  refine lv_ldc2 hx hb hC.2.2.2.1 (hC.2.2.2.2.1 _ mw_414) dX4_town_3 ?_
  refine wl_reL (show (5 : Int64) = lN 5 by decide +kernel) ?_
  refine wl_callPi hC (c_X4_in (v := counts.toInt64) (low := (lN 1)) (high := (lN 5)) ) lk_RX4_56 rfl ⟨rfl, rfl, Nat.le_of_ble_eq_true rfl, Nat.le_of_ble_eq_true rfl⟩ hP hS hA hl.1 rfl (Nat.le_of_ble_eq_true rfl) dX4_town_6 ⟨Nat.zero_le _, Nat.zero_le _⟩ (fun z1 hz1 H locs hP hS => ?_)
  have hm := wl_bz hm hz1
  refine wl_if_ne_b hx hb (tgt := 19) dX4_town_9 (by decide) (fun c2 => ?_) (fun c2 => ?_)
  · have hm := hm.trans (if_pos c2)
    refine lv_aload_n hx hb dX4_town_19 rfl (lv_at hl 0 rfl) ?_
    refine wl_callVi hC (c_X4_many (P := P) (h0)) lk_RX4_52 rfl ⟨rfl, rfl, Nat.le_of_ble_eq_true rfl, Nat.le_of_ble_eq_true rfl⟩ hP hD hS hA 0 rfl (T1 := 21) rfl hl.1 rfl (Nat.le_of_ble_eq_true rfl) dX4_town_20 ⟨Nat.zero_le _, Nat.zero_le _⟩ (fun z3 hz3 H locs hP hD hS => ?_)
    have hz3 := hz3.symm
    subst hz3
    refine lv_istore_n (lv' := [(2, .int (nI P)), (0, .ref (a 0)), (1, .int counts)]) hx hb dX4_town_23 rfl hl (by decide) rfl (fun ls hl => ?_)
    refine lv_aload_n hx hb dX4_town_24 rfl (lv_at hl 1 rfl) ?_
    refine g_M_0_now hC hP mw_385 dX4_town_25 ?_
    refine lv_iload_n hx hb dX4_town_28 rfl (lv_at hl 2 rfl) ?_
    refine wl_callSv hC (c_X4_begin__M_1 (counts := counts) (by first | assumption | omega) (by first | assumption | omega)) lk_RX4_48 rfl ⟨rfl, rfl, Nat.le_of_ble_eq_true rfl, Nat.le_of_ble_eq_true rfl⟩ hP hD hS hA hl.1 rfl (Nat.le_of_ble_eq_true rfl) dX4_town_29 ⟨Nat.zero_le _, Nat.zero_le _⟩ (fun z4 hz4 H locs hP hD hS => ?_)
    have hm := wl_bz hm hz4
    refine lv_iload_n hx hb dX4_town_32 rfl (lv_at hl 0 rfl) ?_
    exact wl_iret hC hr hlk hm rfl hP hD hS dX4_town_33
  · have hm := hm.trans (if_neg c2)
    refine lv_aload_n hx hb dX4_town_12 rfl (lv_at hl 0 rfl) ?_
    refine lv_bipush (v := (-2)) hx hb dX4_town_13 (by decide +kernel) ?_
    refine wl_callVi hC (c_X4_bad (tells := (-2)) ) lk_RX4_62 rfl ⟨rfl, rfl, Nat.le_of_ble_eq_true rfl, Nat.le_of_ble_eq_true rfl⟩ hP hD hS hA 0 rfl (T1 := 21) rfl hl.1 rfl (Nat.le_of_ble_eq_true rfl) dX4_town_15 ⟨Nat.zero_le _, Nat.zero_le _⟩ (fun z5 hz5 H locs hP hD hS => ?_)
    have hm := wl_bz hm hz5
    exact wl_iret hC hr hlk hm rfl hP hD hS dX4_town_18
set_option maxHeartbeats 4000000 in
set_option maxRecDepth 100000 in
theorem c_X4_layOne__M_1 {l : Launch} {D : va_G} {E : Nat → ClassId} {a : Nat → Nat} {mabove : Int64} {mbelow : Int64} {mlisted : Int32} {mfollowing : Int32} {mdayThen : Int32} {mbytesLong : Nat} {mtokenAt : Nat} {mtokenLong : Nat} {mtoken : Int32} {mvalue : Int32} {mnow : (Nat → Int32)} {mkept : (Nat → Int32)} {misKept : (Nat → Int32)} {mrefused : (Nat → Int32)} {mtempers : (Nat → Int32)} {mhis : (Nat → Int32)} {mtheirs : (Nat → Int32)} {mmanyBy : (Nat → Int32)} {mbytes : (Nat → Int32)} {manew : (Nat → Int32)} {mvalues : (Nat → Int32)} {kind : Int32} {temper : Int32} {P : Nat} (h0 : mnow 0 = nI P) (hn1 : 52 ≤ 140) (hn2 : 140 ≤ 2000) (hP6 : P < 7) : wl_Met (τ := (Nat → Int32)) l D E yX4_layOne cX4_layOne 3 none ({ frames := 0, cells := 0, slots := 0, locals := 0 } : Room) [.ref (a 1), .int kind, .int temper] (wM E a mabove mbelow mlisted mfollowing mdayThen mbytesLong mtokenAt mtokenLong mtoken mvalue mnow mkept misKept mrefused mtempers mhis mtheirs mmanyBy mbytes manew mvalues) (fun _ => none) (fun z => (wM E a mabove mbelow mlisted mfollowing mdayThen mbytesLong mtokenAt mtokenLong mtoken mvalue z mkept misKept mrefused mtempers mhis mtheirs mmanyBy mbytes manew mvalues)) (m_X4_layOne mnow kind temper P) :=
  wl_lift (c_X4_layOne (a := (fun k => a ([1].getD k 0))) (arr := mnow) (kind := kind) (temper := temper) (P := P) (n := 140) h0 hn1 hn2 hP6) [1] [0, 2, 3, 4, 5, 6, 7, 8, 9, 10, 11] [0, 11, 1, 2, 3, 4, 5, 6, 7, 8, 9, 10] (wr := ([0, 2, 3, 4, 5, 6, 7, 8, 9, 10, 11].filterMap (fun i => (wM E a mabove mbelow mlisted mfollowing mdayThen mbytesLong mtokenAt mtokenLong mtoken mvalue mnow mkept misKept mrefused mtempers mhis mtheirs mmanyBy mbytes manew mvalues)[i]?))) rfl rfl (by decide) (by decide) (by decide) (by decide) (fun _ => rfl)
def m_X4_one (mnow : (Nat → Int32)) (mrefused : (Nat → Int32)) (kind : Int32) (temper : Int32) (P : Nat) : Int32 × (Nat → Int32) × (Nat → Int32) := (wl_bnd (m_X4_in kind.toInt64 (lN 0) (lN 5)) (fun z1 => (if z1 = true then (wl_bnd (m_X4_in temper.toInt64 (lN 0) (lN 30)) (fun z4 => (if z4 = true then (if P = 7 then (wl_bnd (m_X4_full mrefused) (fun z10 => (z10.1, mnow, z10.2))) else (wl_bnd (m_X4_layOne mnow kind temper P) (fun z8 => ((nI ((P + 1) - 1)), (upd z8 3 (nI 0)), mrefused)))) else (wl_bnd (m_X4_bad mrefused (-2)) (fun z11 => (z11.1, mnow, z11.2)))))) else (wl_bnd (m_X4_bad mrefused (-2)) (fun z3 => (z3.1, mnow, z3.2))))))
set_option maxHeartbeats 4000000 in
set_option maxRecDepth 100000 in
theorem c_X4_one {l : Launch} {D : va_G} {E : Nat → ClassId} {a : Nat → Nat} {mabove : Int64} {mbelow : Int64} {mlisted : Int32} {mfollowing : Int32} {mdayThen : Int32} {mbytesLong : Nat} {mtokenAt : Nat} {mtokenLong : Nat} {mtoken : Int32} {mvalue : Int32} {mnow : (Nat → Int32)} {mkept : (Nat → Int32)} {misKept : (Nat → Int32)} {mrefused : (Nat → Int32)} {mtempers : (Nat → Int32)} {mhis : (Nat → Int32)} {mtheirs : (Nat → Int32)} {mmanyBy : (Nat → Int32)} {mbytes : (Nat → Int32)} {manew : (Nat → Int32)} {mvalues : (Nat → Int32)} {kind : Int32} {temper : Int32} {P : Nat} (h0 : mnow 0 = nI P) (hP7 : P ≤ 7) : wl_Met (τ := Int32 × (Nat → Int32) × (Nat → Int32)) l D E yX4_one cX4_one 3 (some .int) ({ frames := 1, cells := 0, slots := 0, locals := 25 } : Room) [.ref (a 0), .int kind, .int temper] (wM E a mabove mbelow mlisted mfollowing mdayThen mbytesLong mtokenAt mtokenLong mtoken mvalue mnow mkept misKept mrefused mtempers mhis mtheirs mmanyBy mbytes manew mvalues) (fun z => some (.int z.1)) (fun z => (wM E a mabove mbelow mlisted mfollowing mdayThen mbytesLong mtokenAt mtokenLong mtoken mvalue z.2.1 mkept misKept z.2.2 mtempers mhis mtheirs mmanyBy mbytes manew mvalues)) (m_X4_one mnow mrefused kind temper P) := by
  refine wl_enter (own := RX4) (by decide +kernel) rfl (Nat.le_of_ble_eq_true rfl) ?_
  intro p0 e0 s0 m0 bl0 mt0 c0 A hC hr hlk hA H locs hP hD hS ls hl
  have hx := hC.1
  have hb := hC.2.1
  have hl : lv_has ls 3 [(0, .ref (a 0)), (1, .int kind), (2, .int temper)] := hl
  have hm := m_X4_one.eq_1 mnow mrefused kind temper P
  refine lv_iload_n hx hb dX4_one_0 rfl (lv_at hl 1 rfl) ?_
  refine lv_i2l (v := kind.toInt64) hx hb dX4_one_1 rfl ?_
  refine lv_lconst (v := lN 0) hx hb dX4_one_2 (by decide +kernel) ?_
  refine lv_ldc2 hx hb hC.2.2.2.1 (hC.2.2.2.2.1 _ mw_414) dX4_one_3 ?_
  refine wl_reL (show (5 : Int64) = lN 5 by decide +kernel) ?_
  refine wl_callPi hC (c_X4_in (v := kind.toInt64) (low := (lN 0)) (high := (lN 5)) ) lk_RX4_56 rfl ⟨rfl, rfl, Nat.le_of_ble_eq_true rfl, Nat.le_of_ble_eq_true rfl⟩ hP hS hA hl.1 rfl (Nat.le_of_ble_eq_true rfl) dX4_one_6 ⟨Nat.zero_le _, Nat.zero_le _⟩ (fun z1 hz1 H locs hP hS => ?_)
  have hm := wl_bz hm hz1
  refine wl_if_eq_b hx hb (tgt := 24) dX4_one_9 (by decide) (fun c2 => ?_) (fun c2 => ?_)
  · have hm := hm.trans (if_neg c2)
    refine lv_aload_n hx hb dX4_one_24 rfl (lv_at hl 0 rfl) ?_
    refine lv_bipush (v := (-2)) hx hb dX4_one_25 (by decide +kernel) ?_
    refine wl_callVi hC (c_X4_bad (tells := (-2)) ) lk_RX4_62 rfl ⟨rfl, rfl, Nat.le_of_ble_eq_true rfl, Nat.le_of_ble_eq_true rfl⟩ hP hD hS hA 0 rfl (T1 := 21) rfl hl.1 rfl (Nat.le_of_ble_eq_true rfl) dX4_one_27 ⟨Nat.zero_le _, Nat.zero_le _⟩ (fun z3 hz3 H locs hP hD hS => ?_)
    have hm := wl_bz hm hz3
    exact wl_iret hC hr hlk hm rfl hP hD hS dX4_one_30
  · have hm := hm.trans (if_pos c2)
    refine lv_iload_n hx hb dX4_one_12 rfl (lv_at hl 2 rfl) ?_
    refine lv_i2l (v := temper.toInt64) hx hb dX4_one_13 rfl ?_
    refine lv_lconst (v := lN 0) hx hb dX4_one_14 (by decide +kernel) ?_
    refine lv_ldc2 hx hb hC.2.2.2.1 (hC.2.2.2.2.1 _ mw_420) dX4_one_15 ?_
    refine wl_reL (show (30 : Int64) = lN 30 by decide +kernel) ?_
    refine wl_callPi hC (c_X4_in (v := temper.toInt64) (low := (lN 0)) (high := (lN 30)) ) lk_RX4_56 rfl ⟨rfl, rfl, Nat.le_of_ble_eq_true rfl, Nat.le_of_ble_eq_true rfl⟩ hP hS hA hl.1 rfl (Nat.le_of_ble_eq_true rfl) dX4_one_18 ⟨Nat.zero_le _, Nat.zero_le _⟩ (fun z4 hz4 H locs hP hS => ?_)
    have hm := wl_bz hm hz4
    refine wl_if_ne_b hx hb (tgt := 31) dX4_one_21 (by decide) (fun c5 => ?_) (fun c5 => ?_)
    · have hm := hm.trans (if_pos c5)
      refine lv_aload_n hx hb dX4_one_31 rfl (lv_at hl 0 rfl) ?_
      refine wl_callVi hC (c_X4_many (P := P) (h0)) lk_RX4_52 rfl ⟨rfl, rfl, Nat.le_of_ble_eq_true rfl, Nat.le_of_ble_eq_true rfl⟩ hP hD hS hA 0 rfl (T1 := 21) rfl hl.1 rfl (Nat.le_of_ble_eq_true rfl) dX4_one_32 ⟨Nat.zero_le _, Nat.zero_le _⟩ (fun z6 hz6 H locs hP hD hS => ?_)
      have hz6 := hz6.symm
      subst hz6
      refine lv_bipush (v := (nI 7)) hx hb dX4_one_35 (by decide +kernel) ?_
      refine wl_icmp_ne_n hx hb (by first | omega | exact Nat.lt_of_le_of_lt Nat.and_le_right (by omega) | exact Nat.pow_lt_pow_right (by omega) (by omega) | exact Nat.lt_trans (by assumption) (Nat.pow_lt_pow_right (by omega) (by omega))) (by first | omega | exact Nat.lt_of_le_of_lt Nat.and_le_right (by omega) | exact Nat.pow_lt_pow_right (by omega) (by omega) | exact Nat.lt_trans (by assumption) (Nat.pow_lt_pow_right (by omega) (by omega))) (tgt := 45) dX4_one_37 (by decide) (fun c7 => ?_) (fun c7 => ?_)
      · have hm := hm.trans (if_neg c7)
        refine lv_aload_n hx hb dX4_one_45 rfl (lv_at hl 0 rfl) ?_
        refine g_M_0_now hC hP mw_385 dX4_one_46 ?_
        refine lv_iload_n hx hb dX4_one_49 rfl (lv_at hl 1 rfl) ?_
        refine lv_iload_n hx hb dX4_one_50 rfl (lv_at hl 2 rfl) ?_
        refine wl_callSv hC (c_X4_layOne__M_1 (kind := kind) (temper := temper) (P := P) (h0) (by first | assumption | omega) (by first | assumption | omega) (by first | assumption | omega)) lk_RX4_71 rfl ⟨rfl, rfl, Nat.le_of_ble_eq_true rfl, Nat.le_of_ble_eq_true rfl⟩ hP hD hS hA hl.1 rfl (Nat.le_of_ble_eq_true rfl) dX4_one_51 ⟨Nat.zero_le _, Nat.zero_le _⟩ (fun z8 hz8 H locs hP hD hS => ?_)
        have hm := wl_bz hm hz8
        have r51 : z8 0 = nI (P + 1) := by rw [hz8]; exact pk_us
        refine lv_aload_n hx hb dX4_one_54 rfl (lv_at hl 0 rfl) ?_
        refine g_M_0_now hC hP mw_385 dX4_one_55 ?_
        refine lv_iconst (v := (nI 3)) hx hb dX4_one_58 (by decide +kernel) ?_
        refine lv_iconst (v := (nI 0)) hx hb dX4_one_59 (by decide +kernel) ?_
        refine st_M_1 hC hP hD hS 3 (nI 0) (by omega) dX4_one_60 (fun H locs hP hD hS => ?_)
        refine lv_aload_n hx hb dX4_one_61 rfl (lv_at hl 0 rfl) ?_
        refine wl_callVi hC (c_X4_many (P := (P + 1)) (((pk_un (by omega)).trans r51))) lk_RX4_52 rfl ⟨rfl, rfl, Nat.le_of_ble_eq_true rfl, Nat.le_of_ble_eq_true rfl⟩ hP hD hS hA 0 rfl (T1 := 21) rfl hl.1 rfl (Nat.le_of_ble_eq_true rfl) dX4_one_62 ⟨Nat.zero_le _, Nat.zero_le _⟩ (fun z9 hz9 H locs hP hD hS => ?_)
        have hz9 := hz9.symm
        subst hz9
        refine lv_iconst (v := (nI 1)) hx hb dX4_one_65 (by decide +kernel) ?_
        refine lv_isub hx hb dX4_one_66 ?_
        refine wl_re (show nI (P + 1) - nI 1 = nI ((P + 1) - 1) from pk_sub (by omega)) ?_
        exact wl_iret hC hr hlk hm rfl hP hD hS dX4_one_67
      · have hm := hm.trans (if_pos c7)
        refine lv_aload_n hx hb dX4_one_40 rfl (lv_at hl 0 rfl) ?_
        refine wl_callVi hC (c_X4_full  ) lk_RX4_68 rfl ⟨rfl, rfl, Nat.le_of_ble_eq_true rfl, Nat.le_of_ble_eq_true rfl⟩ hP hD hS hA 0 rfl (T1 := 21) rfl hl.1 rfl (Nat.le_of_ble_eq_true rfl) dX4_one_41 ⟨Nat.zero_le _, Nat.zero_le _⟩ (fun z10 hz10 H locs hP hD hS => ?_)
        have hm := wl_bz hm hz10
        exact wl_iret hC hr hlk hm rfl hP hD hS dX4_one_44
    · have hm := hm.trans (if_neg c5)
      refine lv_aload_n hx hb dX4_one_24 rfl (lv_at hl 0 rfl) ?_
      refine lv_bipush (v := (-2)) hx hb dX4_one_25 (by decide +kernel) ?_
      refine wl_callVi hC (c_X4_bad (tells := (-2)) ) lk_RX4_62 rfl ⟨rfl, rfl, Nat.le_of_ble_eq_true rfl, Nat.le_of_ble_eq_true rfl⟩ hP hD hS hA 0 rfl (T1 := 21) rfl hl.1 rfl (Nat.le_of_ble_eq_true rfl) dX4_one_27 ⟨Nat.zero_le _, Nat.zero_le _⟩ (fun z11 hz11 H locs hP hD hS => ?_)
      have hm := wl_bz hm hz11
      exact wl_iret hC hr hlk hm rfl hP hD hS dX4_one_30
def m_X4_keep_l13 (k3 : Nat) (v3 : (Nat → Int32)) : (Nat → Int32) := (upd v3 (52 + k3) (v3 (63 + k3)))
def m_X4_keep_l53 (U : Nat) (k6 : Nat) (v6 : (Nat → Int32)) : (Nat → Int32) := (upd v6 ((52 + (11 * (if U = 8 then 7 else U))) + k6) (v6 (11 + k6)))
def m_X4_keep (mnow : (Nat → Int32)) (U : Nat) : (Nat → Int32) := (wl_bnd ((if U = 8 then (wl_bnd (wl_iter m_X4_keep_l13 77 0 mnow) (fun z3 => (upd z3 3 (nI 7)))) else mnow) : (Nat → Int32)) (fun z1 => (wl_bnd (wl_iter (m_X4_keep_l53 U) 11 0 z1) (fun z6 => (upd z6 3 (nI ((if U = 8 then 7 else U) + 1)))))))
set_option maxHeartbeats 4000000 in
set_option maxRecDepth 100000 in
theorem c_X4_keep {l : Launch} {D : va_G} {E : Nat → ClassId} {a : Nat → Nat} {mabove : Int64} {mbelow : Int64} {mlisted : Int32} {mfollowing : Int32} {mdayThen : Int32} {mbytesLong : Nat} {mtokenAt : Nat} {mtokenLong : Nat} {mtoken : Int32} {mvalue : Int32} {mnow : (Nat → Int32)} {mkept : (Nat → Int32)} {misKept : (Nat → Int32)} {mrefused : (Nat → Int32)} {mtempers : (Nat → Int32)} {mhis : (Nat → Int32)} {mtheirs : (Nat → Int32)} {mmanyBy : (Nat → Int32)} {mbytes : (Nat → Int32)} {manew : (Nat → Int32)} {mvalues : (Nat → Int32)} {U : Nat} (h3 : mnow 3 = nI U) (hU8 : U ≤ 8) : wl_Met (τ := (Nat → Int32)) l D E yX4_keep cX4_keep 2 none ({ frames := 0, cells := 0, slots := 0, locals := 0 } : Room) [.ref (a 0)] (wM E a mabove mbelow mlisted mfollowing mdayThen mbytesLong mtokenAt mtokenLong mtoken mvalue mnow mkept misKept mrefused mtempers mhis mtheirs mmanyBy mbytes manew mvalues) (fun _ => none) (fun z => (wM E a mabove mbelow mlisted mfollowing mdayThen mbytesLong mtokenAt mtokenLong mtoken mvalue z mkept misKept mrefused mtempers mhis mtheirs mmanyBy mbytes manew mvalues)) (m_X4_keep mnow U) := by
  refine wl_enter (own := RX4) (by decide +kernel) rfl (Nat.le_of_ble_eq_true rfl) ?_
  intro p0 e0 s0 m0 bl0 mt0 c0 A hC hr hlk hA H locs hP hD hS ls hl
  have hx := hC.1
  have hb := hC.2.1
  have hl : lv_has ls 2 [(0, .ref (a 0))] := hl
  have hm := m_X4_keep.eq_1 mnow U
  refine lv_aload_n hx hb dX4_keep_0 rfl (lv_at hl 0 rfl) ?_
  refine g_M_0_now hC hP mw_385 dX4_keep_1 ?_
  refine lv_iconst (v := (nI 3)) hx hb dX4_keep_4 (by decide +kernel) ?_
  refine ld_M_1 hC hP 3 (by omega) dX4_keep_5 ?_
  refine wl_re (h3) ?_
  refine lv_bipush (v := (nI 8)) hx hb dX4_keep_6 (by decide +kernel) ?_
  obtain ⟨u1, hj1, hk1⟩ := wl_bx hm
  refine wl_J u1 51 (fun z1 => []) 2 (fun z1 => [(0, .ref (a 0))]) D A s0.heap (fun z1 => (wM E a mabove mbelow mlisted mfollowing mdayThen mbytesLong mtokenAt mtokenLong mtoken mvalue z1 mkept misKept mrefused mtempers mhis mtheirs mmanyBy mbytes manew mvalues)) (fun z1 hz1 ls H locs hP hD hS hl => ?_) (fun J1 => ?_)
  · have hm := hk1 z1 hz1
    have r51 : z1 3 = nI (if U = 8 then 7 else U) := by
      rw [← hz1, hj1]
      by_cases hU : U = 8
      · rw [if_pos hU, if_pos hU]; exact pk_us
      · rw [if_neg hU, if_neg hU]; exact h3
    have hV : (if U = 8 then 7 else U) ≤ 7 := by split <;> omega
    refine lv_iconst (v := (nI 0)) hx hb dX4_keep_51 (by decide +kernel) ?_
    refine lv_istore_n (lv' := [(1, .int (nI 0)), (0, .ref (a 0))]) hx hb dX4_keep_52 rfl hl (by decide) rfl (fun ls hl => ?_)
    obtain ⟨u6, hu6, hk6⟩ := wl_bx hm
    refine wl_for (D := D) (A := A) (H0 := s0.heap) (m_X4_keep_l53 U) 11 0 11 z1 53 2 (fun k6 v6 => [(0, .ref (a 0)), (1, .int (nI k6))]) (fun k6 v6 => (wM E a mabove mbelow mlisted mfollowing mdayThen mbytesLong mtokenAt mtokenLong mtoken mvalue v6 mkept misKept mrefused mtempers mhis mtheirs mmanyBy mbytes manew mvalues)) (fun k6 v6 => (v6 3 = nI (if U = 8 then 7 else U))) (by omega) (by show z1 3 = nI (if U = 8 then 7 else U); exact r51) ?_ ?_ hP hD hS (lv_sub hl [1, 0] rfl)
    · intro z6 hv6 hI6 ls H locs hP hD hS hl
      have hm := hk6 z6 (hu6.trans hv6)
      have i53 := hI6
      refine lv_iload_n hx hb dX4_keep_53 rfl (lv_at hl 1 rfl) ?_
      refine lv_bipush (v := (nI 11)) hx hb dX4_keep_54 (by decide +kernel) ?_
      refine wl_icmp_ge_n hx hb (by first | omega | exact Nat.lt_of_le_of_lt Nat.and_le_right (by omega) | exact Nat.pow_lt_pow_right (by omega) (by omega) | exact Nat.lt_trans (by assumption) (Nat.pow_lt_pow_right (by omega) (by omega))) (by first | omega | exact Nat.lt_of_le_of_lt Nat.and_le_right (by omega) | exact Nat.pow_lt_pow_right (by omega) (by omega) | exact Nat.lt_trans (by assumption) (Nat.pow_lt_pow_right (by omega) (by omega))) (tgt := 93) dX4_keep_56 (by decide) (fun c8 => ?_) (fun c8 => absurd (by omega) c8)
      refine lv_aload_n hx hb dX4_keep_93 rfl (lv_at hl 0 rfl) ?_
      refine g_M_0_now hC hP mw_385 dX4_keep_94 ?_
      refine lv_iconst (v := (nI 3)) hx hb dX4_keep_97 (by decide +kernel) ?_
      refine lv_dup2_11 hx hb dX4_keep_98 rfl rfl ?_
      refine ld_M_1 hC hP 3 (by omega) dX4_keep_99 ?_
      refine wl_re (i53) ?_
      refine lv_iconst (v := (nI 1)) hx hb dX4_keep_100 (by decide +kernel) ?_
      refine lv_iadd hx hb dX4_keep_101 ?_
      refine wl_re (show nI (if U = 8 then 7 else U) + nI 1 = nI ((if U = 8 then 7 else U) + 1) from nI_add (if U = 8 then 7 else U) 1) ?_
      refine st_M_1 hC hP hD hS 3 (nI ((if U = 8 then 7 else U) + 1)) (by omega) dX4_keep_102 (fun H locs hP hD hS => ?_)
      exact wl_vret hC hr hlk hm rfl hP hD hS dX4_keep_103
    · intro k6 v6 hlo6 hhi6 hI6 IH6 ls H locs hP hD hS hl
      have i53 := hI6
      have hb6 := m_X4_keep_l53.eq_1 U k6 v6
      refine lv_iload_n hx hb dX4_keep_53 rfl (lv_at hl 1 rfl) ?_
      refine lv_bipush (v := (nI 11)) hx hb dX4_keep_54 (by decide +kernel) ?_
      refine wl_icmp_ge_n hx hb (by first | omega | exact Nat.lt_of_le_of_lt Nat.and_le_right (by omega) | exact Nat.pow_lt_pow_right (by omega) (by omega) | exact Nat.lt_trans (by assumption) (Nat.pow_lt_pow_right (by omega) (by omega))) (by first | omega | exact Nat.lt_of_le_of_lt Nat.and_le_right (by omega) | exact Nat.pow_lt_pow_right (by omega) (by omega) | exact Nat.lt_trans (by assumption) (Nat.pow_lt_pow_right (by omega) (by omega))) (tgt := 93) dX4_keep_56 (by decide) (fun c7 => absurd c7 (by omega)) (fun c7 => ?_)
      refine lv_aload_n hx hb dX4_keep_59 rfl (lv_at hl 0 rfl) ?_
      refine g_M_0_now hC hP mw_385 dX4_keep_60 ?_
      refine lv_bipush (v := (nI 52)) hx hb dX4_keep_63 (by decide +kernel) ?_
      refine lv_bipush (v := (nI 11)) hx hb dX4_keep_65 (by decide +kernel) ?_
      refine lv_aload_n hx hb dX4_keep_67 rfl (lv_at hl 0 rfl) ?_
      refine g_M_0_now hC hP mw_385 dX4_keep_68 ?_
      refine lv_iconst (v := (nI 3)) hx hb dX4_keep_71 (by decide +kernel) ?_
      refine ld_M_1 hC hP 3 (by omega) dX4_keep_72 ?_
      refine wl_re (i53) ?_
      refine lv_imul hx hb dX4_keep_73 ?_
      refine wl_re (show nI 11 * nI (if U = 8 then 7 else U) = nI (11 * (if U = 8 then 7 else U)) from pk_mul 11 (if U = 8 then 7 else U)) ?_
      refine lv_iadd hx hb dX4_keep_74 ?_
      refine wl_re (show nI 52 + nI (11 * (if U = 8 then 7 else U)) = nI (52 + (11 * (if U = 8 then 7 else U))) from nI_add 52 (11 * (if U = 8 then 7 else U))) ?_
      refine lv_iload_n hx hb dX4_keep_75 rfl (lv_at hl 1 rfl) ?_
      refine lv_iadd hx hb dX4_keep_76 ?_
      refine wl_re (show nI (52 + (11 * (if U = 8 then 7 else U))) + nI k6 = nI ((52 + (11 * (if U = 8 then 7 else U))) + k6) from nI_add (52 + (11 * (if U = 8 then 7 else U))) k6) ?_
      refine lv_aload_n hx hb dX4_keep_77 rfl (lv_at hl 0 rfl) ?_
      refine g_M_0_now hC hP mw_385 dX4_keep_78 ?_
      refine lv_bipush (v := (nI 11)) hx hb dX4_keep_81 (by decide +kernel) ?_
      refine lv_iload_n hx hb dX4_keep_83 rfl (lv_at hl 1 rfl) ?_
      refine lv_iadd hx hb dX4_keep_84 ?_
      refine wl_re (show nI 11 + nI k6 = nI (11 + k6) from nI_add 11 k6) ?_
      refine ld_M_1 hC hP (11 + k6) (by omega) dX4_keep_85 ?_
      refine st_M_1 hC hP hD hS ((52 + (11 * (if U = 8 then 7 else U))) + k6) (v6 (11 + k6)) (by omega) dX4_keep_86 (fun H locs hP hD hS => ?_)
      refine lv_iinc (v := (nI (k6 + 1))) (lv' := [(1, .int (nI (k6 + 1))), (0, .ref (a 0))]) hx hb dX4_keep_87 hl (k := 1) rfl (wl_inc k6 1) (by decide) rfl (fun ls hl => ?_)
      refine lv_goto (tgt := 53) hx hb dX4_keep_90 (by decide) ?_
      exact IH6 _ hb6 (by show (upd v6 ((52 + (11 * (if U = 8 then 7 else U))) + k6) (v6 (11 + k6))) 3 = nI (if U = 8 then 7 else U); exact ((pk_un (by omega)).trans i53)) ls H locs hP hD hS (lv_sub hl [1, 0] rfl)
  · refine wl_icmp_ne_n hx hb (by first | omega | exact Nat.lt_of_le_of_lt Nat.and_le_right (by omega) | exact Nat.pow_lt_pow_right (by omega) (by omega) | exact Nat.lt_trans (by assumption) (Nat.pow_lt_pow_right (by omega) (by omega))) (by first | omega | exact Nat.lt_of_le_of_lt Nat.and_le_right (by omega) | exact Nat.pow_lt_pow_right (by omega) (by omega) | exact Nat.lt_trans (by assumption) (Nat.pow_lt_pow_right (by omega) (by omega))) (tgt := 51) dX4_keep_8 (by decide) (fun c2 => ?_) (fun c2 => ?_)
    · have hj1 := hj1.trans (if_neg c2)
      exact J1 _ hj1 ls H locs hP hD hS (lv_sub hl [0] rfl)
    · have hj1 := hj1.trans (if_pos c2)
      refine lv_iconst (v := (nI 0)) hx hb dX4_keep_11 (by decide +kernel) ?_
      refine lv_istore_n (lv' := [(1, .int (nI 0)), (0, .ref (a 0))]) hx hb dX4_keep_12 rfl hl (by decide) rfl (fun ls hl => ?_)
      obtain ⟨u3, hu3, hk3⟩ := wl_bx hj1
      refine wl_for (D := D) (A := A) (H0 := s0.heap) m_X4_keep_l13 77 0 77 mnow 13 2 (fun k3 v3 => [(0, .ref (a 0)), (1, .int (nI k3))]) (fun k3 v3 => (wM E a mabove mbelow mlisted mfollowing mdayThen mbytesLong mtokenAt mtokenLong mtoken mvalue v3 mkept misKept mrefused mtempers mhis mtheirs mmanyBy mbytes manew mvalues)) (fun k3 v3 => True) (by omega) trivial ?_ ?_ hP hD hS (lv_sub hl [1, 0] rfl)
      · intro z3 hv3 hI3 ls H locs hP hD hS hl
        have hj1 := hk3 z3 (hu3.trans hv3)
        refine lv_iload_n hx hb dX4_keep_13 rfl (lv_at hl 1 rfl) ?_
        refine lv_bipush (v := (nI 77)) hx hb dX4_keep_14 (by decide +kernel) ?_
        refine wl_icmp_ge_n hx hb (by first | omega | exact Nat.lt_of_le_of_lt Nat.and_le_right (by omega) | exact Nat.pow_lt_pow_right (by omega) (by omega) | exact Nat.lt_trans (by assumption) (Nat.pow_lt_pow_right (by omega) (by omega))) (by first | omega | exact Nat.lt_of_le_of_lt Nat.and_le_right (by omega) | exact Nat.pow_lt_pow_right (by omega) (by omega) | exact Nat.lt_trans (by assumption) (Nat.pow_lt_pow_right (by omega) (by omega))) (tgt := 43) dX4_keep_16 (by decide) (fun c5 => ?_) (fun c5 => absurd (by omega) c5)
        refine lv_aload_n hx hb dX4_keep_43 rfl (lv_at hl 0 rfl) ?_
        refine g_M_0_now hC hP mw_385 dX4_keep_44 ?_
        refine lv_iconst (v := (nI 3)) hx hb dX4_keep_47 (by decide +kernel) ?_
        refine lv_bipush (v := (nI 7)) hx hb dX4_keep_48 (by decide +kernel) ?_
        refine st_M_1 hC hP hD hS 3 (nI 7) (by omega) dX4_keep_50 (fun H locs hP hD hS => ?_)
        exact J1 _ hj1 ls H locs hP hD hS (lv_sub hl [0] rfl)
      · intro k3 v3 hlo3 hhi3 hI3 IH3 ls H locs hP hD hS hl
        have hb3 := m_X4_keep_l13.eq_1 k3 v3
        refine lv_iload_n hx hb dX4_keep_13 rfl (lv_at hl 1 rfl) ?_
        refine lv_bipush (v := (nI 77)) hx hb dX4_keep_14 (by decide +kernel) ?_
        refine wl_icmp_ge_n hx hb (by first | omega | exact Nat.lt_of_le_of_lt Nat.and_le_right (by omega) | exact Nat.pow_lt_pow_right (by omega) (by omega) | exact Nat.lt_trans (by assumption) (Nat.pow_lt_pow_right (by omega) (by omega))) (by first | omega | exact Nat.lt_of_le_of_lt Nat.and_le_right (by omega) | exact Nat.pow_lt_pow_right (by omega) (by omega) | exact Nat.lt_trans (by assumption) (Nat.pow_lt_pow_right (by omega) (by omega))) (tgt := 43) dX4_keep_16 (by decide) (fun c4 => absurd c4 (by omega)) (fun c4 => ?_)
        refine lv_aload_n hx hb dX4_keep_19 rfl (lv_at hl 0 rfl) ?_
        refine g_M_0_now hC hP mw_385 dX4_keep_20 ?_
        refine lv_bipush (v := (nI 52)) hx hb dX4_keep_23 (by decide +kernel) ?_
        refine lv_iload_n hx hb dX4_keep_25 rfl (lv_at hl 1 rfl) ?_
        refine lv_iadd hx hb dX4_keep_26 ?_
        refine wl_re (show nI 52 + nI k3 = nI (52 + k3) from nI_add 52 k3) ?_
        refine lv_aload_n hx hb dX4_keep_27 rfl (lv_at hl 0 rfl) ?_
        refine g_M_0_now hC hP mw_385 dX4_keep_28 ?_
        refine lv_bipush (v := (nI 63)) hx hb dX4_keep_31 (by decide +kernel) ?_
        refine lv_iload_n hx hb dX4_keep_33 rfl (lv_at hl 1 rfl) ?_
        refine lv_iadd hx hb dX4_keep_34 ?_
        refine wl_re (show nI 63 + nI k3 = nI (63 + k3) from nI_add 63 k3) ?_
        refine ld_M_1 hC hP (63 + k3) (by omega) dX4_keep_35 ?_
        refine st_M_1 hC hP hD hS (52 + k3) (v3 (63 + k3)) (by omega) dX4_keep_36 (fun H locs hP hD hS => ?_)
        refine lv_iinc (v := (nI (k3 + 1))) (lv' := [(1, .int (nI (k3 + 1))), (0, .ref (a 0))]) hx hb dX4_keep_37 hl (k := 1) rfl (wl_inc k3 1) (by decide) rfl (fun ls hl => ?_)
        refine lv_goto (tgt := 13) hx hb dX4_keep_40 (by decide) ?_
        exact IH3 _ hb3 trivial ls H locs hP hD hS (lv_sub hl [1, 0] rfl)
theorem iter_keeps {σ α : Type} (f : Nat → σ → σ) (g : σ → α) (n k : Nat) (v : σ) (h : ∀ (j : Nat) (w : σ), k ≤ j → j < k + n → g (f j w) = g w) : g (wl_iter f n k v) = g v := by
  induction n generalizing k v with
  | zero => rfl
  | succ n ih =>
    show g (wl_iter f n (k + 1) (f k v)) = g v
    rw [ih (k + 1) (f k v) (fun j w h1 h2 => h j w (by omega) (by omega))]
    exact h k v (Nat.le_refl _) (by omega)
theorem keep_at {U : Nat} (hU : U ≤ 8) (now : Nat → Int32) {i : Nat} (hi : i < 52) (h3 : i ≠ 3) : m_X4_keep now U i = now i := by
  unfold m_X4_keep wl_bnd
  have hV : (if U = 8 then 7 else U) ≤ 7 := by split <;> omega
  show upd _ 3 _ i = now i
  rw [pk_un h3]
  rw [iter_keeps (m_X4_keep_l53 U) (fun f => f i) 11 0 _ (fun j w h1 h2 => pk_un (by omega))]
  by_cases hU8 : U = 8
  · rw [if_pos hU8]
    show upd _ 3 _ i = now i
    rw [pk_un h3]
    exact iter_keeps m_X4_keep_l13 (fun f => f i) 77 0 now (fun j w h1 h2 => pk_un (by omega))
  · rw [if_neg hU8]
theorem keep_3 {U : Nat} (now : Nat → Int32) : m_X4_keep now U 3 = nI ((if U = 8 then 7 else U) + 1) := by
  unfold m_X4_keep wl_bnd
  exact pk_us
def m_X4_turn (mnow : (Nat → Int32)) (which : Nat) (p : Nat) (is : Int32) (U : Nat) : Int32 × (Nat → Int32) := (wl_bnd (m_X4_keep mnow U) (fun z1 => (if is = (nI 1) then ((((mnow which) >>> ((nI p) &&& 31)) &&& (nI 1)), (upd z1 which ((z1 which) ||| ((nI 1) <<< ((nI p) &&& 31))))) else ((((mnow which) >>> ((nI p) &&& 31)) &&& (nI 1)), (upd z1 which ((z1 which) &&& (((nI 1) <<< ((nI p) &&& 31)) ^^^ (-1))))))))
set_option maxHeartbeats 4000000 in
set_option maxRecDepth 100000 in
theorem c_X4_turn {l : Launch} {D : va_G} {E : Nat → ClassId} {a : Nat → Nat} {mabove : Int64} {mbelow : Int64} {mlisted : Int32} {mfollowing : Int32} {mdayThen : Int32} {mbytesLong : Nat} {mtokenAt : Nat} {mtokenLong : Nat} {mtoken : Int32} {mvalue : Int32} {mnow : (Nat → Int32)} {mkept : (Nat → Int32)} {misKept : (Nat → Int32)} {mrefused : (Nat → Int32)} {mtempers : (Nat → Int32)} {mhis : (Nat → Int32)} {mtheirs : (Nat → Int32)} {mmanyBy : (Nat → Int32)} {mbytes : (Nat → Int32)} {manew : (Nat → Int32)} {mvalues : (Nat → Int32)} {which : Nat} {p : Nat} {is : Int32} {U : Nat} (h3 : mnow 3 = nI U) (hU8 : U ≤ 8) (hw : which = 18 ∨ which = 19) (hp : p < 7) : wl_Met (τ := Int32 × (Nat → Int32)) l D E yX4_turn cX4_turn 5 (some .int) ({ frames := 1, cells := 0, slots := 0, locals := 21 } : Room) [.ref (a 0), .int (nI which), .int (nI p), .int is] (wM E a mabove mbelow mlisted mfollowing mdayThen mbytesLong mtokenAt mtokenLong mtoken mvalue mnow mkept misKept mrefused mtempers mhis mtheirs mmanyBy mbytes manew mvalues) (fun z => some (.int z.1)) (fun z => (wM E a mabove mbelow mlisted mfollowing mdayThen mbytesLong mtokenAt mtokenLong mtoken mvalue z.2 mkept misKept mrefused mtempers mhis mtheirs mmanyBy mbytes manew mvalues)) (m_X4_turn mnow which p is U) := by
  refine wl_enter (own := RX4) (by decide +kernel) rfl (Nat.le_of_ble_eq_true rfl) ?_
  intro p0 e0 s0 m0 bl0 mt0 c0 A hC hr hlk hA H locs hP hD hS ls hl
  have hx := hC.1
  have hb := hC.2.1
  have hl : lv_has ls 5 [(0, .ref (a 0)), (1, .int (nI which)), (2, .int (nI p)), (3, .int is)] := hl
  have hm := m_X4_turn.eq_1 mnow which p is U
  refine lv_aload_n hx hb dX4_turn_0 rfl (lv_at hl 0 rfl) ?_
  refine g_M_0_now hC hP mw_385 dX4_turn_1 ?_
  refine lv_iload_n hx hb dX4_turn_4 rfl (lv_at hl 1 rfl) ?_
  refine ld_M_1 hC hP which (by omega) dX4_turn_5 ?_
  refine lv_iload_n hx hb dX4_turn_6 rfl (lv_at hl 2 rfl) ?_
  refine lv_ishr hx hb dX4_turn_7 ?_
  refine lv_iconst (v := (nI 1)) hx hb dX4_turn_8 (by decide +kernel) ?_
  refine lv_iand hx hb dX4_turn_9 ?_
  refine lv_istore (lv' := [(4, .int (((mnow which) >>> ((nI p) &&& 31)) &&& (nI 1))), (0, .ref (a 0)), (1, .int (nI which)), (2, .int (nI p)), (3, .int is)]) hx hb dX4_turn_10 hl (by decide) rfl (fun ls hl => ?_)
  refine lv_aload_n hx hb dX4_turn_12 rfl (lv_at hl 1 rfl) ?_
  refine wl_callVv hC (c_X4_keep (U := U) (h3) (by first | assumption | omega)) lk_RX4_110 rfl ⟨rfl, rfl, Nat.le_of_ble_eq_true rfl, Nat.le_of_ble_eq_true rfl⟩ hP hD hS hA 0 rfl (T1 := 21) rfl hl.1 rfl (Nat.le_of_ble_eq_true rfl) dX4_turn_13 ⟨Nat.zero_le _, Nat.zero_le _⟩ (fun z1 hz1 H locs hP hD hS => ?_)
  have hm := wl_bz hm hz1
  refine lv_aload_n hx hb dX4_turn_16 rfl (lv_at hl 1 rfl) ?_
  refine g_M_0_now hC hP mw_385 dX4_turn_17 ?_
  refine lv_iload_n hx hb dX4_turn_20 rfl (lv_at hl 2 rfl) ?_
  refine lv_iload_n hx hb dX4_turn_21 rfl (lv_at hl 4 rfl) ?_
  refine lv_iconst (v := (nI 1)) hx hb dX4_turn_22 (by decide +kernel) ?_
  refine lv_icmp_ne hx hb (tgt := 39) dX4_turn_23 (by decide) (fun c2 => ?_) (fun c2 => ?_)
  · have hm := hm.trans (if_neg c2)
    refine lv_aload_n hx hb dX4_turn_39 rfl (lv_at hl 1 rfl) ?_
    refine g_M_0_now hC hP mw_385 dX4_turn_40 ?_
    refine lv_iload_n hx hb dX4_turn_43 rfl (lv_at hl 2 rfl) ?_
    refine ld_M_1 hC hP which (by omega) dX4_turn_44 ?_
    refine lv_iconst (v := (nI 1)) hx hb dX4_turn_45 (by decide +kernel) ?_
    refine lv_iload_n hx hb dX4_turn_46 rfl (lv_at hl 3 rfl) ?_
    refine lv_ishl hx hb dX4_turn_47 ?_
    refine lv_iconst (v := (-1)) hx hb dX4_turn_48 (by decide +kernel) ?_
    refine lv_ixor hx hb dX4_turn_49 ?_
    refine lv_iand hx hb dX4_turn_50 ?_
    refine st_M_1 hC hP hD hS which ((z1 which) &&& (((nI 1) <<< ((nI p) &&& 31)) ^^^ (-1))) (by omega) dX4_turn_51 (fun H locs hP hD hS => ?_)
    refine lv_iload hx hb dX4_turn_52 (lv_at hl 0 rfl) ?_
    exact wl_iret hC hr hlk hm rfl hP hD hS dX4_turn_54
  · have hm := hm.trans (if_pos c2)
    refine lv_aload_n hx hb dX4_turn_26 rfl (lv_at hl 1 rfl) ?_
    refine g_M_0_now hC hP mw_385 dX4_turn_27 ?_
    refine lv_iload_n hx hb dX4_turn_30 rfl (lv_at hl 2 rfl) ?_
    refine ld_M_1 hC hP which (by omega) dX4_turn_31 ?_
    refine lv_iconst (v := (nI 1)) hx hb dX4_turn_32 (by decide +kernel) ?_
    refine lv_iload_n hx hb dX4_turn_33 rfl (lv_at hl 3 rfl) ?_
    refine lv_ishl hx hb dX4_turn_34 ?_
    refine lv_ior hx hb dX4_turn_35 ?_
    refine lv_goto (tgt := 51) hx hb dX4_turn_36 (by decide) ?_
    refine st_M_1 hC hP hD hS which ((z1 which) ||| ((nI 1) <<< ((nI p) &&& 31))) (by omega) dX4_turn_51 (fun H locs hP hD hS => ?_)
    refine lv_iload hx hb dX4_turn_52 (lv_at hl 0 rfl) ?_
    exact wl_iret hC hr hlk hm rfl hP hD hS dX4_turn_54
def m_X4_list (mnow : (Nat → Int32)) (mrefused : (Nat → Int32)) (p : Int32) (is : Int32) (P : Nat) (U : Nat) : Int32 × (Nat → Int32) × (Nat → Int32) := (wl_bnd (m_X4_isOne p P) (fun z1 => (if z1 = true then (wl_bnd (m_X4_in is.toInt64 (lN 0) (lN 1)) (fun z5 => (if z5 = true then (wl_bnd (m_X4_turn mnow 18 (cl p) is U) (fun z8 => (z8.1, z8.2, mrefused))) else (wl_bnd (m_X4_bad mrefused (-2)) (fun z7 => (z7.1, mnow, z7.2)))))) else (wl_bnd (m_X4_bad mrefused (-2)) (fun z3 => (z3.1, mnow, z3.2))))))
set_option maxHeartbeats 4000000 in
set_option maxRecDepth 100000 in
theorem c_X4_list {l : Launch} {D : va_G} {E : Nat → ClassId} {a : Nat → Nat} {mabove : Int64} {mbelow : Int64} {mlisted : Int32} {mfollowing : Int32} {mdayThen : Int32} {mbytesLong : Nat} {mtokenAt : Nat} {mtokenLong : Nat} {mtoken : Int32} {mvalue : Int32} {mnow : (Nat → Int32)} {mkept : (Nat → Int32)} {misKept : (Nat → Int32)} {mrefused : (Nat → Int32)} {mtempers : (Nat → Int32)} {mhis : (Nat → Int32)} {mtheirs : (Nat → Int32)} {mmanyBy : (Nat → Int32)} {mbytes : (Nat → Int32)} {manew : (Nat → Int32)} {mvalues : (Nat → Int32)} {p : Int32} {is : Int32} {P : Nat} {U : Nat} (h0 : mnow 0 = nI P) (hP7 : P ≤ 7) (h3 : mnow 3 = nI U) (hU8 : U ≤ 8) : wl_Met (τ := Int32 × (Nat → Int32) × (Nat → Int32)) l D E yX4_list cX4_list 3 (some .int) ({ frames := 2, cells := 0, slots := 0, locals := 46 } : Room) [.ref (a 0), .int p, .int is] (wM E a mabove mbelow mlisted mfollowing mdayThen mbytesLong mtokenAt mtokenLong mtoken mvalue mnow mkept misKept mrefused mtempers mhis mtheirs mmanyBy mbytes manew mvalues) (fun z => some (.int z.1)) (fun z => (wM E a mabove mbelow mlisted mfollowing mdayThen mbytesLong mtokenAt mtokenLong mtoken mvalue z.2.1 mkept misKept z.2.2 mtempers mhis mtheirs mmanyBy mbytes manew mvalues)) (m_X4_list mnow mrefused p is P U) := by
  refine wl_enter (own := RX4) (by decide +kernel) rfl (Nat.le_of_ble_eq_true rfl) ?_
  intro p0 e0 s0 m0 bl0 mt0 c0 A hC hr hlk hA H locs hP hD hS ls hl
  have hx := hC.1
  have hb := hC.2.1
  have hl : lv_has ls 3 [(0, .ref (a 0)), (1, .int p), (2, .int is)] := hl
  have hm := m_X4_list.eq_1 mnow mrefused p is P U
  refine lv_aload_n hx hb dX4_list_0 rfl (lv_at hl 0 rfl) ?_
  refine lv_iload_n hx hb dX4_list_1 rfl (lv_at hl 1 rfl) ?_
  refine wl_callVi hC (c_X4_isOne (p := p) (P := P) (h0)) lk_RX4_113 rfl ⟨rfl, rfl, Nat.le_of_ble_eq_true rfl, Nat.le_of_ble_eq_true rfl⟩ hP hD hS hA 0 rfl (T1 := 21) rfl hl.1 rfl (Nat.le_of_ble_eq_true rfl) dX4_list_2 ⟨Nat.zero_le _, Nat.zero_le _⟩ (fun z1 hz1 H locs hP hD hS => ?_)
  have hm := wl_bz hm hz1
  refine wl_if_eq_b hx hb (tgt := 29) dX4_list_5 (by decide) (fun c2 => ?_) (fun c2 => ?_)
  · have hm := hm.trans (if_neg c2)
    refine lv_aload_n hx hb dX4_list_29 rfl (lv_at hl 0 rfl) ?_
    refine lv_bipush (v := (-2)) hx hb dX4_list_30 (by decide +kernel) ?_
    refine wl_callVi hC (c_X4_bad (tells := (-2)) ) lk_RX4_62 rfl ⟨rfl, rfl, Nat.le_of_ble_eq_true rfl, Nat.le_of_ble_eq_true rfl⟩ hP hD hS hA 0 rfl (T1 := 21) rfl hl.1 rfl (Nat.le_of_ble_eq_true rfl) dX4_list_32 ⟨Nat.zero_le _, Nat.zero_le _⟩ (fun z3 hz3 H locs hP hD hS => ?_)
    have hm := wl_bz hm hz3
    exact wl_iret hC hr hlk hm rfl hP hD hS dX4_list_35
  · have hm := hm.trans (if_pos c2)
    obtain ⟨ha4, hb4_⟩ := isOne_spec hP7 (hz1.symm.trans c2)
    have hl : lv_has ls 3 [(0, .ref (a 0)), (1, .int (nI (cl p))), (2, .int is)] := by rw [← ha4]; exact hl
    refine lv_iload_n hx hb dX4_list_8 rfl (lv_at hl 2 rfl) ?_
    refine lv_i2l (v := is.toInt64) hx hb dX4_list_9 rfl ?_
    refine lv_lconst (v := lN 0) hx hb dX4_list_10 (by decide +kernel) ?_
    refine lv_lconst (v := lN 1) hx hb dX4_list_11 (by decide +kernel) ?_
    refine wl_callPi hC (c_X4_in (v := is.toInt64) (low := (lN 0)) (high := (lN 1)) ) lk_RX4_56 rfl ⟨rfl, rfl, Nat.le_of_ble_eq_true rfl, Nat.le_of_ble_eq_true rfl⟩ hP hS hA hl.1 rfl (Nat.le_of_ble_eq_true rfl) dX4_list_12 ⟨Nat.zero_le _, Nat.zero_le _⟩ (fun z5 hz5 H locs hP hS => ?_)
    have hm := wl_bz hm hz5
    refine wl_if_eq_b hx hb (tgt := 29) dX4_list_15 (by decide) (fun c6 => ?_) (fun c6 => ?_)
    · have hm := hm.trans (if_neg c6)
      refine lv_aload_n hx hb dX4_list_29 rfl (lv_at hl 0 rfl) ?_
      refine lv_bipush (v := (-2)) hx hb dX4_list_30 (by decide +kernel) ?_
      refine wl_callVi hC (c_X4_bad (tells := (-2)) ) lk_RX4_62 rfl ⟨rfl, rfl, Nat.le_of_ble_eq_true rfl, Nat.le_of_ble_eq_true rfl⟩ hP hD hS hA 0 rfl (T1 := 21) rfl hl.1 rfl (Nat.le_of_ble_eq_true rfl) dX4_list_32 ⟨Nat.zero_le _, Nat.zero_le _⟩ (fun z7 hz7 H locs hP hD hS => ?_)
      have hm := wl_bz hm hz7
      exact wl_iret hC hr hlk hm rfl hP hD hS dX4_list_35
    · have hm := hm.trans (if_pos c6)
      refine lv_aload_n hx hb dX4_list_18 rfl (lv_at hl 0 rfl) ?_
      refine lv_bipush (v := (nI 18)) hx hb dX4_list_19 (by decide +kernel) ?_
      refine lv_iload_n hx hb dX4_list_21 rfl (lv_at hl 1 rfl) ?_
      refine lv_iload_n hx hb dX4_list_22 rfl (lv_at hl 2 rfl) ?_
      refine wl_callVi hC (c_X4_turn (which := 18) (p := (cl p)) (is := is) (U := U) (h3) (by first | assumption | omega) (Or.inl rfl) (by first | assumption | omega)) lk_RX4_116 rfl ⟨rfl, rfl, Nat.le_of_ble_eq_true rfl, Nat.le_of_ble_eq_true rfl⟩ hP hD hS hA 0 rfl (T1 := 21) rfl hl.1 rfl (Nat.le_of_ble_eq_true rfl) dX4_list_23 ⟨Nat.zero_le _, Nat.zero_le _⟩ (fun z8 hz8 H locs hP hD hS => ?_)
      have hm := wl_bz hm hz8
      refine lv_goto (tgt := 35) hx hb dX4_list_26 (by decide) ?_
      exact wl_iret hC hr hlk hm rfl hP hD hS dX4_list_35
def m_X4_follow (mnow : (Nat → Int32)) (mrefused : (Nat → Int32)) (p : Int32) (is : Int32) (P : Nat) (U : Nat) : Int32 × (Nat → Int32) × (Nat → Int32) := (wl_bnd (m_X4_isOne p P) (fun z1 => (if z1 = true then (wl_bnd (m_X4_in is.toInt64 (lN 0) (lN 1)) (fun z5 => (if z5 = true then (wl_bnd (m_X4_turn mnow 19 (cl p) is U) (fun z8 => (z8.1, z8.2, mrefused))) else (wl_bnd (m_X4_bad mrefused (-2)) (fun z7 => (z7.1, mnow, z7.2)))))) else (wl_bnd (m_X4_bad mrefused (-2)) (fun z3 => (z3.1, mnow, z3.2))))))
set_option maxHeartbeats 4000000 in
set_option maxRecDepth 100000 in
theorem c_X4_follow {l : Launch} {D : va_G} {E : Nat → ClassId} {a : Nat → Nat} {mabove : Int64} {mbelow : Int64} {mlisted : Int32} {mfollowing : Int32} {mdayThen : Int32} {mbytesLong : Nat} {mtokenAt : Nat} {mtokenLong : Nat} {mtoken : Int32} {mvalue : Int32} {mnow : (Nat → Int32)} {mkept : (Nat → Int32)} {misKept : (Nat → Int32)} {mrefused : (Nat → Int32)} {mtempers : (Nat → Int32)} {mhis : (Nat → Int32)} {mtheirs : (Nat → Int32)} {mmanyBy : (Nat → Int32)} {mbytes : (Nat → Int32)} {manew : (Nat → Int32)} {mvalues : (Nat → Int32)} {p : Int32} {is : Int32} {P : Nat} {U : Nat} (h0 : mnow 0 = nI P) (hP7 : P ≤ 7) (h3 : mnow 3 = nI U) (hU8 : U ≤ 8) : wl_Met (τ := Int32 × (Nat → Int32) × (Nat → Int32)) l D E yX4_follow cX4_follow 3 (some .int) ({ frames := 2, cells := 0, slots := 0, locals := 46 } : Room) [.ref (a 0), .int p, .int is] (wM E a mabove mbelow mlisted mfollowing mdayThen mbytesLong mtokenAt mtokenLong mtoken mvalue mnow mkept misKept mrefused mtempers mhis mtheirs mmanyBy mbytes manew mvalues) (fun z => some (.int z.1)) (fun z => (wM E a mabove mbelow mlisted mfollowing mdayThen mbytesLong mtokenAt mtokenLong mtoken mvalue z.2.1 mkept misKept z.2.2 mtempers mhis mtheirs mmanyBy mbytes manew mvalues)) (m_X4_follow mnow mrefused p is P U) := by
  refine wl_enter (own := RX4) (by decide +kernel) rfl (Nat.le_of_ble_eq_true rfl) ?_
  intro p0 e0 s0 m0 bl0 mt0 c0 A hC hr hlk hA H locs hP hD hS ls hl
  have hx := hC.1
  have hb := hC.2.1
  have hl : lv_has ls 3 [(0, .ref (a 0)), (1, .int p), (2, .int is)] := hl
  have hm := m_X4_follow.eq_1 mnow mrefused p is P U
  refine lv_aload_n hx hb dX4_follow_0 rfl (lv_at hl 0 rfl) ?_
  refine lv_iload_n hx hb dX4_follow_1 rfl (lv_at hl 1 rfl) ?_
  refine wl_callVi hC (c_X4_isOne (p := p) (P := P) (h0)) lk_RX4_113 rfl ⟨rfl, rfl, Nat.le_of_ble_eq_true rfl, Nat.le_of_ble_eq_true rfl⟩ hP hD hS hA 0 rfl (T1 := 21) rfl hl.1 rfl (Nat.le_of_ble_eq_true rfl) dX4_follow_2 ⟨Nat.zero_le _, Nat.zero_le _⟩ (fun z1 hz1 H locs hP hD hS => ?_)
  have hm := wl_bz hm hz1
  refine wl_if_eq_b hx hb (tgt := 29) dX4_follow_5 (by decide) (fun c2 => ?_) (fun c2 => ?_)
  · have hm := hm.trans (if_neg c2)
    refine lv_aload_n hx hb dX4_follow_29 rfl (lv_at hl 0 rfl) ?_
    refine lv_bipush (v := (-2)) hx hb dX4_follow_30 (by decide +kernel) ?_
    refine wl_callVi hC (c_X4_bad (tells := (-2)) ) lk_RX4_62 rfl ⟨rfl, rfl, Nat.le_of_ble_eq_true rfl, Nat.le_of_ble_eq_true rfl⟩ hP hD hS hA 0 rfl (T1 := 21) rfl hl.1 rfl (Nat.le_of_ble_eq_true rfl) dX4_follow_32 ⟨Nat.zero_le _, Nat.zero_le _⟩ (fun z3 hz3 H locs hP hD hS => ?_)
    have hm := wl_bz hm hz3
    exact wl_iret hC hr hlk hm rfl hP hD hS dX4_follow_35
  · have hm := hm.trans (if_pos c2)
    obtain ⟨ha4, hb4_⟩ := isOne_spec hP7 (hz1.symm.trans c2)
    have hl : lv_has ls 3 [(0, .ref (a 0)), (1, .int (nI (cl p))), (2, .int is)] := by rw [← ha4]; exact hl
    refine lv_iload_n hx hb dX4_follow_8 rfl (lv_at hl 2 rfl) ?_
    refine lv_i2l (v := is.toInt64) hx hb dX4_follow_9 rfl ?_
    refine lv_lconst (v := lN 0) hx hb dX4_follow_10 (by decide +kernel) ?_
    refine lv_lconst (v := lN 1) hx hb dX4_follow_11 (by decide +kernel) ?_
    refine wl_callPi hC (c_X4_in (v := is.toInt64) (low := (lN 0)) (high := (lN 1)) ) lk_RX4_56 rfl ⟨rfl, rfl, Nat.le_of_ble_eq_true rfl, Nat.le_of_ble_eq_true rfl⟩ hP hS hA hl.1 rfl (Nat.le_of_ble_eq_true rfl) dX4_follow_12 ⟨Nat.zero_le _, Nat.zero_le _⟩ (fun z5 hz5 H locs hP hS => ?_)
    have hm := wl_bz hm hz5
    refine wl_if_eq_b hx hb (tgt := 29) dX4_follow_15 (by decide) (fun c6 => ?_) (fun c6 => ?_)
    · have hm := hm.trans (if_neg c6)
      refine lv_aload_n hx hb dX4_follow_29 rfl (lv_at hl 0 rfl) ?_
      refine lv_bipush (v := (-2)) hx hb dX4_follow_30 (by decide +kernel) ?_
      refine wl_callVi hC (c_X4_bad (tells := (-2)) ) lk_RX4_62 rfl ⟨rfl, rfl, Nat.le_of_ble_eq_true rfl, Nat.le_of_ble_eq_true rfl⟩ hP hD hS hA 0 rfl (T1 := 21) rfl hl.1 rfl (Nat.le_of_ble_eq_true rfl) dX4_follow_32 ⟨Nat.zero_le _, Nat.zero_le _⟩ (fun z7 hz7 H locs hP hD hS => ?_)
      have hm := wl_bz hm hz7
      exact wl_iret hC hr hlk hm rfl hP hD hS dX4_follow_35
    · have hm := hm.trans (if_pos c6)
      refine lv_aload_n hx hb dX4_follow_18 rfl (lv_at hl 0 rfl) ?_
      refine lv_bipush (v := (nI 19)) hx hb dX4_follow_19 (by decide +kernel) ?_
      refine lv_iload_n hx hb dX4_follow_21 rfl (lv_at hl 1 rfl) ?_
      refine lv_iload_n hx hb dX4_follow_22 rfl (lv_at hl 2 rfl) ?_
      refine wl_callVi hC (c_X4_turn (which := 19) (p := (cl p)) (is := is) (U := U) (h3) (by first | assumption | omega) (Or.inr rfl) (by first | assumption | omega)) lk_RX4_116 rfl ⟨rfl, rfl, Nat.le_of_ble_eq_true rfl, Nat.le_of_ble_eq_true rfl⟩ hP hD hS hA 0 rfl (T1 := 21) rfl hl.1 rfl (Nat.le_of_ble_eq_true rfl) dX4_follow_23 ⟨Nat.zero_le _, Nat.zero_le _⟩ (fun z8 hz8 H locs hP hD hS => ?_)
      have hm := wl_bz hm hz8
      refine lv_goto (tgt := 35) hx hb dX4_follow_26 (by decide) ?_
      exact wl_iret hC hr hlk hm rfl hP hD hS dX4_follow_35
def m_X4_day_l50 (z8 : Int32 × Int32 × Int32 × Int32 × (Nat → Int32)) (k9 : Nat) (v9 : (Nat → Int32)) : (Nat → Int32) := (upd v9 (11 + k9) (z8.2.2.2.2 k9))
def m_X4_day_l23 (P : Nat) (k4 : Nat) (v4 : Int32 × Int32 × Int32 × (Nat → Int32) × (Nat → Int32) × Int32) : Int32 × Int32 × Int32 × (Nat → Int32) × (Nat → Int32) × Int32 := (wl_bnd (m_X4_keep v4.2.2.2.1 (cl (v4.2.2.2.1 3))) (fun z6 => (wl_bnd (m_X4_layHand z6 v4.2.2.2.2.1 P) (fun z7 => (wl_bnd (m_X4_goDay z7.1 z7.2.1 z7.2.2.1 z6 z7.2.2.2 P) (fun z8 => (wl_bnd (wl_iter (m_X4_day_l50 z8) P 0 z6) (fun z9 => (wl_bnd (m_X4_bits z8.1) (fun z14 => (z8.2.1, z8.2.2.1, z8.2.2.2.1, (upd (upd (upd (upd z9 18 z8.2.1) 19 z8.2.2.1) 20 ((z9 20) + z14)) 21 ((z9 21) + (nI 1))), z8.2.2.2.2, (v4.2.2.2.2.2 ||| z8.1))))))))))))
def m_X4_day (mlisted : Int32) (mfollowing : Int32) (mdayThen : Int32) (mnow : (Nat → Int32)) (mrefused : (Nat → Int32)) (mtempers : (Nat → Int32)) (n : Int32) (P : Nat) : Int32 × Int32 × Int32 × Int32 × (Nat → Int32) × (Nat → Int32) × (Nat → Int32) := (wl_bnd (m_X4_in n.toInt64 (lN 1) (lN 60)) (fun z1 => (if z1 = true then (wl_bnd (wl_iter (m_X4_day_l23 P) (cl n) 0 (mlisted, mfollowing, mdayThen, mnow, mtempers, (nI 0))) (fun z4 => (z4.2.2.2.2.2, z4.1, z4.2.1, z4.2.2.1, z4.2.2.2.1, mrefused, z4.2.2.2.2.1))) else (wl_bnd (m_X4_bad mrefused (-2)) (fun z16 => (z16.1, mlisted, mfollowing, mdayThen, mnow, z16.2, mtempers))))))
set_option maxHeartbeats 4000000 in
set_option maxRecDepth 100000 in
theorem c_X4_day {l : Launch} {D : va_G} {E : Nat → ClassId} {a : Nat → Nat} {mabove : Int64} {mbelow : Int64} {mlisted : Int32} {mfollowing : Int32} {mdayThen : Int32} {mbytesLong : Nat} {mtokenAt : Nat} {mtokenLong : Nat} {mtoken : Int32} {mvalue : Int32} {mnow : (Nat → Int32)} {mkept : (Nat → Int32)} {misKept : (Nat → Int32)} {mrefused : (Nat → Int32)} {mtempers : (Nat → Int32)} {mhis : (Nat → Int32)} {mtheirs : (Nat → Int32)} {mmanyBy : (Nat → Int32)} {mbytes : (Nat → Int32)} {manew : (Nat → Int32)} {mvalues : (Nat → Int32)} {n : Int32} {P : Nat} {U : Nat} (h0 : mnow 0 = nI P) (hP7 : P ≤ 7) (h3 : mnow 3 = nI U) (hU8 : U ≤ 8) : wl_Met (τ := Int32 × Int32 × Int32 × Int32 × (Nat → Int32) × (Nat → Int32) × (Nat → Int32)) l D E yX4_day cX4_day 6 (some .int) ({ frames := 4, cells := 0, slots := 0, locals := 90 } : Room) [.ref (a 0), .int n] (wM E a mabove mbelow mlisted mfollowing mdayThen mbytesLong mtokenAt mtokenLong mtoken mvalue mnow mkept misKept mrefused mtempers mhis mtheirs mmanyBy mbytes manew mvalues) (fun z => some (.int z.1)) (fun z => (wM E a mabove mbelow z.2.1 z.2.2.1 z.2.2.2.1 mbytesLong mtokenAt mtokenLong mtoken mvalue z.2.2.2.2.1 mkept misKept z.2.2.2.2.2.1 z.2.2.2.2.2.2 mhis mtheirs mmanyBy mbytes manew mvalues)) (m_X4_day mlisted mfollowing mdayThen mnow mrefused mtempers n P) := by
  refine wl_enter (own := RX4) (by decide +kernel) rfl (Nat.le_of_ble_eq_true rfl) ?_
  intro p0 e0 s0 m0 bl0 mt0 c0 A hC hr hlk hA H locs hP hD hS ls hl
  have hx := hC.1
  have hb := hC.2.1
  have hl : lv_has ls 6 [(0, .ref (a 0)), (1, .int n)] := hl
  have hm := m_X4_day.eq_1 mlisted mfollowing mdayThen mnow mrefused mtempers n P
  refine lv_iload_n hx hb dX4_day_0 rfl (lv_at hl 1 rfl) ?_
  refine lv_i2l (v := n.toInt64) hx hb dX4_day_1 rfl ?_
  refine lv_lconst (v := lN 1) hx hb dX4_day_2 (by decide +kernel) ?_
  refine lv_ldc2 hx hb hC.2.2.2.1 (hC.2.2.2.2.1 _ mw_468) dX4_day_3 ?_
  refine wl_reL (show (60 : Int64) = lN 60 by decide +kernel) ?_
  refine wl_callPi hC (c_X4_in (v := n.toInt64) (low := (lN 1)) (high := (lN 60)) ) lk_RX4_56 rfl ⟨rfl, rfl, Nat.le_of_ble_eq_true rfl, Nat.le_of_ble_eq_true rfl⟩ hP hS hA hl.1 rfl (Nat.le_of_ble_eq_true rfl) dX4_day_6 ⟨Nat.zero_le _, Nat.zero_le _⟩ (fun z1 hz1 H locs hP hS => ?_)
  have hm := wl_bz hm hz1
  refine wl_if_ne_b hx hb (tgt := 19) dX4_day_9 (by decide) (fun c2 => ?_) (fun c2 => ?_)
  · have hm := hm.trans (if_pos c2)
    obtain ⟨ha3, hb3_, hc3_⟩ := in_spec (a := 1) (b := 60) (by decide) (by decide) (hz1.symm.trans c2)
    have hl : lv_has ls 6 [(0, .ref (a 0)), (1, .int (nI (cl n)))] := by rw [← ha3]; exact hl
    refine lv_iconst (v := (nI 0)) hx hb dX4_day_19 (by decide +kernel) ?_
    refine lv_istore_n (lv' := [(2, .int (nI 0)), (0, .ref (a 0)), (1, .int (nI (cl n)))]) hx hb dX4_day_20 rfl hl (by decide) rfl (fun ls hl => ?_)
    refine lv_iconst (v := (nI 0)) hx hb dX4_day_21 (by decide +kernel) ?_
    refine lv_istore_n (lv' := [(3, .int (nI 0)), (2, .int (nI 0)), (0, .ref (a 0)), (1, .int (nI (cl n)))]) hx hb dX4_day_22 rfl hl (by decide) rfl (fun ls hl => ?_)
    obtain ⟨u4, hu4, hk4⟩ := wl_bx hm
    refine wl_for (D := D) (A := A) (H0 := s0.heap) (m_X4_day_l23 P) (cl n) 0 (cl n) (mlisted, mfollowing, mdayThen, mnow, mtempers, (nI 0)) 23 6 (fun k4 v4 => [(0, .ref (a 0)), (1, .int (nI (cl n))), (2, .int v4.2.2.2.2.2), (3, .int (nI k4))]) (fun k4 v4 => (wM E a mabove mbelow v4.1 v4.2.1 v4.2.2.1 mbytesLong mtokenAt mtokenLong mtoken mvalue v4.2.2.2.1 mkept misKept mrefused v4.2.2.2.2.1 mhis mtheirs mmanyBy mbytes manew mvalues)) (fun k4 v4 => (v4.2.2.2.1 0 = nI P) ∧ (v4.2.2.2.1 3 = nI (cl (v4.2.2.2.1 3))) ∧ (cl (v4.2.2.2.1 3) ≤ 8)) (by omega) ⟨(by show mnow 0 = nI P; exact h0), (by show mnow 3 = nI (cl (mnow 3)); exact (wl_selfcl h3 hU8 (by decide)).1), (by show cl (mnow 3) ≤ 8; exact (wl_selfcl h3 hU8 (by decide)).2)⟩ ?_ ?_ hP hD hS (lv_sub hl [2, 3, 1, 0] rfl)
    · intro z4 hv4 hI4 ls H locs hP hD hS hl
      have hm := hk4 z4 (hu4.trans hv4)
      obtain ⟨i0, i3, i4⟩ := hI4
      refine lv_iload_n hx hb dX4_day_23 rfl (lv_at hl 3 rfl) ?_
      refine lv_iload_n hx hb dX4_day_24 rfl (lv_at hl 1 rfl) ?_
      refine wl_icmp_ge_n hx hb (by first | omega | exact Nat.lt_of_le_of_lt Nat.and_le_right (by omega) | exact Nat.pow_lt_pow_right (by omega) (by omega) | exact Nat.lt_trans (by assumption) (Nat.pow_lt_pow_right (by omega) (by omega))) (by first | omega | exact Nat.lt_of_le_of_lt Nat.and_le_right (by omega) | exact Nat.pow_lt_pow_right (by omega) (by omega) | exact Nat.lt_trans (by assumption) (Nat.pow_lt_pow_right (by omega) (by omega))) (tgt := 136) dX4_day_25 (by decide) (fun c15 => ?_) (fun c15 => absurd (by omega) c15)
      refine lv_iload_n hx hb dX4_day_136 rfl (lv_at hl 2 rfl) ?_
      exact wl_iret hC hr hlk hm rfl hP hD hS dX4_day_137
    · intro k4 v4 hlo4 hhi4 hI4 IH4 ls H locs hP hD hS hl
      obtain ⟨i0, i3, i4⟩ := hI4
      have hb4 := m_X4_day_l23.eq_1 P k4 v4
      refine lv_iload_n hx hb dX4_day_23 rfl (lv_at hl 3 rfl) ?_
      refine lv_iload_n hx hb dX4_day_24 rfl (lv_at hl 1 rfl) ?_
      refine wl_icmp_ge_n hx hb (by first | omega | exact Nat.lt_of_le_of_lt Nat.and_le_right (by omega) | exact Nat.pow_lt_pow_right (by omega) (by omega) | exact Nat.lt_trans (by assumption) (Nat.pow_lt_pow_right (by omega) (by omega))) (by first | omega | exact Nat.lt_of_le_of_lt Nat.and_le_right (by omega) | exact Nat.pow_lt_pow_right (by omega) (by omega) | exact Nat.lt_trans (by assumption) (Nat.pow_lt_pow_right (by omega) (by omega))) (tgt := 136) dX4_day_25 (by decide) (fun c5 => absurd c5 (by omega)) (fun c5 => ?_)
      refine lv_aload_n hx hb dX4_day_28 rfl (lv_at hl 0 rfl) ?_
      refine wl_callVv hC (c_X4_keep (U := (cl (v4.2.2.2.1 3))) (i3) (by first | assumption | omega)) lk_RX4_110 rfl ⟨rfl, rfl, Nat.le_of_ble_eq_true rfl, Nat.le_of_ble_eq_true rfl⟩ hP hD hS hA 0 rfl (T1 := 21) rfl hl.1 rfl (Nat.le_of_ble_eq_true rfl) dX4_day_29 ⟨Nat.zero_le _, Nat.zero_le _⟩ (fun z6 hz6 H locs hP hD hS => ?_)
      have hb4 := wl_bz hb4 hz6
      have r0 : z6 0 = nI P := by rw [hz6]; exact (keep_at (by assumption) _ (by omega) (by omega)).trans i0
      obtain ⟨r3, r3b⟩ : z6 3 = nI (cl (z6 3)) ∧ cl (z6 3) ≤ 8 := by rw [hz6]; exact wl_selfcl (keep_3 _) (by split <;> omega) (by decide)
      refine lv_aload_n hx hb dX4_day_32 rfl (lv_at hl 0 rfl) ?_
      refine wl_callVv hC (c_X4_layHand (P := P) (r0) (by first | assumption | omega)) lk_RX4_122 rfl ⟨rfl, rfl, Nat.le_of_ble_eq_true rfl, Nat.le_of_ble_eq_true rfl⟩ hP hD hS hA 0 rfl (T1 := 21) rfl hl.1 rfl (Nat.le_of_ble_eq_true rfl) dX4_day_33 ⟨Nat.zero_le _, Nat.zero_le _⟩ (fun z7 hz7 H locs hP hD hS => ?_)
      have hb4 := wl_bz hb4 hz7
      refine lv_aload_n hx hb dX4_day_36 rfl (lv_at hl 0 rfl) ?_
      refine wl_callVi hC (c_X4_goDay (P := P) (r0) (by first | assumption | omega)) lk_RX4_125 rfl ⟨rfl, rfl, Nat.le_of_ble_eq_true rfl, Nat.le_of_ble_eq_true rfl⟩ hP hD hS hA 0 rfl (T1 := 21) rfl hl.1 rfl (Nat.le_of_ble_eq_true rfl) dX4_day_37 ⟨Nat.zero_le _, Nat.zero_le _⟩ (fun z8 hz8 H locs hP hD hS => ?_)
      have hb4 := wl_bz hb4 hz8
      refine lv_istore (lv' := [(4, .int z8.1), (0, .ref (a 0)), (1, .int (nI (cl n))), (2, .int v4.2.2.2.2.2), (3, .int (nI k4))]) hx hb dX4_day_40 hl (by decide) rfl (fun ls hl => ?_)
      refine lv_iload_n hx hb dX4_day_42 rfl (lv_at hl 3 rfl) ?_
      refine lv_iload hx hb dX4_day_43 (lv_at hl 0 rfl) ?_
      refine lv_ior hx hb dX4_day_45 ?_
      refine lv_istore_n (lv' := [(2, .int (v4.2.2.2.2.2 ||| z8.1)), (4, .int z8.1), (0, .ref (a 0)), (1, .int (nI (cl n))), (3, .int (nI k4))]) hx hb dX4_day_46 rfl hl (by decide) rfl (fun ls hl => ?_)
      refine lv_iconst (v := (nI 0)) hx hb dX4_day_47 (by decide +kernel) ?_
      refine lv_istore (lv' := [(5, .int (nI 0)), (2, .int (v4.2.2.2.2.2 ||| z8.1)), (4, .int z8.1), (0, .ref (a 0)), (1, .int (nI (cl n))), (3, .int (nI k4))]) hx hb dX4_day_48 hl (by decide) rfl (fun ls hl => ?_)
      obtain ⟨u9, hu9, hk9⟩ := wl_bx hb4
      refine wl_for (D := D) (A := A) (H0 := s0.heap) (m_X4_day_l50 z8) P 0 P z6 50 6 (fun k9 v9 => [(0, .ref (a 0)), (1, .int (nI (cl n))), (2, .int (v4.2.2.2.2.2 ||| z8.1)), (3, .int (nI k4)), (4, .int z8.1), (5, .int (nI k9))]) (fun k9 v9 => (wM E a mabove mbelow z8.2.1 z8.2.2.1 z8.2.2.2.1 mbytesLong mtokenAt mtokenLong mtoken mvalue v9 mkept misKept mrefused z8.2.2.2.2 mhis mtheirs mmanyBy mbytes manew mvalues)) (fun k9 v9 => (v9 0 = nI P) ∧ (v9 3 = nI (cl (z6 3)))) (by omega) ⟨(by show z6 0 = nI P; exact r0), (by show z6 3 = nI (cl (z6 3)); exact r3)⟩ ?_ ?_ hP hD hS (lv_sub hl [3, 4, 1, 5, 2, 0] rfl)
      · intro z9 hv9 hI9 ls H locs hP hD hS hl
        have hb4 := hk9 z9 (hu9.trans hv9)
        obtain ⟨j0, j3⟩ := hI9
        refine lv_iload hx hb dX4_day_50 (lv_at hl 5 rfl) ?_
        refine lv_aload_n hx hb dX4_day_52 rfl (lv_at hl 0 rfl) ?_
        refine wl_callVi hC (c_X4_many (P := P) (j0)) lk_RX4_52 rfl ⟨rfl, rfl, Nat.le_of_ble_eq_true rfl, Nat.le_of_ble_eq_true rfl⟩ hP hD hS hA 0 rfl (T1 := 21) rfl hl.1 rfl (Nat.le_of_ble_eq_true rfl) dX4_day_53 ⟨Nat.zero_le _, Nat.zero_le _⟩ (fun z12 hz12 H locs hP hD hS => ?_)
        have hz12 := hz12.symm
        subst hz12
        refine wl_icmp_ge_n hx hb (by first | omega | exact Nat.lt_of_le_of_lt Nat.and_le_right (by omega) | exact Nat.pow_lt_pow_right (by omega) (by omega) | exact Nat.lt_trans (by assumption) (Nat.pow_lt_pow_right (by omega) (by omega))) (by first | omega | exact Nat.lt_of_le_of_lt Nat.and_le_right (by omega) | exact Nat.pow_lt_pow_right (by omega) (by omega) | exact Nat.lt_trans (by assumption) (Nat.pow_lt_pow_right (by omega) (by omega))) (tgt := 82) dX4_day_56 (by decide) (fun c13 => ?_) (fun c13 => absurd (by omega) c13)
        refine lv_aload_n hx hb dX4_day_82 rfl (lv_at hl 0 rfl) ?_
        refine g_M_0_now hC hP mw_385 dX4_day_83 ?_
        refine lv_bipush (v := (nI 18)) hx hb dX4_day_86 (by decide +kernel) ?_
        refine lv_aload_n hx hb dX4_day_88 rfl (lv_at hl 0 rfl) ?_
        refine g_M_0_listed hC hP mw_432 dX4_day_89 ?_
        refine st_M_1 hC hP hD hS 18 z8.2.1 (by omega) dX4_day_92 (fun H locs hP hD hS => ?_)
        refine lv_aload_n hx hb dX4_day_93 rfl (lv_at hl 0 rfl) ?_
        refine g_M_0_now hC hP mw_385 dX4_day_94 ?_
        refine lv_bipush (v := (nI 19)) hx hb dX4_day_97 (by decide +kernel) ?_
        refine lv_aload_n hx hb dX4_day_99 rfl (lv_at hl 0 rfl) ?_
        refine g_M_0_following hC hP mw_433 dX4_day_100 ?_
        refine st_M_1 hC hP hD hS 19 z8.2.2.1 (by omega) dX4_day_103 (fun H locs hP hD hS => ?_)
        refine lv_aload_n hx hb dX4_day_104 rfl (lv_at hl 0 rfl) ?_
        refine g_M_0_now hC hP mw_385 dX4_day_105 ?_
        refine lv_bipush (v := (nI 20)) hx hb dX4_day_108 (by decide +kernel) ?_
        refine lv_dup2_11 hx hb dX4_day_110 rfl rfl ?_
        refine ld_M_1 hC hP 20 (by omega) dX4_day_111 ?_
        refine wl_re (((pk_un (by omega)).trans (pk_un (by omega)))) ?_
        refine lv_iload hx hb dX4_day_112 (lv_at hl 4 rfl) ?_
        refine wl_callPi hC (c_X4_bits (set := z8.1) ) lk_RX4_128 rfl ⟨rfl, rfl, Nat.le_of_ble_eq_true rfl, Nat.le_of_ble_eq_true rfl⟩ hP hS hA hl.1 rfl (Nat.le_of_ble_eq_true rfl) dX4_day_114 ⟨Nat.zero_le _, Nat.zero_le _⟩ (fun z14 hz14 H locs hP hS => ?_)
        have hb4 := wl_bz hb4 hz14
        refine lv_iadd hx hb dX4_day_117 ?_
        refine st_M_1 hC hP hD hS 20 ((z9 20) + z14) (by omega) dX4_day_118 (fun H locs hP hD hS => ?_)
        refine lv_aload_n hx hb dX4_day_119 rfl (lv_at hl 0 rfl) ?_
        refine g_M_0_now hC hP mw_385 dX4_day_120 ?_
        refine lv_bipush (v := (nI 21)) hx hb dX4_day_123 (by decide +kernel) ?_
        refine lv_dup2_11 hx hb dX4_day_125 rfl rfl ?_
        refine ld_M_1 hC hP 21 (by omega) dX4_day_126 ?_
        refine wl_re (((pk_un (by omega)).trans ((pk_un (by omega)).trans (pk_un (by omega))))) ?_
        refine lv_iconst (v := (nI 1)) hx hb dX4_day_127 (by decide +kernel) ?_
        refine lv_iadd hx hb dX4_day_128 ?_
        refine st_M_1 hC hP hD hS 21 ((z9 21) + (nI 1)) (by omega) dX4_day_129 (fun H locs hP hD hS => ?_)
        refine lv_iinc (v := (nI (k4 + 1))) (lv' := [(3, .int (nI (k4 + 1))), (0, .ref (a 0)), (1, .int (nI (cl n))), (2, .int (v4.2.2.2.2.2 ||| z8.1)), (4, .int z8.1), (5, .int (nI P))]) hx hb dX4_day_130 hl (k := 3) rfl (wl_inc k4 1) (by decide) rfl (fun ls hl => ?_)
        refine lv_goto (tgt := 23) hx hb dX4_day_133 (by decide) ?_
        exact IH4 _ hb4 ⟨(by show (upd (upd (upd (upd z9 18 z8.2.1) 19 z8.2.2.1) 20 ((z9 20) + z14)) 21 ((z9 21) + (nI 1))) 0 = nI P; exact ((pk_un (by omega)).trans ((pk_un (by omega)).trans ((pk_un (by omega)).trans ((pk_un (by omega)).trans j0))))), (by show (upd (upd (upd (upd z9 18 z8.2.1) 19 z8.2.2.1) 20 ((z9 20) + z14)) 21 ((z9 21) + (nI 1))) 3 = nI (cl ((upd (upd (upd (upd z9 18 z8.2.1) 19 z8.2.2.1) 20 ((z9 20) + z14)) 21 ((z9 21) + (nI 1))) 3)); exact (wl_selfcl ((pk_un (by omega)).trans ((pk_un (by omega)).trans ((pk_un (by omega)).trans ((pk_un (by omega)).trans j3)))) r3b (by decide)).1), (by show cl ((upd (upd (upd (upd z9 18 z8.2.1) 19 z8.2.2.1) 20 ((z9 20) + z14)) 21 ((z9 21) + (nI 1))) 3) ≤ 8; exact (wl_selfcl ((pk_un (by omega)).trans ((pk_un (by omega)).trans ((pk_un (by omega)).trans ((pk_un (by omega)).trans j3)))) r3b (by decide)).2)⟩ ls H locs hP hD hS (lv_sub hl [1, 2, 3, 0] rfl)
      · intro k9 v9 hlo9 hhi9 hI9 IH9 ls H locs hP hD hS hl
        obtain ⟨j0, j3⟩ := hI9
        have hb9 := m_X4_day_l50.eq_1 z8 k9 v9
        refine lv_iload hx hb dX4_day_50 (lv_at hl 5 rfl) ?_
        refine lv_aload_n hx hb dX4_day_52 rfl (lv_at hl 0 rfl) ?_
        refine wl_callVi hC (c_X4_many (P := P) (j0)) lk_RX4_52 rfl ⟨rfl, rfl, Nat.le_of_ble_eq_true rfl, Nat.le_of_ble_eq_true rfl⟩ hP hD hS hA 0 rfl (T1 := 21) rfl hl.1 rfl (Nat.le_of_ble_eq_true rfl) dX4_day_53 ⟨Nat.zero_le _, Nat.zero_le _⟩ (fun z10 hz10 H locs hP hD hS => ?_)
        have hz10 := hz10.symm
        subst hz10
        refine wl_icmp_ge_n hx hb (by first | omega | exact Nat.lt_of_le_of_lt Nat.and_le_right (by omega) | exact Nat.pow_lt_pow_right (by omega) (by omega) | exact Nat.lt_trans (by assumption) (Nat.pow_lt_pow_right (by omega) (by omega))) (by first | omega | exact Nat.lt_of_le_of_lt Nat.and_le_right (by omega) | exact Nat.pow_lt_pow_right (by omega) (by omega) | exact Nat.lt_trans (by assumption) (Nat.pow_lt_pow_right (by omega) (by omega))) (tgt := 82) dX4_day_56 (by decide) (fun c11 => absurd c11 (by omega)) (fun c11 => ?_)
        refine lv_aload_n hx hb dX4_day_59 rfl (lv_at hl 0 rfl) ?_
        refine g_M_0_now hC hP mw_385 dX4_day_60 ?_
        refine lv_bipush (v := (nI 11)) hx hb dX4_day_63 (by decide +kernel) ?_
        refine lv_iload hx hb dX4_day_65 (lv_at hl 5 rfl) ?_
        refine lv_iadd hx hb dX4_day_67 ?_
        refine wl_re (show nI 11 + nI k9 = nI (11 + k9) from nI_add 11 k9) ?_
        refine lv_aload_n hx hb dX4_day_68 rfl (lv_at hl 0 rfl) ?_
        refine g_M_0_tempers hC hP mw_390 dX4_day_69 ?_
        refine lv_iload hx hb dX4_day_72 (lv_at hl 5 rfl) ?_
        refine ld_M_5 hC hP k9 (by omega) dX4_day_74 ?_
        refine st_M_1 hC hP hD hS (11 + k9) (z8.2.2.2.2 k9) (by omega) dX4_day_75 (fun H locs hP hD hS => ?_)
        refine lv_iinc (v := (nI (k9 + 1))) (lv' := [(5, .int (nI (k9 + 1))), (0, .ref (a 0)), (1, .int (nI (cl n))), (2, .int (v4.2.2.2.2.2 ||| z8.1)), (3, .int (nI k4)), (4, .int z8.1)]) hx hb dX4_day_76 hl (k := 5) rfl (wl_inc k9 1) (by decide) rfl (fun ls hl => ?_)
        refine lv_goto (tgt := 50) hx hb dX4_day_79 (by decide) ?_
        exact IH9 _ hb9 ⟨(by show (upd v9 (11 + k9) (z8.2.2.2.2 k9)) 0 = nI P; exact ((pk_un (by omega)).trans j0)), (by show (upd v9 (11 + k9) (z8.2.2.2.2 k9)) 3 = nI (cl (z6 3)); exact ((pk_un (by omega)).trans j3))⟩ ls H locs hP hD hS (lv_sub hl [1, 2, 3, 4, 5, 0] rfl)
  · have hm := hm.trans (if_neg c2)
    refine lv_aload_n hx hb dX4_day_12 rfl (lv_at hl 0 rfl) ?_
    refine lv_bipush (v := (-2)) hx hb dX4_day_13 (by decide +kernel) ?_
    refine wl_callVi hC (c_X4_bad (tells := (-2)) ) lk_RX4_62 rfl ⟨rfl, rfl, Nat.le_of_ble_eq_true rfl, Nat.le_of_ble_eq_true rfl⟩ hP hD hS hA 0 rfl (T1 := 21) rfl hl.1 rfl (Nat.le_of_ble_eq_true rfl) dX4_day_15 ⟨Nat.zero_le _, Nat.zero_le _⟩ (fun z16 hz16 H locs hP hD hS => ?_)
    have hm := wl_bz hm hz16
    exact wl_iret hC hr hlk hm rfl hP hD hS dX4_day_18
def m_X4_undo_l26 (U : Nat) (k2 : Nat) (v2 : (Nat → Int32)) : (Nat → Int32) := (upd v2 (11 + k2) (v2 ((52 + (11 * (U - 1))) + k2)))
def m_X4_undo (mnow : (Nat → Int32)) (mrefused : (Nat → Int32)) (U : Nat) : Int32 × (Nat → Int32) × (Nat → Int32) := (if U = 0 then (wl_bnd (m_X4_no mrefused) (fun z5 => (z5.1, mnow, z5.2))) else (wl_bnd (wl_iter (m_X4_undo_l26 U) 11 0 (upd mnow 3 (nI (U - 1)))) (fun z2 => ((z2 21), z2, mrefused))))
set_option maxHeartbeats 4000000 in
set_option maxRecDepth 100000 in
theorem c_X4_undo {l : Launch} {D : va_G} {E : Nat → ClassId} {a : Nat → Nat} {mabove : Int64} {mbelow : Int64} {mlisted : Int32} {mfollowing : Int32} {mdayThen : Int32} {mbytesLong : Nat} {mtokenAt : Nat} {mtokenLong : Nat} {mtoken : Int32} {mvalue : Int32} {mnow : (Nat → Int32)} {mkept : (Nat → Int32)} {misKept : (Nat → Int32)} {mrefused : (Nat → Int32)} {mtempers : (Nat → Int32)} {mhis : (Nat → Int32)} {mtheirs : (Nat → Int32)} {mmanyBy : (Nat → Int32)} {mbytes : (Nat → Int32)} {manew : (Nat → Int32)} {mvalues : (Nat → Int32)} {U : Nat} (h3 : mnow 3 = nI U) (hU8 : U ≤ 8) : wl_Met (τ := Int32 × (Nat → Int32) × (Nat → Int32)) l D E yX4_undo cX4_undo 2 (some .int) ({ frames := 1, cells := 0, slots := 0, locals := 20 } : Room) [.ref (a 0)] (wM E a mabove mbelow mlisted mfollowing mdayThen mbytesLong mtokenAt mtokenLong mtoken mvalue mnow mkept misKept mrefused mtempers mhis mtheirs mmanyBy mbytes manew mvalues) (fun z => some (.int z.1)) (fun z => (wM E a mabove mbelow mlisted mfollowing mdayThen mbytesLong mtokenAt mtokenLong mtoken mvalue z.2.1 mkept misKept z.2.2 mtempers mhis mtheirs mmanyBy mbytes manew mvalues)) (m_X4_undo mnow mrefused U) := by
  refine wl_enter (own := RX4) (by decide +kernel) rfl (Nat.le_of_ble_eq_true rfl) ?_
  intro p0 e0 s0 m0 bl0 mt0 c0 A hC hr hlk hA H locs hP hD hS ls hl
  have hx := hC.1
  have hb := hC.2.1
  have hl : lv_has ls 2 [(0, .ref (a 0))] := hl
  have hm := m_X4_undo.eq_1 mnow mrefused U
  refine lv_aload_n hx hb dX4_undo_0 rfl (lv_at hl 0 rfl) ?_
  refine g_M_0_now hC hP mw_385 dX4_undo_1 ?_
  refine lv_iconst (v := (nI 3)) hx hb dX4_undo_4 (by decide +kernel) ?_
  refine ld_M_1 hC hP 3 (by omega) dX4_undo_5 ?_
  refine wl_re (h3) ?_
  refine wl_if_ne_n hx hb (by first | omega | exact Nat.lt_of_le_of_lt Nat.and_le_right (by omega) | exact Nat.pow_lt_pow_right (by omega) (by omega) | exact Nat.lt_trans (by assumption) (Nat.pow_lt_pow_right (by omega) (by omega))) (tgt := 14) dX4_undo_6 (by decide) (fun c1 => ?_) (fun c1 => ?_)
  · have hm := hm.trans (if_neg c1)
    refine lv_aload_n hx hb dX4_undo_14 rfl (lv_at hl 0 rfl) ?_
    refine g_M_0_now hC hP mw_385 dX4_undo_15 ?_
    refine lv_iconst (v := (nI 3)) hx hb dX4_undo_18 (by decide +kernel) ?_
    refine lv_dup2_11 hx hb dX4_undo_19 rfl rfl ?_
    refine ld_M_1 hC hP 3 (by omega) dX4_undo_20 ?_
    refine wl_re (h3) ?_
    refine lv_iconst (v := (nI 1)) hx hb dX4_undo_21 (by decide +kernel) ?_
    refine lv_isub hx hb dX4_undo_22 ?_
    refine wl_re (show nI U - nI 1 = nI (U - 1) from pk_sub (by omega)) ?_
    refine st_M_1 hC hP hD hS 3 (nI (U - 1)) (by omega) dX4_undo_23 (fun H locs hP hD hS => ?_)
    refine lv_iconst (v := (nI 0)) hx hb dX4_undo_24 (by decide +kernel) ?_
    refine lv_istore_n (lv' := [(1, .int (nI 0)), (0, .ref (a 0))]) hx hb dX4_undo_25 rfl hl (by decide) rfl (fun ls hl => ?_)
    obtain ⟨u2, hu2, hk2⟩ := wl_bx hm
    refine wl_for (D := D) (A := A) (H0 := s0.heap) (m_X4_undo_l26 U) 11 0 11 (upd mnow 3 (nI (U - 1))) 26 2 (fun k2 v2 => [(0, .ref (a 0)), (1, .int (nI k2))]) (fun k2 v2 => (wM E a mabove mbelow mlisted mfollowing mdayThen mbytesLong mtokenAt mtokenLong mtoken mvalue v2 mkept misKept mrefused mtempers mhis mtheirs mmanyBy mbytes manew mvalues)) (fun k2 v2 => (v2 3 = nI (U - 1))) (by omega) (by show (upd mnow 3 (nI (U - 1))) 3 = nI (U - 1); exact pk_us) ?_ ?_ hP hD hS (lv_sub hl [1, 0] rfl)
    · intro z2 hv2 hI2 ls H locs hP hD hS hl
      have hm := hk2 z2 (hu2.trans hv2)
      have i3 := hI2
      refine lv_iload_n hx hb dX4_undo_26 rfl (lv_at hl 1 rfl) ?_
      refine lv_bipush (v := (nI 11)) hx hb dX4_undo_27 (by decide +kernel) ?_
      refine wl_icmp_ge_n hx hb (by first | omega | exact Nat.lt_of_le_of_lt Nat.and_le_right (by omega) | exact Nat.pow_lt_pow_right (by omega) (by omega) | exact Nat.lt_trans (by assumption) (Nat.pow_lt_pow_right (by omega) (by omega))) (by first | omega | exact Nat.lt_of_le_of_lt Nat.and_le_right (by omega) | exact Nat.pow_lt_pow_right (by omega) (by omega) | exact Nat.lt_trans (by assumption) (Nat.pow_lt_pow_right (by omega) (by omega))) (tgt := 66) dX4_undo_29 (by decide) (fun c4 => ?_) (fun c4 => absurd (by omega) c4)
      refine lv_aload_n hx hb dX4_undo_66 rfl (lv_at hl 0 rfl) ?_
      refine g_M_0_now hC hP mw_385 dX4_undo_67 ?_
      refine lv_bipush (v := (nI 21)) hx hb dX4_undo_70 (by decide +kernel) ?_
      refine ld_M_1 hC hP 21 (by omega) dX4_undo_72 ?_
      exact wl_iret hC hr hlk hm rfl hP hD hS dX4_undo_73
    · intro k2 v2 hlo2 hhi2 hI2 IH2 ls H locs hP hD hS hl
      have i3 := hI2
      have hb2 := m_X4_undo_l26.eq_1 U k2 v2
      refine lv_iload_n hx hb dX4_undo_26 rfl (lv_at hl 1 rfl) ?_
      refine lv_bipush (v := (nI 11)) hx hb dX4_undo_27 (by decide +kernel) ?_
      refine wl_icmp_ge_n hx hb (by first | omega | exact Nat.lt_of_le_of_lt Nat.and_le_right (by omega) | exact Nat.pow_lt_pow_right (by omega) (by omega) | exact Nat.lt_trans (by assumption) (Nat.pow_lt_pow_right (by omega) (by omega))) (by first | omega | exact Nat.lt_of_le_of_lt Nat.and_le_right (by omega) | exact Nat.pow_lt_pow_right (by omega) (by omega) | exact Nat.lt_trans (by assumption) (Nat.pow_lt_pow_right (by omega) (by omega))) (tgt := 66) dX4_undo_29 (by decide) (fun c3 => absurd c3 (by omega)) (fun c3 => ?_)
      refine lv_aload_n hx hb dX4_undo_32 rfl (lv_at hl 0 rfl) ?_
      refine g_M_0_now hC hP mw_385 dX4_undo_33 ?_
      refine lv_bipush (v := (nI 11)) hx hb dX4_undo_36 (by decide +kernel) ?_
      refine lv_iload_n hx hb dX4_undo_38 rfl (lv_at hl 1 rfl) ?_
      refine lv_iadd hx hb dX4_undo_39 ?_
      refine wl_re (show nI 11 + nI k2 = nI (11 + k2) from nI_add 11 k2) ?_
      refine lv_aload_n hx hb dX4_undo_40 rfl (lv_at hl 0 rfl) ?_
      refine g_M_0_now hC hP mw_385 dX4_undo_41 ?_
      refine lv_bipush (v := (nI 52)) hx hb dX4_undo_44 (by decide +kernel) ?_
      refine lv_bipush (v := (nI 11)) hx hb dX4_undo_46 (by decide +kernel) ?_
      refine lv_aload_n hx hb dX4_undo_48 rfl (lv_at hl 0 rfl) ?_
      refine g_M_0_now hC hP mw_385 dX4_undo_49 ?_
      refine lv_iconst (v := (nI 3)) hx hb dX4_undo_52 (by decide +kernel) ?_
      refine ld_M_1 hC hP 3 (by omega) dX4_undo_53 ?_
      refine wl_re (i3) ?_
      refine lv_imul hx hb dX4_undo_54 ?_
      refine wl_re (show nI 11 * nI (U - 1) = nI (11 * (U - 1)) from pk_mul 11 (U - 1)) ?_
      refine lv_iadd hx hb dX4_undo_55 ?_
      refine wl_re (show nI 52 + nI (11 * (U - 1)) = nI (52 + (11 * (U - 1))) from nI_add 52 (11 * (U - 1))) ?_
      refine lv_iload_n hx hb dX4_undo_56 rfl (lv_at hl 1 rfl) ?_
      refine lv_iadd hx hb dX4_undo_57 ?_
      refine wl_re (show nI (52 + (11 * (U - 1))) + nI k2 = nI ((52 + (11 * (U - 1))) + k2) from nI_add (52 + (11 * (U - 1))) k2) ?_
      refine ld_M_1 hC hP ((52 + (11 * (U - 1))) + k2) (by omega) dX4_undo_58 ?_
      refine st_M_1 hC hP hD hS (11 + k2) (v2 ((52 + (11 * (U - 1))) + k2)) (by omega) dX4_undo_59 (fun H locs hP hD hS => ?_)
      refine lv_iinc (v := (nI (k2 + 1))) (lv' := [(1, .int (nI (k2 + 1))), (0, .ref (a 0))]) hx hb dX4_undo_60 hl (k := 1) rfl (wl_inc k2 1) (by decide) rfl (fun ls hl => ?_)
      refine lv_goto (tgt := 26) hx hb dX4_undo_63 (by decide) ?_
      exact IH2 _ hb2 (by show (upd v2 (11 + k2) (v2 ((52 + (11 * (U - 1))) + k2))) 3 = nI (U - 1); exact ((pk_un (by omega)).trans i3)) ls H locs hP hD hS (lv_sub hl [1, 0] rfl)
  · have hm := hm.trans (if_pos c1)
    refine lv_aload_n hx hb dX4_undo_9 rfl (lv_at hl 0 rfl) ?_
    refine wl_callVi hC (c_X4_no  ) lk_RX4_131 rfl ⟨rfl, rfl, Nat.le_of_ble_eq_true rfl, Nat.le_of_ble_eq_true rfl⟩ hP hD hS hA 0 rfl (T1 := 21) rfl hl.1 rfl (Nat.le_of_ble_eq_true rfl) dX4_undo_10 ⟨Nat.zero_le _, Nat.zero_le _⟩ (fun z5 hz5 H locs hP hD hS => ?_)
    have hm := wl_bz hm hz5
    exact wl_iret hC hr hlk hm rfl hP hD hS dX4_undo_13
