def m_X0_takesNumber_l24 (xbytes : (Nat → Int32)) (k3 : Nat) (v3 : Int32) : Int32 := (((nI 10) * v3) + ((xbytes k3) - (nI 48)))
def m_X0_takesNumber (xlength : Nat) (xbehind : Nat) (xnumber : Int32) (xbytes : (Nat → Int32)) (least : Int32) (most : Int32) : Bool × Nat × Nat × Int32 × Int32 := (wl_bnd (m_X0_takeToken xlength xbehind xbytes) (fun z1 => (if z1.2.2 = (nI 2) then (wl_bnd (wl_iter (m_X0_takesNumber_l24 xbytes) (z1.2.1 - z1.1) z1.1 (nI 0)) (fun z3 => (wl_bnd (m_X3_isWithin z3 least most) (fun z6 => (z6, z1.1, z1.2.1, z1.2.2, z3))))) else (false, z1.1, z1.2.1, z1.2.2, xnumber))))
set_option maxHeartbeats 4000000 in
set_option maxRecDepth 100000 in
theorem c_X0_takesNumber {l : Launch} {D : va_G} {E : Nat → ClassId} {a : Nat → Nat} {xlength : Nat} {xstart : Nat} {xbehind : Nat} {xsort : Int32} {xnumber : Int32} {xbytes : (Nat → Int32)} {least : Int32} {most : Int32} (hXL : xlength ≤ 150) (hXB : xbehind ≤ xlength) : wl_Met (τ := Bool × Nat × Nat × Int32 × Int32) l D E yX0_takesNumber cX0_takesNumber 4 (some .boolean) ({ frames := 2, cells := 0, slots := 0, locals := 40 } : Room) [.ref (a 0), .int least, .int most] (wTX E a xlength xstart xbehind xsort xnumber xbytes) (fun z => some (.int (wl_b z.1))) (fun z => (wTX E a xlength z.2.1 z.2.2.1 z.2.2.2.1 z.2.2.2.2 xbytes)) (m_X0_takesNumber xlength xbehind xnumber xbytes least most) := by
  refine wl_enter (own := RX0) (by decide +kernel) rfl (Nat.le_of_ble_eq_true rfl) ?_
  intro p0 e0 s0 m0 bl0 mt0 c0 A hC hr hlk hA H locs hP hD hS ls hl
  have hx := hC.1
  have hb := hC.2.1
  have hl : lv_has ls 4 [(0, .ref (a 0)), (1, .int least), (2, .int most)] := hl
  have hm := m_X0_takesNumber.eq_1 xlength xbehind xnumber xbytes least most
  refine lv_aload_n hx hb dX0_takesNumber_0 rfl (lv_at hl 0 rfl) ?_
  refine wl_callVv hC (c_X0_takeToken  (by first | assumption | omega) (by first | assumption | omega)) lk_RX0_28 rfl ⟨rfl, rfl, Nat.le_of_ble_eq_true rfl, Nat.le_of_ble_eq_true rfl⟩ hP hD hS hA 0 rfl (T1 := 6) rfl hl.1 rfl (Nat.le_of_ble_eq_true rfl) dX0_takesNumber_1 ⟨Nat.zero_le _, Nat.zero_le _⟩ (fun z1 hz1 H locs hP hD hS => ?_)
  have hm := wl_bz hm hz1
  obtain ⟨hAz1, hBz1, hCz1⟩ := takeToken_ok (by_ := xbytes) hXB hXL
  rw [← hz1] at hAz1 hBz1 hCz1
  refine lv_aload_n hx hb dX0_takesNumber_4 rfl (lv_at hl 0 rfl) ?_
  refine g_TX_0_sort hC hP mw_20 dX0_takesNumber_5 ?_
  refine lv_iconst (v := (nI 2)) hx hb dX0_takesNumber_8 (by decide +kernel) ?_
  refine lv_icmp_eq hx hb (tgt := 14) dX0_takesNumber_9 (by decide) (fun c2 => ?_) (fun c2 => ?_)
  · have hm := hm.trans (if_pos c2)
    refine lv_aload_n hx hb dX0_takesNumber_14 rfl (lv_at hl 0 rfl) ?_
    refine lv_iconst (v := (nI 0)) hx hb dX0_takesNumber_15 (by decide +kernel) ?_
    refine p_TX_0_number hC hP hD hS (nI 0) mw_76 dX0_takesNumber_16 (fun H locs hP hD hS => ?_)
    refine lv_aload_n hx hb dX0_takesNumber_19 rfl (lv_at hl 0 rfl) ?_
    refine g_TX_0_start hC hP mw_19 dX0_takesNumber_20 ?_
    refine lv_istore_n (lv' := [(3, .int (nI z1.1)), (0, .ref (a 0)), (1, .int least), (2, .int most)]) hx hb dX0_takesNumber_23 rfl hl (by decide) rfl (fun ls hl => ?_)
    obtain ⟨u3, hu3, hk3⟩ := wl_bx hm
    refine wl_for (D := D) (A := A) (H0 := s0.heap) (m_X0_takesNumber_l24 xbytes) (z1.2.1 - z1.1) z1.1 z1.2.1 (nI 0) 24 4 (fun k3 v3 => [(0, .ref (a 0)), (1, .int least), (2, .int most), (3, .int (nI k3))]) (fun k3 v3 => (wTX E a xlength z1.1 z1.2.1 z1.2.2 v3 xbytes)) (fun k3 v3 => True) (by omega) trivial ?_ ?_ hP hD hS (lv_sub hl [1, 2, 3, 0] rfl)
    · intro z3 hv3 hI3 ls H locs hP hD hS hl
      have hm := hk3 z3 (hu3.trans hv3)
      refine lv_iload_n hx hb dX0_takesNumber_24 rfl (lv_at hl 3 rfl) ?_
      refine lv_aload_n hx hb dX0_takesNumber_25 rfl (lv_at hl 0 rfl) ?_
      refine g_TX_0_behind hC hP mw_18 dX0_takesNumber_26 ?_
      refine wl_icmp_ge_n hx hb (by first | omega | exact Nat.lt_of_le_of_lt Nat.and_le_right (by omega) | exact Nat.pow_lt_pow_right (by omega) (by omega) | exact Nat.lt_trans (by assumption) (Nat.pow_lt_pow_right (by omega) (by omega))) (by first | omega | exact Nat.lt_of_le_of_lt Nat.and_le_right (by omega) | exact Nat.pow_lt_pow_right (by omega) (by omega) | exact Nat.lt_trans (by assumption) (Nat.pow_lt_pow_right (by omega) (by omega))) (tgt := 59) dX0_takesNumber_29 (by decide) (fun c5 => ?_) (fun c5 => absurd (by omega) c5)
      refine lv_aload_n hx hb dX0_takesNumber_59 rfl (lv_at hl 0 rfl) ?_
      refine g_TX_0_number hC hP mw_76 dX0_takesNumber_60 ?_
      refine lv_iload_n hx hb dX0_takesNumber_63 rfl (lv_at hl 1 rfl) ?_
      refine lv_iload_n hx hb dX0_takesNumber_64 rfl (lv_at hl 2 rfl) ?_
      refine wl_callNi hC (c_X3_isWithin (v := z3) (least := least) (most := most) ) lk_RX0_97 rfl ⟨rfl, rfl, Nat.le_of_ble_eq_true rfl, Nat.le_of_ble_eq_true rfl⟩ hP hS hA hl.1 rfl (Nat.le_of_ble_eq_true rfl) dX0_takesNumber_65 ⟨Nat.zero_le _, Nat.zero_le _⟩ (fun z6 hz6 H locs hP hS => ?_)
      have hm := wl_bz hm hz6
      exact wl_zret (v := z6) hC hr hlk hm rfl hP hD hS dX0_takesNumber_68
    · intro k3 v3 hlo3 hhi3 hI3 IH3 ls H locs hP hD hS hl
      have hb3 := m_X0_takesNumber_l24.eq_1 xbytes k3 v3
      refine lv_iload_n hx hb dX0_takesNumber_24 rfl (lv_at hl 3 rfl) ?_
      refine lv_aload_n hx hb dX0_takesNumber_25 rfl (lv_at hl 0 rfl) ?_
      refine g_TX_0_behind hC hP mw_18 dX0_takesNumber_26 ?_
      refine wl_icmp_ge_n hx hb (by first | omega | exact Nat.lt_of_le_of_lt Nat.and_le_right (by omega) | exact Nat.pow_lt_pow_right (by omega) (by omega) | exact Nat.lt_trans (by assumption) (Nat.pow_lt_pow_right (by omega) (by omega))) (by first | omega | exact Nat.lt_of_le_of_lt Nat.and_le_right (by omega) | exact Nat.pow_lt_pow_right (by omega) (by omega) | exact Nat.lt_trans (by assumption) (Nat.pow_lt_pow_right (by omega) (by omega))) (tgt := 59) dX0_takesNumber_29 (by decide) (fun c4 => absurd c4 (by omega)) (fun c4 => ?_)
      refine lv_aload_n hx hb dX0_takesNumber_32 rfl (lv_at hl 0 rfl) ?_
      refine lv_bipush (v := (nI 10)) hx hb dX0_takesNumber_33 (by decide +kernel) ?_
      refine lv_aload_n hx hb dX0_takesNumber_35 rfl (lv_at hl 0 rfl) ?_
      refine g_TX_0_number hC hP mw_76 dX0_takesNumber_36 ?_
      refine lv_imul hx hb dX0_takesNumber_39 ?_
      refine lv_aload_n hx hb dX0_takesNumber_40 rfl (lv_at hl 0 rfl) ?_
      refine g_TX_0_bytes hC hP mw_4 dX0_takesNumber_41 ?_
      refine lv_iload_n hx hb dX0_takesNumber_44 rfl (lv_at hl 3 rfl) ?_
      refine ld_TX_1 hC hP k3 (by omega) dX0_takesNumber_45 ?_
      refine lv_bipush (v := (nI 48)) hx hb dX0_takesNumber_46 (by decide +kernel) ?_
      refine lv_isub hx hb dX0_takesNumber_48 ?_
      refine lv_iadd hx hb dX0_takesNumber_49 ?_
      refine p_TX_0_number hC hP hD hS (((nI 10) * v3) + ((xbytes k3) - (nI 48))) mw_76 dX0_takesNumber_50 (fun H locs hP hD hS => ?_)
      refine lv_iinc (v := (nI (k3 + 1))) (lv' := [(3, .int (nI (k3 + 1))), (0, .ref (a 0)), (1, .int least), (2, .int most)]) hx hb dX0_takesNumber_53 hl (k := 3) rfl (wl_inc k3 1) (by decide) rfl (fun ls hl => ?_)
      refine lv_goto (tgt := 24) hx hb dX0_takesNumber_56 (by decide) ?_
      exact IH3 _ hb3 trivial ls H locs hP hD hS (lv_sub hl [1, 2, 3, 0] rfl)
  · have hm := hm.trans (if_neg c2)
    refine lv_iconst (v := (nI 0)) hx hb dX0_takesNumber_12 (by decide +kernel) ?_
    exact wl_zret (v := false) hC hr hlk hm rfl hP hD hS dX0_takesNumber_13
def m_X0_takesStop (xlength : Nat) (xbehind : Nat) (xbytes : (Nat → Int32)) : Bool × Nat × Nat × Int32 := (wl_bnd (m_X0_takeToken xlength xbehind xbytes) (fun z1 => (if z1.2.2 = (nI 3) then (true, z1.1, z1.2.1, z1.2.2) else (false, z1.1, z1.2.1, z1.2.2))))
set_option maxHeartbeats 4000000 in
set_option maxRecDepth 100000 in
theorem c_X0_takesStop {l : Launch} {D : va_G} {E : Nat → ClassId} {a : Nat → Nat} {xlength : Nat} {xstart : Nat} {xbehind : Nat} {xsort : Int32} {xnumber : Int32} {xbytes : (Nat → Int32)}  (hXL : xlength ≤ 150) (hXB : xbehind ≤ xlength) : wl_Met (τ := Bool × Nat × Nat × Int32) l D E yX0_takesStop cX0_takesStop 1 (some .boolean) ({ frames := 2, cells := 0, slots := 0, locals := 40 } : Room) [.ref (a 0)] (wTX E a xlength xstart xbehind xsort xnumber xbytes) (fun z => some (.int (wl_b z.1))) (fun z => (wTX E a xlength z.2.1 z.2.2.1 z.2.2.2 xnumber xbytes)) (m_X0_takesStop xlength xbehind xbytes) := by
  refine wl_enter (own := RX0) (by decide +kernel) rfl (Nat.le_of_ble_eq_true rfl) ?_
  intro p0 e0 s0 m0 bl0 mt0 c0 A hC hr hlk hA H locs hP hD hS ls hl
  have hx := hC.1
  have hb := hC.2.1
  have hl : lv_has ls 1 [(0, .ref (a 0))] := hl
  have hm := m_X0_takesStop.eq_1 xlength xbehind xbytes
  refine lv_aload_n hx hb dX0_takesStop_0 rfl (lv_at hl 0 rfl) ?_
  refine wl_callVv hC (c_X0_takeToken  (by first | assumption | omega) (by first | assumption | omega)) lk_RX0_28 rfl ⟨rfl, rfl, Nat.le_of_ble_eq_true rfl, Nat.le_of_ble_eq_true rfl⟩ hP hD hS hA 0 rfl (T1 := 6) rfl hl.1 rfl (Nat.le_of_ble_eq_true rfl) dX0_takesStop_1 ⟨Nat.zero_le _, Nat.zero_le _⟩ (fun z1 hz1 H locs hP hD hS => ?_)
  have hm := wl_bz hm hz1
  obtain ⟨hAz1, hBz1, hCz1⟩ := takeToken_ok (by_ := xbytes) hXB hXL
  rw [← hz1] at hAz1 hBz1 hCz1
  refine lv_aload_n hx hb dX0_takesStop_4 rfl (lv_at hl 0 rfl) ?_
  refine g_TX_0_sort hC hP mw_20 dX0_takesStop_5 ?_
  refine lv_iconst (v := (nI 3)) hx hb dX0_takesStop_8 (by decide +kernel) ?_
  refine lv_icmp_ne hx hb (tgt := 16) dX0_takesStop_9 (by decide) (fun c2 => ?_) (fun c2 => ?_)
  · have hm := hm.trans (if_neg c2)
    refine lv_iconst (v := (nI 0)) hx hb dX0_takesStop_16 (by decide +kernel) ?_
    exact wl_zret (v := false) hC hr hlk hm rfl hP hD hS dX0_takesStop_17
  · have hm := hm.trans (if_pos c2)
    refine lv_iconst (v := (nI 1)) hx hb dX0_takesStop_12 (by decide +kernel) ?_
    refine lv_goto (tgt := 17) hx hb dX0_takesStop_13 (by decide) ?_
    exact wl_zret (v := true) hC hr hlk hm rfl hP hD hS dX0_takesStop_17
theorem takesNumber_ok {L b0 : Nat} {n0 least most : Int32} {by_ : Nat → Int32} (h : b0 ≤ L) (hL : L ≤ 150) : b0 ≤ (m_X0_takesNumber L b0 n0 by_ least most).2.1 ∧ (m_X0_takesNumber L b0 n0 by_ least most).2.1 ≤ (m_X0_takesNumber L b0 n0 by_ least most).2.2.1 ∧ (m_X0_takesNumber L b0 n0 by_ least most).2.2.1 ≤ L := by
  obtain ⟨g1, g2, g3⟩ := takeToken_ok (by_ := by_) h hL
  unfold m_X0_takesNumber wl_bnd
  dsimp only
  repeat' split
  all_goals exact ⟨g1, g2, g3⟩
theorem takesNumber_in {L b0 : Nat} {n0 least most : Int32} {by_ : Nat → Int32} (h : (m_X0_takesNumber L b0 n0 by_ least most).1 = true) : m_X3_isWithin (m_X0_takesNumber L b0 n0 by_ least most).2.2.2.2 least most = true := by
  unfold m_X0_takesNumber wl_bnd at h ⊢
  by_cases h1 : (m_X0_takeToken L b0 by_).2.2 = nI 2
  · simp only [if_pos h1] at h ⊢
    exact h
  · simp only [if_neg h1] at h
    exact absurd h (by decide)
theorem takesStop_ok {L b0 : Nat} {by_ : Nat → Int32} (h : b0 ≤ L) (hL : L ≤ 150) : b0 ≤ (m_X0_takesStop L b0 by_).2.1 ∧ (m_X0_takesStop L b0 by_).2.1 ≤ (m_X0_takesStop L b0 by_).2.2.1 ∧ (m_X0_takesStop L b0 by_).2.2.1 ≤ L := by
  obtain ⟨g1, g2, g3⟩ := takeToken_ok (by_ := by_) h hL
  unfold m_X0_takesStop wl_bnd
  dsimp only
  repeat' split
  all_goals exact ⟨g1, g2, g3⟩
set_option maxHeartbeats 4000000 in
set_option maxRecDepth 100000 in
theorem c_X0_takesNumber__XT_0 {l : Launch} {D : va_G} {E : Nat → ClassId} {a : Nat → Nat} {xlength : Nat} {xstart : Nat} {xbehind : Nat} {xsort : Int32} {xnumber : Int32} {xbytes : (Nat → Int32)} {counts : Int32} {people : Nat} {day : Int32} {listed : Int32} {followed : Int32} {struck : Int32} {noted : Nat} {undoable : Nat} {kinds : (Nat → Int32)} {tempers : (Nat → Int32)} {notes : (Nat → Int32)} {past : (Nat → Int32)} {least : Int32} {most : Int32} (hXL : xlength ≤ 150) (hXB : xbehind ≤ xlength) : wl_Met (τ := Bool × Nat × Nat × Int32 × Int32) l D E yX0_takesNumber cX0_takesNumber 4 (some .boolean) ({ frames := 2, cells := 0, slots := 0, locals := 40 } : Room) [.ref (a 0), .int least, .int most] (wXT E a xlength xstart xbehind xsort xnumber xbytes counts people day listed followed struck noted undoable kinds tempers notes past) (fun z => some (.int (wl_b z.1))) (fun z => (wXT E a xlength z.2.1 z.2.2.1 z.2.2.2.1 z.2.2.2.2 xbytes counts people day listed followed struck noted undoable kinds tempers notes past)) (m_X0_takesNumber xlength xbehind xnumber xbytes least most) :=
  wl_lift (c_X0_takesNumber (a := (fun k => a ([0, 1].getD k 0))) (xlength := xlength) (xstart := xstart) (xbehind := xbehind) (xsort := xsort) (xnumber := xnumber) (xbytes := xbytes) (least := least) (most := most) hXL hXB) [0, 1] [2, 3, 4, 5, 6] [5, 6, 0, 1, 2, 3, 4] (wr := ([2, 3, 4, 5, 6].filterMap (fun i => (wXT E a xlength xstart xbehind xsort xnumber xbytes counts people day listed followed struck noted undoable kinds tempers notes past)[i]?))) rfl rfl (by decide) (by decide) (by decide) (by decide) (fun _ => rfl)
set_option maxHeartbeats 4000000 in
set_option maxRecDepth 100000 in
theorem c_X0_takesStop__XT_0 {l : Launch} {D : va_G} {E : Nat → ClassId} {a : Nat → Nat} {xlength : Nat} {xstart : Nat} {xbehind : Nat} {xsort : Int32} {xnumber : Int32} {xbytes : (Nat → Int32)} {counts : Int32} {people : Nat} {day : Int32} {listed : Int32} {followed : Int32} {struck : Int32} {noted : Nat} {undoable : Nat} {kinds : (Nat → Int32)} {tempers : (Nat → Int32)} {notes : (Nat → Int32)} {past : (Nat → Int32)}  (hXL : xlength ≤ 150) (hXB : xbehind ≤ xlength) : wl_Met (τ := Bool × Nat × Nat × Int32) l D E yX0_takesStop cX0_takesStop 1 (some .boolean) ({ frames := 2, cells := 0, slots := 0, locals := 40 } : Room) [.ref (a 0)] (wXT E a xlength xstart xbehind xsort xnumber xbytes counts people day listed followed struck noted undoable kinds tempers notes past) (fun z => some (.int (wl_b z.1))) (fun z => (wXT E a xlength z.2.1 z.2.2.1 z.2.2.2 xnumber xbytes counts people day listed followed struck noted undoable kinds tempers notes past)) (m_X0_takesStop xlength xbehind xbytes) :=
  wl_lift (c_X0_takesStop (a := (fun k => a ([0, 1].getD k 0))) (xlength := xlength) (xstart := xstart) (xbehind := xbehind) (xsort := xsort) (xnumber := xnumber) (xbytes := xbytes)  hXL hXB) [0, 1] [2, 3, 4, 5, 6] [5, 6, 0, 1, 2, 3, 4] (wr := ([2, 3, 4, 5, 6].filterMap (fun i => (wXT E a xlength xstart xbehind xsort xnumber xbytes counts people day listed followed struck noted undoable kinds tempers notes past)[i]?))) rfl rfl (by decide) (by decide) (by decide) (by decide) (fun _ => rfl)
def m_X0_takesTown (xlength : Nat) (xbehind : Nat) (xnumber : Int32) (xbytes : (Nat → Int32)) (counts : Int32) : Bool × Nat × Nat × Int32 × Int32 × Int32 := (wl_bnd (m_X0_takesNumber xlength xbehind xnumber xbytes (nI 1) (nI 5)) (fun z1 => (if z1.1 = true then (wl_bnd (m_X0_takesStop xlength z1.2.2.1 xbytes) (fun z3 => (z3.1, z3.2.1, z3.2.2.1, z3.2.2.2, z1.2.2.2.2, z1.2.2.2.2))) else (false, z1.2.1, z1.2.2.1, z1.2.2.2.1, z1.2.2.2.2, counts))))
set_option maxHeartbeats 4000000 in
set_option maxRecDepth 100000 in
theorem c_X0_takesTown {l : Launch} {D : va_G} {E : Nat → ClassId} {a : Nat → Nat} {xlength : Nat} {xstart : Nat} {xbehind : Nat} {xsort : Int32} {xnumber : Int32} {xbytes : (Nat → Int32)} {counts : Int32} {people : Nat} {day : Int32} {listed : Int32} {followed : Int32} {struck : Int32} {noted : Nat} {undoable : Nat} {kinds : (Nat → Int32)} {tempers : (Nat → Int32)} {notes : (Nat → Int32)} {past : (Nat → Int32)}  (hXL : xlength ≤ 150) (hXB : xbehind ≤ xlength) : wl_Met (τ := Bool × Nat × Nat × Int32 × Int32 × Int32) l D E yX0_takesTown cX0_takesTown 2 (some .boolean) ({ frames := 3, cells := 0, slots := 0, locals := 63 } : Room) [.ref (a 0), .ref (a 2)] (wXT E a xlength xstart xbehind xsort xnumber xbytes counts people day listed followed struck noted undoable kinds tempers notes past) (fun z => some (.int (wl_b z.1))) (fun z => (wXT E a xlength z.2.1 z.2.2.1 z.2.2.2.1 z.2.2.2.2.1 xbytes z.2.2.2.2.2 people day listed followed struck noted undoable kinds tempers notes past)) (m_X0_takesTown xlength xbehind xnumber xbytes counts) := by
  refine wl_enter (own := RX0) (by decide +kernel) rfl (Nat.le_of_ble_eq_true rfl) ?_
  intro p0 e0 s0 m0 bl0 mt0 c0 A hC hr hlk hA H locs hP hD hS ls hl
  have hx := hC.1
  have hb := hC.2.1
  have hl : lv_has ls 2 [(0, .ref (a 0)), (1, .ref (a 2))] := hl
  have hm := m_X0_takesTown.eq_1 xlength xbehind xnumber xbytes counts
  refine lv_aload_n hx hb dX0_takesTown_0 rfl (lv_at hl 0 rfl) ?_
  refine lv_iconst (v := (nI 1)) hx hb dX0_takesTown_1 (by decide +kernel) ?_
  refine lv_iconst (v := (nI 5)) hx hb dX0_takesTown_2 (by decide +kernel) ?_
  refine wl_callVi hC (c_X0_takesNumber__XT_0 (least := (nI 1)) (most := (nI 5)) (by first | assumption | omega) (by first | assumption | omega)) lk_RX0_66 rfl ⟨rfl, rfl, Nat.le_of_ble_eq_true rfl, Nat.le_of_ble_eq_true rfl⟩ hP hD hS hA 0 rfl (T1 := 6) rfl hl.1 rfl (Nat.le_of_ble_eq_true rfl) dX0_takesTown_3 ⟨Nat.zero_le _, Nat.zero_le _⟩ (fun z1 hz1 H locs hP hD hS => ?_)
  have hm := wl_bz hm hz1
  obtain ⟨hAz1, hBz1, hCz1⟩ := takesNumber_ok (by_ := xbytes) (n0 := xnumber) (least := _) (most := _) hXB hXL
  rw [← hz1] at hAz1 hBz1 hCz1
  refine wl_if_ne_b hx hb (tgt := 11) dX0_takesTown_6 (by decide) (fun c2 => ?_) (fun c2 => ?_)
  · have hm := hm.trans (if_pos c2)
    refine lv_aload_n hx hb dX0_takesTown_11 rfl (lv_at hl 1 rfl) ?_
    refine lv_aload_n hx hb dX0_takesTown_12 rfl (lv_at hl 0 rfl) ?_
    refine g_XT_0_number hC hP mw_76 dX0_takesTown_13 ?_
    refine p_XT_2_counts hC hP hD hS z1.2.2.2.2 mw_84 dX0_takesTown_16 (fun H locs hP hD hS => ?_)
    refine lv_aload_n hx hb dX0_takesTown_19 rfl (lv_at hl 0 rfl) ?_
    refine wl_callVi hC (c_X0_takesStop__XT_0  (by first | assumption | omega) (by first | assumption | omega)) lk_RX0_76 rfl ⟨rfl, rfl, Nat.le_of_ble_eq_true rfl, Nat.le_of_ble_eq_true rfl⟩ hP hD hS hA 0 rfl (T1 := 6) rfl hl.1 rfl (Nat.le_of_ble_eq_true rfl) dX0_takesTown_20 ⟨Nat.zero_le _, Nat.zero_le _⟩ (fun z3 hz3 H locs hP hD hS => ?_)
    have hm := wl_bz hm hz3
    exact wl_zret (v := z3.1) hC hr hlk hm rfl hP hD hS dX0_takesTown_23
  · have hm := hm.trans (if_neg c2)
    refine lv_iconst (v := (nI 0)) hx hb dX0_takesTown_9 (by decide +kernel) ?_
    exact wl_zret (v := false) hC hr hlk hm rfl hP hD hS dX0_takesTown_10
set_option maxHeartbeats 4000000 in
set_option maxRecDepth 100000 in
theorem c_X1_addOne__XT_2 {l : Launch} {D : va_G} {E : Nat → ClassId} {a : Nat → Nat} {xlength : Nat} {xstart : Nat} {xbehind : Nat} {xsort : Int32} {xnumber : Int32} {xbytes : (Nat → Int32)} {counts : Int32} {people : Nat} {day : Int32} {listed : Int32} {followed : Int32} {struck : Int32} {noted : Nat} {undoable : Nat} {kinds : (Nat → Int32)} {tempers : (Nat → Int32)} {notes : (Nat → Int32)} {past : (Nat → Int32)} {kind : Int32} {temper : Int32} (hP7 : people ≤ 7) : wl_Met (τ := Int32 × Nat × Nat × (Nat → Int32) × (Nat → Int32)) l D E yX1_addOne cX1_addOne 3 (some .int) ({ frames := 0, cells := 0, slots := 0, locals := 0 } : Room) [.ref (a 2), .int kind, .int temper] (wXT E a xlength xstart xbehind xsort xnumber xbytes counts people day listed followed struck noted undoable kinds tempers notes past) (fun z => some (.int z.1)) (fun z => (wXT E a xlength xstart xbehind xsort xnumber xbytes counts z.2.1 day listed followed struck noted z.2.2.1 z.2.2.2.1 z.2.2.2.2 notes past)) (m_X1_addOne people undoable kinds tempers kind temper) :=
  wl_lift (c_X1_addOne (a := (fun k => a ([2, 3, 4, 5, 6].getD k 0))) (counts := counts) (people := people) (day := day) (listed := listed) (followed := followed) (struck := struck) (noted := noted) (undoable := undoable) (kinds := kinds) (tempers := tempers) (notes := notes) (past := past) (kind := kind) (temper := temper) hP7) [2, 3, 4, 5, 6] [0, 1] [0, 1, 2, 3, 4, 5, 6] (wr := ([0, 1].filterMap (fun i => (wXT E a xlength xstart xbehind xsort xnumber xbytes counts people day listed followed struck noted undoable kinds tempers notes past)[i]?))) rfl rfl (by decide) (by decide) (by decide) (by decide) (fun _ => rfl)
def m_X0_takesOne (xlength : Nat) (xstart : Nat) (xbehind : Nat) (xsort : Int32) (xnumber : Int32) (xbytes : (Nat → Int32)) (people : Nat) (undoable : Nat) (kinds : (Nat → Int32)) (tempers : (Nat → Int32)) : Bool × Nat × Nat × Int32 × Int32 × Nat × Nat × (Nat → Int32) × (Nat → Int32) := (if 7 ≤ people then (false, xstart, xbehind, xsort, xnumber, people, undoable, kinds, tempers) else (wl_bnd (m_X0_takesNumber xlength xbehind xnumber xbytes (nI 0) (nI 5)) (fun z2 => (if z2.1 = true then (wl_bnd (m_X0_takesNumber xlength z2.2.2.1 z2.2.2.2.2 xbytes (nI 0) (nI 30)) (fun z4 => (if z4.1 = true then (wl_bnd (m_X1_addOne people undoable kinds tempers z2.2.2.2.2 z4.2.2.2.2) (fun z6 => (wl_bnd (m_X0_takesStop xlength z4.2.2.1 xbytes) (fun z7 => (z7.1, z7.2.1, z7.2.2.1, z7.2.2.2, z4.2.2.2.2, z6.2.1, z6.2.2.1, z6.2.2.2.1, z6.2.2.2.2))))) else (false, z4.2.1, z4.2.2.1, z4.2.2.2.1, z4.2.2.2.2, people, undoable, kinds, tempers)))) else (false, z2.2.1, z2.2.2.1, z2.2.2.2.1, z2.2.2.2.2, people, undoable, kinds, tempers)))))
set_option maxHeartbeats 4000000 in
set_option maxRecDepth 100000 in
theorem c_X0_takesOne {l : Launch} {D : va_G} {E : Nat → ClassId} {a : Nat → Nat} {xlength : Nat} {xstart : Nat} {xbehind : Nat} {xsort : Int32} {xnumber : Int32} {xbytes : (Nat → Int32)} {counts : Int32} {people : Nat} {day : Int32} {listed : Int32} {followed : Int32} {struck : Int32} {noted : Nat} {undoable : Nat} {kinds : (Nat → Int32)} {tempers : (Nat → Int32)} {notes : (Nat → Int32)} {past : (Nat → Int32)}  (hXL : xlength ≤ 150) (hXB : xbehind ≤ xlength) (hP7 : people ≤ 7) : wl_Met (τ := Bool × Nat × Nat × Int32 × Int32 × Nat × Nat × (Nat → Int32) × (Nat → Int32)) l D E yX0_takesOne cX0_takesOne 3 (some .boolean) ({ frames := 3, cells := 0, slots := 0, locals := 63 } : Room) [.ref (a 0), .ref (a 2)] (wXT E a xlength xstart xbehind xsort xnumber xbytes counts people day listed followed struck noted undoable kinds tempers notes past) (fun z => some (.int (wl_b z.1))) (fun z => (wXT E a xlength z.2.1 z.2.2.1 z.2.2.2.1 z.2.2.2.2.1 xbytes counts z.2.2.2.2.2.1 day listed followed struck noted z.2.2.2.2.2.2.1 z.2.2.2.2.2.2.2.1 z.2.2.2.2.2.2.2.2 notes past)) (m_X0_takesOne xlength xstart xbehind xsort xnumber xbytes people undoable kinds tempers) := by
  refine wl_enter (own := RX0) (by decide +kernel) rfl (Nat.le_of_ble_eq_true rfl) ?_
  intro p0 e0 s0 m0 bl0 mt0 c0 A hC hr hlk hA H locs hP hD hS ls hl
  have hx := hC.1
  have hb := hC.2.1
  have hl : lv_has ls 3 [(0, .ref (a 0)), (1, .ref (a 2))] := hl
  have hm := m_X0_takesOne.eq_1 xlength xstart xbehind xsort xnumber xbytes people undoable kinds tempers
  refine lv_aload_n hx hb dX0_takesOne_0 rfl (lv_at hl 1 rfl) ?_
  refine g_XT_2_people hC hP mw_95 dX0_takesOne_1 ?_
  refine lv_bipush (v := (nI 7)) hx hb dX0_takesOne_4 (by decide +kernel) ?_
  refine wl_icmp_ge_n hx hb (by first | omega | exact Nat.lt_of_le_of_lt Nat.and_le_right (by omega) | exact Nat.pow_lt_pow_right (by omega) (by omega) | exact Nat.lt_trans (by assumption) (Nat.pow_lt_pow_right (by omega) (by omega))) (by first | omega | exact Nat.lt_of_le_of_lt Nat.and_le_right (by omega) | exact Nat.pow_lt_pow_right (by omega) (by omega) | exact Nat.lt_trans (by assumption) (Nat.pow_lt_pow_right (by omega) (by omega))) (tgt := 18) dX0_takesOne_6 (by decide) (fun c1 => ?_) (fun c1 => ?_)
  · have hm := hm.trans (if_pos c1)
    refine lv_iconst (v := (nI 0)) hx hb dX0_takesOne_18 (by decide +kernel) ?_
    exact wl_zret (v := false) hC hr hlk hm rfl hP hD hS dX0_takesOne_19
  · have hm := hm.trans (if_neg c1)
    refine lv_aload_n hx hb dX0_takesOne_9 rfl (lv_at hl 0 rfl) ?_
    refine lv_iconst (v := (nI 0)) hx hb dX0_takesOne_10 (by decide +kernel) ?_
    refine lv_iconst (v := (nI 5)) hx hb dX0_takesOne_11 (by decide +kernel) ?_
    refine wl_callVi hC (c_X0_takesNumber__XT_0 (least := (nI 0)) (most := (nI 5)) (by first | assumption | omega) (by first | assumption | omega)) lk_RX0_66 rfl ⟨rfl, rfl, Nat.le_of_ble_eq_true rfl, Nat.le_of_ble_eq_true rfl⟩ hP hD hS hA 0 rfl (T1 := 6) rfl hl.1 rfl (Nat.le_of_ble_eq_true rfl) dX0_takesOne_12 ⟨Nat.zero_le _, Nat.zero_le _⟩ (fun z2 hz2 H locs hP hD hS => ?_)
    have hm := wl_bz hm hz2
    have hCz2 : z2.2.2.1 ≤ xlength := by rw [hz2]; exact (takesNumber_ok (by assumption) hXL).2.2
    refine wl_if_ne_b hx hb (tgt := 20) dX0_takesOne_15 (by decide) (fun c3 => ?_) (fun c3 => ?_)
    · have hm := hm.trans (if_pos c3)
      refine lv_aload_n hx hb dX0_takesOne_20 rfl (lv_at hl 0 rfl) ?_
      refine g_XT_0_number hC hP mw_76 dX0_takesOne_21 ?_
      refine lv_istore_n (lv' := [(2, .int z2.2.2.2.2), (0, .ref (a 0)), (1, .ref (a 2))]) hx hb dX0_takesOne_24 rfl hl (by decide) rfl (fun ls hl => ?_)
      refine lv_aload_n hx hb dX0_takesOne_25 rfl (lv_at hl 1 rfl) ?_
      refine lv_iconst (v := (nI 0)) hx hb dX0_takesOne_26 (by decide +kernel) ?_
      refine lv_bipush (v := (nI 30)) hx hb dX0_takesOne_27 (by decide +kernel) ?_
      refine wl_callVi hC (c_X0_takesNumber__XT_0 (least := (nI 0)) (most := (nI 30)) (by first | assumption | omega) (by first | assumption | omega)) lk_RX0_66 rfl ⟨rfl, rfl, Nat.le_of_ble_eq_true rfl, Nat.le_of_ble_eq_true rfl⟩ hP hD hS hA 0 rfl (T1 := 6) rfl hl.1 rfl (Nat.le_of_ble_eq_true rfl) dX0_takesOne_29 ⟨Nat.zero_le _, Nat.zero_le _⟩ (fun z4 hz4 H locs hP hD hS => ?_)
      have hm := wl_bz hm hz4
      have hCz4 : z4.2.2.1 ≤ xlength := by rw [hz4]; exact (takesNumber_ok (by assumption) hXL).2.2
      refine wl_if_ne_b hx hb (tgt := 37) dX0_takesOne_32 (by decide) (fun c5 => ?_) (fun c5 => ?_)
      · have hm := hm.trans (if_pos c5)
        refine lv_aload_n hx hb dX0_takesOne_37 rfl (lv_at hl 2 rfl) ?_
        refine lv_iload_n hx hb dX0_takesOne_38 rfl (lv_at hl 0 rfl) ?_
        refine lv_aload_n hx hb dX0_takesOne_39 rfl (lv_at hl 1 rfl) ?_
        refine g_XT_0_number hC hP mw_76 dX0_takesOne_40 ?_
        refine wl_callVi hC (c_X1_addOne__XT_2 (kind := z2.2.2.2.2) (temper := z4.2.2.2.2) (by first | assumption | omega)) lk_RX0_83 rfl ⟨rfl, rfl, Nat.le_of_ble_eq_true rfl, Nat.le_of_ble_eq_true rfl⟩ hP hD hS hA 2 rfl (T1 := 12) rfl hl.1 rfl (Nat.le_of_ble_eq_true rfl) dX0_takesOne_43 ⟨Nat.zero_le _, Nat.zero_le _⟩ (fun z6 hz6 H locs hP hD hS => ?_)
        have hm := wl_bz hm hz6
        refine lv_pop hx hb dX0_takesOne_46 rfl ?_
        refine lv_aload_n hx hb dX0_takesOne_47 rfl (lv_at hl 1 rfl) ?_
        refine wl_callVi hC (c_X0_takesStop__XT_0  (by first | assumption | omega) (by first | assumption | omega)) lk_RX0_76 rfl ⟨rfl, rfl, Nat.le_of_ble_eq_true rfl, Nat.le_of_ble_eq_true rfl⟩ hP hD hS hA 0 rfl (T1 := 6) rfl hl.1 rfl (Nat.le_of_ble_eq_true rfl) dX0_takesOne_48 ⟨Nat.zero_le _, Nat.zero_le _⟩ (fun z7 hz7 H locs hP hD hS => ?_)
        have hm := wl_bz hm hz7
        exact wl_zret (v := z7.1) hC hr hlk hm rfl hP hD hS dX0_takesOne_51
      · have hm := hm.trans (if_neg c5)
        refine lv_iconst (v := (nI 0)) hx hb dX0_takesOne_35 (by decide +kernel) ?_
        exact wl_zret (v := false) hC hr hlk hm rfl hP hD hS dX0_takesOne_36
    · have hm := hm.trans (if_neg c3)
      refine lv_iconst (v := (nI 0)) hx hb dX0_takesOne_18 (by decide +kernel) ?_
      exact wl_zret (v := false) hC hr hlk hm rfl hP hD hS dX0_takesOne_19
def m_X0_takesListed (xlength : Nat) (xbehind : Nat) (xnumber : Int32) (xbytes : (Nat → Int32)) (people : Nat) (listed : Int32) : Bool × Nat × Nat × Int32 × Int32 × Int32 := (wl_bnd (m_X0_takesNumber xlength xbehind xnumber xbytes (nI 0) ((nI people) - (nI 1))) (fun z1 => (if z1.1 = true then (wl_bnd (m_X3_withBit listed (cl z1.2.2.2.2) (nI 1)) (fun z3 => (wl_bnd (m_X0_takesStop xlength z1.2.2.1 xbytes) (fun z4 => (z4.1, z4.2.1, z4.2.2.1, z4.2.2.2, z1.2.2.2.2, z3))))) else (false, z1.2.1, z1.2.2.1, z1.2.2.2.1, z1.2.2.2.2, listed))))
set_option maxHeartbeats 4000000 in
set_option maxRecDepth 100000 in
theorem c_X0_takesListed {l : Launch} {D : va_G} {E : Nat → ClassId} {a : Nat → Nat} {xlength : Nat} {xstart : Nat} {xbehind : Nat} {xsort : Int32} {xnumber : Int32} {xbytes : (Nat → Int32)} {counts : Int32} {people : Nat} {day : Int32} {listed : Int32} {followed : Int32} {struck : Int32} {noted : Nat} {undoable : Nat} {kinds : (Nat → Int32)} {tempers : (Nat → Int32)} {notes : (Nat → Int32)} {past : (Nat → Int32)}  (hXL : xlength ≤ 150) (hXB : xbehind ≤ xlength) (hP7 : people ≤ 7) : wl_Met (τ := Bool × Nat × Nat × Int32 × Int32 × Int32) l D E yX0_takesListed cX0_takesListed 2 (some .boolean) ({ frames := 3, cells := 0, slots := 0, locals := 63 } : Room) [.ref (a 0), .ref (a 2)] (wXT E a xlength xstart xbehind xsort xnumber xbytes counts people day listed followed struck noted undoable kinds tempers notes past) (fun z => some (.int (wl_b z.1))) (fun z => (wXT E a xlength z.2.1 z.2.2.1 z.2.2.2.1 z.2.2.2.2.1 xbytes counts people day z.2.2.2.2.2 followed struck noted undoable kinds tempers notes past)) (m_X0_takesListed xlength xbehind xnumber xbytes people listed) := by
  refine wl_enter (own := RX0) (by decide +kernel) rfl (Nat.le_of_ble_eq_true rfl) ?_
  intro p0 e0 s0 m0 bl0 mt0 c0 A hC hr hlk hA H locs hP hD hS ls hl
  have hx := hC.1
  have hb := hC.2.1
  have hl : lv_has ls 2 [(0, .ref (a 0)), (1, .ref (a 2))] := hl
  have hm := m_X0_takesListed.eq_1 xlength xbehind xnumber xbytes people listed
  refine lv_aload_n hx hb dX0_takesListed_0 rfl (lv_at hl 0 rfl) ?_
  refine lv_iconst (v := (nI 0)) hx hb dX0_takesListed_1 (by decide +kernel) ?_
  refine lv_aload_n hx hb dX0_takesListed_2 rfl (lv_at hl 1 rfl) ?_
  refine g_XT_2_people hC hP mw_95 dX0_takesListed_3 ?_
  refine lv_iconst (v := (nI 1)) hx hb dX0_takesListed_6 (by decide +kernel) ?_
  refine lv_isub hx hb dX0_takesListed_7 ?_
  refine wl_callVi hC (c_X0_takesNumber__XT_0 (least := (nI 0)) (most := ((nI people) - (nI 1))) (by first | assumption | omega) (by first | assumption | omega)) lk_RX0_66 rfl ⟨rfl, rfl, Nat.le_of_ble_eq_true rfl, Nat.le_of_ble_eq_true rfl⟩ hP hD hS hA 0 rfl (T1 := 6) rfl hl.1 rfl (Nat.le_of_ble_eq_true rfl) dX0_takesListed_8 ⟨Nat.zero_le _, Nat.zero_le _⟩ (fun z1 hz1 H locs hP hD hS => ?_)
  have hm := wl_bz hm hz1
  have hCz1 : z1.2.2.1 ≤ xlength := by rw [hz1]; exact (takesNumber_ok (by assumption) hXL).2.2
  have hNz1 : z1.1 = true → z1.2.2.2.2 = nI (cl z1.2.2.2.2) ∧ cl z1.2.2.2.2 < people := by
    intro q
    rw [hz1] at q ⊢
    exact isThere_spec hP7 (takesNumber_in q)
  refine wl_if_ne_b hx hb (tgt := 16) dX0_takesListed_11 (by decide) (fun c2 => ?_) (fun c2 => ?_)
  · have hm := hm.trans (if_pos c2)
    refine lv_aload_n hx hb dX0_takesListed_16 rfl (lv_at hl 1 rfl) ?_
    refine lv_aload_n hx hb dX0_takesListed_17 rfl (lv_at hl 1 rfl) ?_
    refine g_XT_2_listed hC hP mw_102 dX0_takesListed_18 ?_
    refine lv_aload_n hx hb dX0_takesListed_21 rfl (lv_at hl 0 rfl) ?_
    refine g_XT_0_number hC hP mw_76 dX0_takesListed_22 ?_
    refine wl_re ((hNz1 (by assumption)).1) ?_
    refine lv_iconst (v := (nI 1)) hx hb dX0_takesListed_25 (by decide +kernel) ?_
    refine wl_callNi hC (c_X3_withBit (bits := listed) (i := (cl z1.2.2.2.2)) (is := (nI 1)) ) lk_RX0_90 rfl ⟨rfl, rfl, Nat.le_of_ble_eq_true rfl, Nat.le_of_ble_eq_true rfl⟩ hP hS hA hl.1 rfl (Nat.le_of_ble_eq_true rfl) dX0_takesListed_26 ⟨Nat.zero_le _, Nat.zero_le _⟩ (fun z3 hz3 H locs hP hS => ?_)
    have hm := wl_bz hm hz3
    refine p_XT_2_listed hC hP hD hS z3 mw_102 dX0_takesListed_29 (fun H locs hP hD hS => ?_)
    refine lv_aload_n hx hb dX0_takesListed_32 rfl (lv_at hl 0 rfl) ?_
    refine wl_callVi hC (c_X0_takesStop__XT_0  (by first | assumption | omega) (by first | assumption | omega)) lk_RX0_76 rfl ⟨rfl, rfl, Nat.le_of_ble_eq_true rfl, Nat.le_of_ble_eq_true rfl⟩ hP hD hS hA 0 rfl (T1 := 6) rfl hl.1 rfl (Nat.le_of_ble_eq_true rfl) dX0_takesListed_33 ⟨Nat.zero_le _, Nat.zero_le _⟩ (fun z4 hz4 H locs hP hD hS => ?_)
    have hm := wl_bz hm hz4
    exact wl_zret (v := z4.1) hC hr hlk hm rfl hP hD hS dX0_takesListed_36
  · have hm := hm.trans (if_neg c2)
    refine lv_iconst (v := (nI 0)) hx hb dX0_takesListed_14 (by decide +kernel) ?_
    exact wl_zret (v := false) hC hr hlk hm rfl hP hD hS dX0_takesListed_15
def m_X0_takesFollowed (xlength : Nat) (xbehind : Nat) (xnumber : Int32) (xbytes : (Nat → Int32)) (people : Nat) (followed : Int32) : Bool × Nat × Nat × Int32 × Int32 × Int32 := (wl_bnd (m_X0_takesNumber xlength xbehind xnumber xbytes (nI 0) ((nI people) - (nI 1))) (fun z1 => (if z1.1 = true then (wl_bnd (m_X3_withBit followed (cl z1.2.2.2.2) (nI 1)) (fun z3 => (wl_bnd (m_X0_takesStop xlength z1.2.2.1 xbytes) (fun z4 => (z4.1, z4.2.1, z4.2.2.1, z4.2.2.2, z1.2.2.2.2, z3))))) else (false, z1.2.1, z1.2.2.1, z1.2.2.2.1, z1.2.2.2.2, followed))))
set_option maxHeartbeats 4000000 in
set_option maxRecDepth 100000 in
theorem c_X0_takesFollowed {l : Launch} {D : va_G} {E : Nat → ClassId} {a : Nat → Nat} {xlength : Nat} {xstart : Nat} {xbehind : Nat} {xsort : Int32} {xnumber : Int32} {xbytes : (Nat → Int32)} {counts : Int32} {people : Nat} {day : Int32} {listed : Int32} {followed : Int32} {struck : Int32} {noted : Nat} {undoable : Nat} {kinds : (Nat → Int32)} {tempers : (Nat → Int32)} {notes : (Nat → Int32)} {past : (Nat → Int32)}  (hXL : xlength ≤ 150) (hXB : xbehind ≤ xlength) (hP7 : people ≤ 7) : wl_Met (τ := Bool × Nat × Nat × Int32 × Int32 × Int32) l D E yX0_takesFollowed cX0_takesFollowed 2 (some .boolean) ({ frames := 3, cells := 0, slots := 0, locals := 63 } : Room) [.ref (a 0), .ref (a 2)] (wXT E a xlength xstart xbehind xsort xnumber xbytes counts people day listed followed struck noted undoable kinds tempers notes past) (fun z => some (.int (wl_b z.1))) (fun z => (wXT E a xlength z.2.1 z.2.2.1 z.2.2.2.1 z.2.2.2.2.1 xbytes counts people day listed z.2.2.2.2.2 struck noted undoable kinds tempers notes past)) (m_X0_takesFollowed xlength xbehind xnumber xbytes people followed) := by
  refine wl_enter (own := RX0) (by decide +kernel) rfl (Nat.le_of_ble_eq_true rfl) ?_
  intro p0 e0 s0 m0 bl0 mt0 c0 A hC hr hlk hA H locs hP hD hS ls hl
  have hx := hC.1
  have hb := hC.2.1
  have hl : lv_has ls 2 [(0, .ref (a 0)), (1, .ref (a 2))] := hl
  have hm := m_X0_takesFollowed.eq_1 xlength xbehind xnumber xbytes people followed
  refine lv_aload_n hx hb dX0_takesFollowed_0 rfl (lv_at hl 0 rfl) ?_
  refine lv_iconst (v := (nI 0)) hx hb dX0_takesFollowed_1 (by decide +kernel) ?_
  refine lv_aload_n hx hb dX0_takesFollowed_2 rfl (lv_at hl 1 rfl) ?_
  refine g_XT_2_people hC hP mw_95 dX0_takesFollowed_3 ?_
  refine lv_iconst (v := (nI 1)) hx hb dX0_takesFollowed_6 (by decide +kernel) ?_
  refine lv_isub hx hb dX0_takesFollowed_7 ?_
  refine wl_callVi hC (c_X0_takesNumber__XT_0 (least := (nI 0)) (most := ((nI people) - (nI 1))) (by first | assumption | omega) (by first | assumption | omega)) lk_RX0_66 rfl ⟨rfl, rfl, Nat.le_of_ble_eq_true rfl, Nat.le_of_ble_eq_true rfl⟩ hP hD hS hA 0 rfl (T1 := 6) rfl hl.1 rfl (Nat.le_of_ble_eq_true rfl) dX0_takesFollowed_8 ⟨Nat.zero_le _, Nat.zero_le _⟩ (fun z1 hz1 H locs hP hD hS => ?_)
  have hm := wl_bz hm hz1
  have hCz1 : z1.2.2.1 ≤ xlength := by rw [hz1]; exact (takesNumber_ok (by assumption) hXL).2.2
  have hNz1 : z1.1 = true → z1.2.2.2.2 = nI (cl z1.2.2.2.2) ∧ cl z1.2.2.2.2 < people := by
    intro q
    rw [hz1] at q ⊢
    exact isThere_spec hP7 (takesNumber_in q)
  refine wl_if_ne_b hx hb (tgt := 16) dX0_takesFollowed_11 (by decide) (fun c2 => ?_) (fun c2 => ?_)
  · have hm := hm.trans (if_pos c2)
    refine lv_aload_n hx hb dX0_takesFollowed_16 rfl (lv_at hl 1 rfl) ?_
    refine lv_aload_n hx hb dX0_takesFollowed_17 rfl (lv_at hl 1 rfl) ?_
    refine g_XT_2_followed hC hP mw_105 dX0_takesFollowed_18 ?_
    refine lv_aload_n hx hb dX0_takesFollowed_21 rfl (lv_at hl 0 rfl) ?_
    refine g_XT_0_number hC hP mw_76 dX0_takesFollowed_22 ?_
    refine wl_re ((hNz1 (by assumption)).1) ?_
    refine lv_iconst (v := (nI 1)) hx hb dX0_takesFollowed_25 (by decide +kernel) ?_
    refine wl_callNi hC (c_X3_withBit (bits := followed) (i := (cl z1.2.2.2.2)) (is := (nI 1)) ) lk_RX0_90 rfl ⟨rfl, rfl, Nat.le_of_ble_eq_true rfl, Nat.le_of_ble_eq_true rfl⟩ hP hS hA hl.1 rfl (Nat.le_of_ble_eq_true rfl) dX0_takesFollowed_26 ⟨Nat.zero_le _, Nat.zero_le _⟩ (fun z3 hz3 H locs hP hS => ?_)
    have hm := wl_bz hm hz3
    refine p_XT_2_followed hC hP hD hS z3 mw_105 dX0_takesFollowed_29 (fun H locs hP hD hS => ?_)
    refine lv_aload_n hx hb dX0_takesFollowed_32 rfl (lv_at hl 0 rfl) ?_
    refine wl_callVi hC (c_X0_takesStop__XT_0  (by first | assumption | omega) (by first | assumption | omega)) lk_RX0_76 rfl ⟨rfl, rfl, Nat.le_of_ble_eq_true rfl, Nat.le_of_ble_eq_true rfl⟩ hP hD hS hA 0 rfl (T1 := 6) rfl hl.1 rfl (Nat.le_of_ble_eq_true rfl) dX0_takesFollowed_33 ⟨Nat.zero_le _, Nat.zero_le _⟩ (fun z4 hz4 H locs hP hD hS => ?_)
    have hm := wl_bz hm hz4
    exact wl_zret (v := z4.1) hC hr hlk hm rfl hP hD hS dX0_takesFollowed_36
  · have hm := hm.trans (if_neg c2)
    refine lv_iconst (v := (nI 0)) hx hb dX0_takesFollowed_14 (by decide +kernel) ?_
    exact wl_zret (v := false) hC hr hlk hm rfl hP hD hS dX0_takesFollowed_15
