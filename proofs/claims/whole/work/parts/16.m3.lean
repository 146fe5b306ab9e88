def m_X4_of (mlisted : Int32) (mfollowing : Int32) (mdayThen : Int32) (mnow : (Nat → Int32)) (mrefused : (Nat → Int32)) (mtempers : (Nat → Int32)) (p : Int32) (what : Int32) (P : Nat) : Int32 × Int32 × Int32 × Int32 × (Nat → Int32) × (Nat → Int32) := (wl_bnd (m_X4_isOne p P) (fun z1 => (if z1 = true then (wl_bnd (m_X4_in what.toInt64 (lN 0) (lN 4)) (fun z5 => (if z5 = true then (wl_bnd (m_X4_layHand mnow mtempers P) (fun z7 => (if what = nI 0 then (wl_bnd (m_X4_kindOf mnow (cl p)) (fun z9 => (z9, z7.1, z7.2.1, z7.2.2.1, mrefused, z7.2.2.2))) else (if what = nI 1 then ((z7.2.2.2 (cl p)), z7.1, z7.2.1, z7.2.2.1, mrefused, z7.2.2.2) else (if what = nI 2 then (((z7.1 >>> ((nI (cl p)) &&& 31)) &&& (nI 1)), z7.1, z7.2.1, z7.2.2.1, mrefused, z7.2.2.2) else (if what = nI 3 then (((z7.2.1 >>> ((nI (cl p)) &&& 31)) &&& (nI 1)), z7.1, z7.2.1, z7.2.2.1, mrefused, z7.2.2.2) else (wl_bnd (m_X4_actOf z7.2.1 z7.2.2.1 mnow z7.2.2.2 (cl p)) (fun z10 => (z10, z7.1, z7.2.1, z7.2.2.1, mrefused, z7.2.2.2))))))))) else (wl_bnd (m_X4_bad mrefused (-2)) (fun z11 => (z11.1, mlisted, mfollowing, mdayThen, z11.2, mtempers)))))) else (wl_bnd (m_X4_bad mrefused (-2)) (fun z3 => (z3.1, mlisted, mfollowing, mdayThen, z3.2, mtempers))))))
set_option maxHeartbeats 4000000 in
set_option maxRecDepth 100000 in
theorem c_X4_of {l : Launch} {D : va_G} {E : Nat → ClassId} {a : Nat → Nat} {mabove : Int64} {mbelow : Int64} {mlisted : Int32} {mfollowing : Int32} {mdayThen : Int32} {mbytesLong : Nat} {mtokenAt : Nat} {mtokenLong : Nat} {mtoken : Int32} {mvalue : Int32} {mnow : (Nat → Int32)} {mkept : (Nat → Int32)} {misKept : (Nat → Int32)} {mrefused : (Nat → Int32)} {mtempers : (Nat → Int32)} {mhis : (Nat → Int32)} {mtheirs : (Nat → Int32)} {mmanyBy : (Nat → Int32)} {mbytes : (Nat → Int32)} {manew : (Nat → Int32)} {mvalues : (Nat → Int32)} {p : Int32} {what : Int32} {P : Nat} (h0 : mnow 0 = nI P) (hP7 : P ≤ 7) : wl_Met (τ := Int32 × Int32 × Int32 × Int32 × (Nat → Int32) × (Nat → Int32)) l D E yX4_of cX4_of 3 (some .int) ({ frames := 2, cells := 0, slots := 0, locals := 47 } : Room) [.ref (a 0), .int p, .int what] (wM E a mabove mbelow mlisted mfollowing mdayThen mbytesLong mtokenAt mtokenLong mtoken mvalue mnow mkept misKept mrefused mtempers mhis mtheirs mmanyBy mbytes manew mvalues) (fun z => some (.int z.1)) (fun z => (wM E a mabove mbelow z.2.1 z.2.2.1 z.2.2.2.1 mbytesLong mtokenAt mtokenLong mtoken mvalue mnow mkept misKept z.2.2.2.2.1 z.2.2.2.2.2 mhis mtheirs mmanyBy mbytes manew mvalues)) (m_X4_of mlisted mfollowing mdayThen mnow mrefused mtempers p what P) := by
  refine wl_enter (own := RX4) (by decide +kernel) rfl (Nat.le_of_ble_eq_true rfl) ?_
  intro p0 e0 s0 m0 bl0 mt0 c0 A hC hr hlk hA H locs hP hD hS ls hl
  have hx := hC.1
  have hb := hC.2.1
  have hl : lv_has ls 3 [(0, .ref (a 0)), (1, .int p), (2, .int what)] := hl
  have hm := m_X4_of.eq_1 mlisted mfollowing mdayThen mnow mrefused mtempers p what P
  refine lv_aload_n hx hb dX4_of_0 rfl (lv_at hl 0 rfl) ?_
  refine lv_iload_n hx hb dX4_of_1 rfl (lv_at hl 1 rfl) ?_
  refine wl_callVi hC (c_X4_isOne (p := p) (P := P) (h0)) lk_RX4_113 rfl ⟨rfl, rfl, Nat.le_of_ble_eq_true rfl, Nat.le_of_ble_eq_true rfl⟩ hP hD hS hA 0 rfl (T1 := 21) rfl hl.1 rfl (Nat.le_of_ble_eq_true rfl) dX4_of_2 ⟨Nat.zero_le _, Nat.zero_le _⟩ (fun z1 hz1 H locs hP hD hS => ?_)
  have hm := wl_bz hm hz1
  refine wl_if_eq_b hx hb (tgt := 20) dX4_of_5 (by decide) (fun c2 => ?_) (fun c2 => ?_)
  · have hm := hm.trans (if_neg c2)
    refine lv_aload_n hx hb dX4_of_20 rfl (lv_at hl 0 rfl) ?_
    refine lv_bipush (v := (-2)) hx hb dX4_of_21 (by decide +kernel) ?_
    refine wl_callVi hC (c_X4_bad (tells := (-2)) ) lk_RX4_62 rfl ⟨rfl, rfl, Nat.le_of_ble_eq_true rfl, Nat.le_of_ble_eq_true rfl⟩ hP hD hS hA 0 rfl (T1 := 21) rfl hl.1 rfl (Nat.le_of_ble_eq_true rfl) dX4_of_23 ⟨Nat.zero_le _, Nat.zero_le _⟩ (fun z3 hz3 H locs hP hD hS => ?_)
    have hm := wl_bz hm hz3
    exact wl_iret hC hr hlk hm rfl hP hD hS dX4_of_26
  · have hm := hm.trans (if_pos c2)
    obtain ⟨ha4, hb4_⟩ := isOne_spec hP7 (hz1.symm.trans c2)
    have hl : lv_has ls 3 [(0, .ref (a 0)), (1, .int (nI (cl p))), (2, .int what)] := by rw [← ha4]; exact hl
    refine lv_iload_n hx hb dX4_of_8 rfl (lv_at hl 2 rfl) ?_
    refine lv_i2l (v := what.toInt64) hx hb dX4_of_9 rfl ?_
    refine lv_lconst (v := lN 0) hx hb dX4_of_10 (by decide +kernel) ?_
    refine lv_ldc2 hx hb hC.2.2.2.1 (hC.2.2.2.2.1 _ mw_482) dX4_of_11 ?_
    refine wl_reL (show (4 : Int64) = lN 4 by decide +kernel) ?_
    refine wl_callPi hC (c_X4_in (v := what.toInt64) (low := (lN 0)) (high := (lN 4)) ) lk_RX4_56 rfl ⟨rfl, rfl, Nat.le_of_ble_eq_true rfl, Nat.le_of_ble_eq_true rfl⟩ hP hS hA hl.1 rfl (Nat.le_of_ble_eq_true rfl) dX4_of_14 ⟨Nat.zero_le _, Nat.zero_le _⟩ (fun z5 hz5 H locs hP hS => ?_)
    have hm := wl_bz hm hz5
    refine wl_if_ne_b hx hb (tgt := 27) dX4_of_17 (by decide) (fun c6 => ?_) (fun c6 => ?_)
    · have hm := hm.trans (if_pos c6)
      refine lv_aload_n hx hb dX4_of_27 rfl (lv_at hl 0 rfl) ?_
      refine wl_callVv hC (c_X4_layHand (P := P) (h0) (by first | assumption | omega)) lk_RX4_122 rfl ⟨rfl, rfl, Nat.le_of_ble_eq_true rfl, Nat.le_of_ble_eq_true rfl⟩ hP hD hS hA 0 rfl (T1 := 21) rfl hl.1 rfl (Nat.le_of_ble_eq_true rfl) dX4_of_28 ⟨Nat.zero_le _, Nat.zero_le _⟩ (fun z7 hz7 H locs hP hD hS => ?_)
      have hm := wl_bz hm hz7
      refine lv_iload_n hx hb dX4_of_31 rfl (lv_at hl 2 rfl) ?_
      refine (Decidable.em (what = nI 0)).elim (fun c8_0 => ?_) (fun c8_0 => ?_)
      · have hm := hm.trans (if_pos c8_0)
        refine lv_tableIn (off := 32) (tgt := 64) hx hb dX4_of_32 (by rw [c8_0]; decide +kernel) (by rw [c8_0]; decide +kernel) (by rw [c8_0]; decide +kernel) (by decide) ?_
        refine lv_aload_n hx hb dX4_of_64 rfl (lv_at hl 0 rfl) ?_
        refine lv_iload_n hx hb dX4_of_65 rfl (lv_at hl 1 rfl) ?_
        refine wl_callVi hC (c_X4_kindOf (p := (cl p)) (by first | assumption | omega)) lk_RX4_88 rfl ⟨rfl, rfl, Nat.le_of_ble_eq_true rfl, Nat.le_of_ble_eq_true rfl⟩ hP hD hS hA 0 rfl (T1 := 21) rfl hl.1 rfl (Nat.le_of_ble_eq_true rfl) dX4_of_66 ⟨Nat.zero_le _, Nat.zero_le _⟩ (fun z9 hz9 H locs hP hD hS => ?_)
        have hm := wl_bz hm hz9
        exact wl_iret hC hr hlk hm rfl hP hD hS dX4_of_69
      · have hm := hm.trans (if_neg c8_0)
        refine (Decidable.em (what = nI 1)).elim (fun c8_1 => ?_) (fun c8_1 => ?_)
        · have hm := hm.trans (if_pos c8_1)
          refine lv_tableIn (off := 38) (tgt := 70) hx hb dX4_of_32 (by rw [c8_1]; decide +kernel) (by rw [c8_1]; decide +kernel) (by rw [c8_1]; decide +kernel) (by decide) ?_
          refine lv_aload_n hx hb dX4_of_70 rfl (lv_at hl 0 rfl) ?_
          refine g_M_0_tempers hC hP mw_390 dX4_of_71 ?_
          refine lv_iload_n hx hb dX4_of_74 rfl (lv_at hl 1 rfl) ?_
          refine ld_M_5 hC hP (cl p) (by omega) dX4_of_75 ?_
          exact wl_iret hC hr hlk hm rfl hP hD hS dX4_of_76
        · have hm := hm.trans (if_neg c8_1)
          refine (Decidable.em (what = nI 2)).elim (fun c8_2 => ?_) (fun c8_2 => ?_)
          · have hm := hm.trans (if_pos c8_2)
            refine lv_tableIn (off := 45) (tgt := 77) hx hb dX4_of_32 (by rw [c8_2]; decide +kernel) (by rw [c8_2]; decide +kernel) (by rw [c8_2]; decide +kernel) (by decide) ?_
            refine lv_aload_n hx hb dX4_of_77 rfl (lv_at hl 0 rfl) ?_
            refine g_M_0_listed hC hP mw_432 dX4_of_78 ?_
            refine lv_iload_n hx hb dX4_of_81 rfl (lv_at hl 1 rfl) ?_
            refine lv_ishr hx hb dX4_of_82 ?_
            refine lv_iconst (v := (nI 1)) hx hb dX4_of_83 (by decide +kernel) ?_
            refine lv_iand hx hb dX4_of_84 ?_
            exact wl_iret hC hr hlk hm rfl hP hD hS dX4_of_85
          · have hm := hm.trans (if_neg c8_2)
            refine (Decidable.em (what = nI 3)).elim (fun c8_3 => ?_) (fun c8_3 => ?_)
            · have hm := hm.trans (if_pos c8_3)
              refine lv_tableIn (off := 54) (tgt := 86) hx hb dX4_of_32 (by rw [c8_3]; decide +kernel) (by rw [c8_3]; decide +kernel) (by rw [c8_3]; decide +kernel) (by decide) ?_
              refine lv_aload_n hx hb dX4_of_86 rfl (lv_at hl 0 rfl) ?_
              refine g_M_0_following hC hP mw_433 dX4_of_87 ?_
              refine lv_iload_n hx hb dX4_of_90 rfl (lv_at hl 1 rfl) ?_
              refine lv_ishr hx hb dX4_of_91 ?_
              refine lv_iconst (v := (nI 1)) hx hb dX4_of_92 (by decide +kernel) ?_
              refine lv_iand hx hb dX4_of_93 ?_
              exact wl_iret hC hr hlk hm rfl hP hD hS dX4_of_94
            · have hm := hm.trans (if_neg c8_3)
              refine lv_tableOut (tgt := 95) hx hb dX4_of_32 (wl_tab0_3 c8_0 c8_1 c8_2 c8_3) (by decide) ?_
              refine lv_aload_n hx hb dX4_of_95 rfl (lv_at hl 0 rfl) ?_
              refine lv_iload_n hx hb dX4_of_96 rfl (lv_at hl 1 rfl) ?_
              refine wl_callVi hC (c_X4_actOf (p := (cl p)) (by first | assumption | omega)) lk_RX4_99 rfl ⟨rfl, rfl, Nat.le_of_ble_eq_true rfl, Nat.le_of_ble_eq_true rfl⟩ hP hD hS hA 0 rfl (T1 := 21) rfl hl.1 rfl (Nat.le_of_ble_eq_true rfl) dX4_of_97 ⟨Nat.zero_le _, Nat.zero_le _⟩ (fun z10 hz10 H locs hP hD hS => ?_)
              have hm := wl_bz hm hz10
              exact wl_iret hC hr hlk hm rfl hP hD hS dX4_of_100
    · have hm := hm.trans (if_neg c6)
      refine lv_aload_n hx hb dX4_of_20 rfl (lv_at hl 0 rfl) ?_
      refine lv_bipush (v := (-2)) hx hb dX4_of_21 (by decide +kernel) ?_
      refine wl_callVi hC (c_X4_bad (tells := (-2)) ) lk_RX4_62 rfl ⟨rfl, rfl, Nat.le_of_ble_eq_true rfl, Nat.le_of_ble_eq_true rfl⟩ hP hD hS hA 0 rfl (T1 := 21) rfl hl.1 rfl (Nat.le_of_ble_eq_true rfl) dX4_of_23 ⟨Nat.zero_le _, Nat.zero_le _⟩ (fun z11 hz11 H locs hP hD hS => ?_)
      have hm := wl_bz hm hz11
      exact wl_iret hC hr hlk hm rfl hP hD hS dX4_of_26
def m_X4_then_l44 (mnow : (Nat → Int32)) (P : Nat) (k12 : Nat) (v12 : Int32 × Int32 × Int32 × (Nat → Int32)) : Int32 × Int32 × Int32 × (Nat → Int32) := (wl_bnd (m_X4_goDay v12.1 v12.2.1 v12.2.2.1 mnow v12.2.2.2 P) (fun z14 => (z14.2.1, z14.2.2.1, z14.2.2.2.1, z14.2.2.2.2)))
def m_X4_then (mlisted : Int32) (mfollowing : Int32) (mdayThen : Int32) (mnow : (Nat → Int32)) (mrefused : (Nat → Int32)) (mtempers : (Nat → Int32)) (p : Int32) (m : Int32) (what : Int32) (P : Nat) : Int32 × Int32 × Int32 × Int32 × (Nat → Int32) × (Nat → Int32) := (wl_bnd (m_X4_isOne p P) (fun z1 => (if z1 = true then (wl_bnd (m_X4_in m.toInt64 (lN 0) (lN 60)) (fun z5 => (if z5 = true then (wl_bnd (m_X4_in what.toInt64 (lN 0) (lN 1)) (fun z9 => (if z9 = true then (wl_bnd (m_X4_layHand mnow mtempers P) (fun z11 => (wl_bnd (wl_iter (m_X4_then_l44 mnow P) (cl m) 0 (z11.1, z11.2.1, z11.2.2.1, z11.2.2.2)) (fun z12 => (if what = 0 then (wl_bnd (m_X4_actOf z12.2.1 z12.2.2.1 mnow z12.2.2.2 (cl p)) (fun z17 => (z17, z12.1, z12.2.1, z12.2.2.1, mrefused, z12.2.2.2))) else ((z12.2.2.2 (cl p)), z12.1, z12.2.1, z12.2.2.1, mrefused, z12.2.2.2)))))) else (wl_bnd (m_X4_bad mrefused (-2)) (fun z18 => (z18.1, mlisted, mfollowing, mdayThen, z18.2, mtempers)))))) else (wl_bnd (m_X4_bad mrefused (-2)) (fun z7 => (z7.1, mlisted, mfollowing, mdayThen, z7.2, mtempers)))))) else (wl_bnd (m_X4_bad mrefused (-2)) (fun z3 => (z3.1, mlisted, mfollowing, mdayThen, z3.2, mtempers))))))
set_option maxHeartbeats 4000000 in
set_option maxRecDepth 100000 in
theorem c_X4_then {l : Launch} {D : va_G} {E : Nat → ClassId} {a : Nat → Nat} {mabove : Int64} {mbelow : Int64} {mlisted : Int32} {mfollowing : Int32} {mdayThen : Int32} {mbytesLong : Nat} {mtokenAt : Nat} {mtokenLong : Nat} {mtoken : Int32} {mvalue : Int32} {mnow : (Nat → Int32)} {mkept : (Nat → Int32)} {misKept : (Nat → Int32)} {mrefused : (Nat → Int32)} {mtempers : (Nat → Int32)} {mhis : (Nat → Int32)} {mtheirs : (Nat → Int32)} {mmanyBy : (Nat → Int32)} {mbytes : (Nat → Int32)} {manew : (Nat → Int32)} {mvalues : (Nat → Int32)} {p : Int32} {m : Int32} {what : Int32} {P : Nat} (h0 : mnow 0 = nI P) (hP7 : P ≤ 7) : wl_Met (τ := Int32 × Int32 × Int32 × Int32 × (Nat → Int32) × (Nat → Int32)) l D E yX4_then cX4_then 6 (some .int) ({ frames := 4, cells := 0, slots := 0, locals := 90 } : Room) [.ref (a 0), .int p, .int m, .int what] (wM E a mabove mbelow mlisted mfollowing mdayThen mbytesLong mtokenAt mtokenLong mtoken mvalue mnow mkept misKept mrefused mtempers mhis mtheirs mmanyBy mbytes manew mvalues) (fun z => some (.int z.1)) (fun z => (wM E a mabove mbelow z.2.1 z.2.2.1 z.2.2.2.1 mbytesLong mtokenAt mtokenLong mtoken mvalue mnow mkept misKept z.2.2.2.2.1 z.2.2.2.2.2 mhis mtheirs mmanyBy mbytes manew mvalues)) (m_X4_then mlisted mfollowing mdayThen mnow mrefused mtempers p m what P) := by
  refine wl_enter (own := RX4) (by decide +kernel) rfl (Nat.le_of_ble_eq_true rfl) ?_
  intro p0 e0 s0 m0 bl0 mt0 c0 A hC hr hlk hA H locs hP hD hS ls hl
  have hx := hC.1
  have hb := hC.2.1
  have hl : lv_has ls 6 [(0, .ref (a 0)), (1, .int p), (2, .int m), (3, .int what)] := hl
  have hm := m_X4_then.eq_1 mlisted mfollowing mdayThen mnow mrefused mtempers p m what P
  refine lv_aload_n hx hb dX4_then_0 rfl (lv_at hl 0 rfl) ?_
  refine lv_iload_n hx hb dX4_then_1 rfl (lv_at hl 1 rfl) ?_
  refine wl_callVi hC (c_X4_isOne (p := p) (P := P) (h0)) lk_RX4_113 rfl ⟨rfl, rfl, Nat.le_of_ble_eq_true rfl, Nat.le_of_ble_eq_true rfl⟩ hP hD hS hA 0 rfl (T1 := 21) rfl hl.1 rfl (Nat.le_of_ble_eq_true rfl) dX4_then_2 ⟨Nat.zero_le _, Nat.zero_le _⟩ (fun z1 hz1 H locs hP hD hS => ?_)
  have hm := wl_bz hm hz1
  refine wl_if_eq_b hx hb (tgt := 30) dX4_then_5 (by decide) (fun c2 => ?_) (fun c2 => ?_)
  · have hm := hm.trans (if_neg c2)
    refine lv_aload_n hx hb dX4_then_30 rfl (lv_at hl 0 rfl) ?_
    refine lv_bipush (v := (-2)) hx hb dX4_then_31 (by decide +kernel) ?_
    refine wl_callVi hC (c_X4_bad (tells := (-2)) ) lk_RX4_62 rfl ⟨rfl, rfl, Nat.le_of_ble_eq_true rfl, Nat.le_of_ble_eq_true rfl⟩ hP hD hS hA 0 rfl (T1 := 21) rfl hl.1 rfl (Nat.le_of_ble_eq_true rfl) dX4_then_33 ⟨Nat.zero_le _, Nat.zero_le _⟩ (fun z3 hz3 H locs hP hD hS => ?_)
    have hm := wl_bz hm hz3
    exact wl_iret hC hr hlk hm rfl hP hD hS dX4_then_36
  · have hm := hm.trans (if_pos c2)
    obtain ⟨ha4, hb4_⟩ := isOne_spec hP7 (hz1.symm.trans c2)
    have hl : lv_has ls 6 [(0, .ref (a 0)), (1, .int (nI (cl p))), (2, .int m), (3, .int what)] := by rw [← ha4]; exact hl
    refine lv_iload_n hx hb dX4_then_8 rfl (lv_at hl 2 rfl) ?_
    refine lv_i2l (v := m.toInt64) hx hb dX4_then_9 rfl ?_
    refine lv_lconst (v := lN 0) hx hb dX4_then_10 (by decide +kernel) ?_
    refine lv_ldc2 hx hb hC.2.2.2.1 (hC.2.2.2.2.1 _ mw_468) dX4_then_11 ?_
    refine wl_reL (show (60 : Int64) = lN 60 by decide +kernel) ?_
    refine wl_callPi hC (c_X4_in (v := m.toInt64) (low := (lN 0)) (high := (lN 60)) ) lk_RX4_56 rfl ⟨rfl, rfl, Nat.le_of_ble_eq_true rfl, Nat.le_of_ble_eq_true rfl⟩ hP hS hA hl.1 rfl (Nat.le_of_ble_eq_true rfl) dX4_then_14 ⟨Nat.zero_le _, Nat.zero_le _⟩ (fun z5 hz5 H locs hP hS => ?_)
    have hm := wl_bz hm hz5
    refine wl_if_eq_b hx hb (tgt := 30) dX4_then_17 (by decide) (fun c6 => ?_) (fun c6 => ?_)
    · have hm := hm.trans (if_neg c6)
      refine lv_aload_n hx hb dX4_then_30 rfl (lv_at hl 0 rfl) ?_
      refine lv_bipush (v := (-2)) hx hb dX4_then_31 (by decide +kernel) ?_
      refine wl_callVi hC (c_X4_bad (tells := (-2)) ) lk_RX4_62 rfl ⟨rfl, rfl, Nat.le_of_ble_eq_true rfl, Nat.le_of_ble_eq_true rfl⟩ hP hD hS hA 0 rfl (T1 := 21) rfl hl.1 rfl (Nat.le_of_ble_eq_true rfl) dX4_then_33 ⟨Nat.zero_le _, Nat.zero_le _⟩ (fun z7 hz7 H locs hP hD hS => ?_)
      have hm := wl_bz hm hz7
      exact wl_iret hC hr hlk hm rfl hP hD hS dX4_then_36
    · have hm := hm.trans (if_pos c6)
      obtain ⟨ha8, hb8_, hc8_⟩ := in_spec (a := 0) (b := 60) (by decide) (by decide) (hz5.symm.trans c6)
      have hl : lv_has ls 6 [(0, .ref (a 0)), (1, .int (nI (cl p))), (2, .int (nI (cl m))), (3, .int what)] := by rw [← ha8]; exact hl
      refine lv_iload_n hx hb dX4_then_20 rfl (lv_at hl 3 rfl) ?_
      refine lv_i2l (v := what.toInt64) hx hb dX4_then_21 rfl ?_
      refine lv_lconst (v := lN 0) hx hb dX4_then_22 (by decide +kernel) ?_
      refine lv_lconst (v := lN 1) hx hb dX4_then_23 (by decide +kernel) ?_
      refine wl_callPi hC (c_X4_in (v := what.toInt64) (low := (lN 0)) (high := (lN 1)) ) lk_RX4_56 rfl ⟨rfl, rfl, Nat.le_of_ble_eq_true rfl, Nat.le_of_ble_eq_true rfl⟩ hP hS hA hl.1 rfl (Nat.le_of_ble_eq_true rfl) dX4_then_24 ⟨Nat.zero_le _, Nat.zero_le _⟩ (fun z9 hz9 H locs hP hS => ?_)
      have hm := wl_bz hm hz9
      refine wl_if_ne_b hx hb (tgt := 37) dX4_then_27 (by decide) (fun c10 => ?_) (fun c10 => ?_)
      · have hm := hm.trans (if_pos c10)
        refine lv_aload_n hx hb dX4_then_37 rfl (lv_at hl 0 rfl) ?_
        refine wl_callVv hC (c_X4_layHand (P := P) (h0) (by first | assumption | omega)) lk_RX4_122 rfl ⟨rfl, rfl, Nat.le_of_ble_eq_true rfl, Nat.le_of_ble_eq_true rfl⟩ hP hD hS hA 0 rfl (T1 := 21) rfl hl.1 rfl (Nat.le_of_ble_eq_true rfl) dX4_then_38 ⟨Nat.zero_le _, Nat.zero_le _⟩ (fun z11 hz11 H locs hP hD hS => ?_)
        have hm := wl_bz hm hz11
        refine lv_iconst (v := (nI 0)) hx hb dX4_then_41 (by decide +kernel) ?_
        refine lv_istore (lv' := [(4, .int (nI 0)), (0, .ref (a 0)), (1, .int (nI (cl p))), (2, .int (nI (cl m))), (3, .int what)]) hx hb dX4_then_42 hl (by decide) rfl (fun ls hl => ?_)
        obtain ⟨u12, hu12, hk12⟩ := wl_bx hm
        refine wl_for (D := D) (A := A) (H0 := s0.heap) (m_X4_then_l44 mnow P) (cl m) 0 (cl m) (z11.1, z11.2.1, z11.2.2.1, z11.2.2.2) 44 6 (fun k12 v12 => [(0, .ref (a 0)), (1, .int (nI (cl p))), (2, .int (nI (cl m))), (3, .int what), (4, .int (nI k12))]) (fun k12 v12 => (wM E a mabove mbelow v12.1 v12.2.1 v12.2.2.1 mbytesLong mtokenAt mtokenLong mtoken mvalue mnow mkept misKept mrefused v12.2.2.2 mhis mtheirs mmanyBy mbytes manew mvalues)) (fun k12 v12 => True) (by omega) trivial ?_ ?_ hP hD hS (lv_sub hl [1, 2, 3, 4, 0] rfl)
        · intro z12 hv12 hI12 ls H locs hP hD hS hl
          have hm := hk12 z12 (hu12.trans hv12)
          refine lv_iload hx hb dX4_then_44 (lv_at hl 4 rfl) ?_
          refine lv_iload_n hx hb dX4_then_46 rfl (lv_at hl 2 rfl) ?_
          refine wl_icmp_ge_n hx hb (by first | omega | exact Nat.lt_of_le_of_lt Nat.and_le_right (by omega) | exact Nat.pow_lt_pow_right (by omega) (by omega) | exact Nat.lt_trans (by assumption) (Nat.pow_lt_pow_right (by omega) (by omega))) (by first | omega | exact Nat.lt_of_le_of_lt Nat.and_le_right (by omega) | exact Nat.pow_lt_pow_right (by omega) (by omega) | exact Nat.lt_trans (by assumption) (Nat.pow_lt_pow_right (by omega) (by omega))) (tgt := 62) dX4_then_47 (by decide) (fun c15 => ?_) (fun c15 => absurd (by omega) c15)
          refine lv_iload_n hx hb dX4_then_62 rfl (lv_at hl 3 rfl) ?_
          refine lv_if_ne hx hb (tgt := 74) dX4_then_63 (by decide) (fun c16 => ?_) (fun c16 => ?_)
          · have hm := hm.trans (if_neg c16)
            refine lv_aload_n hx hb dX4_then_74 rfl (lv_at hl 0 rfl) ?_
            refine g_M_0_tempers hC hP mw_390 dX4_then_75 ?_
            refine lv_iload_n hx hb dX4_then_78 rfl (lv_at hl 1 rfl) ?_
            refine ld_M_5 hC hP (cl p) (by omega) dX4_then_79 ?_
            exact wl_iret hC hr hlk hm rfl hP hD hS dX4_then_80
          · have hm := hm.trans (if_pos c16)
            refine lv_aload_n hx hb dX4_then_66 rfl (lv_at hl 0 rfl) ?_
            refine lv_iload_n hx hb dX4_then_67 rfl (lv_at hl 1 rfl) ?_
            refine wl_callVi hC (c_X4_actOf (p := (cl p)) (by first | assumption | omega)) lk_RX4_99 rfl ⟨rfl, rfl, Nat.le_of_ble_eq_true rfl, Nat.le_of_ble_eq_true rfl⟩ hP hD hS hA 0 rfl (T1 := 21) rfl hl.1 rfl (Nat.le_of_ble_eq_true rfl) dX4_then_68 ⟨Nat.zero_le _, Nat.zero_le _⟩ (fun z17 hz17 H locs hP hD hS => ?_)
            have hm := wl_bz hm hz17
            refine lv_goto (tgt := 80) hx hb dX4_then_71 (by decide) ?_
            exact wl_iret hC hr hlk hm rfl hP hD hS dX4_then_80
        · intro k12 v12 hlo12 hhi12 hI12 IH12 ls H locs hP hD hS hl
          have hb12 := m_X4_then_l44.eq_1 mnow P k12 v12
          refine lv_iload hx hb dX4_then_44 (lv_at hl 4 rfl) ?_
          refine lv_iload_n hx hb dX4_then_46 rfl (lv_at hl 2 rfl) ?_
          refine wl_icmp_ge_n hx hb (by first | omega | exact Nat.lt_of_le_of_lt Nat.and_le_right (by omega) | exact Nat.pow_lt_pow_right (by omega) (by omega) | exact Nat.lt_trans (by assumption) (Nat.pow_lt_pow_right (by omega) (by omega))) (by first | omega | exact Nat.lt_of_le_of_lt Nat.and_le_right (by omega) | exact Nat.pow_lt_pow_right (by omega) (by omega) | exact Nat.lt_trans (by assumption) (Nat.pow_lt_pow_right (by omega) (by omega))) (tgt := 62) dX4_then_47 (by decide) (fun c13 => absurd c13 (by omega)) (fun c13 => ?_)
          refine lv_aload_n hx hb dX4_then_50 rfl (lv_at hl 0 rfl) ?_
          refine wl_callVi hC (c_X4_goDay (P := P) (h0) (by first | assumption | omega)) lk_RX4_125 rfl ⟨rfl, rfl, Nat.le_of_ble_eq_true rfl, Nat.le_of_ble_eq_true rfl⟩ hP hD hS hA 0 rfl (T1 := 21) rfl hl.1 rfl (Nat.le_of_ble_eq_true rfl) dX4_then_51 ⟨Nat.zero_le _, Nat.zero_le _⟩ (fun z14 hz14 H locs hP hD hS => ?_)
          have hb12 := wl_bz hb12 hz14
          refine lv_istore (lv' := [(5, .int z14.1), (0, .ref (a 0)), (1, .int (nI (cl p))), (2, .int (nI (cl m))), (3, .int what), (4, .int (nI k12))]) hx hb dX4_then_54 hl (by decide) rfl (fun ls hl => ?_)
          refine lv_iinc (v := (nI (k12 + 1))) (lv' := [(4, .int (nI (k12 + 1))), (5, .int z14.1), (0, .ref (a 0)), (1, .int (nI (cl p))), (2, .int (nI (cl m))), (3, .int what)]) hx hb dX4_then_56 hl (k := 5) rfl (wl_inc k12 1) (by decide) rfl (fun ls hl => ?_)
          refine lv_goto (tgt := 44) hx hb dX4_then_59 (by decide) ?_
          exact IH12 _ hb12 trivial ls H locs hP hD hS (lv_sub hl [2, 3, 4, 5, 0] rfl)
      · have hm := hm.trans (if_neg c10)
        refine lv_aload_n hx hb dX4_then_30 rfl (lv_at hl 0 rfl) ?_
        refine lv_bipush (v := (-2)) hx hb dX4_then_31 (by decide +kernel) ?_
        refine wl_callVi hC (c_X4_bad (tells := (-2)) ) lk_RX4_62 rfl ⟨rfl, rfl, Nat.le_of_ble_eq_true rfl, Nat.le_of_ble_eq_true rfl⟩ hP hD hS hA 0 rfl (T1 := 21) rfl hl.1 rfl (Nat.le_of_ble_eq_true rfl) dX4_then_33 ⟨Nat.zero_le _, Nat.zero_le _⟩ (fun z18 hz18 H locs hP hD hS => ?_)
        have hm := wl_bz hm hz18
        exact wl_iret hC hr hlk hm rfl hP hD hS dX4_then_36
def m_X4_when_l21 (mnow : (Nat → Int32)) (mrefused : (Nat → Int32)) (p : Int32) (P : Nat) (v5 : Int32 × Int32 × Int32 × (Nat → Int32) × Nat) : (Int32 × Int32 × Int32 × (Nat → Int32) × Nat) ⊕ (Int32 × Int32 × Int32 × Int32 × (Nat → Int32) × (Nat → Int32)) := (if 60 < v5.2.2.2.2 then (Sum.inr ((-1), v5.1, v5.2.1, v5.2.2.1, mrefused, v5.2.2.2.1)) else (wl_bnd (m_X4_goDay v5.1 v5.2.1 v5.2.2.1 mnow v5.2.2.2.1 P) (fun z7 => (wl_bnd (m_X4_has z7.1 (cl p)) (fun z8 => (if z8 = true then (Sum.inr ((nI v5.2.2.2.2), z7.2.1, z7.2.2.1, z7.2.2.2.1, mrefused, z7.2.2.2.2)) else (Sum.inl (z7.2.1, z7.2.2.1, z7.2.2.2.1, z7.2.2.2.2, (v5.2.2.2.2 + 1)))))))))
def m_X4_when (mlisted : Int32) (mfollowing : Int32) (mdayThen : Int32) (mnow : (Nat → Int32)) (mrefused : (Nat → Int32)) (mtempers : (Nat → Int32)) (p : Int32) (P : Nat) : Int32 × Int32 × Int32 × Int32 × (Nat → Int32) × (Nat → Int32) := (wl_bnd (m_X4_isOne p P) (fun z1 => (if z1 = true then (wl_bnd (m_X4_layHand mnow mtempers P) (fun z4 => (wl_run (m_X4_when_l21 mnow mrefused p P) default 61 (z4.1, z4.2.1, z4.2.2.1, z4.2.2.2, 1)))) else (wl_bnd (m_X4_bad mrefused (-2)) (fun z10 => (z10.1, mlisted, mfollowing, mdayThen, z10.2, mtempers))))))
set_option maxHeartbeats 4000000 in
set_option maxRecDepth 100000 in
theorem c_X4_when {l : Launch} {D : va_G} {E : Nat → ClassId} {a : Nat → Nat} {mabove : Int64} {mbelow : Int64} {mlisted : Int32} {mfollowing : Int32} {mdayThen : Int32} {mbytesLong : Nat} {mtokenAt : Nat} {mtokenLong : Nat} {mtoken : Int32} {mvalue : Int32} {mnow : (Nat → Int32)} {mkept : (Nat → Int32)} {misKept : (Nat → Int32)} {mrefused : (Nat → Int32)} {mtempers : (Nat → Int32)} {mhis : (Nat → Int32)} {mtheirs : (Nat → Int32)} {mmanyBy : (Nat → Int32)} {mbytes : (Nat → Int32)} {manew : (Nat → Int32)} {mvalues : (Nat → Int32)} {p : Int32} {P : Nat} (h0 : mnow 0 = nI P) (hP7 : P ≤ 7) : wl_Met (τ := Int32 × Int32 × Int32 × Int32 × (Nat → Int32) × (Nat → Int32)) l D E yX4_when cX4_when 3 (some .int) ({ frames := 4, cells := 0, slots := 0, locals := 90 } : Room) [.ref (a 0), .int p] (wM E a mabove mbelow mlisted mfollowing mdayThen mbytesLong mtokenAt mtokenLong mtoken mvalue mnow mkept misKept mrefused mtempers mhis mtheirs mmanyBy mbytes manew mvalues) (fun z => some (.int z.1)) (fun z => (wM E a mabove mbelow z.2.1 z.2.2.1 z.2.2.2.1 mbytesLong mtokenAt mtokenLong mtoken mvalue mnow mkept misKept z.2.2.2.2.1 z.2.2.2.2.2 mhis mtheirs mmanyBy mbytes manew mvalues)) (m_X4_when mlisted mfollowing mdayThen mnow mrefused mtempers p P) := by
  refine wl_enter (own := RX4) (by decide +kernel) rfl (Nat.le_of_ble_eq_true rfl) ?_
  intro p0 e0 s0 m0 bl0 mt0 c0 A hC hr hlk hA H locs hP hD hS ls hl
  have hx := hC.1
  have hb := hC.2.1
  have hl : lv_has ls 3 [(0, .ref (a 0)), (1, .int p)] := hl
  have hm := m_X4_when.eq_1 mlisted mfollowing mdayThen mnow mrefused mtempers p P
  refine lv_aload_n hx hb dX4_when_0 rfl (lv_at hl 0 rfl) ?_
  refine lv_iload_n hx hb dX4_when_1 rfl (lv_at hl 1 rfl) ?_
  refine wl_callVi hC (c_X4_isOne (p := p) (P := P) (h0)) lk_RX4_113 rfl ⟨rfl, rfl, Nat.le_of_ble_eq_true rfl, Nat.le_of_ble_eq_true rfl⟩ hP hD hS hA 0 rfl (T1 := 21) rfl hl.1 rfl (Nat.le_of_ble_eq_true rfl) dX4_when_2 ⟨Nat.zero_le _, Nat.zero_le _⟩ (fun z1 hz1 H locs hP hD hS => ?_)
  have hm := wl_bz hm hz1
  refine wl_if_ne_b hx hb (tgt := 15) dX4_when_5 (by decide) (fun c2 => ?_) (fun c2 => ?_)
  · have hm := hm.trans (if_pos c2)
    obtain ⟨ha3, hb3_⟩ := isOne_spec hP7 (hz1.symm.trans c2)
    have hl : lv_has ls 3 [(0, .ref (a 0)), (1, .int (nI (cl p)))] := by rw [← ha3]; exact hl
    refine lv_aload_n hx hb dX4_when_15 rfl (lv_at hl 0 rfl) ?_
    refine wl_callVv hC (c_X4_layHand (P := P) (h0) (by first | assumption | omega)) lk_RX4_122 rfl ⟨rfl, rfl, Nat.le_of_ble_eq_true rfl, Nat.le_of_ble_eq_true rfl⟩ hP hD hS hA 0 rfl (T1 := 21) rfl hl.1 rfl (Nat.le_of_ble_eq_true rfl) dX4_when_16 ⟨Nat.zero_le _, Nat.zero_le _⟩ (fun z4 hz4 H locs hP hD hS => ?_)
    have hm := wl_bz hm hz4
    refine lv_iconst (v := (nI 1)) hx hb dX4_when_19 (by decide +kernel) ?_
    refine lv_istore_n (lv' := [(2, .int (nI 1)), (0, .ref (a 0)), (1, .int (nI (cl p)))]) hx hb dX4_when_20 rfl hl (by decide) rfl (fun ls hl => ?_)
    refine wl_while (D := D) (A := A) (H0 := s0.heap) (m_X4_when_l21 mnow mrefused p P) default 61 (z4.1, z4.2.1, z4.2.2.1, z4.2.2.2, 1) 21 3 (fun v5 => [(0, .ref (a 0)), (1, .int (nI (cl p))), (2, .int (nI v5.2.2.2.2))]) (fun v5 => (wM E a mabove mbelow v5.1 v5.2.1 v5.2.2.1 mbytesLong mtokenAt mtokenLong mtoken mvalue mnow mkept misKept mrefused v5.2.2.2.1 mhis mtheirs mmanyBy mbytes manew mvalues)) (fun v5 => (v5.2.2.2.2 ≤ 61)) (fun v5 => 61 - v5.2.2.2.2) (by show 1 ≤ 61; omega) (by show 61 - 1 < 61; first | decide | omega) ?_ hP hD hS (lv_sub hl [1, 2, 0] rfl)
    intro v5 hI5 EX5 IH5 ls H locs hP hD hS hl
    have i2 := hI5
    have hb5 := m_X4_when_l21.eq_1 mnow mrefused p P v5
    refine lv_iload_n hx hb dX4_when_21 rfl (lv_at hl 2 rfl) ?_
    refine lv_bipush (v := (nI 60)) hx hb dX4_when_22 (by decide +kernel) ?_
    refine wl_icmp_gt_n hx hb (by first | omega | exact Nat.lt_of_le_of_lt Nat.and_le_right (by omega) | exact Nat.pow_lt_pow_right (by omega) (by omega) | exact Nat.lt_trans (by assumption) (Nat.pow_lt_pow_right (by omega) (by omega))) (by first | omega | exact Nat.lt_of_le_of_lt Nat.and_le_right (by omega) | exact Nat.pow_lt_pow_right (by omega) (by omega) | exact Nat.lt_trans (by assumption) (Nat.pow_lt_pow_right (by omega) (by omega))) (tgt := 46) dX4_when_24 (by decide) (fun c6 => ?_) (fun c6 => ?_)
    · have hb5 := hb5.trans (if_pos c6)
      refine lv_iconst (v := (-1)) hx hb dX4_when_46 (by decide +kernel) ?_
      exact wl_iret hC hr hlk (hm.trans (EX5 _ hb5)) rfl hP hD hS dX4_when_47
    · have hb5 := hb5.trans (if_neg c6)
      refine lv_aload_n hx hb dX4_when_27 rfl (lv_at hl 0 rfl) ?_
      refine wl_callVi hC (c_X4_goDay (P := P) (h0) (by first | assumption | omega)) lk_RX4_125 rfl ⟨rfl, rfl, Nat.le_of_ble_eq_true rfl, Nat.le_of_ble_eq_true rfl⟩ hP hD hS hA 0 rfl (T1 := 21) rfl hl.1 rfl (Nat.le_of_ble_eq_true rfl) dX4_when_28 ⟨Nat.zero_le _, Nat.zero_le _⟩ (fun z7 hz7 H locs hP hD hS => ?_)
      have hb5 := wl_bz hb5 hz7
      refine lv_iload_n hx hb dX4_when_31 rfl (lv_at hl 1 rfl) ?_
      refine wl_callPi hC (c_X4_has (set := z7.1) (k := (cl p)) ) lk_RX4_91 rfl ⟨rfl, rfl, Nat.le_of_ble_eq_true rfl, Nat.le_of_ble_eq_true rfl⟩ hP hS hA hl.1 rfl (Nat.le_of_ble_eq_true rfl) dX4_when_32 ⟨Nat.zero_le _, Nat.zero_le _⟩ (fun z8 hz8 H locs hP hS => ?_)
      have hb5 := wl_bz hb5 hz8
      refine wl_if_eq_b hx hb (tgt := 40) dX4_when_35 (by decide) (fun c9 => ?_) (fun c9 => ?_)
      · have hb5 := hb5.trans (if_neg c9)
        refine lv_iinc (v := (nI (v5.2.2.2.2 + 1))) (lv' := [(2, .int (nI (v5.2.2.2.2 + 1))), (0, .ref (a 0)), (1, .int (nI (cl p)))]) hx hb dX4_when_40 hl (k := 2) rfl (wl_inc v5.2.2.2.2 1) (by decide) rfl (fun ls hl => ?_)
        refine lv_goto (tgt := 21) hx hb dX4_when_43 (by decide) ?_
        exact IH5 _ hb5 (by show (v5.2.2.2.2 + 1) ≤ 61; omega) (by show 61 - (v5.2.2.2.2 + 1) < 61 - v5.2.2.2.2; omega) ls H locs hP hD hS (lv_sub hl [1, 2, 0] rfl)
      · have hb5 := hb5.trans (if_pos c9)
        refine lv_iload_n hx hb dX4_when_38 rfl (lv_at hl 2 rfl) ?_
        exact wl_iret hC hr hlk (hm.trans (EX5 _ hb5)) rfl hP hD hS dX4_when_39
  · have hm := hm.trans (if_neg c2)
    refine lv_aload_n hx hb dX4_when_8 rfl (lv_at hl 0 rfl) ?_
    refine lv_bipush (v := (-2)) hx hb dX4_when_9 (by decide +kernel) ?_
    refine wl_callVi hC (c_X4_bad (tells := (-2)) ) lk_RX4_62 rfl ⟨rfl, rfl, Nat.le_of_ble_eq_true rfl, Nat.le_of_ble_eq_true rfl⟩ hP hD hS hA 0 rfl (T1 := 21) rfl hl.1 rfl (Nat.le_of_ble_eq_true rfl) dX4_when_11 ⟨Nat.zero_le _, Nat.zero_le _⟩ (fun z10 hz10 H locs hP hD hS => ?_)
    have hm := wl_bz hm hz10
    exact wl_iret hC hr hlk hm rfl hP hD hS dX4_when_14
def m_X4_doesItIn_l30 (mnow : (Nat → Int32)) (p : Nat) (P : Nat) (k4 : Nat) (v4 : Int32 × Int32 × Int32 × (Nat → Int32) × Bool) : Int32 × Int32 × Int32 × (Nat → Int32) × Bool := (wl_bnd ((if v4.2.2.2.2 = true then true else (wl_bnd (m_X4_doesIt v4.2.1 v4.2.2.1 mnow v4.2.2.2.1 p) (fun z8 => (if z8 = true then true else false)))) : Bool) (fun z6 => (wl_bnd (m_X4_goDay v4.1 v4.2.1 v4.2.2.1 mnow v4.2.2.2.1 P) (fun z10 => (z10.2.1, z10.2.2.1, z10.2.2.2.1, z10.2.2.2.2, z6)))))
def m_X4_doesItIn (mnow : (Nat → Int32)) (mtempers : (Nat → Int32)) (p : Nat) (days : Nat) (followed : Bool) (P : Nat) : Bool × Int32 × Int32 × Int32 × (Nat → Int32) := (wl_bnd (m_X4_layHand mnow mtempers P) (fun z1 => (wl_bnd ((if followed = true then ((nI 1) <<< ((nI p) &&& 31)) else (nI 0)) : Int32) (fun z2 => (wl_bnd (wl_iter (m_X4_doesItIn_l30 mnow p P) days 0 ((nI 0), z2, z1.2.2.1, z1.2.2.2, false)) (fun z4 => (z4.2.2.2.2, z4.1, z4.2.1, z4.2.2.1, z4.2.2.2.1)))))))
set_option maxHeartbeats 4000000 in
set_option maxRecDepth 100000 in
theorem c_X4_doesItIn {l : Launch} {D : va_G} {E : Nat → ClassId} {a : Nat → Nat} {mabove : Int64} {mbelow : Int64} {mlisted : Int32} {mfollowing : Int32} {mdayThen : Int32} {mbytesLong : Nat} {mtokenAt : Nat} {mtokenLong : Nat} {mtoken : Int32} {mvalue : Int32} {mnow : (Nat → Int32)} {mkept : (Nat → Int32)} {misKept : (Nat → Int32)} {mrefused : (Nat → Int32)} {mtempers : (Nat → Int32)} {mhis : (Nat → Int32)} {mtheirs : (Nat → Int32)} {mmanyBy : (Nat → Int32)} {mbytes : (Nat → Int32)} {manew : (Nat → Int32)} {mvalues : (Nat → Int32)} {p : Nat} {days : Nat} {followed : Bool} {P : Nat} (h0 : mnow 0 = nI P) (hP7 : P ≤ 7) (hp : p < 7) (hd : days ≤ 60) : wl_Met (τ := Bool × Int32 × Int32 × Int32 × (Nat → Int32)) l D E yX4_doesItIn cX4_doesItIn 7 (some .boolean) ({ frames := 4, cells := 0, slots := 0, locals := 90 } : Room) [.ref (a 0), .int (nI p), .int (nI days), .int (wl_b followed)] (wM E a mabove mbelow mlisted mfollowing mdayThen mbytesLong mtokenAt mtokenLong mtoken mvalue mnow mkept misKept mrefused mtempers mhis mtheirs mmanyBy mbytes manew mvalues) (fun z => some (.int (wl_b z.1))) (fun z => (wM E a mabove mbelow z.2.1 z.2.2.1 z.2.2.2.1 mbytesLong mtokenAt mtokenLong mtoken mvalue mnow mkept misKept mrefused z.2.2.2.2 mhis mtheirs mmanyBy mbytes manew mvalues)) (m_X4_doesItIn mnow mtempers p days followed P) := by
  refine wl_enter (own := RX4) (by decide +kernel) rfl (Nat.le_of_ble_eq_true rfl) ?_
  intro p0 e0 s0 m0 bl0 mt0 c0 A hC hr hlk hA H locs hP hD hS ls hl
  have hx := hC.1
  have hb := hC.2.1
  have hl : lv_has ls 7 [(0, .ref (a 0)), (1, .int (nI p)), (2, .int (nI days)), (3, .int (wl_b followed))] := hl
  have hm := m_X4_doesItIn.eq_1 mnow mtempers p days followed P
  refine lv_iconst (v := (nI 0)) hx hb dX4_doesItIn_0 (by decide +kernel) ?_
  refine lv_istore (lv' := [(4, .int (nI 0)), (0, .ref (a 0)), (1, .int (nI p)), (2, .int (nI days)), (3, .int (wl_b followed))]) hx hb dX4_doesItIn_1 hl (by decide) rfl (fun ls hl => ?_)
  refine lv_aload_n hx hb dX4_doesItIn_3 rfl (lv_at hl 1 rfl) ?_
  refine wl_callVv hC (c_X4_layHand (P := P) (h0) (by first | assumption | omega)) lk_RX4_122 rfl ⟨rfl, rfl, Nat.le_of_ble_eq_true rfl, Nat.le_of_ble_eq_true rfl⟩ hP hD hS hA 0 rfl (T1 := 21) rfl hl.1 rfl (Nat.le_of_ble_eq_true rfl) dX4_doesItIn_4 ⟨Nat.zero_le _, Nat.zero_le _⟩ (fun z1 hz1 H locs hP hD hS => ?_)
  have hm := wl_bz hm hz1
  refine lv_aload_n hx hb dX4_doesItIn_7 rfl (lv_at hl 1 rfl) ?_
  refine lv_iconst (v := (nI 0)) hx hb dX4_doesItIn_8 (by decide +kernel) ?_
  refine p_M_0_listed hC hP hD hS (nI 0) mw_432 dX4_doesItIn_9 (fun H locs hP hD hS => ?_)
  refine lv_aload_n hx hb dX4_doesItIn_12 rfl (lv_at hl 1 rfl) ?_
  refine lv_iload_n hx hb dX4_doesItIn_13 rfl (lv_at hl 4 rfl) ?_
  obtain ⟨u2, hj2, hk2⟩ := wl_bx hm
  refine wl_J u2 24 (fun z2 => [.int z2, .ref (a 0)]) 7 (fun z2 => [(4, .int (nI 0)), (0, .ref (a 0)), (1, .int (nI p)), (2, .int (nI days))]) D A s0.heap (fun z2 => (wM E a mabove mbelow (nI 0) z1.2.1 z1.2.2.1 mbytesLong mtokenAt mtokenLong mtoken mvalue mnow mkept misKept mrefused z1.2.2.2 mhis mtheirs mmanyBy mbytes manew mvalues)) (fun z2 hz2 ls H locs hP hD hS hl => ?_) (fun J2 => ?_)
  · have hm := hk2 z2 hz2
    refine p_M_0_following hC hP hD hS z2 mw_433 dX4_doesItIn_24 (fun H locs hP hD hS => ?_)
    refine lv_iconst (v := (nI 0)) hx hb dX4_doesItIn_27 (by decide +kernel) ?_
    refine lv_istore (lv' := [(5, .int (nI 0)), (4, .int (nI 0)), (0, .ref (a 0)), (1, .int (nI p)), (2, .int (nI days))]) hx hb dX4_doesItIn_28 hl (by decide) rfl (fun ls hl => ?_)
    obtain ⟨u4, hu4, hk4⟩ := wl_bx hm
    refine wl_for (D := D) (A := A) (H0 := s0.heap) (m_X4_doesItIn_l30 mnow p P) days 0 days ((nI 0), z2, z1.2.2.1, z1.2.2.2, false) 30 7 (fun k4 v4 => [(0, .ref (a 0)), (1, .int (nI p)), (2, .int (nI days)), (4, .int (wl_b v4.2.2.2.2)), (5, .int (nI k4))]) (fun k4 v4 => (wM E a mabove mbelow v4.1 v4.2.1 v4.2.2.1 mbytesLong mtokenAt mtokenLong mtoken mvalue mnow mkept misKept mrefused v4.2.2.2.1 mhis mtheirs mmanyBy mbytes manew mvalues)) (fun k4 v4 => True) (by omega) trivial ?_ ?_ hP hD hS (lv_sub hl [2, 3, 4, 1, 0] rfl)
    · intro z4 hv4 hI4 ls H locs hP hD hS hl
      have hm := hk4 z4 (hu4.trans hv4)
      refine lv_iload hx hb dX4_doesItIn_30 (lv_at hl 4 rfl) ?_
      refine lv_iload_n hx hb dX4_doesItIn_32 rfl (lv_at hl 2 rfl) ?_
      refine wl_icmp_ge_n hx hb (by first | omega | exact Nat.lt_of_le_of_lt Nat.and_le_right (by omega) | exact Nat.pow_lt_pow_right (by omega) (by omega) | exact Nat.lt_trans (by assumption) (Nat.pow_lt_pow_right (by omega) (by omega))) (by first | omega | exact Nat.lt_of_le_of_lt Nat.and_le_right (by omega) | exact Nat.pow_lt_pow_right (by omega) (by omega) | exact Nat.lt_trans (by assumption) (Nat.pow_lt_pow_right (by omega) (by omega))) (tgt := 68) dX4_doesItIn_33 (by decide) (fun c11 => ?_) (fun c11 => absurd (by omega) c11)
      refine lv_iload hx hb dX4_doesItIn_68 (lv_at hl 3 rfl) ?_
      exact wl_zret (v := z4.2.2.2.2) hC hr hlk hm rfl hP hD hS dX4_doesItIn_70
    · intro k4 v4 hlo4 hhi4 hI4 IH4 ls H locs hP hD hS hl
      have hb4 := m_X4_doesItIn_l30.eq_1 mnow p P k4 v4
      refine lv_iload hx hb dX4_doesItIn_30 (lv_at hl 4 rfl) ?_
      refine lv_iload_n hx hb dX4_doesItIn_32 rfl (lv_at hl 2 rfl) ?_
      refine wl_icmp_ge_n hx hb (by first | omega | exact Nat.lt_of_le_of_lt Nat.and_le_right (by omega) | exact Nat.pow_lt_pow_right (by omega) (by omega) | exact Nat.lt_trans (by assumption) (Nat.pow_lt_pow_right (by omega) (by omega))) (by first | omega | exact Nat.lt_of_le_of_lt Nat.and_le_right (by omega) | exact Nat.pow_lt_pow_right (by omega) (by omega) | exact Nat.lt_trans (by assumption) (Nat.pow_lt_pow_right (by omega) (by omega))) (tgt := 68) dX4_doesItIn_33 (by decide) (fun c5 => absurd c5 (by omega)) (fun c5 => ?_)
      refine lv_iload hx hb dX4_doesItIn_36 (lv_at hl 3 rfl) ?_
      obtain ⟨u6, hj6, hk6⟩ := wl_bx hb4
      refine wl_J u6 54 (fun z6 => [.int (wl_b z6)]) 7 (fun z6 => [(0, .ref (a 0)), (1, .int (nI p)), (2, .int (nI days)), (5, .int (nI k4))]) D A s0.heap (fun z6 => (wM E a mabove mbelow v4.1 v4.2.1 v4.2.2.1 mbytesLong mtokenAt mtokenLong mtoken mvalue mnow mkept misKept mrefused v4.2.2.2.1 mhis mtheirs mmanyBy mbytes manew mvalues)) (fun z6 hz6 ls H locs hP hD hS hl => ?_) (fun J6 => ?_)
      · have hb4 := hk6 z6 hz6
        refine lv_istore (lv' := [(4, .int (wl_b z6)), (0, .ref (a 0)), (1, .int (nI p)), (2, .int (nI days)), (5, .int (nI k4))]) hx hb dX4_doesItIn_54 hl (by decide) rfl (fun ls hl => ?_)
        refine lv_aload_n hx hb dX4_doesItIn_56 rfl (lv_at hl 1 rfl) ?_
        refine wl_callVi hC (c_X4_goDay (P := P) (h0) (by first | assumption | omega)) lk_RX4_125 rfl ⟨rfl, rfl, Nat.le_of_ble_eq_true rfl, Nat.le_of_ble_eq_true rfl⟩ hP hD hS hA 0 rfl (T1 := 21) rfl hl.1 rfl (Nat.le_of_ble_eq_true rfl) dX4_doesItIn_57 ⟨Nat.zero_le _, Nat.zero_le _⟩ (fun z10 hz10 H locs hP hD hS => ?_)
        have hb4 := wl_bz hb4 hz10
        refine lv_istore (lv' := [(6, .int z10.1), (4, .int (wl_b z6)), (0, .ref (a 0)), (1, .int (nI p)), (2, .int (nI days)), (5, .int (nI k4))]) hx hb dX4_doesItIn_60 hl (by decide) rfl (fun ls hl => ?_)
        refine lv_iinc (v := (nI (k4 + 1))) (lv' := [(5, .int (nI (k4 + 1))), (6, .int z10.1), (4, .int (wl_b z6)), (0, .ref (a 0)), (1, .int (nI p)), (2, .int (nI days))]) hx hb dX4_doesItIn_62 hl (k := 5) rfl (wl_inc k4 1) (by decide) rfl (fun ls hl => ?_)
        refine lv_goto (tgt := 30) hx hb dX4_doesItIn_65 (by decide) ?_
        exact IH4 _ hb4 trivial ls H locs hP hD hS (lv_sub hl [3, 4, 5, 2, 0] rfl)
      · refine wl_if_ne_b hx hb (tgt := 49) dX4_doesItIn_38 (by decide) (fun c7 => ?_) (fun c7 => ?_)
        · have hj6 := hj6.trans (if_pos c7)
          refine lv_iconst (v := (nI 1)) hx hb dX4_doesItIn_49 (by decide +kernel) ?_
          refine lv_goto (tgt := 54) hx hb dX4_doesItIn_50 (by decide) ?_
          exact J6 _ hj6 ls H locs hP hD hS (lv_sub hl [0, 1, 2, 4] rfl)
        · have hj6 := hj6.trans (if_neg c7)
          refine lv_aload_n hx hb dX4_doesItIn_41 rfl (lv_at hl 0 rfl) ?_
          refine lv_iload_n hx hb dX4_doesItIn_42 rfl (lv_at hl 1 rfl) ?_
          refine wl_callVi hC (c_X4_doesIt (p := p) (by first | assumption | omega)) lk_RX4_102 rfl ⟨rfl, rfl, Nat.le_of_ble_eq_true rfl, Nat.le_of_ble_eq_true rfl⟩ hP hD hS hA 0 rfl (T1 := 21) rfl hl.1 rfl (Nat.le_of_ble_eq_true rfl) dX4_doesItIn_43 ⟨Nat.zero_le _, Nat.zero_le _⟩ (fun z8 hz8 H locs hP hD hS => ?_)
          have hj6 := wl_bz hj6 hz8
          refine wl_if_eq_b hx hb (tgt := 53) dX4_doesItIn_46 (by decide) (fun c9 => ?_) (fun c9 => ?_)
          · have hj6 := hj6.trans (if_neg c9)
            refine lv_iconst (v := (nI 0)) hx hb dX4_doesItIn_53 (by decide +kernel) ?_
            exact J6 _ hj6 ls H locs hP hD hS (lv_sub hl [0, 1, 2, 4] rfl)
          · have hj6 := hj6.trans (if_pos c9)
            refine lv_iconst (v := (nI 1)) hx hb dX4_doesItIn_49 (by decide +kernel) ?_
            refine lv_goto (tgt := 54) hx hb dX4_doesItIn_50 (by decide) ?_
            exact J6 _ hj6 ls H locs hP hD hS (lv_sub hl [0, 1, 2, 4] rfl)
  · refine wl_if_eq_b hx hb (tgt := 23) dX4_doesItIn_14 (by decide) (fun c3 => ?_) (fun c3 => ?_)
    · have hj2 := hj2.trans (if_neg c3)
      refine lv_iconst (v := (nI 0)) hx hb dX4_doesItIn_23 (by decide +kernel) ?_
      exact J2 _ hj2 ls H locs hP hD hS (lv_sub hl [0, 1, 2, 3] rfl)
    · have hj2 := hj2.trans (if_pos c3)
      refine lv_iconst (v := (nI 1)) hx hb dX4_doesItIn_17 (by decide +kernel) ?_
      refine lv_iload_n hx hb dX4_doesItIn_18 rfl (lv_at hl 2 rfl) ?_
      refine lv_ishl hx hb dX4_doesItIn_19 ?_
      refine lv_goto (tgt := 24) hx hb dX4_doesItIn_20 (by decide) ?_
      exact J2 _ hj2 ls H locs hP hD hS (lv_sub hl [0, 1, 2, 3] rfl)
def m_X4_lack_l4 (mnow : (Nat → Int32)) (P : Nat) (k1 : Nat) (v1 : Int32 × Int32 × Int32 × (Nat → Int32) × Int32) : Int32 × Int32 × Int32 × (Nat → Int32) × Int32 := (wl_bnd (m_X4_doesItIn mnow v1.2.2.2.1 k1 30 true P) (fun z4 => (if z4.1 = true then (wl_bnd (m_X4_doesItIn mnow z4.2.2.2.2 k1 30 false P) (fun z6 => (if z6.1 = true then (z6.2.1, z6.2.2.1, z6.2.2.2.1, z6.2.2.2.2, (v1.2.2.2.2 ||| (nI 0))) else (z6.2.1, z6.2.2.1, z6.2.2.2.1, z6.2.2.2.2, (v1.2.2.2.2 ||| ((nI 1) <<< ((nI k1) &&& 31))))))) else (z4.2.1, z4.2.2.1, z4.2.2.2.1, z4.2.2.2.2, (v1.2.2.2.2 ||| (nI 0))))))
def m_X4_lack (mlisted : Int32) (mfollowing : Int32) (mdayThen : Int32) (mnow : (Nat → Int32)) (mtempers : (Nat → Int32)) (P : Nat) : Int32 × Int32 × Int32 × Int32 × (Nat → Int32) := (wl_bnd (wl_iter (m_X4_lack_l4 mnow P) P 0 (mlisted, mfollowing, mdayThen, mtempers, (nI 0))) (fun z1 => (z1.2.2.2.2, z1.1, z1.2.1, z1.2.2.1, z1.2.2.2.1)))
set_option maxHeartbeats 4000000 in
set_option maxRecDepth 100000 in
theorem c_X4_lack {l : Launch} {D : va_G} {E : Nat → ClassId} {a : Nat → Nat} {mabove : Int64} {mbelow : Int64} {mlisted : Int32} {mfollowing : Int32} {mdayThen : Int32} {mbytesLong : Nat} {mtokenAt : Nat} {mtokenLong : Nat} {mtoken : Int32} {mvalue : Int32} {mnow : (Nat → Int32)} {mkept : (Nat → Int32)} {misKept : (Nat → Int32)} {mrefused : (Nat → Int32)} {mtempers : (Nat → Int32)} {mhis : (Nat → Int32)} {mtheirs : (Nat → Int32)} {mmanyBy : (Nat → Int32)} {mbytes : (Nat → Int32)} {manew : (Nat → Int32)} {mvalues : (Nat → Int32)} {P : Nat} (h0 : mnow 0 = nI P) (hP7 : P ≤ 7) : wl_Met (τ := Int32 × Int32 × Int32 × Int32 × (Nat → Int32)) l D E yX4_lack cX4_lack 3 (some .int) ({ frames := 5, cells := 0, slots := 0, locals := 116 } : Room) [.ref (a 0)] (wM E a mabove mbelow mlisted mfollowing mdayThen mbytesLong mtokenAt mtokenLong mtoken mvalue mnow mkept misKept mrefused mtempers mhis mtheirs mmanyBy mbytes manew mvalues) (fun z => some (.int z.1)) (fun z => (wM E a mabove mbelow z.2.1 z.2.2.1 z.2.2.2.1 mbytesLong mtokenAt mtokenLong mtoken mvalue mnow mkept misKept mrefused z.2.2.2.2 mhis mtheirs mmanyBy mbytes manew mvalues)) (m_X4_lack mlisted mfollowing mdayThen mnow mtempers P) := by
  refine wl_enter (own := RX4) (by decide +kernel) rfl (Nat.le_of_ble_eq_true rfl) ?_
  intro p0 e0 s0 m0 bl0 mt0 c0 A hC hr hlk hA H locs hP hD hS ls hl
  have hx := hC.1
  have hb := hC.2.1
  have hl : lv_has ls 3 [(0, .ref (a 0))] := hl
  have hm := m_X4_lack.eq_1 mlisted mfollowing mdayThen mnow mtempers P
  refine lv_iconst (v := (nI 0)) hx hb dX4_lack_0 (by decide +kernel) ?_
  refine lv_istore_n (lv' := [(1, .int (nI 0)), (0, .ref (a 0))]) hx hb dX4_lack_1 rfl hl (by decide) rfl (fun ls hl => ?_)
  refine lv_iconst (v := (nI 0)) hx hb dX4_lack_2 (by decide +kernel) ?_
  refine lv_istore_n (lv' := [(2, .int (nI 0)), (1, .int (nI 0)), (0, .ref (a 0))]) hx hb dX4_lack_3 rfl hl (by decide) rfl (fun ls hl => ?_)
  obtain ⟨u1, hu1, hk1⟩ := wl_bx hm
  refine wl_for (D := D) (A := A) (H0 := s0.heap) (m_X4_lack_l4 mnow P) P 0 P (mlisted, mfollowing, mdayThen, mtempers, (nI 0)) 4 3 (fun k1 v1 => [(0, .ref (a 0)), (1, .int v1.2.2.2.2), (2, .int (nI k1))]) (fun k1 v1 => (wM E a mabove mbelow v1.1 v1.2.1 v1.2.2.1 mbytesLong mtokenAt mtokenLong mtoken mvalue mnow mkept misKept mrefused v1.2.2.2.1 mhis mtheirs mmanyBy mbytes manew mvalues)) (fun k1 v1 => True) (by omega) trivial ?_ ?_ hP hD hS (lv_sub hl [2, 1, 0] rfl)
  · intro z1 hv1 hI1 ls H locs hP hD hS hl
    have hm := hk1 z1 (hu1.trans hv1)
    refine lv_iload_n hx hb dX4_lack_4 rfl (lv_at hl 2 rfl) ?_
    refine lv_aload_n hx hb dX4_lack_5 rfl (lv_at hl 0 rfl) ?_
    refine wl_callVi hC (c_X4_many (P := P) (h0)) lk_RX4_52 rfl ⟨rfl, rfl, Nat.le_of_ble_eq_true rfl, Nat.le_of_ble_eq_true rfl⟩ hP hD hS hA 0 rfl (T1 := 21) rfl hl.1 rfl (Nat.le_of_ble_eq_true rfl) dX4_lack_6 ⟨Nat.zero_le _, Nat.zero_le _⟩ (fun z8 hz8 H locs hP hD hS => ?_)
    have hz8 := hz8.symm
    subst hz8
    refine wl_icmp_ge_n hx hb (by first | omega | exact Nat.lt_of_le_of_lt Nat.and_le_right (by omega) | exact Nat.pow_lt_pow_right (by omega) (by omega) | exact Nat.lt_trans (by assumption) (Nat.pow_lt_pow_right (by omega) (by omega))) (by first | omega | exact Nat.lt_of_le_of_lt Nat.and_le_right (by omega) | exact Nat.pow_lt_pow_right (by omega) (by omega) | exact Nat.lt_trans (by assumption) (Nat.pow_lt_pow_right (by omega) (by omega))) (tgt := 50) dX4_lack_9 (by decide) (fun c9 => ?_) (fun c9 => absurd (by omega) c9)
    refine lv_iload_n hx hb dX4_lack_50 rfl (lv_at hl 1 rfl) ?_
    exact wl_iret hC hr hlk hm rfl hP hD hS dX4_lack_51
  · intro k1 v1 hlo1 hhi1 hI1 IH1 ls H locs hP hD hS hl
    have hb1 := m_X4_lack_l4.eq_1 mnow P k1 v1
    refine lv_iload_n hx hb dX4_lack_4 rfl (lv_at hl 2 rfl) ?_
    refine lv_aload_n hx hb dX4_lack_5 rfl (lv_at hl 0 rfl) ?_
    refine wl_callVi hC (c_X4_many (P := P) (h0)) lk_RX4_52 rfl ⟨rfl, rfl, Nat.le_of_ble_eq_true rfl, Nat.le_of_ble_eq_true rfl⟩ hP hD hS hA 0 rfl (T1 := 21) rfl hl.1 rfl (Nat.le_of_ble_eq_true rfl) dX4_lack_6 ⟨Nat.zero_le _, Nat.zero_le _⟩ (fun z2 hz2 H locs hP hD hS => ?_)
    have hz2 := hz2.symm
    subst hz2
    refine wl_icmp_ge_n hx hb (by first | omega | exact Nat.lt_of_le_of_lt Nat.and_le_right (by omega) | exact Nat.pow_lt_pow_right (by omega) (by omega) | exact Nat.lt_trans (by assumption) (Nat.pow_lt_pow_right (by omega) (by omega))) (by first | omega | exact Nat.lt_of_le_of_lt Nat.and_le_right (by omega) | exact Nat.pow_lt_pow_right (by omega) (by omega) | exact Nat.lt_trans (by assumption) (Nat.pow_lt_pow_right (by omega) (by omega))) (tgt := 50) dX4_lack_9 (by decide) (fun c3 => absurd c3 (by omega)) (fun c3 => ?_)
    refine lv_iload_n hx hb dX4_lack_12 rfl (lv_at hl 1 rfl) ?_
    refine lv_aload_n hx hb dX4_lack_13 rfl (lv_at hl 0 rfl) ?_
    refine lv_iload_n hx hb dX4_lack_14 rfl (lv_at hl 2 rfl) ?_
    refine lv_bipush (v := (nI 30)) hx hb dX4_lack_15 (by decide +kernel) ?_
    refine lv_iconst (v := (nI 1)) hx hb dX4_lack_17 (by decide +kernel) ?_
    refine wl_callVi hC (c_X4_doesItIn (p := k1) (days := 30) (followed := true) (P := P) (h0) (by first | assumption | omega) (by first | assumption | omega) (by first | assumption | omega)) lk_RX4_136 rfl ⟨rfl, rfl, Nat.le_of_ble_eq_true rfl, Nat.le_of_ble_eq_true rfl⟩ hP hD hS hA 0 rfl (T1 := 21) rfl hl.1 rfl (Nat.le_of_ble_eq_true rfl) dX4_lack_18 ⟨Nat.zero_le _, Nat.zero_le _⟩ (fun z4 hz4 H locs hP hD hS => ?_)
    have hb1 := wl_bz hb1 hz4
    refine wl_if_eq_b hx hb (tgt := 41) dX4_lack_21 (by decide) (fun c5 => ?_) (fun c5 => ?_)
    · have hb1 := hb1.trans (if_neg c5)
      refine lv_iconst (v := (nI 0)) hx hb dX4_lack_41 (by decide +kernel) ?_
      refine lv_ior hx hb dX4_lack_42 ?_
      refine lv_istore_n (lv' := [(1, .int (v1.2.2.2.2 ||| (nI 0))), (0, .ref (a 0)), (2, .int (nI k1))]) hx hb dX4_lack_43 rfl hl (by decide) rfl (fun ls hl => ?_)
      refine lv_iinc (v := (nI (k1 + 1))) (lv' := [(2, .int (nI (k1 + 1))), (1, .int (v1.2.2.2.2 ||| (nI 0))), (0, .ref (a 0))]) hx hb dX4_lack_44 hl (k := 2) rfl (wl_inc k1 1) (by decide) rfl (fun ls hl => ?_)
      refine lv_goto (tgt := 4) hx hb dX4_lack_47 (by decide) ?_
      exact IH1 _ hb1 trivial ls H locs hP hD hS (lv_sub hl [2, 1, 0] rfl)
    · have hb1 := hb1.trans (if_pos c5)
      refine lv_aload_n hx hb dX4_lack_24 rfl (lv_at hl 0 rfl) ?_
      refine lv_iload_n hx hb dX4_lack_25 rfl (lv_at hl 2 rfl) ?_
      refine lv_bipush (v := (nI 30)) hx hb dX4_lack_26 (by decide +kernel) ?_
      refine lv_iconst (v := (nI 0)) hx hb dX4_lack_28 (by decide +kernel) ?_
      refine wl_callVi hC (c_X4_doesItIn (p := k1) (days := 30) (followed := false) (P := P) (h0) (by first | assumption | omega) (by first | assumption | omega) (by first | assumption | omega)) lk_RX4_136 rfl ⟨rfl, rfl, Nat.le_of_ble_eq_true rfl, Nat.le_of_ble_eq_true rfl⟩ hP hD hS hA 0 rfl (T1 := 21) rfl hl.1 rfl (Nat.le_of_ble_eq_true rfl) dX4_lack_29 ⟨Nat.zero_le _, Nat.zero_le _⟩ (fun z6 hz6 H locs hP hD hS => ?_)
      have hb1 := wl_bz hb1 hz6
      refine wl_if_ne_b hx hb (tgt := 41) dX4_lack_32 (by decide) (fun c7 => ?_) (fun c7 => ?_)
      · have hb1 := hb1.trans (if_pos c7)
        refine lv_iconst (v := (nI 0)) hx hb dX4_lack_41 (by decide +kernel) ?_
        refine lv_ior hx hb dX4_lack_42 ?_
        refine lv_istore_n (lv' := [(1, .int (v1.2.2.2.2 ||| (nI 0))), (0, .ref (a 0)), (2, .int (nI k1))]) hx hb dX4_lack_43 rfl hl (by decide) rfl (fun ls hl => ?_)
        refine lv_iinc (v := (nI (k1 + 1))) (lv' := [(2, .int (nI (k1 + 1))), (1, .int (v1.2.2.2.2 ||| (nI 0))), (0, .ref (a 0))]) hx hb dX4_lack_44 hl (k := 2) rfl (wl_inc k1 1) (by decide) rfl (fun ls hl => ?_)
        refine lv_goto (tgt := 4) hx hb dX4_lack_47 (by decide) ?_
        exact IH1 _ hb1 trivial ls H locs hP hD hS (lv_sub hl [2, 1, 0] rfl)
      · have hb1 := hb1.trans (if_neg c7)
        refine lv_iconst (v := (nI 1)) hx hb dX4_lack_35 (by decide +kernel) ?_
        refine lv_iload_n hx hb dX4_lack_36 rfl (lv_at hl 2 rfl) ?_
        refine lv_ishl hx hb dX4_lack_37 ?_
        refine lv_goto (tgt := 42) hx hb dX4_lack_38 (by decide) ?_
        refine lv_ior hx hb dX4_lack_42 ?_
        refine lv_istore_n (lv' := [(1, .int (v1.2.2.2.2 ||| ((nI 1) <<< ((nI k1) &&& 31)))), (0, .ref (a 0)), (2, .int (nI k1))]) hx hb dX4_lack_43 rfl hl (by decide) rfl (fun ls hl => ?_)
        refine lv_iinc (v := (nI (k1 + 1))) (lv' := [(2, .int (nI (k1 + 1))), (1, .int (v1.2.2.2.2 ||| ((nI 1) <<< ((nI k1) &&& 31)))), (0, .ref (a 0))]) hx hb dX4_lack_44 hl (k := 2) rfl (wl_inc k1 1) (by decide) rfl (fun ls hl => ?_)
        refine lv_goto (tgt := 4) hx hb dX4_lack_47 (by decide) ?_
        exact IH1 _ hb1 trivial ls H locs hP hD hS (lv_sub hl [2, 1, 0] rfl)
def m_X4_comesTrue_l37 (mnow : (Nat → Int32)) (m : Int32) (P : Nat) (k7 : Nat) (v7 : Int32 × Int32 × Int32 × (Nat → Int32) × Int32 × Int32) : Int32 × Int32 × Int32 × (Nat → Int32) × Int32 × Int32 := (wl_bnd (m_X4_doesItIn mnow v7.2.2.2.1 k7 (cl m) true P) (fun z10 => (wl_bnd ((if z10.1 = true then ((nI 1) <<< ((nI k7) &&& 31)) else (nI 0)) : Int32) (fun z11 => (wl_bnd (m_X4_doesItIn mnow z10.2.2.2.2 k7 (cl m) false P) (fun z13 => (if z13.1 = true then (z13.2.1, z13.2.2.1, z13.2.2.2.1, z13.2.2.2.2, (v7.2.2.2.2.1 ||| z11), (v7.2.2.2.2.2 ||| ((nI 1) <<< ((nI k7) &&& 31)))) else (z13.2.1, z13.2.2.1, z13.2.2.2.1, z13.2.2.2.2, (v7.2.2.2.2.1 ||| z11), (v7.2.2.2.2.2 ||| (nI 0))))))))))
def m_X4_comesTrue_l107 (z7 : Int32 × Int32 × Int32 × (Nat → Int32) × Int32 × Int32) (k17 : Nat) (v17 : Int32 × Int32) : Int32 × Int32 := (wl_bnd ((if ((nI k17) &&& (z7.2.2.2.2.1 ^^^ (-1))) = 0 then (if (z7.2.2.2.2.2 &&& ((nI k17) ^^^ (-1))) = 0 then true else false) else false) : Bool) (fun z20 => (wl_bnd ((if z20 = true then (if v17.1 = 0 then (nI k17) else v17.2) else v17.2) : Int32) (fun z23 => (if z20 = true then ((v17.1 + (nI 1)), z23) else ((v17.1 + (nI 0)), z23))))))
def m_X4_comesTrue (mlisted : Int32) (mfollowing : Int32) (mdayThen : Int32) (mnow : (Nat → Int32)) (mrefused : (Nat → Int32)) (mtempers : (Nat → Int32)) (m : Int32) (what : Int32) (P : Nat) : Int32 × Int32 × Int32 × Int32 × (Nat → Int32) × (Nat → Int32) := (wl_bnd (m_X4_in m.toInt64 (lN 1) (lN 30)) (fun z1 => (if z1 = true then (wl_bnd (m_X4_in what.toInt64 (lN 0) (lN 1)) (fun z5 => (if z5 = true then (wl_bnd (wl_iter (m_X4_comesTrue_l37 mnow m P) P 0 (mlisted, mfollowing, mdayThen, mtempers, (nI 0), (nI 0))) (fun z7 => (wl_bnd (wl_iter (m_X4_comesTrue_l107 z7) (2 ^ P) 0 ((nI 0), (-1))) (fun z17 => (if what = 0 then (z17.1, z7.1, z7.2.1, z7.2.2.1, mrefused, z7.2.2.2.1) else (z17.2, z7.1, z7.2.1, z7.2.2.1, mrefused, z7.2.2.2.1)))))) else (wl_bnd (m_X4_bad mrefused (-2)) (fun z30 => (z30.1, mlisted, mfollowing, mdayThen, z30.2, mtempers)))))) else (wl_bnd (m_X4_bad mrefused (-2)) (fun z3 => (z3.1, mlisted, mfollowing, mdayThen, z3.2, mtempers))))))
set_option maxHeartbeats 4000000 in
set_option maxRecDepth 100000 in
theorem c_X4_comesTrue {l : Launch} {D : va_G} {E : Nat → ClassId} {a : Nat → Nat} {mabove : Int64} {mbelow : Int64} {mlisted : Int32} {mfollowing : Int32} {mdayThen : Int32} {mbytesLong : Nat} {mtokenAt : Nat} {mtokenLong : Nat} {mtoken : Int32} {mvalue : Int32} {mnow : (Nat → Int32)} {mkept : (Nat → Int32)} {misKept : (Nat → Int32)} {mrefused : (Nat → Int32)} {mtempers : (Nat → Int32)} {mhis : (Nat → Int32)} {mtheirs : (Nat → Int32)} {mmanyBy : (Nat → Int32)} {mbytes : (Nat → Int32)} {manew : (Nat → Int32)} {mvalues : (Nat → Int32)} {m : Int32} {what : Int32} {P : Nat} (h0 : mnow 0 = nI P) (hP7 : P ≤ 7) : wl_Met (τ := Int32 × Int32 × Int32 × Int32 × (Nat → Int32) × (Nat → Int32)) l D E yX4_comesTrue cX4_comesTrue 9 (some .int) ({ frames := 5, cells := 0, slots := 0, locals := 116 } : Room) [.ref (a 0), .int m, .int what] (wM E a mabove mbelow mlisted mfollowing mdayThen mbytesLong mtokenAt mtokenLong mtoken mvalue mnow mkept misKept mrefused mtempers mhis mtheirs mmanyBy mbytes manew mvalues) (fun z => some (.int z.1)) (fun z => (wM E a mabove mbelow z.2.1 z.2.2.1 z.2.2.2.1 mbytesLong mtokenAt mtokenLong mtoken mvalue mnow mkept misKept z.2.2.2.2.1 z.2.2.2.2.2 mhis mtheirs mmanyBy mbytes manew mvalues)) (m_X4_comesTrue mlisted mfollowing mdayThen mnow mrefused mtempers m what P) := by
  refine wl_enter (own := RX4) (by decide +kernel) rfl (Nat.le_of_ble_eq_true rfl) ?_
  intro p0 e0 s0 m0 bl0 mt0 c0 A hC hr hlk hA H locs hP hD hS ls hl
  have hx := hC.1
  have hb := hC.2.1
  have hl : lv_has ls 9 [(0, .ref (a 0)), (1, .int m), (2, .int what)] := hl
  have hm := m_X4_comesTrue.eq_1 mlisted mfollowing mdayThen mnow mrefused mtempers m what P
  refine lv_iload_n hx hb dX4_comesTrue_0 rfl (lv_at hl 1 rfl) ?_
  refine lv_i2l (v := m.toInt64) hx hb dX4_comesTrue_1 rfl ?_
  refine lv_lconst (v := lN 1) hx hb dX4_comesTrue_2 (by decide +kernel) ?_
  refine lv_ldc2 hx hb hC.2.2.2.1 (hC.2.2.2.2.1 _ mw_420) dX4_comesTrue_3 ?_
  refine wl_reL (show (30 : Int64) = lN 30 by decide +kernel) ?_
  refine wl_callPi hC (c_X4_in (v := m.toInt64) (low := (lN 1)) (high := (lN 30)) ) lk_RX4_56 rfl ⟨rfl, rfl, Nat.le_of_ble_eq_true rfl, Nat.le_of_ble_eq_true rfl⟩ hP hS hA hl.1 rfl (Nat.le_of_ble_eq_true rfl) dX4_comesTrue_6 ⟨Nat.zero_le _, Nat.zero_le _⟩ (fun z1 hz1 H locs hP hS => ?_)
  have hm := wl_bz hm hz1
  refine wl_if_eq_b hx hb (tgt := 22) dX4_comesTrue_9 (by decide) (fun c2 => ?_) (fun c2 => ?_)
  · have hm := hm.trans (if_neg c2)
    refine lv_aload_n hx hb dX4_comesTrue_22 rfl (lv_at hl 0 rfl) ?_
    refine lv_bipush (v := (-2)) hx hb dX4_comesTrue_23 (by decide +kernel) ?_
    refine wl_callVi hC (c_X4_bad (tells := (-2)) ) lk_RX4_62 rfl ⟨rfl, rfl, Nat.le_of_ble_eq_true rfl, Nat.le_of_ble_eq_true rfl⟩ hP hD hS hA 0 rfl (T1 := 21) rfl hl.1 rfl (Nat.le_of_ble_eq_true rfl) dX4_comesTrue_25 ⟨Nat.zero_le _, Nat.zero_le _⟩ (fun z3 hz3 H locs hP hD hS => ?_)
    have hm := wl_bz hm hz3
    exact wl_iret hC hr hlk hm rfl hP hD hS dX4_comesTrue_28
  · have hm := hm.trans (if_pos c2)
    obtain ⟨ha4, hb4_, hc4_⟩ := in_spec (a := 1) (b := 30) (by decide) (by decide) (hz1.symm.trans c2)
    have hl : lv_has ls 9 [(0, .ref (a 0)), (1, .int (nI (cl m))), (2, .int what)] := by rw [← ha4]; exact hl
    refine lv_iload_n hx hb dX4_comesTrue_12 rfl (lv_at hl 2 rfl) ?_
    refine lv_i2l (v := what.toInt64) hx hb dX4_comesTrue_13 rfl ?_
    refine lv_lconst (v := lN 0) hx hb dX4_comesTrue_14 (by decide +kernel) ?_
    refine lv_lconst (v := lN 1) hx hb dX4_comesTrue_15 (by decide +kernel) ?_
    refine wl_callPi hC (c_X4_in (v := what.toInt64) (low := (lN 0)) (high := (lN 1)) ) lk_RX4_56 rfl ⟨rfl, rfl, Nat.le_of_ble_eq_true rfl, Nat.le_of_ble_eq_true rfl⟩ hP hS hA hl.1 rfl (Nat.le_of_ble_eq_true rfl) dX4_comesTrue_16 ⟨Nat.zero_le _, Nat.zero_le _⟩ (fun z5 hz5 H locs hP hS => ?_)
    have hm := wl_bz hm hz5
    refine wl_if_ne_b hx hb (tgt := 29) dX4_comesTrue_19 (by decide) (fun c6 => ?_) (fun c6 => ?_)
    · have hm := hm.trans (if_pos c6)
      refine lv_iconst (v := (nI 0)) hx hb dX4_comesTrue_29 (by decide +kernel) ?_
      refine lv_istore_n (lv' := [(3, .int (nI 0)), (0, .ref (a 0)), (1, .int (nI (cl m))), (2, .int what)]) hx hb dX4_comesTrue_30 rfl hl (by decide) rfl (fun ls hl => ?_)
      refine lv_iconst (v := (nI 0)) hx hb dX4_comesTrue_31 (by decide +kernel) ?_
      refine lv_istore (lv' := [(4, .int (nI 0)), (3, .int (nI 0)), (0, .ref (a 0)), (1, .int (nI (cl m))), (2, .int what)]) hx hb dX4_comesTrue_32 hl (by decide) rfl (fun ls hl => ?_)
      refine lv_iconst (v := (nI 0)) hx hb dX4_comesTrue_34 (by decide +kernel) ?_
      refine lv_istore (lv' := [(5, .int (nI 0)), (4, .int (nI 0)), (3, .int (nI 0)), (0, .ref (a 0)), (1, .int (nI (cl m))), (2, .int what)]) hx hb dX4_comesTrue_35 hl (by decide) rfl (fun ls hl => ?_)
      obtain ⟨u7, hu7, hk7⟩ := wl_bx hm
      refine wl_for (D := D) (A := A) (H0 := s0.heap) (m_X4_comesTrue_l37 mnow m P) P 0 P (mlisted, mfollowing, mdayThen, mtempers, (nI 0), (nI 0)) 37 9 (fun k7 v7 => [(0, .ref (a 0)), (1, .int (nI (cl m))), (2, .int what), (3, .int v7.2.2.2.2.1), (4, .int v7.2.2.2.2.2), (5, .int (nI k7))]) (fun k7 v7 => (wM E a mabove mbelow v7.1 v7.2.1 v7.2.2.1 mbytesLong mtokenAt mtokenLong mtoken mvalue mnow mkept misKept mrefused v7.2.2.2.1 mhis mtheirs mmanyBy mbytes manew mvalues)) (fun k7 v7 => True) (by omega) trivial ?_ ?_ hP hD hS (lv_sub hl [3, 4, 5, 2, 1, 0] rfl)
      · intro z7 hv7 hI7 ls H locs hP hD hS hl
        have hm := hk7 z7 (hu7.trans hv7)
        refine lv_iload hx hb dX4_comesTrue_37 (lv_at hl 5 rfl) ?_
        refine lv_aload_n hx hb dX4_comesTrue_39 rfl (lv_at hl 0 rfl) ?_
        refine wl_callVi hC (c_X4_many (P := P) (h0)) lk_RX4_52 rfl ⟨rfl, rfl, Nat.le_of_ble_eq_true rfl, Nat.le_of_ble_eq_true rfl⟩ hP hD hS hA 0 rfl (T1 := 21) rfl hl.1 rfl (Nat.le_of_ble_eq_true rfl) dX4_comesTrue_40 ⟨Nat.zero_le _, Nat.zero_le _⟩ (fun z15 hz15 H locs hP hD hS => ?_)
        have hz15 := hz15.symm
        subst hz15
        refine wl_icmp_ge_n hx hb (by first | omega | exact Nat.lt_of_le_of_lt Nat.and_le_right (by omega) | exact Nat.pow_lt_pow_right (by omega) (by omega) | exact Nat.lt_trans (by assumption) (Nat.pow_lt_pow_right (by omega) (by omega))) (by first | omega | exact Nat.lt_of_le_of_lt Nat.and_le_right (by omega) | exact Nat.pow_lt_pow_right (by omega) (by omega) | exact Nat.lt_trans (by assumption) (Nat.pow_lt_pow_right (by omega) (by omega))) (tgt := 98) dX4_comesTrue_43 (by decide) (fun c16 => ?_) (fun c16 => absurd (by omega) c16)
        refine lv_iconst (v := (nI 0)) hx hb dX4_comesTrue_98 (by decide +kernel) ?_
        refine lv_istore (lv' := [(5, .int (nI 0)), (0, .ref (a 0)), (1, .int (nI (cl m))), (2, .int what), (3, .int z7.2.2.2.2.1), (4, .int z7.2.2.2.2.2)]) hx hb dX4_comesTrue_99 hl (by decide) rfl (fun ls hl => ?_)
        refine lv_iconst (v := (-1)) hx hb dX4_comesTrue_101 (by decide +kernel) ?_
        refine lv_istore (lv' := [(6, .int (-1)), (5, .int (nI 0)), (0, .ref (a 0)), (1, .int (nI (cl m))), (2, .int what), (3, .int z7.2.2.2.2.1), (4, .int z7.2.2.2.2.2)]) hx hb dX4_comesTrue_102 hl (by decide) rfl (fun ls hl => ?_)
        refine lv_iconst (v := (nI 0)) hx hb dX4_comesTrue_104 (by decide +kernel) ?_
        refine lv_istore (lv' := [(7, .int (nI 0)), (6, .int (-1)), (5, .int (nI 0)), (0, .ref (a 0)), (1, .int (nI (cl m))), (2, .int what), (3, .int z7.2.2.2.2.1), (4, .int z7.2.2.2.2.2)]) hx hb dX4_comesTrue_105 hl (by decide) rfl (fun ls hl => ?_)
        obtain ⟨u17, hu17, hk17⟩ := wl_bx hm
        refine wl_for (D := D) (A := A) (H0 := s0.heap) (m_X4_comesTrue_l107 z7) (2 ^ P) 0 (2 ^ P) ((nI 0), (-1)) 107 9 (fun k17 v17 => [(0, .ref (a 0)), (2, .int what), (3, .int z7.2.2.2.2.1), (4, .int z7.2.2.2.2.2), (5, .int v17.1), (6, .int v17.2), (7, .int (nI k17))]) (fun k17 v17 => (wM E a mabove mbelow z7.1 z7.2.1 z7.2.2.1 mbytesLong mtokenAt mtokenLong mtoken mvalue mnow mkept misKept mrefused z7.2.2.2.1 mhis mtheirs mmanyBy mbytes manew mvalues)) (fun k17 v17 => True) (by omega) trivial ?_ ?_ hP hD hS (lv_sub hl [3, 5, 6, 7, 2, 1, 0] rfl)
        · intro z17 hv17 hI17 ls H locs hP hD hS hl
          have hm := hk17 z17 (hu17.trans hv17)
          refine lv_iload hx hb dX4_comesTrue_107 (lv_at hl 6 rfl) ?_
          refine lv_iconst (v := (nI 1)) hx hb dX4_comesTrue_109 (by decide +kernel) ?_
          refine lv_aload_n hx hb dX4_comesTrue_110 rfl (lv_at hl 0 rfl) ?_
          refine wl_callVi hC (c_X4_many (P := P) (h0)) lk_RX4_52 rfl ⟨rfl, rfl, Nat.le_of_ble_eq_true rfl, Nat.le_of_ble_eq_true rfl⟩ hP hD hS hA 0 rfl (T1 := 21) rfl hl.1 rfl (Nat.le_of_ble_eq_true rfl) dX4_comesTrue_111 ⟨Nat.zero_le _, Nat.zero_le _⟩ (fun z27 hz27 H locs hP hD hS => ?_)
          have hz27 := hz27.symm
          subst hz27
          refine lv_ishl hx hb dX4_comesTrue_114 ?_
          refine wl_re (wl_pow (by omega)) ?_
          refine wl_icmp_ge_n hx hb (by first | omega | exact Nat.lt_of_le_of_lt Nat.and_le_right (by omega) | exact Nat.pow_lt_pow_right (by omega) (by omega) | exact Nat.lt_trans (by assumption) (Nat.pow_lt_pow_right (by omega) (by omega))) (by first | omega | exact Nat.lt_of_le_of_lt Nat.and_le_right (by omega) | exact Nat.pow_lt_pow_right (by omega) (by omega) | exact Nat.lt_trans (by assumption) (Nat.pow_lt_pow_right (by omega) (by omega))) (tgt := 184) dX4_comesTrue_115 (by decide) (fun c28 => ?_) (fun c28 => absurd (by omega) c28)
          refine lv_iload_n hx hb dX4_comesTrue_184 rfl (lv_at hl 1 rfl) ?_
          refine lv_if_ne hx hb (tgt := 193) dX4_comesTrue_185 (by decide) (fun c29 => ?_) (fun c29 => ?_)
          · have hm := hm.trans (if_neg c29)
            refine lv_iload hx hb dX4_comesTrue_193 (lv_at hl 5 rfl) ?_
            exact wl_iret hC hr hlk hm rfl hP hD hS dX4_comesTrue_195
          · have hm := hm.trans (if_pos c29)
            refine lv_iload hx hb dX4_comesTrue_188 (lv_at hl 4 rfl) ?_
            refine lv_goto (tgt := 195) hx hb dX4_comesTrue_190 (by decide) ?_
            exact wl_iret hC hr hlk hm rfl hP hD hS dX4_comesTrue_195
        · intro k17 v17 hlo17 hhi17 hI17 IH17 ls H locs hP hD hS hl
          have hb17 := m_X4_comesTrue_l107.eq_1 z7 k17 v17
          refine lv_iload hx hb dX4_comesTrue_107 (lv_at hl 6 rfl) ?_
          refine lv_iconst (v := (nI 1)) hx hb dX4_comesTrue_109 (by decide +kernel) ?_
          refine lv_aload_n hx hb dX4_comesTrue_110 rfl (lv_at hl 0 rfl) ?_
          refine wl_callVi hC (c_X4_many (P := P) (h0)) lk_RX4_52 rfl ⟨rfl, rfl, Nat.le_of_ble_eq_true rfl, Nat.le_of_ble_eq_true rfl⟩ hP hD hS hA 0 rfl (T1 := 21) rfl hl.1 rfl (Nat.le_of_ble_eq_true rfl) dX4_comesTrue_111 ⟨Nat.zero_le _, Nat.zero_le _⟩ (fun z18 hz18 H locs hP hD hS => ?_)
          have hz18 := hz18.symm
          subst hz18
          refine lv_ishl hx hb dX4_comesTrue_114 ?_
          refine wl_re (wl_pow (by omega)) ?_
          refine wl_icmp_ge_n hx hb (by first | omega | exact Nat.lt_of_le_of_lt Nat.and_le_right (by omega) | exact Nat.pow_lt_pow_right (by omega) (by omega) | exact Nat.lt_trans (by assumption) (Nat.pow_lt_pow_right (by omega) (by omega))) (by first | omega | exact Nat.lt_of_le_of_lt Nat.and_le_right (by omega) | exact Nat.pow_lt_pow_right (by omega) (by omega) | exact Nat.lt_trans (by assumption) (Nat.pow_lt_pow_right (by omega) (by omega))) (tgt := 184) dX4_comesTrue_115 (by decide) (fun c19 => absurd c19 (by omega)) (fun c19 => ?_)
          refine lv_iload hx hb dX4_comesTrue_118 (lv_at hl 6 rfl) ?_
          refine lv_iload_n hx hb dX4_comesTrue_120 rfl (lv_at hl 2 rfl) ?_
          refine lv_iconst (v := (-1)) hx hb dX4_comesTrue_121 (by decide +kernel) ?_
          refine lv_ixor hx hb dX4_comesTrue_122 ?_
          refine lv_iand hx hb dX4_comesTrue_123 ?_
          obtain ⟨u20, hj20, hk20⟩ := wl_bx hb17
          refine wl_J u20 142 (fun z20 => [.int (wl_b z20)]) 9 (fun z20 => [(0, .ref (a 0)), (2, .int what), (3, .int z7.2.2.2.2.1), (4, .int z7.2.2.2.2.2), (5, .int v17.1), (6, .int v17.2), (7, .int (nI k17))]) D A s0.heap (fun z20 => (wM E a mabove mbelow z7.1 z7.2.1 z7.2.2.1 mbytesLong mtokenAt mtokenLong mtoken mvalue mnow mkept misKept mrefused z7.2.2.2.1 mhis mtheirs mmanyBy mbytes manew mvalues)) (fun z20 hz20 ls H locs hP hD hS hl => ?_) (fun J20 => ?_)
          · have hb17 := hk20 z20 hz20
            refine lv_istore (lv' := [(8, .int (wl_b z20)), (0, .ref (a 0)), (2, .int what), (3, .int z7.2.2.2.2.1), (4, .int z7.2.2.2.2.2), (5, .int v17.1), (6, .int v17.2), (7, .int (nI k17))]) hx hb dX4_comesTrue_142 hl (by decide) rfl (fun ls hl => ?_)
            refine lv_iload hx hb dX4_comesTrue_144 (lv_at hl 0 rfl) ?_
            obtain ⟨u23, hj23, hk23⟩ := wl_bx hb17
            refine wl_J u23 161 (fun z23 => [.int z23]) 9 (fun z23 => [(8, .int (wl_b z20)), (0, .ref (a 0)), (2, .int what), (3, .int z7.2.2.2.2.1), (4, .int z7.2.2.2.2.2), (5, .int v17.1), (7, .int (nI k17))]) D A s0.heap (fun z23 => (wM E a mabove mbelow z7.1 z7.2.1 z7.2.2.1 mbytesLong mtokenAt mtokenLong mtoken mvalue mnow mkept misKept mrefused z7.2.2.2.1 mhis mtheirs mmanyBy mbytes manew mvalues)) (fun z23 hz23 ls H locs hP hD hS hl => ?_) (fun J23 => ?_)
            · have hb17 := hk23 z23 hz23
              refine lv_istore (lv' := [(6, .int z23), (8, .int (wl_b z20)), (0, .ref (a 0)), (2, .int what), (3, .int z7.2.2.2.2.1), (4, .int z7.2.2.2.2.2), (5, .int v17.1), (7, .int (nI k17))]) hx hb dX4_comesTrue_161 hl (by decide) rfl (fun ls hl => ?_)
              refine lv_iload hx hb dX4_comesTrue_163 (lv_at hl 6 rfl) ?_
              refine lv_iload hx hb dX4_comesTrue_165 (lv_at hl 1 rfl) ?_
              refine wl_if_eq_b hx hb (tgt := 174) dX4_comesTrue_167 (by decide) (fun c26 => ?_) (fun c26 => ?_)
              · have hb17 := hb17.trans (if_neg c26)
                refine lv_iconst (v := (nI 0)) hx hb dX4_comesTrue_174 (by decide +kernel) ?_
                refine lv_iadd hx hb dX4_comesTrue_175 ?_
                refine lv_istore (lv' := [(5, .int (v17.1 + (nI 0))), (6, .int z23), (8, .int (wl_b z20)), (0, .ref (a 0)), (2, .int what), (3, .int z7.2.2.2.2.1), (4, .int z7.2.2.2.2.2), (7, .int (nI k17))]) hx hb dX4_comesTrue_176 hl (by decide) rfl (fun ls hl => ?_)
                refine lv_iinc (v := (nI (k17 + 1))) (lv' := [(7, .int (nI (k17 + 1))), (5, .int (v17.1 + (nI 0))), (6, .int z23), (8, .int (wl_b z20)), (0, .ref (a 0)), (2, .int what), (3, .int z7.2.2.2.2.1), (4, .int z7.2.2.2.2.2)]) hx hb dX4_comesTrue_178 hl (k := 7) rfl (wl_inc k17 1) (by decide) rfl (fun ls hl => ?_)
                refine lv_goto (tgt := 107) hx hb dX4_comesTrue_181 (by decide) ?_
                exact IH17 _ hb17 trivial ls H locs hP hD hS (lv_sub hl [4, 5, 6, 7, 1, 2, 0] rfl)
              · have hb17 := hb17.trans (if_pos c26)
                refine lv_iconst (v := (nI 1)) hx hb dX4_comesTrue_170 (by decide +kernel) ?_
                refine lv_goto (tgt := 175) hx hb dX4_comesTrue_171 (by decide) ?_
                refine lv_iadd hx hb dX4_comesTrue_175 ?_
                refine lv_istore (lv' := [(5, .int (v17.1 + (nI 1))), (6, .int z23), (8, .int (wl_b z20)), (0, .ref (a 0)), (2, .int what), (3, .int z7.2.2.2.2.1), (4, .int z7.2.2.2.2.2), (7, .int (nI k17))]) hx hb dX4_comesTrue_176 hl (by decide) rfl (fun ls hl => ?_)
                refine lv_iinc (v := (nI (k17 + 1))) (lv' := [(7, .int (nI (k17 + 1))), (5, .int (v17.1 + (nI 1))), (6, .int z23), (8, .int (wl_b z20)), (0, .ref (a 0)), (2, .int what), (3, .int z7.2.2.2.2.1), (4, .int z7.2.2.2.2.2)]) hx hb dX4_comesTrue_178 hl (k := 7) rfl (wl_inc k17 1) (by decide) rfl (fun ls hl => ?_)
                refine lv_goto (tgt := 107) hx hb dX4_comesTrue_181 (by decide) ?_
                exact IH17 _ hb17 trivial ls H locs hP hD hS (lv_sub hl [4, 5, 6, 7, 1, 2, 0] rfl)
            · refine wl_if_eq_b hx hb (tgt := 159) dX4_comesTrue_146 (by decide) (fun c24 => ?_) (fun c24 => ?_)
              · have hj23 := hj23.trans (if_neg c24)
                refine lv_iload hx hb dX4_comesTrue_159 (lv_at hl 6 rfl) ?_
                exact J23 _ hj23 ls H locs hP hD hS (lv_sub hl [0, 1, 2, 3, 4, 5, 7] rfl)
              · have hj23 := hj23.trans (if_pos c24)
                refine lv_iload hx hb dX4_comesTrue_149 (lv_at hl 5 rfl) ?_
                refine lv_if_ne hx hb (tgt := 159) dX4_comesTrue_151 (by decide) (fun c25 => ?_) (fun c25 => ?_)
                · have hj23 := hj23.trans (if_neg c25)
                  refine lv_iload hx hb dX4_comesTrue_159 (lv_at hl 6 rfl) ?_
                  exact J23 _ hj23 ls H locs hP hD hS (lv_sub hl [0, 1, 2, 3, 4, 5, 7] rfl)
                · have hj23 := hj23.trans (if_pos c25)
                  refine lv_iload hx hb dX4_comesTrue_154 (lv_at hl 7 rfl) ?_
                  refine lv_goto (tgt := 161) hx hb dX4_comesTrue_156 (by decide) ?_
                  exact J23 _ hj23 ls H locs hP hD hS (lv_sub hl [0, 1, 2, 3, 4, 5, 7] rfl)
          · refine lv_if_ne hx hb (tgt := 141) dX4_comesTrue_124 (by decide) (fun c21 => ?_) (fun c21 => ?_)
            · have hj20 := hj20.trans (if_neg c21)
              refine lv_iconst (v := (nI 0)) hx hb dX4_comesTrue_141 (by decide +kernel) ?_
              exact J20 _ hj20 ls H locs hP hD hS (lv_sub hl [0, 1, 2, 3, 4, 5, 6] rfl)
            · have hj20 := hj20.trans (if_pos c21)
              refine lv_iload hx hb dX4_comesTrue_127 (lv_at hl 3 rfl) ?_
              refine lv_iload hx hb dX4_comesTrue_129 (lv_at hl 6 rfl) ?_
              refine lv_iconst (v := (-1)) hx hb dX4_comesTrue_131 (by decide +kernel) ?_
              refine lv_ixor hx hb dX4_comesTrue_132 ?_
              refine lv_iand hx hb dX4_comesTrue_133 ?_
              refine lv_if_ne hx hb (tgt := 141) dX4_comesTrue_134 (by decide) (fun c22 => ?_) (fun c22 => ?_)
              · have hj20 := hj20.trans (if_neg c22)
                refine lv_iconst (v := (nI 0)) hx hb dX4_comesTrue_141 (by decide +kernel) ?_
                exact J20 _ hj20 ls H locs hP hD hS (lv_sub hl [0, 1, 2, 3, 4, 5, 6] rfl)
              · have hj20 := hj20.trans (if_pos c22)
                refine lv_iconst (v := (nI 1)) hx hb dX4_comesTrue_137 (by decide +kernel) ?_
                refine lv_goto (tgt := 142) hx hb dX4_comesTrue_138 (by decide) ?_
                exact J20 _ hj20 ls H locs hP hD hS (lv_sub hl [0, 1, 2, 3, 4, 5, 6] rfl)
      · intro k7 v7 hlo7 hhi7 hI7 IH7 ls H locs hP hD hS hl
        have hb7 := m_X4_comesTrue_l37.eq_1 mnow m P k7 v7
        refine lv_iload hx hb dX4_comesTrue_37 (lv_at hl 5 rfl) ?_
        refine lv_aload_n hx hb dX4_comesTrue_39 rfl (lv_at hl 0 rfl) ?_
        refine wl_callVi hC (c_X4_many (P := P) (h0)) lk_RX4_52 rfl ⟨rfl, rfl, Nat.le_of_ble_eq_true rfl, Nat.le_of_ble_eq_true rfl⟩ hP hD hS hA 0 rfl (T1 := 21) rfl hl.1 rfl (Nat.le_of_ble_eq_true rfl) dX4_comesTrue_40 ⟨Nat.zero_le _, Nat.zero_le _⟩ (fun z8 hz8 H locs hP hD hS => ?_)
        have hz8 := hz8.symm
        subst hz8
        refine wl_icmp_ge_n hx hb (by first | omega | exact Nat.lt_of_le_of_lt Nat.and_le_right (by omega) | exact Nat.pow_lt_pow_right (by omega) (by omega) | exact Nat.lt_trans (by assumption) (Nat.pow_lt_pow_right (by omega) (by omega))) (by first | omega | exact Nat.lt_of_le_of_lt Nat.and_le_right (by omega) | exact Nat.pow_lt_pow_right (by omega) (by omega) | exact Nat.lt_trans (by assumption) (Nat.pow_lt_pow_right (by omega) (by omega))) (tgt := 98) dX4_comesTrue_43 (by decide) (fun c9 => absurd c9 (by omega)) (fun c9 => ?_)
        refine lv_iload_n hx hb dX4_comesTrue_46 rfl (lv_at hl 3 rfl) ?_
        refine lv_aload_n hx hb dX4_comesTrue_47 rfl (lv_at hl 0 rfl) ?_
        refine lv_iload hx hb dX4_comesTrue_48 (lv_at hl 5 rfl) ?_
        refine lv_iload_n hx hb dX4_comesTrue_50 rfl (lv_at hl 1 rfl) ?_
        refine lv_iconst (v := (nI 1)) hx hb dX4_comesTrue_51 (by decide +kernel) ?_
        refine wl_callVi hC (c_X4_doesItIn (p := k7) (days := (cl m)) (followed := true) (P := P) (h0) (by first | assumption | omega) (by first | assumption | omega) (by first | assumption | omega)) lk_RX4_136 rfl ⟨rfl, rfl, Nat.le_of_ble_eq_true rfl, Nat.le_of_ble_eq_true rfl⟩ hP hD hS hA 0 rfl (T1 := 21) rfl hl.1 rfl (Nat.le_of_ble_eq_true rfl) dX4_comesTrue_52 ⟨Nat.zero_le _, Nat.zero_le _⟩ (fun z10 hz10 H locs hP hD hS => ?_)
        have hb7 := wl_bz hb7 hz10
        obtain ⟨u11, hj11, hk11⟩ := wl_bx hb7
        refine wl_J u11 66 (fun z11 => [.int z11, .int v7.2.2.2.2.1]) 9 (fun z11 => [(0, .ref (a 0)), (1, .int (nI (cl m))), (2, .int what), (4, .int v7.2.2.2.2.2), (5, .int (nI k7))]) D A s0.heap (fun z11 => (wM E a mabove mbelow z10.2.1 z10.2.2.1 z10.2.2.2.1 mbytesLong mtokenAt mtokenLong mtoken mvalue mnow mkept misKept mrefused z10.2.2.2.2 mhis mtheirs mmanyBy mbytes manew mvalues)) (fun z11 hz11 ls H locs hP hD hS hl => ?_) (fun J11 => ?_)
        · have hb7 := hk11 z11 hz11
          refine lv_ior hx hb dX4_comesTrue_66 ?_
          refine lv_istore_n (lv' := [(3, .int (v7.2.2.2.2.1 ||| z11)), (0, .ref (a 0)), (1, .int (nI (cl m))), (2, .int what), (4, .int v7.2.2.2.2.2), (5, .int (nI k7))]) hx hb dX4_comesTrue_67 rfl hl (by decide) rfl (fun ls hl => ?_)
          refine lv_iload hx hb dX4_comesTrue_68 (lv_at hl 4 rfl) ?_
          refine lv_aload_n hx hb dX4_comesTrue_70 rfl (lv_at hl 1 rfl) ?_
          refine lv_iload hx hb dX4_comesTrue_71 (lv_at hl 5 rfl) ?_
          refine lv_iload_n hx hb dX4_comesTrue_73 rfl (lv_at hl 2 rfl) ?_
          refine lv_iconst (v := (nI 0)) hx hb dX4_comesTrue_74 (by decide +kernel) ?_
          refine wl_callVi hC (c_X4_doesItIn (p := k7) (days := (cl m)) (followed := false) (P := P) (h0) (by first | assumption | omega) (by first | assumption | omega) (by first | assumption | omega)) lk_RX4_136 rfl ⟨rfl, rfl, Nat.le_of_ble_eq_true rfl, Nat.le_of_ble_eq_true rfl⟩ hP hD hS hA 0 rfl (T1 := 21) rfl hl.1 rfl (Nat.le_of_ble_eq_true rfl) dX4_comesTrue_75 ⟨Nat.zero_le _, Nat.zero_le _⟩ (fun z13 hz13 H locs hP hD hS => ?_)
          have hb7 := wl_bz hb7 hz13
          refine wl_if_eq_b hx hb (tgt := 88) dX4_comesTrue_78 (by decide) (fun c14 => ?_) (fun c14 => ?_)
          · have hb7 := hb7.trans (if_neg c14)
            refine lv_iconst (v := (nI 0)) hx hb dX4_comesTrue_88 (by decide +kernel) ?_
            refine lv_ior hx hb dX4_comesTrue_89 ?_
            refine lv_istore (lv' := [(4, .int (v7.2.2.2.2.2 ||| (nI 0))), (3, .int (v7.2.2.2.2.1 ||| z11)), (0, .ref (a 0)), (1, .int (nI (cl m))), (2, .int what), (5, .int (nI k7))]) hx hb dX4_comesTrue_90 hl (by decide) rfl (fun ls hl => ?_)
            refine lv_iinc (v := (nI (k7 + 1))) (lv' := [(5, .int (nI (k7 + 1))), (4, .int (v7.2.2.2.2.2 ||| (nI 0))), (3, .int (v7.2.2.2.2.1 ||| z11)), (0, .ref (a 0)), (1, .int (nI (cl m))), (2, .int what)]) hx hb dX4_comesTrue_92 hl (k := 5) rfl (wl_inc k7 1) (by decide) rfl (fun ls hl => ?_)
            refine lv_goto (tgt := 37) hx hb dX4_comesTrue_95 (by decide) ?_
            exact IH7 _ hb7 trivial ls H locs hP hD hS (lv_sub hl [3, 4, 5, 2, 1, 0] rfl)
          · have hb7 := hb7.trans (if_pos c14)
            refine lv_iconst (v := (nI 1)) hx hb dX4_comesTrue_81 (by decide +kernel) ?_
            refine lv_iload hx hb dX4_comesTrue_82 (lv_at hl 5 rfl) ?_
            refine lv_ishl hx hb dX4_comesTrue_84 ?_
            refine lv_goto (tgt := 89) hx hb dX4_comesTrue_85 (by decide) ?_
            refine lv_ior hx hb dX4_comesTrue_89 ?_
            refine lv_istore (lv' := [(4, .int (v7.2.2.2.2.2 ||| ((nI 1) <<< ((nI k7) &&& 31)))), (3, .int (v7.2.2.2.2.1 ||| z11)), (0, .ref (a 0)), (1, .int (nI (cl m))), (2, .int what), (5, .int (nI k7))]) hx hb dX4_comesTrue_90 hl (by decide) rfl (fun ls hl => ?_)
            refine lv_iinc (v := (nI (k7 + 1))) (lv' := [(5, .int (nI (k7 + 1))), (4, .int (v7.2.2.2.2.2 ||| ((nI 1) <<< ((nI k7) &&& 31)))), (3, .int (v7.2.2.2.2.1 ||| z11)), (0, .ref (a 0)), (1, .int (nI (cl m))), (2, .int what)]) hx hb dX4_comesTrue_92 hl (k := 5) rfl (wl_inc k7 1) (by decide) rfl (fun ls hl => ?_)
            refine lv_goto (tgt := 37) hx hb dX4_comesTrue_95 (by decide) ?_
            exact IH7 _ hb7 trivial ls H locs hP hD hS (lv_sub hl [3, 4, 5, 2, 1, 0] rfl)
        · refine wl_if_eq_b hx hb (tgt := 65) dX4_comesTrue_55 (by decide) (fun c12 => ?_) (fun c12 => ?_)
          · have hj11 := hj11.trans (if_neg c12)
            refine lv_iconst (v := (nI 0)) hx hb dX4_comesTrue_65 (by decide +kernel) ?_
            exact J11 _ hj11 ls H locs hP hD hS (lv_sub hl [0, 1, 2, 4, 5] rfl)
          · have hj11 := hj11.trans (if_pos c12)
            refine lv_iconst (v := (nI 1)) hx hb dX4_comesTrue_58 (by decide +kernel) ?_
            refine lv_iload hx hb dX4_comesTrue_59 (lv_at hl 5 rfl) ?_
            refine lv_ishl hx hb dX4_comesTrue_61 ?_
            refine lv_goto (tgt := 66) hx hb dX4_comesTrue_62 (by decide) ?_
            exact J11 _ hj11 ls H locs hP hD hS (lv_sub hl [0, 1, 2, 4, 5] rfl)
    · have hm := hm.trans (if_neg c6)
      refine lv_aload_n hx hb dX4_comesTrue_22 rfl (lv_at hl 0 rfl) ?_
      refine lv_bipush (v := (-2)) hx hb dX4_comesTrue_23 (by decide +kernel) ?_
      refine wl_callVi hC (c_X4_bad (tells := (-2)) ) lk_RX4_62 rfl ⟨rfl, rfl, Nat.le_of_ble_eq_true rfl, Nat.le_of_ble_eq_true rfl⟩ hP hD hS hA 0 rfl (T1 := 21) rfl hl.1 rfl (Nat.le_of_ble_eq_true rfl) dX4_comesTrue_25 ⟨Nat.zero_le _, Nat.zero_le _⟩ (fun z30 hz30 H locs hP hD hS => ?_)
      have hm := wl_bz hm hz30
      exact wl_iret hC hr hlk hm rfl hP hD hS dX4_comesTrue_28
def m_X4_readings_l19 (mnow : (Nat → Int32)) (k2 : Nat) (z1 : Int32 × Int32 × Int32 × (Nat → Int32)) (k4 : Nat) (v4 : Bool) : Bool := (if v4 = true then (wl_bnd (m_X4_actOf z1.2.1 z1.2.2.1 mnow z1.2.2.2 k4) (fun z8 => (wl_bnd ((if z8 < (nI k2) then false else true) : Bool) (fun z9 => (wl_bnd (m_X4_has z1.1 k4) (fun z11 => (if z9 = z11 then true else false))))))) else false)
def m_X4_readings_l8 (mnow : (Nat → Int32)) (P : Nat) (z1 : Int32 × Int32 × Int32 × (Nat → Int32)) (k2 : Nat) (v2 : Int32) : Int32 := (wl_bnd (wl_iter (m_X4_readings_l19 mnow k2 z1) P 0 true) (fun z4 => (if z4 = true then (v2 ||| ((nI 1) <<< ((nI k2) &&& 31))) else (v2 ||| (nI 0)))))
def m_X4_readings (mnow : (Nat → Int32)) (mtempers : (Nat → Int32)) (P : Nat) : Int32 × Int32 × Int32 × Int32 × (Nat → Int32) := (wl_bnd (m_X4_layHand mnow mtempers P) (fun z1 => (wl_bnd (wl_iter (m_X4_readings_l8 mnow P z1) 5 1 (nI 0)) (fun z2 => (z2, z1.1, z1.2.1, z1.2.2.1, z1.2.2.2)))))
set_option maxHeartbeats 4000000 in
set_option maxRecDepth 100000 in
theorem c_X4_readings {l : Launch} {D : va_G} {E : Nat → ClassId} {a : Nat → Nat} {mabove : Int64} {mbelow : Int64} {mlisted : Int32} {mfollowing : Int32} {mdayThen : Int32} {mbytesLong : Nat} {mtokenAt : Nat} {mtokenLong : Nat} {mtoken : Int32} {mvalue : Int32} {mnow : (Nat → Int32)} {mkept : (Nat → Int32)} {misKept : (Nat → Int32)} {mrefused : (Nat → Int32)} {mtempers : (Nat → Int32)} {mhis : (Nat → Int32)} {mtheirs : (Nat → Int32)} {mmanyBy : (Nat → Int32)} {mbytes : (Nat → Int32)} {manew : (Nat → Int32)} {mvalues : (Nat → Int32)} {P : Nat} (h0 : mnow 0 = nI P) (hP7 : P ≤ 7) : wl_Met (τ := Int32 × Int32 × Int32 × Int32 × (Nat → Int32)) l D E yX4_readings cX4_readings 5 (some .int) ({ frames := 2, cells := 0, slots := 0, locals := 47 } : Room) [.ref (a 0)] (wM E a mabove mbelow mlisted mfollowing mdayThen mbytesLong mtokenAt mtokenLong mtoken mvalue mnow mkept misKept mrefused mtempers mhis mtheirs mmanyBy mbytes manew mvalues) (fun z => some (.int z.1)) (fun z => (wM E a mabove mbelow z.2.1 z.2.2.1 z.2.2.2.1 mbytesLong mtokenAt mtokenLong mtoken mvalue mnow mkept misKept mrefused z.2.2.2.2 mhis mtheirs mmanyBy mbytes manew mvalues)) (m_X4_readings mnow mtempers P) := by
  refine wl_enter (own := RX4) (by decide +kernel) rfl (Nat.le_of_ble_eq_true rfl) ?_
  intro p0 e0 s0 m0 bl0 mt0 c0 A hC hr hlk hA H locs hP hD hS ls hl
  have hx := hC.1
  have hb := hC.2.1
  have hl : lv_has ls 5 [(0, .ref (a 0))] := hl
  have hm := m_X4_readings.eq_1 mnow mtempers P
  refine lv_iconst (v := (nI 0)) hx hb dX4_readings_0 (by decide +kernel) ?_
  refine lv_istore_n (lv' := [(1, .int (nI 0)), (0, .ref (a 0))]) hx hb dX4_readings_1 rfl hl (by decide) rfl (fun ls hl => ?_)
  refine lv_aload_n hx hb dX4_readings_2 rfl (lv_at hl 1 rfl) ?_
  refine wl_callVv hC (c_X4_layHand (P := P) (h0) (by first | assumption | omega)) lk_RX4_122 rfl ⟨rfl, rfl, Nat.le_of_ble_eq_true rfl, Nat.le_of_ble_eq_true rfl⟩ hP hD hS hA 0 rfl (T1 := 21) rfl hl.1 rfl (Nat.le_of_ble_eq_true rfl) dX4_readings_3 ⟨Nat.zero_le _, Nat.zero_le _⟩ (fun z1 hz1 H locs hP hD hS => ?_)
  have hm := wl_bz hm hz1
  refine lv_iconst (v := (nI 1)) hx hb dX4_readings_6 (by decide +kernel) ?_
  refine lv_istore_n (lv' := [(2, .int (nI 1)), (1, .int (nI 0)), (0, .ref (a 0))]) hx hb dX4_readings_7 rfl hl (by decide) rfl (fun ls hl => ?_)
  obtain ⟨u2, hu2, hk2⟩ := wl_bx hm
  refine wl_for (D := D) (A := A) (H0 := s0.heap) (m_X4_readings_l8 mnow P z1) 5 1 6 (nI 0) 8 5 (fun k2 v2 => [(0, .ref (a 0)), (1, .int v2), (2, .int (nI k2))]) (fun k2 v2 => (wM E a mabove mbelow z1.1 z1.2.1 z1.2.2.1 mbytesLong mtokenAt mtokenLong mtoken mvalue mnow mkept misKept mrefused z1.2.2.2 mhis mtheirs mmanyBy mbytes manew mvalues)) (fun k2 v2 => True) (by omega) trivial ?_ ?_ hP hD hS (lv_sub hl [2, 1, 0] rfl)
  · intro z2 hv2 hI2 ls H locs hP hD hS hl
    have hm := hk2 z2 (hu2.trans hv2)
    refine lv_iload_n hx hb dX4_readings_8 rfl (lv_at hl 2 rfl) ?_
    refine lv_bipush (v := (nI 6)) hx hb dX4_readings_9 (by decide +kernel) ?_
    refine wl_icmp_ge_n hx hb (by first | omega | exact Nat.lt_of_le_of_lt Nat.and_le_right (by omega) | exact Nat.pow_lt_pow_right (by omega) (by omega) | exact Nat.lt_trans (by assumption) (Nat.pow_lt_pow_right (by omega) (by omega))) (by first | omega | exact Nat.lt_of_le_of_lt Nat.and_le_right (by omega) | exact Nat.pow_lt_pow_right (by omega) (by omega) | exact Nat.lt_trans (by assumption) (Nat.pow_lt_pow_right (by omega) (by omega))) (tgt := 91) dX4_readings_11 (by decide) (fun c16 => ?_) (fun c16 => absurd (by omega) c16)
    refine lv_iload_n hx hb dX4_readings_91 rfl (lv_at hl 1 rfl) ?_
    exact wl_iret hC hr hlk hm rfl hP hD hS dX4_readings_92
  · intro k2 v2 hlo2 hhi2 hI2 IH2 ls H locs hP hD hS hl
    have hb2 := m_X4_readings_l8.eq_1 mnow P z1 k2 v2
    refine lv_iload_n hx hb dX4_readings_8 rfl (lv_at hl 2 rfl) ?_
    refine lv_bipush (v := (nI 6)) hx hb dX4_readings_9 (by decide +kernel) ?_
    refine wl_icmp_ge_n hx hb (by first | omega | exact Nat.lt_of_le_of_lt Nat.and_le_right (by omega) | exact Nat.pow_lt_pow_right (by omega) (by omega) | exact Nat.lt_trans (by assumption) (Nat.pow_lt_pow_right (by omega) (by omega))) (by first | omega | exact Nat.lt_of_le_of_lt Nat.and_le_right (by omega) | exact Nat.pow_lt_pow_right (by omega) (by omega) | exact Nat.lt_trans (by assumption) (Nat.pow_lt_pow_right (by omega) (by omega))) (tgt := 91) dX4_readings_11 (by decide) (fun c3 => absurd c3 (by omega)) (fun c3 => ?_)
    refine lv_iconst (v := (nI 1)) hx hb dX4_readings_14 (by decide +kernel) ?_
    refine lv_istore_n (lv' := [(3, .int (nI 1)), (0, .ref (a 0)), (1, .int v2), (2, .int (nI k2))]) hx hb dX4_readings_15 rfl hl (by decide) rfl (fun ls hl => ?_)
    refine lv_iconst (v := (nI 0)) hx hb dX4_readings_16 (by decide +kernel) ?_
    refine lv_istore (lv' := [(4, .int (nI 0)), (3, .int (nI 1)), (0, .ref (a 0)), (1, .int v2), (2, .int (nI k2))]) hx hb dX4_readings_17 hl (by decide) rfl (fun ls hl => ?_)
    obtain ⟨u4, hu4, hk4⟩ := wl_bx hb2
    refine wl_for (D := D) (A := A) (H0 := s0.heap) (m_X4_readings_l19 mnow k2 z1) P 0 P true 19 5 (fun k4 v4 => [(0, .ref (a 0)), (1, .int v2), (2, .int (nI k2)), (3, .int (wl_b v4)), (4, .int (nI k4))]) (fun k4 v4 => (wM E a mabove mbelow z1.1 z1.2.1 z1.2.2.1 mbytesLong mtokenAt mtokenLong mtoken mvalue mnow mkept misKept mrefused z1.2.2.2 mhis mtheirs mmanyBy mbytes manew mvalues)) (fun k4 v4 => True) (by omega) trivial ?_ ?_ hP hD hS (lv_sub hl [2, 3, 4, 1, 0] rfl)
    · intro z4 hv4 hI4 ls H locs hP hD hS hl
      have hb2 := hk4 z4 (hu4.trans hv4)
      refine lv_iload hx hb dX4_readings_19 (lv_at hl 4 rfl) ?_
      refine lv_aload_n hx hb dX4_readings_21 rfl (lv_at hl 0 rfl) ?_
      refine wl_callVi hC (c_X4_many (P := P) (h0)) lk_RX4_52 rfl ⟨rfl, rfl, Nat.le_of_ble_eq_true rfl, Nat.le_of_ble_eq_true rfl⟩ hP hD hS hA 0 rfl (T1 := 21) rfl hl.1 rfl (Nat.le_of_ble_eq_true rfl) dX4_readings_22 ⟨Nat.zero_le _, Nat.zero_le _⟩ (fun z13 hz13 H locs hP hD hS => ?_)
      have hz13 := hz13.symm
      subst hz13
      refine wl_icmp_ge_n hx hb (by first | omega | exact Nat.lt_of_le_of_lt Nat.and_le_right (by omega) | exact Nat.pow_lt_pow_right (by omega) (by omega) | exact Nat.lt_trans (by assumption) (Nat.pow_lt_pow_right (by omega) (by omega))) (by first | omega | exact Nat.lt_of_le_of_lt Nat.and_le_right (by omega) | exact Nat.pow_lt_pow_right (by omega) (by omega) | exact Nat.lt_trans (by assumption) (Nat.pow_lt_pow_right (by omega) (by omega))) (tgt := 71) dX4_readings_25 (by decide) (fun c14 => ?_) (fun c14 => absurd (by omega) c14)
      refine lv_iload_n hx hb dX4_readings_71 rfl (lv_at hl 1 rfl) ?_
      refine lv_iload_n hx hb dX4_readings_72 rfl (lv_at hl 3 rfl) ?_
      refine wl_if_eq_b hx hb (tgt := 82) dX4_readings_73 (by decide) (fun c15 => ?_) (fun c15 => ?_)
      · have hb2 := hb2.trans (if_neg c15)
        refine lv_iconst (v := (nI 0)) hx hb dX4_readings_82 (by decide +kernel) ?_
        refine lv_ior hx hb dX4_readings_83 ?_
        refine lv_istore_n (lv' := [(1, .int (v2 ||| (nI 0))), (0, .ref (a 0)), (2, .int (nI k2)), (3, .int (wl_b z4)), (4, .int (nI P))]) hx hb dX4_readings_84 rfl hl (by decide) rfl (fun ls hl => ?_)
        refine lv_iinc (v := (nI (k2 + 1))) (lv' := [(2, .int (nI (k2 + 1))), (1, .int (v2 ||| (nI 0))), (0, .ref (a 0)), (3, .int (wl_b z4)), (4, .int (nI P))]) hx hb dX4_readings_85 hl (k := 2) rfl (wl_inc k2 1) (by decide) rfl (fun ls hl => ?_)
        refine lv_goto (tgt := 8) hx hb dX4_readings_88 (by decide) ?_
        exact IH2 _ hb2 trivial ls H locs hP hD hS (lv_sub hl [2, 1, 0] rfl)
      · have hb2 := hb2.trans (if_pos c15)
        refine lv_iconst (v := (nI 1)) hx hb dX4_readings_76 (by decide +kernel) ?_
        refine lv_iload_n hx hb dX4_readings_77 rfl (lv_at hl 2 rfl) ?_
        refine lv_ishl hx hb dX4_readings_78 ?_
        refine lv_goto (tgt := 83) hx hb dX4_readings_79 (by decide) ?_
        refine lv_ior hx hb dX4_readings_83 ?_
        refine lv_istore_n (lv' := [(1, .int (v2 ||| ((nI 1) <<< ((nI k2) &&& 31)))), (0, .ref (a 0)), (2, .int (nI k2)), (3, .int (wl_b z4)), (4, .int (nI P))]) hx hb dX4_readings_84 rfl hl (by decide) rfl (fun ls hl => ?_)
        refine lv_iinc (v := (nI (k2 + 1))) (lv' := [(2, .int (nI (k2 + 1))), (1, .int (v2 ||| ((nI 1) <<< ((nI k2) &&& 31)))), (0, .ref (a 0)), (3, .int (wl_b z4)), (4, .int (nI P))]) hx hb dX4_readings_85 hl (k := 2) rfl (wl_inc k2 1) (by decide) rfl (fun ls hl => ?_)
        refine lv_goto (tgt := 8) hx hb dX4_readings_88 (by decide) ?_
        exact IH2 _ hb2 trivial ls H locs hP hD hS (lv_sub hl [2, 1, 0] rfl)
    · intro k4 v4 hlo4 hhi4 hI4 IH4 ls H locs hP hD hS hl
      have hb4 := m_X4_readings_l19.eq_1 mnow k2 z1 k4 v4
      refine lv_iload hx hb dX4_readings_19 (lv_at hl 4 rfl) ?_
      refine lv_aload_n hx hb dX4_readings_21 rfl (lv_at hl 0 rfl) ?_
      refine wl_callVi hC (c_X4_many (P := P) (h0)) lk_RX4_52 rfl ⟨rfl, rfl, Nat.le_of_ble_eq_true rfl, Nat.le_of_ble_eq_true rfl⟩ hP hD hS hA 0 rfl (T1 := 21) rfl hl.1 rfl (Nat.le_of_ble_eq_true rfl) dX4_readings_22 ⟨Nat.zero_le _, Nat.zero_le _⟩ (fun z5 hz5 H locs hP hD hS => ?_)
      have hz5 := hz5.symm
      subst hz5
      refine wl_icmp_ge_n hx hb (by first | omega | exact Nat.lt_of_le_of_lt Nat.and_le_right (by omega) | exact Nat.pow_lt_pow_right (by omega) (by omega) | exact Nat.lt_trans (by assumption) (Nat.pow_lt_pow_right (by omega) (by omega))) (by first | omega | exact Nat.lt_of_le_of_lt Nat.and_le_right (by omega) | exact Nat.pow_lt_pow_right (by omega) (by omega) | exact Nat.lt_trans (by assumption) (Nat.pow_lt_pow_right (by omega) (by omega))) (tgt := 71) dX4_readings_25 (by decide) (fun c6 => absurd c6 (by omega)) (fun c6 => ?_)
      refine lv_iload_n hx hb dX4_readings_28 rfl (lv_at hl 3 rfl) ?_
      refine wl_if_eq_b hx hb (tgt := 63) dX4_readings_29 (by decide) (fun c7 => ?_) (fun c7 => ?_)
      · have hb4 := hb4.trans (if_neg c7)
        refine lv_iconst (v := (nI 0)) hx hb dX4_readings_63 (by decide +kernel) ?_
        refine lv_istore_n (lv' := [(3, .int (nI 0)), (0, .ref (a 0)), (1, .int v2), (2, .int (nI k2)), (4, .int (nI k4))]) hx hb dX4_readings_64 rfl hl (by decide) rfl (fun ls hl => ?_)
        refine lv_iinc (v := (nI (k4 + 1))) (lv' := [(4, .int (nI (k4 + 1))), (3, .int (nI 0)), (0, .ref (a 0)), (1, .int v2), (2, .int (nI k2))]) hx hb dX4_readings_65 hl (k := 4) rfl (wl_inc k4 1) (by decide) rfl (fun ls hl => ?_)
        refine lv_goto (tgt := 19) hx hb dX4_readings_68 (by decide) ?_
        exact IH4 _ hb4 trivial ls H locs hP hD hS (lv_sub hl [2, 3, 4, 1, 0] rfl)
      · have hb4 := hb4.trans (if_pos c7)
        refine lv_aload_n hx hb dX4_readings_32 rfl (lv_at hl 0 rfl) ?_
        refine lv_iload hx hb dX4_readings_33 (lv_at hl 4 rfl) ?_
        refine wl_callVi hC (c_X4_actOf (p := k4) (by first | assumption | omega)) lk_RX4_99 rfl ⟨rfl, rfl, Nat.le_of_ble_eq_true rfl, Nat.le_of_ble_eq_true rfl⟩ hP hD hS hA 0 rfl (T1 := 21) rfl hl.1 rfl (Nat.le_of_ble_eq_true rfl) dX4_readings_35 ⟨Nat.zero_le _, Nat.zero_le _⟩ (fun z8 hz8 H locs hP hD hS => ?_)
        have hb4 := wl_bz hb4 hz8
        refine lv_iload_n hx hb dX4_readings_38 rfl (lv_at hl 2 rfl) ?_
        obtain ⟨u9, hj9, hk9⟩ := wl_bx hb4
        refine wl_J u9 47 (fun z9 => [.int (wl_b z9)]) 5 (fun z9 => [(0, .ref (a 0)), (1, .int v2), (2, .int (nI k2)), (4, .int (nI k4))]) D A s0.heap (fun z9 => (wM E a mabove mbelow z1.1 z1.2.1 z1.2.2.1 mbytesLong mtokenAt mtokenLong mtoken mvalue mnow mkept misKept mrefused z1.2.2.2 mhis mtheirs mmanyBy mbytes manew mvalues)) (fun z9 hz9 ls H locs hP hD hS hl => ?_) (fun J9 => ?_)
        · have hb4 := hk9 z9 hz9
          refine lv_aload_n hx hb dX4_readings_47 rfl (lv_at hl 0 rfl) ?_
          refine g_M_0_listed hC hP mw_432 dX4_readings_48 ?_
          refine lv_iload hx hb dX4_readings_51 (lv_at hl 3 rfl) ?_
          refine wl_callPi hC (c_X4_has (set := z1.1) (k := k4) ) lk_RX4_91 rfl ⟨rfl, rfl, Nat.le_of_ble_eq_true rfl, Nat.le_of_ble_eq_true rfl⟩ hP hS hA hl.1 rfl (Nat.le_of_ble_eq_true rfl) dX4_readings_53 ⟨Nat.zero_le _, Nat.zero_le _⟩ (fun z11 hz11 H locs hP hS => ?_)
          have hb4 := wl_bz hb4 hz11
          refine wl_icmp_ne_b hx hb (tgt := 63) dX4_readings_56 (by decide) (fun c12 => ?_) (fun c12 => ?_)
          · have hb4 := hb4.trans (if_neg c12)
            refine lv_iconst (v := (nI 0)) hx hb dX4_readings_63 (by decide +kernel) ?_
            refine lv_istore_n (lv' := [(3, .int (nI 0)), (0, .ref (a 0)), (1, .int v2), (2, .int (nI k2)), (4, .int (nI k4))]) hx hb dX4_readings_64 rfl hl (by decide) rfl (fun ls hl => ?_)
            refine lv_iinc (v := (nI (k4 + 1))) (lv' := [(4, .int (nI (k4 + 1))), (3, .int (nI 0)), (0, .ref (a 0)), (1, .int v2), (2, .int (nI k2))]) hx hb dX4_readings_65 hl (k := 4) rfl (wl_inc k4 1) (by decide) rfl (fun ls hl => ?_)
            refine lv_goto (tgt := 19) hx hb dX4_readings_68 (by decide) ?_
            exact IH4 _ hb4 trivial ls H locs hP hD hS (lv_sub hl [2, 3, 4, 1, 0] rfl)
          · have hb4 := hb4.trans (if_pos c12)
            refine lv_iconst (v := (nI 1)) hx hb dX4_readings_59 (by decide +kernel) ?_
            refine lv_goto (tgt := 64) hx hb dX4_readings_60 (by decide) ?_
            refine lv_istore_n (lv' := [(3, .int (nI 1)), (0, .ref (a 0)), (1, .int v2), (2, .int (nI k2)), (4, .int (nI k4))]) hx hb dX4_readings_64 rfl hl (by decide) rfl (fun ls hl => ?_)
            refine lv_iinc (v := (nI (k4 + 1))) (lv' := [(4, .int (nI (k4 + 1))), (3, .int (nI 1)), (0, .ref (a 0)), (1, .int v2), (2, .int (nI k2))]) hx hb dX4_readings_65 hl (k := 4) rfl (wl_inc k4 1) (by decide) rfl (fun ls hl => ?_)
            refine lv_goto (tgt := 19) hx hb dX4_readings_68 (by decide) ?_
            exact IH4 _ hb4 trivial ls H locs hP hD hS (lv_sub hl [2, 3, 4, 1, 0] rfl)
        · refine lv_icmp_lt hx hb (tgt := 46) dX4_readings_39 (by decide) (fun c10 => ?_) (fun c10 => ?_)
          · have hj9 := hj9.trans (if_pos c10)
            refine lv_iconst (v := (nI 0)) hx hb dX4_readings_46 (by decide +kernel) ?_
            exact J9 _ hj9 ls H locs hP hD hS (lv_sub hl [0, 1, 2, 4] rfl)
          · have hj9 := hj9.trans (if_neg c10)
            refine lv_iconst (v := (nI 1)) hx hb dX4_readings_42 (by decide +kernel) ?_
            refine lv_goto (tgt := 47) hx hb dX4_readings_43 (by decide) ?_
            exact J9 _ hj9 ls H locs hP hD hS (lv_sub hl [0, 1, 2, 4] rfl)
def m_X4_roster (mnow : (Nat → Int32)) (mrefused : (Nat → Int32)) (n : Int32) (d : Int32) : Int32 × (Nat → Int32) := (wl_bnd (m_X4_in n.toInt64 (lN 1) (lN 9)) (fun z1 => (if z1 = true then (wl_bnd (m_X4_in d.toInt64 (lN 0) (lN 9)) (fun z5 => (if z5 = true then (if (cl d) ≤ (cl n) then (wl_bnd (m_X4_bits (mnow 18)) (fun z9 => (((((z9 * (nI (cl d))) + (nI (cl n))) - (nI 1)) / (nI (cl n))), mrefused))) else ((-1), mrefused)) else (wl_bnd (m_X4_bad mrefused (-2)) (fun z10 => (z10.1, z10.2)))))) else (wl_bnd (m_X4_bad mrefused (-2)) (fun z3 => (z3.1, z3.2))))))
set_option maxHeartbeats 4000000 in
set_option maxRecDepth 100000 in
theorem c_X4_roster {l : Launch} {D : va_G} {E : Nat → ClassId} {a : Nat → Nat} {mabove : Int64} {mbelow : Int64} {mlisted : Int32} {mfollowing : Int32} {mdayThen : Int32} {mbytesLong : Nat} {mtokenAt : Nat} {mtokenLong : Nat} {mtoken : Int32} {mvalue : Int32} {mnow : (Nat → Int32)} {mkept : (Nat → Int32)} {misKept : (Nat → Int32)} {mrefused : (Nat → Int32)} {mtempers : (Nat → Int32)} {mhis : (Nat → Int32)} {mtheirs : (Nat → Int32)} {mmanyBy : (Nat → Int32)} {mbytes : (Nat → Int32)} {manew : (Nat → Int32)} {mvalues : (Nat → Int32)} {n : Int32} {d : Int32} : wl_Met (τ := Int32 × (Nat → Int32)) l D E yX4_roster cX4_roster 3 (some .int) ({ frames := 1, cells := 0, slots := 0, locals := 25 } : Room) [.ref (a 0), .int n, .int d] (wM E a mabove mbelow mlisted mfollowing mdayThen mbytesLong mtokenAt mtokenLong mtoken mvalue mnow mkept misKept mrefused mtempers mhis mtheirs mmanyBy mbytes manew mvalues) (fun z => some (.int z.1)) (fun z => (wM E a mabove mbelow mlisted mfollowing mdayThen mbytesLong mtokenAt mtokenLong mtoken mvalue mnow mkept misKept z.2 mtempers mhis mtheirs mmanyBy mbytes manew mvalues)) (m_X4_roster mnow mrefused n d) := by
  refine wl_enter (own := RX4) (by decide +kernel) rfl (Nat.le_of_ble_eq_true rfl) ?_
  intro p0 e0 s0 m0 bl0 mt0 c0 A hC hr hlk hA H locs hP hD hS ls hl
  have hx := hC.1
  have hb := hC.2.1
  have hl : lv_has ls 3 [(0, .ref (a 0)), (1, .int n), (2, .int d)] := hl
  have hm := m_X4_roster.eq_1 mnow mrefused n d
  refine lv_iload_n hx hb dX4_roster_0 rfl (lv_at hl 1 rfl) ?_
  refine lv_i2l (v := n.toInt64) hx hb dX4_roster_1 rfl ?_
  refine lv_lconst (v := lN 1) hx hb dX4_roster_2 (by decide +kernel) ?_
  refine lv_ldc2 hx hb hC.2.2.2.1 (hC.2.2.2.2.1 _ mw_493) dX4_roster_3 ?_
  refine wl_reL (show (9 : Int64) = lN 9 by decide +kernel) ?_
  refine wl_callPi hC (c_X4_in (v := n.toInt64) (low := (lN 1)) (high := (lN 9)) ) lk_RX4_56 rfl ⟨rfl, rfl, Nat.le_of_ble_eq_true rfl, Nat.le_of_ble_eq_true rfl⟩ hP hS hA hl.1 rfl (Nat.le_of_ble_eq_true rfl) dX4_roster_6 ⟨Nat.zero_le _, Nat.zero_le _⟩ (fun z1 hz1 H locs hP hS => ?_)
  have hm := wl_bz hm hz1
  refine wl_if_eq_b hx hb (tgt := 24) dX4_roster_9 (by decide) (fun c2 => ?_) (fun c2 => ?_)
  · have hm := hm.trans (if_neg c2)
    refine lv_aload_n hx hb dX4_roster_24 rfl (lv_at hl 0 rfl) ?_
    refine lv_bipush (v := (-2)) hx hb dX4_roster_25 (by decide +kernel) ?_
    refine wl_callVi hC (c_X4_bad (tells := (-2)) ) lk_RX4_62 rfl ⟨rfl, rfl, Nat.le_of_ble_eq_true rfl, Nat.le_of_ble_eq_true rfl⟩ hP hD hS hA 0 rfl (T1 := 21) rfl hl.1 rfl (Nat.le_of_ble_eq_true rfl) dX4_roster_27 ⟨Nat.zero_le _, Nat.zero_le _⟩ (fun z3 hz3 H locs hP hD hS => ?_)
    have hm := wl_bz hm hz3
    exact wl_iret hC hr hlk hm rfl hP hD hS dX4_roster_30
  · have hm := hm.trans (if_pos c2)
    obtain ⟨ha4, hb4_, hc4_⟩ := in_spec (a := 1) (b := 9) (by decide) (by decide) (hz1.symm.trans c2)
    have hl : lv_has ls 3 [(0, .ref (a 0)), (1, .int (nI (cl n))), (2, .int d)] := by rw [← ha4]; exact hl
    refine lv_iload_n hx hb dX4_roster_12 rfl (lv_at hl 2 rfl) ?_
    refine lv_i2l (v := d.toInt64) hx hb dX4_roster_13 rfl ?_
    refine lv_lconst (v := lN 0) hx hb dX4_roster_14 (by decide +kernel) ?_
    refine lv_ldc2 hx hb hC.2.2.2.1 (hC.2.2.2.2.1 _ mw_493) dX4_roster_15 ?_
    refine wl_reL (show (9 : Int64) = lN 9 by decide +kernel) ?_
    refine wl_callPi hC (c_X4_in (v := d.toInt64) (low := (lN 0)) (high := (lN 9)) ) lk_RX4_56 rfl ⟨rfl, rfl, Nat.le_of_ble_eq_true rfl, Nat.le_of_ble_eq_true rfl⟩ hP hS hA hl.1 rfl (Nat.le_of_ble_eq_true rfl) dX4_roster_18 ⟨Nat.zero_le _, Nat.zero_le _⟩ (fun z5 hz5 H locs hP hS => ?_)
    have hm := wl_bz hm hz5
    refine wl_if_ne_b hx hb (tgt := 31) dX4_roster_21 (by decide) (fun c6 => ?_) (fun c6 => ?_)
    · have hm := hm.trans (if_pos c6)
      obtain ⟨ha7, hb7_, hc7_⟩ := in_spec (a := 0) (b := 9) (by decide) (by decide) (hz5.symm.trans c6)
      have hl : lv_has ls 3 [(0, .ref (a 0)), (1, .int (nI (cl n))), (2, .int (nI (cl d)))] := by rw [← ha7]; exact hl
      refine lv_iload_n hx hb dX4_roster_31 rfl (lv_at hl 2 rfl) ?_
      refine lv_iload_n hx hb dX4_roster_32 rfl (lv_at hl 1 rfl) ?_
      refine wl_icmp_le_n hx hb (by first | omega | exact Nat.lt_of_le_of_lt Nat.and_le_right (by omega) | exact Nat.pow_lt_pow_right (by omega) (by omega) | exact Nat.lt_trans (by assumption) (Nat.pow_lt_pow_right (by omega) (by omega))) (by first | omega | exact Nat.lt_of_le_of_lt Nat.and_le_right (by omega) | exact Nat.pow_lt_pow_right (by omega) (by omega) | exact Nat.lt_trans (by assumption) (Nat.pow_lt_pow_right (by omega) (by omega))) (tgt := 40) dX4_roster_33 (by decide) (fun c8 => ?_) (fun c8 => ?_)
      · have hm := hm.trans (if_pos c8)
        refine lv_aload_n hx hb dX4_roster_40 rfl (lv_at hl 0 rfl) ?_
        refine g_M_0_now hC hP mw_385 dX4_roster_41 ?_
        refine lv_bipush (v := (nI 18)) hx hb dX4_roster_44 (by decide +kernel) ?_
        refine ld_M_1 hC hP 18 (by omega) dX4_roster_46 ?_
        refine wl_callPi hC (c_X4_bits (set := (mnow 18)) ) lk_RX4_128 rfl ⟨rfl, rfl, Nat.le_of_ble_eq_true rfl, Nat.le_of_ble_eq_true rfl⟩ hP hS hA hl.1 rfl (Nat.le_of_ble_eq_true rfl) dX4_roster_47 ⟨Nat.zero_le _, Nat.zero_le _⟩ (fun z9 hz9 H locs hP hS => ?_)
        have hm := wl_bz hm hz9
        refine lv_iload_n hx hb dX4_roster_50 rfl (lv_at hl 2 rfl) ?_
        refine lv_imul hx hb dX4_roster_51 ?_
        refine lv_iload_n hx hb dX4_roster_52 rfl (lv_at hl 1 rfl) ?_
        refine lv_iadd hx hb dX4_roster_53 ?_
        refine lv_iconst (v := (nI 1)) hx hb dX4_roster_54 (by decide +kernel) ?_
        refine lv_isub hx hb dX4_roster_55 ?_
        refine lv_iload_n hx hb dX4_roster_56 rfl (lv_at hl 1 rfl) ?_
        refine lv_idiv hx hb dX4_roster_57 (nI_ne0 (by omega) (by omega)) ?_
        exact wl_iret hC hr hlk hm rfl hP hD hS dX4_roster_58
      · have hm := hm.trans (if_neg c8)
        refine lv_iconst (v := (-1)) hx hb dX4_roster_36 (by decide +kernel) ?_
        refine lv_goto (tgt := 58) hx hb dX4_roster_37 (by decide) ?_
        exact wl_iret hC hr hlk hm rfl hP hD hS dX4_roster_58
    · have hm := hm.trans (if_neg c6)
      refine lv_aload_n hx hb dX4_roster_24 rfl (lv_at hl 0 rfl) ?_
      refine lv_bipush (v := (-2)) hx hb dX4_roster_25 (by decide +kernel) ?_
      refine wl_callVi hC (c_X4_bad (tells := (-2)) ) lk_RX4_62 rfl ⟨rfl, rfl, Nat.le_of_ble_eq_true rfl, Nat.le_of_ble_eq_true rfl⟩ hP hD hS hA 0 rfl (T1 := 21) rfl hl.1 rfl (Nat.le_of_ble_eq_true rfl) dX4_roster_27 ⟨Nat.zero_le _, Nat.zero_le _⟩ (fun z10 hz10 H locs hP hD hS => ?_)
      have hm := wl_bz hm hz10
      exact wl_iret hC hr hlk hm rfl hP hD hS dX4_roster_30
def m_X4_isStruck_l17 (mnow : (Nat → Int32)) (p : Nat) (days : Int32) (P : Nat) (k2 : Nat) (v2 : Int32 × Int32 × Int32 × (Nat → Int32) × Bool) : Int32 × Int32 × Int32 × (Nat → Int32) × Bool := (wl_bnd (m_X4_has days k2) (fun z4 => (wl_bnd ((if z4 = true then ((nI 1) <<< ((nI p) &&& 31)) else (nI 0)) : Int32) (fun z5 => (if v2.2.2.2.2 = true then (v2.1, z5, v2.2.2.1, v2.2.2.2.1, true) else (wl_bnd (m_X4_goDay v2.1 z5 v2.2.2.1 mnow v2.2.2.2.1 P) (fun z8 => (if z8.1 = 0 then (z8.2.1, z8.2.2.1, z8.2.2.2.1, z8.2.2.2.2, false) else (z8.2.1, z8.2.2.1, z8.2.2.2.1, z8.2.2.2.2, true)))))))))
def m_X4_isStruck (mnow : (Nat → Int32)) (mtempers : (Nat → Int32)) (p : Nat) (n : Nat) (days : Int32) (P : Nat) : Bool × Int32 × Int32 × Int32 × (Nat → Int32) := (wl_bnd (m_X4_layHand mnow mtempers P) (fun z1 => (wl_bnd (wl_iter (m_X4_isStruck_l17 mnow p days P) n 0 (((nI 1) <<< ((nI p) &&& 31)), z1.2.1, z1.2.2.1, z1.2.2.2, false)) (fun z2 => (z2.2.2.2.2, z2.1, z2.2.1, z2.2.2.1, z2.2.2.2.1)))))
set_option maxHeartbeats 4000000 in
set_option maxRecDepth 100000 in
theorem c_X4_isStruck {l : Launch} {D : va_G} {E : Nat → ClassId} {a : Nat → Nat} {mabove : Int64} {mbelow : Int64} {mlisted : Int32} {mfollowing : Int32} {mdayThen : Int32} {mbytesLong : Nat} {mtokenAt : Nat} {mtokenLong : Nat} {mtoken : Int32} {mvalue : Int32} {mnow : (Nat → Int32)} {mkept : (Nat → Int32)} {misKept : (Nat → Int32)} {mrefused : (Nat → Int32)} {mtempers : (Nat → Int32)} {mhis : (Nat → Int32)} {mtheirs : (Nat → Int32)} {mmanyBy : (Nat → Int32)} {mbytes : (Nat → Int32)} {manew : (Nat → Int32)} {mvalues : (Nat → Int32)} {p : Nat} {n : Nat} {days : Int32} {P : Nat} (h0 : mnow 0 = nI P) (hP7 : P ≤ 7) (hp : p < 7) (hn : n ≤ 8) : wl_Met (τ := Bool × Int32 × Int32 × Int32 × (Nat → Int32)) l D E yX4_isStruck cX4_isStruck 6 (some .boolean) ({ frames := 4, cells := 0, slots := 0, locals := 90 } : Room) [.ref (a 0), .int (nI p), .int (nI n), .int days] (wM E a mabove mbelow mlisted mfollowing mdayThen mbytesLong mtokenAt mtokenLong mtoken mvalue mnow mkept misKept mrefused mtempers mhis mtheirs mmanyBy mbytes manew mvalues) (fun z => some (.int (wl_b z.1))) (fun z => (wM E a mabove mbelow z.2.1 z.2.2.1 z.2.2.2.1 mbytesLong mtokenAt mtokenLong mtoken mvalue mnow mkept misKept mrefused z.2.2.2.2 mhis mtheirs mmanyBy mbytes manew mvalues)) (m_X4_isStruck mnow mtempers p n days P) := by
  refine wl_enter (own := RX4) (by decide +kernel) rfl (Nat.le_of_ble_eq_true rfl) ?_
  intro p0 e0 s0 m0 bl0 mt0 c0 A hC hr hlk hA H locs hP hD hS ls hl
  have hx := hC.1
  have hb := hC.2.1
  have hl : lv_has ls 6 [(0, .ref (a 0)), (1, .int (nI p)), (2, .int (nI n)), (3, .int days)] := hl
  have hm := m_X4_isStruck.eq_1 mnow mtempers p n days P
  refine lv_iconst (v := (nI 0)) hx hb dX4_isStruck_0 (by decide +kernel) ?_
  refine lv_istore (lv' := [(4, .int (nI 0)), (0, .ref (a 0)), (1, .int (nI p)), (2, .int (nI n)), (3, .int days)]) hx hb dX4_isStruck_1 hl (by decide) rfl (fun ls hl => ?_)
  refine lv_aload_n hx hb dX4_isStruck_3 rfl (lv_at hl 1 rfl) ?_
  refine wl_callVv hC (c_X4_layHand (P := P) (h0) (by first | assumption | omega)) lk_RX4_122 rfl ⟨rfl, rfl, Nat.le_of_ble_eq_true rfl, Nat.le_of_ble_eq_true rfl⟩ hP hD hS hA 0 rfl (T1 := 21) rfl hl.1 rfl (Nat.le_of_ble_eq_true rfl) dX4_isStruck_4 ⟨Nat.zero_le _, Nat.zero_le _⟩ (fun z1 hz1 H locs hP hD hS => ?_)
  have hm := wl_bz hm hz1
  refine lv_aload_n hx hb dX4_isStruck_7 rfl (lv_at hl 1 rfl) ?_
  refine lv_iconst (v := (nI 1)) hx hb dX4_isStruck_8 (by decide +kernel) ?_
  refine lv_iload_n hx hb dX4_isStruck_9 rfl (lv_at hl 2 rfl) ?_
  refine lv_ishl hx hb dX4_isStruck_10 ?_
  refine p_M_0_listed hC hP hD hS ((nI 1) <<< ((nI p) &&& 31)) mw_432 dX4_isStruck_11 (fun H locs hP hD hS => ?_)
  refine lv_iconst (v := (nI 0)) hx hb dX4_isStruck_14 (by decide +kernel) ?_
  refine lv_istore (lv' := [(5, .int (nI 0)), (4, .int (nI 0)), (0, .ref (a 0)), (1, .int (nI p)), (2, .int (nI n)), (3, .int days)]) hx hb dX4_isStruck_15 hl (by decide) rfl (fun ls hl => ?_)
  obtain ⟨u2, hu2, hk2⟩ := wl_bx hm
  refine wl_for (D := D) (A := A) (H0 := s0.heap) (m_X4_isStruck_l17 mnow p days P) n 0 n (((nI 1) <<< ((nI p) &&& 31)), z1.2.1, z1.2.2.1, z1.2.2.2, false) 17 6 (fun k2 v2 => [(0, .ref (a 0)), (1, .int (nI p)), (2, .int (nI n)), (3, .int days), (4, .int (wl_b v2.2.2.2.2)), (5, .int (nI k2))]) (fun k2 v2 => (wM E a mabove mbelow v2.1 v2.2.1 v2.2.2.1 mbytesLong mtokenAt mtokenLong mtoken mvalue mnow mkept misKept mrefused v2.2.2.2.1 mhis mtheirs mmanyBy mbytes manew mvalues)) (fun k2 v2 => True) (by omega) trivial ?_ ?_ hP hD hS (lv_sub hl [2, 3, 4, 5, 1, 0] rfl)
  · intro z2 hv2 hI2 ls H locs hP hD hS hl
    have hm := hk2 z2 (hu2.trans hv2)
    refine lv_iload hx hb dX4_isStruck_17 (lv_at hl 5 rfl) ?_
    refine lv_iload_n hx hb dX4_isStruck_19 rfl (lv_at hl 2 rfl) ?_
    refine wl_icmp_ge_n hx hb (by first | omega | exact Nat.lt_of_le_of_lt Nat.and_le_right (by omega) | exact Nat.pow_lt_pow_right (by omega) (by omega) | exact Nat.lt_trans (by assumption) (Nat.pow_lt_pow_right (by omega) (by omega))) (by first | omega | exact Nat.lt_of_le_of_lt Nat.and_le_right (by omega) | exact Nat.pow_lt_pow_right (by omega) (by omega) | exact Nat.lt_trans (by assumption) (Nat.pow_lt_pow_right (by omega) (by omega))) (tgt := 68) dX4_isStruck_20 (by decide) (fun c10 => ?_) (fun c10 => absurd (by omega) c10)
    refine lv_iload hx hb dX4_isStruck_68 (lv_at hl 4 rfl) ?_
    exact wl_zret (v := z2.2.2.2.2) hC hr hlk hm rfl hP hD hS dX4_isStruck_70
  · intro k2 v2 hlo2 hhi2 hI2 IH2 ls H locs hP hD hS hl
    have hb2 := m_X4_isStruck_l17.eq_1 mnow p days P k2 v2
    refine lv_iload hx hb dX4_isStruck_17 (lv_at hl 5 rfl) ?_
    refine lv_iload_n hx hb dX4_isStruck_19 rfl (lv_at hl 2 rfl) ?_
    refine wl_icmp_ge_n hx hb (by first | omega | exact Nat.lt_of_le_of_lt Nat.and_le_right (by omega) | exact Nat.pow_lt_pow_right (by omega) (by omega) | exact Nat.lt_trans (by assumption) (Nat.pow_lt_pow_right (by omega) (by omega))) (by first | omega | exact Nat.lt_of_le_of_lt Nat.and_le_right (by omega) | exact Nat.pow_lt_pow_right (by omega) (by omega) | exact Nat.lt_trans (by assumption) (Nat.pow_lt_pow_right (by omega) (by omega))) (tgt := 68) dX4_isStruck_20 (by decide) (fun c3 => absurd c3 (by omega)) (fun c3 => ?_)
    refine lv_aload_n hx hb dX4_isStruck_23 rfl (lv_at hl 0 rfl) ?_
    refine lv_iload_n hx hb dX4_isStruck_24 rfl (lv_at hl 3 rfl) ?_
    refine lv_iload hx hb dX4_isStruck_25 (lv_at hl 5 rfl) ?_
    refine wl_callPi hC (c_X4_has (set := days) (k := k2) ) lk_RX4_91 rfl ⟨rfl, rfl, Nat.le_of_ble_eq_true rfl, Nat.le_of_ble_eq_true rfl⟩ hP hS hA hl.1 rfl (Nat.le_of_ble_eq_true rfl) dX4_isStruck_27 ⟨Nat.zero_le _, Nat.zero_le _⟩ (fun z4 hz4 H locs hP hS => ?_)
    have hb2 := wl_bz hb2 hz4
    obtain ⟨u5, hj5, hk5⟩ := wl_bx hb2
    refine wl_J u5 40 (fun z5 => [.int z5, .ref (a 0)]) 6 (fun z5 => [(0, .ref (a 0)), (1, .int (nI p)), (2, .int (nI n)), (3, .int days), (4, .int (wl_b v2.2.2.2.2)), (5, .int (nI k2))]) D A s0.heap (fun z5 => (wM E a mabove mbelow v2.1 v2.2.1 v2.2.2.1 mbytesLong mtokenAt mtokenLong mtoken mvalue mnow mkept misKept mrefused v2.2.2.2.1 mhis mtheirs mmanyBy mbytes manew mvalues)) (fun z5 hz5 ls H locs hP hD hS hl => ?_) (fun J5 => ?_)
    · have hb2 := hk5 z5 hz5
      refine p_M_0_following hC hP hD hS z5 mw_433 dX4_isStruck_40 (fun H locs hP hD hS => ?_)
      refine lv_iload hx hb dX4_isStruck_43 (lv_at hl 4 rfl) ?_
      refine wl_if_ne_b hx hb (tgt := 55) dX4_isStruck_45 (by decide) (fun c7 => ?_) (fun c7 => ?_)
      · have hb2 := hb2.trans (if_pos c7)
        refine lv_iconst (v := (nI 1)) hx hb dX4_isStruck_55 (by decide +kernel) ?_
        refine lv_goto (tgt := 60) hx hb dX4_isStruck_56 (by decide) ?_
        refine lv_istore (lv' := [(4, .int (nI 1)), (0, .ref (a 0)), (1, .int (nI p)), (2, .int (nI n)), (3, .int days), (5, .int (nI k2))]) hx hb dX4_isStruck_60 hl (by decide) rfl (fun ls hl => ?_)
        refine lv_iinc (v := (nI (k2 + 1))) (lv' := [(5, .int (nI (k2 + 1))), (4, .int (nI 1)), (0, .ref (a 0)), (1, .int (nI p)), (2, .int (nI n)), (3, .int days)]) hx hb dX4_isStruck_62 hl (k := 5) rfl (wl_inc k2 1) (by decide) rfl (fun ls hl => ?_)
        refine lv_goto (tgt := 17) hx hb dX4_isStruck_65 (by decide) ?_
        exact IH2 _ hb2 trivial ls H locs hP hD hS (lv_sub hl [2, 3, 4, 5, 1, 0] rfl)
      · have hb2 := hb2.trans (if_neg c7)
        refine lv_aload_n hx hb dX4_isStruck_48 rfl (lv_at hl 0 rfl) ?_
        refine wl_callVi hC (c_X4_goDay (P := P) (h0) (by first | assumption | omega)) lk_RX4_125 rfl ⟨rfl, rfl, Nat.le_of_ble_eq_true rfl, Nat.le_of_ble_eq_true rfl⟩ hP hD hS hA 0 rfl (T1 := 21) rfl hl.1 rfl (Nat.le_of_ble_eq_true rfl) dX4_isStruck_49 ⟨Nat.zero_le _, Nat.zero_le _⟩ (fun z8 hz8 H locs hP hD hS => ?_)
        have hb2 := wl_bz hb2 hz8
        refine lv_if_eq hx hb (tgt := 59) dX4_isStruck_52 (by decide) (fun c9 => ?_) (fun c9 => ?_)
        · have hb2 := hb2.trans (if_pos c9)
          refine lv_iconst (v := (nI 0)) hx hb dX4_isStruck_59 (by decide +kernel) ?_
          refine lv_istore (lv' := [(4, .int (nI 0)), (0, .ref (a 0)), (1, .int (nI p)), (2, .int (nI n)), (3, .int days), (5, .int (nI k2))]) hx hb dX4_isStruck_60 hl (by decide) rfl (fun ls hl => ?_)
          refine lv_iinc (v := (nI (k2 + 1))) (lv' := [(5, .int (nI (k2 + 1))), (4, .int (nI 0)), (0, .ref (a 0)), (1, .int (nI p)), (2, .int (nI n)), (3, .int days)]) hx hb dX4_isStruck_62 hl (k := 5) rfl (wl_inc k2 1) (by decide) rfl (fun ls hl => ?_)
          refine lv_goto (tgt := 17) hx hb dX4_isStruck_65 (by decide) ?_
          exact IH2 _ hb2 trivial ls H locs hP hD hS (lv_sub hl [2, 3, 4, 5, 1, 0] rfl)
        · have hb2 := hb2.trans (if_neg c9)
          refine lv_iconst (v := (nI 1)) hx hb dX4_isStruck_55 (by decide +kernel) ?_
          refine lv_goto (tgt := 60) hx hb dX4_isStruck_56 (by decide) ?_
          refine lv_istore (lv' := [(4, .int (nI 1)), (0, .ref (a 0)), (1, .int (nI p)), (2, .int (nI n)), (3, .int days), (5, .int (nI k2))]) hx hb dX4_isStruck_60 hl (by decide) rfl (fun ls hl => ?_)
          refine lv_iinc (v := (nI (k2 + 1))) (lv' := [(5, .int (nI (k2 + 1))), (4, .int (nI 1)), (0, .ref (a 0)), (1, .int (nI p)), (2, .int (nI n)), (3, .int days)]) hx hb dX4_isStruck_62 hl (k := 5) rfl (wl_inc k2 1) (by decide) rfl (fun ls hl => ?_)
          refine lv_goto (tgt := 17) hx hb dX4_isStruck_65 (by decide) ?_
          exact IH2 _ hb2 trivial ls H locs hP hD hS (lv_sub hl [2, 3, 4, 5, 1, 0] rfl)
    · refine wl_if_eq_b hx hb (tgt := 39) dX4_isStruck_30 (by decide) (fun c6 => ?_) (fun c6 => ?_)
      · have hj5 := hj5.trans (if_neg c6)
        refine lv_iconst (v := (nI 0)) hx hb dX4_isStruck_39 (by decide +kernel) ?_
        exact J5 _ hj5 ls H locs hP hD hS (lv_sub hl [0, 1, 2, 3, 4, 5] rfl)
      · have hj5 := hj5.trans (if_pos c6)
        refine lv_iconst (v := (nI 1)) hx hb dX4_isStruck_33 (by decide +kernel) ?_
        refine lv_iload_n hx hb dX4_isStruck_34 rfl (lv_at hl 1 rfl) ?_
        refine lv_ishl hx hb dX4_isStruck_35 ?_
        refine lv_goto (tgt := 40) hx hb dX4_isStruck_36 (by decide) ?_
        exact J5 _ hj5 ls H locs hP hD hS (lv_sub hl [0, 1, 2, 3, 4, 5] rfl)
def m_X4_off_l62 (mnow : (Nat → Int32)) (p : Int32) (n : Int32) (P : Nat) (k13 : Nat) (v13 : Int32 × Int32 × Int32 × (Nat → Int32) × Int32) : Int32 × Int32 × Int32 × (Nat → Int32) × Int32 := (wl_bnd ((if v13.2.2.2.2 = (-1) then true else (wl_bnd (m_X4_bits (nI k13)) (fun z17 => (wl_bnd (m_X4_bits v13.2.2.2.2) (fun z18 => (if z18 ≤ z17 then false else true)))))) : Bool) (fun z15 => (if z15 = true then (wl_bnd (m_X4_isStruck mnow v13.2.2.2.1 (cl p) (cl n) (nI k13) P) (fun z21 => (if z21.1 = true then (z21.2.1, z21.2.2.1, z21.2.2.2.1, z21.2.2.2.2, (nI k13)) else (z21.2.1, z21.2.2.1, z21.2.2.2.1, z21.2.2.2.2, v13.2.2.2.2)))) else (v13.1, v13.2.1, v13.2.2.1, v13.2.2.2.1, v13.2.2.2.2))))
def m_X4_off (mlisted : Int32) (mfollowing : Int32) (mdayThen : Int32) (mnow : (Nat → Int32)) (mrefused : (Nat → Int32)) (mtempers : (Nat → Int32)) (p : Int32) (n : Int32) (what : Int32) (P : Nat) : Int32 × Int32 × Int32 × Int32 × (Nat → Int32) × (Nat → Int32) := (wl_bnd (m_X4_isOne p P) (fun z1 => (if z1 = true then (wl_bnd (m_X4_in n.toInt64 (lN 1) (lN 8)) (fun z5 => (if z5 = true then (wl_bnd (m_X4_in what.toInt64 (lN 0) (lN 1)) (fun z9 => (if z9 = true then (wl_bnd (m_X4_has (mnow 18) (cl p)) (fun z11 => (if z11 = true then (wl_bnd (wl_iter (m_X4_off_l62 mnow p n P) (2 ^ (cl n)) 0 (mlisted, mfollowing, mdayThen, mtempers, (-1))) (fun z13 => (if what = 0 then (if z13.2.2.2.2 = (-1) then (z13.2.2.2.2, z13.1, z13.2.1, z13.2.2.1, mrefused, z13.2.2.2.1) else (wl_bnd (m_X4_bits z13.2.2.2.2) (fun z26 => (z26, z13.1, z13.2.1, z13.2.2.1, mrefused, z13.2.2.2.1)))) else (z13.2.2.2.2, z13.1, z13.2.1, z13.2.2.1, mrefused, z13.2.2.2.1)))) else (wl_bnd (m_X4_no mrefused) (fun z27 => (z27.1, mlisted, mfollowing, mdayThen, z27.2, mtempers)))))) else (wl_bnd (m_X4_bad mrefused (-2)) (fun z28 => (z28.1, mlisted, mfollowing, mdayThen, z28.2, mtempers)))))) else (wl_bnd (m_X4_bad mrefused (-2)) (fun z7 => (z7.1, mlisted, mfollowing, mdayThen, z7.2, mtempers)))))) else (wl_bnd (m_X4_bad mrefused (-2)) (fun z3 => (z3.1, mlisted, mfollowing, mdayThen, z3.2, mtempers))))))
set_option maxHeartbeats 4000000 in
set_option maxRecDepth 100000 in
theorem c_X4_off {l : Launch} {D : va_G} {E : Nat → ClassId} {a : Nat → Nat} {mabove : Int64} {mbelow : Int64} {mlisted : Int32} {mfollowing : Int32} {mdayThen : Int32} {mbytesLong : Nat} {mtokenAt : Nat} {mtokenLong : Nat} {mtoken : Int32} {mvalue : Int32} {mnow : (Nat → Int32)} {mkept : (Nat → Int32)} {misKept : (Nat → Int32)} {mrefused : (Nat → Int32)} {mtempers : (Nat → Int32)} {mhis : (Nat → Int32)} {mtheirs : (Nat → Int32)} {mmanyBy : (Nat → Int32)} {mbytes : (Nat → Int32)} {manew : (Nat → Int32)} {mvalues : (Nat → Int32)} {p : Int32} {n : Int32} {what : Int32} {P : Nat} (h0 : mnow 0 = nI P) (hP7 : P ≤ 7) : wl_Met (τ := Int32 × Int32 × Int32 × Int32 × (Nat → Int32) × (Nat → Int32)) l D E yX4_off cX4_off 7 (some .int) ({ frames := 5, cells := 0, slots := 0, locals := 115 } : Room) [.ref (a 0), .int p, .int n, .int what] (wM E a mabove mbelow mlisted mfollowing mdayThen mbytesLong mtokenAt mtokenLong mtoken mvalue mnow mkept misKept mrefused mtempers mhis mtheirs mmanyBy mbytes manew mvalues) (fun z => some (.int z.1)) (fun z => (wM E a mabove mbelow z.2.1 z.2.2.1 z.2.2.2.1 mbytesLong mtokenAt mtokenLong mtoken mvalue mnow mkept misKept z.2.2.2.2.1 z.2.2.2.2.2 mhis mtheirs mmanyBy mbytes manew mvalues)) (m_X4_off mlisted mfollowing mdayThen mnow mrefused mtempers p n what P) := by
  refine wl_enter (own := RX4) (by decide +kernel) rfl (Nat.le_of_ble_eq_true rfl) ?_
  intro p0 e0 s0 m0 bl0 mt0 c0 A hC hr hlk hA H locs hP hD hS ls hl
  have hx := hC.1
  have hb := hC.2.1
  have hl : lv_has ls 7 [(0, .ref (a 0)), (1, .int p), (2, .int n), (3, .int what)] := hl
  have hm := m_X4_off.eq_1 mlisted mfollowing mdayThen mnow mrefused mtempers p n what P
  refine lv_aload_n hx hb dX4_off_0 rfl (lv_at hl 0 rfl) ?_
  refine lv_iload_n hx hb dX4_off_1 rfl (lv_at hl 1 rfl) ?_
  refine wl_callVi hC (c_X4_isOne (p := p) (P := P) (h0)) lk_RX4_113 rfl ⟨rfl, rfl, Nat.le_of_ble_eq_true rfl, Nat.le_of_ble_eq_true rfl⟩ hP hD hS hA 0 rfl (T1 := 21) rfl hl.1 rfl (Nat.le_of_ble_eq_true rfl) dX4_off_2 ⟨Nat.zero_le _, Nat.zero_le _⟩ (fun z1 hz1 H locs hP hD hS => ?_)
  have hm := wl_bz hm hz1
  refine wl_if_eq_b hx hb (tgt := 30) dX4_off_5 (by decide) (fun c2 => ?_) (fun c2 => ?_)
  · have hm := hm.trans (if_neg c2)
    refine lv_aload_n hx hb dX4_off_30 rfl (lv_at hl 0 rfl) ?_
    refine lv_bipush (v := (-2)) hx hb dX4_off_31 (by decide +kernel) ?_
    refine wl_callVi hC (c_X4_bad (tells := (-2)) ) lk_RX4_62 rfl ⟨rfl, rfl, Nat.le_of_ble_eq_true rfl, Nat.le_of_ble_eq_true rfl⟩ hP hD hS hA 0 rfl (T1 := 21) rfl hl.1 rfl (Nat.le_of_ble_eq_true rfl) dX4_off_33 ⟨Nat.zero_le _, Nat.zero_le _⟩ (fun z3 hz3 H locs hP hD hS => ?_)
    have hm := wl_bz hm hz3
    exact wl_iret hC hr hlk hm rfl hP hD hS dX4_off_36
  · have hm := hm.trans (if_pos c2)
    obtain ⟨ha4, hb4_⟩ := isOne_spec hP7 (hz1.symm.trans c2)
    have hl : lv_has ls 7 [(0, .ref (a 0)), (1, .int (nI (cl p))), (2, .int n), (3, .int what)] := by rw [← ha4]; exact hl
    refine lv_iload_n hx hb dX4_off_8 rfl (lv_at hl 2 rfl) ?_
    refine lv_i2l (v := n.toInt64) hx hb dX4_off_9 rfl ?_
    refine lv_lconst (v := lN 1) hx hb dX4_off_10 (by decide +kernel) ?_
    refine lv_ldc2 hx hb hC.2.2.2.1 (hC.2.2.2.2.1 _ mw_496) dX4_off_11 ?_
    refine wl_reL (show (8 : Int64) = lN 8 by decide +kernel) ?_
    refine wl_callPi hC (c_X4_in (v := n.toInt64) (low := (lN 1)) (high := (lN 8)) ) lk_RX4_56 rfl ⟨rfl, rfl, Nat.le_of_ble_eq_true rfl, Nat.le_of_ble_eq_true rfl⟩ hP hS hA hl.1 rfl (Nat.le_of_ble_eq_true rfl) dX4_off_14 ⟨Nat.zero_le _, Nat.zero_le _⟩ (fun z5 hz5 H locs hP hS => ?_)
    have hm := wl_bz hm hz5
    refine wl_if_eq_b hx hb (tgt := 30) dX4_off_17 (by decide) (fun c6 => ?_) (fun c6 => ?_)
    · have hm := hm.trans (if_neg c6)
      refine lv_aload_n hx hb dX4_off_30 rfl (lv_at hl 0 rfl) ?_
      refine lv_bipush (v := (-2)) hx hb dX4_off_31 (by decide +kernel) ?_
      refine wl_callVi hC (c_X4_bad (tells := (-2)) ) lk_RX4_62 rfl ⟨rfl, rfl, Nat.le_of_ble_eq_true rfl, Nat.le_of_ble_eq_true rfl⟩ hP hD hS hA 0 rfl (T1 := 21) rfl hl.1 rfl (Nat.le_of_ble_eq_true rfl) dX4_off_33 ⟨Nat.zero_le _, Nat.zero_le _⟩ (fun z7 hz7 H locs hP hD hS => ?_)
      have hm := wl_bz hm hz7
      exact wl_iret hC hr hlk hm rfl hP hD hS dX4_off_36
    · have hm := hm.trans (if_pos c6)
      obtain ⟨ha8, hb8_, hc8_⟩ := in_spec (a := 1) (b := 8) (by decide) (by decide) (hz5.symm.trans c6)
      have hl : lv_has ls 7 [(0, .ref (a 0)), (1, .int (nI (cl p))), (2, .int (nI (cl n))), (3, .int what)] := by rw [← ha8]; exact hl
      refine lv_iload_n hx hb dX4_off_20 rfl (lv_at hl 3 rfl) ?_
      refine lv_i2l (v := what.toInt64) hx hb dX4_off_21 rfl ?_
      refine lv_lconst (v := lN 0) hx hb dX4_off_22 (by decide +kernel) ?_
      refine lv_lconst (v := lN 1) hx hb dX4_off_23 (by decide +kernel) ?_
      refine wl_callPi hC (c_X4_in (v := what.toInt64) (low := (lN 0)) (high := (lN 1)) ) lk_RX4_56 rfl ⟨rfl, rfl, Nat.le_of_ble_eq_true rfl, Nat.le_of_ble_eq_true rfl⟩ hP hS hA hl.1 rfl (Nat.le_of_ble_eq_true rfl) dX4_off_24 ⟨Nat.zero_le _, Nat.zero_le _⟩ (fun z9 hz9 H locs hP hS => ?_)
      have hm := wl_bz hm hz9
      refine wl_if_ne_b hx hb (tgt := 37) dX4_off_27 (by decide) (fun c10 => ?_) (fun c10 => ?_)
      · have hm := hm.trans (if_pos c10)
        refine lv_aload_n hx hb dX4_off_37 rfl (lv_at hl 0 rfl) ?_
        refine g_M_0_now hC hP mw_385 dX4_off_38 ?_
        refine lv_bipush (v := (nI 18)) hx hb dX4_off_41 (by decide +kernel) ?_
        refine ld_M_1 hC hP 18 (by omega) dX4_off_43 ?_
        refine lv_iload_n hx hb dX4_off_44 rfl (lv_at hl 1 rfl) ?_
        refine wl_callPi hC (c_X4_has (set := (mnow 18)) (k := (cl p)) ) lk_RX4_91 rfl ⟨rfl, rfl, Nat.le_of_ble_eq_true rfl, Nat.le_of_ble_eq_true rfl⟩ hP hS hA hl.1 rfl (Nat.le_of_ble_eq_true rfl) dX4_off_45 ⟨Nat.zero_le _, Nat.zero_le _⟩ (fun z11 hz11 H locs hP hS => ?_)
        have hm := wl_bz hm hz11
        refine wl_if_ne_b hx hb (tgt := 56) dX4_off_48 (by decide) (fun c12 => ?_) (fun c12 => ?_)
        · have hm := hm.trans (if_pos c12)
          refine lv_iconst (v := (-1)) hx hb dX4_off_56 (by decide +kernel) ?_
          refine lv_istore (lv' := [(4, .int (-1)), (0, .ref (a 0)), (1, .int (nI (cl p))), (2, .int (nI (cl n))), (3, .int what)]) hx hb dX4_off_57 hl (by decide) rfl (fun ls hl => ?_)
          refine lv_iconst (v := (nI 0)) hx hb dX4_off_59 (by decide +kernel) ?_
          refine lv_istore (lv' := [(5, .int (nI 0)), (4, .int (-1)), (0, .ref (a 0)), (1, .int (nI (cl p))), (2, .int (nI (cl n))), (3, .int what)]) hx hb dX4_off_60 hl (by decide) rfl (fun ls hl => ?_)
          obtain ⟨u13, hu13, hk13⟩ := wl_bx hm
          refine wl_for (D := D) (A := A) (H0 := s0.heap) (m_X4_off_l62 mnow p n P) (2 ^ (cl n)) 0 (2 ^ (cl n)) (mlisted, mfollowing, mdayThen, mtempers, (-1)) 62 7 (fun k13 v13 => [(0, .ref (a 0)), (1, .int (nI (cl p))), (2, .int (nI (cl n))), (3, .int what), (4, .int v13.2.2.2.2), (5, .int (nI k13))]) (fun k13 v13 => (wM E a mabove mbelow v13.1 v13.2.1 v13.2.2.1 mbytesLong mtokenAt mtokenLong mtoken mvalue mnow mkept misKept mrefused v13.2.2.2.1 mhis mtheirs mmanyBy mbytes manew mvalues)) (fun k13 v13 => True) (by omega) trivial ?_ ?_ hP hD hS (lv_sub hl [2, 3, 4, 5, 1, 0] rfl)
          · intro z13 hv13 hI13 ls H locs hP hD hS hl
            have hm := hk13 z13 (hu13.trans hv13)
            refine lv_iload hx hb dX4_off_62 (lv_at hl 5 rfl) ?_
            refine lv_iconst (v := (nI 1)) hx hb dX4_off_64 (by decide +kernel) ?_
            refine lv_iload_n hx hb dX4_off_65 rfl (lv_at hl 2 rfl) ?_
            refine lv_ishl hx hb dX4_off_66 ?_
            refine wl_re (wl_pow (by omega)) ?_
            refine wl_icmp_ge_n hx hb (by first | omega | exact Nat.lt_of_le_of_lt Nat.and_le_right (by omega) | exact Nat.pow_lt_pow_right (by omega) (by omega) | exact Nat.lt_trans (by assumption) (Nat.pow_lt_pow_right (by omega) (by omega))) (by first | omega | exact Nat.lt_of_le_of_lt Nat.and_le_right (by omega) | exact Nat.pow_lt_pow_right (by omega) (by omega) | exact Nat.lt_trans (by assumption) (Nat.pow_lt_pow_right (by omega) (by omega))) (tgt := 127) dX4_off_67 (by decide) (fun c23 => ?_) (fun c23 => absurd (by omega) c23)
            refine lv_iload_n hx hb dX4_off_127 rfl (lv_at hl 3 rfl) ?_
            refine lv_if_ne hx hb (tgt := 145) dX4_off_128 (by decide) (fun c24 => ?_) (fun c24 => ?_)
            · have hm := hm.trans (if_neg c24)
              refine lv_iload hx hb dX4_off_145 (lv_at hl 4 rfl) ?_
              exact wl_iret hC hr hlk hm rfl hP hD hS dX4_off_147
            · have hm := hm.trans (if_pos c24)
              refine lv_iload hx hb dX4_off_131 (lv_at hl 4 rfl) ?_
              refine lv_iconst (v := (-1)) hx hb dX4_off_133 (by decide +kernel) ?_
              refine lv_icmp_eq hx hb (tgt := 145) dX4_off_134 (by decide) (fun c25 => ?_) (fun c25 => ?_)
              · have hm := hm.trans (if_pos c25)
                refine lv_iload hx hb dX4_off_145 (lv_at hl 4 rfl) ?_
                exact wl_iret hC hr hlk hm rfl hP hD hS dX4_off_147
              · have hm := hm.trans (if_neg c25)
                refine lv_iload hx hb dX4_off_137 (lv_at hl 4 rfl) ?_
                refine wl_callPi hC (c_X4_bits (set := z13.2.2.2.2) ) lk_RX4_128 rfl ⟨rfl, rfl, Nat.le_of_ble_eq_true rfl, Nat.le_of_ble_eq_true rfl⟩ hP hS hA hl.1 rfl (Nat.le_of_ble_eq_true rfl) dX4_off_139 ⟨Nat.zero_le _, Nat.zero_le _⟩ (fun z26 hz26 H locs hP hS => ?_)
                have hm := wl_bz hm hz26
                refine lv_goto (tgt := 147) hx hb dX4_off_142 (by decide) ?_
                exact wl_iret hC hr hlk hm rfl hP hD hS dX4_off_147
          · intro k13 v13 hlo13 hhi13 hI13 IH13 ls H locs hP hD hS hl
            have hb13 := m_X4_off_l62.eq_1 mnow p n P k13 v13
            refine lv_iload hx hb dX4_off_62 (lv_at hl 5 rfl) ?_
            refine lv_iconst (v := (nI 1)) hx hb dX4_off_64 (by decide +kernel) ?_
            refine lv_iload_n hx hb dX4_off_65 rfl (lv_at hl 2 rfl) ?_
            refine lv_ishl hx hb dX4_off_66 ?_
            refine wl_re (wl_pow (by omega)) ?_
            refine wl_icmp_ge_n hx hb (by first | omega | exact Nat.lt_of_le_of_lt Nat.and_le_right (by omega) | exact Nat.pow_lt_pow_right (by omega) (by omega) | exact Nat.lt_trans (by assumption) (Nat.pow_lt_pow_right (by omega) (by omega))) (by first | omega | exact Nat.lt_of_le_of_lt Nat.and_le_right (by omega) | exact Nat.pow_lt_pow_right (by omega) (by omega) | exact Nat.lt_trans (by assumption) (Nat.pow_lt_pow_right (by omega) (by omega))) (tgt := 127) dX4_off_67 (by decide) (fun c14 => absurd c14 (by omega)) (fun c14 => ?_)
            refine lv_iload hx hb dX4_off_70 (lv_at hl 4 rfl) ?_
            refine lv_iconst (v := (-1)) hx hb dX4_off_72 (by decide +kernel) ?_
            obtain ⟨u15, hj15, hk15⟩ := wl_bx hb13
            refine wl_J u15 94 (fun z15 => [.int (wl_b z15)]) 7 (fun z15 => [(0, .ref (a 0)), (1, .int (nI (cl p))), (2, .int (nI (cl n))), (3, .int what), (4, .int v13.2.2.2.2), (5, .int (nI k13))]) D A s0.heap (fun z15 => (wM E a mabove mbelow v13.1 v13.2.1 v13.2.2.1 mbytesLong mtokenAt mtokenLong mtoken mvalue mnow mkept misKept mrefused v13.2.2.2.1 mhis mtheirs mmanyBy mbytes manew mvalues)) (fun z15 hz15 ls H locs hP hD hS hl => ?_) (fun J15 => ?_)
            · have hb13 := hk15 z15 hz15
              refine lv_istore (lv' := [(6, .int (wl_b z15)), (0, .ref (a 0)), (1, .int (nI (cl p))), (2, .int (nI (cl n))), (3, .int what), (4, .int v13.2.2.2.2), (5, .int (nI k13))]) hx hb dX4_off_94 hl (by decide) rfl (fun ls hl => ?_)
              refine lv_iload hx hb dX4_off_96 (lv_at hl 0 rfl) ?_
              refine wl_if_eq_b hx hb (tgt := 117) dX4_off_98 (by decide) (fun c20 => ?_) (fun c20 => ?_)
              · have hb13 := hb13.trans (if_neg c20)
                refine lv_iload hx hb dX4_off_117 (lv_at hl 5 rfl) ?_
                refine lv_istore (lv' := [(4, .int v13.2.2.2.2), (6, .int (wl_b z15)), (0, .ref (a 0)), (1, .int (nI (cl p))), (2, .int (nI (cl n))), (3, .int what), (5, .int (nI k13))]) hx hb dX4_off_119 hl (by decide) rfl (fun ls hl => ?_)
                refine lv_iinc (v := (nI (k13 + 1))) (lv' := [(5, .int (nI (k13 + 1))), (4, .int v13.2.2.2.2), (6, .int (wl_b z15)), (0, .ref (a 0)), (1, .int (nI (cl p))), (2, .int (nI (cl n))), (3, .int what)]) hx hb dX4_off_121 hl (k := 6) rfl (wl_inc k13 1) (by decide) rfl (fun ls hl => ?_)
                refine lv_goto (tgt := 62) hx hb dX4_off_124 (by decide) ?_
                exact IH13 _ hb13 trivial ls H locs hP hD hS (lv_sub hl [3, 4, 5, 6, 1, 0] rfl)
              · have hb13 := hb13.trans (if_pos c20)
                refine lv_aload_n hx hb dX4_off_101 rfl (lv_at hl 1 rfl) ?_
                refine lv_iload_n hx hb dX4_off_102 rfl (lv_at hl 2 rfl) ?_
                refine lv_iload_n hx hb dX4_off_103 rfl (lv_at hl 3 rfl) ?_
                refine lv_iload hx hb dX4_off_104 (lv_at hl 6 rfl) ?_
                refine wl_callVi hC (c_X4_isStruck (p := (cl p)) (n := (cl n)) (days := (nI k13)) (P := P) (h0) (by first | assumption | omega) (by first | assumption | omega) (by first | assumption | omega)) lk_RX4_144 rfl ⟨rfl, rfl, Nat.le_of_ble_eq_true rfl, Nat.le_of_ble_eq_true rfl⟩ hP hD hS hA 0 rfl (T1 := 21) rfl hl.1 rfl (Nat.le_of_ble_eq_true rfl) dX4_off_106 ⟨Nat.zero_le _, Nat.zero_le _⟩ (fun z21 hz21 H locs hP hD hS => ?_)
                have hb13 := wl_bz hb13 hz21
                refine wl_if_eq_b hx hb (tgt := 117) dX4_off_109 (by decide) (fun c22 => ?_) (fun c22 => ?_)
                · have hb13 := hb13.trans (if_neg c22)
                  refine lv_iload hx hb dX4_off_117 (lv_at hl 5 rfl) ?_
                  refine lv_istore (lv' := [(4, .int v13.2.2.2.2), (6, .int (wl_b z15)), (0, .ref (a 0)), (1, .int (nI (cl p))), (2, .int (nI (cl n))), (3, .int what), (5, .int (nI k13))]) hx hb dX4_off_119 hl (by decide) rfl (fun ls hl => ?_)
                  refine lv_iinc (v := (nI (k13 + 1))) (lv' := [(5, .int (nI (k13 + 1))), (4, .int v13.2.2.2.2), (6, .int (wl_b z15)), (0, .ref (a 0)), (1, .int (nI (cl p))), (2, .int (nI (cl n))), (3, .int what)]) hx hb dX4_off_121 hl (k := 6) rfl (wl_inc k13 1) (by decide) rfl (fun ls hl => ?_)
                  refine lv_goto (tgt := 62) hx hb dX4_off_124 (by decide) ?_
                  exact IH13 _ hb13 trivial ls H locs hP hD hS (lv_sub hl [3, 4, 5, 6, 1, 0] rfl)
                · have hb13 := hb13.trans (if_pos c22)
                  refine lv_iload hx hb dX4_off_112 (lv_at hl 6 rfl) ?_
                  refine lv_goto (tgt := 119) hx hb dX4_off_114 (by decide) ?_
                  refine lv_istore (lv' := [(4, .int (nI k13)), (6, .int (wl_b z15)), (0, .ref (a 0)), (1, .int (nI (cl p))), (2, .int (nI (cl n))), (3, .int what), (5, .int (nI k13))]) hx hb dX4_off_119 hl (by decide) rfl (fun ls hl => ?_)
                  refine lv_iinc (v := (nI (k13 + 1))) (lv' := [(5, .int (nI (k13 + 1))), (4, .int (nI k13)), (6, .int (wl_b z15)), (0, .ref (a 0)), (1, .int (nI (cl p))), (2, .int (nI (cl n))), (3, .int what)]) hx hb dX4_off_121 hl (k := 6) rfl (wl_inc k13 1) (by decide) rfl (fun ls hl => ?_)
                  refine lv_goto (tgt := 62) hx hb dX4_off_124 (by decide) ?_
                  exact IH13 _ hb13 trivial ls H locs hP hD hS (lv_sub hl [3, 4, 5, 6, 1, 0] rfl)
            · refine lv_icmp_eq hx hb (tgt := 89) dX4_off_73 (by decide) (fun c16 => ?_) (fun c16 => ?_)
              · have hj15 := hj15.trans (if_pos c16)
                refine lv_iconst (v := (nI 1)) hx hb dX4_off_89 (by decide +kernel) ?_
                refine lv_goto (tgt := 94) hx hb dX4_off_90 (by decide) ?_
                exact J15 _ hj15 ls H locs hP hD hS (lv_sub hl [0, 1, 2, 3, 4, 5] rfl)
              · have hj15 := hj15.trans (if_neg c16)
                refine lv_iload hx hb dX4_off_76 (lv_at hl 5 rfl) ?_
                refine wl_callPi hC (c_X4_bits (set := (nI k13)) ) lk_RX4_128 rfl ⟨rfl, rfl, Nat.le_of_ble_eq_true rfl, Nat.le_of_ble_eq_true rfl⟩ hP hS hA hl.1 rfl (Nat.le_of_ble_eq_true rfl) dX4_off_78 ⟨Nat.zero_le _, Nat.zero_le _⟩ (fun z17 hz17 H locs hP hS => ?_)
                have hj15 := wl_bz hj15 hz17
                refine lv_iload hx hb dX4_off_81 (lv_at hl 4 rfl) ?_
                refine wl_callPi hC (c_X4_bits (set := v13.2.2.2.2) ) lk_RX4_128 rfl ⟨rfl, rfl, Nat.le_of_ble_eq_true rfl, Nat.le_of_ble_eq_true rfl⟩ hP hS hA hl.1 rfl (Nat.le_of_ble_eq_true rfl) dX4_off_83 ⟨Nat.zero_le _, Nat.zero_le _⟩ (fun z18 hz18 H locs hP hS => ?_)
                have hj15 := wl_bz hj15 hz18
                refine lv_icmp_ge hx hb (tgt := 93) dX4_off_86 (by decide) (fun c19 => ?_) (fun c19 => ?_)
                · have hj15 := hj15.trans (if_pos c19)
                  refine lv_iconst (v := (nI 0)) hx hb dX4_off_93 (by decide +kernel) ?_
                  exact J15 _ hj15 ls H locs hP hD hS (lv_sub hl [0, 1, 2, 3, 4, 5] rfl)
                · have hj15 := hj15.trans (if_neg c19)
                  refine lv_iconst (v := (nI 1)) hx hb dX4_off_89 (by decide +kernel) ?_
                  refine lv_goto (tgt := 94) hx hb dX4_off_90 (by decide) ?_
                  exact J15 _ hj15 ls H locs hP hD hS (lv_sub hl [0, 1, 2, 3, 4, 5] rfl)
        · have hm := hm.trans (if_neg c12)
          refine lv_aload_n hx hb dX4_off_51 rfl (lv_at hl 0 rfl) ?_
          refine wl_callVi hC (c_X4_no  ) lk_RX4_131 rfl ⟨rfl, rfl, Nat.le_of_ble_eq_true rfl, Nat.le_of_ble_eq_true rfl⟩ hP hD hS hA 0 rfl (T1 := 21) rfl hl.1 rfl (Nat.le_of_ble_eq_true rfl) dX4_off_52 ⟨Nat.zero_le _, Nat.zero_le _⟩ (fun z27 hz27 H locs hP hD hS => ?_)
          have hm := wl_bz hm hz27
          exact wl_iret hC hr hlk hm rfl hP hD hS dX4_off_55
      · have hm := hm.trans (if_neg c10)
        refine lv_aload_n hx hb dX4_off_30 rfl (lv_at hl 0 rfl) ?_
        refine lv_bipush (v := (-2)) hx hb dX4_off_31 (by decide +kernel) ?_
        refine wl_callVi hC (c_X4_bad (tells := (-2)) ) lk_RX4_62 rfl ⟨rfl, rfl, Nat.le_of_ble_eq_true rfl, Nat.le_of_ble_eq_true rfl⟩ hP hD hS hA 0 rfl (T1 := 21) rfl hl.1 rfl (Nat.le_of_ble_eq_true rfl) dX4_off_33 ⟨Nat.zero_le _, Nat.zero_le _⟩ (fun z28 hz28 H locs hP hD hS => ?_)
        have hm := wl_bz hm hz28
        exact wl_iret hC hr hlk hm rfl hP hD hS dX4_off_36
def m_X4_rests_l93 (z6 : Bool) (z10 : Bool) (k12 : Nat) (v12 : (Nat → Int32) × (Nat → Int32)) : (Nat → Int32) × (Nat → Int32) := (wl_bnd ((if k12 ≤ 1 then (if k12 = 0 then (if z6 = true then 2 else 0) else 0) else 1) : Nat) (fun z14 => (if 2 ≤ k12 then (if k12 = 2 then (if z10 = true then ((upd v12.1 k12 (nI z14)), (upd v12.2 k12 (-1))) else ((upd v12.1 k12 (nI z14)), (upd v12.2 k12 (nI 1)))) else ((upd v12.1 k12 (nI z14)), (upd v12.2 k12 (nI 1)))) else ((upd v12.1 k12 (nI z14)), (upd v12.2 k12 (nI 0))))))
def m_X4_rests_l175 (z12 : (Nat → Int32) × (Nat → Int32)) (k22 : Nat) (v22 : Int32) : Int32 := (wl_bnd ((if (z12.1 k22) < (z12.1 (k22 ^^^ 1)) then false else (if (z12.2 k22) < (z12.2 (k22 ^^^ 2)) then false else true)) : Bool) (fun z24 => (if z24 = true then (v22 ||| ((nI 1) <<< ((nI k22) &&& 31))) else (v22 ||| (nI 0)))))
def m_X4_rests (mnow : (Nat → Int32)) (mrefused : (Nat → Int32)) (mhis : (Nat → Int32)) (mtheirs : (Nat → Int32)) (p : Int32) (P : Nat) : Int32 × (Nat → Int32) × (Nat → Int32) × (Nat → Int32) := (wl_bnd (m_X4_isOne p P) (fun z1 => (if z1 = true then (wl_bnd (m_X4_kindOf mnow (cl p)) (fun z4 => (wl_bnd (m_X4_actAs z4 (mnow (11 + (cl p))) (mnow 21) true) (fun z5 => (wl_bnd ((if z5 < (mnow 1) then false else true) : Bool) (fun z6 => (wl_bnd (m_X4_kindOf mnow (cl p)) (fun z8 => (wl_bnd (m_X4_actAs z8 (mnow (11 + (cl p))) (mnow 21) false) (fun z9 => (wl_bnd ((if z9 < (mnow 1) then false else true) : Bool) (fun z10 => (wl_bnd (wl_iter (m_X4_rests_l93 z6 z10) 4 0 (mhis, mtheirs)) (fun z12 => (wl_bnd (wl_iter (m_X4_rests_l175 z12) 4 0 (nI 0)) (fun z22 => (z22, mrefused, z12.1, z12.2))))))))))))))))) else (wl_bnd (m_X4_bad mrefused (-2)) (fun z29 => (z29.1, z29.2, mhis, mtheirs))))))
set_option maxHeartbeats 4000000 in
set_option maxRecDepth 100000 in
theorem c_X4_rests {l : Launch} {D : va_G} {E : Nat → ClassId} {a : Nat → Nat} {mabove : Int64} {mbelow : Int64} {mlisted : Int32} {mfollowing : Int32} {mdayThen : Int32} {mbytesLong : Nat} {mtokenAt : Nat} {mtokenLong : Nat} {mtoken : Int32} {mvalue : Int32} {mnow : (Nat → Int32)} {mkept : (Nat → Int32)} {misKept : (Nat → Int32)} {mrefused : (Nat → Int32)} {mtempers : (Nat → Int32)} {mhis : (Nat → Int32)} {mtheirs : (Nat → Int32)} {mmanyBy : (Nat → Int32)} {mbytes : (Nat → Int32)} {manew : (Nat → Int32)} {mvalues : (Nat → Int32)} {p : Int32} {P : Nat} (h0 : mnow 0 = nI P) (hP7 : P ≤ 7) : wl_Met (τ := Int32 × (Nat → Int32) × (Nat → Int32) × (Nat → Int32)) l D E yX4_rests cX4_rests 8 (some .int) ({ frames := 2, cells := 0, slots := 0, locals := 46 } : Room) [.ref (a 0), .int p] (wM E a mabove mbelow mlisted mfollowing mdayThen mbytesLong mtokenAt mtokenLong mtoken mvalue mnow mkept misKept mrefused mtempers mhis mtheirs mmanyBy mbytes manew mvalues) (fun z => some (.int z.1)) (fun z => (wM E a mabove mbelow mlisted mfollowing mdayThen mbytesLong mtokenAt mtokenLong mtoken mvalue mnow mkept misKept z.2.1 mtempers z.2.2.1 z.2.2.2 mmanyBy mbytes manew mvalues)) (m_X4_rests mnow mrefused mhis mtheirs p P) := by
  refine wl_enter (own := RX4) (by decide +kernel) rfl (Nat.le_of_ble_eq_true rfl) ?_
  intro p0 e0 s0 m0 bl0 mt0 c0 A hC hr hlk hA H locs hP hD hS ls hl
  have hx := hC.1
  have hb := hC.2.1
  have hl : lv_has ls 8 [(0, .ref (a 0)), (1, .int p)] := hl
  have hm := m_X4_rests.eq_1 mnow mrefused mhis mtheirs p P
  refine lv_aload_n hx hb dX4_rests_0 rfl (lv_at hl 0 rfl) ?_
  refine lv_iload_n hx hb dX4_rests_1 rfl (lv_at hl 1 rfl) ?_
  refine wl_callVi hC (c_X4_isOne (p := p) (P := P) (h0)) lk_RX4_113 rfl ⟨rfl, rfl, Nat.le_of_ble_eq_true rfl, Nat.le_of_ble_eq_true rfl⟩ hP hD hS hA 0 rfl (T1 := 21) rfl hl.1 rfl (Nat.le_of_ble_eq_true rfl) dX4_rests_2 ⟨Nat.zero_le _, Nat.zero_le _⟩ (fun z1 hz1 H locs hP hD hS => ?_)
  have hm := wl_bz hm hz1
  refine wl_if_ne_b hx hb (tgt := 15) dX4_rests_5 (by decide) (fun c2 => ?_) (fun c2 => ?_)
  · have hm := hm.trans (if_pos c2)
    obtain ⟨ha3, hb3_⟩ := isOne_spec hP7 (hz1.symm.trans c2)
    have hl : lv_has ls 8 [(0, .ref (a 0)), (1, .int (nI (cl p)))] := by rw [← ha3]; exact hl
    refine lv_aload_n hx hb dX4_rests_15 rfl (lv_at hl 0 rfl) ?_
    refine g_M_0_now hC hP mw_385 dX4_rests_16 ?_
    refine lv_bipush (v := (nI 11)) hx hb dX4_rests_19 (by decide +kernel) ?_
    refine lv_iload_n hx hb dX4_rests_21 rfl (lv_at hl 1 rfl) ?_
    refine lv_iadd hx hb dX4_rests_22 ?_
    refine wl_re (show nI 11 + nI (cl p) = nI (11 + (cl p)) from nI_add 11 (cl p)) ?_
    refine ld_M_1 hC hP (11 + (cl p)) (by omega) dX4_rests_23 ?_
    refine lv_istore_n (lv' := [(2, .int (mnow (11 + (cl p)))), (0, .ref (a 0)), (1, .int (nI (cl p)))]) hx hb dX4_rests_24 rfl hl (by decide) rfl (fun ls hl => ?_)
    refine lv_aload_n hx hb dX4_rests_25 rfl (lv_at hl 1 rfl) ?_
    refine lv_iload_n hx hb dX4_rests_26 rfl (lv_at hl 2 rfl) ?_
    refine wl_callVi hC (c_X4_kindOf (p := (cl p)) (by first | assumption | omega)) lk_RX4_88 rfl ⟨rfl, rfl, Nat.le_of_ble_eq_true rfl, Nat.le_of_ble_eq_true rfl⟩ hP hD hS hA 0 rfl (T1 := 21) rfl hl.1 rfl (Nat.le_of_ble_eq_true rfl) dX4_rests_27 ⟨Nat.zero_le _, Nat.zero_le _⟩ (fun z4 hz4 H locs hP hD hS => ?_)
    have hm := wl_bz hm hz4
    refine lv_iload_n hx hb dX4_rests_30 rfl (lv_at hl 0 rfl) ?_
    refine lv_aload_n hx hb dX4_rests_31 rfl (lv_at hl 1 rfl) ?_
    refine g_M_0_now hC hP mw_385 dX4_rests_32 ?_
    refine lv_bipush (v := (nI 21)) hx hb dX4_rests_35 (by decide +kernel) ?_
    refine ld_M_1 hC hP 21 (by omega) dX4_rests_37 ?_
    refine lv_iconst (v := (nI 1)) hx hb dX4_rests_38 (by decide +kernel) ?_
    refine wl_callPi hC (c_X4_actAs (kind := z4) (t := (mnow (11 + (cl p)))) (day := (mnow 21)) (followed := true) ) lk_RX4_95 rfl ⟨rfl, rfl, Nat.le_of_ble_eq_true rfl, Nat.le_of_ble_eq_true rfl⟩ hP hS hA hl.1 rfl (Nat.le_of_ble_eq_true rfl) dX4_rests_39 ⟨Nat.zero_le _, Nat.zero_le _⟩ (fun z5 hz5 H locs hP hS => ?_)
    have hm := wl_bz hm hz5
    refine lv_aload_n hx hb dX4_rests_42 rfl (lv_at hl 1 rfl) ?_
    refine g_M_0_now hC hP mw_385 dX4_rests_43 ?_
    refine lv_iconst (v := (nI 1)) hx hb dX4_rests_46 (by decide +kernel) ?_
    refine ld_M_1 hC hP 1 (by omega) dX4_rests_47 ?_
    obtain ⟨u6, hj6, hk6⟩ := wl_bx hm
    refine wl_J u6 56 (fun z6 => [.int (wl_b z6)]) 8 (fun z6 => [(2, .int (mnow (11 + (cl p)))), (0, .ref (a 0)), (1, .int (nI (cl p)))]) D A s0.heap (fun z6 => (wM E a mabove mbelow mlisted mfollowing mdayThen mbytesLong mtokenAt mtokenLong mtoken mvalue mnow mkept misKept mrefused mtempers mhis mtheirs mmanyBy mbytes manew mvalues)) (fun z6 hz6 ls H locs hP hD hS hl => ?_) (fun J6 => ?_)
    · have hm := hk6 z6 hz6
      refine lv_istore_n (lv' := [(3, .int (wl_b z6)), (2, .int (mnow (11 + (cl p)))), (0, .ref (a 0)), (1, .int (nI (cl p)))]) hx hb dX4_rests_56 rfl hl (by decide) rfl (fun ls hl => ?_)
      refine lv_aload_n hx hb dX4_rests_57 rfl (lv_at hl 2 rfl) ?_
      refine lv_iload_n hx hb dX4_rests_58 rfl (lv_at hl 3 rfl) ?_
      refine wl_callVi hC (c_X4_kindOf (p := (cl p)) (by first | assumption | omega)) lk_RX4_88 rfl ⟨rfl, rfl, Nat.le_of_ble_eq_true rfl, Nat.le_of_ble_eq_true rfl⟩ hP hD hS hA 0 rfl (T1 := 21) rfl hl.1 rfl (Nat.le_of_ble_eq_true rfl) dX4_rests_59 ⟨Nat.zero_le _, Nat.zero_le _⟩ (fun z8 hz8 H locs hP hD hS => ?_)
      have hm := wl_bz hm hz8
      refine lv_iload_n hx hb dX4_rests_62 rfl (lv_at hl 1 rfl) ?_
      refine lv_aload_n hx hb dX4_rests_63 rfl (lv_at hl 2 rfl) ?_
      refine g_M_0_now hC hP mw_385 dX4_rests_64 ?_
      refine lv_bipush (v := (nI 21)) hx hb dX4_rests_67 (by decide +kernel) ?_
      refine ld_M_1 hC hP 21 (by omega) dX4_rests_69 ?_
      refine lv_iconst (v := (nI 0)) hx hb dX4_rests_70 (by decide +kernel) ?_
      refine wl_callPi hC (c_X4_actAs (kind := z8) (t := (mnow (11 + (cl p)))) (day := (mnow 21)) (followed := false) ) lk_RX4_95 rfl ⟨rfl, rfl, Nat.le_of_ble_eq_true rfl, Nat.le_of_ble_eq_true rfl⟩ hP hS hA hl.1 rfl (Nat.le_of_ble_eq_true rfl) dX4_rests_71 ⟨Nat.zero_le _, Nat.zero_le _⟩ (fun z9 hz9 H locs hP hS => ?_)
      have hm := wl_bz hm hz9
      refine lv_aload_n hx hb dX4_rests_74 rfl (lv_at hl 2 rfl) ?_
      refine g_M_0_now hC hP mw_385 dX4_rests_75 ?_
      refine lv_iconst (v := (nI 1)) hx hb dX4_rests_78 (by decide +kernel) ?_
      refine ld_M_1 hC hP 1 (by omega) dX4_rests_79 ?_
      obtain ⟨u10, hj10, hk10⟩ := wl_bx hm
      refine wl_J u10 88 (fun z10 => [.int (wl_b z10)]) 8 (fun z10 => [(3, .int (wl_b z6)), (0, .ref (a 0))]) D A s0.heap (fun z10 => (wM E a mabove mbelow mlisted mfollowing mdayThen mbytesLong mtokenAt mtokenLong mtoken mvalue mnow mkept misKept mrefused mtempers mhis mtheirs mmanyBy mbytes manew mvalues)) (fun z10 hz10 ls H locs hP hD hS hl => ?_) (fun J10 => ?_)
      · have hm := hk10 z10 hz10
        refine lv_istore (lv' := [(4, .int (wl_b z10)), (3, .int (wl_b z6)), (0, .ref (a 0))]) hx hb dX4_rests_88 hl (by decide) rfl (fun ls hl => ?_)
        refine lv_iconst (v := (nI 0)) hx hb dX4_rests_90 (by decide +kernel) ?_
        refine lv_istore (lv' := [(5, .int (nI 0)), (4, .int (wl_b z10)), (3, .int (wl_b z6)), (0, .ref (a 0))]) hx hb dX4_rests_91 hl (by decide) rfl (fun ls hl => ?_)
        obtain ⟨u12, hu12, hk12⟩ := wl_bx hm
        refine wl_for (D := D) (A := A) (H0 := s0.heap) (m_X4_rests_l93 z6 z10) 4 0 4 (mhis, mtheirs) 93 8 (fun k12 v12 => [(0, .ref (a 0)), (3, .int (wl_b z6)), (4, .int (wl_b z10)), (5, .int (nI k12))]) (fun k12 v12 => (wM E a mabove mbelow mlisted mfollowing mdayThen mbytesLong mtokenAt mtokenLong mtoken mvalue mnow mkept misKept mrefused mtempers v12.1 v12.2 mmanyBy mbytes manew mvalues)) (fun k12 v12 => True) (by omega) trivial ?_ ?_ hP hD hS (lv_sub hl [3, 2, 1, 0] rfl)
        · intro z12 hv12 hI12 ls H locs hP hD hS hl
          have hm := hk12 z12 (hu12.trans hv12)
          refine lv_iload hx hb dX4_rests_93 (lv_at hl 3 rfl) ?_
          refine lv_iconst (v := (nI 4)) hx hb dX4_rests_95 (by decide +kernel) ?_
          refine wl_icmp_ge_n hx hb (by first | omega | exact Nat.lt_of_le_of_lt Nat.and_le_right (by omega) | exact Nat.pow_lt_pow_right (by omega) (by omega) | exact Nat.lt_trans (by assumption) (Nat.pow_lt_pow_right (by omega) (by omega))) (by first | omega | exact Nat.lt_of_le_of_lt Nat.and_le_right (by omega) | exact Nat.pow_lt_pow_right (by omega) (by omega) | exact Nat.lt_trans (by assumption) (Nat.pow_lt_pow_right (by omega) (by omega))) (tgt := 169) dX4_rests_96 (by decide) (fun c21 => ?_) (fun c21 => absurd (by omega) c21)
          refine lv_iconst (v := (nI 0)) hx hb dX4_rests_169 (by decide +kernel) ?_
          refine lv_istore (lv' := [(5, .int (nI 0)), (0, .ref (a 0)), (3, .int (wl_b z6)), (4, .int (wl_b z10))]) hx hb dX4_rests_170 hl (by decide) rfl (fun ls hl => ?_)
          refine lv_iconst (v := (nI 0)) hx hb dX4_rests_172 (by decide +kernel) ?_
          refine lv_istore (lv' := [(6, .int (nI 0)), (5, .int (nI 0)), (0, .ref (a 0)), (3, .int (wl_b z6)), (4, .int (wl_b z10))]) hx hb dX4_rests_173 hl (by decide) rfl (fun ls hl => ?_)
          obtain ⟨u22, hu22, hk22⟩ := wl_bx hm
          refine wl_for (D := D) (A := A) (H0 := s0.heap) (m_X4_rests_l175 z12) 4 0 4 (nI 0) 175 8 (fun k22 v22 => [(0, .ref (a 0)), (5, .int v22), (6, .int (nI k22))]) (fun k22 v22 => (wM E a mabove mbelow mlisted mfollowing mdayThen mbytesLong mtokenAt mtokenLong mtoken mvalue mnow mkept misKept mrefused mtempers z12.1 z12.2 mmanyBy mbytes manew mvalues)) (fun k22 v22 => True) (by omega) trivial ?_ ?_ hP hD hS (lv_sub hl [2, 1, 0] rfl)
          · intro z22 hv22 hI22 ls H locs hP hD hS hl
            have hm := hk22 z22 (hu22.trans hv22)
            refine lv_iload hx hb dX4_rests_175 (lv_at hl 2 rfl) ?_
            refine lv_iconst (v := (nI 4)) hx hb dX4_rests_177 (by decide +kernel) ?_
            refine wl_icmp_ge_n hx hb (by first | omega | exact Nat.lt_of_le_of_lt Nat.and_le_right (by omega) | exact Nat.pow_lt_pow_right (by omega) (by omega) | exact Nat.lt_trans (by assumption) (Nat.pow_lt_pow_right (by omega) (by omega))) (by first | omega | exact Nat.lt_of_le_of_lt Nat.and_le_right (by omega) | exact Nat.pow_lt_pow_right (by omega) (by omega) | exact Nat.lt_trans (by assumption) (Nat.pow_lt_pow_right (by omega) (by omega))) (tgt := 250) dX4_rests_178 (by decide) (fun c28 => ?_) (fun c28 => absurd (by omega) c28)
            refine lv_iload hx hb dX4_rests_250 (lv_at hl 1 rfl) ?_
            exact wl_iret hC hr hlk hm rfl hP hD hS dX4_rests_252
          · intro k22 v22 hlo22 hhi22 hI22 IH22 ls H locs hP hD hS hl
            have hb22 := m_X4_rests_l175.eq_1 z12 k22 v22
            refine lv_iload hx hb dX4_rests_175 (lv_at hl 2 rfl) ?_
            refine lv_iconst (v := (nI 4)) hx hb dX4_rests_177 (by decide +kernel) ?_
            refine wl_icmp_ge_n hx hb (by first | omega | exact Nat.lt_of_le_of_lt Nat.and_le_right (by omega) | exact Nat.pow_lt_pow_right (by omega) (by omega) | exact Nat.lt_trans (by assumption) (Nat.pow_lt_pow_right (by omega) (by omega))) (by first | omega | exact Nat.lt_of_le_of_lt Nat.and_le_right (by omega) | exact Nat.pow_lt_pow_right (by omega) (by omega) | exact Nat.lt_trans (by assumption) (Nat.pow_lt_pow_right (by omega) (by omega))) (tgt := 250) dX4_rests_178 (by decide) (fun c23 => absurd c23 (by omega)) (fun c23 => ?_)
            refine lv_aload_n hx hb dX4_rests_181 rfl (lv_at hl 0 rfl) ?_
            refine g_M_0_his hC hP mw_391 dX4_rests_182 ?_
            refine lv_iload hx hb dX4_rests_185 (lv_at hl 2 rfl) ?_
            refine ld_M_6 hC hP k22 (by omega) dX4_rests_187 ?_
            refine lv_aload_n hx hb dX4_rests_188 rfl (lv_at hl 0 rfl) ?_
            refine g_M_0_his hC hP mw_391 dX4_rests_189 ?_
            refine lv_iload hx hb dX4_rests_192 (lv_at hl 2 rfl) ?_
            refine lv_iconst (v := (nI 1)) hx hb dX4_rests_194 (by decide +kernel) ?_
            refine lv_ixor hx hb dX4_rests_195 ?_
            refine wl_re (show nI k22 ^^^ nI 1 = nI (k22 ^^^ 1) from wl_xor k22 1) ?_
            refine ld_M_6 hC hP (k22 ^^^ 1) (wl_x1 _ (by omega)) dX4_rests_196 ?_
            obtain ⟨u24, hj24, hk24⟩ := wl_bx hb22
            refine wl_J u24 224 (fun z24 => [.int (wl_b z24)]) 8 (fun z24 => [(0, .ref (a 0)), (5, .int v22), (6, .int (nI k22))]) D A s0.heap (fun z24 => (wM E a mabove mbelow mlisted mfollowing mdayThen mbytesLong mtokenAt mtokenLong mtoken mvalue mnow mkept misKept mrefused mtempers z12.1 z12.2 mmanyBy mbytes manew mvalues)) (fun z24 hz24 ls H locs hP hD hS hl => ?_) (fun J24 => ?_)
            · have hb22 := hk24 z24 hz24
              refine lv_istore (lv' := [(7, .int (wl_b z24)), (0, .ref (a 0)), (5, .int v22), (6, .int (nI k22))]) hx hb dX4_rests_224 hl (by decide) rfl (fun ls hl => ?_)
              refine lv_iload hx hb dX4_rests_226 (lv_at hl 2 rfl) ?_
              refine lv_iload hx hb dX4_rests_228 (lv_at hl 0 rfl) ?_
              refine wl_if_eq_b hx hb (tgt := 240) dX4_rests_230 (by decide) (fun c27 => ?_) (fun c27 => ?_)
              · have hb22 := hb22.trans (if_neg c27)
                refine lv_iconst (v := (nI 0)) hx hb dX4_rests_240 (by decide +kernel) ?_
                refine lv_ior hx hb dX4_rests_241 ?_
                refine lv_istore (lv' := [(5, .int (v22 ||| (nI 0))), (7, .int (wl_b z24)), (0, .ref (a 0)), (6, .int (nI k22))]) hx hb dX4_rests_242 hl (by decide) rfl (fun ls hl => ?_)
                refine lv_iinc (v := (nI (k22 + 1))) (lv' := [(6, .int (nI (k22 + 1))), (5, .int (v22 ||| (nI 0))), (7, .int (wl_b z24)), (0, .ref (a 0))]) hx hb dX4_rests_244 hl (k := 3) rfl (wl_inc k22 1) (by decide) rfl (fun ls hl => ?_)
                refine lv_goto (tgt := 175) hx hb dX4_rests_247 (by decide) ?_
                exact IH22 _ hb22 trivial ls H locs hP hD hS (lv_sub hl [3, 1, 0] rfl)
              · have hb22 := hb22.trans (if_pos c27)
                refine lv_iconst (v := (nI 1)) hx hb dX4_rests_233 (by decide +kernel) ?_
                refine lv_iload hx hb dX4_rests_234 (lv_at hl 3 rfl) ?_
                refine lv_ishl hx hb dX4_rests_236 ?_
                refine lv_goto (tgt := 241) hx hb dX4_rests_237 (by decide) ?_
                refine lv_ior hx hb dX4_rests_241 ?_
                refine lv_istore (lv' := [(5, .int (v22 ||| ((nI 1) <<< ((nI k22) &&& 31)))), (7, .int (wl_b z24)), (0, .ref (a 0)), (6, .int (nI k22))]) hx hb dX4_rests_242 hl (by decide) rfl (fun ls hl => ?_)
                refine lv_iinc (v := (nI (k22 + 1))) (lv' := [(6, .int (nI (k22 + 1))), (5, .int (v22 ||| ((nI 1) <<< ((nI k22) &&& 31)))), (7, .int (wl_b z24)), (0, .ref (a 0))]) hx hb dX4_rests_244 hl (k := 3) rfl (wl_inc k22 1) (by decide) rfl (fun ls hl => ?_)
                refine lv_goto (tgt := 175) hx hb dX4_rests_247 (by decide) ?_
                exact IH22 _ hb22 trivial ls H locs hP hD hS (lv_sub hl [3, 1, 0] rfl)
            · refine lv_icmp_lt hx hb (tgt := 223) dX4_rests_197 (by decide) (fun c25 => ?_) (fun c25 => ?_)
              · have hj24 := hj24.trans (if_pos c25)
                refine lv_iconst (v := (nI 0)) hx hb dX4_rests_223 (by decide +kernel) ?_
                exact J24 _ hj24 ls H locs hP hD hS (lv_sub hl [0, 1, 2] rfl)
              · have hj24 := hj24.trans (if_neg c25)
                refine lv_aload_n hx hb dX4_rests_200 rfl (lv_at hl 0 rfl) ?_
                refine g_M_0_theirs hC hP mw_392 dX4_rests_201 ?_
                refine lv_iload hx hb dX4_rests_204 (lv_at hl 2 rfl) ?_
                refine ld_M_7 hC hP k22 (by omega) dX4_rests_206 ?_
                refine lv_aload_n hx hb dX4_rests_207 rfl (lv_at hl 0 rfl) ?_
                refine g_M_0_theirs hC hP mw_392 dX4_rests_208 ?_
                refine lv_iload hx hb dX4_rests_211 (lv_at hl 2 rfl) ?_
                refine lv_iconst (v := (nI 2)) hx hb dX4_rests_213 (by decide +kernel) ?_
                refine lv_ixor hx hb dX4_rests_214 ?_
                refine wl_re (show nI k22 ^^^ nI 2 = nI (k22 ^^^ 2) from wl_xor k22 2) ?_
                refine ld_M_7 hC hP (k22 ^^^ 2) (wl_x2 _ (by omega)) dX4_rests_215 ?_
                refine lv_icmp_lt hx hb (tgt := 223) dX4_rests_216 (by decide) (fun c26 => ?_) (fun c26 => ?_)
                · have hj24 := hj24.trans (if_pos c26)
                  refine lv_iconst (v := (nI 0)) hx hb dX4_rests_223 (by decide +kernel) ?_
                  exact J24 _ hj24 ls H locs hP hD hS (lv_sub hl [0, 1, 2] rfl)
                · have hj24 := hj24.trans (if_neg c26)
                  refine lv_iconst (v := (nI 1)) hx hb dX4_rests_219 (by decide +kernel) ?_
                  refine lv_goto (tgt := 224) hx hb dX4_rests_220 (by decide) ?_
                  exact J24 _ hj24 ls H locs hP hD hS (lv_sub hl [0, 1, 2] rfl)
        · intro k12 v12 hlo12 hhi12 hI12 IH12 ls H locs hP hD hS hl
          have hb12 := m_X4_rests_l93.eq_1 z6 z10 k12 v12
          refine lv_iload hx hb dX4_rests_93 (lv_at hl 3 rfl) ?_
          refine lv_iconst (v := (nI 4)) hx hb dX4_rests_95 (by decide +kernel) ?_
          refine wl_icmp_ge_n hx hb (by first | omega | exact Nat.lt_of_le_of_lt Nat.and_le_right (by omega) | exact Nat.pow_lt_pow_right (by omega) (by omega) | exact Nat.lt_trans (by assumption) (Nat.pow_lt_pow_right (by omega) (by omega))) (by first | omega | exact Nat.lt_of_le_of_lt Nat.and_le_right (by omega) | exact Nat.pow_lt_pow_right (by omega) (by omega) | exact Nat.lt_trans (by assumption) (Nat.pow_lt_pow_right (by omega) (by omega))) (tgt := 169) dX4_rests_96 (by decide) (fun c13 => absurd c13 (by omega)) (fun c13 => ?_)
          refine lv_aload_n hx hb dX4_rests_99 rfl (lv_at hl 0 rfl) ?_
          refine g_M_0_his hC hP mw_391 dX4_rests_100 ?_
          refine lv_iload hx hb dX4_rests_103 (lv_at hl 3 rfl) ?_
          refine lv_iload hx hb dX4_rests_105 (lv_at hl 3 rfl) ?_
          refine lv_iconst (v := (nI 1)) hx hb dX4_rests_107 (by decide +kernel) ?_
          obtain ⟨u14, hj14, hk14⟩ := wl_bx hb12
          refine wl_J u14 129 (fun z14 => [.int (nI z14), .int (nI k12), .ref (a 6)]) 8 (fun z14 => [(0, .ref (a 0)), (3, .int (wl_b z6)), (4, .int (wl_b z10)), (5, .int (nI k12))]) D A s0.heap (fun z14 => (wM E a mabove mbelow mlisted mfollowing mdayThen mbytesLong mtokenAt mtokenLong mtoken mvalue mnow mkept misKept mrefused mtempers v12.1 v12.2 mmanyBy mbytes manew mvalues)) (fun z14 hz14 ls H locs hP hD hS hl => ?_) (fun J14 => ?_)
          · have hb12 := hk14 z14 hz14
            refine st_M_6 hC hP hD hS k12 (nI z14) (by omega) dX4_rests_129 (fun H locs hP hD hS => ?_)
            refine lv_aload_n hx hb dX4_rests_130 rfl (lv_at hl 0 rfl) ?_
            refine g_M_0_theirs hC hP mw_392 dX4_rests_131 ?_
            refine lv_iload hx hb dX4_rests_134 (lv_at hl 3 rfl) ?_
            refine lv_iload hx hb dX4_rests_136 (lv_at hl 3 rfl) ?_
            refine lv_iconst (v := (nI 2)) hx hb dX4_rests_138 (by decide +kernel) ?_
            refine wl_icmp_ge_n hx hb (by first | omega | exact Nat.lt_of_le_of_lt Nat.and_le_right (by omega) | exact Nat.pow_lt_pow_right (by omega) (by omega) | exact Nat.lt_trans (by assumption) (Nat.pow_lt_pow_right (by omega) (by omega))) (by first | omega | exact Nat.lt_of_le_of_lt Nat.and_le_right (by omega) | exact Nat.pow_lt_pow_right (by omega) (by omega) | exact Nat.lt_trans (by assumption) (Nat.pow_lt_pow_right (by omega) (by omega))) (tgt := 146) dX4_rests_139 (by decide) (fun c18 => ?_) (fun c18 => ?_)
            · have hb12 := hb12.trans (if_pos c18)
              refine lv_iload hx hb dX4_rests_146 (lv_at hl 3 rfl) ?_
              refine lv_iconst (v := (nI 2)) hx hb dX4_rests_148 (by decide +kernel) ?_
              refine wl_icmp_ne_n hx hb (by first | omega | exact Nat.lt_of_le_of_lt Nat.and_le_right (by omega) | exact Nat.pow_lt_pow_right (by omega) (by omega) | exact Nat.lt_trans (by assumption) (Nat.pow_lt_pow_right (by omega) (by omega))) (by first | omega | exact Nat.lt_of_le_of_lt Nat.and_le_right (by omega) | exact Nat.pow_lt_pow_right (by omega) (by omega) | exact Nat.lt_trans (by assumption) (Nat.pow_lt_pow_right (by omega) (by omega))) (tgt := 161) dX4_rests_149 (by decide) (fun c19 => ?_) (fun c19 => ?_)
              · have hb12 := hb12.trans (if_neg c19)
                refine lv_iconst (v := (nI 1)) hx hb dX4_rests_161 (by decide +kernel) ?_
                refine st_M_7 hC hP hD hS k12 (nI 1) (by omega) dX4_rests_162 (fun H locs hP hD hS => ?_)
                refine lv_iinc (v := (nI (k12 + 1))) (lv' := [(5, .int (nI (k12 + 1))), (0, .ref (a 0)), (3, .int (wl_b z6)), (4, .int (wl_b z10))]) hx hb dX4_rests_163 hl (k := 3) rfl (wl_inc k12 1) (by decide) rfl (fun ls hl => ?_)
                refine lv_goto (tgt := 93) hx hb dX4_rests_166 (by decide) ?_
                exact IH12 _ hb12 trivial ls H locs hP hD hS (lv_sub hl [1, 2, 3, 0] rfl)
              · have hb12 := hb12.trans (if_pos c19)
                refine lv_iload hx hb dX4_rests_152 (lv_at hl 2 rfl) ?_
                refine wl_if_eq_b hx hb (tgt := 161) dX4_rests_154 (by decide) (fun c20 => ?_) (fun c20 => ?_)
                · have hb12 := hb12.trans (if_neg c20)
                  refine lv_iconst (v := (nI 1)) hx hb dX4_rests_161 (by decide +kernel) ?_
                  refine st_M_7 hC hP hD hS k12 (nI 1) (by omega) dX4_rests_162 (fun H locs hP hD hS => ?_)
                  refine lv_iinc (v := (nI (k12 + 1))) (lv' := [(5, .int (nI (k12 + 1))), (0, .ref (a 0)), (3, .int (wl_b z6)), (4, .int (wl_b z10))]) hx hb dX4_rests_163 hl (k := 3) rfl (wl_inc k12 1) (by decide) rfl (fun ls hl => ?_)
                  refine lv_goto (tgt := 93) hx hb dX4_rests_166 (by decide) ?_
                  exact IH12 _ hb12 trivial ls H locs hP hD hS (lv_sub hl [1, 2, 3, 0] rfl)
                · have hb12 := hb12.trans (if_pos c20)
                  refine lv_iconst (v := (-1)) hx hb dX4_rests_157 (by decide +kernel) ?_
                  refine lv_goto (tgt := 162) hx hb dX4_rests_158 (by decide) ?_
                  refine st_M_7 hC hP hD hS k12 (-1) (by omega) dX4_rests_162 (fun H locs hP hD hS => ?_)
                  refine lv_iinc (v := (nI (k12 + 1))) (lv' := [(5, .int (nI (k12 + 1))), (0, .ref (a 0)), (3, .int (wl_b z6)), (4, .int (wl_b z10))]) hx hb dX4_rests_163 hl (k := 3) rfl (wl_inc k12 1) (by decide) rfl (fun ls hl => ?_)
                  refine lv_goto (tgt := 93) hx hb dX4_rests_166 (by decide) ?_
                  exact IH12 _ hb12 trivial ls H locs hP hD hS (lv_sub hl [1, 2, 3, 0] rfl)
            · have hb12 := hb12.trans (if_neg c18)
              refine lv_iconst (v := (nI 0)) hx hb dX4_rests_142 (by decide +kernel) ?_
              refine lv_goto (tgt := 162) hx hb dX4_rests_143 (by decide) ?_
              refine st_M_7 hC hP hD hS k12 (nI 0) (by omega) dX4_rests_162 (fun H locs hP hD hS => ?_)
              refine lv_iinc (v := (nI (k12 + 1))) (lv' := [(5, .int (nI (k12 + 1))), (0, .ref (a 0)), (3, .int (wl_b z6)), (4, .int (wl_b z10))]) hx hb dX4_rests_163 hl (k := 3) rfl (wl_inc k12 1) (by decide) rfl (fun ls hl => ?_)
              refine lv_goto (tgt := 93) hx hb dX4_rests_166 (by decide) ?_
              exact IH12 _ hb12 trivial ls H locs hP hD hS (lv_sub hl [1, 2, 3, 0] rfl)
          · refine wl_icmp_le_n hx hb (by first | omega | exact Nat.lt_of_le_of_lt Nat.and_le_right (by omega) | exact Nat.pow_lt_pow_right (by omega) (by omega) | exact Nat.lt_trans (by assumption) (Nat.pow_lt_pow_right (by omega) (by omega))) (by first | omega | exact Nat.lt_of_le_of_lt Nat.and_le_right (by omega) | exact Nat.pow_lt_pow_right (by omega) (by omega) | exact Nat.lt_trans (by assumption) (Nat.pow_lt_pow_right (by omega) (by omega))) (tgt := 115) dX4_rests_108 (by decide) (fun c15 => ?_) (fun c15 => ?_)
            · have hj14 := hj14.trans (if_pos c15)
              refine lv_iload hx hb dX4_rests_115 (lv_at hl 3 rfl) ?_
              refine wl_if_ne_n hx hb (by first | omega | exact Nat.lt_of_le_of_lt Nat.and_le_right (by omega) | exact Nat.pow_lt_pow_right (by omega) (by omega) | exact Nat.lt_trans (by assumption) (Nat.pow_lt_pow_right (by omega) (by omega))) (tgt := 128) dX4_rests_117 (by decide) (fun c16 => ?_) (fun c16 => ?_)
              · have hj14 := hj14.trans (if_neg c16)
                refine lv_iconst (v := (nI 0)) hx hb dX4_rests_128 (by decide +kernel) ?_
                exact J14 _ hj14 ls H locs hP hD hS (lv_sub hl [0, 1, 2, 3] rfl)
              · have hj14 := hj14.trans (if_pos c16)
                refine lv_iload_n hx hb dX4_rests_120 rfl (lv_at hl 1 rfl) ?_
                refine wl_if_eq_b hx hb (tgt := 128) dX4_rests_121 (by decide) (fun c17 => ?_) (fun c17 => ?_)
                · have hj14 := hj14.trans (if_neg c17)
                  refine lv_iconst (v := (nI 0)) hx hb dX4_rests_128 (by decide +kernel) ?_
                  exact J14 _ hj14 ls H locs hP hD hS (lv_sub hl [0, 1, 2, 3] rfl)
                · have hj14 := hj14.trans (if_pos c17)
                  refine lv_iconst (v := (nI 2)) hx hb dX4_rests_124 (by decide +kernel) ?_
                  refine lv_goto (tgt := 129) hx hb dX4_rests_125 (by decide) ?_
                  exact J14 _ hj14 ls H locs hP hD hS (lv_sub hl [0, 1, 2, 3] rfl)
            · have hj14 := hj14.trans (if_neg c15)
              refine lv_iconst (v := (nI 1)) hx hb dX4_rests_111 (by decide +kernel) ?_
              refine lv_goto (tgt := 129) hx hb dX4_rests_112 (by decide) ?_
              exact J14 _ hj14 ls H locs hP hD hS (lv_sub hl [0, 1, 2, 3] rfl)
      · refine lv_icmp_lt hx hb (tgt := 87) dX4_rests_80 (by decide) (fun c11 => ?_) (fun c11 => ?_)
        · have hj10 := hj10.trans (if_pos c11)
          refine lv_iconst (v := (nI 0)) hx hb dX4_rests_87 (by decide +kernel) ?_
          exact J10 _ hj10 ls H locs hP hD hS (lv_sub hl [0, 2] rfl)
        · have hj10 := hj10.trans (if_neg c11)
          refine lv_iconst (v := (nI 1)) hx hb dX4_rests_83 (by decide +kernel) ?_
          refine lv_goto (tgt := 88) hx hb dX4_rests_84 (by decide) ?_
          exact J10 _ hj10 ls H locs hP hD hS (lv_sub hl [0, 2] rfl)
    · refine lv_icmp_lt hx hb (tgt := 55) dX4_rests_48 (by decide) (fun c7 => ?_) (fun c7 => ?_)
      · have hj6 := hj6.trans (if_pos c7)
        refine lv_iconst (v := (nI 0)) hx hb dX4_rests_55 (by decide +kernel) ?_
        exact J6 _ hj6 ls H locs hP hD hS (lv_sub hl [0, 1, 2] rfl)
      · have hj6 := hj6.trans (if_neg c7)
        refine lv_iconst (v := (nI 1)) hx hb dX4_rests_51 (by decide +kernel) ?_
        refine lv_goto (tgt := 56) hx hb dX4_rests_52 (by decide) ?_
        exact J6 _ hj6 ls H locs hP hD hS (lv_sub hl [0, 1, 2] rfl)
  · have hm := hm.trans (if_neg c2)
    refine lv_aload_n hx hb dX4_rests_8 rfl (lv_at hl 0 rfl) ?_
    refine lv_bipush (v := (-2)) hx hb dX4_rests_9 (by decide +kernel) ?_
    refine wl_callVi hC (c_X4_bad (tells := (-2)) ) lk_RX4_62 rfl ⟨rfl, rfl, Nat.le_of_ble_eq_true rfl, Nat.le_of_ble_eq_true rfl⟩ hP hD hS hA 0 rfl (T1 := 21) rfl hl.1 rfl (Nat.le_of_ble_eq_true rfl) dX4_rests_11 ⟨Nat.zero_le _, Nat.zero_le _⟩ (fun z29 hz29 H locs hP hD hS => ?_)
    have hm := wl_bz hm hz29
    exact wl_iret hC hr hlk hm rfl hP hD hS dX4_rests_14
def m_X4_note (mnow : (Nat → Int32)) (mrefused : (Nat → Int32)) (p : Int32) (d : Int32) (followed : Int32) (t : Int32) (act : Int32) (P : Nat) (NT : Nat) : Int32 × (Nat → Int32) × (Nat → Int32) := (wl_bnd (m_X4_isOne p P) (fun z1 => (if z1 = true then (wl_bnd (m_X4_in d.toInt64 (lN 0) (lN 99)) (fun z4 => (if z4 = true then (wl_bnd (m_X4_in followed.toInt64 (lN 0) (lN 1)) (fun z7 => (if z7 = true then (wl_bnd (m_X4_in t.toInt64 (lN 0) (lN 99)) (fun z10 => (if z10 = true then (wl_bnd (m_X4_in act.toInt64 (lN 0) (lN 5)) (fun z13 => (if z13 = true then (if NT = 6 then (wl_bnd (m_X4_full mrefused) (fun z16 => (z16.1, mnow, z16.2))) else ((((upd (upd (upd (upd (upd mnow (22 + (5 * NT)) p) ((22 + (5 * NT)) + 1) d) ((22 + (5 * NT)) + 2) followed) ((22 + (5 * NT)) + 3) t) ((22 + (5 * NT)) + 4) act) 2) + (nI 1)), (upd (upd (upd (upd (upd (upd mnow (22 + (5 * NT)) p) ((22 + (5 * NT)) + 1) d) ((22 + (5 * NT)) + 2) followed) ((22 + (5 * NT)) + 3) t) ((22 + (5 * NT)) + 4) act) 2 (((upd (upd (upd (upd (upd mnow (22 + (5 * NT)) p) ((22 + (5 * NT)) + 1) d) ((22 + (5 * NT)) + 2) followed) ((22 + (5 * NT)) + 3) t) ((22 + (5 * NT)) + 4) act) 2) + (nI 1))), mrefused)) else (wl_bnd (m_X4_bad mrefused (-2)) (fun z17 => (z17.1, mnow, z17.2)))))) else (wl_bnd (m_X4_bad mrefused (-2)) (fun z12 => (z12.1, mnow, z12.2)))))) else (wl_bnd (m_X4_bad mrefused (-2)) (fun z9 => (z9.1, mnow, z9.2)))))) else (wl_bnd (m_X4_bad mrefused (-2)) (fun z6 => (z6.1, mnow, z6.2)))))) else (wl_bnd (m_X4_bad mrefused (-2)) (fun z3 => (z3.1, mnow, z3.2))))))
set_option maxHeartbeats 4000000 in
set_option maxRecDepth 100000 in
theorem c_X4_note {l : Launch} {D : va_G} {E : Nat → ClassId} {a : Nat → Nat} {mabove : Int64} {mbelow : Int64} {mlisted : Int32} {mfollowing : Int32} {mdayThen : Int32} {mbytesLong : Nat} {mtokenAt : Nat} {mtokenLong : Nat} {mtoken : Int32} {mvalue : Int32} {mnow : (Nat → Int32)} {mkept : (Nat → Int32)} {misKept : (Nat → Int32)} {mrefused : (Nat → Int32)} {mtempers : (Nat → Int32)} {mhis : (Nat → Int32)} {mtheirs : (Nat → Int32)} {mmanyBy : (Nat → Int32)} {mbytes : (Nat → Int32)} {manew : (Nat → Int32)} {mvalues : (Nat → Int32)} {p : Int32} {d : Int32} {followed : Int32} {t : Int32} {act : Int32} {P : Nat} {NT : Nat} (h0 : mnow 0 = nI P) (hP7 : P ≤ 7) (h2 : mnow 2 = nI NT) (hN6 : NT ≤ 6) : wl_Met (τ := Int32 × (Nat → Int32) × (Nat → Int32)) l D E yX4_note cX4_note 7 (some .int) ({ frames := 2, cells := 0, slots := 0, locals := 46 } : Room) [.ref (a 0), .int p, .int d, .int followed, .int t, .int act] (wM E a mabove mbelow mlisted mfollowing mdayThen mbytesLong mtokenAt mtokenLong mtoken mvalue mnow mkept misKept mrefused mtempers mhis mtheirs mmanyBy mbytes manew mvalues) (fun z => some (.int z.1)) (fun z => (wM E a mabove mbelow mlisted mfollowing mdayThen mbytesLong mtokenAt mtokenLong mtoken mvalue z.2.1 mkept misKept z.2.2 mtempers mhis mtheirs mmanyBy mbytes manew mvalues)) (m_X4_note mnow mrefused p d followed t act P NT) := by
  refine wl_enter (own := RX4) (by decide +kernel) rfl (Nat.le_of_ble_eq_true rfl) ?_
  intro p0 e0 s0 m0 bl0 mt0 c0 A hC hr hlk hA H locs hP hD hS ls hl
  have hx := hC.1
  have hb := hC.2.1
  have hl : lv_has ls 7 [(0, .ref (a 0)), (1, .int p), (2, .int d), (3, .int followed), (4, .int t), (5, .int act)] := hl
  have hm := m_X4_note.eq_1 mnow mrefused p d followed t act P NT
  refine lv_aload_n hx hb dX4_note_0 rfl (lv_at hl 0 rfl) ?_
  refine lv_iload_n hx hb dX4_note_1 rfl (lv_at hl 1 rfl) ?_
  refine wl_callVi hC (c_X4_isOne (p := p) (P := P) (h0)) lk_RX4_113 rfl ⟨rfl, rfl, Nat.le_of_ble_eq_true rfl, Nat.le_of_ble_eq_true rfl⟩ hP hD hS hA 0 rfl (T1 := 21) rfl hl.1 rfl (Nat.le_of_ble_eq_true rfl) dX4_note_2 ⟨Nat.zero_le _, Nat.zero_le _⟩ (fun z1 hz1 H locs hP hD hS => ?_)
  have hm := wl_bz hm hz1
  refine wl_if_eq_b hx hb (tgt := 56) dX4_note_5 (by decide) (fun c2 => ?_) (fun c2 => ?_)
  · have hm := hm.trans (if_neg c2)
    refine lv_aload_n hx hb dX4_note_56 rfl (lv_at hl 0 rfl) ?_
    refine lv_bipush (v := (-2)) hx hb dX4_note_57 (by decide +kernel) ?_
    refine wl_callVi hC (c_X4_bad (tells := (-2)) ) lk_RX4_62 rfl ⟨rfl, rfl, Nat.le_of_ble_eq_true rfl, Nat.le_of_ble_eq_true rfl⟩ hP hD hS hA 0 rfl (T1 := 21) rfl hl.1 rfl (Nat.le_of_ble_eq_true rfl) dX4_note_59 ⟨Nat.zero_le _, Nat.zero_le _⟩ (fun z3 hz3 H locs hP hD hS => ?_)
    have hm := wl_bz hm hz3
    exact wl_iret hC hr hlk hm rfl hP hD hS dX4_note_62
  · have hm := hm.trans (if_pos c2)
    refine lv_iload_n hx hb dX4_note_8 rfl (lv_at hl 2 rfl) ?_
    refine lv_i2l (v := d.toInt64) hx hb dX4_note_9 rfl ?_
    refine lv_lconst (v := lN 0) hx hb dX4_note_10 (by decide +kernel) ?_
    refine lv_ldc2 hx hb hC.2.2.2.1 (hC.2.2.2.2.1 _ mw_502) dX4_note_11 ?_
    refine wl_reL (show (99 : Int64) = lN 99 by decide +kernel) ?_
    refine wl_callPi hC (c_X4_in (v := d.toInt64) (low := (lN 0)) (high := (lN 99)) ) lk_RX4_56 rfl ⟨rfl, rfl, Nat.le_of_ble_eq_true rfl, Nat.le_of_ble_eq_true rfl⟩ hP hS hA hl.1 rfl (Nat.le_of_ble_eq_true rfl) dX4_note_14 ⟨Nat.zero_le _, Nat.zero_le _⟩ (fun z4 hz4 H locs hP hS => ?_)
    have hm := wl_bz hm hz4
    refine wl_if_eq_b hx hb (tgt := 56) dX4_note_17 (by decide) (fun c5 => ?_) (fun c5 => ?_)
    · have hm := hm.trans (if_neg c5)
      refine lv_aload_n hx hb dX4_note_56 rfl (lv_at hl 0 rfl) ?_
      refine lv_bipush (v := (-2)) hx hb dX4_note_57 (by decide +kernel) ?_
      refine wl_callVi hC (c_X4_bad (tells := (-2)) ) lk_RX4_62 rfl ⟨rfl, rfl, Nat.le_of_ble_eq_true rfl, Nat.le_of_ble_eq_true rfl⟩ hP hD hS hA 0 rfl (T1 := 21) rfl hl.1 rfl (Nat.le_of_ble_eq_true rfl) dX4_note_59 ⟨Nat.zero_le _, Nat.zero_le _⟩ (fun z6 hz6 H locs hP hD hS => ?_)
      have hm := wl_bz hm hz6
      exact wl_iret hC hr hlk hm rfl hP hD hS dX4_note_62
    · have hm := hm.trans (if_pos c5)
      refine lv_iload_n hx hb dX4_note_20 rfl (lv_at hl 3 rfl) ?_
      refine lv_i2l (v := followed.toInt64) hx hb dX4_note_21 rfl ?_
      refine lv_lconst (v := lN 0) hx hb dX4_note_22 (by decide +kernel) ?_
      refine lv_lconst (v := lN 1) hx hb dX4_note_23 (by decide +kernel) ?_
      refine wl_callPi hC (c_X4_in (v := followed.toInt64) (low := (lN 0)) (high := (lN 1)) ) lk_RX4_56 rfl ⟨rfl, rfl, Nat.le_of_ble_eq_true rfl, Nat.le_of_ble_eq_true rfl⟩ hP hS hA hl.1 rfl (Nat.le_of_ble_eq_true rfl) dX4_note_24 ⟨Nat.zero_le _, Nat.zero_le _⟩ (fun z7 hz7 H locs hP hS => ?_)
      have hm := wl_bz hm hz7
      refine wl_if_eq_b hx hb (tgt := 56) dX4_note_27 (by decide) (fun c8 => ?_) (fun c8 => ?_)
      · have hm := hm.trans (if_neg c8)
        refine lv_aload_n hx hb dX4_note_56 rfl (lv_at hl 0 rfl) ?_
        refine lv_bipush (v := (-2)) hx hb dX4_note_57 (by decide +kernel) ?_
        refine wl_callVi hC (c_X4_bad (tells := (-2)) ) lk_RX4_62 rfl ⟨rfl, rfl, Nat.le_of_ble_eq_true rfl, Nat.le_of_ble_eq_true rfl⟩ hP hD hS hA 0 rfl (T1 := 21) rfl hl.1 rfl (Nat.le_of_ble_eq_true rfl) dX4_note_59 ⟨Nat.zero_le _, Nat.zero_le _⟩ (fun z9 hz9 H locs hP hD hS => ?_)
        have hm := wl_bz hm hz9
        exact wl_iret hC hr hlk hm rfl hP hD hS dX4_note_62
      · have hm := hm.trans (if_pos c8)
        refine lv_iload hx hb dX4_note_30 (lv_at hl 4 rfl) ?_
        refine lv_i2l (v := t.toInt64) hx hb dX4_note_32 rfl ?_
        refine lv_lconst (v := lN 0) hx hb dX4_note_33 (by decide +kernel) ?_
        refine lv_ldc2 hx hb hC.2.2.2.1 (hC.2.2.2.2.1 _ mw_502) dX4_note_34 ?_
        refine wl_reL (show (99 : Int64) = lN 99 by decide +kernel) ?_
        refine wl_callPi hC (c_X4_in (v := t.toInt64) (low := (lN 0)) (high := (lN 99)) ) lk_RX4_56 rfl ⟨rfl, rfl, Nat.le_of_ble_eq_true rfl, Nat.le_of_ble_eq_true rfl⟩ hP hS hA hl.1 rfl (Nat.le_of_ble_eq_true rfl) dX4_note_37 ⟨Nat.zero_le _, Nat.zero_le _⟩ (fun z10 hz10 H locs hP hS => ?_)
        have hm := wl_bz hm hz10
        refine wl_if_eq_b hx hb (tgt := 56) dX4_note_40 (by decide) (fun c11 => ?_) (fun c11 => ?_)
        · have hm := hm.trans (if_neg c11)
          refine lv_aload_n hx hb dX4_note_56 rfl (lv_at hl 0 rfl) ?_
          refine lv_bipush (v := (-2)) hx hb dX4_note_57 (by decide +kernel) ?_
          refine wl_callVi hC (c_X4_bad (tells := (-2)) ) lk_RX4_62 rfl ⟨rfl, rfl, Nat.le_of_ble_eq_true rfl, Nat.le_of_ble_eq_true rfl⟩ hP hD hS hA 0 rfl (T1 := 21) rfl hl.1 rfl (Nat.le_of_ble_eq_true rfl) dX4_note_59 ⟨Nat.zero_le _, Nat.zero_le _⟩ (fun z12 hz12 H locs hP hD hS => ?_)
          have hm := wl_bz hm hz12
          exact wl_iret hC hr hlk hm rfl hP hD hS dX4_note_62
        · have hm := hm.trans (if_pos c11)
          refine lv_iload hx hb dX4_note_43 (lv_at hl 5 rfl) ?_
          refine lv_i2l (v := act.toInt64) hx hb dX4_note_45 rfl ?_
          refine lv_lconst (v := lN 0) hx hb dX4_note_46 (by decide +kernel) ?_
          refine lv_ldc2 hx hb hC.2.2.2.1 (hC.2.2.2.2.1 _ mw_414) dX4_note_47 ?_
          refine wl_reL (show (5 : Int64) = lN 5 by decide +kernel) ?_
          refine wl_callPi hC (c_X4_in (v := act.toInt64) (low := (lN 0)) (high := (lN 5)) ) lk_RX4_56 rfl ⟨rfl, rfl, Nat.le_of_ble_eq_true rfl, Nat.le_of_ble_eq_true rfl⟩ hP hS hA hl.1 rfl (Nat.le_of_ble_eq_true rfl) dX4_note_50 ⟨Nat.zero_le _, Nat.zero_le _⟩ (fun z13 hz13 H locs hP hS => ?_)
          have hm := wl_bz hm hz13
          refine wl_if_ne_b hx hb (tgt := 63) dX4_note_53 (by decide) (fun c14 => ?_) (fun c14 => ?_)
          · have hm := hm.trans (if_pos c14)
            refine lv_aload_n hx hb dX4_note_63 rfl (lv_at hl 0 rfl) ?_
            refine g_M_0_now hC hP mw_385 dX4_note_64 ?_
            refine lv_iconst (v := (nI 2)) hx hb dX4_note_67 (by decide +kernel) ?_
            refine ld_M_1 hC hP 2 (by omega) dX4_note_68 ?_
            refine wl_re (h2) ?_
            refine lv_bipush (v := (nI 6)) hx hb dX4_note_69 (by decide +kernel) ?_
            refine wl_icmp_ne_n hx hb (by first | omega | exact Nat.lt_of_le_of_lt Nat.and_le_right (by omega) | exact Nat.pow_lt_pow_right (by omega) (by omega) | exact Nat.lt_trans (by assumption) (Nat.pow_lt_pow_right (by omega) (by omega))) (by first | omega | exact Nat.lt_of_le_of_lt Nat.and_le_right (by omega) | exact Nat.pow_lt_pow_right (by omega) (by omega) | exact Nat.lt_trans (by assumption) (Nat.pow_lt_pow_right (by omega) (by omega))) (tgt := 79) dX4_note_71 (by decide) (fun c15 => ?_) (fun c15 => ?_)
            · have hm := hm.trans (if_neg c15)
              refine lv_bipush (v := (nI 22)) hx hb dX4_note_79 (by decide +kernel) ?_
              refine lv_iconst (v := (nI 5)) hx hb dX4_note_81 (by decide +kernel) ?_
              refine lv_aload_n hx hb dX4_note_82 rfl (lv_at hl 0 rfl) ?_
              refine g_M_0_now hC hP mw_385 dX4_note_83 ?_
              refine lv_iconst (v := (nI 2)) hx hb dX4_note_86 (by decide +kernel) ?_
              refine ld_M_1 hC hP 2 (by omega) dX4_note_87 ?_
              refine wl_re (h2) ?_
              refine lv_imul hx hb dX4_note_88 ?_
              refine wl_re (show nI 5 * nI NT = nI (5 * NT) from pk_mul 5 NT) ?_
              refine lv_iadd hx hb dX4_note_89 ?_
              refine wl_re (show nI 22 + nI (5 * NT) = nI (22 + (5 * NT)) from nI_add 22 (5 * NT)) ?_
              refine lv_istore (lv' := [(6, .int (nI (22 + (5 * NT)))), (0, .ref (a 0)), (1, .int p), (2, .int d), (3, .int followed), (4, .int t), (5, .int act)]) hx hb dX4_note_90 hl (by decide) rfl (fun ls hl => ?_)
              refine lv_aload_n hx hb dX4_note_92 rfl (lv_at hl 1 rfl) ?_
              refine g_M_0_now hC hP mw_385 dX4_note_93 ?_
              refine lv_iload hx hb dX4_note_96 (lv_at hl 0 rfl) ?_
              refine lv_iload_n hx hb dX4_note_98 rfl (lv_at hl 2 rfl) ?_
              refine st_M_1 hC hP hD hS (22 + (5 * NT)) p (by omega) dX4_note_99 (fun H locs hP hD hS => ?_)
              refine lv_aload_n hx hb dX4_note_100 rfl (lv_at hl 1 rfl) ?_
              refine g_M_0_now hC hP mw_385 dX4_note_101 ?_
              refine lv_iload hx hb dX4_note_104 (lv_at hl 0 rfl) ?_
              refine lv_iconst (v := (nI 1)) hx hb dX4_note_106 (by decide +kernel) ?_
              refine lv_iadd hx hb dX4_note_107 ?_
              refine wl_re (show nI (22 + (5 * NT)) + nI 1 = nI ((22 + (5 * NT)) + 1) from nI_add (22 + (5 * NT)) 1) ?_
              refine lv_iload_n hx hb dX4_note_108 rfl (lv_at hl 3 rfl) ?_
              refine st_M_1 hC hP hD hS ((22 + (5 * NT)) + 1) d (by omega) dX4_note_109 (fun H locs hP hD hS => ?_)
              refine lv_aload_n hx hb dX4_note_110 rfl (lv_at hl 1 rfl) ?_
              refine g_M_0_now hC hP mw_385 dX4_note_111 ?_
              refine lv_iload hx hb dX4_note_114 (lv_at hl 0 rfl) ?_
              refine lv_iconst (v := (nI 2)) hx hb dX4_note_116 (by decide +kernel) ?_
              refine lv_iadd hx hb dX4_note_117 ?_
              refine wl_re (show nI (22 + (5 * NT)) + nI 2 = nI ((22 + (5 * NT)) + 2) from nI_add (22 + (5 * NT)) 2) ?_
              refine lv_iload_n hx hb dX4_note_118 rfl (lv_at hl 4 rfl) ?_
              refine st_M_1 hC hP hD hS ((22 + (5 * NT)) + 2) followed (by omega) dX4_note_119 (fun H locs hP hD hS => ?_)
              refine lv_aload_n hx hb dX4_note_120 rfl (lv_at hl 1 rfl) ?_
              refine g_M_0_now hC hP mw_385 dX4_note_121 ?_
              refine lv_iload hx hb dX4_note_124 (lv_at hl 0 rfl) ?_
              refine lv_iconst (v := (nI 3)) hx hb dX4_note_126 (by decide +kernel) ?_
              refine lv_iadd hx hb dX4_note_127 ?_
              refine wl_re (show nI (22 + (5 * NT)) + nI 3 = nI ((22 + (5 * NT)) + 3) from nI_add (22 + (5 * NT)) 3) ?_
              refine lv_iload hx hb dX4_note_128 (lv_at hl 5 rfl) ?_
              refine st_M_1 hC hP hD hS ((22 + (5 * NT)) + 3) t (by omega) dX4_note_130 (fun H locs hP hD hS => ?_)
              refine lv_aload_n hx hb dX4_note_131 rfl (lv_at hl 1 rfl) ?_
              refine g_M_0_now hC hP mw_385 dX4_note_132 ?_
              refine lv_iload hx hb dX4_note_135 (lv_at hl 0 rfl) ?_
              refine lv_iconst (v := (nI 4)) hx hb dX4_note_137 (by decide +kernel) ?_
              refine lv_iadd hx hb dX4_note_138 ?_
              refine wl_re (show nI (22 + (5 * NT)) + nI 4 = nI ((22 + (5 * NT)) + 4) from nI_add (22 + (5 * NT)) 4) ?_
              refine lv_iload hx hb dX4_note_139 (lv_at hl 6 rfl) ?_
              refine st_M_1 hC hP hD hS ((22 + (5 * NT)) + 4) act (by omega) dX4_note_141 (fun H locs hP hD hS => ?_)
              refine lv_aload_n hx hb dX4_note_142 rfl (lv_at hl 1 rfl) ?_
              refine g_M_0_now hC hP mw_385 dX4_note_143 ?_
              refine lv_iconst (v := (nI 2)) hx hb dX4_note_146 (by decide +kernel) ?_
              refine lv_dup2_11 hx hb dX4_note_147 rfl rfl ?_
              refine ld_M_1 hC hP 2 (by omega) dX4_note_148 ?_
              refine lv_iconst (v := (nI 1)) hx hb dX4_note_149 (by decide +kernel) ?_
              refine lv_iadd hx hb dX4_note_150 ?_
              refine st_M_1 hC hP hD hS 2 (((upd (upd (upd (upd (upd mnow (22 + (5 * NT)) p) ((22 + (5 * NT)) + 1) d) ((22 + (5 * NT)) + 2) followed) ((22 + (5 * NT)) + 3) t) ((22 + (5 * NT)) + 4) act) 2) + (nI 1)) (by omega) dX4_note_151 (fun H locs hP hD hS => ?_)
              refine lv_aload_n hx hb dX4_note_152 rfl (lv_at hl 1 rfl) ?_
              refine g_M_0_now hC hP mw_385 dX4_note_153 ?_
              refine lv_iconst (v := (nI 2)) hx hb dX4_note_156 (by decide +kernel) ?_
              refine ld_M_1 hC hP 2 (by omega) dX4_note_157 ?_
              refine wl_re (pk_us) ?_
              exact wl_iret hC hr hlk hm rfl hP hD hS dX4_note_158
            · have hm := hm.trans (if_pos c15)
              refine lv_aload_n hx hb dX4_note_74 rfl (lv_at hl 0 rfl) ?_
              refine wl_callVi hC (c_X4_full  ) lk_RX4_68 rfl ⟨rfl, rfl, Nat.le_of_ble_eq_true rfl, Nat.le_of_ble_eq_true rfl⟩ hP hD hS hA 0 rfl (T1 := 21) rfl hl.1 rfl (Nat.le_of_ble_eq_true rfl) dX4_note_75 ⟨Nat.zero_le _, Nat.zero_le _⟩ (fun z16 hz16 H locs hP hD hS => ?_)
              have hm := wl_bz hm hz16
              exact wl_iret hC hr hlk hm rfl hP hD hS dX4_note_78
          · have hm := hm.trans (if_neg c14)
            refine lv_aload_n hx hb dX4_note_56 rfl (lv_at hl 0 rfl) ?_
            refine lv_bipush (v := (-2)) hx hb dX4_note_57 (by decide +kernel) ?_
            refine wl_callVi hC (c_X4_bad (tells := (-2)) ) lk_RX4_62 rfl ⟨rfl, rfl, Nat.le_of_ble_eq_true rfl, Nat.le_of_ble_eq_true rfl⟩ hP hD hS hA 0 rfl (T1 := 21) rfl hl.1 rfl (Nat.le_of_ble_eq_true rfl) dX4_note_59 ⟨Nat.zero_le _, Nat.zero_le _⟩ (fun z17 hz17 H locs hP hD hS => ?_)
            have hm := wl_bz hm hz17
            exact wl_iret hC hr hlk hm rfl hP hD hS dX4_note_62
def m_X4_forget (mnow : (Nat → Int32)) (NT : Nat) : Int32 × (Nat → Int32) := ((nI NT), (upd mnow 2 (nI 0)))
set_option maxHeartbeats 4000000 in
set_option maxRecDepth 100000 in
theorem c_X4_forget {l : Launch} {D : va_G} {E : Nat → ClassId} {a : Nat → Nat} {mabove : Int64} {mbelow : Int64} {mlisted : Int32} {mfollowing : Int32} {mdayThen : Int32} {mbytesLong : Nat} {mtokenAt : Nat} {mtokenLong : Nat} {mtoken : Int32} {mvalue : Int32} {mnow : (Nat → Int32)} {mkept : (Nat → Int32)} {misKept : (Nat → Int32)} {mrefused : (Nat → Int32)} {mtempers : (Nat → Int32)} {mhis : (Nat → Int32)} {mtheirs : (Nat → Int32)} {mmanyBy : (Nat → Int32)} {mbytes : (Nat → Int32)} {manew : (Nat → Int32)} {mvalues : (Nat → Int32)} {NT : Nat} (h2 : mnow 2 = nI NT) : wl_Met (τ := Int32 × (Nat → Int32)) l D E yX4_forget cX4_forget 2 (some .int) ({ frames := 0, cells := 0, slots := 0, locals := 0 } : Room) [.ref (a 0)] (wM E a mabove mbelow mlisted mfollowing mdayThen mbytesLong mtokenAt mtokenLong mtoken mvalue mnow mkept misKept mrefused mtempers mhis mtheirs mmanyBy mbytes manew mvalues) (fun z => some (.int z.1)) (fun z => (wM E a mabove mbelow mlisted mfollowing mdayThen mbytesLong mtokenAt mtokenLong mtoken mvalue z.2 mkept misKept mrefused mtempers mhis mtheirs mmanyBy mbytes manew mvalues)) (m_X4_forget mnow NT) := by
  refine wl_enter (own := RX4) (by decide +kernel) rfl (Nat.le_of_ble_eq_true rfl) ?_
  intro p0 e0 s0 m0 bl0 mt0 c0 A hC hr hlk hA H locs hP hD hS ls hl
  have hx := hC.1
  have hb := hC.2.1
  have hl : lv_has ls 2 [(0, .ref (a 0))] := hl
  have hm := m_X4_forget.eq_1 mnow NT
  refine lv_aload_n hx hb dX4_forget_0 rfl (lv_at hl 0 rfl) ?_
  refine g_M_0_now hC hP mw_385 dX4_forget_1 ?_
  refine lv_iconst (v := (nI 2)) hx hb dX4_forget_4 (by decide +kernel) ?_
  refine ld_M_1 hC hP 2 (by omega) dX4_forget_5 ?_
  refine wl_re (h2) ?_
  refine lv_istore_n (lv' := [(1, .int (nI NT)), (0, .ref (a 0))]) hx hb dX4_forget_6 rfl hl (by decide) rfl (fun ls hl => ?_)
  refine lv_aload_n hx hb dX4_forget_7 rfl (lv_at hl 1 rfl) ?_
  refine g_M_0_now hC hP mw_385 dX4_forget_8 ?_
  refine lv_iconst (v := (nI 2)) hx hb dX4_forget_11 (by decide +kernel) ?_
  refine lv_iconst (v := (nI 0)) hx hb dX4_forget_12 (by decide +kernel) ?_
  refine st_M_1 hC hP hD hS 2 (nI 0) (by omega) dX4_forget_13 (fun H locs hP hD hS => ?_)
  refine lv_iload_n hx hb dX4_forget_14 rfl (lv_at hl 0 rfl) ?_
  exact wl_iret hC hr hlk hm rfl hP hD hS dX4_forget_15
def m_X4_kindsOf_l16 (mnow : (Nat → Int32)) (p : Int32) (k1 : Nat) (k3 : Nat) (v3 : Bool) : Bool := (if v3 = true then (if (mnow (22 + (5 * k3))) = p then (wl_bnd ((if (mnow ((22 + (5 * k3)) + 2)) = (nI 1) then true else false) : Bool) (fun z7 => (wl_bnd (m_X4_actAs (nI k1) (mnow ((22 + (5 * k3)) + 3)) (mnow ((22 + (5 * k3)) + 1)) z7) (fun z9 => (if z9 = (mnow ((22 + (5 * k3)) + 4)) then true else false))))) else true) else false)
def m_X4_kindsOf_l4 (mnow : (Nat → Int32)) (p : Int32) (NT : Nat) (k1 : Nat) (v1 : Int32) : Int32 := (wl_bnd (wl_iter (m_X4_kindsOf_l16 mnow p k1) NT 0 true) (fun z3 => (if z3 = true then (v1 ||| ((nI 1) <<< ((nI k1) &&& 31))) else (v1 ||| (nI 0)))))
def m_X4_kindsOf (mnow : (Nat → Int32)) (p : Int32) (NT : Nat) : Int32 := (wl_bnd (wl_iter (m_X4_kindsOf_l4 mnow p NT) 6 0 (nI 0)) (fun z1 => z1))
set_option maxHeartbeats 4000000 in
set_option maxRecDepth 100000 in
theorem c_X4_kindsOf {l : Launch} {D : va_G} {E : Nat → ClassId} {a : Nat → Nat} {mabove : Int64} {mbelow : Int64} {mlisted : Int32} {mfollowing : Int32} {mdayThen : Int32} {mbytesLong : Nat} {mtokenAt : Nat} {mtokenLong : Nat} {mtoken : Int32} {mvalue : Int32} {mnow : (Nat → Int32)} {mkept : (Nat → Int32)} {misKept : (Nat → Int32)} {mrefused : (Nat → Int32)} {mtempers : (Nat → Int32)} {mhis : (Nat → Int32)} {mtheirs : (Nat → Int32)} {mmanyBy : (Nat → Int32)} {mbytes : (Nat → Int32)} {manew : (Nat → Int32)} {mvalues : (Nat → Int32)} {p : Int32} {NT : Nat} (h2 : mnow 2 = nI NT) (hN6 : NT ≤ 6) : wl_Met (τ := Int32) l D E yX4_kindsOf cX4_kindsOf 7 (some .int) ({ frames := 1, cells := 0, slots := 0, locals := 26 } : Room) [.ref (a 0), .int p] (wM E a mabove mbelow mlisted mfollowing mdayThen mbytesLong mtokenAt mtokenLong mtoken mvalue mnow mkept misKept mrefused mtempers mhis mtheirs mmanyBy mbytes manew mvalues) (fun z => some (.int z)) (fun _ => (wM E a mabove mbelow mlisted mfollowing mdayThen mbytesLong mtokenAt mtokenLong mtoken mvalue mnow mkept misKept mrefused mtempers mhis mtheirs mmanyBy mbytes manew mvalues)) (m_X4_kindsOf mnow p NT) := by
  refine wl_enter (own := RX4) (by decide +kernel) rfl (Nat.le_of_ble_eq_true rfl) ?_
  intro p0 e0 s0 m0 bl0 mt0 c0 A hC hr hlk hA H locs hP hD hS ls hl
  have hx := hC.1
  have hb := hC.2.1
  have hl : lv_has ls 7 [(0, .ref (a 0)), (1, .int p)] := hl
  have hm := m_X4_kindsOf.eq_1 mnow p NT
  refine lv_iconst (v := (nI 0)) hx hb dX4_kindsOf_0 (by decide +kernel) ?_
  refine lv_istore_n (lv' := [(2, .int (nI 0)), (0, .ref (a 0)), (1, .int p)]) hx hb dX4_kindsOf_1 rfl hl (by decide) rfl (fun ls hl => ?_)
  refine lv_iconst (v := (nI 0)) hx hb dX4_kindsOf_2 (by decide +kernel) ?_
  refine lv_istore_n (lv' := [(3, .int (nI 0)), (2, .int (nI 0)), (0, .ref (a 0)), (1, .int p)]) hx hb dX4_kindsOf_3 rfl hl (by decide) rfl (fun ls hl => ?_)
  obtain ⟨u1, hu1, hk1⟩ := wl_bx hm
  refine wl_for (D := D) (A := A) (H0 := s0.heap) (m_X4_kindsOf_l4 mnow p NT) 6 0 6 (nI 0) 4 7 (fun k1 v1 => [(0, .ref (a 0)), (1, .int p), (2, .int v1), (3, .int (nI k1))]) (fun k1 v1 => (wM E a mabove mbelow mlisted mfollowing mdayThen mbytesLong mtokenAt mtokenLong mtoken mvalue mnow mkept misKept mrefused mtempers mhis mtheirs mmanyBy mbytes manew mvalues)) (fun k1 v1 => True) (by omega) trivial ?_ ?_ hP hD hS (lv_sub hl [2, 3, 1, 0] rfl)
  · intro z1 hv1 hI1 ls H locs hP hD hS hl
    have hm := hk1 z1 (hu1.trans hv1)
    refine lv_iload_n hx hb dX4_kindsOf_4 rfl (lv_at hl 3 rfl) ?_
    refine lv_bipush (v := (nI 6)) hx hb dX4_kindsOf_5 (by decide +kernel) ?_
    refine wl_icmp_ge_n hx hb (by first | omega | exact Nat.lt_of_le_of_lt Nat.and_le_right (by omega) | exact Nat.pow_lt_pow_right (by omega) (by omega) | exact Nat.lt_trans (by assumption) (Nat.pow_lt_pow_right (by omega) (by omega))) (by first | omega | exact Nat.lt_of_le_of_lt Nat.and_le_right (by omega) | exact Nat.pow_lt_pow_right (by omega) (by omega) | exact Nat.lt_trans (by assumption) (Nat.pow_lt_pow_right (by omega) (by omega))) (tgt := 138) dX4_kindsOf_7 (by decide) (fun c13 => ?_) (fun c13 => absurd (by omega) c13)
    refine lv_iload_n hx hb dX4_kindsOf_138 rfl (lv_at hl 2 rfl) ?_
    exact wl_iret hC hr hlk hm rfl hP hD hS dX4_kindsOf_139
  · intro k1 v1 hlo1 hhi1 hI1 IH1 ls H locs hP hD hS hl
    have hb1 := m_X4_kindsOf_l4.eq_1 mnow p NT k1 v1
    refine lv_iload_n hx hb dX4_kindsOf_4 rfl (lv_at hl 3 rfl) ?_
    refine lv_bipush (v := (nI 6)) hx hb dX4_kindsOf_5 (by decide +kernel) ?_
    refine wl_icmp_ge_n hx hb (by first | omega | exact Nat.lt_of_le_of_lt Nat.and_le_right (by omega) | exact Nat.pow_lt_pow_right (by omega) (by omega) | exact Nat.lt_trans (by assumption) (Nat.pow_lt_pow_right (by omega) (by omega))) (by first | omega | exact Nat.lt_of_le_of_lt Nat.and_le_right (by omega) | exact Nat.pow_lt_pow_right (by omega) (by omega) | exact Nat.lt_trans (by assumption) (Nat.pow_lt_pow_right (by omega) (by omega))) (tgt := 138) dX4_kindsOf_7 (by decide) (fun c2 => absurd c2 (by omega)) (fun c2 => ?_)
    refine lv_iconst (v := (nI 1)) hx hb dX4_kindsOf_10 (by decide +kernel) ?_
    refine lv_istore (lv' := [(4, .int (nI 1)), (0, .ref (a 0)), (1, .int p), (2, .int v1), (3, .int (nI k1))]) hx hb dX4_kindsOf_11 hl (by decide) rfl (fun ls hl => ?_)
    refine lv_iconst (v := (nI 0)) hx hb dX4_kindsOf_13 (by decide +kernel) ?_
    refine lv_istore (lv' := [(5, .int (nI 0)), (4, .int (nI 1)), (0, .ref (a 0)), (1, .int p), (2, .int v1), (3, .int (nI k1))]) hx hb dX4_kindsOf_14 hl (by decide) rfl (fun ls hl => ?_)
    obtain ⟨u3, hu3, hk3⟩ := wl_bx hb1
    refine wl_for (D := D) (A := A) (H0 := s0.heap) (m_X4_kindsOf_l16 mnow p k1) NT 0 NT true 16 7 (fun k3 v3 => [(0, .ref (a 0)), (1, .int p), (2, .int v1), (3, .int (nI k1)), (4, .int (wl_b v3)), (5, .int (nI k3))]) (fun k3 v3 => (wM E a mabove mbelow mlisted mfollowing mdayThen mbytesLong mtokenAt mtokenLong mtoken mvalue mnow mkept misKept mrefused mtempers mhis mtheirs mmanyBy mbytes manew mvalues)) (fun k3 v3 => True) (by omega) trivial ?_ ?_ hP hD hS (lv_sub hl [2, 3, 4, 5, 1, 0] rfl)
    · intro z3 hv3 hI3 ls H locs hP hD hS hl
      have hb1 := hk3 z3 (hu3.trans hv3)
      refine lv_iload hx hb dX4_kindsOf_16 (lv_at hl 5 rfl) ?_
      refine lv_aload_n hx hb dX4_kindsOf_18 rfl (lv_at hl 0 rfl) ?_
      refine g_M_0_now hC hP mw_385 dX4_kindsOf_19 ?_
      refine lv_iconst (v := (nI 2)) hx hb dX4_kindsOf_22 (by decide +kernel) ?_
      refine ld_M_1 hC hP 2 (by omega) dX4_kindsOf_23 ?_
      refine wl_re (h2) ?_
      refine wl_icmp_ge_n hx hb (by first | omega | exact Nat.lt_of_le_of_lt Nat.and_le_right (by omega) | exact Nat.pow_lt_pow_right (by omega) (by omega) | exact Nat.lt_trans (by assumption) (Nat.pow_lt_pow_right (by omega) (by omega))) (by first | omega | exact Nat.lt_of_le_of_lt Nat.and_le_right (by omega) | exact Nat.pow_lt_pow_right (by omega) (by omega) | exact Nat.lt_trans (by assumption) (Nat.pow_lt_pow_right (by omega) (by omega))) (tgt := 117) dX4_kindsOf_24 (by decide) (fun c11 => ?_) (fun c11 => absurd (by omega) c11)
      refine lv_iload_n hx hb dX4_kindsOf_117 rfl (lv_at hl 2 rfl) ?_
      refine lv_iload hx hb dX4_kindsOf_118 (lv_at hl 4 rfl) ?_
      refine wl_if_eq_b hx hb (tgt := 129) dX4_kindsOf_120 (by decide) (fun c12 => ?_) (fun c12 => ?_)
      · have hb1 := hb1.trans (if_neg c12)
        refine lv_iconst (v := (nI 0)) hx hb dX4_kindsOf_129 (by decide +kernel) ?_
        refine lv_ior hx hb dX4_kindsOf_130 ?_
        refine lv_istore_n (lv' := [(2, .int (v1 ||| (nI 0))), (0, .ref (a 0)), (1, .int p), (3, .int (nI k1)), (4, .int (wl_b z3)), (5, .int (nI NT))]) hx hb dX4_kindsOf_131 rfl hl (by decide) rfl (fun ls hl => ?_)
        refine lv_iinc (v := (nI (k1 + 1))) (lv' := [(3, .int (nI (k1 + 1))), (2, .int (v1 ||| (nI 0))), (0, .ref (a 0)), (1, .int p), (4, .int (wl_b z3)), (5, .int (nI NT))]) hx hb dX4_kindsOf_132 hl (k := 3) rfl (wl_inc k1 1) (by decide) rfl (fun ls hl => ?_)
        refine lv_goto (tgt := 4) hx hb dX4_kindsOf_135 (by decide) ?_
        exact IH1 _ hb1 trivial ls H locs hP hD hS (lv_sub hl [2, 3, 1, 0] rfl)
      · have hb1 := hb1.trans (if_pos c12)
        refine lv_iconst (v := (nI 1)) hx hb dX4_kindsOf_123 (by decide +kernel) ?_
        refine lv_iload_n hx hb dX4_kindsOf_124 rfl (lv_at hl 3 rfl) ?_
        refine lv_ishl hx hb dX4_kindsOf_125 ?_
        refine lv_goto (tgt := 130) hx hb dX4_kindsOf_126 (by decide) ?_
        refine lv_ior hx hb dX4_kindsOf_130 ?_
        refine lv_istore_n (lv' := [(2, .int (v1 ||| ((nI 1) <<< ((nI k1) &&& 31)))), (0, .ref (a 0)), (1, .int p), (3, .int (nI k1)), (4, .int (wl_b z3)), (5, .int (nI NT))]) hx hb dX4_kindsOf_131 rfl hl (by decide) rfl (fun ls hl => ?_)
        refine lv_iinc (v := (nI (k1 + 1))) (lv' := [(3, .int (nI (k1 + 1))), (2, .int (v1 ||| ((nI 1) <<< ((nI k1) &&& 31)))), (0, .ref (a 0)), (1, .int p), (4, .int (wl_b z3)), (5, .int (nI NT))]) hx hb dX4_kindsOf_132 hl (k := 3) rfl (wl_inc k1 1) (by decide) rfl (fun ls hl => ?_)
        refine lv_goto (tgt := 4) hx hb dX4_kindsOf_135 (by decide) ?_
        exact IH1 _ hb1 trivial ls H locs hP hD hS (lv_sub hl [2, 3, 1, 0] rfl)
    · intro k3 v3 hlo3 hhi3 hI3 IH3 ls H locs hP hD hS hl
      have hb3 := m_X4_kindsOf_l16.eq_1 mnow p k1 k3 v3
      refine lv_iload hx hb dX4_kindsOf_16 (lv_at hl 5 rfl) ?_
      refine lv_aload_n hx hb dX4_kindsOf_18 rfl (lv_at hl 0 rfl) ?_
      refine g_M_0_now hC hP mw_385 dX4_kindsOf_19 ?_
      refine lv_iconst (v := (nI 2)) hx hb dX4_kindsOf_22 (by decide +kernel) ?_
      refine ld_M_1 hC hP 2 (by omega) dX4_kindsOf_23 ?_
      refine wl_re (h2) ?_
      refine wl_icmp_ge_n hx hb (by first | omega | exact Nat.lt_of_le_of_lt Nat.and_le_right (by omega) | exact Nat.pow_lt_pow_right (by omega) (by omega) | exact Nat.lt_trans (by assumption) (Nat.pow_lt_pow_right (by omega) (by omega))) (by first | omega | exact Nat.lt_of_le_of_lt Nat.and_le_right (by omega) | exact Nat.pow_lt_pow_right (by omega) (by omega) | exact Nat.lt_trans (by assumption) (Nat.pow_lt_pow_right (by omega) (by omega))) (tgt := 117) dX4_kindsOf_24 (by decide) (fun c4 => absurd c4 (by omega)) (fun c4 => ?_)
      refine lv_bipush (v := (nI 22)) hx hb dX4_kindsOf_27 (by decide +kernel) ?_
      refine lv_iconst (v := (nI 5)) hx hb dX4_kindsOf_29 (by decide +kernel) ?_
      refine lv_iload hx hb dX4_kindsOf_30 (lv_at hl 5 rfl) ?_
      refine lv_imul hx hb dX4_kindsOf_32 ?_
      refine wl_re (show nI 5 * nI k3 = nI (5 * k3) from pk_mul 5 k3) ?_
      refine lv_iadd hx hb dX4_kindsOf_33 ?_
      refine wl_re (show nI 22 + nI (5 * k3) = nI (22 + (5 * k3)) from nI_add 22 (5 * k3)) ?_
      refine lv_istore (lv' := [(6, .int (nI (22 + (5 * k3)))), (0, .ref (a 0)), (1, .int p), (2, .int v1), (3, .int (nI k1)), (4, .int (wl_b v3)), (5, .int (nI k3))]) hx hb dX4_kindsOf_34 hl (by decide) rfl (fun ls hl => ?_)
      refine lv_iload hx hb dX4_kindsOf_36 (lv_at hl 5 rfl) ?_
      refine wl_if_eq_b hx hb (tgt := 108) dX4_kindsOf_38 (by decide) (fun c5 => ?_) (fun c5 => ?_)
      · have hb3 := hb3.trans (if_neg c5)
        refine lv_iconst (v := (nI 0)) hx hb dX4_kindsOf_108 (by decide +kernel) ?_
        refine lv_istore (lv' := [(4, .int (nI 0)), (6, .int (nI (22 + (5 * k3)))), (0, .ref (a 0)), (1, .int p), (2, .int v1), (3, .int (nI k1)), (5, .int (nI k3))]) hx hb dX4_kindsOf_109 hl (by decide) rfl (fun ls hl => ?_)
        refine lv_iinc (v := (nI (k3 + 1))) (lv' := [(5, .int (nI (k3 + 1))), (4, .int (nI 0)), (6, .int (nI (22 + (5 * k3)))), (0, .ref (a 0)), (1, .int p), (2, .int v1), (3, .int (nI k1))]) hx hb dX4_kindsOf_111 hl (k := 6) rfl (wl_inc k3 1) (by decide) rfl (fun ls hl => ?_)
        refine lv_goto (tgt := 16) hx hb dX4_kindsOf_114 (by decide) ?_
        exact IH3 _ hb3 trivial ls H locs hP hD hS (lv_sub hl [3, 4, 5, 6, 1, 0] rfl)
      · have hb3 := hb3.trans (if_pos c5)
        refine lv_aload_n hx hb dX4_kindsOf_41 rfl (lv_at hl 1 rfl) ?_
        refine g_M_0_now hC hP mw_385 dX4_kindsOf_42 ?_
        refine lv_iload hx hb dX4_kindsOf_45 (lv_at hl 0 rfl) ?_
        refine ld_M_1 hC hP (22 + (5 * k3)) (by omega) dX4_kindsOf_47 ?_
        refine lv_iload_n hx hb dX4_kindsOf_48 rfl (lv_at hl 2 rfl) ?_
        refine lv_icmp_ne hx hb (tgt := 104) dX4_kindsOf_49 (by decide) (fun c6 => ?_) (fun c6 => ?_)
        · have hb3 := hb3.trans (if_neg c6)
          refine lv_iconst (v := (nI 1)) hx hb dX4_kindsOf_104 (by decide +kernel) ?_
          refine lv_goto (tgt := 109) hx hb dX4_kindsOf_105 (by decide) ?_
          refine lv_istore (lv' := [(4, .int (nI 1)), (6, .int (nI (22 + (5 * k3)))), (0, .ref (a 0)), (1, .int p), (2, .int v1), (3, .int (nI k1)), (5, .int (nI k3))]) hx hb dX4_kindsOf_109 hl (by decide) rfl (fun ls hl => ?_)
          refine lv_iinc (v := (nI (k3 + 1))) (lv' := [(5, .int (nI (k3 + 1))), (4, .int (nI 1)), (6, .int (nI (22 + (5 * k3)))), (0, .ref (a 0)), (1, .int p), (2, .int v1), (3, .int (nI k1))]) hx hb dX4_kindsOf_111 hl (k := 6) rfl (wl_inc k3 1) (by decide) rfl (fun ls hl => ?_)
          refine lv_goto (tgt := 16) hx hb dX4_kindsOf_114 (by decide) ?_
          exact IH3 _ hb3 trivial ls H locs hP hD hS (lv_sub hl [3, 4, 5, 6, 1, 0] rfl)
        · have hb3 := hb3.trans (if_pos c6)
          refine lv_iload_n hx hb dX4_kindsOf_52 rfl (lv_at hl 4 rfl) ?_
          refine lv_aload_n hx hb dX4_kindsOf_53 rfl (lv_at hl 1 rfl) ?_
          refine g_M_0_now hC hP mw_385 dX4_kindsOf_54 ?_
          refine lv_iload hx hb dX4_kindsOf_57 (lv_at hl 0 rfl) ?_
          refine lv_iconst (v := (nI 3)) hx hb dX4_kindsOf_59 (by decide +kernel) ?_
          refine lv_iadd hx hb dX4_kindsOf_60 ?_
          refine wl_re (show nI (22 + (5 * k3)) + nI 3 = nI ((22 + (5 * k3)) + 3) from nI_add (22 + (5 * k3)) 3) ?_
          refine ld_M_1 hC hP ((22 + (5 * k3)) + 3) (by omega) dX4_kindsOf_61 ?_
          refine lv_aload_n hx hb dX4_kindsOf_62 rfl (lv_at hl 1 rfl) ?_
          refine g_M_0_now hC hP mw_385 dX4_kindsOf_63 ?_
          refine lv_iload hx hb dX4_kindsOf_66 (lv_at hl 0 rfl) ?_
          refine lv_iconst (v := (nI 1)) hx hb dX4_kindsOf_68 (by decide +kernel) ?_
          refine lv_iadd hx hb dX4_kindsOf_69 ?_
          refine wl_re (show nI (22 + (5 * k3)) + nI 1 = nI ((22 + (5 * k3)) + 1) from nI_add (22 + (5 * k3)) 1) ?_
          refine ld_M_1 hC hP ((22 + (5 * k3)) + 1) (by omega) dX4_kindsOf_70 ?_
          refine lv_aload_n hx hb dX4_kindsOf_71 rfl (lv_at hl 1 rfl) ?_
          refine g_M_0_now hC hP mw_385 dX4_kindsOf_72 ?_
          refine lv_iload hx hb dX4_kindsOf_75 (lv_at hl 0 rfl) ?_
          refine lv_iconst (v := (nI 2)) hx hb dX4_kindsOf_77 (by decide +kernel) ?_
          refine lv_iadd hx hb dX4_kindsOf_78 ?_
          refine wl_re (show nI (22 + (5 * k3)) + nI 2 = nI ((22 + (5 * k3)) + 2) from nI_add (22 + (5 * k3)) 2) ?_
          refine ld_M_1 hC hP ((22 + (5 * k3)) + 2) (by omega) dX4_kindsOf_79 ?_
          refine lv_iconst (v := (nI 1)) hx hb dX4_kindsOf_80 (by decide +kernel) ?_
          obtain ⟨u7, hj7, hk7⟩ := wl_bx hb3
          refine wl_J u7 89 (fun z7 => [.int (wl_b z7), .int (mnow ((22 + (5 * k3)) + 1)), .int (mnow ((22 + (5 * k3)) + 3)), .int (nI k1)]) 7 (fun z7 => [(6, .int (nI (22 + (5 * k3)))), (0, .ref (a 0)), (1, .int p), (2, .int v1), (3, .int (nI k1)), (5, .int (nI k3))]) D A s0.heap (fun z7 => (wM E a mabove mbelow mlisted mfollowing mdayThen mbytesLong mtokenAt mtokenLong mtoken mvalue mnow mkept misKept mrefused mtempers mhis mtheirs mmanyBy mbytes manew mvalues)) (fun z7 hz7 ls H locs hP hD hS hl => ?_) (fun J7 => ?_)
          · have hb3 := hk7 z7 hz7
            refine wl_callPi hC (c_X4_actAs (kind := (nI k1)) (t := (mnow ((22 + (5 * k3)) + 3))) (day := (mnow ((22 + (5 * k3)) + 1))) (followed := z7) ) lk_RX4_95 rfl ⟨rfl, rfl, Nat.le_of_ble_eq_true rfl, Nat.le_of_ble_eq_true rfl⟩ hP hS hA hl.1 rfl (Nat.le_of_ble_eq_true rfl) dX4_kindsOf_89 ⟨Nat.zero_le _, Nat.zero_le _⟩ (fun z9 hz9 H locs hP hS => ?_)
            have hb3 := wl_bz hb3 hz9
            refine lv_aload_n hx hb dX4_kindsOf_92 rfl (lv_at hl 1 rfl) ?_
            refine g_M_0_now hC hP mw_385 dX4_kindsOf_93 ?_
            refine lv_iload hx hb dX4_kindsOf_96 (lv_at hl 0 rfl) ?_
            refine lv_iconst (v := (nI 4)) hx hb dX4_kindsOf_98 (by decide +kernel) ?_
            refine lv_iadd hx hb dX4_kindsOf_99 ?_
            refine wl_re (show nI (22 + (5 * k3)) + nI 4 = nI ((22 + (5 * k3)) + 4) from nI_add (22 + (5 * k3)) 4) ?_
            refine ld_M_1 hC hP ((22 + (5 * k3)) + 4) (by omega) dX4_kindsOf_100 ?_
            refine lv_icmp_ne hx hb (tgt := 108) dX4_kindsOf_101 (by decide) (fun c10 => ?_) (fun c10 => ?_)
            · have hb3 := hb3.trans (if_neg c10)
              refine lv_iconst (v := (nI 0)) hx hb dX4_kindsOf_108 (by decide +kernel) ?_
              refine lv_istore (lv' := [(4, .int (nI 0)), (6, .int (nI (22 + (5 * k3)))), (0, .ref (a 0)), (1, .int p), (2, .int v1), (3, .int (nI k1)), (5, .int (nI k3))]) hx hb dX4_kindsOf_109 hl (by decide) rfl (fun ls hl => ?_)
              refine lv_iinc (v := (nI (k3 + 1))) (lv' := [(5, .int (nI (k3 + 1))), (4, .int (nI 0)), (6, .int (nI (22 + (5 * k3)))), (0, .ref (a 0)), (1, .int p), (2, .int v1), (3, .int (nI k1))]) hx hb dX4_kindsOf_111 hl (k := 6) rfl (wl_inc k3 1) (by decide) rfl (fun ls hl => ?_)
              refine lv_goto (tgt := 16) hx hb dX4_kindsOf_114 (by decide) ?_
              exact IH3 _ hb3 trivial ls H locs hP hD hS (lv_sub hl [3, 4, 5, 6, 1, 0] rfl)
            · have hb3 := hb3.trans (if_pos c10)
              refine lv_iconst (v := (nI 1)) hx hb dX4_kindsOf_104 (by decide +kernel) ?_
              refine lv_goto (tgt := 109) hx hb dX4_kindsOf_105 (by decide) ?_
              refine lv_istore (lv' := [(4, .int (nI 1)), (6, .int (nI (22 + (5 * k3)))), (0, .ref (a 0)), (1, .int p), (2, .int v1), (3, .int (nI k1)), (5, .int (nI k3))]) hx hb dX4_kindsOf_109 hl (by decide) rfl (fun ls hl => ?_)
              refine lv_iinc (v := (nI (k3 + 1))) (lv' := [(5, .int (nI (k3 + 1))), (4, .int (nI 1)), (6, .int (nI (22 + (5 * k3)))), (0, .ref (a 0)), (1, .int p), (2, .int v1), (3, .int (nI k1))]) hx hb dX4_kindsOf_111 hl (k := 6) rfl (wl_inc k3 1) (by decide) rfl (fun ls hl => ?_)
              refine lv_goto (tgt := 16) hx hb dX4_kindsOf_114 (by decide) ?_
              exact IH3 _ hb3 trivial ls H locs hP hD hS (lv_sub hl [3, 4, 5, 6, 1, 0] rfl)
          · refine lv_icmp_ne hx hb (tgt := 88) dX4_kindsOf_81 (by decide) (fun c8 => ?_) (fun c8 => ?_)
            · have hj7 := hj7.trans (if_neg c8)
              refine lv_iconst (v := (nI 0)) hx hb dX4_kindsOf_88 (by decide +kernel) ?_
              exact J7 _ hj7 ls H locs hP hD hS (lv_sub hl [0, 1, 2, 3, 4, 6] rfl)
            · have hj7 := hj7.trans (if_pos c8)
              refine lv_iconst (v := (nI 1)) hx hb dX4_kindsOf_84 (by decide +kernel) ?_
              refine lv_goto (tgt := 89) hx hb dX4_kindsOf_85 (by decide) ?_
              exact J7 _ hj7 ls H locs hP hD hS (lv_sub hl [0, 1, 2, 3, 4, 6] rfl)
def m_X4_is (mnow : (Nat → Int32)) (mrefused : (Nat → Int32)) (p : Int32) (P : Nat) (NT : Nat) : Int32 × (Nat → Int32) := (wl_bnd (m_X4_isOne p P) (fun z1 => (if z1 = true then (wl_bnd (m_X4_kindsOf mnow p NT) (fun z4 => (z4, mrefused))) else (wl_bnd (m_X4_bad mrefused (-2)) (fun z3 => (z3.1, z3.2))))))
set_option maxHeartbeats 4000000 in
set_option maxRecDepth 100000 in
theorem c_X4_is {l : Launch} {D : va_G} {E : Nat → ClassId} {a : Nat → Nat} {mabove : Int64} {mbelow : Int64} {mlisted : Int32} {mfollowing : Int32} {mdayThen : Int32} {mbytesLong : Nat} {mtokenAt : Nat} {mtokenLong : Nat} {mtoken : Int32} {mvalue : Int32} {mnow : (Nat → Int32)} {mkept : (Nat → Int32)} {misKept : (Nat → Int32)} {mrefused : (Nat → Int32)} {mtempers : (Nat → Int32)} {mhis : (Nat → Int32)} {mtheirs : (Nat → Int32)} {mmanyBy : (Nat → Int32)} {mbytes : (Nat → Int32)} {manew : (Nat → Int32)} {mvalues : (Nat → Int32)} {p : Int32} {P : Nat} {NT : Nat} (h0 : mnow 0 = nI P) (h2 : mnow 2 = nI NT) (hN6 : NT ≤ 6) : wl_Met (τ := Int32 × (Nat → Int32)) l D E yX4_is cX4_is 2 (some .int) ({ frames := 2, cells := 0, slots := 0, locals := 52 } : Room) [.ref (a 0), .int p] (wM E a mabove mbelow mlisted mfollowing mdayThen mbytesLong mtokenAt mtokenLong mtoken mvalue mnow mkept misKept mrefused mtempers mhis mtheirs mmanyBy mbytes manew mvalues) (fun z => some (.int z.1)) (fun z => (wM E a mabove mbelow mlisted mfollowing mdayThen mbytesLong mtokenAt mtokenLong mtoken mvalue mnow mkept misKept z.2 mtempers mhis mtheirs mmanyBy mbytes manew mvalues)) (m_X4_is mnow mrefused p P NT) := by
  refine wl_enter (own := RX4) (by decide +kernel) rfl (Nat.le_of_ble_eq_true rfl) ?_
  intro p0 e0 s0 m0 bl0 mt0 c0 A hC hr hlk hA H locs hP hD hS ls hl
  have hx := hC.1
  have hb := hC.2.1
  have hl : lv_has ls 2 [(0, .ref (a 0)), (1, .int p)] := hl
  have hm := m_X4_is.eq_1 mnow mrefused p P NT
  refine lv_aload_n hx hb dX4_is_0 rfl (lv_at hl 0 rfl) ?_
  refine lv_iload_n hx hb dX4_is_1 rfl (lv_at hl 1 rfl) ?_
  refine wl_callVi hC (c_X4_isOne (p := p) (P := P) (h0)) lk_RX4_113 rfl ⟨rfl, rfl, Nat.le_of_ble_eq_true rfl, Nat.le_of_ble_eq_true rfl⟩ hP hD hS hA 0 rfl (T1 := 21) rfl hl.1 rfl (Nat.le_of_ble_eq_true rfl) dX4_is_2 ⟨Nat.zero_le _, Nat.zero_le _⟩ (fun z1 hz1 H locs hP hD hS => ?_)
  have hm := wl_bz hm hz1
  refine wl_if_eq_b hx hb (tgt := 16) dX4_is_5 (by decide) (fun c2 => ?_) (fun c2 => ?_)
  · have hm := hm.trans (if_neg c2)
    refine lv_aload_n hx hb dX4_is_16 rfl (lv_at hl 0 rfl) ?_
    refine lv_bipush (v := (-2)) hx hb dX4_is_17 (by decide +kernel) ?_
    refine wl_callVi hC (c_X4_bad (tells := (-2)) ) lk_RX4_62 rfl ⟨rfl, rfl, Nat.le_of_ble_eq_true rfl, Nat.le_of_ble_eq_true rfl⟩ hP hD hS hA 0 rfl (T1 := 21) rfl hl.1 rfl (Nat.le_of_ble_eq_true rfl) dX4_is_19 ⟨Nat.zero_le _, Nat.zero_le _⟩ (fun z3 hz3 H locs hP hD hS => ?_)
    have hm := wl_bz hm hz3
    exact wl_iret hC hr hlk hm rfl hP hD hS dX4_is_22
  · have hm := hm.trans (if_pos c2)
    refine lv_aload_n hx hb dX4_is_8 rfl (lv_at hl 0 rfl) ?_
    refine lv_iload_n hx hb dX4_is_9 rfl (lv_at hl 1 rfl) ?_
    refine wl_callVi hC (c_X4_kindsOf (p := p) (NT := NT) (h2) (by first | assumption | omega)) lk_RX4_150 rfl ⟨rfl, rfl, Nat.le_of_ble_eq_true rfl, Nat.le_of_ble_eq_true rfl⟩ hP hD hS hA 0 rfl (T1 := 21) rfl hl.1 rfl (Nat.le_of_ble_eq_true rfl) dX4_is_10 ⟨Nat.zero_le _, Nat.zero_le _⟩ (fun z4 hz4 H locs hP hD hS => ?_)
    have hm := wl_bz hm hz4
    refine lv_goto (tgt := 22) hx hb dX4_is_13 (by decide) ?_
    exact wl_iret hC hr hlk hm rfl hP hD hS dX4_is_22
