def m_X0_isWord_l28 (xstart : Nat) (xbytes : (Nat → Int32)) (i : Nat) (v3 : Nat) : (Nat) ⊕ (Bool) := (if (wl_ln i) ≤ v3 then (Sum.inr true) else (if (xbytes (xstart + v3)) = (nI (wl_ch i v3)) then (Sum.inl (v3 + 1)) else (Sum.inr false)))
def m_X0_isWord (xstart : Nat) (xbehind : Nat) (xsort : Int32) (xbytes : (Nat → Int32)) (i : Nat) : Bool := (if xsort = (nI 1) then (if (xbehind - xstart) = (wl_ln i) then (wl_run (m_X0_isWord_l28 xstart xbytes i) default 7 0) else false) else false)
set_option maxHeartbeats 4000000 in
set_option maxRecDepth 100000 in
theorem c_X0_isWord {l : Launch} {D : va_G} {E : Nat → ClassId} {K V : Nat → Nat} {fz : Nat} {a : Nat → Nat} {xlength : Nat} {xstart : Nat} {xbehind : Nat} {xsort : Int32} {xnumber : Int32} {xbytes : (Nat → Int32)} {i : Nat} (hXL : xlength ≤ 150) (hXB : xbehind ≤ xlength) (hSB : xstart ≤ xbehind) (hi : i < 4) : wl_MetS (τ := Bool) l D E K V fz yX0_isWord cX0_isWord 3 (some .boolean) ({ frames := 4, cells := 0, slots := 0, locals := 85 } : Room) [.ref (a 0), .ref (K i)] (wTX E a xlength xstart xbehind xsort xnumber xbytes) (fun z => some (.int (wl_b z))) (fun _ => (wTX E a xlength xstart xbehind xsort xnumber xbytes)) (m_X0_isWord xstart xbehind xsort xbytes i) := by
  refine wl_enterS (own := RX0) (by decide +kernel) rfl (Nat.le_of_ble_eq_true rfl) ?_
  intro p0 e0 s0 m0 bl0 mt0 c0 A hC hE hr hlk hA H locs hP hD hS ls hl
  have hx := hC.1
  have hb := hC.2.1
  have hl : lv_has ls 3 [(0, .ref (a 0)), (1, .ref (K i))] := hl
  have hm := m_X0_isWord.eq_1 xstart xbehind xsort xbytes i
  have h6 : wl_ln i ≤ 6 := wl_ln_lt i hi
  refine lv_aload_n hx hb dX0_isWord_0 rfl (lv_at hl 0 rfl) ?_
  refine g_TX_0_sort hC hP mw_20 dX0_isWord_1 ?_
  refine lv_iconst (v := (nI 1)) hx hb dX0_isWord_4 (by decide +kernel) ?_
  refine lv_icmp_ne hx hb (tgt := 24) dX0_isWord_5 (by decide) (fun c1 => ?_) (fun c1 => ?_)
  · have hm := hm.trans (if_neg c1)
    refine lv_iconst (v := (nI 0)) hx hb dX0_isWord_24 (by decide +kernel) ?_
    exact wl_zret (v := false) hC hr hlk hm rfl hP hD hS dX0_isWord_25
  · have hm := hm.trans (if_pos c1)
    refine lv_aload_n hx hb dX0_isWord_8 rfl (lv_at hl 0 rfl) ?_
    refine g_TX_0_behind hC hP mw_18 dX0_isWord_9 ?_
    refine lv_aload_n hx hb dX0_isWord_12 rfl (lv_at hl 0 rfl) ?_
    refine g_TX_0_start hC hP mw_19 dX0_isWord_13 ?_
    refine lv_isub hx hb dX0_isWord_16 ?_
    refine wl_re (show nI xbehind - nI xstart = nI (xbehind - xstart) from pk_sub (by omega)) ?_
    refine lv_aload_n hx hb dX0_isWord_17 rfl (lv_at hl 1 rfl) ?_
    refine wl_callK hC hE hi (c_length hi) lk_RX0_101 rfl (As := []) rfl ⟨rfl, rfl, Nat.le_of_ble_eq_true rfl, Nat.le_of_ble_eq_true rfl⟩ hP hS hA hl.1 rfl (Nat.le_of_ble_eq_true rfl) dX0_isWord_18 ⟨Nat.zero_le _, Nat.zero_le _⟩ (fun _ _ H locs hP hS => ?_)
    refine wl_re (rfl : nI (wl_ln i) = nI (wl_ln i)) ?_
    refine wl_icmp_eq_n hx hb (by first | omega | exact Nat.lt_of_le_of_lt Nat.and_le_right (by omega) | exact Nat.pow_lt_pow_right (by omega) (by omega) | exact Nat.lt_trans (by assumption) (Nat.pow_lt_pow_right (by omega) (by omega))) (by first | omega | exact Nat.lt_of_le_of_lt Nat.and_le_right (by omega) | exact Nat.pow_lt_pow_right (by omega) (by omega) | exact Nat.lt_trans (by assumption) (Nat.pow_lt_pow_right (by omega) (by omega))) (tgt := 26) dX0_isWord_21 (by decide) (fun c2 => ?_) (fun c2 => ?_)
    · have hm := hm.trans (if_pos c2)
      refine lv_iconst (v := (nI 0)) hx hb dX0_isWord_26 (by decide +kernel) ?_
      refine lv_istore_n (lv' := [(2, .int (nI 0)), (0, .ref (a 0)), (1, .ref (K i))]) hx hb dX0_isWord_27 rfl hl (by decide) rfl (fun ls hl => ?_)
      refine wl_while (D := D) (A := A) (H0 := s0.heap) (m_X0_isWord_l28 xstart xbytes i) default 7 0 28 3 (fun v3 => [(0, .ref (a 0)), (1, .ref (K i)), (2, .int (nI v3))]) (fun v3 => (wTX E a xlength xstart xbehind xsort xnumber xbytes)) (fun v3 => (v3 ≤ wl_ln i)) (fun v3 => wl_ln i - v3) (by show 0 ≤ wl_ln i; omega) (by show wl_ln i - 0 < 7; first | decide | omega) ?_ hP hD hS (lv_sub hl [1, 2, 0] rfl)
      intro v3 hI3 EX3 IH3 ls H locs hP hD hS hl
      have i2 := hI3
      have hb3 := m_X0_isWord_l28.eq_1 xstart xbytes i v3
      refine lv_iload_n hx hb dX0_isWord_28 rfl (lv_at hl 2 rfl) ?_
      refine lv_aload_n hx hb dX0_isWord_29 rfl (lv_at hl 1 rfl) ?_
      refine wl_callK hC hE hi (c_length hi) lk_RX0_101 rfl (As := []) rfl ⟨rfl, rfl, Nat.le_of_ble_eq_true rfl, Nat.le_of_ble_eq_true rfl⟩ hP hS hA hl.1 rfl (Nat.le_of_ble_eq_true rfl) dX0_isWord_30 ⟨Nat.zero_le _, Nat.zero_le _⟩ (fun _ _ H locs hP hS => ?_)
      refine wl_re (rfl : nI (wl_ln i) = nI (wl_ln i)) ?_
      refine wl_icmp_ge_n hx hb (by first | omega | exact Nat.lt_of_le_of_lt Nat.and_le_right (by omega) | exact Nat.pow_lt_pow_right (by omega) (by omega) | exact Nat.lt_trans (by assumption) (Nat.pow_lt_pow_right (by omega) (by omega))) (by first | omega | exact Nat.lt_of_le_of_lt Nat.and_le_right (by omega) | exact Nat.pow_lt_pow_right (by omega) (by omega) | exact Nat.lt_trans (by assumption) (Nat.pow_lt_pow_right (by omega) (by omega))) (tgt := 63) dX0_isWord_33 (by decide) (fun c4 => ?_) (fun c4 => ?_)
      · have hb3 := hb3.trans (if_pos c4)
        refine lv_iconst (v := (nI 1)) hx hb dX0_isWord_63 (by decide +kernel) ?_
        exact wl_zret (v := true) hC hr hlk (hm.trans (EX3 _ hb3)) rfl hP hD hS dX0_isWord_64
      · have hb3 := hb3.trans (if_neg c4)
        refine lv_aload_n hx hb dX0_isWord_36 rfl (lv_at hl 0 rfl) ?_
        refine g_TX_0_bytes hC hP mw_4 dX0_isWord_37 ?_
        refine lv_aload_n hx hb dX0_isWord_40 rfl (lv_at hl 0 rfl) ?_
        refine g_TX_0_start hC hP mw_19 dX0_isWord_41 ?_
        refine lv_iload_n hx hb dX0_isWord_44 rfl (lv_at hl 2 rfl) ?_
        refine lv_iadd hx hb dX0_isWord_45 ?_
        refine wl_re (show nI xstart + nI v3 = nI (xstart + v3) from nI_add xstart v3) ?_
        refine ld_TX_1 hC hP (xstart + v3) (by omega) dX0_isWord_46 ?_
        refine lv_aload_n hx hb dX0_isWord_47 rfl (lv_at hl 1 rfl) ?_
        refine lv_iload_n hx hb dX0_isWord_48 rfl (lv_at hl 2 rfl) ?_
        refine wl_callK hC hE hi (c_charAt (j := v3) hi (by omega)) lk_RX0_106 rfl (As := [.int (nI v3)]) rfl ⟨rfl, rfl, Nat.le_of_ble_eq_true rfl, Nat.le_of_ble_eq_true rfl⟩ hP hS hA hl.1 rfl (Nat.le_of_ble_eq_true rfl) dX0_isWord_49 ⟨Nat.zero_le _, Nat.zero_le _⟩ (fun _ _ H locs hP hS => ?_)
        refine wl_re (rfl : nI (wl_ch i v3) = nI (wl_ch i v3)) ?_
        refine lv_icmp_eq hx hb (tgt := 57) dX0_isWord_52 (by decide) (fun c5 => ?_) (fun c5 => ?_)
        · have hb3 := hb3.trans (if_pos c5)
          refine lv_iinc (v := (nI (v3 + 1))) (lv' := [(2, .int (nI (v3 + 1))), (0, .ref (a 0)), (1, .ref (K i))]) hx hb dX0_isWord_57 hl (k := 2) rfl (wl_inc v3 1) (by decide) rfl (fun ls hl => ?_)
          refine lv_goto (tgt := 28) hx hb dX0_isWord_60 (by decide) ?_
          exact IH3 _ hb3 (by show (v3 + 1) ≤ wl_ln i; omega) (by show wl_ln i - (v3 + 1) < wl_ln i - v3; omega) ls H locs hP hD hS (lv_sub hl [1, 2, 0] rfl)
        · have hb3 := hb3.trans (if_neg c5)
          refine lv_iconst (v := (nI 0)) hx hb dX0_isWord_55 (by decide +kernel) ?_
          exact wl_zret (v := false) hC hr hlk (hm.trans (EX3 _ hb3)) rfl hP hD hS dX0_isWord_56
    · have hm := hm.trans (if_neg c2)
      refine lv_iconst (v := (nI 0)) hx hb dX0_isWord_24 (by decide +kernel) ?_
      exact wl_zret (v := false) hC hr hlk hm rfl hP hD hS dX0_isWord_25
