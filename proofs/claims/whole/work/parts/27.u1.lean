def m_X0_takeToken_l8 (xlength : Nat) (xbytes : (Nat → Int32)) (v1 : Nat) : (Nat) ⊕ (Nat) := (if xlength ≤ v1 then (Sum.inr v1) else (if (xbytes v1) = (nI 32) then (Sum.inl (v1 + 1)) else (Sum.inr v1)))
def m_X0_takeToken_l112 (xlength : Nat) (xbytes : (Nat → Int32)) (z4 : Int32) (v9 : Nat) : (Nat) ⊕ (Nat) := (if xlength ≤ v9 then (Sum.inr v9) else (wl_bnd (m_X0_sortOf (xbytes v9)) (fun z11 => (if z11 = z4 then (Sum.inl (v9 + 1)) else (Sum.inr v9)))))
def m_X0_takeToken (xlength : Nat) (xbehind : Nat) (xbytes : (Nat → Int32)) : Nat × Nat × Int32 := (wl_bnd (wl_run (m_X0_takeToken_l8 xlength xbytes) default 151 xbehind) (fun z1 => (wl_bnd ((if xlength ≤ z1 then (nI 0) else (wl_bnd (m_X0_sortOf (xbytes z1)) (fun z6 => z6))) : Int32) (fun z4 => (if z4 = (nI 3) then (z1, (z1 + 1), z4) else (if z4 = (nI 4) then (z1, (z1 + 1), z4) else (wl_bnd (wl_run (m_X0_takeToken_l112 xlength xbytes z4) default 151 z1) (fun z9 => (if z4 = (nI 2) then (if (z9 - z1) ≤ 2 then (z1, z9, z4) else (z1, z9, (nI 4))) else (z1, z9, z4))))))))))
set_option maxHeartbeats 4000000 in
set_option maxRecDepth 100000 in
theorem c_X0_takeToken {l : Launch} {D : va_G} {E : Nat → ClassId} {a : Nat → Nat} {xlength : Nat} {xstart : Nat} {xbehind : Nat} {xsort : Int32} {xnumber : Int32} {xbytes : (Nat → Int32)}  (hXL : xlength ≤ 150) (hXB : xbehind ≤ xlength) : wl_Met (τ := Nat × Nat × Int32) l D E yX0_takeToken cX0_takeToken 1 none ({ frames := 1, cells := 0, slots := 0, locals := 20 } : Room) [.ref (a 0)] (wTX E a xlength xstart xbehind xsort xnumber xbytes) (fun _ => none) (fun z => (wTX E a xlength z.1 z.2.1 z.2.2 xnumber xbytes)) (m_X0_takeToken xlength xbehind xbytes) := by
  refine wl_enter (own := RX0) (by decide +kernel) rfl (Nat.le_of_ble_eq_true rfl) ?_
  intro p0 e0 s0 m0 bl0 mt0 c0 A hC hr hlk hA H locs hP hD hS ls hl
  have hx := hC.1
  have hb := hC.2.1
  have hl : lv_has ls 1 [(0, .ref (a 0))] := hl
  have hm := m_X0_takeToken.eq_1 xlength xbehind xbytes
  refine lv_aload_n hx hb dX0_takeToken_0 rfl (lv_at hl 0 rfl) ?_
  refine lv_aload_n hx hb dX0_takeToken_1 rfl (lv_at hl 0 rfl) ?_
  refine g_TX_0_behind hC hP mw_18 dX0_takeToken_2 ?_
  refine p_TX_0_start hC hP hD hS xbehind mw_19 dX0_takeToken_5 (fun H locs hP hD hS => ?_)
  obtain ⟨u1, hu1, hk1⟩ := wl_bx hm
  refine wl_JP u1 46 (fun _ => []) 1 (fun z1 => [(0, .ref (a 0))]) D A s0.heap (fun z1 => (wTX E a xlength z1 xbehind xsort xnumber xbytes)) (fun z1 => (z1 ≤ xlength)) (fun z1 hz1 hpost1 ls H locs hP hD hS hl => ?_) (fun J1 => ?_)
  · have hm := hk1 z1 hz1
    have p1 := hpost1
    refine lv_aload_n hx hb dX0_takeToken_46 rfl (lv_at hl 0 rfl) ?_
    refine lv_aload_n hx hb dX0_takeToken_47 rfl (lv_at hl 0 rfl) ?_
    refine g_TX_0_start hC hP mw_19 dX0_takeToken_48 ?_
    refine p_TX_0_behind hC hP hD hS z1 mw_18 dX0_takeToken_51 (fun H locs hP hD hS => ?_)
    refine lv_aload_n hx hb dX0_takeToken_54 rfl (lv_at hl 0 rfl) ?_
    refine lv_aload_n hx hb dX0_takeToken_55 rfl (lv_at hl 0 rfl) ?_
    refine g_TX_0_start hC hP mw_19 dX0_takeToken_56 ?_
    refine lv_aload_n hx hb dX0_takeToken_59 rfl (lv_at hl 0 rfl) ?_
    refine g_TX_0_length hC hP mw_6 dX0_takeToken_60 ?_
    obtain ⟨u4, hj4, hk4⟩ := wl_bx hm
    refine wl_J u4 82 (fun z4 => [.int z4, .ref (a 0)]) 1 (fun z4 => [(0, .ref (a 0))]) D A s0.heap (fun z4 => (wTX E a xlength z1 z1 xsort xnumber xbytes)) (fun z4 hz4 ls H locs hP hD hS hl => ?_) (fun J4 => ?_)
    · have hm := hk4 z4 hz4
      refine p_TX_0_sort hC hP hD hS z4 mw_20 dX0_takeToken_82 (fun H locs hP hD hS => ?_)
      refine lv_aload_n hx hb dX0_takeToken_85 rfl (lv_at hl 0 rfl) ?_
      refine g_TX_0_sort hC hP mw_20 dX0_takeToken_86 ?_
      refine lv_iconst (v := (nI 3)) hx hb dX0_takeToken_89 (by decide +kernel) ?_
      refine lv_icmp_eq hx hb (tgt := 101) dX0_takeToken_90 (by decide) (fun c7 => ?_) (fun c7 => ?_)
      · have hm := hm.trans (if_pos c7)
        refine lv_aload_n hx hb dX0_takeToken_101 rfl (lv_at hl 0 rfl) ?_
        refine lv_dup hx hb dX0_takeToken_102 rfl ?_
        refine g_TX_0_behind hC hP mw_18 dX0_takeToken_103 ?_
        refine lv_iconst (v := (nI 1)) hx hb dX0_takeToken_106 (by decide +kernel) ?_
        refine lv_iadd hx hb dX0_takeToken_107 ?_
        refine wl_re (show nI z1 + nI 1 = nI (z1 + 1) from nI_add z1 1) ?_
        refine p_TX_0_behind hC hP hD hS (z1 + 1) mw_18 dX0_takeToken_108 (fun H locs hP hD hS => ?_)
        exact wl_vret hC hr hlk hm rfl hP hD hS dX0_takeToken_111
      · have hm := hm.trans (if_neg c7)
        refine lv_aload_n hx hb dX0_takeToken_93 rfl (lv_at hl 0 rfl) ?_
        refine g_TX_0_sort hC hP mw_20 dX0_takeToken_94 ?_
        refine lv_iconst (v := (nI 4)) hx hb dX0_takeToken_97 (by decide +kernel) ?_
        refine lv_icmp_ne hx hb (tgt := 112) dX0_takeToken_98 (by decide) (fun c8 => ?_) (fun c8 => ?_)
        · have hm := hm.trans (if_neg c8)
          obtain ⟨u9, hu9, hk9⟩ := wl_bx hm
          refine wl_JP u9 155 (fun _ => []) 1 (fun z9 => [(0, .ref (a 0))]) D A s0.heap (fun z9 => (wTX E a xlength z1 z9 z4 xnumber xbytes)) (fun z9 => (z1 ≤ z9) ∧ (z9 ≤ xlength)) (fun z9 hz9 hpost9 ls H locs hP hD hS hl => ?_) (fun J9 => ?_)
          · have hm := hk9 z9 hz9
            obtain ⟨p2, p3⟩ := hpost9
            refine lv_aload_n hx hb dX0_takeToken_155 rfl (lv_at hl 0 rfl) ?_
            refine g_TX_0_sort hC hP mw_20 dX0_takeToken_156 ?_
            refine lv_iconst (v := (nI 2)) hx hb dX0_takeToken_159 (by decide +kernel) ?_
            refine lv_icmp_ne hx hb (tgt := 181) dX0_takeToken_160 (by decide) (fun c13 => ?_) (fun c13 => ?_)
            · have hm := hm.trans (if_neg c13)
              exact wl_vret hC hr hlk hm rfl hP hD hS dX0_takeToken_181
            · have hm := hm.trans (if_pos c13)
              refine lv_aload_n hx hb dX0_takeToken_163 rfl (lv_at hl 0 rfl) ?_
              refine g_TX_0_behind hC hP mw_18 dX0_takeToken_164 ?_
              refine lv_aload_n hx hb dX0_takeToken_167 rfl (lv_at hl 0 rfl) ?_
              refine g_TX_0_start hC hP mw_19 dX0_takeToken_168 ?_
              refine lv_isub hx hb dX0_takeToken_171 ?_
              refine wl_re (show nI z9 - nI z1 = nI (z9 - z1) from pk_sub (by omega)) ?_
              refine lv_iconst (v := (nI 2)) hx hb dX0_takeToken_172 (by decide +kernel) ?_
              refine wl_icmp_le_n hx hb (by first | omega | exact Nat.lt_of_le_of_lt Nat.and_le_right (by omega) | exact Nat.pow_lt_pow_right (by omega) (by omega) | exact Nat.lt_trans (by assumption) (Nat.pow_lt_pow_right (by omega) (by omega))) (by first | omega | exact Nat.lt_of_le_of_lt Nat.and_le_right (by omega) | exact Nat.pow_lt_pow_right (by omega) (by omega) | exact Nat.lt_trans (by assumption) (Nat.pow_lt_pow_right (by omega) (by omega))) (tgt := 181) dX0_takeToken_173 (by decide) (fun c14 => ?_) (fun c14 => ?_)
              · have hm := hm.trans (if_pos c14)
                exact wl_vret hC hr hlk hm rfl hP hD hS dX0_takeToken_181
              · have hm := hm.trans (if_neg c14)
                refine lv_aload_n hx hb dX0_takeToken_176 rfl (lv_at hl 0 rfl) ?_
                refine lv_iconst (v := (nI 4)) hx hb dX0_takeToken_177 (by decide +kernel) ?_
                refine p_TX_0_sort hC hP hD hS (nI 4) mw_20 dX0_takeToken_178 (fun H locs hP hD hS => ?_)
                exact wl_vret hC hr hlk hm rfl hP hD hS dX0_takeToken_181
          · refine wl_while (D := D) (A := A) (H0 := s0.heap) (m_X0_takeToken_l112 xlength xbytes z4) default 151 z1 112 1 (fun v9 => [(0, .ref (a 0))]) (fun v9 => (wTX E a xlength z1 v9 z4 xnumber xbytes)) (fun v9 => (z1 ≤ v9) ∧ (v9 ≤ xlength)) (fun v9 => xlength - v9) ⟨(by show z1 ≤ z1; omega), (by show z1 ≤ xlength; omega)⟩ (by show xlength - z1 < 151; first | decide | omega) ?_ hP hD hS (lv_sub hl [0] rfl)
            intro v9 hI9 EX9 IH9 ls H locs hP hD hS hl
            obtain ⟨q2, q3⟩ := hI9
            have hb9 := m_X0_takeToken_l112.eq_1 xlength xbytes z4 v9
            refine lv_aload_n hx hb dX0_takeToken_112 rfl (lv_at hl 0 rfl) ?_
            refine g_TX_0_behind hC hP mw_18 dX0_takeToken_113 ?_
            refine lv_aload_n hx hb dX0_takeToken_116 rfl (lv_at hl 0 rfl) ?_
            refine g_TX_0_length hC hP mw_6 dX0_takeToken_117 ?_
            refine wl_icmp_ge_n hx hb (by first | omega | exact Nat.lt_of_le_of_lt Nat.and_le_right (by omega) | exact Nat.pow_lt_pow_right (by omega) (by omega) | exact Nat.lt_trans (by assumption) (Nat.pow_lt_pow_right (by omega) (by omega))) (by first | omega | exact Nat.lt_of_le_of_lt Nat.and_le_right (by omega) | exact Nat.pow_lt_pow_right (by omega) (by omega) | exact Nat.lt_trans (by assumption) (Nat.pow_lt_pow_right (by omega) (by omega))) (tgt := 155) dX0_takeToken_120 (by decide) (fun c10 => ?_) (fun c10 => ?_)
            · have hb9 := hb9.trans (if_pos c10)
              exact J9 _ (hu9.trans (EX9 _ hb9)) ⟨(by show z1 ≤ v9; omega), (by show v9 ≤ xlength; omega)⟩ ls H locs hP hD hS (lv_sub hl [0] rfl)
            · have hb9 := hb9.trans (if_neg c10)
              refine lv_aload_n hx hb dX0_takeToken_123 rfl (lv_at hl 0 rfl) ?_
              refine g_TX_0_bytes hC hP mw_4 dX0_takeToken_124 ?_
              refine lv_aload_n hx hb dX0_takeToken_127 rfl (lv_at hl 0 rfl) ?_
              refine g_TX_0_behind hC hP mw_18 dX0_takeToken_128 ?_
              refine ld_TX_1 hC hP v9 (by omega) dX0_takeToken_131 ?_
              refine wl_callPi hC (c_X0_sortOf (c := (xbytes v9)) ) lk_RX0_110 rfl ⟨rfl, rfl, Nat.le_of_ble_eq_true rfl, Nat.le_of_ble_eq_true rfl⟩ hP hS hA hl.1 rfl (Nat.le_of_ble_eq_true rfl) dX0_takeToken_132 ⟨Nat.zero_le _, Nat.zero_le _⟩ (fun z11 hz11 H locs hP hS => ?_)
              have hb9 := wl_bz hb9 hz11
              refine lv_aload_n hx hb dX0_takeToken_135 rfl (lv_at hl 0 rfl) ?_
              refine g_TX_0_sort hC hP mw_20 dX0_takeToken_136 ?_
              refine lv_icmp_ne hx hb (tgt := 155) dX0_takeToken_139 (by decide) (fun c12 => ?_) (fun c12 => ?_)
              · have hb9 := hb9.trans (if_neg c12)
                exact J9 _ (hu9.trans (EX9 _ hb9)) ⟨(by show z1 ≤ v9; omega), (by show v9 ≤ xlength; omega)⟩ ls H locs hP hD hS (lv_sub hl [0] rfl)
              · have hb9 := hb9.trans (if_pos c12)
                refine lv_aload_n hx hb dX0_takeToken_142 rfl (lv_at hl 0 rfl) ?_
                refine lv_dup hx hb dX0_takeToken_143 rfl ?_
                refine g_TX_0_behind hC hP mw_18 dX0_takeToken_144 ?_
                refine lv_iconst (v := (nI 1)) hx hb dX0_takeToken_147 (by decide +kernel) ?_
                refine lv_iadd hx hb dX0_takeToken_148 ?_
                refine wl_re (show nI v9 + nI 1 = nI (v9 + 1) from nI_add v9 1) ?_
                refine p_TX_0_behind hC hP hD hS (v9 + 1) mw_18 dX0_takeToken_149 (fun H locs hP hD hS => ?_)
                refine lv_goto (tgt := 112) hx hb dX0_takeToken_152 (by decide) ?_
                exact IH9 _ hb9 ⟨(by show z1 ≤ (v9 + 1); omega), (by show (v9 + 1) ≤ xlength; omega)⟩ (by show xlength - (v9 + 1) < xlength - v9; omega) ls H locs hP hD hS (lv_sub hl [0] rfl)
        · have hm := hm.trans (if_pos c8)
          refine lv_aload_n hx hb dX0_takeToken_101 rfl (lv_at hl 0 rfl) ?_
          refine lv_dup hx hb dX0_takeToken_102 rfl ?_
          refine g_TX_0_behind hC hP mw_18 dX0_takeToken_103 ?_
          refine lv_iconst (v := (nI 1)) hx hb dX0_takeToken_106 (by decide +kernel) ?_
          refine lv_iadd hx hb dX0_takeToken_107 ?_
          refine wl_re (show nI z1 + nI 1 = nI (z1 + 1) from nI_add z1 1) ?_
          refine p_TX_0_behind hC hP hD hS (z1 + 1) mw_18 dX0_takeToken_108 (fun H locs hP hD hS => ?_)
          exact wl_vret hC hr hlk hm rfl hP hD hS dX0_takeToken_111
    · refine wl_icmp_ge_n hx hb (by first | omega | exact Nat.lt_of_le_of_lt Nat.and_le_right (by omega) | exact Nat.pow_lt_pow_right (by omega) (by omega) | exact Nat.lt_trans (by assumption) (Nat.pow_lt_pow_right (by omega) (by omega))) (by first | omega | exact Nat.lt_of_le_of_lt Nat.and_le_right (by omega) | exact Nat.pow_lt_pow_right (by omega) (by omega) | exact Nat.lt_trans (by assumption) (Nat.pow_lt_pow_right (by omega) (by omega))) (tgt := 81) dX0_takeToken_63 (by decide) (fun c5 => ?_) (fun c5 => ?_)
      · have hj4 := hj4.trans (if_pos c5)
        refine lv_iconst (v := (nI 0)) hx hb dX0_takeToken_81 (by decide +kernel) ?_
        exact J4 _ hj4 ls H locs hP hD hS (lv_sub hl [0] rfl)
      · have hj4 := hj4.trans (if_neg c5)
        refine lv_aload_n hx hb dX0_takeToken_66 rfl (lv_at hl 0 rfl) ?_
        refine g_TX_0_bytes hC hP mw_4 dX0_takeToken_67 ?_
        refine lv_aload_n hx hb dX0_takeToken_70 rfl (lv_at hl 0 rfl) ?_
        refine g_TX_0_start hC hP mw_19 dX0_takeToken_71 ?_
        refine ld_TX_1 hC hP z1 (by omega) dX0_takeToken_74 ?_
        refine wl_callPi hC (c_X0_sortOf (c := (xbytes z1)) ) lk_RX0_110 rfl ⟨rfl, rfl, Nat.le_of_ble_eq_true rfl, Nat.le_of_ble_eq_true rfl⟩ hP hS hA hl.1 rfl (Nat.le_of_ble_eq_true rfl) dX0_takeToken_75 ⟨Nat.zero_le _, Nat.zero_le _⟩ (fun z6 hz6 H locs hP hS => ?_)
        have hj4 := wl_bz hj4 hz6
        refine lv_goto (tgt := 82) hx hb dX0_takeToken_78 (by decide) ?_
        exact J4 _ hj4 ls H locs hP hD hS (lv_sub hl [0] rfl)
  · refine wl_while (D := D) (A := A) (H0 := s0.heap) (m_X0_takeToken_l8 xlength xbytes) default 151 xbehind 8 1 (fun v1 => [(0, .ref (a 0))]) (fun v1 => (wTX E a xlength v1 xbehind xsort xnumber xbytes)) (fun v1 => (v1 ≤ xlength)) (fun v1 => xlength - v1) (by show xbehind ≤ xlength; omega) (by show xlength - xbehind < 151; first | decide | omega) ?_ hP hD hS (lv_sub hl [0] rfl)
    intro v1 hI1 EX1 IH1 ls H locs hP hD hS hl
    have q1 := hI1
    have hb1 := m_X0_takeToken_l8.eq_1 xlength xbytes v1
    refine lv_aload_n hx hb dX0_takeToken_8 rfl (lv_at hl 0 rfl) ?_
    refine g_TX_0_start hC hP mw_19 dX0_takeToken_9 ?_
    refine lv_aload_n hx hb dX0_takeToken_12 rfl (lv_at hl 0 rfl) ?_
    refine g_TX_0_length hC hP mw_6 dX0_takeToken_13 ?_
    refine wl_icmp_ge_n hx hb (by first | omega | exact Nat.lt_of_le_of_lt Nat.and_le_right (by omega) | exact Nat.pow_lt_pow_right (by omega) (by omega) | exact Nat.lt_trans (by assumption) (Nat.pow_lt_pow_right (by omega) (by omega))) (by first | omega | exact Nat.lt_of_le_of_lt Nat.and_le_right (by omega) | exact Nat.pow_lt_pow_right (by omega) (by omega) | exact Nat.lt_trans (by assumption) (Nat.pow_lt_pow_right (by omega) (by omega))) (tgt := 46) dX0_takeToken_16 (by decide) (fun c2 => ?_) (fun c2 => ?_)
    · have hb1 := hb1.trans (if_pos c2)
      exact J1 _ (hu1.trans (EX1 _ hb1)) (by show v1 ≤ xlength; omega) ls H locs hP hD hS (lv_sub hl [0] rfl)
    · have hb1 := hb1.trans (if_neg c2)
      refine lv_aload_n hx hb dX0_takeToken_19 rfl (lv_at hl 0 rfl) ?_
      refine g_TX_0_bytes hC hP mw_4 dX0_takeToken_20 ?_
      refine lv_aload_n hx hb dX0_takeToken_23 rfl (lv_at hl 0 rfl) ?_
      refine g_TX_0_start hC hP mw_19 dX0_takeToken_24 ?_
      refine ld_TX_1 hC hP v1 (by omega) dX0_takeToken_27 ?_
      refine lv_bipush (v := (nI 32)) hx hb dX0_takeToken_28 (by decide +kernel) ?_
      refine lv_icmp_ne hx hb (tgt := 46) dX0_takeToken_30 (by decide) (fun c3 => ?_) (fun c3 => ?_)
      · have hb1 := hb1.trans (if_neg c3)
        exact J1 _ (hu1.trans (EX1 _ hb1)) (by show v1 ≤ xlength; omega) ls H locs hP hD hS (lv_sub hl [0] rfl)
      · have hb1 := hb1.trans (if_pos c3)
        refine lv_aload_n hx hb dX0_takeToken_33 rfl (lv_at hl 0 rfl) ?_
        refine lv_dup hx hb dX0_takeToken_34 rfl ?_
        refine g_TX_0_start hC hP mw_19 dX0_takeToken_35 ?_
        refine lv_iconst (v := (nI 1)) hx hb dX0_takeToken_38 (by decide +kernel) ?_
        refine lv_iadd hx hb dX0_takeToken_39 ?_
        refine wl_re (show nI v1 + nI 1 = nI (v1 + 1) from nI_add v1 1) ?_
        refine p_TX_0_start hC hP hD hS (v1 + 1) mw_19 dX0_takeToken_40 (fun H locs hP hD hS => ?_)
        refine lv_goto (tgt := 8) hx hb dX0_takeToken_43 (by decide) ?_
        exact IH1 _ hb1 (by show (v1 + 1) ≤ xlength; omega) (by show xlength - (v1 + 1) < xlength - v1; omega) ls H locs hP hD hS (lv_sub hl [0] rfl)
