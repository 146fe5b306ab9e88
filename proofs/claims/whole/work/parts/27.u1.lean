def m_X0_takeToken_l8 (xlength : Nat) (xbytes : (Nat → Int32)) (v1 : Nat) : (Nat) ⊕ (Nat) := (if xlength ≤ v1 then (Sum.inr v1) else (if (xbytes v1) = (nI 32) then (Sum.inl (v1 + 1)) else (Sum.inr v1)))
def m_X0_takeToken_l112 (xlength : Nat) (xbytes : (Nat → Int32)) (z4 : Int32) (v9 : Nat) : (Nat) ⊕ (Nat) := (if xlength ≤ v9 then (Sum.inr v9) else (wl_bnd (m_X0_sortOf (xbytes v9)) (fun z11 => (if z11 = z4 then (Sum.inl (v9 + 1)) else (Sum.inr v9)))))
def m_X0_takeToken (xlength : Nat) (xbehind : Nat) (xbytes : (Nat → Int32)) : Nat × Nat × Int32 := (wl_bnd (wl_run (m_X0_takeToken_l8 xlength xbytes) default 151 xbehind) (fun z1 => (wl_bnd ((if xlength ≤ z1 then (nI 0) else (wl_bnd (m_X0_sortOf (xbytes z1)) (fun z6 => z6))) : Int32) (fun z4 => (if z4 = (nI 3) then (z1, (z1 + 1), z4) else (if z4 = (nI 4) then (z1, (z1 + 1), z4) else (wl_bnd (wl_run (m_X0_takeToken_l112 xlength xbytes z4) default 151 z1) (fun z9 => (if z4 = (nI 2) then (if (z9 - z1) ≤ 2 then (z1, z9, z4) else (z1, z9, (nI 4))) else (z1, z9, z4))))))))))
set_option maxHeartbeats 4000000 in
set_option maxRecDepth 100000 in
theorem c_X0_takeToken {l : Launch} {D : va_G} {E : Nat → ClassId} {a : Nat → Nat} {xlength : Nat} {xstart : Nat} {xbehind : Nat} {xsort : Int32} {xnumber : Int32} {xbytes : (Nat → Int32)}  (hXL : xlength ≤ 150) (hXB : xbehind ≤ xlength) : wl_Met (τ := Nat × Nat × Int32) l D E yX0_takeToken cX0_takeToken 1 none ({ frames := 1, cells := 0, slots := 0, locals := 20 } : Room) [.ref (a 0)] (wTX E a xlength xstart xbehind xsort xnumber xbytes) (fun _ => none) (fun z => (wTX E a xlength z.1 z.2.1 z.2.2 xnumber xbytes)) (m_X0_takeToken xlength xbehind xbytes) := by
  refine wl_enter (own := RX0) (by decide +kernel) rfl (Nat.le_of_ble_eq_true rfl) ?_
  intro p0 e0 s0 m0 bl0 mt0 c0 A hC hr hlk hA H locs hP hD hS ls hl
  have hx := hC.1
  have hb := hC.2.1
  have hl : lv_has ls 1 [(0, .ref (a 0))] := hl
  have hm := m_X0_takeToken.eq_1 xlength xbehind xbytes
  refine lv_aload_n hx hb dX0_takeToken_0 rfl (lv_at hl 0 rfl) ?_
  refine lv_aload_n hx hb dX0_takeToken_1 rfl (lv_at hl 0 rfl) ?_
  refine g_TX_0_behind hC hP mw_18 dX0_takeToken_2 ?_
  refine p_TX_0_start hC hP hD hS xbehind mw_19 dX0_takeToken_5 (fun H locs hP hD hS => ?_)
  obtain ⟨u1, hu1, hk1⟩ := wl_bx hm
  refine wl_JP u1 46 (fun _ => []) 1 (fun z1 => [(0, .ref (a 0))]) D A s0.heap (fun z1 => (wTX E a xlength z1 xbehind xsort xnumber xbytes)) (fun z1 => (z1 ≤ xlength)) (fun z1 hz1 hpost1 ls H locs hP hD hS hl => ?_) (fun J1 => ?_)
  · have hm := hk1 z1 hz1
    have p1 := hpost1
    refine lv_aload_n hx hb dX0_takeToken_46 rfl (lv_at hl 0 rfl) ?_
    refine lv_aload_n hx hb dX0_takeToken_47 rfl (lv_at hl 0 rfl) ?_
    refine g_TX_0_start hC hP mw_19 dX0_takeToken_48 ?_
    refine p_TX_0_behind hC hP hD hS z1 mw_18 dX0_takeToken_51 (fun H locs hP hD hS => ?_)
    refine lv_aload_n hx hb dX0_takeToken_54 rfl (lv_at hl 0 rfl) ?_
    refine lv_aload_n hx hb dX0_takeToken_55 rfl (lv_at hl 0 rfl) ?_
    refine g_TX_0_start hC hP mw_19 dX0_takeToken_56 ?_
    refine lv_aload_n hx hb dX0_takeToken_59 rfl (lv_at hl 0 rfl) ?_
    refine g_TX_0_length hC hP mw_6 dX0_takeToken_60 ?_
    obtain ⟨u4, hj4, hk4⟩ := wl_bx hm
    refine wl_J u4 82 (fun z4 => [.int z4, .ref (a 0)]) 1 (fun z4 => [(0, .ref (a 0))]) D A s0.heap (fun z4 => (wTX E a xlength z1 z1 xsort xnumber xbytes)) (fun z4 hz4 ls H locs hP hD hS hl => ?_) (fun J4 => ?_)
    · have hm := hk4 z4 hz4
      refine p_TX_0_sort hC hP hD hS z4 mw_20 dX0_takeToken_82 (fun H locs hP hD hS => ?_)
      refine lv_aload_n hx hb dX0_takeToken_85 rfl (lv_at hl 0 rfl) ?_
      refine g_TX_0_sort hC hP mw_20 dX0_takeToken_86 ?_
      refine lv_iconst (v := (nI 3)) hx hb dX0_takeToken_89 (by decide +kernel) ?_
      refine lv_icmp_eq hx hb (tgt := 101) dX0_takeToken_90 (by decide) (fun c7 => ?_) (fun c7 => ?_)
      · have hm := hm.trans (if_pos c7)
        refine lv_aload_n hx hb dX0_takeToken_101 rfl (lv_at hl 0 rfl) ?_
        refine lv_dup hx hb dX0_takeToken_102 rfl ?_
        refine g_TX_0_behind hC hP mw_18 dX0_takeToken_103 ?_
        refine lv_iconst (v := (nI 1)) hx hb dX0_takeToken_106 (by decide +kernel) ?_
        refine lv_iadd hx hb dX0_takeToken_107 ?_
        refine wl_re (show nI z1 + nI 1 = nI (z1 + 1) from nI_add z1 1) ?_
        refine p_TX_0_behind hC hP hD hS (z1 + 1) mw_18 dX0_takeToken_108 (fun H locs hP hD hS => ?_)
        exact wl_vret hC hr hlk hm rfl hP hD hS dX0_takeToken_111
      · have hm := hm.trans (if_neg c7)
        refine lv_aload_n hx hb dX0_takeToken_93 rfl (lv_at hl 0 rfl) ?_
        refine g_TX_0_sort hC hP mw_20 dX0_takeToken_94 ?_
        refine lv_iconst (v := (nI 4)) hx hb dX0_takeToken_97 (by decide +kernel) ?_
        refine lv_icmp_ne hx hb (tgt := 112) dX0_takeToken_98 (by decide) (fun c8 => ?_) (fun c8 => ?_)
        · have hm := hm.trans (if_neg c8)
          obtain ⟨u9, hu9, hk9⟩ := wl_bx hm
          refine wl_JP u9 155 (fun _ => []) 1 (fun z9 => [(0, .ref (a 0))]) D A s0.heap (fun z9 => (wTX E a xlength z1 z9 z4 xnumber xbytes)) (fun z9 => (z1 ≤ z9) ∧ (z9 ≤ xlength)) (fun z9 hz9 hpost9 ls H locs hP hD hS hl => ?_) (fun J9 => ?_)
          · have hm := hk9 z9 hz9
            obtain ⟨p2, p3⟩ := hpost9
            refine lv_aload_n hx hb dX0_takeToken_155 rfl (lv_at hl 0 rfl) ?_
            refine g_TX_0_sort hC hP mw_20 dX0_takeToken_156 ?_
            refine lv_iconst (v := (nI 2)) hx hb dX0_takeToken_159 (by decide +kernel) ?_
            refine lv_icmp_ne hx hb (tgt := 181) dX0_takeToken_160 (by decide) (fun c13 => ?_) (fun c13 => ?_)
            · have hm := hm.trans (if_neg c13)
              exact wl_vret hC hr hlk hm rfl hP hD hS dX0_takeToken_181
            · have hm := hm.trans (if_pos c13)
              refine lv_aload_n hx hb dX0_takeToken_163 rfl (lv_at hl 0 rfl) ?_
              refine g_TX_0_behind hC hP mw_18 dX0_takeToken_164 ?_
              refine lv_aload_n hx hb dX0_takeToken_167 rfl (lv_at hl 0 rfl) ?_
              refine g_TX_0_start hC hP mw_19 dX0_takeToken_168 ?_
              refine lv_isub hx hb dX0_takeToken_171 ?_
              refine wl_re (show nI z9 - nI z1 = nI (z9 - z1) from pk_sub (by omega)) ?_
              refine lv_iconst (v := (nI 2)) hx hb dX0_takeToken_172 (by decide +kernel) ?_
              refine wl_icmp_le_n hx hb (by first | omega | exact Nat.lt_of_le_of_lt Nat.and_le_right (by omega) | exact Nat.pow_lt_pow_right (by omega) (by omega) | exact Nat.lt_trans (by assumption) (Nat.pow_lt_pow_right (by omega) (by omega))) (by first | omega | exact Nat.lt_of_le_of_lt Nat.and_le_right (by omega) | exact Nat.pow_lt_pow_right (by omega) (by omega) | exact Nat.lt_trans (by assumption) (Nat.pow_lt_pow_right (by omega) (by omega))) (tgt := 181) dX0_takeToken_173 (by decide) (fun c14 => ?_) (fun c14 => ?_)
              · have hm := hm.trans (if_pos c14)
                exact wl_vret hC hr hlk hm rfl hP hD hS dX0_takeToken_181
              · have hm := hm.trans (if_neg c14)
                refine lv_aload_n hx hb dX0_takeToken_176 rfl (lv_at hl 0 rfl) ?_
                refine lv_iconst (v := (nI 4)) hx hb dX0_takeToken_177 (by decide +kernel) ?_
                refine p_TX_0_sort hC hP hD hS (nI 4) mw_20 dX0_takeToken_178 (fun H locs hP hD hS => ?_)
                exact wl_vret hC hr hlk hm rfl hP hD hS dX0_takeToken_181
          · refine wl_while (D := D) (A := A) (H0 := s0.heap) (m_X0_takeToken_l112 xlength xbytes z4) default 151 z1 112 1 (fun v9 => [(0, .ref (a 0))]) (fun v9 => (wTX E a xlength z1 v9 z4 xnumber xbytes)) (fun v9 => (z1 ≤ v9) ∧ (v9 ≤ xlength)) (fun v9 => xlength - v9) ⟨(by show z1 ≤ z1; omega), (by show z1 ≤ xlength; omega)⟩ (by show xlength - z1 < 151; first | decide | omega) ?_ hP hD hS (lv_sub hl [0] rfl)
            intro v9 hI9 EX9 IH9 ls H locs hP hD hS hl
            obtain ⟨q2, q3⟩ := hI9
            have hb9 := m_X0_takeToken_l112.eq_1 xlength xbytes z4 v9
            refine lv_aload_n hx hb dX0_takeToken_112 rfl (lv_at hl 0 rfl) ?_
            refine g_TX_0_behind hC hP mw_18 dX0_takeToken_113 ?_
            refine lv_aload_n hx hb dX0_takeToken_116 rfl (lv_at hl 0 rfl) ?_
            refine g_TX_0_length hC hP mw_6 dX0_takeToken_117 ?_
            refine wl_icmp_ge_n hx hb (by first | omega | exact Nat.lt_of_le_of_lt Nat.and_le_right (by omega) | exact Nat.pow_lt_pow_right (by omega) (by omega) | exact Nat.lt_trans (by assumption) (Nat.pow_lt_pow_right (by omega) (by omega))) (by first | omega | exact Nat.lt_of_le_of_lt Nat.and_le_right (by omega) | exact Nat.pow_lt_pow_right (by omega) (by omega) | exact Nat.lt_trans (by assumption) (Nat.pow_lt_pow_right (by omega) (by omega))) (tgt := 155) dX0_takeToken_120 (by decide) (fun c10 => ?_) (fun c10 => ?_)
            · have hb9 := hb9.trans (if_pos c10)
              exact J9 _ (hu9.trans (EX9 _ hb9)) ⟨(by show z1 ≤ v9; omega), (by show v9 ≤ xlength; omega)⟩ ls H locs hP hD hS (lv_sub hl [0] rfl)
            · have hb9 := hb9.trans (if_neg c10)
              refine lv_aload_n hx hb dX0_takeToken_123 rfl (lv_at hl 0 rfl) ?_
              refine g_TX_0_bytes hC hP mw_4 dX0_takeToken_124 ?_
              refine lv_aload_n hx hb dX0_takeToken_127 rfl (lv_at hl 0 rfl) ?_
              refine g_TX_0_behind hC hP mw_18 dX0_takeToken_128 ?_
              refine ld_TX_1 hC hP v9 (by omega) dX0_takeToken_131 ?_
              refine wl_callPi hC (c_X0_sortOf (c := (xbytes v9)) ) lk_RX0_110 rfl ⟨rfl, rfl, Nat.le_of_ble_eq_true rfl, Nat.le_of_ble_eq_true rfl⟩ hP hS hA hl.1 rfl (Nat.le_of_ble_eq_true rfl) dX0_takeToken_132 ⟨Nat.zero_le _, Nat.zero_le _⟩ (fun z11 hz11 H locs hP hS => ?_)
              have hb9 := wl_bz hb9 hz11
              refine lv_aload_n hx hb dX0_takeToken_135 rfl (lv_at hl 0 rfl) ?_
              refine g_TX_0_sort hC hP mw_20 dX0_takeToken_136 ?_
              refine lv_icmp_ne hx hb (tgt := 155) dX0_takeToken_139 (by decide) (fun c12 => ?_) (fun c12 => ?_)
              · have hb9 := hb9.trans (if_neg c12)
                exact J9 _ (hu9.trans (EX9 _ hb9)) ⟨(by show z1 ≤ v9; omega), (by show v9 ≤ xlength; omega)⟩ ls H locs hP hD hS (lv_sub hl [0] rfl)
              · have hb9 := hb9.trans (if_pos c12)
                refine lv_aload_n hx hb dX0_takeToken_142 rfl (lv_at hl 0 rfl) ?_
                refine lv_dup hx hb dX0_takeToken_143 rfl ?_
                refine g_TX_0_behind hC hP mw_18 dX0_takeToken_144 ?_
                refine lv_iconst (v := (nI 1)) hx hb dX0_takeToken_147 (by decide +kernel) ?_
                refine lv_iadd hx hb dX0_takeToken_148 ?_
                refine wl_re (show nI v9 + nI 1 = nI (v9 + 1) from nI_add v9 1) ?_
                refine p_TX_0_behind hC hP hD hS (v9 + 1) mw_18 dX0_takeToken_149 (fun H locs hP hD hS => ?_)
                refine lv_goto (tgt := 112) hx hb dX0_takeToken_152 (by decide) ?_
                exact IH9 _ hb9 ⟨(by show z1 ≤ (v9 + 1); omega), (by show (v9 + 1) ≤ xlength; omega)⟩ (by show xlength - (v9 + 1) < xlength - v9; omega) ls H locs hP hD hS (lv_sub hl [0] rfl)
        · have hm := hm.trans (if_pos c8)
          refine lv_aload_n hx hb dX0_takeToken_101 rfl (lv_at hl 0 rfl) ?_
          refine lv_dup hx hb dX0_takeToken_102 rfl ?_
          refine g_TX_0_behind hC hP mw_18 dX0_takeToken_103 ?_
          refine lv_iconst (v := (nI 1)) hx hb dX0_takeToken_106 (by decide +kernel) ?_
          refine lv_iadd hx hb dX0_takeToken_107 ?_
          refine wl_re (show nI z1 + nI 1 = nI (z1 + 1) from nI_add z1 1) ?_
          refine p_TX_0_behind hC hP hD hS (z1 + 1) mw_18 dX0_takeToken_108 (fun H locs hP hD hS => ?_)
          exact wl_vret hC hr hlk hm rfl hP hD hS dX0_takeToken_111
    · refine wl_icmp_ge_n hx hb (by first | omega | exact Nat.lt_of_le_of_lt Nat.and_le_right (by omega) | exact Nat.pow_lt_pow_right (by omega) (by omega) | exact Nat.lt_trans (by assumption) (Nat.pow_lt_pow_right (by omega) (by omega))) (by first | omega | exact Nat.lt_of_le_of_lt Nat.and_le_right (by omega) | exact Nat.pow_lt_pow_right (by omega) (by omega) | exact Nat.lt_trans (by assumption) (Nat.pow_lt_pow_right (by omega) (by omega))) (tgt := 81) dX0_takeToken_63 (by decide) (fun c5 => ?_) (fun c5 => ?_)
      · have hj4 := hj4.trans (if_pos c5)
        refine lv_iconst (v := (nI 0)) hx hb dX0_takeToken_81 (by decide +kernel) ?_
        exact J4 _ hj4 ls H locs hP hD hS (lv_sub hl [0] rfl)
      · have hj4 := hj4.trans (if_neg c5)
        refine lv_aload_n hx hb dX0_takeToken_66 rfl (lv_at hl 0 rfl) ?_
        refine g_TX_0_bytes hC hP mw_4 dX0_takeToken_67 ?_
        refine lv_aload_n hx hb dX0_takeToken_70 rfl (lv_at hl 0 rfl) ?_
        refine g_TX_0_start hC hP mw_19 dX0_takeToken_71 ?_
        refine ld_TX_1 hC hP z1 (by omega) dX0_takeToken_74 ?_
        refine wl_callPi hC (c_X0_sortOf (c := (xbytes z1)) ) lk_RX0_110 rfl ⟨rfl, rfl, Nat.le_of_ble_eq_true rfl, Nat.le_of_ble_eq_true rfl⟩ hP hS hA hl.1 rfl (Nat.le_of_ble_eq_true rfl) dX0_takeToken_75 ⟨Nat.zero_le _, Nat.zero_le _⟩ (fun z6 hz6 H locs hP hS => ?_)
        have hj4 := wl_bz hj4 hz6
        refine lv_goto (tgt := 82) hx hb dX0_takeToken_78 (by decide) ?_
        exact J4 _ hj4 ls H locs hP hD hS (lv_sub hl [0] rfl)
  · refine wl_while (D := D) (A := A) (H0 := s0.heap) (m_X0_takeToken_l8 xlength xbytes) default 151 xbehind 8 1 (fun v1 => [(0, .ref (a 0))]) (fun v1 => (wTX E a xlength v1 xbehind xsort xnumber xbytes)) (fun v1 => (v1 ≤ xlength)) (fun v1 => xlength - v1) (by show xbehind ≤ xlength; omega) (by show xlength - xbehind < 151; first | decide | omega) ?_ hP hD hS (lv_sub hl [0] rfl)
    intro v1 hI1 EX1 IH1 ls H locs hP hD hS hl
    have q1 := hI1
    have hb1 := m_X0_takeToken_l8.eq_1 xlength xbytes v1
    refine lv_aload_n hx hb dX0_takeToken_8 rfl (lv_at hl 0 rfl) ?_
    refine g_TX_0_start hC hP mw_19 dX0_takeToken_9 ?_
    refine lv_aload_n hx hb dX0_takeToken_12 rfl (lv_at hl 0 rfl) ?_
    refine g_TX_0_length hC hP mw_6 dX0_takeToken_13 ?_
    refine wl_icmp_ge_n hx hb (by first | omega | exact Nat.lt_of_le_of_lt Nat.and_le_right (by omega) | exact Nat.pow_lt_pow_right (by omega) (by omega) | exact Nat.lt_trans (by assumption) (Nat.pow_lt_pow_right (by omega) (by omega))) (by first | omega | exact Nat.lt_of_le_of_lt Nat.and_le_right (by omega) | exact Nat.pow_lt_pow_right (by omega) (by omega) | exact Nat.lt_trans (by assumption) (Nat.pow_lt_pow_right (by omega) (by omega))) (tgt := 46) dX0_takeToken_16 (by decide) (fun c2 => ?_) (fun c2 => ?_)
    · have hb1 := hb1.trans (if_pos c2)
      exact J1 _ (hu1.trans (EX1 _ hb1)) (by show v1 ≤ xlength; omega) ls H locs hP hD hS (lv_sub hl [0] rfl)
    · have hb1 := hb1.trans (if_neg c2)
      refine lv_aload_n hx hb dX0_takeToken_19 rfl (lv_at hl 0 rfl) ?_
      refine g_TX_0_bytes hC hP mw_4 dX0_takeToken_20 ?_
      refine lv_aload_n hx hb dX0_takeToken_23 rfl (lv_at hl 0 rfl) ?_
      refine g_TX_0_start hC hP mw_19 dX0_takeToken_24 ?_
      refine ld_TX_1 hC hP v1 (by omega) dX0_takeToken_27 ?_
      refine lv_bipush (v := (nI 32)) hx hb dX0_takeToken_28 (by decide +kernel) ?_
      refine lv_icmp_ne hx hb (tgt := 46) dX0_takeToken_30 (by decide) (fun c3 => ?_) (fun c3 => ?_)
      · have hb1 := hb1.trans (if_neg c3)
        exact J1 _ (hu1.trans (EX1 _ hb1)) (by show v1 ≤ xlength; omega) ls H locs hP hD hS (lv_sub hl [0] rfl)
      · have hb1 := hb1.trans (if_pos c3)
        refine lv_aload_n hx hb dX0_takeToken_33 rfl (lv_at hl 0 rfl) ?_
        refine lv_dup hx hb dX0_takeToken_34 rfl ?_
        refine g_TX_0_start hC hP mw_19 dX0_takeToken_35 ?_
        refine lv_iconst (v := (nI 1)) hx hb dX0_takeToken_38 (by decide +kernel) ?_
        refine lv_iadd hx hb dX0_takeToken_39 ?_
        refine wl_re (show nI v1 + nI 1 = nI (v1 + 1) from nI_add v1 1) ?_
        refine p_TX_0_start hC hP hD hS (v1 + 1) mw_19 dX0_takeToken_40 (fun H locs hP hD hS => ?_)
        refine lv_goto (tgt := 8) hx hb dX0_takeToken_43 (by decide) ?_
        exact IH1 _ hb1 (by show (v1 + 1) ≤ xlength; omega) (by show xlength - (v1 + 1) < xlength - v1; omega) ls H locs hP hD hS (lv_sub hl [0] rfl)
/-- 1 a letter, 2 a figure, 3 the stop, 4 what else -/
def kd (c : Int32) : Nat := if m_X4_isSmall c = true then 1 else if m_X4_isFigure c = true then 2 else if c = nI 59 then 3 else 4
theorem isSmall_iff {c : Int32} : m_X4_isSmall c = true ↔ (97 : Int) ≤ c.toInt ∧ c.toInt ≤ (122 : Int) := in_iff (a := 97) (b := 122) (by decide) (by decide)
theorem isFigure_iff {c : Int32} : m_X4_isFigure c = true ↔ (48 : Int) ≤ c.toInt ∧ c.toInt ≤ (57 : Int) := in_iff (a := 48) (b := 57) (by decide) (by decide)
theorem sortOf_kd (c : Int32) : m_X0_sortOf c = nI (kd c) := by
  have e (k : Nat) (hk : k < 2 ^ 31) : c < nI k ↔ c.toInt < (k : Int) := by rw [Int32.lt_iff_toInt_lt, nI_toInt hk]
  have f (k : Nat) (hk : k < 2 ^ 31) : nI k < c ↔ (k : Int) < c.toInt := by rw [Int32.lt_iff_toInt_lt, nI_toInt hk]
  unfold m_X0_sortOf kd
  simp only [isSmall_iff, isFigure_iff, e 97 (by decide), e 48 (by decide), f 57 (by decide), f 122 (by decide)]
  repeat' split
  all_goals first
    | rfl
    | omega
theorem kd_ge (c : Int32) : 1 ≤ kd c := by unfold kd; repeat' split
                                           all_goals decide
theorem kd_le (c : Int32) : kd c ≤ 4 := by unfold kd; repeat' split
                                           all_goals decide
theorem kd_1 {c : Int32} : kd c = 1 ↔ m_X4_isSmall c = true := by
  unfold kd
  by_cases h : m_X4_isSmall c = true
  · rw [if_pos h]; exact ⟨fun _ => h, fun _ => rfl⟩
  · rw [if_neg h]
    refine ⟨fun q => ?_, fun q => absurd q h⟩
    repeat' split at q
    all_goals omega
theorem kd_2 {c : Int32} : kd c = 2 ↔ m_X4_isFigure c = true := by
  unfold kd
  by_cases h : m_X4_isSmall c = true
  · rw [if_pos h]
    refine ⟨fun q => absurd q (by decide), fun q => ?_⟩
    have a1 := isSmall_iff.mp h
    have a2 := isFigure_iff.mp q
    omega
  · rw [if_neg h]
    by_cases h2 : m_X4_isFigure c = true
    · rw [if_pos h2]; exact ⟨fun _ => h2, fun _ => rfl⟩
    · rw [if_neg h2]
      refine ⟨fun q => ?_, fun q => absurd q h2⟩
      repeat' split at q
      all_goals omega
def Edge (p : Nat → Prop) (L s r : Nat) : Prop := s ≤ r ∧ r ≤ L ∧ (∀ j, s ≤ j → j < r → p j) ∧ (r < L → ¬ p r)
theorem edge_u {p : Nat → Prop} {L s r r' : Nat} (h : Edge p L s r) (h' : Edge p L s r') : r = r' := by
  obtain ⟨a1, a2, a3, a4⟩ := h
  obtain ⟨b1, b2, b3, b4⟩ := h'
  rcases Nat.lt_trichotomy r r' with g | g | g
  · exact absurd (b3 r a1 g) (a4 (by omega))
  · exact g
  · exact absurd (a3 r' b1 g) (b4 (by omega))
theorem run112 {L v : Nat} {by_ : Nat → Int32} {k : Int32} (hL : L ≤ 150) (h : v ≤ L) : Edge (fun j => m_X0_sortOf (by_ j) = k) L v (wl_run (m_X0_takeToken_l112 L by_ k) default 151 v) := by
  refine run_inv (m_X0_takeToken_l112 L by_ k) default (fun w => v ≤ w ∧ w ≤ L ∧ ∀ j, v ≤ j → j < w → m_X0_sortOf (by_ j) = k) (fun w => L - w) _ ?_ 151 v (by omega) ⟨Nat.le_refl _, h, fun j a b => absurd a (by omega)⟩
  rintro w ⟨w1, w2, w3⟩
  unfold m_X0_takeToken_l112 wl_bnd
  by_cases h1 : L ≤ w
  · rw [if_pos h1]
    exact ⟨fun v' q => (by cases q), fun r q => by cases q; exact ⟨w1, w2, w3, fun q => absurd q (by omega)⟩⟩
  · rw [if_neg h1]
    by_cases h2 : m_X0_sortOf (by_ w) = k
    · simp only [if_pos h2]
      refine ⟨fun v' q => ?_, fun r q => (by cases q)⟩
      cases q
      refine ⟨⟨by omega, by omega, fun j a b => ?_⟩, by omega⟩
      by_cases hj : j = w
      · rw [hj]; exact h2
      · exact w3 j a (by omega)
    · simp only [if_neg h2]
      exact ⟨fun v' q => (by cases q), fun r q => by cases q; exact ⟨w1, w2, w3, fun _ => h2⟩⟩
theorem run136 {L z1 z6 : Nat} {by_ : Nat → Int32} (hL : L ≤ 150) (h : z1 < L) (h6 : z6 = 1 ∨ z6 = 2) (hk : kd (by_ z1) = z6) : Edge (fun j => kd (by_ j) = z6) L z1 (z1 + wl_run (m_X4_lookAt_l136 L by_ z1 z6) default 301 (1, true)) := by
  refine run_inv (m_X4_lookAt_l136 L by_ z1 z6) default (fun w => 1 ≤ w.1 ∧ z1 + w.1 ≤ L ∧ (∀ j, z1 ≤ j → j < z1 + w.1 → kd (by_ j) = z6) ∧ (¬ w.2 = true → z1 + w.1 < L → ¬ kd (by_ (z1 + w.1)) = z6)) (fun v => 2 * (L - v.1) + cond v.2 1 0) (fun r => Edge (fun j => kd (by_ j) = z6) L z1 (z1 + r)) ?_ 301 (1, true) (by show 2 * (L - 1) + 1 < 301; omega) ⟨Nat.le_refl _, h, fun j a b => by have hj : j = z1 := (by omega); rw [hj]; exact hk, fun q => absurd rfl q⟩
  rintro ⟨t, g⟩ hw
  obtain ⟨w1, w2, w3, w4⟩ : 1 ≤ t ∧ z1 + t ≤ L ∧ (∀ j, z1 ≤ j → j < z1 + t → kd (by_ j) = z6) ∧ (¬ g = true → z1 + t < L → ¬ kd (by_ (z1 + t)) = z6) := hw
  unfold m_X4_lookAt_l136 wl_bnd
  by_cases h1 : g = true
  · rw [if_pos h1]
    by_cases h2 : L ≤ z1 + t
    · rw [if_pos h2]
      exact ⟨fun v' q => (by cases q), fun r q => by cases q; exact ⟨by omega, w2, w3, fun q => absurd q (by omega)⟩⟩
    · rw [if_neg h2]
      have hc : ((if z6 = 1 then m_X4_isSmall (by_ (z1 + (t, g).1)) else m_X4_isFigure (by_ (z1 + (t, g).1))) = true) ↔ kd (by_ (z1 + t)) = z6 := by
        rcases h6 with h6 | h6
        · rw [if_pos h6, h6]; exact kd_1.symm
        · rw [if_neg (by omega), h6]; exact kd_2.symm
      generalize (if z6 = 1 then m_X4_isSmall (by_ (z1 + (t, g).1)) else m_X4_isFigure (by_ (z1 + (t, g).1))) = b at hc ⊢
      dsimp only
      by_cases h3 : b = true
      · rw [if_pos h3]
        refine ⟨fun v' q => ?_, fun r q => (by cases q)⟩
        cases q
        refine ⟨⟨by omega, by omega, fun j a c => ?_, fun q => absurd h3 q⟩, wl_look_mu1 (a := z1) h1 (by omega)⟩
        by_cases hj : j = z1 + t
        · rw [hj]; exact hc.mp h3
        · exact w3 j a (by omega)
      · rw [if_neg h3]
        refine ⟨fun v' q => ?_, fun r q => (by cases q)⟩
        cases q
        exact ⟨⟨w1, w2, w3, fun _ _ q => h3 (hc.mpr q)⟩, wl_look_mu2 h1 h3⟩
  · rw [if_neg h1]
    exact ⟨fun v' q => (by cases q), fun r q => by cases q; exact ⟨by omega, w2, w3, fun q => w4 h1 q⟩⟩
theorem nI_inj5 : ∀ a b : Nat, a < 5 → b < 5 → nI a = nI b → a = b := by
  intro a b ha hb h
  have e : (nI a).toInt = (nI b).toInt := by rw [h]
  rw [nI_toInt (by omega), nI_toInt (by omega)] at e
  omega
theorem takeToken_eq {L b0 : Nat} {by_ : Nat → Int32} (h : b0 ≤ L) (hL : L ≤ 150) : m_X0_takeToken L b0 by_ = ((m_X4_lookAt L by_ b0).1, (m_X4_lookAt L by_ b0).1 + (m_X4_lookAt L by_ b0).2.1, (m_X4_lookAt L by_ b0).2.2.1) := by
  obtain ⟨h1, h2⟩ := look5_ok (by_ := by_) h hL
  have e8 : m_X0_takeToken_l8 L by_ = m_X4_lookAt_l5 L by_ := rfl
  unfold m_X0_takeToken m_X4_lookAt wl_bnd
  rw [e8]
  generalize wl_run (m_X4_lookAt_l5 L by_) default 151 b0 = z1 at h1 h2 ⊢
  by_cases h3 : z1 = L
  · simp only [if_pos h3, if_pos (show L ≤ z1 by omega), if_neg (show ¬ (nI 0 = nI 3) by decide), if_neg (show ¬ (nI 0 = nI 4) by decide), if_neg (show ¬ (nI 0 = nI 2) by decide)]
    have g := run112 (by_ := by_) (k := nI 0) hL h2
    have g2 : wl_run (m_X0_takeToken_l112 L by_ (nI 0)) default 151 z1 = z1 := by obtain ⟨a1, a2, _, _⟩ := g; omega
    rw [g2]; rfl
  · have h4 : z1 < L := by omega
    simp only [if_neg h3, if_neg (show ¬ L ≤ z1 by omega)]
    have ek : (if m_X4_isSmall (by_ z1) = true then 1 else if m_X4_isFigure (by_ z1) = true then 2 else if by_ z1 = nI 59 then 3 else 4) = kd (by_ z1) := rfl
    rw [ek, sortOf_kd]
    have k1 := kd_ge (by_ z1)
    have k2 := kd_le (by_ z1)
    by_cases h5 : 3 ≤ kd (by_ z1)
    · simp only [if_pos h5]
      have e1 : wl_run (m_X4_lookAt_l136 L by_ z1 (kd (by_ z1))) default 301 (1, false) = 1 := by rw [wl_run, m_X4_lookAt_l136, if_neg (by decide)]
      rw [e1]
      have h6 : kd (by_ z1) = 3 ∨ kd (by_ z1) = 4 := by omega
      rcases h6 with h6 | h6
      · rw [h6]; simp only [if_pos True.intro, if_neg (show ¬ (3 : Nat) = 2 by decide)]
      · rw [h6]; simp only [if_pos True.intro, if_neg (show ¬ (4 : Nat) = 2 by decide), if_neg (show ¬ (nI 4 = nI 3) by decide)]
    · simp only [if_neg h5]
      have h6 : kd (by_ z1) = 1 ∨ kd (by_ z1) = 2 := by omega
      have g := run112 (by_ := by_) (k := nI (kd (by_ z1))) hL h2
      have g2 := run136 (by_ := by_) hL h4 h6 rfl
      have g3 : Edge (fun j => kd (by_ j) = kd (by_ z1)) L z1 (wl_run (m_X0_takeToken_l112 L by_ (nI (kd (by_ z1)))) default 151 z1) := by
        obtain ⟨a1, a2, a3, a4⟩ := g
        refine ⟨a1, a2, fun j b1 b2 => ?_, fun q r => a4 q ?_⟩
        · have a5 : m_X0_sortOf (by_ j) = nI (kd (by_ z1)) := a3 j b1 b2
          rw [sortOf_kd] at a5
          exact nI_inj5 _ _ (by have := kd_le (by_ j); omega) (by omega) a5
        · have r' : kd (by_ (wl_run (m_X0_takeToken_l112 L by_ (nI (kd (by_ z1)))) default 151 z1)) = kd (by_ z1) := r
          show m_X0_sortOf _ = _
          rw [sortOf_kd, r']
      have g4 := edge_u g3 g2
      generalize wl_run (m_X0_takeToken_l112 L by_ (nI (kd (by_ z1)))) default 151 z1 = r at g3 g4 ⊢
      generalize wl_run (m_X4_lookAt_l136 L by_ z1 (kd (by_ z1))) default 301 (1, true) = t at g2 g4 ⊢
      subst g4
      have e0 : z1 + t - z1 = t := by omega
      rcases h6 with h6 | h6
      · rw [h6]; simp only [if_neg (show ¬ (nI 1 = nI 3) by decide), if_neg (show ¬ (nI 1 = nI 4) by decide), if_neg (show ¬ (nI 1 = nI 2) by decide), if_neg (show ¬ (1 : Nat) = 2 by decide)]
      · rw [h6]; simp only [if_neg (show ¬ (nI 2 = nI 3) by decide), if_neg (show ¬ (nI 2 = nI 4) by decide), if_pos True.intro, e0]
        by_cases h7 : t ≤ 2
        · simp only [if_pos h7, if_pos True.intro]
        · simp only [if_neg h7, if_pos True.intro]
theorem takeToken_ok {L b0 : Nat} {by_ : Nat → Int32} (h : b0 ≤ L) (hL : L ≤ 150) : b0 ≤ (m_X0_takeToken L b0 by_).1 ∧ (m_X0_takeToken L b0 by_).1 ≤ (m_X0_takeToken L b0 by_).2.1 ∧ (m_X0_takeToken L b0 by_).2.1 ≤ L := by
  rw [takeToken_eq h hL]
  obtain ⟨g1, g2, _⟩ := lookAt_ok (by_ := by_) h hL
  exact ⟨g1, Nat.le_add_right _ _, g2⟩
