theorem wl_c01 (b : Bool) : cond b 1 0 ≤ 1 := by cases b <;> decide
theorem wl_look_mu1 {L a t : Nat} {g g' : Bool} (hg : g = true) (h : a + t < L) : 2 * (L - (t + 1)) + cond g' 1 0 < 2 * (L - t) + cond g 1 0 := by
  subst hg
  have h1 := wl_c01 g'
  show 2 * (L - (t + 1)) + cond g' 1 0 < 2 * (L - t) + 1
  omega
theorem wl_look_mu2 {L t : Nat} {g g' : Bool} (hg : g = true) (hg' : ¬ g' = true) : 2 * (L - (t + 0)) + cond g' 1 0 < 2 * (L - t) + cond g 1 0 := by
  subst hg
  cases g'
  · show 2 * (L - (t + 0)) + 0 < 2 * (L - t) + 1
    omega
  · exact absurd rfl hg' 
def m_X4_lookAt_l5 (mbytesLong : Nat) (mbytes : (Nat → Int32)) (v1 : Nat) : (Nat) ⊕ (Nat) := (if mbytesLong ≤ v1 then (Sum.inr v1) else (if (mbytes v1) = (nI 32) then (Sum.inl (v1 + 1)) else (Sum.inr v1)))
def m_X4_lookAt_l136 (mbytesLong : Nat) (mbytes : (Nat → Int32)) (z1 : Nat) (z6 : Nat) (v13 : Nat × Bool) : (Nat × Bool) ⊕ (Nat) := (if v13.2 = true then (if mbytesLong ≤ (z1 + v13.1) then (Sum.inr v13.1) else (wl_bnd ((if z6 = 1 then (wl_bnd (m_X4_isSmall (mbytes (z1 + v13.1))) (fun z19 => z19)) else (wl_bnd (m_X4_isFigure (mbytes (z1 + v13.1))) (fun z18 => z18))) : Bool) (fun z16 => (if z16 = true then (Sum.inl ((v13.1 + 1), z16)) else (Sum.inl ((v13.1 + 0), z16)))))) else (Sum.inr v13.1))
def m_X4_lookAt_l218 (mbytes : (Nat → Int32)) (z1 : Nat) (z6 : Nat) (z13 : Nat) (v21 : Int32 × Nat) : (Int32 × Nat) ⊕ (Int32) := (if z13 ≤ v21.2 then (Sum.inr v21.1) else (if 2 ≤ v21.2 then (Sum.inr v21.1) else (if z6 = 2 then (Sum.inl (((((nI 10) * v21.1) + (mbytes (z1 + v21.2))) - (nI 48)), (v21.2 + 1))) else (Sum.inr v21.1))))
def m_X4_lookAt (mbytesLong : Nat) (mbytes : (Nat → Int32)) (from0 : Nat) : Nat × Nat × Int32 × Int32 := (wl_bnd (wl_run (m_X4_lookAt_l5 mbytesLong mbytes) default 151 from0) (fun z1 => (if z1 = mbytesLong then (z1, 0, (nI 0), (nI 0)) else (wl_bnd (m_X4_isSmall (mbytes z1)) (fun z5 => (wl_bnd ((if z5 = true then 1 else (wl_bnd (m_X4_isFigure (mbytes z1)) (fun z8 => (if z8 = true then 2 else (if (mbytes z1) = (nI 59) then 3 else 4))))) : Nat) (fun z6 => (wl_bnd ((if 3 ≤ z6 then false else true) : Bool) (fun z11 => (wl_bnd (wl_run (m_X4_lookAt_l136 mbytesLong mbytes z1 z6) default 301 (1, z11)) (fun z13 => (wl_bnd (wl_run (m_X4_lookAt_l218 mbytes z1 z6 z13) default 3 ((nI 0), 0)) (fun z21 => (if z6 = 2 then (if z13 ≤ 2 then (z1, z13, (nI z6), z21) else (z1, z13, (nI 4), z21)) else (z1, z13, (nI z6), z21)))))))))))))))
set_option maxHeartbeats 4000000 in
set_option maxRecDepth 100000 in
theorem c_X4_lookAt {l : Launch} {D : va_G} {E : Nat → ClassId} {a : Nat → Nat} {mabove : Int64} {mbelow : Int64} {mlisted : Int32} {mfollowing : Int32} {mdayThen : Int32} {mbytesLong : Nat} {mtokenAt : Nat} {mtokenLong : Nat} {mtoken : Int32} {mvalue : Int32} {mnow : (Nat → Int32)} {mkept : (Nat → Int32)} {misKept : (Nat → Int32)} {mrefused : (Nat → Int32)} {mtempers : (Nat → Int32)} {mhis : (Nat → Int32)} {mtheirs : (Nat → Int32)} {mmanyBy : (Nat → Int32)} {mbytes : (Nat → Int32)} {manew : (Nat → Int32)} {mvalues : (Nat → Int32)} {from0 : Nat} (hBL : mbytesLong ≤ 150) (hfr : from0 ≤ mbytesLong) : wl_Met (τ := Nat × Nat × Int32 × Int32) l D E yX4_lookAt cX4_lookAt 5 none ({ frames := 2, cells := 0, slots := 0, locals := 45 } : Room) [.ref (a 0), .int (nI from0)] (wM E a mabove mbelow mlisted mfollowing mdayThen mbytesLong mtokenAt mtokenLong mtoken mvalue mnow mkept misKept mrefused mtempers mhis mtheirs mmanyBy mbytes manew mvalues) (fun _ => none) (fun z => (wM E a mabove mbelow mlisted mfollowing mdayThen mbytesLong z.1 z.2.1 z.2.2.1 z.2.2.2 mnow mkept misKept mrefused mtempers mhis mtheirs mmanyBy mbytes manew mvalues)) (m_X4_lookAt mbytesLong mbytes from0) := by
  refine wl_enter (own := RX4) (by decide +kernel) rfl (Nat.le_of_ble_eq_true rfl) ?_
  intro p0 e0 s0 m0 bl0 mt0 c0 A hC hr hlk hA H locs hP hD hS ls hl
  have hx := hC.1
  have hb := hC.2.1
  have hl : lv_has ls 5 [(0, .ref (a 0)), (1, .int (nI from0))] := hl
  have hm := m_X4_lookAt.eq_1 mbytesLong mbytes from0
  refine lv_aload_n hx hb dX4_lookAt_0 rfl (lv_at hl 0 rfl) ?_
  refine lv_iload_n hx hb dX4_lookAt_1 rfl (lv_at hl 1 rfl) ?_
  refine p_M_0_tokenAt hC hP hD hS from0 mw_545 dX4_lookAt_2 (fun H locs hP hD hS => ?_)
  obtain ⟨u1, hu1, hk1⟩ := wl_bx hm
  refine wl_JP u1 43 (fun _ => []) 5 (fun z1 => [(0, .ref (a 0))]) D A s0.heap (fun z1 => (wM E a mabove mbelow mlisted mfollowing mdayThen mbytesLong z1 mtokenLong mtoken mvalue mnow mkept misKept mrefused mtempers mhis mtheirs mmanyBy mbytes manew mvalues)) (fun z1 => (z1 ≤ mbytesLong)) (fun z1 hz1 hpost1 ls H locs hP hD hS hl => ?_) (fun J1 => ?_)
  · have hm := hk1 z1 hz1
    have p1 := hpost1
    refine lv_aload_n hx hb dX4_lookAt_43 rfl (lv_at hl 0 rfl) ?_
    refine lv_iconst (v := (nI 0)) hx hb dX4_lookAt_44 (by decide +kernel) ?_
    refine p_M_0_tokenLong hC hP hD hS 0 mw_546 dX4_lookAt_45 (fun H locs hP hD hS => ?_)
    refine lv_aload_n hx hb dX4_lookAt_48 rfl (lv_at hl 0 rfl) ?_
    refine lv_iconst (v := (nI 0)) hx hb dX4_lookAt_49 (by decide +kernel) ?_
    refine p_M_0_token hC hP hD hS (nI 0) mw_547 dX4_lookAt_50 (fun H locs hP hD hS => ?_)
    refine lv_aload_n hx hb dX4_lookAt_53 rfl (lv_at hl 0 rfl) ?_
    refine lv_iconst (v := (nI 0)) hx hb dX4_lookAt_54 (by decide +kernel) ?_
    refine p_M_0_value hC hP hD hS (nI 0) mw_548 dX4_lookAt_55 (fun H locs hP hD hS => ?_)
    refine lv_aload_n hx hb dX4_lookAt_58 rfl (lv_at hl 0 rfl) ?_
    refine g_M_0_tokenAt hC hP mw_545 dX4_lookAt_59 ?_
    refine lv_aload_n hx hb dX4_lookAt_62 rfl (lv_at hl 0 rfl) ?_
    refine g_M_0_bytesLong hC hP mw_536 dX4_lookAt_63 ?_
    refine wl_icmp_ne_n hx hb (by first | omega | exact Nat.lt_of_le_of_lt Nat.and_le_right (by omega) | exact Nat.pow_lt_pow_right (by omega) (by omega) | exact Nat.lt_trans (by assumption) (Nat.pow_lt_pow_right (by omega) (by omega))) (by first | omega | exact Nat.lt_of_le_of_lt Nat.and_le_right (by omega) | exact Nat.pow_lt_pow_right (by omega) (by omega) | exact Nat.lt_trans (by assumption) (Nat.pow_lt_pow_right (by omega) (by omega))) (tgt := 70) dX4_lookAt_66 (by decide) (fun c4 => ?_) (fun c4 => ?_)
    · have hm := hm.trans (if_neg c4)
      refine lv_aload_n hx hb dX4_lookAt_70 rfl (lv_at hl 0 rfl) ?_
      refine g_M_0_bytes hC hP mw_394 dX4_lookAt_71 ?_
      refine lv_aload_n hx hb dX4_lookAt_74 rfl (lv_at hl 0 rfl) ?_
      refine g_M_0_tokenAt hC hP mw_545 dX4_lookAt_75 ?_
      refine ld_M_9 hC hP z1 (by omega) dX4_lookAt_78 ?_
      refine lv_istore_n (lv' := [(2, .int (mbytes z1)), (0, .ref (a 0))]) hx hb dX4_lookAt_79 rfl hl (by decide) rfl (fun ls hl => ?_)
      refine lv_aload_n hx hb dX4_lookAt_80 rfl (lv_at hl 1 rfl) ?_
      refine lv_iload_n hx hb dX4_lookAt_81 rfl (lv_at hl 0 rfl) ?_
      refine wl_callPi hC (c_X4_isSmall (c := (mbytes z1)) ) lk_RX4_207 rfl ⟨rfl, rfl, Nat.le_of_ble_eq_true rfl, Nat.le_of_ble_eq_true rfl⟩ hP hS hA hl.1 rfl (Nat.le_of_ble_eq_true rfl) dX4_lookAt_82 ⟨Nat.zero_le _, Nat.zero_le _⟩ (fun z5 hz5 H locs hP hS => ?_)
      have hm := wl_bz hm hz5
      obtain ⟨u6, hj6, hk6⟩ := wl_bx hm
      refine wl_J u6 114 (fun z6 => [.int (nI z6), .ref (a 0)]) 5 (fun z6 => [(0, .ref (a 0))]) D A s0.heap (fun z6 => (wM E a mabove mbelow mlisted mfollowing mdayThen mbytesLong z1 0 (nI 0) (nI 0) mnow mkept misKept mrefused mtempers mhis mtheirs mmanyBy mbytes manew mvalues)) (fun z6 hz6 ls H locs hP hD hS hl => ?_) (fun J6 => ?_)
      · have hm := hk6 z6 hz6
        have hk4 : z6 ≤ 4 := by
          rw [← hz6, hj6]
          simp only [wl_bnd]
          repeat' split
          all_goals omega
        refine p_M_0_token hC hP hD hS (nI z6) mw_547 dX4_lookAt_114 (fun H locs hP hD hS => ?_)
        refine lv_aload_n hx hb dX4_lookAt_117 rfl (lv_at hl 0 rfl) ?_
        refine lv_iconst (v := (nI 1)) hx hb dX4_lookAt_118 (by decide +kernel) ?_
        refine p_M_0_tokenLong hC hP hD hS 1 mw_546 dX4_lookAt_119 (fun H locs hP hD hS => ?_)
        refine lv_aload_n hx hb dX4_lookAt_122 rfl (lv_at hl 0 rfl) ?_
        refine g_M_0_token hC hP mw_547 dX4_lookAt_123 ?_
        refine lv_iconst (v := (nI 3)) hx hb dX4_lookAt_126 (by decide +kernel) ?_
        obtain ⟨u11, hj11, hk11⟩ := wl_bx hm
        refine wl_J u11 135 (fun z11 => [.int (wl_b z11)]) 5 (fun z11 => [(0, .ref (a 0))]) D A s0.heap (fun z11 => (wM E a mabove mbelow mlisted mfollowing mdayThen mbytesLong z1 1 (nI z6) (nI 0) mnow mkept misKept mrefused mtempers mhis mtheirs mmanyBy mbytes manew mvalues)) (fun z11 hz11 ls H locs hP hD hS hl => ?_) (fun J11 => ?_)
        · have hm := hk11 z11 hz11
          refine lv_istore_n (lv' := [(3, .int (wl_b z11)), (0, .ref (a 0))]) hx hb dX4_lookAt_135 rfl hl (by decide) rfl (fun ls hl => ?_)
          obtain ⟨u13, hu13, hk13⟩ := wl_bx hm
          refine wl_JP u13 215 (fun _ => []) 5 (fun z13 => [(0, .ref (a 0))]) D A s0.heap (fun z13 => (wM E a mabove mbelow mlisted mfollowing mdayThen mbytesLong z1 z13 (nI z6) (nI 0) mnow mkept misKept mrefused mtempers mhis mtheirs mmanyBy mbytes manew mvalues)) (fun z13 => (z1 + z13 ≤ mbytesLong)) (fun z13 hz13 hpost13 ls H locs hP hD hS hl => ?_) (fun J13 => ?_)
          · have hm := hk13 z13 hz13
            have p2 := hpost13
            refine lv_iconst (v := (nI 0)) hx hb dX4_lookAt_215 (by decide +kernel) ?_
            refine lv_istore (lv' := [(4, .int (nI 0)), (0, .ref (a 0))]) hx hb dX4_lookAt_216 hl (by decide) rfl (fun ls hl => ?_)
            obtain ⟨u21, hu21, hk21⟩ := wl_bx hm
            refine wl_J u21 274 (fun _ => []) 5 (fun z21 => [(0, .ref (a 0))]) D A s0.heap (fun z21 => (wM E a mabove mbelow mlisted mfollowing mdayThen mbytesLong z1 z13 (nI z6) z21 mnow mkept misKept mrefused mtempers mhis mtheirs mmanyBy mbytes manew mvalues)) (fun z21 hz21 ls H locs hP hD hS hl => ?_) (fun J21 => ?_)
            · have hm := hk21 z21 hz21
              refine lv_aload_n hx hb dX4_lookAt_274 rfl (lv_at hl 0 rfl) ?_
              refine lv_aload_n hx hb dX4_lookAt_275 rfl (lv_at hl 0 rfl) ?_
              refine g_M_0_token hC hP mw_547 dX4_lookAt_276 ?_
              refine lv_iconst (v := (nI 2)) hx hb dX4_lookAt_279 (by decide +kernel) ?_
              refine wl_icmp_ne_n hx hb (by first | omega | exact Nat.lt_of_le_of_lt Nat.and_le_right (by omega) | exact Nat.pow_lt_pow_right (by omega) (by omega) | exact Nat.lt_trans (by assumption) (Nat.pow_lt_pow_right (by omega) (by omega))) (by first | omega | exact Nat.lt_of_le_of_lt Nat.and_le_right (by omega) | exact Nat.pow_lt_pow_right (by omega) (by omega) | exact Nat.lt_trans (by assumption) (Nat.pow_lt_pow_right (by omega) (by omega))) (tgt := 295) dX4_lookAt_280 (by decide) (fun c25 => ?_) (fun c25 => ?_)
              · have hm := hm.trans (if_neg c25)
                refine lv_aload_n hx hb dX4_lookAt_295 rfl (lv_at hl 0 rfl) ?_
                refine g_M_0_token hC hP mw_547 dX4_lookAt_296 ?_
                refine p_M_0_token hC hP hD hS (nI z6) mw_547 dX4_lookAt_299 (fun H locs hP hD hS => ?_)
                exact wl_vret hC hr hlk hm rfl hP hD hS dX4_lookAt_302
              · have hm := hm.trans (if_pos c25)
                refine lv_aload_n hx hb dX4_lookAt_283 rfl (lv_at hl 0 rfl) ?_
                refine g_M_0_tokenLong hC hP mw_546 dX4_lookAt_284 ?_
                refine lv_iconst (v := (nI 2)) hx hb dX4_lookAt_287 (by decide +kernel) ?_
                refine wl_icmp_le_n hx hb (by first | omega | exact Nat.lt_of_le_of_lt Nat.and_le_right (by omega) | exact Nat.pow_lt_pow_right (by omega) (by omega) | exact Nat.lt_trans (by assumption) (Nat.pow_lt_pow_right (by omega) (by omega))) (by first | omega | exact Nat.lt_of_le_of_lt Nat.and_le_right (by omega) | exact Nat.pow_lt_pow_right (by omega) (by omega) | exact Nat.lt_trans (by assumption) (Nat.pow_lt_pow_right (by omega) (by omega))) (tgt := 295) dX4_lookAt_288 (by decide) (fun c26 => ?_) (fun c26 => ?_)
                · have hm := hm.trans (if_pos c26)
                  refine lv_aload_n hx hb dX4_lookAt_295 rfl (lv_at hl 0 rfl) ?_
                  refine g_M_0_token hC hP mw_547 dX4_lookAt_296 ?_
                  refine p_M_0_token hC hP hD hS (nI z6) mw_547 dX4_lookAt_299 (fun H locs hP hD hS => ?_)
                  exact wl_vret hC hr hlk hm rfl hP hD hS dX4_lookAt_302
                · have hm := hm.trans (if_neg c26)
                  refine lv_iconst (v := (nI 4)) hx hb dX4_lookAt_291 (by decide +kernel) ?_
                  refine lv_goto (tgt := 299) hx hb dX4_lookAt_292 (by decide) ?_
                  refine p_M_0_token hC hP hD hS (nI 4) mw_547 dX4_lookAt_299 (fun H locs hP hD hS => ?_)
                  exact wl_vret hC hr hlk hm rfl hP hD hS dX4_lookAt_302
            · refine wl_while (D := D) (A := A) (H0 := s0.heap) (m_X4_lookAt_l218 mbytes z1 z6 z13) default 3 ((nI 0), 0) 218 5 (fun v21 => [(0, .ref (a 0)), (4, .int (nI v21.2))]) (fun v21 => (wM E a mabove mbelow mlisted mfollowing mdayThen mbytesLong z1 z13 (nI z6) v21.1 mnow mkept misKept mrefused mtempers mhis mtheirs mmanyBy mbytes manew mvalues)) (fun v21 => (v21.2 ≤ 2)) (fun v21 => 2 - v21.2) (by show 0 ≤ 2; omega) (by show 2 - 0 < 3; first | decide | omega) ?_ hP hD hS (lv_sub hl [1, 0] rfl)
              intro v21 hI21 EX21 IH21 ls H locs hP hD hS hl
              have q3 := hI21
              have hb21 := m_X4_lookAt_l218.eq_1 mbytes z1 z6 z13 v21
              refine lv_iload hx hb dX4_lookAt_218 (lv_at hl 1 rfl) ?_
              refine lv_aload_n hx hb dX4_lookAt_220 rfl (lv_at hl 0 rfl) ?_
              refine g_M_0_tokenLong hC hP mw_546 dX4_lookAt_221 ?_
              refine wl_icmp_ge_n hx hb (by first | omega | exact Nat.lt_of_le_of_lt Nat.and_le_right (by omega) | exact Nat.pow_lt_pow_right (by omega) (by omega) | exact Nat.lt_trans (by assumption) (Nat.pow_lt_pow_right (by omega) (by omega))) (by first | omega | exact Nat.lt_of_le_of_lt Nat.and_le_right (by omega) | exact Nat.pow_lt_pow_right (by omega) (by omega) | exact Nat.lt_trans (by assumption) (Nat.pow_lt_pow_right (by omega) (by omega))) (tgt := 274) dX4_lookAt_224 (by decide) (fun c22 => ?_) (fun c22 => ?_)
              · have hb21 := hb21.trans (if_pos c22)
                exact J21 _ (hu21.trans (EX21 _ hb21)) ls H locs hP hD hS (lv_sub hl [0] rfl)
              · have hb21 := hb21.trans (if_neg c22)
                refine lv_iload hx hb dX4_lookAt_227 (lv_at hl 1 rfl) ?_
                refine lv_iconst (v := (nI 2)) hx hb dX4_lookAt_229 (by decide +kernel) ?_
                refine wl_icmp_ge_n hx hb (by first | omega | exact Nat.lt_of_le_of_lt Nat.and_le_right (by omega) | exact Nat.pow_lt_pow_right (by omega) (by omega) | exact Nat.lt_trans (by assumption) (Nat.pow_lt_pow_right (by omega) (by omega))) (by first | omega | exact Nat.lt_of_le_of_lt Nat.and_le_right (by omega) | exact Nat.pow_lt_pow_right (by omega) (by omega) | exact Nat.lt_trans (by assumption) (Nat.pow_lt_pow_right (by omega) (by omega))) (tgt := 274) dX4_lookAt_230 (by decide) (fun c23 => ?_) (fun c23 => ?_)
                · have hb21 := hb21.trans (if_pos c23)
                  exact J21 _ (hu21.trans (EX21 _ hb21)) ls H locs hP hD hS (lv_sub hl [0] rfl)
                · have hb21 := hb21.trans (if_neg c23)
                  refine lv_aload_n hx hb dX4_lookAt_233 rfl (lv_at hl 0 rfl) ?_
                  refine g_M_0_token hC hP mw_547 dX4_lookAt_234 ?_
                  refine lv_iconst (v := (nI 2)) hx hb dX4_lookAt_237 (by decide +kernel) ?_
                  refine wl_icmp_ne_n hx hb (by first | omega | exact Nat.lt_of_le_of_lt Nat.and_le_right (by omega) | exact Nat.pow_lt_pow_right (by omega) (by omega) | exact Nat.lt_trans (by assumption) (Nat.pow_lt_pow_right (by omega) (by omega))) (by first | omega | exact Nat.lt_of_le_of_lt Nat.and_le_right (by omega) | exact Nat.pow_lt_pow_right (by omega) (by omega) | exact Nat.lt_trans (by assumption) (Nat.pow_lt_pow_right (by omega) (by omega))) (tgt := 274) dX4_lookAt_238 (by decide) (fun c24 => ?_) (fun c24 => ?_)
                  · have hb21 := hb21.trans (if_neg c24)
                    exact J21 _ (hu21.trans (EX21 _ hb21)) ls H locs hP hD hS (lv_sub hl [0] rfl)
                  · have hb21 := hb21.trans (if_pos c24)
                    refine lv_aload_n hx hb dX4_lookAt_241 rfl (lv_at hl 0 rfl) ?_
                    refine lv_bipush (v := (nI 10)) hx hb dX4_lookAt_242 (by decide +kernel) ?_
                    refine lv_aload_n hx hb dX4_lookAt_244 rfl (lv_at hl 0 rfl) ?_
                    refine g_M_0_value hC hP mw_548 dX4_lookAt_245 ?_
                    refine lv_imul hx hb dX4_lookAt_248 ?_
                    refine lv_aload_n hx hb dX4_lookAt_249 rfl (lv_at hl 0 rfl) ?_
                    refine g_M_0_bytes hC hP mw_394 dX4_lookAt_250 ?_
                    refine lv_aload_n hx hb dX4_lookAt_253 rfl (lv_at hl 0 rfl) ?_
                    refine g_M_0_tokenAt hC hP mw_545 dX4_lookAt_254 ?_
                    refine lv_iload hx hb dX4_lookAt_257 (lv_at hl 1 rfl) ?_
                    refine lv_iadd hx hb dX4_lookAt_259 ?_
                    refine wl_re (show nI z1 + nI v21.2 = nI (z1 + v21.2) from nI_add z1 v21.2) ?_
                    refine ld_M_9 hC hP (z1 + v21.2) (by omega) dX4_lookAt_260 ?_
                    refine lv_iadd hx hb dX4_lookAt_261 ?_
                    refine lv_bipush (v := (nI 48)) hx hb dX4_lookAt_262 (by decide +kernel) ?_
                    refine lv_isub hx hb dX4_lookAt_264 ?_
                    refine p_M_0_value hC hP hD hS ((((nI 10) * v21.1) + (mbytes (z1 + v21.2))) - (nI 48)) mw_548 dX4_lookAt_265 (fun H locs hP hD hS => ?_)
                    refine lv_iinc (v := (nI (v21.2 + 1))) (lv' := [(4, .int (nI (v21.2 + 1))), (0, .ref (a 0))]) hx hb dX4_lookAt_268 hl (k := 1) rfl (wl_inc v21.2 1) (by decide) rfl (fun ls hl => ?_)
                    refine lv_goto (tgt := 218) hx hb dX4_lookAt_271 (by decide) ?_
                    exact IH21 _ hb21 (by show (v21.2 + 1) ≤ 2; omega) (by show 2 - (v21.2 + 1) < 2 - v21.2; omega) ls H locs hP hD hS (lv_sub hl [1, 0] rfl)
          · refine wl_while (D := D) (A := A) (H0 := s0.heap) (m_X4_lookAt_l136 mbytesLong mbytes z1 z6) default 301 (1, z11) 136 5 (fun v13 => [(0, .ref (a 0)), (3, .int (wl_b v13.2))]) (fun v13 => (wM E a mabove mbelow mlisted mfollowing mdayThen mbytesLong z1 v13.1 (nI z6) (nI 0) mnow mkept misKept mrefused mtempers mhis mtheirs mmanyBy mbytes manew mvalues)) (fun v13 => (z1 + v13.1 ≤ mbytesLong)) (fun v13 => 2 * (mbytesLong - v13.1) + cond v13.2 1 0) (by show z1 + 1 ≤ mbytesLong; omega) (by have h_ := wl_c01 z11; show 2 * (mbytesLong - 1) + cond z11 1 0 < 301; omega) ?_ hP hD hS (lv_sub hl [1, 0] rfl)
            intro v13 hI13 EX13 IH13 ls H locs hP hD hS hl
            have q2 := hI13
            have hb13 := m_X4_lookAt_l136.eq_1 mbytesLong mbytes z1 z6 v13
            refine lv_iload_n hx hb dX4_lookAt_136 rfl (lv_at hl 1 rfl) ?_
            refine wl_if_eq_b hx hb (tgt := 215) dX4_lookAt_137 (by decide) (fun c14 => ?_) (fun c14 => ?_)
            · have hb13 := hb13.trans (if_neg c14)
              exact J13 _ (hu13.trans (EX13 _ hb13)) (by show z1 + v13.1 ≤ mbytesLong; omega) ls H locs hP hD hS (lv_sub hl [0] rfl)
            · have hb13 := hb13.trans (if_pos c14)
              refine lv_aload_n hx hb dX4_lookAt_140 rfl (lv_at hl 0 rfl) ?_
              refine g_M_0_tokenAt hC hP mw_545 dX4_lookAt_141 ?_
              refine lv_aload_n hx hb dX4_lookAt_144 rfl (lv_at hl 0 rfl) ?_
              refine g_M_0_tokenLong hC hP mw_546 dX4_lookAt_145 ?_
              refine lv_iadd hx hb dX4_lookAt_148 ?_
              refine wl_re (show nI z1 + nI v13.1 = nI (z1 + v13.1) from nI_add z1 v13.1) ?_
              refine lv_aload_n hx hb dX4_lookAt_149 rfl (lv_at hl 0 rfl) ?_
              refine g_M_0_bytesLong hC hP mw_536 dX4_lookAt_150 ?_
              refine wl_icmp_ge_n hx hb (by first | omega | exact Nat.lt_of_le_of_lt Nat.and_le_right (by omega) | exact Nat.pow_lt_pow_right (by omega) (by omega) | exact Nat.lt_trans (by assumption) (Nat.pow_lt_pow_right (by omega) (by omega))) (by first | omega | exact Nat.lt_of_le_of_lt Nat.and_le_right (by omega) | exact Nat.pow_lt_pow_right (by omega) (by omega) | exact Nat.lt_trans (by assumption) (Nat.pow_lt_pow_right (by omega) (by omega))) (tgt := 215) dX4_lookAt_153 (by decide) (fun c15 => ?_) (fun c15 => ?_)
              · have hb13 := hb13.trans (if_pos c15)
                exact J13 _ (hu13.trans (EX13 _ hb13)) (by show z1 + v13.1 ≤ mbytesLong; omega) ls H locs hP hD hS (lv_sub hl [0] rfl)
              · have hb13 := hb13.trans (if_neg c15)
                refine lv_aload_n hx hb dX4_lookAt_156 rfl (lv_at hl 0 rfl) ?_
                refine g_M_0_bytes hC hP mw_394 dX4_lookAt_157 ?_
                refine lv_aload_n hx hb dX4_lookAt_160 rfl (lv_at hl 0 rfl) ?_
                refine g_M_0_tokenAt hC hP mw_545 dX4_lookAt_161 ?_
                refine lv_aload_n hx hb dX4_lookAt_164 rfl (lv_at hl 0 rfl) ?_
                refine g_M_0_tokenLong hC hP mw_546 dX4_lookAt_165 ?_
                refine lv_iadd hx hb dX4_lookAt_168 ?_
                refine wl_re (show nI z1 + nI v13.1 = nI (z1 + v13.1) from nI_add z1 v13.1) ?_
                refine ld_M_9 hC hP (z1 + v13.1) (by omega) dX4_lookAt_169 ?_
                refine lv_istore (lv' := [(4, .int (mbytes (z1 + v13.1))), (0, .ref (a 0)), (3, .int (wl_b v13.2))]) hx hb dX4_lookAt_170 hl (by decide) rfl (fun ls hl => ?_)
                refine lv_aload_n hx hb dX4_lookAt_172 rfl (lv_at hl 1 rfl) ?_
                refine g_M_0_token hC hP mw_547 dX4_lookAt_173 ?_
                refine lv_iconst (v := (nI 1)) hx hb dX4_lookAt_176 (by decide +kernel) ?_
                obtain ⟨u16, hj16, hk16⟩ := wl_bx hb13
                refine wl_J u16 193 (fun z16 => [.int (wl_b z16)]) 5 (fun z16 => [(0, .ref (a 0))]) D A s0.heap (fun z16 => (wM E a mabove mbelow mlisted mfollowing mdayThen mbytesLong z1 v13.1 (nI z6) (nI 0) mnow mkept misKept mrefused mtempers mhis mtheirs mmanyBy mbytes manew mvalues)) (fun z16 hz16 ls H locs hP hD hS hl => ?_) (fun J16 => ?_)
                · have hb13 := hk16 z16 hz16
                  refine lv_istore_n (lv' := [(3, .int (wl_b z16)), (0, .ref (a 0))]) hx hb dX4_lookAt_193 rfl hl (by decide) rfl (fun ls hl => ?_)
                  refine lv_aload_n hx hb dX4_lookAt_194 rfl (lv_at hl 1 rfl) ?_
                  refine lv_dup hx hb dX4_lookAt_195 rfl ?_
                  refine g_M_0_tokenLong hC hP mw_546 dX4_lookAt_196 ?_
                  refine lv_iload_n hx hb dX4_lookAt_199 rfl (lv_at hl 0 rfl) ?_
                  refine wl_if_eq_b hx hb (tgt := 207) dX4_lookAt_200 (by decide) (fun c20 => ?_) (fun c20 => ?_)
                  · have hb13 := hb13.trans (if_neg c20)
                    refine lv_iconst (v := (nI 0)) hx hb dX4_lookAt_207 (by decide +kernel) ?_
                    refine lv_iadd hx hb dX4_lookAt_208 ?_
                    refine wl_re (show nI v13.1 + nI 0 = nI (v13.1 + 0) from nI_add v13.1 0) ?_
                    refine p_M_0_tokenLong hC hP hD hS (v13.1 + 0) mw_546 dX4_lookAt_209 (fun H locs hP hD hS => ?_)
                    refine lv_goto (tgt := 136) hx hb dX4_lookAt_212 (by decide) ?_
                    exact IH13 _ hb13 (by show z1 + (v13.1 + 0) ≤ mbytesLong; omega) (by first | exact wl_look_mu1 (a := z1) (by assumption) (by omega) | exact wl_look_mu2 (by assumption) (by assumption)) ls H locs hP hD hS (lv_sub hl [1, 0] rfl)
                  · have hb13 := hb13.trans (if_pos c20)
                    refine lv_iconst (v := (nI 1)) hx hb dX4_lookAt_203 (by decide +kernel) ?_
                    refine lv_goto (tgt := 208) hx hb dX4_lookAt_204 (by decide) ?_
                    refine lv_iadd hx hb dX4_lookAt_208 ?_
                    refine wl_re (show nI v13.1 + nI 1 = nI (v13.1 + 1) from nI_add v13.1 1) ?_
                    refine p_M_0_tokenLong hC hP hD hS (v13.1 + 1) mw_546 dX4_lookAt_209 (fun H locs hP hD hS => ?_)
                    refine lv_goto (tgt := 136) hx hb dX4_lookAt_212 (by decide) ?_
                    exact IH13 _ hb13 (by show z1 + (v13.1 + 1) ≤ mbytesLong; omega) (by first | exact wl_look_mu1 (a := z1) (by assumption) (by omega) | exact wl_look_mu2 (by assumption) (by assumption)) ls H locs hP hD hS (lv_sub hl [1, 0] rfl)
                · refine wl_icmp_ne_n hx hb (by first | omega | exact Nat.lt_of_le_of_lt Nat.and_le_right (by omega) | exact Nat.pow_lt_pow_right (by omega) (by omega) | exact Nat.lt_trans (by assumption) (Nat.pow_lt_pow_right (by omega) (by omega))) (by first | omega | exact Nat.lt_of_le_of_lt Nat.and_le_right (by omega) | exact Nat.pow_lt_pow_right (by omega) (by omega) | exact Nat.lt_trans (by assumption) (Nat.pow_lt_pow_right (by omega) (by omega))) (tgt := 188) dX4_lookAt_177 (by decide) (fun c17 => ?_) (fun c17 => ?_)
                  · have hj16 := hj16.trans (if_neg c17)
                    refine lv_iload hx hb dX4_lookAt_188 (lv_at hl 0 rfl) ?_
                    refine wl_callPi hC (c_X4_isFigure (c := (mbytes (z1 + v13.1))) ) lk_RX4_210 rfl ⟨rfl, rfl, Nat.le_of_ble_eq_true rfl, Nat.le_of_ble_eq_true rfl⟩ hP hS hA hl.1 rfl (Nat.le_of_ble_eq_true rfl) dX4_lookAt_190 ⟨Nat.zero_le _, Nat.zero_le _⟩ (fun z18 hz18 H locs hP hS => ?_)
                    have hj16 := wl_bz hj16 hz18
                    exact J16 _ hj16 ls H locs hP hD hS (lv_sub hl [1] rfl)
                  · have hj16 := hj16.trans (if_pos c17)
                    refine lv_iload hx hb dX4_lookAt_180 (lv_at hl 0 rfl) ?_
                    refine wl_callPi hC (c_X4_isSmall (c := (mbytes (z1 + v13.1))) ) lk_RX4_207 rfl ⟨rfl, rfl, Nat.le_of_ble_eq_true rfl, Nat.le_of_ble_eq_true rfl⟩ hP hS hA hl.1 rfl (Nat.le_of_ble_eq_true rfl) dX4_lookAt_182 ⟨Nat.zero_le _, Nat.zero_le _⟩ (fun z19 hz19 H locs hP hS => ?_)
                    have hj16 := wl_bz hj16 hz19
                    refine lv_goto (tgt := 193) hx hb dX4_lookAt_185 (by decide) ?_
                    exact J16 _ hj16 ls H locs hP hD hS (lv_sub hl [1] rfl)
        · refine wl_icmp_ge_n hx hb (by first | omega | exact Nat.lt_of_le_of_lt Nat.and_le_right (by omega) | exact Nat.pow_lt_pow_right (by omega) (by omega) | exact Nat.lt_trans (by assumption) (Nat.pow_lt_pow_right (by omega) (by omega))) (by first | omega | exact Nat.lt_of_le_of_lt Nat.and_le_right (by omega) | exact Nat.pow_lt_pow_right (by omega) (by omega) | exact Nat.lt_trans (by assumption) (Nat.pow_lt_pow_right (by omega) (by omega))) (tgt := 134) dX4_lookAt_127 (by decide) (fun c12 => ?_) (fun c12 => ?_)
          · have hj11 := hj11.trans (if_pos c12)
            refine lv_iconst (v := (nI 0)) hx hb dX4_lookAt_134 (by decide +kernel) ?_
            exact J11 _ hj11 ls H locs hP hD hS (lv_sub hl [0] rfl)
          · have hj11 := hj11.trans (if_neg c12)
            refine lv_iconst (v := (nI 1)) hx hb dX4_lookAt_130 (by decide +kernel) ?_
            refine lv_goto (tgt := 135) hx hb dX4_lookAt_131 (by decide) ?_
            exact J11 _ hj11 ls H locs hP hD hS (lv_sub hl [0] rfl)
      · refine wl_if_eq_b hx hb (tgt := 92) dX4_lookAt_85 (by decide) (fun c7 => ?_) (fun c7 => ?_)
        · have hj6 := hj6.trans (if_neg c7)
          refine lv_iload_n hx hb dX4_lookAt_92 rfl (lv_at hl 0 rfl) ?_
          refine wl_callPi hC (c_X4_isFigure (c := (mbytes z1)) ) lk_RX4_210 rfl ⟨rfl, rfl, Nat.le_of_ble_eq_true rfl, Nat.le_of_ble_eq_true rfl⟩ hP hS hA hl.1 rfl (Nat.le_of_ble_eq_true rfl) dX4_lookAt_93 ⟨Nat.zero_le _, Nat.zero_le _⟩ (fun z8 hz8 H locs hP hS => ?_)
          have hj6 := wl_bz hj6 hz8
          refine wl_if_eq_b hx hb (tgt := 103) dX4_lookAt_96 (by decide) (fun c9 => ?_) (fun c9 => ?_)
          · have hj6 := hj6.trans (if_neg c9)
            refine lv_iload_n hx hb dX4_lookAt_103 rfl (lv_at hl 0 rfl) ?_
            refine lv_bipush (v := (nI 59)) hx hb dX4_lookAt_104 (by decide +kernel) ?_
            refine lv_icmp_ne hx hb (tgt := 113) dX4_lookAt_106 (by decide) (fun c10 => ?_) (fun c10 => ?_)
            · have hj6 := hj6.trans (if_neg c10)
              refine lv_iconst (v := (nI 4)) hx hb dX4_lookAt_113 (by decide +kernel) ?_
              exact J6 _ hj6 ls H locs hP hD hS (lv_sub hl [1] rfl)
            · have hj6 := hj6.trans (if_pos c10)
              refine lv_iconst (v := (nI 3)) hx hb dX4_lookAt_109 (by decide +kernel) ?_
              refine lv_goto (tgt := 114) hx hb dX4_lookAt_110 (by decide) ?_
              exact J6 _ hj6 ls H locs hP hD hS (lv_sub hl [1] rfl)
          · have hj6 := hj6.trans (if_pos c9)
            refine lv_iconst (v := (nI 2)) hx hb dX4_lookAt_99 (by decide +kernel) ?_
            refine lv_goto (tgt := 114) hx hb dX4_lookAt_100 (by decide) ?_
            exact J6 _ hj6 ls H locs hP hD hS (lv_sub hl [1] rfl)
        · have hj6 := hj6.trans (if_pos c7)
          refine lv_iconst (v := (nI 1)) hx hb dX4_lookAt_88 (by decide +kernel) ?_
          refine lv_goto (tgt := 114) hx hb dX4_lookAt_89 (by decide) ?_
          exact J6 _ hj6 ls H locs hP hD hS (lv_sub hl [1] rfl)
    · have hm := hm.trans (if_pos c4)
      exact wl_vret hC hr hlk hm rfl hP hD hS dX4_lookAt_69
  · refine wl_while (D := D) (A := A) (H0 := s0.heap) (m_X4_lookAt_l5 mbytesLong mbytes) default 151 from0 5 5 (fun v1 => [(0, .ref (a 0))]) (fun v1 => (wM E a mabove mbelow mlisted mfollowing mdayThen mbytesLong v1 mtokenLong mtoken mvalue mnow mkept misKept mrefused mtempers mhis mtheirs mmanyBy mbytes manew mvalues)) (fun v1 => (v1 ≤ mbytesLong)) (fun v1 => mbytesLong - v1) (by show from0 ≤ mbytesLong; omega) (by show mbytesLong - from0 < 151; first | decide | omega) ?_ hP hD hS (lv_sub hl [0] rfl)
    intro v1 hI1 EX1 IH1 ls H locs hP hD hS hl
    have q1 := hI1
    have hb1 := m_X4_lookAt_l5.eq_1 mbytesLong mbytes v1
    refine lv_aload_n hx hb dX4_lookAt_5 rfl (lv_at hl 0 rfl) ?_
    refine g_M_0_tokenAt hC hP mw_545 dX4_lookAt_6 ?_
    refine lv_aload_n hx hb dX4_lookAt_9 rfl (lv_at hl 0 rfl) ?_
    refine g_M_0_bytesLong hC hP mw_536 dX4_lookAt_10 ?_
    refine wl_icmp_ge_n hx hb (by first | omega | exact Nat.lt_of_le_of_lt Nat.and_le_right (by omega) | exact Nat.pow_lt_pow_right (by omega) (by omega) | exact Nat.lt_trans (by assumption) (Nat.pow_lt_pow_right (by omega) (by omega))) (by first | omega | exact Nat.lt_of_le_of_lt Nat.and_le_right (by omega) | exact Nat.pow_lt_pow_right (by omega) (by omega) | exact Nat.lt_trans (by assumption) (Nat.pow_lt_pow_right (by omega) (by omega))) (tgt := 43) dX4_lookAt_13 (by decide) (fun c2 => ?_) (fun c2 => ?_)
    · have hb1 := hb1.trans (if_pos c2)
      exact J1 _ (hu1.trans (EX1 _ hb1)) (by show v1 ≤ mbytesLong; omega) ls H locs hP hD hS (lv_sub hl [0] rfl)
    · have hb1 := hb1.trans (if_neg c2)
      refine lv_aload_n hx hb dX4_lookAt_16 rfl (lv_at hl 0 rfl) ?_
      refine g_M_0_bytes hC hP mw_394 dX4_lookAt_17 ?_
      refine lv_aload_n hx hb dX4_lookAt_20 rfl (lv_at hl 0 rfl) ?_
      refine g_M_0_tokenAt hC hP mw_545 dX4_lookAt_21 ?_
      refine ld_M_9 hC hP v1 (by omega) dX4_lookAt_24 ?_
      refine lv_bipush (v := (nI 32)) hx hb dX4_lookAt_25 (by decide +kernel) ?_
      refine lv_icmp_ne hx hb (tgt := 43) dX4_lookAt_27 (by decide) (fun c3 => ?_) (fun c3 => ?_)
      · have hb1 := hb1.trans (if_neg c3)
        exact J1 _ (hu1.trans (EX1 _ hb1)) (by show v1 ≤ mbytesLong; omega) ls H locs hP hD hS (lv_sub hl [0] rfl)
      · have hb1 := hb1.trans (if_pos c3)
        refine lv_aload_n hx hb dX4_lookAt_30 rfl (lv_at hl 0 rfl) ?_
        refine lv_dup hx hb dX4_lookAt_31 rfl ?_
        refine g_M_0_tokenAt hC hP mw_545 dX4_lookAt_32 ?_
        refine lv_iconst (v := (nI 1)) hx hb dX4_lookAt_35 (by decide +kernel) ?_
        refine lv_iadd hx hb dX4_lookAt_36 ?_
        refine wl_re (show nI v1 + nI 1 = nI (v1 + 1) from nI_add v1 1) ?_
        refine p_M_0_tokenAt hC hP hD hS (v1 + 1) mw_545 dX4_lookAt_37 (fun H locs hP hD hS => ?_)
        refine lv_goto (tgt := 5) hx hb dX4_lookAt_40 (by decide) ?_
        exact IH1 _ hb1 (by show (v1 + 1) ≤ mbytesLong; omega) (by show mbytesLong - (v1 + 1) < mbytesLong - v1; omega) ls H locs hP hD hS (lv_sub hl [0] rfl)
def m_X4_goBehind (mbytesLong : Nat) (mtokenAt : Nat) (mtokenLong : Nat) (mbytes : (Nat → Int32)) : Nat × Nat × Int32 × Int32 := (wl_bnd (m_X4_lookAt mbytesLong mbytes (mtokenAt + mtokenLong)) (fun z1 => (z1.1, z1.2.1, z1.2.2.1, z1.2.2.2)))
set_option maxHeartbeats 4000000 in
set_option maxRecDepth 100000 in
theorem c_X4_goBehind {l : Launch} {D : va_G} {E : Nat → ClassId} {a : Nat → Nat} {mabove : Int64} {mbelow : Int64} {mlisted : Int32} {mfollowing : Int32} {mdayThen : Int32} {mbytesLong : Nat} {mtokenAt : Nat} {mtokenLong : Nat} {mtoken : Int32} {mvalue : Int32} {mnow : (Nat → Int32)} {mkept : (Nat → Int32)} {misKept : (Nat → Int32)} {mrefused : (Nat → Int32)} {mtempers : (Nat → Int32)} {mhis : (Nat → Int32)} {mtheirs : (Nat → Int32)} {mmanyBy : (Nat → Int32)} {mbytes : (Nat → Int32)} {manew : (Nat → Int32)} {mvalues : (Nat → Int32)}  (hBL : mbytesLong ≤ 150) (hTI : mtokenAt + mtokenLong ≤ mbytesLong) : wl_Met (τ := Nat × Nat × Int32 × Int32) l D E yX4_goBehind cX4_goBehind 1 none ({ frames := 3, cells := 0, slots := 0, locals := 69 } : Room) [.ref (a 0)] (wM E a mabove mbelow mlisted mfollowing mdayThen mbytesLong mtokenAt mtokenLong mtoken mvalue mnow mkept misKept mrefused mtempers mhis mtheirs mmanyBy mbytes manew mvalues) (fun _ => none) (fun z => (wM E a mabove mbelow mlisted mfollowing mdayThen mbytesLong z.1 z.2.1 z.2.2.1 z.2.2.2 mnow mkept misKept mrefused mtempers mhis mtheirs mmanyBy mbytes manew mvalues)) (m_X4_goBehind mbytesLong mtokenAt mtokenLong mbytes) := by
  refine wl_enter (own := RX4) (by decide +kernel) rfl (Nat.le_of_ble_eq_true rfl) ?_
  intro p0 e0 s0 m0 bl0 mt0 c0 A hC hr hlk hA H locs hP hD hS ls hl
  have hx := hC.1
  have hb := hC.2.1
  have hl : lv_has ls 1 [(0, .ref (a 0))] := hl
  have hm := m_X4_goBehind.eq_1 mbytesLong mtokenAt mtokenLong mbytes
  refine lv_aload_n hx hb dX4_goBehind_0 rfl (lv_at hl 0 rfl) ?_
  refine lv_aload_n hx hb dX4_goBehind_1 rfl (lv_at hl 0 rfl) ?_
  refine g_M_0_tokenAt hC hP mw_545 dX4_goBehind_2 ?_
  refine lv_aload_n hx hb dX4_goBehind_5 rfl (lv_at hl 0 rfl) ?_
  refine g_M_0_tokenLong hC hP mw_546 dX4_goBehind_6 ?_
  refine lv_iadd hx hb dX4_goBehind_9 ?_
  refine wl_re (show nI mtokenAt + nI mtokenLong = nI (mtokenAt + mtokenLong) from nI_add mtokenAt mtokenLong) ?_
  refine wl_callVv hC (c_X4_lookAt (from0 := (mtokenAt + mtokenLong)) (by first | assumption | omega) (by first | assumption | omega)) lk_RX4_213 rfl ⟨rfl, rfl, Nat.le_of_ble_eq_true rfl, Nat.le_of_ble_eq_true rfl⟩ hP hD hS hA 0 rfl (T1 := 21) rfl hl.1 rfl (Nat.le_of_ble_eq_true rfl) dX4_goBehind_10 ⟨Nat.zero_le _, Nat.zero_le _⟩ (fun z1 hz1 H locs hP hD hS => ?_)
  have hm := wl_bz hm hz1
  exact wl_vret hC hr hlk hm rfl hP hD hS dX4_goBehind_13
def m_X4_spells_l26 (mtokenAt : Nat) (mbytes : (Nat → Int32)) (size : Nat) (ca : Int32) (cb : Int32) (cd : Int32) (ce : Int32) (cf : Int32) (cg : Int32) (v4 : Bool × Nat) : (Bool × Nat) ⊕ (Bool) := (if size ≤ v4.2 then (Sum.inr v4.1) else (if v4.1 = true then (if v4.2 = 0 then (if (mbytes (mtokenAt + v4.2)) = ca then (Sum.inl (true, (v4.2 + 1))) else (Sum.inl (false, (v4.2 + 1)))) else (if v4.2 = 1 then (if (mbytes (mtokenAt + v4.2)) = cb then (Sum.inl (true, (v4.2 + 1))) else (Sum.inl (false, (v4.2 + 1)))) else (if v4.2 = 2 then (if (mbytes (mtokenAt + v4.2)) = cd then (Sum.inl (true, (v4.2 + 1))) else (Sum.inl (false, (v4.2 + 1)))) else (if v4.2 = 3 then (if (mbytes (mtokenAt + v4.2)) = ce then (Sum.inl (true, (v4.2 + 1))) else (Sum.inl (false, (v4.2 + 1)))) else (if v4.2 = 4 then (if (mbytes (mtokenAt + v4.2)) = cf then (Sum.inl (true, (v4.2 + 1))) else (Sum.inl (false, (v4.2 + 1)))) else (if (mbytes (mtokenAt + v4.2)) = cg then (Sum.inl (true, (v4.2 + 1))) else (Sum.inl (false, (v4.2 + 1))))))))) else (Sum.inr v4.1)))
def m_X4_spells (mtokenAt : Nat) (mtokenLong : Nat) (mtoken : Int32) (mbytes : (Nat → Int32)) (size : Nat) (ca : Int32) (cb : Int32) (cd : Int32) (ce : Int32) (cf : Int32) (cg : Int32) : Bool := (wl_bnd ((if mtoken = (nI 1) then (if mtokenLong = size then true else false) else false) : Bool) (fun z1 => (wl_bnd (wl_run (m_X4_spells_l26 mtokenAt mbytes size ca cb cd ce cf cg) default (size + 1) (z1, 0)) (fun z4 => z4))))
set_option maxHeartbeats 4000000 in
set_option maxRecDepth 100000 in
theorem c_X4_spells {l : Launch} {D : va_G} {E : Nat → ClassId} {a : Nat → Nat} {mabove : Int64} {mbelow : Int64} {mlisted : Int32} {mfollowing : Int32} {mdayThen : Int32} {mbytesLong : Nat} {mtokenAt : Nat} {mtokenLong : Nat} {mtoken : Int32} {mvalue : Int32} {mnow : (Nat → Int32)} {mkept : (Nat → Int32)} {misKept : (Nat → Int32)} {mrefused : (Nat → Int32)} {mtempers : (Nat → Int32)} {mhis : (Nat → Int32)} {mtheirs : (Nat → Int32)} {mmanyBy : (Nat → Int32)} {mbytes : (Nat → Int32)} {manew : (Nat → Int32)} {mvalues : (Nat → Int32)} {size : Nat} {ca : Int32} {cb : Int32} {cd : Int32} {ce : Int32} {cf : Int32} {cg : Int32} (hBL : mbytesLong ≤ 150) (hTI : mtokenAt + mtokenLong ≤ mbytesLong) (hz8 : size ≤ 8) : wl_Met (τ := Bool) l D E yX4_spells cX4_spells 10 (some .boolean) ({ frames := 0, cells := 0, slots := 0, locals := 0 } : Room) [.ref (a 0), .int (nI size), .int ca, .int cb, .int cd, .int ce, .int cf, .int cg] (wM E a mabove mbelow mlisted mfollowing mdayThen mbytesLong mtokenAt mtokenLong mtoken mvalue mnow mkept misKept mrefused mtempers mhis mtheirs mmanyBy mbytes manew mvalues) (fun z => some (.int (wl_b z))) (fun _ => (wM E a mabove mbelow mlisted mfollowing mdayThen mbytesLong mtokenAt mtokenLong mtoken mvalue mnow mkept misKept mrefused mtempers mhis mtheirs mmanyBy mbytes manew mvalues)) (m_X4_spells mtokenAt mtokenLong mtoken mbytes size ca cb cd ce cf cg) := by
  refine wl_enter (own := RX4) (by decide +kernel) rfl (Nat.le_of_ble_eq_true rfl) ?_
  intro p0 e0 s0 m0 bl0 mt0 c0 A hC hr hlk hA H locs hP hD hS ls hl
  have hx := hC.1
  have hb := hC.2.1
  have hl : lv_has ls 10 [(0, .ref (a 0)), (1, .int (nI size)), (2, .int ca), (3, .int cb), (4, .int cd), (5, .int ce), (6, .int cf), (7, .int cg)] := hl
  have hm := m_X4_spells.eq_1 mtokenAt mtokenLong mtoken mbytes size ca cb cd ce cf cg
  refine lv_aload_n hx hb dX4_spells_0 rfl (lv_at hl 0 rfl) ?_
  refine g_M_0_token hC hP mw_547 dX4_spells_1 ?_
  refine lv_iconst (v := (nI 1)) hx hb dX4_spells_4 (by decide +kernel) ?_
  obtain ⟨u1, hj1, hk1⟩ := wl_bx hm
  refine wl_J u1 21 (fun z1 => [.int (wl_b z1)]) 10 (fun z1 => [(0, .ref (a 0)), (1, .int (nI size)), (2, .int ca), (3, .int cb), (4, .int cd), (5, .int ce), (6, .int cf), (7, .int cg)]) D A s0.heap (fun z1 => (wM E a mabove mbelow mlisted mfollowing mdayThen mbytesLong mtokenAt mtokenLong mtoken mvalue mnow mkept misKept mrefused mtempers mhis mtheirs mmanyBy mbytes manew mvalues)) (fun z1 hz1 ls H locs hP hD hS hl => ?_) (fun J1 => ?_)
  · have hm := hk1 z1 hz1
    have hs8 : z1 = true → mtokenLong = size := by
      intro h_
      rw [← hz1, hj1] at h_
      by_cases g1 : mtoken = nI 1
      · rw [if_pos g1] at h_
        by_cases g2 : mtokenLong = size
        · exact g2
        · rw [if_neg g2] at h_; exact absurd h_ (by decide)
      · rw [if_neg g1] at h_; exact absurd h_ (by decide)
    refine lv_istore (lv' := [(8, .int (wl_b z1)), (0, .ref (a 0)), (1, .int (nI size)), (2, .int ca), (3, .int cb), (4, .int cd), (5, .int ce), (6, .int cf), (7, .int cg)]) hx hb dX4_spells_21 hl (by decide) rfl (fun ls hl => ?_)
    refine lv_iconst (v := (nI 0)) hx hb dX4_spells_23 (by decide +kernel) ?_
    refine lv_istore (lv' := [(9, .int (nI 0)), (8, .int (wl_b z1)), (0, .ref (a 0)), (1, .int (nI size)), (2, .int ca), (3, .int cb), (4, .int cd), (5, .int ce), (6, .int cf), (7, .int cg)]) hx hb dX4_spells_24 hl (by decide) rfl (fun ls hl => ?_)
    obtain ⟨u4, hu4, hk4⟩ := wl_bx hm
    refine wl_J u4 119 (fun _ => []) 10 (fun z4 => [(8, .int (wl_b z4))]) D A s0.heap (fun z4 => (wM E a mabove mbelow mlisted mfollowing mdayThen mbytesLong mtokenAt mtokenLong mtoken mvalue mnow mkept misKept mrefused mtempers mhis mtheirs mmanyBy mbytes manew mvalues)) (fun z4 hz4 ls H locs hP hD hS hl => ?_) (fun J4 => ?_)
    · have hm := hk4 z4 hz4
      refine lv_iload hx hb dX4_spells_119 (lv_at hl 0 rfl) ?_
      exact wl_zret (v := z4) hC hr hlk hm rfl hP hD hS dX4_spells_121
    · refine wl_while (D := D) (A := A) (H0 := s0.heap) (m_X4_spells_l26 mtokenAt mbytes size ca cb cd ce cf cg) default (size + 1) (z1, 0) 26 10 (fun v4 => [(0, .ref (a 0)), (1, .int (nI size)), (2, .int ca), (3, .int cb), (4, .int cd), (5, .int ce), (6, .int cf), (7, .int cg), (8, .int (wl_b v4.1)), (9, .int (nI v4.2))]) (fun v4 => (wM E a mabove mbelow mlisted mfollowing mdayThen mbytesLong mtokenAt mtokenLong mtoken mvalue mnow mkept misKept mrefused mtempers mhis mtheirs mmanyBy mbytes manew mvalues)) (fun v4 => (v4.2 ≤ size) ∧ (v4.1 = true → mtokenLong = size)) (fun v4 => size - v4.2) ⟨(by show 0 ≤ size; omega), (by show z1 = true → mtokenLong = size; exact hs8)⟩ (by show size - 0 < (size + 1); first | decide | omega) ?_ hP hD hS (lv_sub hl [2, 3, 4, 5, 6, 7, 8, 9, 1, 0] rfl)
      intro v4 hI4 EX4 IH4 ls H locs hP hD hS hl
      obtain ⟨q1, q2⟩ := hI4
      have hb4 := m_X4_spells_l26.eq_1 mtokenAt mbytes size ca cb cd ce cf cg v4
      refine lv_iload hx hb dX4_spells_26 (lv_at hl 9 rfl) ?_
      refine lv_iload_n hx hb dX4_spells_28 rfl (lv_at hl 1 rfl) ?_
      refine wl_icmp_ge_n hx hb (by first | omega | exact Nat.lt_of_le_of_lt Nat.and_le_right (by omega) | exact Nat.pow_lt_pow_right (by omega) (by omega) | exact Nat.lt_trans (by assumption) (Nat.pow_lt_pow_right (by omega) (by omega))) (by first | omega | exact Nat.lt_of_le_of_lt Nat.and_le_right (by omega) | exact Nat.pow_lt_pow_right (by omega) (by omega) | exact Nat.lt_trans (by assumption) (Nat.pow_lt_pow_right (by omega) (by omega))) (tgt := 119) dX4_spells_29 (by decide) (fun c5 => ?_) (fun c5 => ?_)
      · have hb4 := hb4.trans (if_pos c5)
        exact J4 _ (hu4.trans (EX4 _ hb4)) ls H locs hP hD hS (lv_sub hl [8] rfl)
      · have hb4 := hb4.trans (if_neg c5)
        refine lv_iload hx hb dX4_spells_32 (lv_at hl 8 rfl) ?_
        refine wl_if_eq_b hx hb (tgt := 119) dX4_spells_34 (by decide) (fun c6 => ?_) (fun c6 => ?_)
        · have hb4 := hb4.trans (if_neg c6)
          exact J4 _ (hu4.trans (EX4 _ hb4)) ls H locs hP hD hS (lv_sub hl [8] rfl)
        · have hb4 := hb4.trans (if_pos c6)
          refine lv_aload_n hx hb dX4_spells_37 rfl (lv_at hl 0 rfl) ?_
          refine g_M_0_bytes hC hP mw_394 dX4_spells_38 ?_
          refine lv_aload_n hx hb dX4_spells_41 rfl (lv_at hl 0 rfl) ?_
          refine g_M_0_tokenAt hC hP mw_545 dX4_spells_42 ?_
          refine lv_iload hx hb dX4_spells_45 (lv_at hl 9 rfl) ?_
          refine lv_iadd hx hb dX4_spells_47 ?_
          refine wl_re (show nI mtokenAt + nI v4.2 = nI (mtokenAt + v4.2) from nI_add mtokenAt v4.2) ?_
          refine ld_M_9 hC hP (mtokenAt + v4.2) (by have h_ := q2 (by assumption); omega) dX4_spells_48 ?_
          refine lv_iload hx hb dX4_spells_49 (lv_at hl 9 rfl) ?_
          refine wl_if_ne_n hx hb (by first | omega | exact Nat.lt_of_le_of_lt Nat.and_le_right (by omega) | exact Nat.pow_lt_pow_right (by omega) (by omega) | exact Nat.lt_trans (by assumption) (Nat.pow_lt_pow_right (by omega) (by omega))) (tgt := 58) dX4_spells_51 (by decide) (fun c7 => ?_) (fun c7 => ?_)
          · have hb4 := hb4.trans (if_neg c7)
            refine lv_iload hx hb dX4_spells_58 (lv_at hl 9 rfl) ?_
            refine lv_iconst (v := (nI 1)) hx hb dX4_spells_60 (by decide +kernel) ?_
            refine wl_icmp_ne_n hx hb (by first | omega | exact Nat.lt_of_le_of_lt Nat.and_le_right (by omega) | exact Nat.pow_lt_pow_right (by omega) (by omega) | exact Nat.lt_trans (by assumption) (Nat.pow_lt_pow_right (by omega) (by omega))) (by first | omega | exact Nat.lt_of_le_of_lt Nat.and_le_right (by omega) | exact Nat.pow_lt_pow_right (by omega) (by omega) | exact Nat.lt_trans (by assumption) (Nat.pow_lt_pow_right (by omega) (by omega))) (tgt := 68) dX4_spells_61 (by decide) (fun c8 => ?_) (fun c8 => ?_)
            · have hb4 := hb4.trans (if_neg c8)
              refine lv_iload hx hb dX4_spells_68 (lv_at hl 9 rfl) ?_
              refine lv_iconst (v := (nI 2)) hx hb dX4_spells_70 (by decide +kernel) ?_
              refine wl_icmp_ne_n hx hb (by first | omega | exact Nat.lt_of_le_of_lt Nat.and_le_right (by omega) | exact Nat.pow_lt_pow_right (by omega) (by omega) | exact Nat.lt_trans (by assumption) (Nat.pow_lt_pow_right (by omega) (by omega))) (by first | omega | exact Nat.lt_of_le_of_lt Nat.and_le_right (by omega) | exact Nat.pow_lt_pow_right (by omega) (by omega) | exact Nat.lt_trans (by assumption) (Nat.pow_lt_pow_right (by omega) (by omega))) (tgt := 79) dX4_spells_71 (by decide) (fun c9 => ?_) (fun c9 => ?_)
              · have hb4 := hb4.trans (if_neg c9)
                refine lv_iload hx hb dX4_spells_79 (lv_at hl 9 rfl) ?_
                refine lv_iconst (v := (nI 3)) hx hb dX4_spells_81 (by decide +kernel) ?_
                refine wl_icmp_ne_n hx hb (by first | omega | exact Nat.lt_of_le_of_lt Nat.and_le_right (by omega) | exact Nat.pow_lt_pow_right (by omega) (by omega) | exact Nat.lt_trans (by assumption) (Nat.pow_lt_pow_right (by omega) (by omega))) (by first | omega | exact Nat.lt_of_le_of_lt Nat.and_le_right (by omega) | exact Nat.pow_lt_pow_right (by omega) (by omega) | exact Nat.lt_trans (by assumption) (Nat.pow_lt_pow_right (by omega) (by omega))) (tgt := 90) dX4_spells_82 (by decide) (fun c10 => ?_) (fun c10 => ?_)
                · have hb4 := hb4.trans (if_neg c10)
                  refine lv_iload hx hb dX4_spells_90 (lv_at hl 9 rfl) ?_
                  refine lv_iconst (v := (nI 4)) hx hb dX4_spells_92 (by decide +kernel) ?_
                  refine wl_icmp_ne_n hx hb (by first | omega | exact Nat.lt_of_le_of_lt Nat.and_le_right (by omega) | exact Nat.pow_lt_pow_right (by omega) (by omega) | exact Nat.lt_trans (by assumption) (Nat.pow_lt_pow_right (by omega) (by omega))) (by first | omega | exact Nat.lt_of_le_of_lt Nat.and_le_right (by omega) | exact Nat.pow_lt_pow_right (by omega) (by omega) | exact Nat.lt_trans (by assumption) (Nat.pow_lt_pow_right (by omega) (by omega))) (tgt := 101) dX4_spells_93 (by decide) (fun c11 => ?_) (fun c11 => ?_)
                  · have hb4 := hb4.trans (if_neg c11)
                    refine lv_iload hx hb dX4_spells_101 (lv_at hl 7 rfl) ?_
                    refine lv_icmp_ne hx hb (tgt := 110) dX4_spells_103 (by decide) (fun c12 => ?_) (fun c12 => ?_)
                    · have hb4 := hb4.trans (if_neg c12)
                      refine lv_iconst (v := (nI 0)) hx hb dX4_spells_110 (by decide +kernel) ?_
                      refine lv_istore (lv' := [(8, .int (nI 0)), (0, .ref (a 0)), (1, .int (nI size)), (2, .int ca), (3, .int cb), (4, .int cd), (5, .int ce), (6, .int cf), (7, .int cg), (9, .int (nI v4.2))]) hx hb dX4_spells_111 hl (by decide) rfl (fun ls hl => ?_)
                      refine lv_iinc (v := (nI (v4.2 + 1))) (lv' := [(9, .int (nI (v4.2 + 1))), (8, .int (nI 0)), (0, .ref (a 0)), (1, .int (nI size)), (2, .int ca), (3, .int cb), (4, .int cd), (5, .int ce), (6, .int cf), (7, .int cg)]) hx hb dX4_spells_113 hl (k := 9) rfl (wl_inc v4.2 1) (by decide) rfl (fun ls hl => ?_)
                      refine lv_goto (tgt := 26) hx hb dX4_spells_116 (by decide) ?_
                      exact IH4 _ hb4 ⟨(by show (v4.2 + 1) ≤ size; omega), (by show false = true → mtokenLong = size; exact (fun _ => q2 (by assumption)))⟩ (by show size - (v4.2 + 1) < size - v4.2; omega) ls H locs hP hD hS (lv_sub hl [2, 3, 4, 5, 6, 7, 8, 9, 1, 0] rfl)
                    · have hb4 := hb4.trans (if_pos c12)
                      refine lv_iconst (v := (nI 1)) hx hb dX4_spells_106 (by decide +kernel) ?_
                      refine lv_goto (tgt := 111) hx hb dX4_spells_107 (by decide) ?_
                      refine lv_istore (lv' := [(8, .int (nI 1)), (0, .ref (a 0)), (1, .int (nI size)), (2, .int ca), (3, .int cb), (4, .int cd), (5, .int ce), (6, .int cf), (7, .int cg), (9, .int (nI v4.2))]) hx hb dX4_spells_111 hl (by decide) rfl (fun ls hl => ?_)
                      refine lv_iinc (v := (nI (v4.2 + 1))) (lv' := [(9, .int (nI (v4.2 + 1))), (8, .int (nI 1)), (0, .ref (a 0)), (1, .int (nI size)), (2, .int ca), (3, .int cb), (4, .int cd), (5, .int ce), (6, .int cf), (7, .int cg)]) hx hb dX4_spells_113 hl (k := 9) rfl (wl_inc v4.2 1) (by decide) rfl (fun ls hl => ?_)
                      refine lv_goto (tgt := 26) hx hb dX4_spells_116 (by decide) ?_
                      exact IH4 _ hb4 ⟨(by show (v4.2 + 1) ≤ size; omega), (by show true = true → mtokenLong = size; exact (fun _ => q2 (by assumption)))⟩ (by show size - (v4.2 + 1) < size - v4.2; omega) ls H locs hP hD hS (lv_sub hl [2, 3, 4, 5, 6, 7, 8, 9, 1, 0] rfl)
                  · have hb4 := hb4.trans (if_pos c11)
                    refine lv_iload hx hb dX4_spells_96 (lv_at hl 6 rfl) ?_
                    refine lv_goto (tgt := 103) hx hb dX4_spells_98 (by decide) ?_
                    refine lv_icmp_ne hx hb (tgt := 110) dX4_spells_103 (by decide) (fun c13 => ?_) (fun c13 => ?_)
                    · have hb4 := hb4.trans (if_neg c13)
                      refine lv_iconst (v := (nI 0)) hx hb dX4_spells_110 (by decide +kernel) ?_
                      refine lv_istore (lv' := [(8, .int (nI 0)), (0, .ref (a 0)), (1, .int (nI size)), (2, .int ca), (3, .int cb), (4, .int cd), (5, .int ce), (6, .int cf), (7, .int cg), (9, .int (nI v4.2))]) hx hb dX4_spells_111 hl (by decide) rfl (fun ls hl => ?_)
                      refine lv_iinc (v := (nI (v4.2 + 1))) (lv' := [(9, .int (nI (v4.2 + 1))), (8, .int (nI 0)), (0, .ref (a 0)), (1, .int (nI size)), (2, .int ca), (3, .int cb), (4, .int cd), (5, .int ce), (6, .int cf), (7, .int cg)]) hx hb dX4_spells_113 hl (k := 9) rfl (wl_inc v4.2 1) (by decide) rfl (fun ls hl => ?_)
                      refine lv_goto (tgt := 26) hx hb dX4_spells_116 (by decide) ?_
                      exact IH4 _ hb4 ⟨(by show (v4.2 + 1) ≤ size; omega), (by show false = true → mtokenLong = size; exact (fun _ => q2 (by assumption)))⟩ (by show size - (v4.2 + 1) < size - v4.2; omega) ls H locs hP hD hS (lv_sub hl [2, 3, 4, 5, 6, 7, 8, 9, 1, 0] rfl)
                    · have hb4 := hb4.trans (if_pos c13)
                      refine lv_iconst (v := (nI 1)) hx hb dX4_spells_106 (by decide +kernel) ?_
                      refine lv_goto (tgt := 111) hx hb dX4_spells_107 (by decide) ?_
                      refine lv_istore (lv' := [(8, .int (nI 1)), (0, .ref (a 0)), (1, .int (nI size)), (2, .int ca), (3, .int cb), (4, .int cd), (5, .int ce), (6, .int cf), (7, .int cg), (9, .int (nI v4.2))]) hx hb dX4_spells_111 hl (by decide) rfl (fun ls hl => ?_)
                      refine lv_iinc (v := (nI (v4.2 + 1))) (lv' := [(9, .int (nI (v4.2 + 1))), (8, .int (nI 1)), (0, .ref (a 0)), (1, .int (nI size)), (2, .int ca), (3, .int cb), (4, .int cd), (5, .int ce), (6, .int cf), (7, .int cg)]) hx hb dX4_spells_113 hl (k := 9) rfl (wl_inc v4.2 1) (by decide) rfl (fun ls hl => ?_)
                      refine lv_goto (tgt := 26) hx hb dX4_spells_116 (by decide) ?_
                      exact IH4 _ hb4 ⟨(by show (v4.2 + 1) ≤ size; omega), (by show true = true → mtokenLong = size; exact (fun _ => q2 (by assumption)))⟩ (by show size - (v4.2 + 1) < size - v4.2; omega) ls H locs hP hD hS (lv_sub hl [2, 3, 4, 5, 6, 7, 8, 9, 1, 0] rfl)
                · have hb4 := hb4.trans (if_pos c10)
                  refine lv_iload hx hb dX4_spells_85 (lv_at hl 5 rfl) ?_
                  refine lv_goto (tgt := 103) hx hb dX4_spells_87 (by decide) ?_
                  refine lv_icmp_ne hx hb (tgt := 110) dX4_spells_103 (by decide) (fun c14 => ?_) (fun c14 => ?_)
                  · have hb4 := hb4.trans (if_neg c14)
                    refine lv_iconst (v := (nI 0)) hx hb dX4_spells_110 (by decide +kernel) ?_
                    refine lv_istore (lv' := [(8, .int (nI 0)), (0, .ref (a 0)), (1, .int (nI size)), (2, .int ca), (3, .int cb), (4, .int cd), (5, .int ce), (6, .int cf), (7, .int cg), (9, .int (nI v4.2))]) hx hb dX4_spells_111 hl (by decide) rfl (fun ls hl => ?_)
                    refine lv_iinc (v := (nI (v4.2 + 1))) (lv' := [(9, .int (nI (v4.2 + 1))), (8, .int (nI 0)), (0, .ref (a 0)), (1, .int (nI size)), (2, .int ca), (3, .int cb), (4, .int cd), (5, .int ce), (6, .int cf), (7, .int cg)]) hx hb dX4_spells_113 hl (k := 9) rfl (wl_inc v4.2 1) (by decide) rfl (fun ls hl => ?_)
                    refine lv_goto (tgt := 26) hx hb dX4_spells_116 (by decide) ?_
                    exact IH4 _ hb4 ⟨(by show (v4.2 + 1) ≤ size; omega), (by show false = true → mtokenLong = size; exact (fun _ => q2 (by assumption)))⟩ (by show size - (v4.2 + 1) < size - v4.2; omega) ls H locs hP hD hS (lv_sub hl [2, 3, 4, 5, 6, 7, 8, 9, 1, 0] rfl)
                  · have hb4 := hb4.trans (if_pos c14)
                    refine lv_iconst (v := (nI 1)) hx hb dX4_spells_106 (by decide +kernel) ?_
                    refine lv_goto (tgt := 111) hx hb dX4_spells_107 (by decide) ?_
                    refine lv_istore (lv' := [(8, .int (nI 1)), (0, .ref (a 0)), (1, .int (nI size)), (2, .int ca), (3, .int cb), (4, .int cd), (5, .int ce), (6, .int cf), (7, .int cg), (9, .int (nI v4.2))]) hx hb dX4_spells_111 hl (by decide) rfl (fun ls hl => ?_)
                    refine lv_iinc (v := (nI (v4.2 + 1))) (lv' := [(9, .int (nI (v4.2 + 1))), (8, .int (nI 1)), (0, .ref (a 0)), (1, .int (nI size)), (2, .int ca), (3, .int cb), (4, .int cd), (5, .int ce), (6, .int cf), (7, .int cg)]) hx hb dX4_spells_113 hl (k := 9) rfl (wl_inc v4.2 1) (by decide) rfl (fun ls hl => ?_)
                    refine lv_goto (tgt := 26) hx hb dX4_spells_116 (by decide) ?_
                    exact IH4 _ hb4 ⟨(by show (v4.2 + 1) ≤ size; omega), (by show true = true → mtokenLong = size; exact (fun _ => q2 (by assumption)))⟩ (by show size - (v4.2 + 1) < size - v4.2; omega) ls H locs hP hD hS (lv_sub hl [2, 3, 4, 5, 6, 7, 8, 9, 1, 0] rfl)
              · have hb4 := hb4.trans (if_pos c9)
                refine lv_iload hx hb dX4_spells_74 (lv_at hl 4 rfl) ?_
                refine lv_goto (tgt := 103) hx hb dX4_spells_76 (by decide) ?_
                refine lv_icmp_ne hx hb (tgt := 110) dX4_spells_103 (by decide) (fun c15 => ?_) (fun c15 => ?_)
                · have hb4 := hb4.trans (if_neg c15)
                  refine lv_iconst (v := (nI 0)) hx hb dX4_spells_110 (by decide +kernel) ?_
                  refine lv_istore (lv' := [(8, .int (nI 0)), (0, .ref (a 0)), (1, .int (nI size)), (2, .int ca), (3, .int cb), (4, .int cd), (5, .int ce), (6, .int cf), (7, .int cg), (9, .int (nI v4.2))]) hx hb dX4_spells_111 hl (by decide) rfl (fun ls hl => ?_)
                  refine lv_iinc (v := (nI (v4.2 + 1))) (lv' := [(9, .int (nI (v4.2 + 1))), (8, .int (nI 0)), (0, .ref (a 0)), (1, .int (nI size)), (2, .int ca), (3, .int cb), (4, .int cd), (5, .int ce), (6, .int cf), (7, .int cg)]) hx hb dX4_spells_113 hl (k := 9) rfl (wl_inc v4.2 1) (by decide) rfl (fun ls hl => ?_)
                  refine lv_goto (tgt := 26) hx hb dX4_spells_116 (by decide) ?_
                  exact IH4 _ hb4 ⟨(by show (v4.2 + 1) ≤ size; omega), (by show false = true → mtokenLong = size; exact (fun _ => q2 (by assumption)))⟩ (by show size - (v4.2 + 1) < size - v4.2; omega) ls H locs hP hD hS (lv_sub hl [2, 3, 4, 5, 6, 7, 8, 9, 1, 0] rfl)
                · have hb4 := hb4.trans (if_pos c15)
                  refine lv_iconst (v := (nI 1)) hx hb dX4_spells_106 (by decide +kernel) ?_
                  refine lv_goto (tgt := 111) hx hb dX4_spells_107 (by decide) ?_
                  refine lv_istore (lv' := [(8, .int (nI 1)), (0, .ref (a 0)), (1, .int (nI size)), (2, .int ca), (3, .int cb), (4, .int cd), (5, .int ce), (6, .int cf), (7, .int cg), (9, .int (nI v4.2))]) hx hb dX4_spells_111 hl (by decide) rfl (fun ls hl => ?_)
                  refine lv_iinc (v := (nI (v4.2 + 1))) (lv' := [(9, .int (nI (v4.2 + 1))), (8, .int (nI 1)), (0, .ref (a 0)), (1, .int (nI size)), (2, .int ca), (3, .int cb), (4, .int cd), (5, .int ce), (6, .int cf), (7, .int cg)]) hx hb dX4_spells_113 hl (k := 9) rfl (wl_inc v4.2 1) (by decide) rfl (fun ls hl => ?_)
                  refine lv_goto (tgt := 26) hx hb dX4_spells_116 (by decide) ?_
                  exact IH4 _ hb4 ⟨(by show (v4.2 + 1) ≤ size; omega), (by show true = true → mtokenLong = size; exact (fun _ => q2 (by assumption)))⟩ (by show size - (v4.2 + 1) < size - v4.2; omega) ls H locs hP hD hS (lv_sub hl [2, 3, 4, 5, 6, 7, 8, 9, 1, 0] rfl)
            · have hb4 := hb4.trans (if_pos c8)
              refine lv_iload_n hx hb dX4_spells_64 rfl (lv_at hl 3 rfl) ?_
              refine lv_goto (tgt := 103) hx hb dX4_spells_65 (by decide) ?_
              refine lv_icmp_ne hx hb (tgt := 110) dX4_spells_103 (by decide) (fun c16 => ?_) (fun c16 => ?_)
              · have hb4 := hb4.trans (if_neg c16)
                refine lv_iconst (v := (nI 0)) hx hb dX4_spells_110 (by decide +kernel) ?_
                refine lv_istore (lv' := [(8, .int (nI 0)), (0, .ref (a 0)), (1, .int (nI size)), (2, .int ca), (3, .int cb), (4, .int cd), (5, .int ce), (6, .int cf), (7, .int cg), (9, .int (nI v4.2))]) hx hb dX4_spells_111 hl (by decide) rfl (fun ls hl => ?_)
                refine lv_iinc (v := (nI (v4.2 + 1))) (lv' := [(9, .int (nI (v4.2 + 1))), (8, .int (nI 0)), (0, .ref (a 0)), (1, .int (nI size)), (2, .int ca), (3, .int cb), (4, .int cd), (5, .int ce), (6, .int cf), (7, .int cg)]) hx hb dX4_spells_113 hl (k := 9) rfl (wl_inc v4.2 1) (by decide) rfl (fun ls hl => ?_)
                refine lv_goto (tgt := 26) hx hb dX4_spells_116 (by decide) ?_
                exact IH4 _ hb4 ⟨(by show (v4.2 + 1) ≤ size; omega), (by show false = true → mtokenLong = size; exact (fun _ => q2 (by assumption)))⟩ (by show size - (v4.2 + 1) < size - v4.2; omega) ls H locs hP hD hS (lv_sub hl [2, 3, 4, 5, 6, 7, 8, 9, 1, 0] rfl)
              · have hb4 := hb4.trans (if_pos c16)
                refine lv_iconst (v := (nI 1)) hx hb dX4_spells_106 (by decide +kernel) ?_
                refine lv_goto (tgt := 111) hx hb dX4_spells_107 (by decide) ?_
                refine lv_istore (lv' := [(8, .int (nI 1)), (0, .ref (a 0)), (1, .int (nI size)), (2, .int ca), (3, .int cb), (4, .int cd), (5, .int ce), (6, .int cf), (7, .int cg), (9, .int (nI v4.2))]) hx hb dX4_spells_111 hl (by decide) rfl (fun ls hl => ?_)
                refine lv_iinc (v := (nI (v4.2 + 1))) (lv' := [(9, .int (nI (v4.2 + 1))), (8, .int (nI 1)), (0, .ref (a 0)), (1, .int (nI size)), (2, .int ca), (3, .int cb), (4, .int cd), (5, .int ce), (6, .int cf), (7, .int cg)]) hx hb dX4_spells_113 hl (k := 9) rfl (wl_inc v4.2 1) (by decide) rfl (fun ls hl => ?_)
                refine lv_goto (tgt := 26) hx hb dX4_spells_116 (by decide) ?_
                exact IH4 _ hb4 ⟨(by show (v4.2 + 1) ≤ size; omega), (by show true = true → mtokenLong = size; exact (fun _ => q2 (by assumption)))⟩ (by show size - (v4.2 + 1) < size - v4.2; omega) ls H locs hP hD hS (lv_sub hl [2, 3, 4, 5, 6, 7, 8, 9, 1, 0] rfl)
          · have hb4 := hb4.trans (if_pos c7)
            refine lv_iload_n hx hb dX4_spells_54 rfl (lv_at hl 2 rfl) ?_
            refine lv_goto (tgt := 103) hx hb dX4_spells_55 (by decide) ?_
            refine lv_icmp_ne hx hb (tgt := 110) dX4_spells_103 (by decide) (fun c17 => ?_) (fun c17 => ?_)
            · have hb4 := hb4.trans (if_neg c17)
              refine lv_iconst (v := (nI 0)) hx hb dX4_spells_110 (by decide +kernel) ?_
              refine lv_istore (lv' := [(8, .int (nI 0)), (0, .ref (a 0)), (1, .int (nI size)), (2, .int ca), (3, .int cb), (4, .int cd), (5, .int ce), (6, .int cf), (7, .int cg), (9, .int (nI v4.2))]) hx hb dX4_spells_111 hl (by decide) rfl (fun ls hl => ?_)
              refine lv_iinc (v := (nI (v4.2 + 1))) (lv' := [(9, .int (nI (v4.2 + 1))), (8, .int (nI 0)), (0, .ref (a 0)), (1, .int (nI size)), (2, .int ca), (3, .int cb), (4, .int cd), (5, .int ce), (6, .int cf), (7, .int cg)]) hx hb dX4_spells_113 hl (k := 9) rfl (wl_inc v4.2 1) (by decide) rfl (fun ls hl => ?_)
              refine lv_goto (tgt := 26) hx hb dX4_spells_116 (by decide) ?_
              exact IH4 _ hb4 ⟨(by show (v4.2 + 1) ≤ size; omega), (by show false = true → mtokenLong = size; exact (fun _ => q2 (by assumption)))⟩ (by show size - (v4.2 + 1) < size - v4.2; omega) ls H locs hP hD hS (lv_sub hl [2, 3, 4, 5, 6, 7, 8, 9, 1, 0] rfl)
            · have hb4 := hb4.trans (if_pos c17)
              refine lv_iconst (v := (nI 1)) hx hb dX4_spells_106 (by decide +kernel) ?_
              refine lv_goto (tgt := 111) hx hb dX4_spells_107 (by decide) ?_
              refine lv_istore (lv' := [(8, .int (nI 1)), (0, .ref (a 0)), (1, .int (nI size)), (2, .int ca), (3, .int cb), (4, .int cd), (5, .int ce), (6, .int cf), (7, .int cg), (9, .int (nI v4.2))]) hx hb dX4_spells_111 hl (by decide) rfl (fun ls hl => ?_)
              refine lv_iinc (v := (nI (v4.2 + 1))) (lv' := [(9, .int (nI (v4.2 + 1))), (8, .int (nI 1)), (0, .ref (a 0)), (1, .int (nI size)), (2, .int ca), (3, .int cb), (4, .int cd), (5, .int ce), (6, .int cf), (7, .int cg)]) hx hb dX4_spells_113 hl (k := 9) rfl (wl_inc v4.2 1) (by decide) rfl (fun ls hl => ?_)
              refine lv_goto (tgt := 26) hx hb dX4_spells_116 (by decide) ?_
              exact IH4 _ hb4 ⟨(by show (v4.2 + 1) ≤ size; omega), (by show true = true → mtokenLong = size; exact (fun _ => q2 (by assumption)))⟩ (by show size - (v4.2 + 1) < size - v4.2; omega) ls H locs hP hD hS (lv_sub hl [2, 3, 4, 5, 6, 7, 8, 9, 1, 0] rfl)
  · refine lv_icmp_ne hx hb (tgt := 20) dX4_spells_5 (by decide) (fun c2 => ?_) (fun c2 => ?_)
    · have hj1 := hj1.trans (if_neg c2)
      refine lv_iconst (v := (nI 0)) hx hb dX4_spells_20 (by decide +kernel) ?_
      exact J1 _ hj1 ls H locs hP hD hS (lv_sub hl [0, 1, 2, 3, 4, 5, 6, 7] rfl)
    · have hj1 := hj1.trans (if_pos c2)
      refine lv_aload_n hx hb dX4_spells_8 rfl (lv_at hl 0 rfl) ?_
      refine g_M_0_tokenLong hC hP mw_546 dX4_spells_9 ?_
      refine lv_iload_n hx hb dX4_spells_12 rfl (lv_at hl 1 rfl) ?_
      refine wl_icmp_ne_n hx hb (by first | omega | exact Nat.lt_of_le_of_lt Nat.and_le_right (by omega) | exact Nat.pow_lt_pow_right (by omega) (by omega) | exact Nat.lt_trans (by assumption) (Nat.pow_lt_pow_right (by omega) (by omega))) (by first | omega | exact Nat.lt_of_le_of_lt Nat.and_le_right (by omega) | exact Nat.pow_lt_pow_right (by omega) (by omega) | exact Nat.lt_trans (by assumption) (Nat.pow_lt_pow_right (by omega) (by omega))) (tgt := 20) dX4_spells_13 (by decide) (fun c3 => ?_) (fun c3 => ?_)
      · have hj1 := hj1.trans (if_neg c3)
        refine lv_iconst (v := (nI 0)) hx hb dX4_spells_20 (by decide +kernel) ?_
        exact J1 _ hj1 ls H locs hP hD hS (lv_sub hl [0, 1, 2, 3, 4, 5, 6, 7] rfl)
      · have hj1 := hj1.trans (if_pos c3)
        refine lv_iconst (v := (nI 1)) hx hb dX4_spells_16 (by decide +kernel) ?_
        refine lv_goto (tgt := 21) hx hb dX4_spells_17 (by decide) ?_
        exact J1 _ hj1 ls H locs hP hD hS (lv_sub hl [0, 1, 2, 3, 4, 5, 6, 7] rfl)
def m_X4_takes (mbytesLong : Nat) (mtokenAt : Nat) (mtokenLong : Nat) (mtoken : Int32) (mvalue : Int32) (mbytes : (Nat → Int32)) (mvalues : (Nat → Int32)) (k : Nat) (low : Int32) (high : Int32) : Bool × Nat × Nat × Int32 × Int32 × (Nat → Int32) := (if mtoken = (nI 2) then (wl_bnd (m_X4_in mvalue.toInt64 low.toInt64 high.toInt64) (fun z2 => (if z2 = true then (wl_bnd (m_X4_goBehind mbytesLong mtokenAt mtokenLong mbytes) (fun z4 => (true, z4.1, z4.2.1, z4.2.2.1, z4.2.2.2, (upd mvalues k mvalue)))) else (false, mtokenAt, mtokenLong, mtoken, mvalue, mvalues)))) else (false, mtokenAt, mtokenLong, mtoken, mvalue, mvalues))
set_option maxHeartbeats 4000000 in
set_option maxRecDepth 100000 in
theorem c_X4_takes {l : Launch} {D : va_G} {E : Nat → ClassId} {a : Nat → Nat} {mabove : Int64} {mbelow : Int64} {mlisted : Int32} {mfollowing : Int32} {mdayThen : Int32} {mbytesLong : Nat} {mtokenAt : Nat} {mtokenLong : Nat} {mtoken : Int32} {mvalue : Int32} {mnow : (Nat → Int32)} {mkept : (Nat → Int32)} {misKept : (Nat → Int32)} {mrefused : (Nat → Int32)} {mtempers : (Nat → Int32)} {mhis : (Nat → Int32)} {mtheirs : (Nat → Int32)} {mmanyBy : (Nat → Int32)} {mbytes : (Nat → Int32)} {manew : (Nat → Int32)} {mvalues : (Nat → Int32)} {k : Nat} {low : Int32} {high : Int32} (hBL : mbytesLong ≤ 150) (hTI : mtokenAt + mtokenLong ≤ mbytesLong) (hk2 : k < 2) : wl_Met (τ := Bool × Nat × Nat × Int32 × Int32 × (Nat → Int32)) l D E yX4_takes cX4_takes 4 (some .boolean) ({ frames := 4, cells := 0, slots := 0, locals := 89 } : Room) [.ref (a 0), .int (nI k), .int low, .int high] (wM E a mabove mbelow mlisted mfollowing mdayThen mbytesLong mtokenAt mtokenLong mtoken mvalue mnow mkept misKept mrefused mtempers mhis mtheirs mmanyBy mbytes manew mvalues) (fun z => some (.int (wl_b z.1))) (fun z => (wM E a mabove mbelow mlisted mfollowing mdayThen mbytesLong z.2.1 z.2.2.1 z.2.2.2.1 z.2.2.2.2.1 mnow mkept misKept mrefused mtempers mhis mtheirs mmanyBy mbytes manew z.2.2.2.2.2)) (m_X4_takes mbytesLong mtokenAt mtokenLong mtoken mvalue mbytes mvalues k low high) := by
  refine wl_enter (own := RX4) (by decide +kernel) rfl (Nat.le_of_ble_eq_true rfl) ?_
  intro p0 e0 s0 m0 bl0 mt0 c0 A hC hr hlk hA H locs hP hD hS ls hl
  have hx := hC.1
  have hb := hC.2.1
  have hl : lv_has ls 4 [(0, .ref (a 0)), (1, .int (nI k)), (2, .int low), (3, .int high)] := hl
  have hm := m_X4_takes.eq_1 mbytesLong mtokenAt mtokenLong mtoken mvalue mbytes mvalues k low high
  refine lv_aload_n hx hb dX4_takes_0 rfl (lv_at hl 0 rfl) ?_
  refine g_M_0_token hC hP mw_547 dX4_takes_1 ?_
  refine lv_iconst (v := (nI 2)) hx hb dX4_takes_4 (by decide +kernel) ?_
  refine lv_icmp_ne hx hb (tgt := 23) dX4_takes_5 (by decide) (fun c1 => ?_) (fun c1 => ?_)
  · have hm := hm.trans (if_neg c1)
    refine lv_iconst (v := (nI 0)) hx hb dX4_takes_23 (by decide +kernel) ?_
    exact wl_zret (v := false) hC hr hlk hm rfl hP hD hS dX4_takes_24
  · have hm := hm.trans (if_pos c1)
    refine lv_aload_n hx hb dX4_takes_8 rfl (lv_at hl 0 rfl) ?_
    refine g_M_0_value hC hP mw_548 dX4_takes_9 ?_
    refine lv_i2l (v := mvalue.toInt64) hx hb dX4_takes_12 rfl ?_
    refine lv_iload_n hx hb dX4_takes_13 rfl (lv_at hl 2 rfl) ?_
    refine lv_i2l (v := low.toInt64) hx hb dX4_takes_14 rfl ?_
    refine lv_iload_n hx hb dX4_takes_15 rfl (lv_at hl 3 rfl) ?_
    refine lv_i2l (v := high.toInt64) hx hb dX4_takes_16 rfl ?_
    refine wl_callPi hC (c_X4_in (v := mvalue.toInt64) (low := low.toInt64) (high := high.toInt64) ) lk_RX4_56 rfl ⟨rfl, rfl, Nat.le_of_ble_eq_true rfl, Nat.le_of_ble_eq_true rfl⟩ hP hS hA hl.1 rfl (Nat.le_of_ble_eq_true rfl) dX4_takes_17 ⟨Nat.zero_le _, Nat.zero_le _⟩ (fun z2 hz2 H locs hP hS => ?_)
    have hm := wl_bz hm hz2
    refine wl_if_ne_b hx hb (tgt := 25) dX4_takes_20 (by decide) (fun c3 => ?_) (fun c3 => ?_)
    · have hm := hm.trans (if_pos c3)
      refine lv_aload_n hx hb dX4_takes_25 rfl (lv_at hl 0 rfl) ?_
      refine g_M_0_values hC hP mw_396 dX4_takes_26 ?_
      refine lv_iload_n hx hb dX4_takes_29 rfl (lv_at hl 1 rfl) ?_
      refine lv_aload_n hx hb dX4_takes_30 rfl (lv_at hl 0 rfl) ?_
      refine g_M_0_value hC hP mw_548 dX4_takes_31 ?_
      refine st_M_11 hC hP hD hS k mvalue (by omega) dX4_takes_34 (fun H locs hP hD hS => ?_)
      refine lv_aload_n hx hb dX4_takes_35 rfl (lv_at hl 0 rfl) ?_
      refine wl_callVv hC (c_X4_goBehind  (by first | assumption | omega) (by first | assumption | omega)) lk_RX4_217 rfl ⟨rfl, rfl, Nat.le_of_ble_eq_true rfl, Nat.le_of_ble_eq_true rfl⟩ hP hD hS hA 0 rfl (T1 := 21) rfl hl.1 rfl (Nat.le_of_ble_eq_true rfl) dX4_takes_36 ⟨Nat.zero_le _, Nat.zero_le _⟩ (fun z4 hz4 H locs hP hD hS => ?_)
      have hm := wl_bz hm hz4
      refine lv_iconst (v := (nI 1)) hx hb dX4_takes_39 (by decide +kernel) ?_
      exact wl_zret (v := true) hC hr hlk hm rfl hP hD hS dX4_takes_40
    · have hm := hm.trans (if_neg c3)
      refine lv_iconst (v := (nI 0)) hx hb dX4_takes_23 (by decide +kernel) ?_
      exact wl_zret (v := false) hC hr hlk hm rfl hP hD hS dX4_takes_24
