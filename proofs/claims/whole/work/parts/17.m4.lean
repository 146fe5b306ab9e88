theorem actAs_pl {t : Nat} (ht : t ≤ 99) : ∃ pl, pl ≤ 5 ∧ (if (nI t / nI 6) ≤ nI 5 then nI t / nI 6 else nI 5) = nI pl := by
  rw [pk_div (show t < 2 ^ 31 by omega) (by decide) (by decide)]
  by_cases h : nI (t / 6) ≤ nI 5
  · rw [if_pos h]
    exact ⟨t / 6, (nI_leI (by omega) (by decide)).mp h, rfl⟩
  · rw [if_neg h]
    exact ⟨5, Nat.le_refl _, rfl⟩
theorem actAs_rng {kd day : Int32} {f : Bool} {t : Nat} (ht : t ≤ 99) : ∃ j, j ≤ 5 ∧ m_X4_actAs kd (nI t) day f = nI j := by
  obtain ⟨pl, hpl, e1⟩ := actAs_pl ht
  have e2 : ∃ j, j ≤ 5 ∧ (if nI pl ≤ nI 2 then nI 0 else nI pl - nI 2) = nI j := by
    by_cases h : nI pl ≤ nI 2
    · rw [if_pos h]; exact ⟨0, by omega, rfl⟩
    · rw [if_neg h]
      have h2 : ¬ pl ≤ 2 := fun q => h ((nI_leI (by omega) (by decide)).mpr q)
      exact ⟨pl - 2, by omega, pk_sub (by omega)⟩
  have e3 : ∃ j, j ≤ 5 ∧ (if f = true then (if nI 5 ≤ nI pl then nI pl else nI pl + nI 1) else nI pl) = nI j := by
    by_cases h : f = true
    · rw [if_pos h]
      by_cases h3 : nI 5 ≤ nI pl
      · rw [if_pos h3]; exact ⟨pl, hpl, rfl⟩
      · rw [if_neg h3]
        have h4 : ¬ 5 ≤ pl := fun q => h3 ((nI_leI (by decide) (by omega)).mpr q)
        exact ⟨pl + 1, by omega, nI_add pl 1⟩
    · rw [if_neg h]; exact ⟨pl, hpl, rfl⟩
  obtain ⟨sa, hsa, e2⟩ := e2
  obtain ⟨tu, htu, e3⟩ := e3
  simp only [m_X4_actAs, wl_bnd, e1, e2, e3]
  repeat' split
  all_goals first
    | exact ⟨sa, hsa, rfl⟩
    | exact ⟨tu, htu, rfl⟩
    | exact ⟨pl, hpl, rfl⟩
    | exact ⟨0, by omega, rfl⟩
    | exact ⟨1, by omega, rfl⟩
def m_X4_look_l60 (k11 : Nat) (v11 : (Nat → Int32)) : (Nat → Int32) := (upd v11 k11 (nI 0))
def m_X4_look_l84 (t : Int32) (v8 : (Nat → Int32) × Int32 × Int32 × Nat) (z7 : Int32) (k14 : Nat) (v14 : (Nat → Int32) × Int32) : (Nat → Int32) × Int32 := (wl_bnd (m_X4_has z7 k14) (fun z16 => (if z16 = true then (wl_bnd ((if v8.2.2.2 ≤ 5 then false else true) : Bool) (fun z18 => (wl_bnd (m_X4_actAs (nI k14) (nI (cl t)) (nI (v8.2.2.2 % 6)) z18) (fun z20 => (if ((v14.1 (cl z20)) + (nI 1)) ≤ v14.2 then ((upd v14.1 (cl z20) ((v14.1 (cl z20)) + (nI 1))), v14.2) else ((upd v14.1 (cl z20) ((v14.1 (cl z20)) + (nI 1))), ((v14.1 (cl z20)) + (nI 1)))))))) else (v14.1, v14.2))))
def m_X4_look_l43 (t : Int32) (z7 : Int32) (v8 : (Nat → Int32) × Int32 × Int32 × Nat) : ((Nat → Int32) × Int32 × Int32 × Nat) ⊕ ((Nat → Int32) × Int32) := (if 12 ≤ v8.2.2.2 then (Sum.inr (v8.1, v8.2.1)) else (if z7 ≤ 0 then (Sum.inr (v8.1, v8.2.1)) else (wl_bnd (wl_iter m_X4_look_l60 6 0 v8.1) (fun z11 => (wl_bnd (wl_iter (m_X4_look_l84 t v8 z7) 6 0 (z11, (nI 0))) (fun z14 => (wl_bnd ((if v8.2.2.1 ≤ z14.2 then v8.2.1 else (nI v8.2.2.2)) : Int32) (fun z23 => (if v8.2.2.1 ≤ z14.2 then (Sum.inl (z14.1, z23, v8.2.2.1, (v8.2.2.2 + 1))) else (Sum.inl (z14.1, z23, z14.2, (v8.2.2.2 + 1))))))))))))
def m_X4_look (mnow : (Nat → Int32)) (mrefused : (Nat → Int32)) (mmanyBy : (Nat → Int32)) (p : Int32) (t : Int32) (P : Nat) (NT : Nat) : Int32 × (Nat → Int32) × (Nat → Int32) := (wl_bnd (m_X4_isOne p P) (fun z1 => (if z1 = true then (wl_bnd (m_X4_in t.toInt64 (lN 0) (lN 99)) (fun z4 => (if z4 = true then (wl_bnd (m_X4_kindsOf mnow p NT) (fun z7 => (wl_bnd (wl_run (m_X4_look_l43 t z7) default 13 (mmanyBy, (-1), (1000000), 0)) (fun z8 => (z8.2, mrefused, z8.1))))) else (wl_bnd (m_X4_bad mrefused (-2)) (fun z26 => (z26.1, z26.2, mmanyBy)))))) else (wl_bnd (m_X4_bad mrefused (-2)) (fun z3 => (z3.1, z3.2, mmanyBy))))))
set_option maxHeartbeats 4000000 in
set_option maxRecDepth 100000 in
theorem c_X4_look {l : Launch} {D : va_G} {E : Nat → ClassId} {a : Nat → Nat} {mabove : Int64} {mbelow : Int64} {mlisted : Int32} {mfollowing : Int32} {mdayThen : Int32} {mbytesLong : Nat} {mtokenAt : Nat} {mtokenLong : Nat} {mtoken : Int32} {mvalue : Int32} {mnow : (Nat → Int32)} {mkept : (Nat → Int32)} {misKept : (Nat → Int32)} {mrefused : (Nat → Int32)} {mtempers : (Nat → Int32)} {mhis : (Nat → Int32)} {mtheirs : (Nat → Int32)} {mmanyBy : (Nat → Int32)} {mbytes : (Nat → Int32)} {manew : (Nat → Int32)} {mvalues : (Nat → Int32)} {p : Int32} {t : Int32} {P : Nat} {NT : Nat} (h0 : mnow 0 = nI P) (h2 : mnow 2 = nI NT) (hN6 : NT ≤ 6) : wl_Met (τ := Int32 × (Nat → Int32) × (Nat → Int32)) l D E yX4_look cX4_look 10 (some .int) ({ frames := 2, cells := 0, slots := 0, locals := 52 } : Room) [.ref (a 0), .int p, .int t] (wM E a mabove mbelow mlisted mfollowing mdayThen mbytesLong mtokenAt mtokenLong mtoken mvalue mnow mkept misKept mrefused mtempers mhis mtheirs mmanyBy mbytes manew mvalues) (fun z => some (.int z.1)) (fun z => (wM E a mabove mbelow mlisted mfollowing mdayThen mbytesLong mtokenAt mtokenLong mtoken mvalue mnow mkept misKept z.2.1 mtempers mhis mtheirs z.2.2 mbytes manew mvalues)) (m_X4_look mnow mrefused mmanyBy p t P NT) := by
  refine wl_enter (own := RX4) (by decide +kernel) rfl (Nat.le_of_ble_eq_true rfl) ?_
  intro p0 e0 s0 m0 bl0 mt0 c0 A hC hr hlk hA H locs hP hD hS ls hl
  have hx := hC.1
  have hb := hC.2.1
  have hl : lv_has ls 10 [(0, .ref (a 0)), (1, .int p), (2, .int t)] := hl
  have hm := m_X4_look.eq_1 mnow mrefused mmanyBy p t P NT
  refine lv_aload_n hx hb dX4_look_0 rfl (lv_at hl 0 rfl) ?_
  refine lv_iload_n hx hb dX4_look_1 rfl (lv_at hl 1 rfl) ?_
  refine wl_callVi hC (c_X4_isOne (p := p) (P := P) (h0)) lk_RX4_113 rfl ⟨rfl, rfl, Nat.le_of_ble_eq_true rfl, Nat.le_of_ble_eq_true rfl⟩ hP hD hS hA 0 rfl (T1 := 21) rfl hl.1 rfl (Nat.le_of_ble_eq_true rfl) dX4_look_2 ⟨Nat.zero_le _, Nat.zero_le _⟩ (fun z1 hz1 H locs hP hD hS => ?_)
  have hm := wl_bz hm hz1
  refine wl_if_eq_b hx hb (tgt := 20) dX4_look_5 (by decide) (fun c2 => ?_) (fun c2 => ?_)
  · have hm := hm.trans (if_neg c2)
    refine lv_aload_n hx hb dX4_look_20 rfl (lv_at hl 0 rfl) ?_
    refine lv_bipush (v := (-2)) hx hb dX4_look_21 (by decide +kernel) ?_
    refine wl_callVi hC (c_X4_bad (tells := (-2)) ) lk_RX4_62 rfl ⟨rfl, rfl, Nat.le_of_ble_eq_true rfl, Nat.le_of_ble_eq_true rfl⟩ hP hD hS hA 0 rfl (T1 := 21) rfl hl.1 rfl (Nat.le_of_ble_eq_true rfl) dX4_look_23 ⟨Nat.zero_le _, Nat.zero_le _⟩ (fun z3 hz3 H locs hP hD hS => ?_)
    have hm := wl_bz hm hz3
    exact wl_iret hC hr hlk hm rfl hP hD hS dX4_look_26
  · have hm := hm.trans (if_pos c2)
    refine lv_iload_n hx hb dX4_look_8 rfl (lv_at hl 2 rfl) ?_
    refine lv_i2l (v := t.toInt64) hx hb dX4_look_9 rfl ?_
    refine lv_lconst (v := lN 0) hx hb dX4_look_10 (by decide +kernel) ?_
    refine lv_ldc2 hx hb hC.2.2.2.1 (hC.2.2.2.2.1 _ mw_502) dX4_look_11 ?_
    refine wl_reL (show (99 : Int64) = lN 99 by decide +kernel) ?_
    refine wl_callPi hC (c_X4_in (v := t.toInt64) (low := (lN 0)) (high := (lN 99)) ) lk_RX4_56 rfl ⟨rfl, rfl, Nat.le_of_ble_eq_true rfl, Nat.le_of_ble_eq_true rfl⟩ hP hS hA hl.1 rfl (Nat.le_of_ble_eq_true rfl) dX4_look_14 ⟨Nat.zero_le _, Nat.zero_le _⟩ (fun z4 hz4 H locs hP hS => ?_)
    have hm := wl_bz hm hz4
    refine wl_if_ne_b hx hb (tgt := 27) dX4_look_17 (by decide) (fun c5 => ?_) (fun c5 => ?_)
    · have hm := hm.trans (if_pos c5)
      obtain ⟨ha6, hb6_, hc6_⟩ := in_spec (a := 0) (b := 99) (by decide) (by decide) (hz4.symm.trans c5)
      have hl : lv_has ls 10 [(0, .ref (a 0)), (1, .int p), (2, .int (nI (cl t)))] := by rw [← ha6]; exact hl
      refine lv_aload_n hx hb dX4_look_27 rfl (lv_at hl 0 rfl) ?_
      refine lv_iload_n hx hb dX4_look_28 rfl (lv_at hl 1 rfl) ?_
      refine wl_callVi hC (c_X4_kindsOf (p := p) (NT := NT) (h2) (by first | assumption | omega)) lk_RX4_150 rfl ⟨rfl, rfl, Nat.le_of_ble_eq_true rfl, Nat.le_of_ble_eq_true rfl⟩ hP hD hS hA 0 rfl (T1 := 21) rfl hl.1 rfl (Nat.le_of_ble_eq_true rfl) dX4_look_29 ⟨Nat.zero_le _, Nat.zero_le _⟩ (fun z7 hz7 H locs hP hD hS => ?_)
      have hm := wl_bz hm hz7
      refine lv_istore_n (lv' := [(3, .int z7), (0, .ref (a 0)), (1, .int p), (2, .int (nI (cl t)))]) hx hb dX4_look_32 rfl hl (by decide) rfl (fun ls hl => ?_)
      refine lv_iconst (v := (-1)) hx hb dX4_look_33 (by decide +kernel) ?_
      refine lv_istore (lv' := [(4, .int (-1)), (3, .int z7), (0, .ref (a 0)), (1, .int p), (2, .int (nI (cl t)))]) hx hb dX4_look_34 hl (by decide) rfl (fun ls hl => ?_)
      refine lv_ldc hx hb hC.2.2.2.1 (hC.2.2.2.2.1 _ mw_510) dX4_look_36 ?_
      refine lv_istore (lv' := [(5, .int (1000000)), (4, .int (-1)), (3, .int z7), (0, .ref (a 0)), (1, .int p), (2, .int (nI (cl t)))]) hx hb dX4_look_38 hl (by decide) rfl (fun ls hl => ?_)
      refine lv_iconst (v := (nI 0)) hx hb dX4_look_40 (by decide +kernel) ?_
      refine lv_istore (lv' := [(6, .int (nI 0)), (5, .int (1000000)), (4, .int (-1)), (3, .int z7), (0, .ref (a 0)), (1, .int p), (2, .int (nI (cl t)))]) hx hb dX4_look_41 hl (by decide) rfl (fun ls hl => ?_)
      obtain ⟨u8, hu8, hk8⟩ := wl_bx hm
      refine wl_J u8 205 (fun _ => []) 10 (fun z8 => [(4, .int z8.2)]) D A s0.heap (fun z8 => (wM E a mabove mbelow mlisted mfollowing mdayThen mbytesLong mtokenAt mtokenLong mtoken mvalue mnow mkept misKept mrefused mtempers mhis mtheirs z8.1 mbytes manew mvalues)) (fun z8 hz8 ls H locs hP hD hS hl => ?_) (fun J8 => ?_)
      · have hm := hk8 z8 hz8
        refine lv_iload hx hb dX4_look_205 (lv_at hl 0 rfl) ?_
        exact wl_iret hC hr hlk hm rfl hP hD hS dX4_look_207
      · refine wl_while (D := D) (A := A) (H0 := s0.heap) (m_X4_look_l43 t z7) default 13 (mmanyBy, (-1), (1000000), 0) 43 10 (fun v8 => [(0, .ref (a 0)), (2, .int (nI (cl t))), (3, .int z7), (4, .int v8.2.1), (5, .int v8.2.2.1), (6, .int (nI v8.2.2.2))]) (fun v8 => (wM E a mabove mbelow mlisted mfollowing mdayThen mbytesLong mtokenAt mtokenLong mtoken mvalue mnow mkept misKept mrefused mtempers mhis mtheirs v8.1 mbytes manew mvalues)) (fun v8 => (v8.2.2.2 ≤ 12)) (fun v8 => 12 - v8.2.2.2) (by show 0 ≤ 12; omega) (by show 12 - 0 < 13; first | decide | omega) ?_ hP hD hS (lv_sub hl [4, 6, 3, 2, 1, 0] rfl)
        intro v8 hI8 EX8 IH8 ls H locs hP hD hS hl
        have i6 := hI8
        have hb8 := m_X4_look_l43.eq_1 t z7 v8
        refine lv_iload hx hb dX4_look_43 (lv_at hl 5 rfl) ?_
        refine lv_bipush (v := (nI 12)) hx hb dX4_look_45 (by decide +kernel) ?_
        refine wl_icmp_ge_n hx hb (by first | omega | exact Nat.lt_of_le_of_lt Nat.and_le_right (by omega) | exact Nat.pow_lt_pow_right (by omega) (by omega) | exact Nat.lt_trans (by assumption) (Nat.pow_lt_pow_right (by omega) (by omega))) (by first | omega | exact Nat.lt_of_le_of_lt Nat.and_le_right (by omega) | exact Nat.pow_lt_pow_right (by omega) (by omega) | exact Nat.lt_trans (by assumption) (Nat.pow_lt_pow_right (by omega) (by omega))) (tgt := 205) dX4_look_47 (by decide) (fun c9 => ?_) (fun c9 => ?_)
        · have hb8 := hb8.trans (if_pos c9)
          exact J8 _ (hu8.trans (EX8 _ hb8)) ls H locs hP hD hS (lv_sub hl [3] rfl)
        · have hb8 := hb8.trans (if_neg c9)
          refine lv_iload_n hx hb dX4_look_50 rfl (lv_at hl 2 rfl) ?_
          refine lv_if_le hx hb (tgt := 205) dX4_look_51 (by decide) (fun c10 => ?_) (fun c10 => ?_)
          · have hb8 := hb8.trans (if_pos c10)
            exact J8 _ (hu8.trans (EX8 _ hb8)) ls H locs hP hD hS (lv_sub hl [3] rfl)
          · have hb8 := hb8.trans (if_neg c10)
            refine lv_iconst (v := (nI 0)) hx hb dX4_look_54 (by decide +kernel) ?_
            refine lv_istore (lv' := [(7, .int (nI 0)), (0, .ref (a 0)), (2, .int (nI (cl t))), (3, .int z7), (4, .int v8.2.1), (5, .int v8.2.2.1), (6, .int (nI v8.2.2.2))]) hx hb dX4_look_55 hl (by decide) rfl (fun ls hl => ?_)
            refine lv_iconst (v := (nI 0)) hx hb dX4_look_57 (by decide +kernel) ?_
            refine lv_istore (lv' := [(8, .int (nI 0)), (7, .int (nI 0)), (0, .ref (a 0)), (2, .int (nI (cl t))), (3, .int z7), (4, .int v8.2.1), (5, .int v8.2.2.1), (6, .int (nI v8.2.2.2))]) hx hb dX4_look_58 hl (by decide) rfl (fun ls hl => ?_)
            obtain ⟨u11, hu11, hk11⟩ := wl_bx hb8
            refine wl_for (D := D) (A := A) (H0 := s0.heap) m_X4_look_l60 6 0 6 v8.1 60 10 (fun k11 v11 => [(0, .ref (a 0)), (2, .int (nI (cl t))), (3, .int z7), (4, .int v8.2.1), (5, .int v8.2.2.1), (6, .int (nI v8.2.2.2)), (7, .int (nI 0)), (8, .int (nI k11))]) (fun k11 v11 => (wM E a mabove mbelow mlisted mfollowing mdayThen mbytesLong mtokenAt mtokenLong mtoken mvalue mnow mkept misKept mrefused mtempers mhis mtheirs v11 mbytes manew mvalues)) (fun k11 v11 => True) (by omega) trivial ?_ ?_ hP hD hS (lv_sub hl [2, 3, 4, 5, 6, 7, 1, 0] rfl)
            · intro z11 hv11 hI11 ls H locs hP hD hS hl
              have hb8 := hk11 z11 (hu11.trans hv11)
              refine lv_iload hx hb dX4_look_60 (lv_at hl 7 rfl) ?_
              refine lv_bipush (v := (nI 6)) hx hb dX4_look_62 (by decide +kernel) ?_
              refine wl_icmp_ge_n hx hb (by first | omega | exact Nat.lt_of_le_of_lt Nat.and_le_right (by omega) | exact Nat.pow_lt_pow_right (by omega) (by omega) | exact Nat.lt_trans (by assumption) (Nat.pow_lt_pow_right (by omega) (by omega))) (by first | omega | exact Nat.lt_of_le_of_lt Nat.and_le_right (by omega) | exact Nat.pow_lt_pow_right (by omega) (by omega) | exact Nat.lt_trans (by assumption) (Nat.pow_lt_pow_right (by omega) (by omega))) (tgt := 81) dX4_look_64 (by decide) (fun c13 => ?_) (fun c13 => absurd (by omega) c13)
              refine lv_iconst (v := (nI 0)) hx hb dX4_look_81 (by decide +kernel) ?_
              refine lv_istore (lv' := [(8, .int (nI 0)), (0, .ref (a 0)), (2, .int (nI (cl t))), (3, .int z7), (4, .int v8.2.1), (5, .int v8.2.2.1), (6, .int (nI v8.2.2.2)), (7, .int (nI 0))]) hx hb dX4_look_82 hl (by decide) rfl (fun ls hl => ?_)
              obtain ⟨u14, hu14, hk14⟩ := wl_bx hb8
              refine wl_for (D := D) (A := A) (H0 := s0.heap) (m_X4_look_l84 t v8 z7) 6 0 6 (z11, (nI 0)) 84 10 (fun k14 v14 => [(0, .ref (a 0)), (2, .int (nI (cl t))), (3, .int z7), (4, .int v8.2.1), (5, .int v8.2.2.1), (6, .int (nI v8.2.2.2)), (7, .int v14.2), (8, .int (nI k14))]) (fun k14 v14 => (wM E a mabove mbelow mlisted mfollowing mdayThen mbytesLong mtokenAt mtokenLong mtoken mvalue mnow mkept misKept mrefused mtempers mhis mtheirs v14.1 mbytes manew mvalues)) (fun k14 v14 => True) (by omega) trivial ?_ ?_ hP hD hS (lv_sub hl [1, 2, 3, 4, 5, 6, 7, 0] rfl)
              · intro z14 hv14 hI14 ls H locs hP hD hS hl
                have hb8 := hk14 z14 (hu14.trans hv14)
                refine lv_iload hx hb dX4_look_84 (lv_at hl 7 rfl) ?_
                refine lv_bipush (v := (nI 6)) hx hb dX4_look_86 (by decide +kernel) ?_
                refine wl_icmp_ge_n hx hb (by first | omega | exact Nat.lt_of_le_of_lt Nat.and_le_right (by omega) | exact Nat.pow_lt_pow_right (by omega) (by omega) | exact Nat.lt_trans (by assumption) (Nat.pow_lt_pow_right (by omega) (by omega))) (by first | omega | exact Nat.lt_of_le_of_lt Nat.and_le_right (by omega) | exact Nat.pow_lt_pow_right (by omega) (by omega) | exact Nat.lt_trans (by assumption) (Nat.pow_lt_pow_right (by omega) (by omega))) (tgt := 167) dX4_look_88 (by decide) (fun c22 => ?_) (fun c22 => absurd (by omega) c22)
                refine lv_iload hx hb dX4_look_167 (lv_at hl 6 rfl) ?_
                refine lv_iload hx hb dX4_look_169 (lv_at hl 4 rfl) ?_
                obtain ⟨u23, hj23, hk23⟩ := wl_bx hb8
                refine wl_J u23 181 (fun z23 => [.int z23]) 10 (fun z23 => [(0, .ref (a 0)), (2, .int (nI (cl t))), (3, .int z7), (5, .int v8.2.2.1), (6, .int (nI v8.2.2.2)), (7, .int z14.2)]) D A s0.heap (fun z23 => (wM E a mabove mbelow mlisted mfollowing mdayThen mbytesLong mtokenAt mtokenLong mtoken mvalue mnow mkept misKept mrefused mtempers mhis mtheirs z14.1 mbytes manew mvalues)) (fun z23 hz23 ls H locs hP hD hS hl => ?_) (fun J23 => ?_)
                · have hb8 := hk23 z23 hz23
                  refine lv_istore (lv' := [(4, .int z23), (0, .ref (a 0)), (2, .int (nI (cl t))), (3, .int z7), (5, .int v8.2.2.1), (6, .int (nI v8.2.2.2)), (7, .int z14.2)]) hx hb dX4_look_181 hl (by decide) rfl (fun ls hl => ?_)
                  refine lv_iload hx hb dX4_look_183 (lv_at hl 6 rfl) ?_
                  refine lv_iload hx hb dX4_look_185 (lv_at hl 4 rfl) ?_
                  refine lv_icmp_ge hx hb (tgt := 195) dX4_look_187 (by decide) (fun c25 => ?_) (fun c25 => ?_)
                  · have hb8 := hb8.trans (if_pos c25)
                    refine lv_iload hx hb dX4_look_195 (lv_at hl 4 rfl) ?_
                    refine lv_istore (lv' := [(5, .int v8.2.2.1), (4, .int z23), (0, .ref (a 0)), (2, .int (nI (cl t))), (3, .int z7), (6, .int (nI v8.2.2.2)), (7, .int z14.2)]) hx hb dX4_look_197 hl (by decide) rfl (fun ls hl => ?_)
                    refine lv_iinc (v := (nI (v8.2.2.2 + 1))) (lv' := [(6, .int (nI (v8.2.2.2 + 1))), (5, .int v8.2.2.1), (4, .int z23), (0, .ref (a 0)), (2, .int (nI (cl t))), (3, .int z7), (7, .int z14.2)]) hx hb dX4_look_199 hl (k := 5) rfl (wl_inc v8.2.2.2 1) (by decide) rfl (fun ls hl => ?_)
                    refine lv_goto (tgt := 43) hx hb dX4_look_202 (by decide) ?_
                    exact IH8 _ hb8 (by show (v8.2.2.2 + 1) ≤ 12; omega) (by show 12 - (v8.2.2.2 + 1) < 12 - v8.2.2.2; omega) ls H locs hP hD hS (lv_sub hl [3, 4, 5, 2, 1, 0] rfl)
                  · have hb8 := hb8.trans (if_neg c25)
                    refine lv_iload hx hb dX4_look_190 (lv_at hl 6 rfl) ?_
                    refine lv_goto (tgt := 197) hx hb dX4_look_192 (by decide) ?_
                    refine lv_istore (lv' := [(5, .int z14.2), (4, .int z23), (0, .ref (a 0)), (2, .int (nI (cl t))), (3, .int z7), (6, .int (nI v8.2.2.2)), (7, .int z14.2)]) hx hb dX4_look_197 hl (by decide) rfl (fun ls hl => ?_)
                    refine lv_iinc (v := (nI (v8.2.2.2 + 1))) (lv' := [(6, .int (nI (v8.2.2.2 + 1))), (5, .int z14.2), (4, .int z23), (0, .ref (a 0)), (2, .int (nI (cl t))), (3, .int z7), (7, .int z14.2)]) hx hb dX4_look_199 hl (k := 5) rfl (wl_inc v8.2.2.2 1) (by decide) rfl (fun ls hl => ?_)
                    refine lv_goto (tgt := 43) hx hb dX4_look_202 (by decide) ?_
                    exact IH8 _ hb8 (by show (v8.2.2.2 + 1) ≤ 12; omega) (by show 12 - (v8.2.2.2 + 1) < 12 - v8.2.2.2; omega) ls H locs hP hD hS (lv_sub hl [3, 4, 5, 2, 1, 0] rfl)
                · refine lv_icmp_ge hx hb (tgt := 179) dX4_look_171 (by decide) (fun c24 => ?_) (fun c24 => ?_)
                  · have hj23 := hj23.trans (if_pos c24)
                    refine lv_iload hx hb dX4_look_179 (lv_at hl 3 rfl) ?_
                    exact J23 _ hj23 ls H locs hP hD hS (lv_sub hl [0, 1, 2, 4, 5, 6] rfl)
                  · have hj23 := hj23.trans (if_neg c24)
                    refine lv_iload hx hb dX4_look_174 (lv_at hl 5 rfl) ?_
                    refine lv_goto (tgt := 181) hx hb dX4_look_176 (by decide) ?_
                    exact J23 _ hj23 ls H locs hP hD hS (lv_sub hl [0, 1, 2, 4, 5, 6] rfl)
              · intro k14 v14 hlo14 hhi14 hI14 IH14 ls H locs hP hD hS hl
                have hb14 := m_X4_look_l84.eq_1 t v8 z7 k14 v14
                refine lv_iload hx hb dX4_look_84 (lv_at hl 7 rfl) ?_
                refine lv_bipush (v := (nI 6)) hx hb dX4_look_86 (by decide +kernel) ?_
                refine wl_icmp_ge_n hx hb (by first | omega | exact Nat.lt_of_le_of_lt Nat.and_le_right (by omega) | exact Nat.pow_lt_pow_right (by omega) (by omega) | exact Nat.lt_trans (by assumption) (Nat.pow_lt_pow_right (by omega) (by omega))) (by first | omega | exact Nat.lt_of_le_of_lt Nat.and_le_right (by omega) | exact Nat.pow_lt_pow_right (by omega) (by omega) | exact Nat.lt_trans (by assumption) (Nat.pow_lt_pow_right (by omega) (by omega))) (tgt := 167) dX4_look_88 (by decide) (fun c15 => absurd c15 (by omega)) (fun c15 => ?_)
                refine lv_iload_n hx hb dX4_look_91 rfl (lv_at hl 2 rfl) ?_
                refine lv_iload hx hb dX4_look_92 (lv_at hl 7 rfl) ?_
                refine wl_callPi hC (c_X4_has (set := z7) (k := k14) ) lk_RX4_91 rfl ⟨rfl, rfl, Nat.le_of_ble_eq_true rfl, Nat.le_of_ble_eq_true rfl⟩ hP hS hA hl.1 rfl (Nat.le_of_ble_eq_true rfl) dX4_look_94 ⟨Nat.zero_le _, Nat.zero_le _⟩ (fun z16 hz16 H locs hP hS => ?_)
                have hb14 := wl_bz hb14 hz16
                refine wl_if_eq_b hx hb (tgt := 161) dX4_look_97 (by decide) (fun c17 => ?_) (fun c17 => ?_)
                · have hb14 := hb14.trans (if_neg c17)
                  refine lv_iinc (v := (nI (k14 + 1))) (lv' := [(8, .int (nI (k14 + 1))), (0, .ref (a 0)), (2, .int (nI (cl t))), (3, .int z7), (4, .int v8.2.1), (5, .int v8.2.2.1), (6, .int (nI v8.2.2.2)), (7, .int v14.2)]) hx hb dX4_look_161 hl (k := 7) rfl (wl_inc k14 1) (by decide) rfl (fun ls hl => ?_)
                  refine lv_goto (tgt := 84) hx hb dX4_look_164 (by decide) ?_
                  exact IH14 _ hb14 trivial ls H locs hP hD hS (lv_sub hl [1, 2, 3, 4, 5, 6, 7, 0] rfl)
                · have hb14 := hb14.trans (if_pos c17)
                  refine lv_iload hx hb dX4_look_100 (lv_at hl 7 rfl) ?_
                  refine lv_iload_n hx hb dX4_look_102 rfl (lv_at hl 1 rfl) ?_
                  refine lv_iload hx hb dX4_look_103 (lv_at hl 5 rfl) ?_
                  refine lv_bipush (v := (nI 6)) hx hb dX4_look_105 (by decide +kernel) ?_
                  refine lv_irem hx hb dX4_look_107 (nI_ne0 (by omega) (by omega)) ?_
                  refine wl_re (pk_rem (by omega) (by omega) (by omega)) ?_
                  refine lv_iload hx hb dX4_look_108 (lv_at hl 5 rfl) ?_
                  refine lv_iconst (v := (nI 5)) hx hb dX4_look_110 (by decide +kernel) ?_
                  obtain ⟨u18, hj18, hk18⟩ := wl_bx hb14
                  refine wl_J u18 119 (fun z18 => [.int (wl_b z18), .int (nI (v8.2.2.2 % 6)), .int (nI (cl t)), .int (nI k14)]) 10 (fun z18 => [(0, .ref (a 0)), (2, .int (nI (cl t))), (3, .int z7), (4, .int v8.2.1), (5, .int v8.2.2.1), (6, .int (nI v8.2.2.2)), (7, .int v14.2), (8, .int (nI k14))]) D A s0.heap (fun z18 => (wM E a mabove mbelow mlisted mfollowing mdayThen mbytesLong mtokenAt mtokenLong mtoken mvalue mnow mkept misKept mrefused mtempers mhis mtheirs v14.1 mbytes manew mvalues)) (fun z18 hz18 ls H locs hP hD hS hl => ?_) (fun J18 => ?_)
                  · have hb14 := hk18 z18 hz18
                    refine wl_callPi hC (c_X4_actAs (kind := (nI k14)) (t := (nI (cl t))) (day := (nI (v8.2.2.2 % 6))) (followed := z18) ) lk_RX4_95 rfl ⟨rfl, rfl, Nat.le_of_ble_eq_true rfl, Nat.le_of_ble_eq_true rfl⟩ hP hS hA hl.1 rfl (Nat.le_of_ble_eq_true rfl) dX4_look_119 ⟨Nat.zero_le _, Nat.zero_le _⟩ (fun z20 hz20 H locs hP hS => ?_)
                    have hb14 := wl_bz hb14 hz20
                    obtain ⟨e20a, e20b⟩ : z20 = nI (cl z20) ∧ cl z20 ≤ 5 := by
                      rw [hz20]; exact (actAs_rng (by assumption)).elim (fun j9 hj9 => wl_selfcl hj9.2 hj9.1 (by decide))
                    refine wl_re (e20a) ?_
                    refine lv_istore (lv' := [(9, .int (nI (cl z20))), (0, .ref (a 0)), (2, .int (nI (cl t))), (3, .int z7), (4, .int v8.2.1), (5, .int v8.2.2.1), (6, .int (nI v8.2.2.2)), (7, .int v14.2), (8, .int (nI k14))]) hx hb dX4_look_122 hl (by decide) rfl (fun ls hl => ?_)
                    refine lv_aload_n hx hb dX4_look_124 rfl (lv_at hl 1 rfl) ?_
                    refine g_M_0_manyBy hC hP mw_393 dX4_look_125 ?_
                    refine lv_iload hx hb dX4_look_128 (lv_at hl 0 rfl) ?_
                    refine lv_dup2_11 hx hb dX4_look_130 rfl rfl ?_
                    refine ld_M_8 hC hP (cl z20) (by omega) dX4_look_131 ?_
                    refine lv_iconst (v := (nI 1)) hx hb dX4_look_132 (by decide +kernel) ?_
                    refine lv_iadd hx hb dX4_look_133 ?_
                    refine st_M_8 hC hP hD hS (cl z20) ((v14.1 (cl z20)) + (nI 1)) (by omega) dX4_look_134 (fun H locs hP hD hS => ?_)
                    refine lv_aload_n hx hb dX4_look_135 rfl (lv_at hl 1 rfl) ?_
                    refine g_M_0_manyBy hC hP mw_393 dX4_look_136 ?_
                    refine lv_iload hx hb dX4_look_139 (lv_at hl 0 rfl) ?_
                    refine ld_M_8 hC hP (cl z20) (by omega) dX4_look_141 ?_
                    refine wl_re (pk_us) ?_
                    refine lv_iload hx hb dX4_look_142 (lv_at hl 7 rfl) ?_
                    refine lv_icmp_le hx hb (tgt := 157) dX4_look_144 (by decide) (fun c21 => ?_) (fun c21 => ?_)
                    · have hb14 := hb14.trans (if_pos c21)
                      refine lv_iload hx hb dX4_look_157 (lv_at hl 7 rfl) ?_
                      refine lv_istore (lv' := [(7, .int v14.2), (9, .int (nI (cl z20))), (0, .ref (a 0)), (2, .int (nI (cl t))), (3, .int z7), (4, .int v8.2.1), (5, .int v8.2.2.1), (6, .int (nI v8.2.2.2)), (8, .int (nI k14))]) hx hb dX4_look_159 hl (by decide) rfl (fun ls hl => ?_)
                      refine lv_iinc (v := (nI (k14 + 1))) (lv' := [(8, .int (nI (k14 + 1))), (7, .int v14.2), (9, .int (nI (cl z20))), (0, .ref (a 0)), (2, .int (nI (cl t))), (3, .int z7), (4, .int v8.2.1), (5, .int v8.2.2.1), (6, .int (nI v8.2.2.2))]) hx hb dX4_look_161 hl (k := 8) rfl (wl_inc k14 1) (by decide) rfl (fun ls hl => ?_)
                      refine lv_goto (tgt := 84) hx hb dX4_look_164 (by decide) ?_
                      exact IH14 _ hb14 trivial ls H locs hP hD hS (lv_sub hl [3, 4, 5, 6, 7, 8, 1, 0] rfl)
                    · have hb14 := hb14.trans (if_neg c21)
                      refine lv_aload_n hx hb dX4_look_147 rfl (lv_at hl 1 rfl) ?_
                      refine g_M_0_manyBy hC hP mw_393 dX4_look_148 ?_
                      refine lv_iload hx hb dX4_look_151 (lv_at hl 0 rfl) ?_
                      refine ld_M_8 hC hP (cl z20) (by omega) dX4_look_153 ?_
                      refine wl_re (pk_us) ?_
                      refine lv_goto (tgt := 159) hx hb dX4_look_154 (by decide) ?_
                      refine lv_istore (lv' := [(7, .int ((v14.1 (cl z20)) + (nI 1))), (9, .int (nI (cl z20))), (0, .ref (a 0)), (2, .int (nI (cl t))), (3, .int z7), (4, .int v8.2.1), (5, .int v8.2.2.1), (6, .int (nI v8.2.2.2)), (8, .int (nI k14))]) hx hb dX4_look_159 hl (by decide) rfl (fun ls hl => ?_)
                      refine lv_iinc (v := (nI (k14 + 1))) (lv' := [(8, .int (nI (k14 + 1))), (7, .int ((v14.1 (cl z20)) + (nI 1))), (9, .int (nI (cl z20))), (0, .ref (a 0)), (2, .int (nI (cl t))), (3, .int z7), (4, .int v8.2.1), (5, .int v8.2.2.1), (6, .int (nI v8.2.2.2))]) hx hb dX4_look_161 hl (k := 8) rfl (wl_inc k14 1) (by decide) rfl (fun ls hl => ?_)
                      refine lv_goto (tgt := 84) hx hb dX4_look_164 (by decide) ?_
                      exact IH14 _ hb14 trivial ls H locs hP hD hS (lv_sub hl [3, 4, 5, 6, 7, 8, 1, 0] rfl)
                  · refine wl_icmp_le_n hx hb (by first | omega | exact Nat.lt_of_le_of_lt Nat.and_le_right (by omega) | exact Nat.pow_lt_pow_right (by omega) (by omega) | exact Nat.lt_trans (by assumption) (Nat.pow_lt_pow_right (by omega) (by omega))) (by first | omega | exact Nat.lt_of_le_of_lt Nat.and_le_right (by omega) | exact Nat.pow_lt_pow_right (by omega) (by omega) | exact Nat.lt_trans (by assumption) (Nat.pow_lt_pow_right (by omega) (by omega))) (tgt := 118) dX4_look_111 (by decide) (fun c19 => ?_) (fun c19 => ?_)
                    · have hj18 := hj18.trans (if_pos c19)
                      refine lv_iconst (v := (nI 0)) hx hb dX4_look_118 (by decide +kernel) ?_
                      exact J18 _ hj18 ls H locs hP hD hS (lv_sub hl [0, 1, 2, 3, 4, 5, 6, 7] rfl)
                    · have hj18 := hj18.trans (if_neg c19)
                      refine lv_iconst (v := (nI 1)) hx hb dX4_look_114 (by decide +kernel) ?_
                      refine lv_goto (tgt := 119) hx hb dX4_look_115 (by decide) ?_
                      exact J18 _ hj18 ls H locs hP hD hS (lv_sub hl [0, 1, 2, 3, 4, 5, 6, 7] rfl)
            · intro k11 v11 hlo11 hhi11 hI11 IH11 ls H locs hP hD hS hl
              have hb11 := m_X4_look_l60.eq_1 k11 v11
              refine lv_iload hx hb dX4_look_60 (lv_at hl 7 rfl) ?_
              refine lv_bipush (v := (nI 6)) hx hb dX4_look_62 (by decide +kernel) ?_
              refine wl_icmp_ge_n hx hb (by first | omega | exact Nat.lt_of_le_of_lt Nat.and_le_right (by omega) | exact Nat.pow_lt_pow_right (by omega) (by omega) | exact Nat.lt_trans (by assumption) (Nat.pow_lt_pow_right (by omega) (by omega))) (by first | omega | exact Nat.lt_of_le_of_lt Nat.and_le_right (by omega) | exact Nat.pow_lt_pow_right (by omega) (by omega) | exact Nat.lt_trans (by assumption) (Nat.pow_lt_pow_right (by omega) (by omega))) (tgt := 81) dX4_look_64 (by decide) (fun c12 => absurd c12 (by omega)) (fun c12 => ?_)
              refine lv_aload_n hx hb dX4_look_67 rfl (lv_at hl 0 rfl) ?_
              refine g_M_0_manyBy hC hP mw_393 dX4_look_68 ?_
              refine lv_iload hx hb dX4_look_71 (lv_at hl 7 rfl) ?_
              refine lv_iconst (v := (nI 0)) hx hb dX4_look_73 (by decide +kernel) ?_
              refine st_M_8 hC hP hD hS k11 (nI 0) (by omega) dX4_look_74 (fun H locs hP hD hS => ?_)
              refine lv_iinc (v := (nI (k11 + 1))) (lv' := [(8, .int (nI (k11 + 1))), (0, .ref (a 0)), (2, .int (nI (cl t))), (3, .int z7), (4, .int v8.2.1), (5, .int v8.2.2.1), (6, .int (nI v8.2.2.2)), (7, .int (nI 0))]) hx hb dX4_look_75 hl (k := 7) rfl (wl_inc k11 1) (by decide) rfl (fun ls hl => ?_)
              refine lv_goto (tgt := 60) hx hb dX4_look_78 (by decide) ?_
              exact IH11 _ hb11 trivial ls H locs hP hD hS (lv_sub hl [1, 2, 3, 4, 5, 6, 7, 0] rfl)
    · have hm := hm.trans (if_neg c5)
      refine lv_aload_n hx hb dX4_look_20 rfl (lv_at hl 0 rfl) ?_
      refine lv_bipush (v := (-2)) hx hb dX4_look_21 (by decide +kernel) ?_
      refine wl_callVi hC (c_X4_bad (tells := (-2)) ) lk_RX4_62 rfl ⟨rfl, rfl, Nat.le_of_ble_eq_true rfl, Nat.le_of_ble_eq_true rfl⟩ hP hD hS hA 0 rfl (T1 := 21) rfl hl.1 rfl (Nat.le_of_ble_eq_true rfl) dX4_look_23 ⟨Nat.zero_le _, Nat.zero_le _⟩ (fun z26 hz26 H locs hP hD hS => ?_)
      have hm := wl_bz hm hz26
      exact wl_iret hC hr hlk hm rfl hP hD hS dX4_look_26
def m_X4_manySources_l15 (mnow : (Nat → Int32)) (k1 : Nat) (k3 : Nat) (v3 : Bool) : Bool := (if v3 = true then (wl_bnd ((if (mnow (11 + k3)) < (nI k1) then false else true) : Bool) (fun z7 => (wl_bnd (m_X4_has (mnow 18) k3) (fun z9 => (if z7 = z9 then true else false))))) else false)
def m_X4_manySources_l4 (mnow : (Nat → Int32)) (P : Nat) (k1 : Nat) (v1 : Nat) : Nat := (wl_bnd (wl_iter (m_X4_manySources_l15 mnow k1) P 0 true) (fun z3 => (if z3 = true then (v1 + 1) else (v1 + 0))))
def m_X4_manySources (mnow : (Nat → Int32)) (P : Nat) : Int32 := (wl_bnd (wl_iter (m_X4_manySources_l4 mnow P) 101 0 0) (fun z1 => (nI z1)))
set_option maxHeartbeats 4000000 in
set_option maxRecDepth 100000 in
theorem c_X4_manySources {l : Launch} {D : va_G} {E : Nat → ClassId} {a : Nat → Nat} {mabove : Int64} {mbelow : Int64} {mlisted : Int32} {mfollowing : Int32} {mdayThen : Int32} {mbytesLong : Nat} {mtokenAt : Nat} {mtokenLong : Nat} {mtoken : Int32} {mvalue : Int32} {mnow : (Nat → Int32)} {mkept : (Nat → Int32)} {misKept : (Nat → Int32)} {mrefused : (Nat → Int32)} {mtempers : (Nat → Int32)} {mhis : (Nat → Int32)} {mtheirs : (Nat → Int32)} {mmanyBy : (Nat → Int32)} {mbytes : (Nat → Int32)} {manew : (Nat → Int32)} {mvalues : (Nat → Int32)} {P : Nat} (h0 : mnow 0 = nI P) (hP7 : P ≤ 7) : wl_Met (τ := Int32) l D E yX4_manySources cX4_manySources 5 (some .int) ({ frames := 1, cells := 0, slots := 0, locals := 21 } : Room) [.ref (a 0)] (wM E a mabove mbelow mlisted mfollowing mdayThen mbytesLong mtokenAt mtokenLong mtoken mvalue mnow mkept misKept mrefused mtempers mhis mtheirs mmanyBy mbytes manew mvalues) (fun z => some (.int z)) (fun _ => (wM E a mabove mbelow mlisted mfollowing mdayThen mbytesLong mtokenAt mtokenLong mtoken mvalue mnow mkept misKept mrefused mtempers mhis mtheirs mmanyBy mbytes manew mvalues)) (m_X4_manySources mnow P) := by
  refine wl_enter (own := RX4) (by decide +kernel) rfl (Nat.le_of_ble_eq_true rfl) ?_
  intro p0 e0 s0 m0 bl0 mt0 c0 A hC hr hlk hA H locs hP hD hS ls hl
  have hx := hC.1
  have hb := hC.2.1
  have hl : lv_has ls 5 [(0, .ref (a 0))] := hl
  have hm := m_X4_manySources.eq_1 mnow P
  refine lv_iconst (v := (nI 0)) hx hb dX4_manySources_0 (by decide +kernel) ?_
  refine lv_istore_n (lv' := [(1, .int (nI 0)), (0, .ref (a 0))]) hx hb dX4_manySources_1 rfl hl (by decide) rfl (fun ls hl => ?_)
  refine lv_iconst (v := (nI 0)) hx hb dX4_manySources_2 (by decide +kernel) ?_
  refine lv_istore_n (lv' := [(2, .int (nI 0)), (1, .int (nI 0)), (0, .ref (a 0))]) hx hb dX4_manySources_3 rfl hl (by decide) rfl (fun ls hl => ?_)
  obtain ⟨u1, hu1, hk1⟩ := wl_bx hm
  refine wl_for (D := D) (A := A) (H0 := s0.heap) (m_X4_manySources_l4 mnow P) 101 0 101 0 4 5 (fun k1 v1 => [(0, .ref (a 0)), (1, .int (nI v1)), (2, .int (nI k1))]) (fun k1 v1 => (wM E a mabove mbelow mlisted mfollowing mdayThen mbytesLong mtokenAt mtokenLong mtoken mvalue mnow mkept misKept mrefused mtempers mhis mtheirs mmanyBy mbytes manew mvalues)) (fun k1 v1 => True) (by omega) trivial ?_ ?_ hP hD hS (lv_sub hl [2, 1, 0] rfl)
  · intro z1 hv1 hI1 ls H locs hP hD hS hl
    have hm := hk1 z1 (hu1.trans hv1)
    refine lv_iload_n hx hb dX4_manySources_4 rfl (lv_at hl 2 rfl) ?_
    refine lv_bipush (v := (nI 100)) hx hb dX4_manySources_5 (by decide +kernel) ?_
    refine wl_icmp_gt_n hx hb (by first | omega | exact Nat.lt_of_le_of_lt Nat.and_le_right (by omega) | exact Nat.pow_lt_pow_right (by omega) (by omega) | exact Nat.lt_trans (by assumption) (Nat.pow_lt_pow_right (by omega) (by omega))) (by first | omega | exact Nat.lt_of_le_of_lt Nat.and_le_right (by omega) | exact Nat.pow_lt_pow_right (by omega) (by omega) | exact Nat.lt_trans (by assumption) (Nat.pow_lt_pow_right (by omega) (by omega))) (tgt := 92) dX4_manySources_7 (by decide) (fun c14 => ?_) (fun c14 => absurd (by omega) c14)
    refine lv_iload_n hx hb dX4_manySources_92 rfl (lv_at hl 1 rfl) ?_
    exact wl_iret hC hr hlk hm rfl hP hD hS dX4_manySources_93
  · intro k1 v1 hlo1 hhi1 hI1 IH1 ls H locs hP hD hS hl
    have hb1 := m_X4_manySources_l4.eq_1 mnow P k1 v1
    refine lv_iload_n hx hb dX4_manySources_4 rfl (lv_at hl 2 rfl) ?_
    refine lv_bipush (v := (nI 100)) hx hb dX4_manySources_5 (by decide +kernel) ?_
    refine wl_icmp_gt_n hx hb (by first | omega | exact Nat.lt_of_le_of_lt Nat.and_le_right (by omega) | exact Nat.pow_lt_pow_right (by omega) (by omega) | exact Nat.lt_trans (by assumption) (Nat.pow_lt_pow_right (by omega) (by omega))) (by first | omega | exact Nat.lt_of_le_of_lt Nat.and_le_right (by omega) | exact Nat.pow_lt_pow_right (by omega) (by omega) | exact Nat.lt_trans (by assumption) (Nat.pow_lt_pow_right (by omega) (by omega))) (tgt := 92) dX4_manySources_7 (by decide) (fun c2 => absurd c2 (by omega)) (fun c2 => ?_)
    refine lv_iconst (v := (nI 1)) hx hb dX4_manySources_10 (by decide +kernel) ?_
    refine lv_istore_n (lv' := [(3, .int (nI 1)), (0, .ref (a 0)), (1, .int (nI v1)), (2, .int (nI k1))]) hx hb dX4_manySources_11 rfl hl (by decide) rfl (fun ls hl => ?_)
    refine lv_iconst (v := (nI 0)) hx hb dX4_manySources_12 (by decide +kernel) ?_
    refine lv_istore (lv' := [(4, .int (nI 0)), (3, .int (nI 1)), (0, .ref (a 0)), (1, .int (nI v1)), (2, .int (nI k1))]) hx hb dX4_manySources_13 hl (by decide) rfl (fun ls hl => ?_)
    obtain ⟨u3, hu3, hk3⟩ := wl_bx hb1
    refine wl_for (D := D) (A := A) (H0 := s0.heap) (m_X4_manySources_l15 mnow k1) P 0 P true 15 5 (fun k3 v3 => [(0, .ref (a 0)), (1, .int (nI v1)), (2, .int (nI k1)), (3, .int (wl_b v3)), (4, .int (nI k3))]) (fun k3 v3 => (wM E a mabove mbelow mlisted mfollowing mdayThen mbytesLong mtokenAt mtokenLong mtoken mvalue mnow mkept misKept mrefused mtempers mhis mtheirs mmanyBy mbytes manew mvalues)) (fun k3 v3 => True) (by omega) trivial ?_ ?_ hP hD hS (lv_sub hl [2, 3, 4, 1, 0] rfl)
    · intro z3 hv3 hI3 ls H locs hP hD hS hl
      have hb1 := hk3 z3 (hu3.trans hv3)
      refine lv_iload hx hb dX4_manySources_15 (lv_at hl 4 rfl) ?_
      refine lv_aload_n hx hb dX4_manySources_17 rfl (lv_at hl 0 rfl) ?_
      refine wl_callVi hC (c_X4_many (P := P) (h0)) lk_RX4_52 rfl ⟨rfl, rfl, Nat.le_of_ble_eq_true rfl, Nat.le_of_ble_eq_true rfl⟩ hP hD hS hA 0 rfl (T1 := 21) rfl hl.1 rfl (Nat.le_of_ble_eq_true rfl) dX4_manySources_18 ⟨Nat.zero_le _, Nat.zero_le _⟩ (fun z11 hz11 H locs hP hD hS => ?_)
      have hz11 := hz11.symm
      subst hz11
      refine wl_icmp_ge_n hx hb (by first | omega | exact Nat.lt_of_le_of_lt Nat.and_le_right (by omega) | exact Nat.pow_lt_pow_right (by omega) (by omega) | exact Nat.lt_trans (by assumption) (Nat.pow_lt_pow_right (by omega) (by omega))) (by first | omega | exact Nat.lt_of_le_of_lt Nat.and_le_right (by omega) | exact Nat.pow_lt_pow_right (by omega) (by omega) | exact Nat.lt_trans (by assumption) (Nat.pow_lt_pow_right (by omega) (by omega))) (tgt := 74) dX4_manySources_21 (by decide) (fun c12 => ?_) (fun c12 => absurd (by omega) c12)
      refine lv_iload_n hx hb dX4_manySources_74 rfl (lv_at hl 1 rfl) ?_
      refine lv_iload_n hx hb dX4_manySources_75 rfl (lv_at hl 3 rfl) ?_
      refine wl_if_eq_b hx hb (tgt := 83) dX4_manySources_76 (by decide) (fun c13 => ?_) (fun c13 => ?_)
      · have hb1 := hb1.trans (if_neg c13)
        refine lv_iconst (v := (nI 0)) hx hb dX4_manySources_83 (by decide +kernel) ?_
        refine lv_iadd hx hb dX4_manySources_84 ?_
        refine wl_re (show nI v1 + nI 0 = nI (v1 + 0) from nI_add v1 0) ?_
        refine lv_istore_n (lv' := [(1, .int (nI (v1 + 0))), (0, .ref (a 0)), (2, .int (nI k1)), (3, .int (wl_b z3)), (4, .int (nI P))]) hx hb dX4_manySources_85 rfl hl (by decide) rfl (fun ls hl => ?_)
        refine lv_iinc (v := (nI (k1 + 1))) (lv' := [(2, .int (nI (k1 + 1))), (1, .int (nI (v1 + 0))), (0, .ref (a 0)), (3, .int (wl_b z3)), (4, .int (nI P))]) hx hb dX4_manySources_86 hl (k := 2) rfl (wl_inc k1 1) (by decide) rfl (fun ls hl => ?_)
        refine lv_goto (tgt := 4) hx hb dX4_manySources_89 (by decide) ?_
        exact IH1 _ hb1 trivial ls H locs hP hD hS (lv_sub hl [2, 1, 0] rfl)
      · have hb1 := hb1.trans (if_pos c13)
        refine lv_iconst (v := (nI 1)) hx hb dX4_manySources_79 (by decide +kernel) ?_
        refine lv_goto (tgt := 84) hx hb dX4_manySources_80 (by decide) ?_
        refine lv_iadd hx hb dX4_manySources_84 ?_
        refine wl_re (show nI v1 + nI 1 = nI (v1 + 1) from nI_add v1 1) ?_
        refine lv_istore_n (lv' := [(1, .int (nI (v1 + 1))), (0, .ref (a 0)), (2, .int (nI k1)), (3, .int (wl_b z3)), (4, .int (nI P))]) hx hb dX4_manySources_85 rfl hl (by decide) rfl (fun ls hl => ?_)
        refine lv_iinc (v := (nI (k1 + 1))) (lv' := [(2, .int (nI (k1 + 1))), (1, .int (nI (v1 + 1))), (0, .ref (a 0)), (3, .int (wl_b z3)), (4, .int (nI P))]) hx hb dX4_manySources_86 hl (k := 2) rfl (wl_inc k1 1) (by decide) rfl (fun ls hl => ?_)
        refine lv_goto (tgt := 4) hx hb dX4_manySources_89 (by decide) ?_
        exact IH1 _ hb1 trivial ls H locs hP hD hS (lv_sub hl [2, 1, 0] rfl)
    · intro k3 v3 hlo3 hhi3 hI3 IH3 ls H locs hP hD hS hl
      have hb3 := m_X4_manySources_l15.eq_1 mnow k1 k3 v3
      refine lv_iload hx hb dX4_manySources_15 (lv_at hl 4 rfl) ?_
      refine lv_aload_n hx hb dX4_manySources_17 rfl (lv_at hl 0 rfl) ?_
      refine wl_callVi hC (c_X4_many (P := P) (h0)) lk_RX4_52 rfl ⟨rfl, rfl, Nat.le_of_ble_eq_true rfl, Nat.le_of_ble_eq_true rfl⟩ hP hD hS hA 0 rfl (T1 := 21) rfl hl.1 rfl (Nat.le_of_ble_eq_true rfl) dX4_manySources_18 ⟨Nat.zero_le _, Nat.zero_le _⟩ (fun z4 hz4 H locs hP hD hS => ?_)
      have hz4 := hz4.symm
      subst hz4
      refine wl_icmp_ge_n hx hb (by first | omega | exact Nat.lt_of_le_of_lt Nat.and_le_right (by omega) | exact Nat.pow_lt_pow_right (by omega) (by omega) | exact Nat.lt_trans (by assumption) (Nat.pow_lt_pow_right (by omega) (by omega))) (by first | omega | exact Nat.lt_of_le_of_lt Nat.and_le_right (by omega) | exact Nat.pow_lt_pow_right (by omega) (by omega) | exact Nat.lt_trans (by assumption) (Nat.pow_lt_pow_right (by omega) (by omega))) (tgt := 74) dX4_manySources_21 (by decide) (fun c5 => absurd c5 (by omega)) (fun c5 => ?_)
      refine lv_iload_n hx hb dX4_manySources_24 rfl (lv_at hl 3 rfl) ?_
      refine wl_if_eq_b hx hb (tgt := 66) dX4_manySources_25 (by decide) (fun c6 => ?_) (fun c6 => ?_)
      · have hb3 := hb3.trans (if_neg c6)
        refine lv_iconst (v := (nI 0)) hx hb dX4_manySources_66 (by decide +kernel) ?_
        refine lv_istore_n (lv' := [(3, .int (nI 0)), (0, .ref (a 0)), (1, .int (nI v1)), (2, .int (nI k1)), (4, .int (nI k3))]) hx hb dX4_manySources_67 rfl hl (by decide) rfl (fun ls hl => ?_)
        refine lv_iinc (v := (nI (k3 + 1))) (lv' := [(4, .int (nI (k3 + 1))), (3, .int (nI 0)), (0, .ref (a 0)), (1, .int (nI v1)), (2, .int (nI k1))]) hx hb dX4_manySources_68 hl (k := 4) rfl (wl_inc k3 1) (by decide) rfl (fun ls hl => ?_)
        refine lv_goto (tgt := 15) hx hb dX4_manySources_71 (by decide) ?_
        exact IH3 _ hb3 trivial ls H locs hP hD hS (lv_sub hl [2, 3, 4, 1, 0] rfl)
      · have hb3 := hb3.trans (if_pos c6)
        refine lv_aload_n hx hb dX4_manySources_28 rfl (lv_at hl 0 rfl) ?_
        refine g_M_0_now hC hP mw_385 dX4_manySources_29 ?_
        refine lv_bipush (v := (nI 11)) hx hb dX4_manySources_32 (by decide +kernel) ?_
        refine lv_iload hx hb dX4_manySources_34 (lv_at hl 4 rfl) ?_
        refine lv_iadd hx hb dX4_manySources_36 ?_
        refine wl_re (show nI 11 + nI k3 = nI (11 + k3) from nI_add 11 k3) ?_
        refine ld_M_1 hC hP (11 + k3) (by omega) dX4_manySources_37 ?_
        refine lv_iload_n hx hb dX4_manySources_38 rfl (lv_at hl 2 rfl) ?_
        obtain ⟨u7, hj7, hk7⟩ := wl_bx hb3
        refine wl_J u7 47 (fun z7 => [.int (wl_b z7)]) 5 (fun z7 => [(0, .ref (a 0)), (1, .int (nI v1)), (2, .int (nI k1)), (4, .int (nI k3))]) D A s0.heap (fun z7 => (wM E a mabove mbelow mlisted mfollowing mdayThen mbytesLong mtokenAt mtokenLong mtoken mvalue mnow mkept misKept mrefused mtempers mhis mtheirs mmanyBy mbytes manew mvalues)) (fun z7 hz7 ls H locs hP hD hS hl => ?_) (fun J7 => ?_)
        · have hb3 := hk7 z7 hz7
          refine lv_aload_n hx hb dX4_manySources_47 rfl (lv_at hl 0 rfl) ?_
          refine g_M_0_now hC hP mw_385 dX4_manySources_48 ?_
          refine lv_bipush (v := (nI 18)) hx hb dX4_manySources_51 (by decide +kernel) ?_
          refine ld_M_1 hC hP 18 (by omega) dX4_manySources_53 ?_
          refine lv_iload hx hb dX4_manySources_54 (lv_at hl 3 rfl) ?_
          refine wl_callPi hC (c_X4_has (set := (mnow 18)) (k := k3) ) lk_RX4_91 rfl ⟨rfl, rfl, Nat.le_of_ble_eq_true rfl, Nat.le_of_ble_eq_true rfl⟩ hP hS hA hl.1 rfl (Nat.le_of_ble_eq_true rfl) dX4_manySources_56 ⟨Nat.zero_le _, Nat.zero_le _⟩ (fun z9 hz9 H locs hP hS => ?_)
          have hb3 := wl_bz hb3 hz9
          refine wl_icmp_ne_b hx hb (tgt := 66) dX4_manySources_59 (by decide) (fun c10 => ?_) (fun c10 => ?_)
          · have hb3 := hb3.trans (if_neg c10)
            refine lv_iconst (v := (nI 0)) hx hb dX4_manySources_66 (by decide +kernel) ?_
            refine lv_istore_n (lv' := [(3, .int (nI 0)), (0, .ref (a 0)), (1, .int (nI v1)), (2, .int (nI k1)), (4, .int (nI k3))]) hx hb dX4_manySources_67 rfl hl (by decide) rfl (fun ls hl => ?_)
            refine lv_iinc (v := (nI (k3 + 1))) (lv' := [(4, .int (nI (k3 + 1))), (3, .int (nI 0)), (0, .ref (a 0)), (1, .int (nI v1)), (2, .int (nI k1))]) hx hb dX4_manySources_68 hl (k := 4) rfl (wl_inc k3 1) (by decide) rfl (fun ls hl => ?_)
            refine lv_goto (tgt := 15) hx hb dX4_manySources_71 (by decide) ?_
            exact IH3 _ hb3 trivial ls H locs hP hD hS (lv_sub hl [2, 3, 4, 1, 0] rfl)
          · have hb3 := hb3.trans (if_pos c10)
            refine lv_iconst (v := (nI 1)) hx hb dX4_manySources_62 (by decide +kernel) ?_
            refine lv_goto (tgt := 67) hx hb dX4_manySources_63 (by decide) ?_
            refine lv_istore_n (lv' := [(3, .int (nI 1)), (0, .ref (a 0)), (1, .int (nI v1)), (2, .int (nI k1)), (4, .int (nI k3))]) hx hb dX4_manySources_67 rfl hl (by decide) rfl (fun ls hl => ?_)
            refine lv_iinc (v := (nI (k3 + 1))) (lv' := [(4, .int (nI (k3 + 1))), (3, .int (nI 1)), (0, .ref (a 0)), (1, .int (nI v1)), (2, .int (nI k1))]) hx hb dX4_manySources_68 hl (k := 4) rfl (wl_inc k3 1) (by decide) rfl (fun ls hl => ?_)
            refine lv_goto (tgt := 15) hx hb dX4_manySources_71 (by decide) ?_
            exact IH3 _ hb3 trivial ls H locs hP hD hS (lv_sub hl [2, 3, 4, 1, 0] rfl)
        · refine lv_icmp_lt hx hb (tgt := 46) dX4_manySources_39 (by decide) (fun c8 => ?_) (fun c8 => ?_)
          · have hj7 := hj7.trans (if_pos c8)
            refine lv_iconst (v := (nI 0)) hx hb dX4_manySources_46 (by decide +kernel) ?_
            exact J7 _ hj7 ls H locs hP hD hS (lv_sub hl [0, 1, 2, 4] rfl)
          · have hj7 := hj7.trans (if_neg c8)
            refine lv_iconst (v := (nI 1)) hx hb dX4_manySources_42 (by decide +kernel) ?_
            refine lv_goto (tgt := 47) hx hb dX4_manySources_43 (by decide) ?_
            exact J7 _ hj7 ls H locs hP hD hS (lv_sub hl [0, 1, 2, 4] rfl)
def m_X4_areKindsEven_l18 (mnow : (Nat → Int32)) (k1 : Nat) (k3 : Nat) (v3 : Bool × Bool) : Bool × Bool := (wl_bnd ((if v3.1 = true then (wl_bnd (m_X4_kindOf mnow k3) (fun z8 => (if z8 = (nI k1) then (wl_bnd (m_X4_has (mnow 18) k3) (fun z10 => (if z10 = true then true else false))) else true))) else false) : Bool) (fun z6 => (if v3.2 = true then (wl_bnd (m_X4_kindOf mnow k3) (fun z13 => (if z13 = (nI k1) then (wl_bnd (m_X4_has (mnow 18) k3) (fun z15 => (if z15 = true then (z6, false) else (z6, true)))) else (z6, true)))) else (z6, false))))
def m_X4_areKindsEven_l4 (mnow : (Nat → Int32)) (P : Nat) (k1 : Nat) (v1 : Bool) : Bool := (wl_bnd (wl_iter (m_X4_areKindsEven_l18 mnow k1) P 0 (true, true)) (fun z3 => (if v1 = true then (if z3.1 = true then true else (if z3.2 = true then true else false)) else false)))
def m_X4_areKindsEven (mnow : (Nat → Int32)) (P : Nat) : Bool := (wl_bnd (wl_iter (m_X4_areKindsEven_l4 mnow P) 6 0 true) (fun z1 => z1))
set_option maxHeartbeats 4000000 in
set_option maxRecDepth 100000 in
theorem c_X4_areKindsEven {l : Launch} {D : va_G} {E : Nat → ClassId} {a : Nat → Nat} {mabove : Int64} {mbelow : Int64} {mlisted : Int32} {mfollowing : Int32} {mdayThen : Int32} {mbytesLong : Nat} {mtokenAt : Nat} {mtokenLong : Nat} {mtoken : Int32} {mvalue : Int32} {mnow : (Nat → Int32)} {mkept : (Nat → Int32)} {misKept : (Nat → Int32)} {mrefused : (Nat → Int32)} {mtempers : (Nat → Int32)} {mhis : (Nat → Int32)} {mtheirs : (Nat → Int32)} {mmanyBy : (Nat → Int32)} {mbytes : (Nat → Int32)} {manew : (Nat → Int32)} {mvalues : (Nat → Int32)} {P : Nat} (h0 : mnow 0 = nI P) (hP7 : P ≤ 7) : wl_Met (τ := Bool) l D E yX4_areKindsEven cX4_areKindsEven 6 (some .boolean) ({ frames := 1, cells := 0, slots := 0, locals := 21 } : Room) [.ref (a 0)] (wM E a mabove mbelow mlisted mfollowing mdayThen mbytesLong mtokenAt mtokenLong mtoken mvalue mnow mkept misKept mrefused mtempers mhis mtheirs mmanyBy mbytes manew mvalues) (fun z => some (.int (wl_b z))) (fun _ => (wM E a mabove mbelow mlisted mfollowing mdayThen mbytesLong mtokenAt mtokenLong mtoken mvalue mnow mkept misKept mrefused mtempers mhis mtheirs mmanyBy mbytes manew mvalues)) (m_X4_areKindsEven mnow P) := by
  refine wl_enter (own := RX4) (by decide +kernel) rfl (Nat.le_of_ble_eq_true rfl) ?_
  intro p0 e0 s0 m0 bl0 mt0 c0 A hC hr hlk hA H locs hP hD hS ls hl
  have hx := hC.1
  have hb := hC.2.1
  have hl : lv_has ls 6 [(0, .ref (a 0))] := hl
  have hm := m_X4_areKindsEven.eq_1 mnow P
  refine lv_iconst (v := (nI 1)) hx hb dX4_areKindsEven_0 (by decide +kernel) ?_
  refine lv_istore_n (lv' := [(1, .int (nI 1)), (0, .ref (a 0))]) hx hb dX4_areKindsEven_1 rfl hl (by decide) rfl (fun ls hl => ?_)
  refine lv_iconst (v := (nI 0)) hx hb dX4_areKindsEven_2 (by decide +kernel) ?_
  refine lv_istore_n (lv' := [(2, .int (nI 0)), (1, .int (nI 1)), (0, .ref (a 0))]) hx hb dX4_areKindsEven_3 rfl hl (by decide) rfl (fun ls hl => ?_)
  obtain ⟨u1, hu1, hk1⟩ := wl_bx hm
  refine wl_for (D := D) (A := A) (H0 := s0.heap) (m_X4_areKindsEven_l4 mnow P) 6 0 6 true 4 6 (fun k1 v1 => [(0, .ref (a 0)), (1, .int (wl_b v1)), (2, .int (nI k1))]) (fun k1 v1 => (wM E a mabove mbelow mlisted mfollowing mdayThen mbytesLong mtokenAt mtokenLong mtoken mvalue mnow mkept misKept mrefused mtempers mhis mtheirs mmanyBy mbytes manew mvalues)) (fun k1 v1 => True) (by omega) trivial ?_ ?_ hP hD hS (lv_sub hl [2, 1, 0] rfl)
  · intro z1 hv1 hI1 ls H locs hP hD hS hl
    have hm := hk1 z1 (hu1.trans hv1)
    refine lv_iload_n hx hb dX4_areKindsEven_4 rfl (lv_at hl 2 rfl) ?_
    refine lv_bipush (v := (nI 6)) hx hb dX4_areKindsEven_5 (by decide +kernel) ?_
    refine wl_icmp_ge_n hx hb (by first | omega | exact Nat.lt_of_le_of_lt Nat.and_le_right (by omega) | exact Nat.pow_lt_pow_right (by omega) (by omega) | exact Nat.lt_trans (by assumption) (Nat.pow_lt_pow_right (by omega) (by omega))) (by first | omega | exact Nat.lt_of_le_of_lt Nat.and_le_right (by omega) | exact Nat.pow_lt_pow_right (by omega) (by omega) | exact Nat.lt_trans (by assumption) (Nat.pow_lt_pow_right (by omega) (by omega))) (tgt := 130) dX4_areKindsEven_7 (by decide) (fun c22 => ?_) (fun c22 => absurd (by omega) c22)
    refine lv_iload_n hx hb dX4_areKindsEven_130 rfl (lv_at hl 1 rfl) ?_
    exact wl_zret (v := z1) hC hr hlk hm rfl hP hD hS dX4_areKindsEven_131
  · intro k1 v1 hlo1 hhi1 hI1 IH1 ls H locs hP hD hS hl
    have hb1 := m_X4_areKindsEven_l4.eq_1 mnow P k1 v1
    refine lv_iload_n hx hb dX4_areKindsEven_4 rfl (lv_at hl 2 rfl) ?_
    refine lv_bipush (v := (nI 6)) hx hb dX4_areKindsEven_5 (by decide +kernel) ?_
    refine wl_icmp_ge_n hx hb (by first | omega | exact Nat.lt_of_le_of_lt Nat.and_le_right (by omega) | exact Nat.pow_lt_pow_right (by omega) (by omega) | exact Nat.lt_trans (by assumption) (Nat.pow_lt_pow_right (by omega) (by omega))) (by first | omega | exact Nat.lt_of_le_of_lt Nat.and_le_right (by omega) | exact Nat.pow_lt_pow_right (by omega) (by omega) | exact Nat.lt_trans (by assumption) (Nat.pow_lt_pow_right (by omega) (by omega))) (tgt := 130) dX4_areKindsEven_7 (by decide) (fun c2 => absurd c2 (by omega)) (fun c2 => ?_)
    refine lv_iconst (v := (nI 1)) hx hb dX4_areKindsEven_10 (by decide +kernel) ?_
    refine lv_istore_n (lv' := [(3, .int (nI 1)), (0, .ref (a 0)), (1, .int (wl_b v1)), (2, .int (nI k1))]) hx hb dX4_areKindsEven_11 rfl hl (by decide) rfl (fun ls hl => ?_)
    refine lv_iconst (v := (nI 1)) hx hb dX4_areKindsEven_12 (by decide +kernel) ?_
    refine lv_istore (lv' := [(4, .int (nI 1)), (3, .int (nI 1)), (0, .ref (a 0)), (1, .int (wl_b v1)), (2, .int (nI k1))]) hx hb dX4_areKindsEven_13 hl (by decide) rfl (fun ls hl => ?_)
    refine lv_iconst (v := (nI 0)) hx hb dX4_areKindsEven_15 (by decide +kernel) ?_
    refine lv_istore (lv' := [(5, .int (nI 0)), (4, .int (nI 1)), (3, .int (nI 1)), (0, .ref (a 0)), (1, .int (wl_b v1)), (2, .int (nI k1))]) hx hb dX4_areKindsEven_16 hl (by decide) rfl (fun ls hl => ?_)
    obtain ⟨u3, hu3, hk3⟩ := wl_bx hb1
    refine wl_for (D := D) (A := A) (H0 := s0.heap) (m_X4_areKindsEven_l18 mnow k1) P 0 P (true, true) 18 6 (fun k3 v3 => [(0, .ref (a 0)), (1, .int (wl_b v1)), (2, .int (nI k1)), (3, .int (wl_b v3.1)), (4, .int (wl_b v3.2)), (5, .int (nI k3))]) (fun k3 v3 => (wM E a mabove mbelow mlisted mfollowing mdayThen mbytesLong mtokenAt mtokenLong mtoken mvalue mnow mkept misKept mrefused mtempers mhis mtheirs mmanyBy mbytes manew mvalues)) (fun k3 v3 => True) (by omega) trivial ?_ ?_ hP hD hS (lv_sub hl [3, 4, 5, 2, 1, 0] rfl)
    · intro z3 hv3 hI3 ls H locs hP hD hS hl
      have hb1 := hk3 z3 (hu3.trans hv3)
      refine lv_iload hx hb dX4_areKindsEven_18 (lv_at hl 5 rfl) ?_
      refine lv_aload_n hx hb dX4_areKindsEven_20 rfl (lv_at hl 0 rfl) ?_
      refine wl_callVi hC (c_X4_many (P := P) (h0)) lk_RX4_52 rfl ⟨rfl, rfl, Nat.le_of_ble_eq_true rfl, Nat.le_of_ble_eq_true rfl⟩ hP hD hS hA 0 rfl (T1 := 21) rfl hl.1 rfl (Nat.le_of_ble_eq_true rfl) dX4_areKindsEven_21 ⟨Nat.zero_le _, Nat.zero_le _⟩ (fun z17 hz17 H locs hP hD hS => ?_)
      have hz17 := hz17.symm
      subst hz17
      refine wl_icmp_ge_n hx hb (by first | omega | exact Nat.lt_of_le_of_lt Nat.and_le_right (by omega) | exact Nat.pow_lt_pow_right (by omega) (by omega) | exact Nat.lt_trans (by assumption) (Nat.pow_lt_pow_right (by omega) (by omega))) (by first | omega | exact Nat.lt_of_le_of_lt Nat.and_le_right (by omega) | exact Nat.pow_lt_pow_right (by omega) (by omega) | exact Nat.lt_trans (by assumption) (Nat.pow_lt_pow_right (by omega) (by omega))) (tgt := 105) dX4_areKindsEven_24 (by decide) (fun c18 => ?_) (fun c18 => absurd (by omega) c18)
      refine lv_iload_n hx hb dX4_areKindsEven_105 rfl (lv_at hl 1 rfl) ?_
      refine wl_if_eq_b hx hb (tgt := 122) dX4_areKindsEven_106 (by decide) (fun c19 => ?_) (fun c19 => ?_)
      · have hb1 := hb1.trans (if_neg c19)
        refine lv_iconst (v := (nI 0)) hx hb dX4_areKindsEven_122 (by decide +kernel) ?_
        refine lv_istore_n (lv' := [(1, .int (nI 0)), (0, .ref (a 0)), (2, .int (nI k1)), (3, .int (wl_b z3.1)), (4, .int (wl_b z3.2)), (5, .int (nI P))]) hx hb dX4_areKindsEven_123 rfl hl (by decide) rfl (fun ls hl => ?_)
        refine lv_iinc (v := (nI (k1 + 1))) (lv' := [(2, .int (nI (k1 + 1))), (1, .int (nI 0)), (0, .ref (a 0)), (3, .int (wl_b z3.1)), (4, .int (wl_b z3.2)), (5, .int (nI P))]) hx hb dX4_areKindsEven_124 hl (k := 2) rfl (wl_inc k1 1) (by decide) rfl (fun ls hl => ?_)
        refine lv_goto (tgt := 4) hx hb dX4_areKindsEven_127 (by decide) ?_
        exact IH1 _ hb1 trivial ls H locs hP hD hS (lv_sub hl [2, 1, 0] rfl)
      · have hb1 := hb1.trans (if_pos c19)
        refine lv_iload_n hx hb dX4_areKindsEven_109 rfl (lv_at hl 3 rfl) ?_
        refine wl_if_ne_b hx hb (tgt := 118) dX4_areKindsEven_110 (by decide) (fun c20 => ?_) (fun c20 => ?_)
        · have hb1 := hb1.trans (if_pos c20)
          refine lv_iconst (v := (nI 1)) hx hb dX4_areKindsEven_118 (by decide +kernel) ?_
          refine lv_goto (tgt := 123) hx hb dX4_areKindsEven_119 (by decide) ?_
          refine lv_istore_n (lv' := [(1, .int (nI 1)), (0, .ref (a 0)), (2, .int (nI k1)), (3, .int (wl_b z3.1)), (4, .int (wl_b z3.2)), (5, .int (nI P))]) hx hb dX4_areKindsEven_123 rfl hl (by decide) rfl (fun ls hl => ?_)
          refine lv_iinc (v := (nI (k1 + 1))) (lv' := [(2, .int (nI (k1 + 1))), (1, .int (nI 1)), (0, .ref (a 0)), (3, .int (wl_b z3.1)), (4, .int (wl_b z3.2)), (5, .int (nI P))]) hx hb dX4_areKindsEven_124 hl (k := 2) rfl (wl_inc k1 1) (by decide) rfl (fun ls hl => ?_)
          refine lv_goto (tgt := 4) hx hb dX4_areKindsEven_127 (by decide) ?_
          exact IH1 _ hb1 trivial ls H locs hP hD hS (lv_sub hl [2, 1, 0] rfl)
        · have hb1 := hb1.trans (if_neg c20)
          refine lv_iload hx hb dX4_areKindsEven_113 (lv_at hl 4 rfl) ?_
          refine wl_if_eq_b hx hb (tgt := 122) dX4_areKindsEven_115 (by decide) (fun c21 => ?_) (fun c21 => ?_)
          · have hb1 := hb1.trans (if_neg c21)
            refine lv_iconst (v := (nI 0)) hx hb dX4_areKindsEven_122 (by decide +kernel) ?_
            refine lv_istore_n (lv' := [(1, .int (nI 0)), (0, .ref (a 0)), (2, .int (nI k1)), (3, .int (wl_b z3.1)), (4, .int (wl_b z3.2)), (5, .int (nI P))]) hx hb dX4_areKindsEven_123 rfl hl (by decide) rfl (fun ls hl => ?_)
            refine lv_iinc (v := (nI (k1 + 1))) (lv' := [(2, .int (nI (k1 + 1))), (1, .int (nI 0)), (0, .ref (a 0)), (3, .int (wl_b z3.1)), (4, .int (wl_b z3.2)), (5, .int (nI P))]) hx hb dX4_areKindsEven_124 hl (k := 2) rfl (wl_inc k1 1) (by decide) rfl (fun ls hl => ?_)
            refine lv_goto (tgt := 4) hx hb dX4_areKindsEven_127 (by decide) ?_
            exact IH1 _ hb1 trivial ls H locs hP hD hS (lv_sub hl [2, 1, 0] rfl)
          · have hb1 := hb1.trans (if_pos c21)
            refine lv_iconst (v := (nI 1)) hx hb dX4_areKindsEven_118 (by decide +kernel) ?_
            refine lv_goto (tgt := 123) hx hb dX4_areKindsEven_119 (by decide) ?_
            refine lv_istore_n (lv' := [(1, .int (nI 1)), (0, .ref (a 0)), (2, .int (nI k1)), (3, .int (wl_b z3.1)), (4, .int (wl_b z3.2)), (5, .int (nI P))]) hx hb dX4_areKindsEven_123 rfl hl (by decide) rfl (fun ls hl => ?_)
            refine lv_iinc (v := (nI (k1 + 1))) (lv' := [(2, .int (nI (k1 + 1))), (1, .int (nI 1)), (0, .ref (a 0)), (3, .int (wl_b z3.1)), (4, .int (wl_b z3.2)), (5, .int (nI P))]) hx hb dX4_areKindsEven_124 hl (k := 2) rfl (wl_inc k1 1) (by decide) rfl (fun ls hl => ?_)
            refine lv_goto (tgt := 4) hx hb dX4_areKindsEven_127 (by decide) ?_
            exact IH1 _ hb1 trivial ls H locs hP hD hS (lv_sub hl [2, 1, 0] rfl)
    · intro k3 v3 hlo3 hhi3 hI3 IH3 ls H locs hP hD hS hl
      have hb3 := m_X4_areKindsEven_l18.eq_1 mnow k1 k3 v3
      refine lv_iload hx hb dX4_areKindsEven_18 (lv_at hl 5 rfl) ?_
      refine lv_aload_n hx hb dX4_areKindsEven_20 rfl (lv_at hl 0 rfl) ?_
      refine wl_callVi hC (c_X4_many (P := P) (h0)) lk_RX4_52 rfl ⟨rfl, rfl, Nat.le_of_ble_eq_true rfl, Nat.le_of_ble_eq_true rfl⟩ hP hD hS hA 0 rfl (T1 := 21) rfl hl.1 rfl (Nat.le_of_ble_eq_true rfl) dX4_areKindsEven_21 ⟨Nat.zero_le _, Nat.zero_le _⟩ (fun z4 hz4 H locs hP hD hS => ?_)
      have hz4 := hz4.symm
      subst hz4
      refine wl_icmp_ge_n hx hb (by first | omega | exact Nat.lt_of_le_of_lt Nat.and_le_right (by omega) | exact Nat.pow_lt_pow_right (by omega) (by omega) | exact Nat.lt_trans (by assumption) (Nat.pow_lt_pow_right (by omega) (by omega))) (by first | omega | exact Nat.lt_of_le_of_lt Nat.and_le_right (by omega) | exact Nat.pow_lt_pow_right (by omega) (by omega) | exact Nat.lt_trans (by assumption) (Nat.pow_lt_pow_right (by omega) (by omega))) (tgt := 105) dX4_areKindsEven_24 (by decide) (fun c5 => absurd c5 (by omega)) (fun c5 => ?_)
      refine lv_iload_n hx hb dX4_areKindsEven_27 rfl (lv_at hl 3 rfl) ?_
      obtain ⟨u6, hj6, hk6⟩ := wl_bx hb3
      refine wl_J u6 61 (fun z6 => [.int (wl_b z6)]) 6 (fun z6 => [(0, .ref (a 0)), (1, .int (wl_b v1)), (2, .int (nI k1)), (4, .int (wl_b v3.2)), (5, .int (nI k3))]) D A s0.heap (fun z6 => (wM E a mabove mbelow mlisted mfollowing mdayThen mbytesLong mtokenAt mtokenLong mtoken mvalue mnow mkept misKept mrefused mtempers mhis mtheirs mmanyBy mbytes manew mvalues)) (fun z6 hz6 ls H locs hP hD hS hl => ?_) (fun J6 => ?_)
      · have hb3 := hk6 z6 hz6
        refine lv_istore_n (lv' := [(3, .int (wl_b z6)), (0, .ref (a 0)), (1, .int (wl_b v1)), (2, .int (nI k1)), (4, .int (wl_b v3.2)), (5, .int (nI k3))]) hx hb dX4_areKindsEven_61 rfl hl (by decide) rfl (fun ls hl => ?_)
        refine lv_iload hx hb dX4_areKindsEven_62 (lv_at hl 4 rfl) ?_
        refine wl_if_eq_b hx hb (tgt := 96) dX4_areKindsEven_64 (by decide) (fun c12 => ?_) (fun c12 => ?_)
        · have hb3 := hb3.trans (if_neg c12)
          refine lv_iconst (v := (nI 0)) hx hb dX4_areKindsEven_96 (by decide +kernel) ?_
          refine lv_istore (lv' := [(4, .int (nI 0)), (3, .int (wl_b z6)), (0, .ref (a 0)), (1, .int (wl_b v1)), (2, .int (nI k1)), (5, .int (nI k3))]) hx hb dX4_areKindsEven_97 hl (by decide) rfl (fun ls hl => ?_)
          refine lv_iinc (v := (nI (k3 + 1))) (lv' := [(5, .int (nI (k3 + 1))), (4, .int (nI 0)), (3, .int (wl_b z6)), (0, .ref (a 0)), (1, .int (wl_b v1)), (2, .int (nI k1))]) hx hb dX4_areKindsEven_99 hl (k := 5) rfl (wl_inc k3 1) (by decide) rfl (fun ls hl => ?_)
          refine lv_goto (tgt := 18) hx hb dX4_areKindsEven_102 (by decide) ?_
          exact IH3 _ hb3 trivial ls H locs hP hD hS (lv_sub hl [3, 4, 5, 2, 1, 0] rfl)
        · have hb3 := hb3.trans (if_pos c12)
          refine lv_aload_n hx hb dX4_areKindsEven_67 rfl (lv_at hl 1 rfl) ?_
          refine lv_iload hx hb dX4_areKindsEven_68 (lv_at hl 5 rfl) ?_
          refine wl_callVi hC (c_X4_kindOf (p := k3) (by first | assumption | omega)) lk_RX4_88 rfl ⟨rfl, rfl, Nat.le_of_ble_eq_true rfl, Nat.le_of_ble_eq_true rfl⟩ hP hD hS hA 0 rfl (T1 := 21) rfl hl.1 rfl (Nat.le_of_ble_eq_true rfl) dX4_areKindsEven_70 ⟨Nat.zero_le _, Nat.zero_le _⟩ (fun z13 hz13 H locs hP hD hS => ?_)
          have hb3 := wl_bz hb3 hz13
          refine lv_iload_n hx hb dX4_areKindsEven_73 rfl (lv_at hl 3 rfl) ?_
          refine lv_icmp_ne hx hb (tgt := 92) dX4_areKindsEven_74 (by decide) (fun c14 => ?_) (fun c14 => ?_)
          · have hb3 := hb3.trans (if_neg c14)
            refine lv_iconst (v := (nI 1)) hx hb dX4_areKindsEven_92 (by decide +kernel) ?_
            refine lv_goto (tgt := 97) hx hb dX4_areKindsEven_93 (by decide) ?_
            refine lv_istore (lv' := [(4, .int (nI 1)), (3, .int (wl_b z6)), (0, .ref (a 0)), (1, .int (wl_b v1)), (2, .int (nI k1)), (5, .int (nI k3))]) hx hb dX4_areKindsEven_97 hl (by decide) rfl (fun ls hl => ?_)
            refine lv_iinc (v := (nI (k3 + 1))) (lv' := [(5, .int (nI (k3 + 1))), (4, .int (nI 1)), (3, .int (wl_b z6)), (0, .ref (a 0)), (1, .int (wl_b v1)), (2, .int (nI k1))]) hx hb dX4_areKindsEven_99 hl (k := 5) rfl (wl_inc k3 1) (by decide) rfl (fun ls hl => ?_)
            refine lv_goto (tgt := 18) hx hb dX4_areKindsEven_102 (by decide) ?_
            exact IH3 _ hb3 trivial ls H locs hP hD hS (lv_sub hl [3, 4, 5, 2, 1, 0] rfl)
          · have hb3 := hb3.trans (if_pos c14)
            refine lv_aload_n hx hb dX4_areKindsEven_77 rfl (lv_at hl 1 rfl) ?_
            refine g_M_0_now hC hP mw_385 dX4_areKindsEven_78 ?_
            refine lv_bipush (v := (nI 18)) hx hb dX4_areKindsEven_81 (by decide +kernel) ?_
            refine ld_M_1 hC hP 18 (by omega) dX4_areKindsEven_83 ?_
            refine lv_iload hx hb dX4_areKindsEven_84 (lv_at hl 5 rfl) ?_
            refine wl_callPi hC (c_X4_has (set := (mnow 18)) (k := k3) ) lk_RX4_91 rfl ⟨rfl, rfl, Nat.le_of_ble_eq_true rfl, Nat.le_of_ble_eq_true rfl⟩ hP hS hA hl.1 rfl (Nat.le_of_ble_eq_true rfl) dX4_areKindsEven_86 ⟨Nat.zero_le _, Nat.zero_le _⟩ (fun z15 hz15 H locs hP hS => ?_)
            have hb3 := wl_bz hb3 hz15
            refine wl_if_ne_b hx hb (tgt := 96) dX4_areKindsEven_89 (by decide) (fun c16 => ?_) (fun c16 => ?_)
            · have hb3 := hb3.trans (if_pos c16)
              refine lv_iconst (v := (nI 0)) hx hb dX4_areKindsEven_96 (by decide +kernel) ?_
              refine lv_istore (lv' := [(4, .int (nI 0)), (3, .int (wl_b z6)), (0, .ref (a 0)), (1, .int (wl_b v1)), (2, .int (nI k1)), (5, .int (nI k3))]) hx hb dX4_areKindsEven_97 hl (by decide) rfl (fun ls hl => ?_)
              refine lv_iinc (v := (nI (k3 + 1))) (lv' := [(5, .int (nI (k3 + 1))), (4, .int (nI 0)), (3, .int (wl_b z6)), (0, .ref (a 0)), (1, .int (wl_b v1)), (2, .int (nI k1))]) hx hb dX4_areKindsEven_99 hl (k := 5) rfl (wl_inc k3 1) (by decide) rfl (fun ls hl => ?_)
              refine lv_goto (tgt := 18) hx hb dX4_areKindsEven_102 (by decide) ?_
              exact IH3 _ hb3 trivial ls H locs hP hD hS (lv_sub hl [3, 4, 5, 2, 1, 0] rfl)
            · have hb3 := hb3.trans (if_neg c16)
              refine lv_iconst (v := (nI 1)) hx hb dX4_areKindsEven_92 (by decide +kernel) ?_
              refine lv_goto (tgt := 97) hx hb dX4_areKindsEven_93 (by decide) ?_
              refine lv_istore (lv' := [(4, .int (nI 1)), (3, .int (wl_b z6)), (0, .ref (a 0)), (1, .int (wl_b v1)), (2, .int (nI k1)), (5, .int (nI k3))]) hx hb dX4_areKindsEven_97 hl (by decide) rfl (fun ls hl => ?_)
              refine lv_iinc (v := (nI (k3 + 1))) (lv' := [(5, .int (nI (k3 + 1))), (4, .int (nI 1)), (3, .int (wl_b z6)), (0, .ref (a 0)), (1, .int (wl_b v1)), (2, .int (nI k1))]) hx hb dX4_areKindsEven_99 hl (k := 5) rfl (wl_inc k3 1) (by decide) rfl (fun ls hl => ?_)
              refine lv_goto (tgt := 18) hx hb dX4_areKindsEven_102 (by decide) ?_
              exact IH3 _ hb3 trivial ls H locs hP hD hS (lv_sub hl [3, 4, 5, 2, 1, 0] rfl)
      · refine wl_if_eq_b hx hb (tgt := 60) dX4_areKindsEven_28 (by decide) (fun c7 => ?_) (fun c7 => ?_)
        · have hj6 := hj6.trans (if_neg c7)
          refine lv_iconst (v := (nI 0)) hx hb dX4_areKindsEven_60 (by decide +kernel) ?_
          exact J6 _ hj6 ls H locs hP hD hS (lv_sub hl [0, 1, 2, 4, 5] rfl)
        · have hj6 := hj6.trans (if_pos c7)
          refine lv_aload_n hx hb dX4_areKindsEven_31 rfl (lv_at hl 0 rfl) ?_
          refine lv_iload hx hb dX4_areKindsEven_32 (lv_at hl 5 rfl) ?_
          refine wl_callVi hC (c_X4_kindOf (p := k3) (by first | assumption | omega)) lk_RX4_88 rfl ⟨rfl, rfl, Nat.le_of_ble_eq_true rfl, Nat.le_of_ble_eq_true rfl⟩ hP hD hS hA 0 rfl (T1 := 21) rfl hl.1 rfl (Nat.le_of_ble_eq_true rfl) dX4_areKindsEven_34 ⟨Nat.zero_le _, Nat.zero_le _⟩ (fun z8 hz8 H locs hP hD hS => ?_)
          have hj6 := wl_bz hj6 hz8
          refine lv_iload_n hx hb dX4_areKindsEven_37 rfl (lv_at hl 2 rfl) ?_
          refine lv_icmp_ne hx hb (tgt := 56) dX4_areKindsEven_38 (by decide) (fun c9 => ?_) (fun c9 => ?_)
          · have hj6 := hj6.trans (if_neg c9)
            refine lv_iconst (v := (nI 1)) hx hb dX4_areKindsEven_56 (by decide +kernel) ?_
            refine lv_goto (tgt := 61) hx hb dX4_areKindsEven_57 (by decide) ?_
            exact J6 _ hj6 ls H locs hP hD hS (lv_sub hl [0, 1, 2, 4, 5] rfl)
          · have hj6 := hj6.trans (if_pos c9)
            refine lv_aload_n hx hb dX4_areKindsEven_41 rfl (lv_at hl 0 rfl) ?_
            refine g_M_0_now hC hP mw_385 dX4_areKindsEven_42 ?_
            refine lv_bipush (v := (nI 18)) hx hb dX4_areKindsEven_45 (by decide +kernel) ?_
            refine ld_M_1 hC hP 18 (by omega) dX4_areKindsEven_47 ?_
            refine lv_iload hx hb dX4_areKindsEven_48 (lv_at hl 5 rfl) ?_
            refine wl_callPi hC (c_X4_has (set := (mnow 18)) (k := k3) ) lk_RX4_91 rfl ⟨rfl, rfl, Nat.le_of_ble_eq_true rfl, Nat.le_of_ble_eq_true rfl⟩ hP hS hA hl.1 rfl (Nat.le_of_ble_eq_true rfl) dX4_areKindsEven_50 ⟨Nat.zero_le _, Nat.zero_le _⟩ (fun z10 hz10 H locs hP hS => ?_)
            have hj6 := wl_bz hj6 hz10
            refine wl_if_eq_b hx hb (tgt := 60) dX4_areKindsEven_53 (by decide) (fun c11 => ?_) (fun c11 => ?_)
            · have hj6 := hj6.trans (if_neg c11)
              refine lv_iconst (v := (nI 0)) hx hb dX4_areKindsEven_60 (by decide +kernel) ?_
              exact J6 _ hj6 ls H locs hP hD hS (lv_sub hl [0, 1, 2, 4, 5] rfl)
            · have hj6 := hj6.trans (if_pos c11)
              refine lv_iconst (v := (nI 1)) hx hb dX4_areKindsEven_56 (by decide +kernel) ?_
              refine lv_goto (tgt := 61) hx hb dX4_areKindsEven_57 (by decide) ?_
              exact J6 _ hj6 ls H locs hP hD hS (lv_sub hl [0, 1, 2, 4, 5] rfl)
def m_X4_source (mnow : (Nat → Int32)) (mrefused : (Nat → Int32)) (what : Int32) (P : Nat) : Int32 × (Nat → Int32) := (if what = 0 then (wl_bnd (m_X4_manySources mnow P) (fun z6 => (z6, mrefused))) else (if what = (nI 1) then (wl_bnd (m_X4_areKindsEven mnow P) (fun z4 => (if z4 = true then ((nI 1), mrefused) else ((nI 0), mrefused)))) else (wl_bnd (m_X4_bad mrefused (-2)) (fun z3 => (z3.1, z3.2)))))
set_option maxHeartbeats 4000000 in
set_option maxRecDepth 100000 in
theorem c_X4_source {l : Launch} {D : va_G} {E : Nat → ClassId} {a : Nat → Nat} {mabove : Int64} {mbelow : Int64} {mlisted : Int32} {mfollowing : Int32} {mdayThen : Int32} {mbytesLong : Nat} {mtokenAt : Nat} {mtokenLong : Nat} {mtoken : Int32} {mvalue : Int32} {mnow : (Nat → Int32)} {mkept : (Nat → Int32)} {misKept : (Nat → Int32)} {mrefused : (Nat → Int32)} {mtempers : (Nat → Int32)} {mhis : (Nat → Int32)} {mtheirs : (Nat → Int32)} {mmanyBy : (Nat → Int32)} {mbytes : (Nat → Int32)} {manew : (Nat → Int32)} {mvalues : (Nat → Int32)} {what : Int32} {P : Nat} (h0 : mnow 0 = nI P) (hP7 : P ≤ 7) : wl_Met (τ := Int32 × (Nat → Int32)) l D E yX4_source cX4_source 2 (some .int) ({ frames := 2, cells := 0, slots := 0, locals := 46 } : Room) [.ref (a 0), .int what] (wM E a mabove mbelow mlisted mfollowing mdayThen mbytesLong mtokenAt mtokenLong mtoken mvalue mnow mkept misKept mrefused mtempers mhis mtheirs mmanyBy mbytes manew mvalues) (fun z => some (.int z.1)) (fun z => (wM E a mabove mbelow mlisted mfollowing mdayThen mbytesLong mtokenAt mtokenLong mtoken mvalue mnow mkept misKept z.2 mtempers mhis mtheirs mmanyBy mbytes manew mvalues)) (m_X4_source mnow mrefused what P) := by
  refine wl_enter (own := RX4) (by decide +kernel) rfl (Nat.le_of_ble_eq_true rfl) ?_
  intro p0 e0 s0 m0 bl0 mt0 c0 A hC hr hlk hA H locs hP hD hS ls hl
  have hx := hC.1
  have hb := hC.2.1
  have hl : lv_has ls 2 [(0, .ref (a 0)), (1, .int what)] := hl
  have hm := m_X4_source.eq_1 mnow mrefused what P
  refine lv_iload_n hx hb dX4_source_0 rfl (lv_at hl 1 rfl) ?_
  refine lv_if_ne hx hb (tgt := 11) dX4_source_1 (by decide) (fun c1 => ?_) (fun c1 => ?_)
  · have hm := hm.trans (if_neg c1)
    refine lv_iload_n hx hb dX4_source_11 rfl (lv_at hl 1 rfl) ?_
    refine lv_iconst (v := (nI 1)) hx hb dX4_source_12 (by decide +kernel) ?_
    refine lv_icmp_ne hx hb (tgt := 31) dX4_source_13 (by decide) (fun c2 => ?_) (fun c2 => ?_)
    · have hm := hm.trans (if_neg c2)
      refine lv_aload_n hx hb dX4_source_31 rfl (lv_at hl 0 rfl) ?_
      refine lv_bipush (v := (-2)) hx hb dX4_source_32 (by decide +kernel) ?_
      refine wl_callVi hC (c_X4_bad (tells := (-2)) ) lk_RX4_62 rfl ⟨rfl, rfl, Nat.le_of_ble_eq_true rfl, Nat.le_of_ble_eq_true rfl⟩ hP hD hS hA 0 rfl (T1 := 21) rfl hl.1 rfl (Nat.le_of_ble_eq_true rfl) dX4_source_34 ⟨Nat.zero_le _, Nat.zero_le _⟩ (fun z3 hz3 H locs hP hD hS => ?_)
      have hm := wl_bz hm hz3
      exact wl_iret hC hr hlk hm rfl hP hD hS dX4_source_37
    · have hm := hm.trans (if_pos c2)
      refine lv_aload_n hx hb dX4_source_16 rfl (lv_at hl 0 rfl) ?_
      refine wl_callVi hC (c_X4_areKindsEven (P := P) (h0) (by first | assumption | omega)) lk_RX4_157 rfl ⟨rfl, rfl, Nat.le_of_ble_eq_true rfl, Nat.le_of_ble_eq_true rfl⟩ hP hD hS hA 0 rfl (T1 := 21) rfl hl.1 rfl (Nat.le_of_ble_eq_true rfl) dX4_source_17 ⟨Nat.zero_le _, Nat.zero_le _⟩ (fun z4 hz4 H locs hP hD hS => ?_)
      have hm := wl_bz hm hz4
      refine wl_if_eq_b hx hb (tgt := 27) dX4_source_20 (by decide) (fun c5 => ?_) (fun c5 => ?_)
      · have hm := hm.trans (if_neg c5)
        refine lv_iconst (v := (nI 0)) hx hb dX4_source_27 (by decide +kernel) ?_
        refine lv_goto (tgt := 37) hx hb dX4_source_28 (by decide) ?_
        exact wl_iret hC hr hlk hm rfl hP hD hS dX4_source_37
      · have hm := hm.trans (if_pos c5)
        refine lv_iconst (v := (nI 1)) hx hb dX4_source_23 (by decide +kernel) ?_
        refine lv_goto (tgt := 37) hx hb dX4_source_24 (by decide) ?_
        exact wl_iret hC hr hlk hm rfl hP hD hS dX4_source_37
  · have hm := hm.trans (if_pos c1)
    refine lv_aload_n hx hb dX4_source_4 rfl (lv_at hl 0 rfl) ?_
    refine wl_callVi hC (c_X4_manySources (P := P) (h0) (by first | assumption | omega)) lk_RX4_154 rfl ⟨rfl, rfl, Nat.le_of_ble_eq_true rfl, Nat.le_of_ble_eq_true rfl⟩ hP hD hS hA 0 rfl (T1 := 21) rfl hl.1 rfl (Nat.le_of_ble_eq_true rfl) dX4_source_5 ⟨Nat.zero_le _, Nat.zero_le _⟩ (fun z6 hz6 H locs hP hD hS => ?_)
    have hm := wl_bz hm hz6
    refine lv_goto (tgt := 37) hx hb dX4_source_8 (by decide) ?_
    exact wl_iret hC hr hlk hm rfl hP hD hS dX4_source_37
def m_X4_fraction_l6 (v1 : Nat × Nat) : (Nat × Nat) ⊕ (Nat) := (if v1.2 = 0 then (Sum.inr v1.1) else (Sum.inl (v1.2, (v1.1 % v1.2))))
def m_X4_fraction (over : Nat) (under : Nat) : Int64 × Int64 := (wl_bnd (wl_run m_X4_fraction_l6 default (under + 1) (over, under)) (fun z1 => ((lN (over / z1)), (lN (under / z1)))))
set_option maxHeartbeats 4000000 in
set_option maxRecDepth 100000 in
theorem c_X4_fraction {l : Launch} {D : va_G} {E : Nat → ClassId} {a : Nat → Nat} {mabove : Int64} {mbelow : Int64} {mlisted : Int32} {mfollowing : Int32} {mdayThen : Int32} {mbytesLong : Nat} {mtokenAt : Nat} {mtokenLong : Nat} {mtoken : Int32} {mvalue : Int32} {mnow : (Nat → Int32)} {mkept : (Nat → Int32)} {misKept : (Nat → Int32)} {mrefused : (Nat → Int32)} {mtempers : (Nat → Int32)} {mhis : (Nat → Int32)} {mtheirs : (Nat → Int32)} {mmanyBy : (Nat → Int32)} {mbytes : (Nat → Int32)} {manew : (Nat → Int32)} {mvalues : (Nat → Int32)} {over : Nat} {under : Nat} (ho : over < 2 ^ 62) (hu1 : 0 < under) (hu2 : under < 2 ^ 62) : wl_Met (τ := Int64 × Int64) l D E yX4_fraction cX4_fraction 11 none ({ frames := 0, cells := 0, slots := 0, locals := 0 } : Room) [.ref (a 0), .long (lN over), .long (lN under)] (wM E a mabove mbelow mlisted mfollowing mdayThen mbytesLong mtokenAt mtokenLong mtoken mvalue mnow mkept misKept mrefused mtempers mhis mtheirs mmanyBy mbytes manew mvalues) (fun _ => none) (fun z => (wM E a z.1 z.2 mlisted mfollowing mdayThen mbytesLong mtokenAt mtokenLong mtoken mvalue mnow mkept misKept mrefused mtempers mhis mtheirs mmanyBy mbytes manew mvalues)) (m_X4_fraction over under) := by
  refine wl_enter (own := RX4) (by decide +kernel) rfl (Nat.le_of_ble_eq_true rfl) ?_
  intro p0 e0 s0 m0 bl0 mt0 c0 A hC hr hlk hA H locs hP hD hS ls hl
  have hx := hC.1
  have hb := hC.2.1
  have hl : lv_has ls 11 [(0, .ref (a 0)), (1, .long (lN over)), (3, .long (lN under))] := hl
  have hm := m_X4_fraction.eq_1 over under
  refine lv_lload_n hx hb dX4_fraction_0 rfl (lv_at hl 1 rfl) ?_
  refine lv_lstore (lv' := [(5, .long (lN over)), (0, .ref (a 0)), (1, .long (lN over)), (3, .long (lN under))]) hx hb dX4_fraction_1 hl (by decide) rfl (fun ls hl => ?_)
  refine lv_lload_n hx hb dX4_fraction_3 rfl (lv_at hl 3 rfl) ?_
  refine lv_lstore (lv' := [(7, .long (lN under)), (5, .long (lN over)), (0, .ref (a 0)), (1, .long (lN over)), (3, .long (lN under))]) hx hb dX4_fraction_4 hl (by decide) rfl (fun ls hl => ?_)
  obtain ⟨u1, hu1, hk1⟩ := wl_bx hm
  refine wl_JP u1 31 (fun _ => []) 11 (fun z1 => [(0, .ref (a 0)), (1, .long (lN over)), (3, .long (lN under)), (5, .long (lN z1))]) D A s0.heap (fun z1 => (wM E a mabove mbelow mlisted mfollowing mdayThen mbytesLong mtokenAt mtokenLong mtoken mvalue mnow mkept misKept mrefused mtempers mhis mtheirs mmanyBy mbytes manew mvalues)) (fun z1 => (0 < z1) ∧ (z1 < 2 ^ 62)) (fun z1 hz1 hpost1 ls H locs hP hD hS hl => ?_) (fun J1 => ?_)
  · have hm := hk1 z1 hz1
    obtain ⟨pa, pb⟩ := hpost1
    refine lv_aload_n hx hb dX4_fraction_31 rfl (lv_at hl 0 rfl) ?_
    refine lv_lload_n hx hb dX4_fraction_32 rfl (lv_at hl 1 rfl) ?_
    refine lv_lload hx hb dX4_fraction_33 (lv_at hl 3 rfl) ?_
    refine lv_ldiv hx hb dX4_fraction_35 (wl_lne0 (by omega) (by omega)) ?_
    refine wl_reL (pk_lDiv (by omega) (by omega) (by omega)) ?_
    refine p_M_0_above hC hP hD hS (lN (over / z1)) mw_521 dX4_fraction_36 (fun H locs hP hD hS => ?_)
    refine lv_aload_n hx hb dX4_fraction_39 rfl (lv_at hl 0 rfl) ?_
    refine lv_lload_n hx hb dX4_fraction_40 rfl (lv_at hl 2 rfl) ?_
    refine lv_lload hx hb dX4_fraction_41 (lv_at hl 3 rfl) ?_
    refine lv_ldiv hx hb dX4_fraction_43 (wl_lne0 (by omega) (by omega)) ?_
    refine wl_reL (pk_lDiv (by omega) (by omega) (by omega)) ?_
    refine p_M_0_below hC hP hD hS (lN (under / z1)) mw_389 dX4_fraction_44 (fun H locs hP hD hS => ?_)
    exact wl_vret hC hr hlk hm rfl hP hD hS dX4_fraction_47
  · refine wl_while (D := D) (A := A) (H0 := s0.heap) m_X4_fraction_l6 default (under + 1) (over, under) 6 11 (fun v1 => [(0, .ref (a 0)), (1, .long (lN over)), (3, .long (lN under)), (5, .long (lN v1.1)), (7, .long (lN v1.2))]) (fun v1 => (wM E a mabove mbelow mlisted mfollowing mdayThen mbytesLong mtokenAt mtokenLong mtoken mvalue mnow mkept misKept mrefused mtempers mhis mtheirs mmanyBy mbytes manew mvalues)) (fun v1 => (0 < v1.1 ∨ 0 < v1.2) ∧ (v1.1 < 2 ^ 62) ∧ (v1.2 < 2 ^ 62)) (fun v1 => v1.2) ⟨(by show 0 < over ∨ 0 < under; omega), (by show over < 2 ^ 62; omega), (by show under < 2 ^ 62; omega)⟩ (by show under < (under + 1); first | decide | omega) ?_ hP hD hS (lv_sub hl [2, 3, 4, 1, 0] rfl)
    intro v1 hI1 EX1 IH1 ls H locs hP hD hS hl
    obtain ⟨ia, ib, ic⟩ := hI1
    have hb1 := m_X4_fraction_l6.eq_1 v1
    refine lv_lload hx hb dX4_fraction_6 (lv_at hl 4 rfl) ?_
    refine lv_lconst (v := lN 0) hx hb dX4_fraction_8 (by decide +kernel) ?_
    refine W.lcmp hx hb dX4_fraction_9 ?_
    refine wl_d_eq hx hb (by omega) (by omega) (tgt := 31) dX4_fraction_10 (by decide) (fun c2 => ?_) (fun c2 => ?_)
    · have hb1 := hb1.trans (if_pos c2)
      exact J1 _ (hu1.trans (EX1 _ hb1)) ⟨(by show 0 < v1.1; omega), (by show v1.1 < 2 ^ 62; omega)⟩ ls H locs hP hD hS (lv_sub hl [0, 1, 2, 3] rfl)
    · have hb1 := hb1.trans (if_neg c2)
      refine lv_lload hx hb dX4_fraction_13 (lv_at hl 3 rfl) ?_
      refine lv_lload hx hb dX4_fraction_15 (lv_at hl 4 rfl) ?_
      refine lv_lrem hx hb dX4_fraction_17 (wl_lne0 (by omega) (by omega)) ?_
      refine wl_reL (pk_lRem (by omega) (by omega) (by omega)) ?_
      refine lv_lstore (lv' := [(9, .long (lN (v1.1 % v1.2))), (0, .ref (a 0)), (1, .long (lN over)), (3, .long (lN under)), (5, .long (lN v1.1)), (7, .long (lN v1.2))]) hx hb dX4_fraction_18 hl (by decide) rfl (fun ls hl => ?_)
      refine lv_lload hx hb dX4_fraction_20 (lv_at hl 5 rfl) ?_
      refine lv_lstore (lv' := [(5, .long (lN v1.2)), (9, .long (lN (v1.1 % v1.2))), (0, .ref (a 0)), (1, .long (lN over)), (3, .long (lN under)), (7, .long (lN v1.2))]) hx hb dX4_fraction_22 hl (by decide) rfl (fun ls hl => ?_)
      refine lv_lload hx hb dX4_fraction_24 (lv_at hl 1 rfl) ?_
      refine lv_lstore (lv' := [(7, .long (lN (v1.1 % v1.2))), (5, .long (lN v1.2)), (9, .long (lN (v1.1 % v1.2))), (0, .ref (a 0)), (1, .long (lN over)), (3, .long (lN under))]) hx hb dX4_fraction_26 hl (by decide) rfl (fun ls hl => ?_)
      refine lv_goto (tgt := 6) hx hb dX4_fraction_28 (by decide) ?_
      exact IH1 _ hb1 ⟨(by show 0 < v1.2 ∨ 0 < (v1.1 % v1.2); omega), (by show v1.2 < 2 ^ 62; omega), (by show (v1.1 % v1.2) < 2 ^ 62; exact Nat.lt_trans (Nat.mod_lt _ (by omega)) ic)⟩ (Nat.mod_lt _ (by omega)) ls H locs hP hD hS (lv_sub hl [3, 4, 5, 1, 0] rfl)
def m_X4_odds_l81 (c : Int32) (k14 : Nat) (k16 : Nat) (v16 : Nat) : Nat := (wl_bnd (m_X4_has (nI k14) k16) (fun z18 => (if z18 = true then (v16 * (cl c)) else (v16 * (10 - (cl c))))))
def m_X4_odds_l67 (mnow : (Nat → Int32)) (p : Int32) (n : Int32) (c : Int32) (P : Nat) (k14 : Nat) (v14 : Int32 × Int32 × Int32 × (Nat → Int32) × Nat) : Int32 × Int32 × Int32 × (Nat → Int32) × Nat := (wl_bnd (wl_iter (m_X4_odds_l81 c k14) (cl n) 0 1) (fun z16 => (if z16 ≤ 0 then (v14.1, v14.2.1, v14.2.2.1, v14.2.2.2.1, (v14.2.2.2.2 + 0)) else (wl_bnd (m_X4_isStruck mnow v14.2.2.2.1 (cl p) (cl n) (nI k14) P) (fun z22 => (if z22.1 = true then (z22.2.1, z22.2.2.1, z22.2.2.2.1, z22.2.2.2.2, (v14.2.2.2.2 + z16)) else (z22.2.1, z22.2.2.1, z22.2.2.2.1, z22.2.2.2.2, (v14.2.2.2.2 + 0))))))))
def m_X4_odds_l156 (k25 : Nat) (v25 : Nat) : Nat := (v25 * 10)
def m_X4_odds (mabove : Int64) (mbelow : Int64) (mlisted : Int32) (mfollowing : Int32) (mdayThen : Int32) (mnow : (Nat → Int32)) (mrefused : (Nat → Int32)) (mtempers : (Nat → Int32)) (p : Int32) (n : Int32) (c : Int32) (P : Nat) : Int32 × Int64 × Int64 × Int32 × Int32 × Int32 × (Nat → Int32) × (Nat → Int32) := (wl_bnd (m_X4_isOne p P) (fun z1 => (if z1 = true then (wl_bnd (m_X4_in n.toInt64 (lN 0) (lN 8)) (fun z5 => (if z5 = true then (wl_bnd (m_X4_in c.toInt64 (lN 0) (lN 10)) (fun z9 => (if z9 = true then (wl_bnd (m_X4_has (mnow 18) (cl p)) (fun z12 => (if z12 = true then (wl_bnd (wl_iter (m_X4_odds_l67 mnow p n c P) (2 ^ (cl n)) 0 (mlisted, mfollowing, mdayThen, mtempers, 0)) (fun z14 => (wl_bnd (wl_iter m_X4_odds_l156 (cl n) 0 1) (fun z25 => (wl_bnd (m_X4_fraction z14.2.2.2.2 z25) (fun z28 => ((nI 1), z28.1, z28.2, z14.1, z14.2.1, z14.2.2.1, mrefused, z14.2.2.2.1))))))) else (wl_bnd (m_X4_no mrefused) (fun z29 => (z29.1, mabove, mbelow, mlisted, mfollowing, mdayThen, z29.2, mtempers)))))) else (wl_bnd (m_X4_bad mrefused (-2)) (fun z30 => (z30.1, mabove, mbelow, mlisted, mfollowing, mdayThen, z30.2, mtempers)))))) else (wl_bnd (m_X4_bad mrefused (-2)) (fun z7 => (z7.1, mabove, mbelow, mlisted, mfollowing, mdayThen, z7.2, mtempers)))))) else (wl_bnd (m_X4_bad mrefused (-2)) (fun z3 => (z3.1, mabove, mbelow, mlisted, mfollowing, mdayThen, z3.2, mtempers))))))
set_option maxHeartbeats 4000000 in
set_option maxRecDepth 100000 in
theorem c_X4_odds {l : Launch} {D : va_G} {E : Nat → ClassId} {a : Nat → Nat} {mabove : Int64} {mbelow : Int64} {mlisted : Int32} {mfollowing : Int32} {mdayThen : Int32} {mbytesLong : Nat} {mtokenAt : Nat} {mtokenLong : Nat} {mtoken : Int32} {mvalue : Int32} {mnow : (Nat → Int32)} {mkept : (Nat → Int32)} {misKept : (Nat → Int32)} {mrefused : (Nat → Int32)} {mtempers : (Nat → Int32)} {mhis : (Nat → Int32)} {mtheirs : (Nat → Int32)} {mmanyBy : (Nat → Int32)} {mbytes : (Nat → Int32)} {manew : (Nat → Int32)} {mvalues : (Nat → Int32)} {p : Int32} {n : Int32} {c : Int32} {P : Nat} (h0 : mnow 0 = nI P) (hP7 : P ≤ 7) : wl_Met (τ := Int32 × Int64 × Int64 × Int32 × Int32 × Int32 × (Nat → Int32) × (Nat → Int32)) l D E yX4_odds cX4_odds 12 (some .int) ({ frames := 5, cells := 0, slots := 0, locals := 115 } : Room) [.ref (a 0), .int p, .int n, .int c] (wM E a mabove mbelow mlisted mfollowing mdayThen mbytesLong mtokenAt mtokenLong mtoken mvalue mnow mkept misKept mrefused mtempers mhis mtheirs mmanyBy mbytes manew mvalues) (fun z => some (.int z.1)) (fun z => (wM E a z.2.1 z.2.2.1 z.2.2.2.1 z.2.2.2.2.1 z.2.2.2.2.2.1 mbytesLong mtokenAt mtokenLong mtoken mvalue mnow mkept misKept z.2.2.2.2.2.2.1 z.2.2.2.2.2.2.2 mhis mtheirs mmanyBy mbytes manew mvalues)) (m_X4_odds mabove mbelow mlisted mfollowing mdayThen mnow mrefused mtempers p n c P) := by
  refine wl_enter (own := RX4) (by decide +kernel) rfl (Nat.le_of_ble_eq_true rfl) ?_
  intro p0 e0 s0 m0 bl0 mt0 c0 A hC hr hlk hA H locs hP hD hS ls hl
  have hx := hC.1
  have hb := hC.2.1
  have hl : lv_has ls 12 [(0, .ref (a 0)), (1, .int p), (2, .int n), (3, .int c)] := hl
  have hm := m_X4_odds.eq_1 mabove mbelow mlisted mfollowing mdayThen mnow mrefused mtempers p n c P
  refine lv_aload_n hx hb dX4_odds_0 rfl (lv_at hl 0 rfl) ?_
  refine lv_iload_n hx hb dX4_odds_1 rfl (lv_at hl 1 rfl) ?_
  refine wl_callVi hC (c_X4_isOne (p := p) (P := P) (h0)) lk_RX4_113 rfl ⟨rfl, rfl, Nat.le_of_ble_eq_true rfl, Nat.le_of_ble_eq_true rfl⟩ hP hD hS hA 0 rfl (T1 := 21) rfl hl.1 rfl (Nat.le_of_ble_eq_true rfl) dX4_odds_2 ⟨Nat.zero_le _, Nat.zero_le _⟩ (fun z1 hz1 H locs hP hD hS => ?_)
  have hm := wl_bz hm hz1
  refine wl_if_eq_b hx hb (tgt := 32) dX4_odds_5 (by decide) (fun c2 => ?_) (fun c2 => ?_)
  · have hm := hm.trans (if_neg c2)
    refine lv_aload_n hx hb dX4_odds_32 rfl (lv_at hl 0 rfl) ?_
    refine lv_bipush (v := (-2)) hx hb dX4_odds_33 (by decide +kernel) ?_
    refine wl_callVi hC (c_X4_bad (tells := (-2)) ) lk_RX4_62 rfl ⟨rfl, rfl, Nat.le_of_ble_eq_true rfl, Nat.le_of_ble_eq_true rfl⟩ hP hD hS hA 0 rfl (T1 := 21) rfl hl.1 rfl (Nat.le_of_ble_eq_true rfl) dX4_odds_35 ⟨Nat.zero_le _, Nat.zero_le _⟩ (fun z3 hz3 H locs hP hD hS => ?_)
    have hm := wl_bz hm hz3
    exact wl_iret hC hr hlk hm rfl hP hD hS dX4_odds_38
  · have hm := hm.trans (if_pos c2)
    obtain ⟨ha4, hb4_⟩ := isOne_spec hP7 (hz1.symm.trans c2)
    have hl : lv_has ls 12 [(0, .ref (a 0)), (1, .int (nI (cl p))), (2, .int n), (3, .int c)] := by rw [← ha4]; exact hl
    refine lv_iload_n hx hb dX4_odds_8 rfl (lv_at hl 2 rfl) ?_
    refine lv_i2l (v := n.toInt64) hx hb dX4_odds_9 rfl ?_
    refine lv_lconst (v := lN 0) hx hb dX4_odds_10 (by decide +kernel) ?_
    refine lv_ldc2 hx hb hC.2.2.2.1 (hC.2.2.2.2.1 _ mw_496) dX4_odds_11 ?_
    refine wl_reL (show (8 : Int64) = lN 8 by decide +kernel) ?_
    refine wl_callPi hC (c_X4_in (v := n.toInt64) (low := (lN 0)) (high := (lN 8)) ) lk_RX4_56 rfl ⟨rfl, rfl, Nat.le_of_ble_eq_true rfl, Nat.le_of_ble_eq_true rfl⟩ hP hS hA hl.1 rfl (Nat.le_of_ble_eq_true rfl) dX4_odds_14 ⟨Nat.zero_le _, Nat.zero_le _⟩ (fun z5 hz5 H locs hP hS => ?_)
    have hm := wl_bz hm hz5
    refine wl_if_eq_b hx hb (tgt := 32) dX4_odds_17 (by decide) (fun c6 => ?_) (fun c6 => ?_)
    · have hm := hm.trans (if_neg c6)
      refine lv_aload_n hx hb dX4_odds_32 rfl (lv_at hl 0 rfl) ?_
      refine lv_bipush (v := (-2)) hx hb dX4_odds_33 (by decide +kernel) ?_
      refine wl_callVi hC (c_X4_bad (tells := (-2)) ) lk_RX4_62 rfl ⟨rfl, rfl, Nat.le_of_ble_eq_true rfl, Nat.le_of_ble_eq_true rfl⟩ hP hD hS hA 0 rfl (T1 := 21) rfl hl.1 rfl (Nat.le_of_ble_eq_true rfl) dX4_odds_35 ⟨Nat.zero_le _, Nat.zero_le _⟩ (fun z7 hz7 H locs hP hD hS => ?_)
      have hm := wl_bz hm hz7
      exact wl_iret hC hr hlk hm rfl hP hD hS dX4_odds_38
    · have hm := hm.trans (if_pos c6)
      obtain ⟨ha8, hb8_, hc8_⟩ := in_spec (a := 0) (b := 8) (by decide) (by decide) (hz5.symm.trans c6)
      have hl : lv_has ls 12 [(0, .ref (a 0)), (1, .int (nI (cl p))), (2, .int (nI (cl n))), (3, .int c)] := by rw [← ha8]; exact hl
      refine lv_iload_n hx hb dX4_odds_20 rfl (lv_at hl 3 rfl) ?_
      refine lv_i2l (v := c.toInt64) hx hb dX4_odds_21 rfl ?_
      refine lv_lconst (v := lN 0) hx hb dX4_odds_22 (by decide +kernel) ?_
      refine lv_ldc2 hx hb hC.2.2.2.1 (hC.2.2.2.2.1 _ mw_523) dX4_odds_23 ?_
      refine wl_reL (show (10 : Int64) = lN 10 by decide +kernel) ?_
      refine wl_callPi hC (c_X4_in (v := c.toInt64) (low := (lN 0)) (high := (lN 10)) ) lk_RX4_56 rfl ⟨rfl, rfl, Nat.le_of_ble_eq_true rfl, Nat.le_of_ble_eq_true rfl⟩ hP hS hA hl.1 rfl (Nat.le_of_ble_eq_true rfl) dX4_odds_26 ⟨Nat.zero_le _, Nat.zero_le _⟩ (fun z9 hz9 H locs hP hS => ?_)
      have hm := wl_bz hm hz9
      refine wl_if_ne_b hx hb (tgt := 39) dX4_odds_29 (by decide) (fun c10 => ?_) (fun c10 => ?_)
      · have hm := hm.trans (if_pos c10)
        obtain ⟨ha11, hb11_, hc11_⟩ := in_spec (a := 0) (b := 10) (by decide) (by decide) (hz9.symm.trans c10)
        have hl : lv_has ls 12 [(0, .ref (a 0)), (1, .int (nI (cl p))), (2, .int (nI (cl n))), (3, .int (nI (cl c)))] := by rw [← ha11]; exact hl
        refine lv_aload_n hx hb dX4_odds_39 rfl (lv_at hl 0 rfl) ?_
        refine g_M_0_now hC hP mw_385 dX4_odds_40 ?_
        refine lv_bipush (v := (nI 18)) hx hb dX4_odds_43 (by decide +kernel) ?_
        refine ld_M_1 hC hP 18 (by omega) dX4_odds_45 ?_
        refine lv_iload_n hx hb dX4_odds_46 rfl (lv_at hl 1 rfl) ?_
        refine wl_callPi hC (c_X4_has (set := (mnow 18)) (k := (cl p)) ) lk_RX4_91 rfl ⟨rfl, rfl, Nat.le_of_ble_eq_true rfl, Nat.le_of_ble_eq_true rfl⟩ hP hS hA hl.1 rfl (Nat.le_of_ble_eq_true rfl) dX4_odds_47 ⟨Nat.zero_le _, Nat.zero_le _⟩ (fun z12 hz12 H locs hP hS => ?_)
        have hm := wl_bz hm hz12
        refine wl_if_ne_b hx hb (tgt := 58) dX4_odds_50 (by decide) (fun c13 => ?_) (fun c13 => ?_)
        · have hm := hm.trans (if_pos c13)
          refine lv_lconst (v := lN 0) hx hb dX4_odds_58 (by decide +kernel) ?_
          refine lv_lstore (lv' := [(4, .long (lN 0)), (0, .ref (a 0)), (1, .int (nI (cl p))), (2, .int (nI (cl n))), (3, .int (nI (cl c)))]) hx hb dX4_odds_59 hl (by decide) rfl (fun ls hl => ?_)
          refine lv_lconst (v := lN 1) hx hb dX4_odds_61 (by decide +kernel) ?_
          refine lv_lstore (lv' := [(6, .long (lN 1)), (4, .long (lN 0)), (0, .ref (a 0)), (1, .int (nI (cl p))), (2, .int (nI (cl n))), (3, .int (nI (cl c)))]) hx hb dX4_odds_62 hl (by decide) rfl (fun ls hl => ?_)
          refine lv_iconst (v := (nI 0)) hx hb dX4_odds_64 (by decide +kernel) ?_
          refine lv_istore (lv' := [(8, .int (nI 0)), (6, .long (lN 1)), (4, .long (lN 0)), (0, .ref (a 0)), (1, .int (nI (cl p))), (2, .int (nI (cl n))), (3, .int (nI (cl c)))]) hx hb dX4_odds_65 hl (by decide) rfl (fun ls hl => ?_)
          obtain ⟨u14, hu14, hk14⟩ := wl_bx hm
          refine wl_for (D := D) (A := A) (H0 := s0.heap) (m_X4_odds_l67 mnow p n c P) (2 ^ (cl n)) 0 (2 ^ (cl n)) (mlisted, mfollowing, mdayThen, mtempers, 0) 67 12 (fun k14 v14 => [(0, .ref (a 0)), (1, .int (nI (cl p))), (2, .int (nI (cl n))), (3, .int (nI (cl c))), (4, .long (lN v14.2.2.2.2)), (6, .long (lN 1)), (8, .int (nI k14))]) (fun k14 v14 => (wM E a mabove mbelow v14.1 v14.2.1 v14.2.2.1 mbytesLong mtokenAt mtokenLong mtoken mvalue mnow mkept misKept mrefused v14.2.2.2.1 mhis mtheirs mmanyBy mbytes manew mvalues)) (fun k14 v14 => (v14.2.2.2.2 ≤ 100000000 * k14)) (by omega) (by show 0 ≤ 100000000 * 0; omega) ?_ ?_ hP hD hS (lv_sub hl [3, 4, 5, 6, 2, 1, 0] rfl)
          · intro z14 hv14 hI14 ls H locs hP hD hS hl
            have hm := hk14 z14 (hu14.trans hv14)
            have s8 := hI14
            refine lv_iload hx hb dX4_odds_67 (lv_at hl 6 rfl) ?_
            refine lv_iconst (v := (nI 1)) hx hb dX4_odds_69 (by decide +kernel) ?_
            refine lv_iload_n hx hb dX4_odds_70 rfl (lv_at hl 2 rfl) ?_
            refine lv_ishl hx hb dX4_odds_71 ?_
            refine wl_re (wl_pow (by omega)) ?_
            refine wl_icmp_ge_n hx hb (by first | omega | exact Nat.lt_of_le_of_lt Nat.and_le_right (by omega) | exact Nat.pow_lt_pow_right (by omega) (by omega) | exact Nat.lt_trans (by assumption) (Nat.pow_lt_pow_right (by omega) (by omega))) (by first | omega | exact Nat.lt_of_le_of_lt Nat.and_le_right (by omega) | exact Nat.pow_lt_pow_right (by omega) (by omega) | exact Nat.lt_trans (by assumption) (Nat.pow_lt_pow_right (by omega) (by omega))) (tgt := 153) dX4_odds_72 (by decide) (fun c24 => ?_) (fun c24 => absurd (by omega) c24)
            refine lv_iconst (v := (nI 0)) hx hb dX4_odds_153 (by decide +kernel) ?_
            refine lv_istore (lv' := [(8, .int (nI 0)), (0, .ref (a 0)), (1, .int (nI (cl p))), (2, .int (nI (cl n))), (3, .int (nI (cl c))), (4, .long (lN z14.2.2.2.2)), (6, .long (lN 1))]) hx hb dX4_odds_154 hl (by decide) rfl (fun ls hl => ?_)
            obtain ⟨u25, hu25, hk25⟩ := wl_bx hm
            refine wl_for (D := D) (A := A) (H0 := s0.heap) m_X4_odds_l156 (cl n) 0 (cl n) 1 156 12 (fun k25 v25 => [(0, .ref (a 0)), (2, .int (nI (cl n))), (4, .long (lN z14.2.2.2.2)), (6, .long (lN v25)), (8, .int (nI k25))]) (fun k25 v25 => (wM E a mabove mbelow z14.1 z14.2.1 z14.2.2.1 mbytesLong mtokenAt mtokenLong mtoken mvalue mnow mkept misKept mrefused z14.2.2.2.1 mhis mtheirs mmanyBy mbytes manew mvalues)) (fun k25 v25 => (v25 = 10 ^ k25)) (by omega) (by show 1 = 10 ^ 0; exact rfl) ?_ ?_ hP hD hS (lv_sub hl [1, 3, 5, 6, 0] rfl)
            · intro z25 hv25 hI25 ls H locs hP hD hS hl
              have hm := hk25 z25 (hu25.trans hv25)
              have a6 := hI25
              refine lv_iload hx hb dX4_odds_156 (lv_at hl 4 rfl) ?_
              refine lv_iload_n hx hb dX4_odds_158 rfl (lv_at hl 1 rfl) ?_
              refine wl_icmp_ge_n hx hb (by first | omega | exact Nat.lt_of_le_of_lt Nat.and_le_right (by omega) | exact Nat.pow_lt_pow_right (by omega) (by omega) | exact Nat.lt_trans (by assumption) (Nat.pow_lt_pow_right (by omega) (by omega))) (by first | omega | exact Nat.lt_of_le_of_lt Nat.and_le_right (by omega) | exact Nat.pow_lt_pow_right (by omega) (by omega) | exact Nat.lt_trans (by assumption) (Nat.pow_lt_pow_right (by omega) (by omega))) (tgt := 176) dX4_odds_159 (by decide) (fun c27 => ?_) (fun c27 => absurd (by omega) c27)
              refine lv_aload_n hx hb dX4_odds_176 rfl (lv_at hl 0 rfl) ?_
              refine lv_lload hx hb dX4_odds_177 (lv_at hl 2 rfl) ?_
              refine lv_lload hx hb dX4_odds_179 (lv_at hl 3 rfl) ?_
              refine wl_callVv hC (c_X4_fraction (over := z14.2.2.2.2) (under := z25) (Nat.lt_of_le_of_lt s8 (by have := Nat.pow_lt_pow_right (a := 2) (by decide) (show cl n < 9 by omega); omega)) (by rw [a6]; exact Nat.pow_pos (by decide)) (by rw [a6]; exact Nat.lt_of_le_of_lt (Nat.pow_le_pow_right (by decide) (show cl n ≤ 8 by omega)) (by decide))) lk_RX4_166 rfl ⟨rfl, rfl, Nat.le_of_ble_eq_true rfl, Nat.le_of_ble_eq_true rfl⟩ hP hD hS hA 0 rfl (T1 := 21) rfl hl.1 rfl (Nat.le_of_ble_eq_true rfl) dX4_odds_181 ⟨Nat.zero_le _, Nat.zero_le _⟩ (fun z28 hz28 H locs hP hD hS => ?_)
              have hm := wl_bz hm hz28
              refine lv_iconst (v := (nI 1)) hx hb dX4_odds_184 (by decide +kernel) ?_
              exact wl_iret hC hr hlk hm rfl hP hD hS dX4_odds_185
            · intro k25 v25 hlo25 hhi25 hI25 IH25 ls H locs hP hD hS hl
              have a6 := hI25
              have hb25 := m_X4_odds_l156.eq_1 k25 v25
              refine lv_iload hx hb dX4_odds_156 (lv_at hl 4 rfl) ?_
              refine lv_iload_n hx hb dX4_odds_158 rfl (lv_at hl 1 rfl) ?_
              refine wl_icmp_ge_n hx hb (by first | omega | exact Nat.lt_of_le_of_lt Nat.and_le_right (by omega) | exact Nat.pow_lt_pow_right (by omega) (by omega) | exact Nat.lt_trans (by assumption) (Nat.pow_lt_pow_right (by omega) (by omega))) (by first | omega | exact Nat.lt_of_le_of_lt Nat.and_le_right (by omega) | exact Nat.pow_lt_pow_right (by omega) (by omega) | exact Nat.lt_trans (by assumption) (Nat.pow_lt_pow_right (by omega) (by omega))) (tgt := 176) dX4_odds_159 (by decide) (fun c26 => absurd c26 (by omega)) (fun c26 => ?_)
              refine lv_lload hx hb dX4_odds_162 (lv_at hl 3 rfl) ?_
              refine lv_ldc2 hx hb hC.2.2.2.1 (hC.2.2.2.2.1 _ mw_523) dX4_odds_164 ?_
              refine wl_reL (show (10 : Int64) = lN 10 by decide +kernel) ?_
              refine lv_lmul hx hb dX4_odds_167 ?_
              refine wl_reL (show lN v25 * lN 10 = lN (v25 * 10) from lN_mul v25 10) ?_
              refine lv_lstore (lv' := [(6, .long (lN (v25 * 10))), (0, .ref (a 0)), (2, .int (nI (cl n))), (4, .long (lN z14.2.2.2.2)), (8, .int (nI k25))]) hx hb dX4_odds_168 hl (by decide) rfl (fun ls hl => ?_)
              refine lv_iinc (v := (nI (k25 + 1))) (lv' := [(8, .int (nI (k25 + 1))), (6, .long (lN (v25 * 10))), (0, .ref (a 0)), (2, .int (nI (cl n))), (4, .long (lN z14.2.2.2.2))]) hx hb dX4_odds_170 hl (k := 4) rfl (wl_inc k25 1) (by decide) rfl (fun ls hl => ?_)
              refine lv_goto (tgt := 156) hx hb dX4_odds_173 (by decide) ?_
              exact IH25 _ hb25 (by show (v25 * 10) = 10 ^ (k25 + 1); exact (by rw [a6]; rfl)) ls H locs hP hD hS (lv_sub hl [2, 3, 4, 1, 0] rfl)
          · intro k14 v14 hlo14 hhi14 hI14 IH14 ls H locs hP hD hS hl
            have s8 := hI14
            have hb14 := m_X4_odds_l67.eq_1 mnow p n c P k14 v14
            have hp9 := Nat.pow_le_pow_right (n := 2) (by decide) (show cl n ≤ 8 by omega)
            refine lv_iload hx hb dX4_odds_67 (lv_at hl 6 rfl) ?_
            refine lv_iconst (v := (nI 1)) hx hb dX4_odds_69 (by decide +kernel) ?_
            refine lv_iload_n hx hb dX4_odds_70 rfl (lv_at hl 2 rfl) ?_
            refine lv_ishl hx hb dX4_odds_71 ?_
            refine wl_re (wl_pow (by omega)) ?_
            refine wl_icmp_ge_n hx hb (by first | omega | exact Nat.lt_of_le_of_lt Nat.and_le_right (by omega) | exact Nat.pow_lt_pow_right (by omega) (by omega) | exact Nat.lt_trans (by assumption) (Nat.pow_lt_pow_right (by omega) (by omega))) (by first | omega | exact Nat.lt_of_le_of_lt Nat.and_le_right (by omega) | exact Nat.pow_lt_pow_right (by omega) (by omega) | exact Nat.lt_trans (by assumption) (Nat.pow_lt_pow_right (by omega) (by omega))) (tgt := 153) dX4_odds_72 (by decide) (fun c15 => absurd c15 (by omega)) (fun c15 => ?_)
            refine lv_lconst (v := lN 1) hx hb dX4_odds_75 (by decide +kernel) ?_
            refine lv_lstore (lv' := [(9, .long (lN 1)), (0, .ref (a 0)), (1, .int (nI (cl p))), (2, .int (nI (cl n))), (3, .int (nI (cl c))), (4, .long (lN v14.2.2.2.2)), (6, .long (lN 1)), (8, .int (nI k14))]) hx hb dX4_odds_76 hl (by decide) rfl (fun ls hl => ?_)
            refine lv_iconst (v := (nI 0)) hx hb dX4_odds_78 (by decide +kernel) ?_
            refine lv_istore (lv' := [(11, .int (nI 0)), (9, .long (lN 1)), (0, .ref (a 0)), (1, .int (nI (cl p))), (2, .int (nI (cl n))), (3, .int (nI (cl c))), (4, .long (lN v14.2.2.2.2)), (6, .long (lN 1)), (8, .int (nI k14))]) hx hb dX4_odds_79 hl (by decide) rfl (fun ls hl => ?_)
            obtain ⟨u16, hu16, hk16⟩ := wl_bx hb14
            refine wl_for (D := D) (A := A) (H0 := s0.heap) (m_X4_odds_l81 c k14) (cl n) 0 (cl n) 1 81 12 (fun k16 v16 => [(0, .ref (a 0)), (1, .int (nI (cl p))), (2, .int (nI (cl n))), (3, .int (nI (cl c))), (4, .long (lN v14.2.2.2.2)), (6, .long (lN 1)), (8, .int (nI k14)), (9, .long (lN v16)), (11, .int (nI k16))]) (fun k16 v16 => (wM E a mabove mbelow v14.1 v14.2.1 v14.2.2.1 mbytesLong mtokenAt mtokenLong mtoken mvalue mnow mkept misKept mrefused v14.2.2.2.1 mhis mtheirs mmanyBy mbytes manew mvalues)) (fun k16 v16 => (v16 ≤ 10 ^ k16)) (by omega) (by show 1 ≤ 10 ^ 0; exact (by decide)) ?_ ?_ hP hD hS (lv_sub hl [2, 3, 4, 5, 6, 7, 8, 1, 0] rfl)
            · intro z16 hv16 hI16 ls H locs hP hD hS hl
              have hb14 := hk16 z16 (hu16.trans hv16)
              have c9 := hI16
              have d9 : z16 ≤ 100000000 := Nat.le_trans c9 (Nat.pow_le_pow_right (show 10 > 0 by decide) (show cl n ≤ 8 by omega))
              refine lv_iload hx hb dX4_odds_81 (lv_at hl 8 rfl) ?_
              refine lv_iload_n hx hb dX4_odds_83 rfl (lv_at hl 2 rfl) ?_
              refine wl_icmp_ge_n hx hb (by first | omega | exact Nat.lt_of_le_of_lt Nat.and_le_right (by omega) | exact Nat.pow_lt_pow_right (by omega) (by omega) | exact Nat.lt_trans (by assumption) (Nat.pow_lt_pow_right (by omega) (by omega))) (by first | omega | exact Nat.lt_of_le_of_lt Nat.and_le_right (by omega) | exact Nat.pow_lt_pow_right (by omega) (by omega) | exact Nat.lt_trans (by assumption) (Nat.pow_lt_pow_right (by omega) (by omega))) (tgt := 118) dX4_odds_84 (by decide) (fun c20 => ?_) (fun c20 => absurd (by omega) c20)
              refine lv_lload hx hb dX4_odds_118 (lv_at hl 4 rfl) ?_
              refine lv_lload hx hb dX4_odds_120 (lv_at hl 7 rfl) ?_
              refine lv_lconst (v := lN 0) hx hb dX4_odds_122 (by decide +kernel) ?_
              refine W.lcmp hx hb dX4_odds_123 ?_
              refine wl_d_le hx hb (by omega) (by omega) (tgt := 143) dX4_odds_124 (by decide) (fun c21 => ?_) (fun c21 => ?_)
              · have hb14 := hb14.trans (if_pos c21)
                refine lv_lconst (v := lN 0) hx hb dX4_odds_143 (by decide +kernel) ?_
                refine lv_ladd hx hb dX4_odds_144 ?_
                refine wl_reL (show lN v14.2.2.2.2 + lN 0 = lN (v14.2.2.2.2 + 0) from lN_add v14.2.2.2.2 0) ?_
                refine lv_lstore (lv' := [(4, .long (lN (v14.2.2.2.2 + 0))), (0, .ref (a 0)), (1, .int (nI (cl p))), (2, .int (nI (cl n))), (3, .int (nI (cl c))), (6, .long (lN 1)), (8, .int (nI k14)), (9, .long (lN z16)), (11, .int (nI (cl n)))]) hx hb dX4_odds_145 hl (by decide) rfl (fun ls hl => ?_)
                refine lv_iinc (v := (nI (k14 + 1))) (lv' := [(8, .int (nI (k14 + 1))), (4, .long (lN (v14.2.2.2.2 + 0))), (0, .ref (a 0)), (1, .int (nI (cl p))), (2, .int (nI (cl n))), (3, .int (nI (cl c))), (6, .long (lN 1)), (9, .long (lN z16)), (11, .int (nI (cl n)))]) hx hb dX4_odds_147 hl (k := 6) rfl (wl_inc k14 1) (by decide) rfl (fun ls hl => ?_)
                refine lv_goto (tgt := 67) hx hb dX4_odds_150 (by decide) ?_
                exact IH14 _ hb14 (by show (v14.2.2.2.2 + 0) ≤ 100000000 * (k14 + 1); omega) ls H locs hP hD hS (lv_sub hl [2, 3, 4, 5, 1, 6, 0] rfl)
              · have hb14 := hb14.trans (if_neg c21)
                refine lv_aload_n hx hb dX4_odds_127 rfl (lv_at hl 0 rfl) ?_
                refine lv_iload_n hx hb dX4_odds_128 rfl (lv_at hl 1 rfl) ?_
                refine lv_iload_n hx hb dX4_odds_129 rfl (lv_at hl 2 rfl) ?_
                refine lv_iload hx hb dX4_odds_130 (lv_at hl 6 rfl) ?_
                refine wl_callVi hC (c_X4_isStruck (p := (cl p)) (n := (cl n)) (days := (nI k14)) (P := P) (h0) (by first | assumption | omega) (by first | assumption | omega) (by first | assumption | omega)) lk_RX4_144 rfl ⟨rfl, rfl, Nat.le_of_ble_eq_true rfl, Nat.le_of_ble_eq_true rfl⟩ hP hD hS hA 0 rfl (T1 := 21) rfl hl.1 rfl (Nat.le_of_ble_eq_true rfl) dX4_odds_132 ⟨Nat.zero_le _, Nat.zero_le _⟩ (fun z22 hz22 H locs hP hD hS => ?_)
                have hb14 := wl_bz hb14 hz22
                refine wl_if_eq_b hx hb (tgt := 143) dX4_odds_135 (by decide) (fun c23 => ?_) (fun c23 => ?_)
                · have hb14 := hb14.trans (if_neg c23)
                  refine lv_lconst (v := lN 0) hx hb dX4_odds_143 (by decide +kernel) ?_
                  refine lv_ladd hx hb dX4_odds_144 ?_
                  refine wl_reL (show lN v14.2.2.2.2 + lN 0 = lN (v14.2.2.2.2 + 0) from lN_add v14.2.2.2.2 0) ?_
                  refine lv_lstore (lv' := [(4, .long (lN (v14.2.2.2.2 + 0))), (0, .ref (a 0)), (1, .int (nI (cl p))), (2, .int (nI (cl n))), (3, .int (nI (cl c))), (6, .long (lN 1)), (8, .int (nI k14)), (9, .long (lN z16)), (11, .int (nI (cl n)))]) hx hb dX4_odds_145 hl (by decide) rfl (fun ls hl => ?_)
                  refine lv_iinc (v := (nI (k14 + 1))) (lv' := [(8, .int (nI (k14 + 1))), (4, .long (lN (v14.2.2.2.2 + 0))), (0, .ref (a 0)), (1, .int (nI (cl p))), (2, .int (nI (cl n))), (3, .int (nI (cl c))), (6, .long (lN 1)), (9, .long (lN z16)), (11, .int (nI (cl n)))]) hx hb dX4_odds_147 hl (k := 6) rfl (wl_inc k14 1) (by decide) rfl (fun ls hl => ?_)
                  refine lv_goto (tgt := 67) hx hb dX4_odds_150 (by decide) ?_
                  exact IH14 _ hb14 (by show (v14.2.2.2.2 + 0) ≤ 100000000 * (k14 + 1); omega) ls H locs hP hD hS (lv_sub hl [2, 3, 4, 5, 1, 6, 0] rfl)
                · have hb14 := hb14.trans (if_pos c23)
                  refine lv_lload hx hb dX4_odds_138 (lv_at hl 7 rfl) ?_
                  refine lv_goto (tgt := 144) hx hb dX4_odds_140 (by decide) ?_
                  refine lv_ladd hx hb dX4_odds_144 ?_
                  refine wl_reL (show lN v14.2.2.2.2 + lN z16 = lN (v14.2.2.2.2 + z16) from lN_add v14.2.2.2.2 z16) ?_
                  refine lv_lstore (lv' := [(4, .long (lN (v14.2.2.2.2 + z16))), (0, .ref (a 0)), (1, .int (nI (cl p))), (2, .int (nI (cl n))), (3, .int (nI (cl c))), (6, .long (lN 1)), (8, .int (nI k14)), (9, .long (lN z16)), (11, .int (nI (cl n)))]) hx hb dX4_odds_145 hl (by decide) rfl (fun ls hl => ?_)
                  refine lv_iinc (v := (nI (k14 + 1))) (lv' := [(8, .int (nI (k14 + 1))), (4, .long (lN (v14.2.2.2.2 + z16))), (0, .ref (a 0)), (1, .int (nI (cl p))), (2, .int (nI (cl n))), (3, .int (nI (cl c))), (6, .long (lN 1)), (9, .long (lN z16)), (11, .int (nI (cl n)))]) hx hb dX4_odds_147 hl (k := 6) rfl (wl_inc k14 1) (by decide) rfl (fun ls hl => ?_)
                  refine lv_goto (tgt := 67) hx hb dX4_odds_150 (by decide) ?_
                  exact IH14 _ hb14 (by show (v14.2.2.2.2 + z16) ≤ 100000000 * (k14 + 1); omega) ls H locs hP hD hS (lv_sub hl [2, 3, 4, 5, 1, 6, 0] rfl)
            · intro k16 v16 hlo16 hhi16 hI16 IH16 ls H locs hP hD hS hl
              have c9 := hI16
              have hb16 := m_X4_odds_l81.eq_1 c k14 k16 v16
              refine lv_iload hx hb dX4_odds_81 (lv_at hl 8 rfl) ?_
              refine lv_iload_n hx hb dX4_odds_83 rfl (lv_at hl 2 rfl) ?_
              refine wl_icmp_ge_n hx hb (by first | omega | exact Nat.lt_of_le_of_lt Nat.and_le_right (by omega) | exact Nat.pow_lt_pow_right (by omega) (by omega) | exact Nat.lt_trans (by assumption) (Nat.pow_lt_pow_right (by omega) (by omega))) (by first | omega | exact Nat.lt_of_le_of_lt Nat.and_le_right (by omega) | exact Nat.pow_lt_pow_right (by omega) (by omega) | exact Nat.lt_trans (by assumption) (Nat.pow_lt_pow_right (by omega) (by omega))) (tgt := 118) dX4_odds_84 (by decide) (fun c17 => absurd c17 (by omega)) (fun c17 => ?_)
              refine lv_lload hx hb dX4_odds_87 (lv_at hl 7 rfl) ?_
              refine lv_iload hx hb dX4_odds_89 (lv_at hl 6 rfl) ?_
              refine lv_iload hx hb dX4_odds_91 (lv_at hl 8 rfl) ?_
              refine wl_callPi hC (c_X4_has (set := (nI k14)) (k := k16) ) lk_RX4_91 rfl ⟨rfl, rfl, Nat.le_of_ble_eq_true rfl, Nat.le_of_ble_eq_true rfl⟩ hP hS hA hl.1 rfl (Nat.le_of_ble_eq_true rfl) dX4_odds_93 ⟨Nat.zero_le _, Nat.zero_le _⟩ (fun z18 hz18 H locs hP hS => ?_)
              have hb16 := wl_bz hb16 hz18
              refine wl_if_eq_b hx hb (tgt := 104) dX4_odds_96 (by decide) (fun c19 => ?_) (fun c19 => ?_)
              · have hb16 := hb16.trans (if_neg c19)
                refine lv_bipush (v := (nI 10)) hx hb dX4_odds_104 (by decide +kernel) ?_
                refine lv_iload_n hx hb dX4_odds_106 rfl (lv_at hl 3 rfl) ?_
                refine lv_isub hx hb dX4_odds_107 ?_
                refine wl_re (show nI 10 - nI (cl c) = nI (10 - (cl c)) from pk_sub (by omega)) ?_
                refine lv_i2l hx hb dX4_odds_108 (nI_l (by omega)) ?_
                refine lv_lmul hx hb dX4_odds_109 ?_
                refine wl_reL (show lN v16 * lN (10 - (cl c)) = lN (v16 * (10 - (cl c))) from lN_mul v16 (10 - (cl c))) ?_
                refine lv_lstore (lv' := [(9, .long (lN (v16 * (10 - (cl c))))), (0, .ref (a 0)), (1, .int (nI (cl p))), (2, .int (nI (cl n))), (3, .int (nI (cl c))), (4, .long (lN v14.2.2.2.2)), (6, .long (lN 1)), (8, .int (nI k14)), (11, .int (nI k16))]) hx hb dX4_odds_110 hl (by decide) rfl (fun ls hl => ?_)
                refine lv_iinc (v := (nI (k16 + 1))) (lv' := [(11, .int (nI (k16 + 1))), (9, .long (lN (v16 * (10 - (cl c))))), (0, .ref (a 0)), (1, .int (nI (cl p))), (2, .int (nI (cl n))), (3, .int (nI (cl c))), (4, .long (lN v14.2.2.2.2)), (6, .long (lN 1)), (8, .int (nI k14))]) hx hb dX4_odds_112 hl (k := 8) rfl (wl_inc k16 1) (by decide) rfl (fun ls hl => ?_)
                refine lv_goto (tgt := 81) hx hb dX4_odds_115 (by decide) ?_
                exact IH16 _ hb16 (by show (v16 * (10 - (cl c))) ≤ 10 ^ (k16 + 1); exact (Nat.mul_le_mul c9 (by omega))) ls H locs hP hD hS (lv_sub hl [2, 3, 4, 5, 6, 7, 8, 1, 0] rfl)
              · have hb16 := hb16.trans (if_pos c19)
                refine lv_iload_n hx hb dX4_odds_99 rfl (lv_at hl 3 rfl) ?_
                refine lv_i2l hx hb dX4_odds_100 (nI_l (by omega)) ?_
                refine lv_goto (tgt := 109) hx hb dX4_odds_101 (by decide) ?_
                refine lv_lmul hx hb dX4_odds_109 ?_
                refine wl_reL (show lN v16 * lN (cl c) = lN (v16 * (cl c)) from lN_mul v16 (cl c)) ?_
                refine lv_lstore (lv' := [(9, .long (lN (v16 * (cl c)))), (0, .ref (a 0)), (1, .int (nI (cl p))), (2, .int (nI (cl n))), (3, .int (nI (cl c))), (4, .long (lN v14.2.2.2.2)), (6, .long (lN 1)), (8, .int (nI k14)), (11, .int (nI k16))]) hx hb dX4_odds_110 hl (by decide) rfl (fun ls hl => ?_)
                refine lv_iinc (v := (nI (k16 + 1))) (lv' := [(11, .int (nI (k16 + 1))), (9, .long (lN (v16 * (cl c)))), (0, .ref (a 0)), (1, .int (nI (cl p))), (2, .int (nI (cl n))), (3, .int (nI (cl c))), (4, .long (lN v14.2.2.2.2)), (6, .long (lN 1)), (8, .int (nI k14))]) hx hb dX4_odds_112 hl (k := 8) rfl (wl_inc k16 1) (by decide) rfl (fun ls hl => ?_)
                refine lv_goto (tgt := 81) hx hb dX4_odds_115 (by decide) ?_
                exact IH16 _ hb16 (by show (v16 * (cl c)) ≤ 10 ^ (k16 + 1); exact (Nat.mul_le_mul c9 (by omega))) ls H locs hP hD hS (lv_sub hl [2, 3, 4, 5, 6, 7, 8, 1, 0] rfl)
        · have hm := hm.trans (if_neg c13)
          refine lv_aload_n hx hb dX4_odds_53 rfl (lv_at hl 0 rfl) ?_
          refine wl_callVi hC (c_X4_no  ) lk_RX4_131 rfl ⟨rfl, rfl, Nat.le_of_ble_eq_true rfl, Nat.le_of_ble_eq_true rfl⟩ hP hD hS hA 0 rfl (T1 := 21) rfl hl.1 rfl (Nat.le_of_ble_eq_true rfl) dX4_odds_54 ⟨Nat.zero_le _, Nat.zero_le _⟩ (fun z29 hz29 H locs hP hD hS => ?_)
          have hm := wl_bz hm hz29
          exact wl_iret hC hr hlk hm rfl hP hD hS dX4_odds_57
      · have hm := hm.trans (if_neg c10)
        refine lv_aload_n hx hb dX4_odds_32 rfl (lv_at hl 0 rfl) ?_
        refine lv_bipush (v := (-2)) hx hb dX4_odds_33 (by decide +kernel) ?_
        refine wl_callVi hC (c_X4_bad (tells := (-2)) ) lk_RX4_62 rfl ⟨rfl, rfl, Nat.le_of_ble_eq_true rfl, Nat.le_of_ble_eq_true rfl⟩ hP hD hS hA 0 rfl (T1 := 21) rfl hl.1 rfl (Nat.le_of_ble_eq_true rfl) dX4_odds_35 ⟨Nat.zero_le _, Nat.zero_le _⟩ (fun z30 hz30 H locs hP hD hS => ?_)
        have hm := wl_bz hm hz30
        exact wl_iret hC hr hlk hm rfl hP hD hS dX4_odds_38
def m_X4_years_l58 (k10 : Nat) (v10 : Int32 × Int64) : Int32 × Int64 := (if (((((v10.2 * (lN 1103515245)) + (lN 12345)) - ((v10.2 * (lN 1103515245)) + (lN 12345)) / (lN 2147483648) * (lN 2147483648)) / (lN 65536)) - ((((v10.2 * (lN 1103515245)) + (lN 12345)) - ((v10.2 * (lN 1103515245)) + (lN 12345)) / (lN 2147483648) * (lN 2147483648)) / (lN 65536)) / (lN 2) * (lN 2)) = (lN 1) then ((v10.1 ||| ((nI 1) <<< ((nI k10) &&& 31))), (((v10.2 * (lN 1103515245)) + (lN 12345)) - ((v10.2 * (lN 1103515245)) + (lN 12345)) / (lN 2147483648) * (lN 2147483648))) else ((v10.1 ||| (nI 0)), (((v10.2 * (lN 1103515245)) + (lN 12345)) - ((v10.2 * (lN 1103515245)) + (lN 12345)) / (lN 2147483648) * (lN 2147483648))))
def m_X4_years_l44 (mnow : (Nat → Int32)) (P : Nat) (k8 : Nat) (v8 : Int32 × Int32 × Int32 × (Nat → Int32) × Int64 × Int32) : Int32 × Int32 × Int32 × (Nat → Int32) × Int64 × Int32 := (wl_bnd (wl_iter m_X4_years_l58 P 0 ((nI 0), v8.2.2.2.2.1)) (fun z10 => (wl_bnd (m_X4_goDay v8.1 z10.1 v8.2.2.1 mnow v8.2.2.2.1 P) (fun z16 => (wl_bnd (m_X4_bits z16.1) (fun z17 => (z16.2.1, z16.2.2.1, z16.2.2.2.1, z16.2.2.2.2, z10.2, (v8.2.2.2.2.2 + z17))))))))
def m_X4_years (mlisted : Int32) (mfollowing : Int32) (mdayThen : Int32) (mnow : (Nat → Int32)) (mrefused : (Nat → Int32)) (mtempers : (Nat → Int32)) (seed : Int32) (n : Int32) (P : Nat) : Int32 × Int32 × Int32 × Int32 × (Nat → Int32) × (Nat → Int32) := (wl_bnd (m_X4_in seed.toInt64 (lN 0) (lN 999999)) (fun z1 => (if z1 = true then (wl_bnd (m_X4_in n.toInt64 (lN 0) (lN 60)) (fun z4 => (if z4 = true then (wl_bnd (m_X4_layHand mnow mtempers P) (fun z7 => (wl_bnd (wl_iter (m_X4_years_l44 mnow P) (cl n) 0 (z7.1, z7.2.1, z7.2.2.1, z7.2.2.2, seed.toInt64, (nI 0))) (fun z8 => (z8.2.2.2.2.2, z8.1, z8.2.1, z8.2.2.1, mrefused, z8.2.2.2.1))))) else (wl_bnd (m_X4_bad mrefused (-2)) (fun z19 => (z19.1, mlisted, mfollowing, mdayThen, z19.2, mtempers)))))) else (wl_bnd (m_X4_bad mrefused (-2)) (fun z3 => (z3.1, mlisted, mfollowing, mdayThen, z3.2, mtempers))))))
set_option maxHeartbeats 4000000 in
set_option maxRecDepth 100000 in
theorem c_X4_years {l : Launch} {D : va_G} {E : Nat → ClassId} {a : Nat → Nat} {mabove : Int64} {mbelow : Int64} {mlisted : Int32} {mfollowing : Int32} {mdayThen : Int32} {mbytesLong : Nat} {mtokenAt : Nat} {mtokenLong : Nat} {mtoken : Int32} {mvalue : Int32} {mnow : (Nat → Int32)} {mkept : (Nat → Int32)} {misKept : (Nat → Int32)} {mrefused : (Nat → Int32)} {mtempers : (Nat → Int32)} {mhis : (Nat → Int32)} {mtheirs : (Nat → Int32)} {mmanyBy : (Nat → Int32)} {mbytes : (Nat → Int32)} {manew : (Nat → Int32)} {mvalues : (Nat → Int32)} {seed : Int32} {n : Int32} {P : Nat} (h0 : mnow 0 = nI P) (hP7 : P ≤ 7) : wl_Met (τ := Int32 × Int32 × Int32 × Int32 × (Nat → Int32) × (Nat → Int32)) l D E yX4_years cX4_years 8 (some .int) ({ frames := 4, cells := 0, slots := 0, locals := 90 } : Room) [.ref (a 0), .int seed, .int n] (wM E a mabove mbelow mlisted mfollowing mdayThen mbytesLong mtokenAt mtokenLong mtoken mvalue mnow mkept misKept mrefused mtempers mhis mtheirs mmanyBy mbytes manew mvalues) (fun z => some (.int z.1)) (fun z => (wM E a mabove mbelow z.2.1 z.2.2.1 z.2.2.2.1 mbytesLong mtokenAt mtokenLong mtoken mvalue mnow mkept misKept z.2.2.2.2.1 z.2.2.2.2.2 mhis mtheirs mmanyBy mbytes manew mvalues)) (m_X4_years mlisted mfollowing mdayThen mnow mrefused mtempers seed n P) := by
  refine wl_enter (own := RX4) (by decide +kernel) rfl (Nat.le_of_ble_eq_true rfl) ?_
  intro p0 e0 s0 m0 bl0 mt0 c0 A hC hr hlk hA H locs hP hD hS ls hl
  have hx := hC.1
  have hb := hC.2.1
  have hl : lv_has ls 8 [(0, .ref (a 0)), (1, .int seed), (2, .int n)] := hl
  have hm := m_X4_years.eq_1 mlisted mfollowing mdayThen mnow mrefused mtempers seed n P
  refine lv_iload_n hx hb dX4_years_0 rfl (lv_at hl 1 rfl) ?_
  refine lv_i2l (v := seed.toInt64) hx hb dX4_years_1 rfl ?_
  refine lv_lconst (v := lN 0) hx hb dX4_years_2 (by decide +kernel) ?_
  refine lv_ldc2 hx hb hC.2.2.2.1 (hC.2.2.2.2.1 _ mw_528) dX4_years_3 ?_
  refine wl_reL (show (999999 : Int64) = lN 999999 by decide +kernel) ?_
  refine wl_callPi hC (c_X4_in (v := seed.toInt64) (low := (lN 0)) (high := (lN 999999)) ) lk_RX4_56 rfl ⟨rfl, rfl, Nat.le_of_ble_eq_true rfl, Nat.le_of_ble_eq_true rfl⟩ hP hS hA hl.1 rfl (Nat.le_of_ble_eq_true rfl) dX4_years_6 ⟨Nat.zero_le _, Nat.zero_le _⟩ (fun z1 hz1 H locs hP hS => ?_)
  have hm := wl_bz hm hz1
  refine wl_if_eq_b hx hb (tgt := 24) dX4_years_9 (by decide) (fun c2 => ?_) (fun c2 => ?_)
  · have hm := hm.trans (if_neg c2)
    refine lv_aload_n hx hb dX4_years_24 rfl (lv_at hl 0 rfl) ?_
    refine lv_bipush (v := (-2)) hx hb dX4_years_25 (by decide +kernel) ?_
    refine wl_callVi hC (c_X4_bad (tells := (-2)) ) lk_RX4_62 rfl ⟨rfl, rfl, Nat.le_of_ble_eq_true rfl, Nat.le_of_ble_eq_true rfl⟩ hP hD hS hA 0 rfl (T1 := 21) rfl hl.1 rfl (Nat.le_of_ble_eq_true rfl) dX4_years_27 ⟨Nat.zero_le _, Nat.zero_le _⟩ (fun z3 hz3 H locs hP hD hS => ?_)
    have hm := wl_bz hm hz3
    exact wl_iret hC hr hlk hm rfl hP hD hS dX4_years_30
  · have hm := hm.trans (if_pos c2)
    refine lv_iload_n hx hb dX4_years_12 rfl (lv_at hl 2 rfl) ?_
    refine lv_i2l (v := n.toInt64) hx hb dX4_years_13 rfl ?_
    refine lv_lconst (v := lN 0) hx hb dX4_years_14 (by decide +kernel) ?_
    refine lv_ldc2 hx hb hC.2.2.2.1 (hC.2.2.2.2.1 _ mw_468) dX4_years_15 ?_
    refine wl_reL (show (60 : Int64) = lN 60 by decide +kernel) ?_
    refine wl_callPi hC (c_X4_in (v := n.toInt64) (low := (lN 0)) (high := (lN 60)) ) lk_RX4_56 rfl ⟨rfl, rfl, Nat.le_of_ble_eq_true rfl, Nat.le_of_ble_eq_true rfl⟩ hP hS hA hl.1 rfl (Nat.le_of_ble_eq_true rfl) dX4_years_18 ⟨Nat.zero_le _, Nat.zero_le _⟩ (fun z4 hz4 H locs hP hS => ?_)
    have hm := wl_bz hm hz4
    refine wl_if_ne_b hx hb (tgt := 31) dX4_years_21 (by decide) (fun c5 => ?_) (fun c5 => ?_)
    · have hm := hm.trans (if_pos c5)
      obtain ⟨ha6, hb6_, hc6_⟩ := in_spec (a := 0) (b := 60) (by decide) (by decide) (hz4.symm.trans c5)
      have hl : lv_has ls 8 [(0, .ref (a 0)), (1, .int seed), (2, .int (nI (cl n)))] := by rw [← ha6]; exact hl
      refine lv_iload_n hx hb dX4_years_31 rfl (lv_at hl 1 rfl) ?_
      refine lv_i2l (v := seed.toInt64) hx hb dX4_years_32 rfl ?_
      refine lv_lstore_n (lv' := [(3, .long seed.toInt64), (0, .ref (a 0)), (1, .int seed), (2, .int (nI (cl n)))]) hx hb dX4_years_33 rfl hl (by decide) rfl (fun ls hl => ?_)
      refine lv_iconst (v := (nI 0)) hx hb dX4_years_34 (by decide +kernel) ?_
      refine lv_istore (lv' := [(5, .int (nI 0)), (3, .long seed.toInt64), (0, .ref (a 0)), (1, .int seed), (2, .int (nI (cl n)))]) hx hb dX4_years_35 hl (by decide) rfl (fun ls hl => ?_)
      refine lv_aload_n hx hb dX4_years_37 rfl (lv_at hl 2 rfl) ?_
      refine wl_callVv hC (c_X4_layHand (P := P) (h0) (by first | assumption | omega)) lk_RX4_122 rfl ⟨rfl, rfl, Nat.le_of_ble_eq_true rfl, Nat.le_of_ble_eq_true rfl⟩ hP hD hS hA 0 rfl (T1 := 21) rfl hl.1 rfl (Nat.le_of_ble_eq_true rfl) dX4_years_38 ⟨Nat.zero_le _, Nat.zero_le _⟩ (fun z7 hz7 H locs hP hD hS => ?_)
      have hm := wl_bz hm hz7
      refine lv_iconst (v := (nI 0)) hx hb dX4_years_41 (by decide +kernel) ?_
      refine lv_istore (lv' := [(6, .int (nI 0)), (5, .int (nI 0)), (3, .long seed.toInt64), (0, .ref (a 0)), (1, .int seed), (2, .int (nI (cl n)))]) hx hb dX4_years_42 hl (by decide) rfl (fun ls hl => ?_)
      obtain ⟨u8, hu8, hk8⟩ := wl_bx hm
      refine wl_for (D := D) (A := A) (H0 := s0.heap) (m_X4_years_l44 mnow P) (cl n) 0 (cl n) (z7.1, z7.2.1, z7.2.2.1, z7.2.2.2, seed.toInt64, (nI 0)) 44 8 (fun k8 v8 => [(0, .ref (a 0)), (2, .int (nI (cl n))), (3, .long v8.2.2.2.2.1), (5, .int v8.2.2.2.2.2), (6, .int (nI k8))]) (fun k8 v8 => (wM E a mabove mbelow v8.1 v8.2.1 v8.2.2.1 mbytesLong mtokenAt mtokenLong mtoken mvalue mnow mkept misKept mrefused v8.2.2.2.1 mhis mtheirs mmanyBy mbytes manew mvalues)) (fun k8 v8 => True) (by omega) trivial ?_ ?_ hP hD hS (lv_sub hl [3, 5, 2, 1, 0] rfl)
      · intro z8 hv8 hI8 ls H locs hP hD hS hl
        have hm := hk8 z8 (hu8.trans hv8)
        refine lv_iload hx hb dX4_years_44 (lv_at hl 4 rfl) ?_
        refine lv_iload_n hx hb dX4_years_46 rfl (lv_at hl 1 rfl) ?_
        refine wl_icmp_ge_n hx hb (by first | omega | exact Nat.lt_of_le_of_lt Nat.and_le_right (by omega) | exact Nat.pow_lt_pow_right (by omega) (by omega) | exact Nat.lt_trans (by assumption) (Nat.pow_lt_pow_right (by omega) (by omega))) (by first | omega | exact Nat.lt_of_le_of_lt Nat.and_le_right (by omega) | exact Nat.pow_lt_pow_right (by omega) (by omega) | exact Nat.lt_trans (by assumption) (Nat.pow_lt_pow_right (by omega) (by omega))) (tgt := 136) dX4_years_47 (by decide) (fun c18 => ?_) (fun c18 => absurd (by omega) c18)
        refine lv_iload hx hb dX4_years_136 (lv_at hl 3 rfl) ?_
        exact wl_iret hC hr hlk hm rfl hP hD hS dX4_years_138
      · intro k8 v8 hlo8 hhi8 hI8 IH8 ls H locs hP hD hS hl
        have hb8 := m_X4_years_l44.eq_1 mnow P k8 v8
        refine lv_iload hx hb dX4_years_44 (lv_at hl 4 rfl) ?_
        refine lv_iload_n hx hb dX4_years_46 rfl (lv_at hl 1 rfl) ?_
        refine wl_icmp_ge_n hx hb (by first | omega | exact Nat.lt_of_le_of_lt Nat.and_le_right (by omega) | exact Nat.pow_lt_pow_right (by omega) (by omega) | exact Nat.lt_trans (by assumption) (Nat.pow_lt_pow_right (by omega) (by omega))) (by first | omega | exact Nat.lt_of_le_of_lt Nat.and_le_right (by omega) | exact Nat.pow_lt_pow_right (by omega) (by omega) | exact Nat.lt_trans (by assumption) (Nat.pow_lt_pow_right (by omega) (by omega))) (tgt := 136) dX4_years_47 (by decide) (fun c9 => absurd c9 (by omega)) (fun c9 => ?_)
        refine lv_aload_n hx hb dX4_years_50 rfl (lv_at hl 0 rfl) ?_
        refine lv_iconst (v := (nI 0)) hx hb dX4_years_51 (by decide +kernel) ?_
        refine p_M_0_following hC hP hD hS (nI 0) mw_433 dX4_years_52 (fun H locs hP hD hS => ?_)
        refine lv_iconst (v := (nI 0)) hx hb dX4_years_55 (by decide +kernel) ?_
        refine lv_istore (lv' := [(7, .int (nI 0)), (0, .ref (a 0)), (2, .int (nI (cl n))), (3, .long v8.2.2.2.2.1), (5, .int v8.2.2.2.2.2), (6, .int (nI k8))]) hx hb dX4_years_56 hl (by decide) rfl (fun ls hl => ?_)
        obtain ⟨u10, hu10, hk10⟩ := wl_bx hb8
        refine wl_for (D := D) (A := A) (H0 := s0.heap) m_X4_years_l58 P 0 P ((nI 0), v8.2.2.2.2.1) 58 8 (fun k10 v10 => [(0, .ref (a 0)), (2, .int (nI (cl n))), (3, .long v10.2), (5, .int v8.2.2.2.2.2), (6, .int (nI k8)), (7, .int (nI k10))]) (fun k10 v10 => (wM E a mabove mbelow v8.1 v10.1 v8.2.2.1 mbytesLong mtokenAt mtokenLong mtoken mvalue mnow mkept misKept mrefused v8.2.2.2.1 mhis mtheirs mmanyBy mbytes manew mvalues)) (fun k10 v10 => True) (by omega) trivial ?_ ?_ hP hD hS (lv_sub hl [1, 2, 3, 4, 5, 0] rfl)
        · intro z10 hv10 hI10 ls H locs hP hD hS hl
          have hb8 := hk10 z10 (hu10.trans hv10)
          refine lv_iload hx hb dX4_years_58 (lv_at hl 5 rfl) ?_
          refine lv_aload_n hx hb dX4_years_60 rfl (lv_at hl 0 rfl) ?_
          refine wl_callVi hC (c_X4_many (P := P) (h0)) lk_RX4_52 rfl ⟨rfl, rfl, Nat.le_of_ble_eq_true rfl, Nat.le_of_ble_eq_true rfl⟩ hP hD hS hA 0 rfl (T1 := 21) rfl hl.1 rfl (Nat.le_of_ble_eq_true rfl) dX4_years_61 ⟨Nat.zero_le _, Nat.zero_le _⟩ (fun z14 hz14 H locs hP hD hS => ?_)
          have hz14 := hz14.symm
          subst hz14
          refine wl_icmp_ge_n hx hb (by first | omega | exact Nat.lt_of_le_of_lt Nat.and_le_right (by omega) | exact Nat.pow_lt_pow_right (by omega) (by omega) | exact Nat.lt_trans (by assumption) (Nat.pow_lt_pow_right (by omega) (by omega))) (by first | omega | exact Nat.lt_of_le_of_lt Nat.and_le_right (by omega) | exact Nat.pow_lt_pow_right (by omega) (by omega) | exact Nat.lt_trans (by assumption) (Nat.pow_lt_pow_right (by omega) (by omega))) (tgt := 118) dX4_years_64 (by decide) (fun c15 => ?_) (fun c15 => absurd (by omega) c15)
          refine lv_iload hx hb dX4_years_118 (lv_at hl 3 rfl) ?_
          refine lv_aload_n hx hb dX4_years_120 rfl (lv_at hl 0 rfl) ?_
          refine wl_callVi hC (c_X4_goDay (P := P) (h0) (by first | assumption | omega)) lk_RX4_125 rfl ⟨rfl, rfl, Nat.le_of_ble_eq_true rfl, Nat.le_of_ble_eq_true rfl⟩ hP hD hS hA 0 rfl (T1 := 21) rfl hl.1 rfl (Nat.le_of_ble_eq_true rfl) dX4_years_121 ⟨Nat.zero_le _, Nat.zero_le _⟩ (fun z16 hz16 H locs hP hD hS => ?_)
          have hb8 := wl_bz hb8 hz16
          refine wl_callPi hC (c_X4_bits (set := z16.1) ) lk_RX4_128 rfl ⟨rfl, rfl, Nat.le_of_ble_eq_true rfl, Nat.le_of_ble_eq_true rfl⟩ hP hS hA hl.1 rfl (Nat.le_of_ble_eq_true rfl) dX4_years_124 ⟨Nat.zero_le _, Nat.zero_le _⟩ (fun z17 hz17 H locs hP hS => ?_)
          have hb8 := wl_bz hb8 hz17
          refine lv_iadd hx hb dX4_years_127 ?_
          refine lv_istore (lv' := [(5, .int (v8.2.2.2.2.2 + z17)), (0, .ref (a 0)), (2, .int (nI (cl n))), (3, .long z10.2), (6, .int (nI k8)), (7, .int (nI P))]) hx hb dX4_years_128 hl (by decide) rfl (fun ls hl => ?_)
          refine lv_iinc (v := (nI (k8 + 1))) (lv' := [(6, .int (nI (k8 + 1))), (5, .int (v8.2.2.2.2.2 + z17)), (0, .ref (a 0)), (2, .int (nI (cl n))), (3, .long z10.2), (7, .int (nI P))]) hx hb dX4_years_130 hl (k := 4) rfl (wl_inc k8 1) (by decide) rfl (fun ls hl => ?_)
          refine lv_goto (tgt := 44) hx hb dX4_years_133 (by decide) ?_
          exact IH8 _ hb8 trivial ls H locs hP hD hS (lv_sub hl [2, 3, 4, 1, 0] rfl)
        · intro k10 v10 hlo10 hhi10 hI10 IH10 ls H locs hP hD hS hl
          have hb10 := m_X4_years_l58.eq_1 k10 v10
          refine lv_iload hx hb dX4_years_58 (lv_at hl 5 rfl) ?_
          refine lv_aload_n hx hb dX4_years_60 rfl (lv_at hl 0 rfl) ?_
          refine wl_callVi hC (c_X4_many (P := P) (h0)) lk_RX4_52 rfl ⟨rfl, rfl, Nat.le_of_ble_eq_true rfl, Nat.le_of_ble_eq_true rfl⟩ hP hD hS hA 0 rfl (T1 := 21) rfl hl.1 rfl (Nat.le_of_ble_eq_true rfl) dX4_years_61 ⟨Nat.zero_le _, Nat.zero_le _⟩ (fun z11 hz11 H locs hP hD hS => ?_)
          have hz11 := hz11.symm
          subst hz11
          refine wl_icmp_ge_n hx hb (by first | omega | exact Nat.lt_of_le_of_lt Nat.and_le_right (by omega) | exact Nat.pow_lt_pow_right (by omega) (by omega) | exact Nat.lt_trans (by assumption) (Nat.pow_lt_pow_right (by omega) (by omega))) (by first | omega | exact Nat.lt_of_le_of_lt Nat.and_le_right (by omega) | exact Nat.pow_lt_pow_right (by omega) (by omega) | exact Nat.lt_trans (by assumption) (Nat.pow_lt_pow_right (by omega) (by omega))) (tgt := 118) dX4_years_64 (by decide) (fun c12 => absurd c12 (by omega)) (fun c12 => ?_)
          refine lv_lload_n hx hb dX4_years_67 rfl (lv_at hl 2 rfl) ?_
          refine lv_ldc2 hx hb hC.2.2.2.1 (hC.2.2.2.2.1 _ mw_529) dX4_years_68 ?_
          refine wl_reL (show (1103515245 : Int64) = lN 1103515245 by decide +kernel) ?_
          refine lv_lmul hx hb dX4_years_71 ?_
          refine lv_ldc2 hx hb hC.2.2.2.1 (hC.2.2.2.2.1 _ mw_530) dX4_years_72 ?_
          refine wl_reL (show (12345 : Int64) = lN 12345 by decide +kernel) ?_
          refine lv_ladd hx hb dX4_years_75 ?_
          refine lv_ldc2 hx hb hC.2.2.2.1 (hC.2.2.2.2.1 _ mw_531) dX4_years_76 ?_
          refine wl_reL (show (2147483648 : Int64) = lN 2147483648 by decide +kernel) ?_
          refine lv_lrem hx hb dX4_years_79 (by decide +kernel) ?_
          refine lv_lstore_n (lv' := [(3, .long (((v10.2 * (lN 1103515245)) + (lN 12345)) - ((v10.2 * (lN 1103515245)) + (lN 12345)) / (lN 2147483648) * (lN 2147483648))), (0, .ref (a 0)), (2, .int (nI (cl n))), (5, .int v8.2.2.2.2.2), (6, .int (nI k8)), (7, .int (nI k10))]) hx hb dX4_years_80 rfl hl (by decide) rfl (fun ls hl => ?_)
          refine lv_aload_n hx hb dX4_years_81 rfl (lv_at hl 1 rfl) ?_
          refine lv_dup hx hb dX4_years_82 rfl ?_
          refine g_M_0_following hC hP mw_433 dX4_years_83 ?_
          refine lv_lload_n hx hb dX4_years_86 rfl (lv_at hl 0 rfl) ?_
          refine lv_ldc2 hx hb hC.2.2.2.1 (hC.2.2.2.2.1 _ mw_532) dX4_years_87 ?_
          refine wl_reL (show (65536 : Int64) = lN 65536 by decide +kernel) ?_
          refine lv_ldiv hx hb dX4_years_90 (by decide +kernel) ?_
          refine lv_ldc2 hx hb hC.2.2.2.1 (hC.2.2.2.2.1 _ mw_533) dX4_years_91 ?_
          refine wl_reL (show (2 : Int64) = lN 2 by decide +kernel) ?_
          refine lv_lrem hx hb dX4_years_94 (by decide +kernel) ?_
          refine lv_lconst (v := lN 1) hx hb dX4_years_95 (by decide +kernel) ?_
          refine W.lcmp hx hb dX4_years_96 ?_
          refine wl_c_ne hx hb (tgt := 107) dX4_years_97 (by decide) (fun c13 => ?_) (fun c13 => ?_)
          · have hb10 := hb10.trans (if_neg c13)
            refine lv_iconst (v := (nI 0)) hx hb dX4_years_107 (by decide +kernel) ?_
            refine lv_ior hx hb dX4_years_108 ?_
            refine p_M_0_following hC hP hD hS (v10.1 ||| (nI 0)) mw_433 dX4_years_109 (fun H locs hP hD hS => ?_)
            refine lv_iinc (v := (nI (k10 + 1))) (lv' := [(7, .int (nI (k10 + 1))), (3, .long (((v10.2 * (lN 1103515245)) + (lN 12345)) - ((v10.2 * (lN 1103515245)) + (lN 12345)) / (lN 2147483648) * (lN 2147483648))), (0, .ref (a 0)), (2, .int (nI (cl n))), (5, .int v8.2.2.2.2.2), (6, .int (nI k8))]) hx hb dX4_years_112 hl (k := 5) rfl (wl_inc k10 1) (by decide) rfl (fun ls hl => ?_)
            refine lv_goto (tgt := 58) hx hb dX4_years_115 (by decide) ?_
            exact IH10 _ hb10 trivial ls H locs hP hD hS (lv_sub hl [2, 3, 1, 4, 5, 0] rfl)
          · have hb10 := hb10.trans (if_pos c13)
            refine lv_iconst (v := (nI 1)) hx hb dX4_years_100 (by decide +kernel) ?_
            refine lv_iload hx hb dX4_years_101 (lv_at hl 5 rfl) ?_
            refine lv_ishl hx hb dX4_years_103 ?_
            refine lv_goto (tgt := 108) hx hb dX4_years_104 (by decide) ?_
            refine lv_ior hx hb dX4_years_108 ?_
            refine p_M_0_following hC hP hD hS (v10.1 ||| ((nI 1) <<< ((nI k10) &&& 31))) mw_433 dX4_years_109 (fun H locs hP hD hS => ?_)
            refine lv_iinc (v := (nI (k10 + 1))) (lv' := [(7, .int (nI (k10 + 1))), (3, .long (((v10.2 * (lN 1103515245)) + (lN 12345)) - ((v10.2 * (lN 1103515245)) + (lN 12345)) / (lN 2147483648) * (lN 2147483648))), (0, .ref (a 0)), (2, .int (nI (cl n))), (5, .int v8.2.2.2.2.2), (6, .int (nI k8))]) hx hb dX4_years_112 hl (k := 5) rfl (wl_inc k10 1) (by decide) rfl (fun ls hl => ?_)
            refine lv_goto (tgt := 58) hx hb dX4_years_115 (by decide) ?_
            exact IH10 _ hb10 trivial ls H locs hP hD hS (lv_sub hl [2, 3, 1, 4, 5, 0] rfl)
    · have hm := hm.trans (if_neg c5)
      refine lv_aload_n hx hb dX4_years_24 rfl (lv_at hl 0 rfl) ?_
      refine lv_bipush (v := (-2)) hx hb dX4_years_25 (by decide +kernel) ?_
      refine wl_callVi hC (c_X4_bad (tells := (-2)) ) lk_RX4_62 rfl ⟨rfl, rfl, Nat.le_of_ble_eq_true rfl, Nat.le_of_ble_eq_true rfl⟩ hP hD hS hA 0 rfl (T1 := 21) rfl hl.1 rfl (Nat.le_of_ble_eq_true rfl) dX4_years_27 ⟨Nat.zero_le _, Nat.zero_le _⟩ (fun z19 hz19 H locs hP hD hS => ?_)
      have hm := wl_bz hm hz19
      exact wl_iret hC hr hlk hm rfl hP hD hS dX4_years_30
def m_X4_type (mbytesLong : Nat) (mrefused : (Nat → Int32)) (mbytes : (Nat → Int32)) (c : Int32) : Int32 × Nat × (Nat → Int32) × (Nat → Int32) := (wl_bnd (m_X4_in c.toInt64 (lN 0) (lN 127)) (fun z1 => (if z1 = true then (if mbytesLong = 150 then (wl_bnd (m_X4_full mrefused) (fun z5 => (z5.1, mbytesLong, z5.2, mbytes))) else ((nI (mbytesLong + 1)), (mbytesLong + 1), mrefused, (upd mbytes mbytesLong (nI (cl c))))) else (wl_bnd (m_X4_bad mrefused (-2)) (fun z6 => (z6.1, mbytesLong, z6.2, mbytes))))))
set_option maxHeartbeats 4000000 in
set_option maxRecDepth 100000 in
theorem c_X4_type {l : Launch} {D : va_G} {E : Nat → ClassId} {a : Nat → Nat} {mabove : Int64} {mbelow : Int64} {mlisted : Int32} {mfollowing : Int32} {mdayThen : Int32} {mbytesLong : Nat} {mtokenAt : Nat} {mtokenLong : Nat} {mtoken : Int32} {mvalue : Int32} {mnow : (Nat → Int32)} {mkept : (Nat → Int32)} {misKept : (Nat → Int32)} {mrefused : (Nat → Int32)} {mtempers : (Nat → Int32)} {mhis : (Nat → Int32)} {mtheirs : (Nat → Int32)} {mmanyBy : (Nat → Int32)} {mbytes : (Nat → Int32)} {manew : (Nat → Int32)} {mvalues : (Nat → Int32)} {c : Int32} (hBL : mbytesLong ≤ 150) : wl_Met (τ := Int32 × Nat × (Nat → Int32) × (Nat → Int32)) l D E yX4_type cX4_type 2 (some .int) ({ frames := 1, cells := 0, slots := 0, locals := 25 } : Room) [.ref (a 0), .int c] (wM E a mabove mbelow mlisted mfollowing mdayThen mbytesLong mtokenAt mtokenLong mtoken mvalue mnow mkept misKept mrefused mtempers mhis mtheirs mmanyBy mbytes manew mvalues) (fun z => some (.int z.1)) (fun z => (wM E a mabove mbelow mlisted mfollowing mdayThen z.2.1 mtokenAt mtokenLong mtoken mvalue mnow mkept misKept z.2.2.1 mtempers mhis mtheirs mmanyBy z.2.2.2 manew mvalues)) (m_X4_type mbytesLong mrefused mbytes c) := by
  refine wl_enter (own := RX4) (by decide +kernel) rfl (Nat.le_of_ble_eq_true rfl) ?_
  intro p0 e0 s0 m0 bl0 mt0 c0 A hC hr hlk hA H locs hP hD hS ls hl
  have hx := hC.1
  have hb := hC.2.1
  have hl : lv_has ls 2 [(0, .ref (a 0)), (1, .int c)] := hl
  have hm := m_X4_type.eq_1 mbytesLong mrefused mbytes c
  refine lv_iload_n hx hb dX4_type_0 rfl (lv_at hl 1 rfl) ?_
  refine lv_i2l (v := c.toInt64) hx hb dX4_type_1 rfl ?_
  refine lv_lconst (v := lN 0) hx hb dX4_type_2 (by decide +kernel) ?_
  refine lv_ldc2 hx hb hC.2.2.2.1 (hC.2.2.2.2.1 _ mw_535) dX4_type_3 ?_
  refine wl_reL (show (127 : Int64) = lN 127 by decide +kernel) ?_
  refine wl_callPi hC (c_X4_in (v := c.toInt64) (low := (lN 0)) (high := (lN 127)) ) lk_RX4_56 rfl ⟨rfl, rfl, Nat.le_of_ble_eq_true rfl, Nat.le_of_ble_eq_true rfl⟩ hP hS hA hl.1 rfl (Nat.le_of_ble_eq_true rfl) dX4_type_6 ⟨Nat.zero_le _, Nat.zero_le _⟩ (fun z1 hz1 H locs hP hS => ?_)
  have hm := wl_bz hm hz1
  refine wl_if_ne_b hx hb (tgt := 19) dX4_type_9 (by decide) (fun c2 => ?_) (fun c2 => ?_)
  · have hm := hm.trans (if_pos c2)
    obtain ⟨ha3, hb3_, hc3_⟩ := in_spec (a := 0) (b := 127) (by decide) (by decide) (hz1.symm.trans c2)
    have hl : lv_has ls 2 [(0, .ref (a 0)), (1, .int (nI (cl c)))] := by rw [← ha3]; exact hl
    refine lv_aload_n hx hb dX4_type_19 rfl (lv_at hl 0 rfl) ?_
    refine g_M_0_bytesLong hC hP mw_536 dX4_type_20 ?_
    refine lv_sipush (v := (nI 150)) hx hb dX4_type_23 (by decide +kernel) ?_
    refine wl_icmp_ne_n hx hb (by first | omega | exact Nat.lt_of_le_of_lt Nat.and_le_right (by omega) | exact Nat.pow_lt_pow_right (by omega) (by omega) | exact Nat.lt_trans (by assumption) (Nat.pow_lt_pow_right (by omega) (by omega))) (by first | omega | exact Nat.lt_of_le_of_lt Nat.and_le_right (by omega) | exact Nat.pow_lt_pow_right (by omega) (by omega) | exact Nat.lt_trans (by assumption) (Nat.pow_lt_pow_right (by omega) (by omega))) (tgt := 34) dX4_type_26 (by decide) (fun c4 => ?_) (fun c4 => ?_)
    · have hm := hm.trans (if_neg c4)
      refine lv_aload_n hx hb dX4_type_34 rfl (lv_at hl 0 rfl) ?_
      refine g_M_0_bytes hC hP mw_394 dX4_type_35 ?_
      refine lv_aload_n hx hb dX4_type_38 rfl (lv_at hl 0 rfl) ?_
      refine g_M_0_bytesLong hC hP mw_536 dX4_type_39 ?_
      refine lv_iload_n hx hb dX4_type_42 rfl (lv_at hl 1 rfl) ?_
      refine st_M_9 hC hP hD hS mbytesLong (nI (cl c)) (by omega) dX4_type_43 (fun H locs hP hD hS => ?_)
      refine lv_aload_n hx hb dX4_type_44 rfl (lv_at hl 0 rfl) ?_
      refine lv_dup hx hb dX4_type_45 rfl ?_
      refine g_M_0_bytesLong hC hP mw_536 dX4_type_46 ?_
      refine lv_iconst (v := (nI 1)) hx hb dX4_type_49 (by decide +kernel) ?_
      refine lv_iadd hx hb dX4_type_50 ?_
      refine wl_re (show nI mbytesLong + nI 1 = nI (mbytesLong + 1) from nI_add mbytesLong 1) ?_
      refine p_M_0_bytesLong hC hP hD hS (mbytesLong + 1) mw_536 dX4_type_51 (fun H locs hP hD hS => ?_)
      refine lv_aload_n hx hb dX4_type_54 rfl (lv_at hl 0 rfl) ?_
      refine g_M_0_bytesLong hC hP mw_536 dX4_type_55 ?_
      exact wl_iret hC hr hlk hm rfl hP hD hS dX4_type_58
    · have hm := hm.trans (if_pos c4)
      refine lv_aload_n hx hb dX4_type_29 rfl (lv_at hl 0 rfl) ?_
      refine wl_callVi hC (c_X4_full  ) lk_RX4_68 rfl ⟨rfl, rfl, Nat.le_of_ble_eq_true rfl, Nat.le_of_ble_eq_true rfl⟩ hP hD hS hA 0 rfl (T1 := 21) rfl hl.1 rfl (Nat.le_of_ble_eq_true rfl) dX4_type_30 ⟨Nat.zero_le _, Nat.zero_le _⟩ (fun z5 hz5 H locs hP hD hS => ?_)
      have hm := wl_bz hm hz5
      exact wl_iret hC hr hlk hm rfl hP hD hS dX4_type_33
  · have hm := hm.trans (if_neg c2)
    refine lv_aload_n hx hb dX4_type_12 rfl (lv_at hl 0 rfl) ?_
    refine lv_bipush (v := (-2)) hx hb dX4_type_13 (by decide +kernel) ?_
    refine wl_callVi hC (c_X4_bad (tells := (-2)) ) lk_RX4_62 rfl ⟨rfl, rfl, Nat.le_of_ble_eq_true rfl, Nat.le_of_ble_eq_true rfl⟩ hP hD hS hA 0 rfl (T1 := 21) rfl hl.1 rfl (Nat.le_of_ble_eq_true rfl) dX4_type_15 ⟨Nat.zero_le _, Nat.zero_le _⟩ (fun z6 hz6 H locs hP hD hS => ?_)
    have hm := wl_bz hm hz6
    exact wl_iret hC hr hlk hm rfl hP hD hS dX4_type_18
def m_X4_clear (mbytesLong : Nat) : Int32 × Nat := ((nI mbytesLong), 0)
set_option maxHeartbeats 4000000 in
set_option maxRecDepth 100000 in
theorem c_X4_clear {l : Launch} {D : va_G} {E : Nat → ClassId} {a : Nat → Nat} {mabove : Int64} {mbelow : Int64} {mlisted : Int32} {mfollowing : Int32} {mdayThen : Int32} {mbytesLong : Nat} {mtokenAt : Nat} {mtokenLong : Nat} {mtoken : Int32} {mvalue : Int32} {mnow : (Nat → Int32)} {mkept : (Nat → Int32)} {misKept : (Nat → Int32)} {mrefused : (Nat → Int32)} {mtempers : (Nat → Int32)} {mhis : (Nat → Int32)} {mtheirs : (Nat → Int32)} {mmanyBy : (Nat → Int32)} {mbytes : (Nat → Int32)} {manew : (Nat → Int32)} {mvalues : (Nat → Int32)}  : wl_Met (τ := Int32 × Nat) l D E yX4_clear cX4_clear 2 (some .int) ({ frames := 0, cells := 0, slots := 0, locals := 0 } : Room) [.ref (a 0)] (wM E a mabove mbelow mlisted mfollowing mdayThen mbytesLong mtokenAt mtokenLong mtoken mvalue mnow mkept misKept mrefused mtempers mhis mtheirs mmanyBy mbytes manew mvalues) (fun z => some (.int z.1)) (fun z => (wM E a mabove mbelow mlisted mfollowing mdayThen z.2 mtokenAt mtokenLong mtoken mvalue mnow mkept misKept mrefused mtempers mhis mtheirs mmanyBy mbytes manew mvalues)) (m_X4_clear mbytesLong) := by
  refine wl_enter (own := RX4) (by decide +kernel) rfl (Nat.le_of_ble_eq_true rfl) ?_
  intro p0 e0 s0 m0 bl0 mt0 c0 A hC hr hlk hA H locs hP hD hS ls hl
  have hx := hC.1
  have hb := hC.2.1
  have hl : lv_has ls 2 [(0, .ref (a 0))] := hl
  have hm := m_X4_clear.eq_1 mbytesLong
  refine lv_aload_n hx hb dX4_clear_0 rfl (lv_at hl 0 rfl) ?_
  refine g_M_0_bytesLong hC hP mw_536 dX4_clear_1 ?_
  refine lv_istore_n (lv' := [(1, .int (nI mbytesLong)), (0, .ref (a 0))]) hx hb dX4_clear_4 rfl hl (by decide) rfl (fun ls hl => ?_)
  refine lv_aload_n hx hb dX4_clear_5 rfl (lv_at hl 1 rfl) ?_
  refine lv_iconst (v := (nI 0)) hx hb dX4_clear_6 (by decide +kernel) ?_
  refine p_M_0_bytesLong hC hP hD hS 0 mw_536 dX4_clear_7 (fun H locs hP hD hS => ?_)
  refine lv_iload_n hx hb dX4_clear_10 rfl (lv_at hl 0 rfl) ?_
  exact wl_iret hC hr hlk hm rfl hP hD hS dX4_clear_11
def m_X4_part (mabove : Int64) (mbelow : Int64) (mrefused : (Nat → Int32)) (what : Int32) : Int64 × (Nat → Int32) := (if what = 0 then (mabove, mrefused) else (if what = (nI 1) then (mbelow, mrefused) else (wl_bnd (m_X4_bad mrefused (-2)) (fun z3 => (z3.1.toInt64, z3.2)))))
set_option maxHeartbeats 4000000 in
set_option maxRecDepth 100000 in
theorem c_X4_part {l : Launch} {D : va_G} {E : Nat → ClassId} {a : Nat → Nat} {mabove : Int64} {mbelow : Int64} {mlisted : Int32} {mfollowing : Int32} {mdayThen : Int32} {mbytesLong : Nat} {mtokenAt : Nat} {mtokenLong : Nat} {mtoken : Int32} {mvalue : Int32} {mnow : (Nat → Int32)} {mkept : (Nat → Int32)} {misKept : (Nat → Int32)} {mrefused : (Nat → Int32)} {mtempers : (Nat → Int32)} {mhis : (Nat → Int32)} {mtheirs : (Nat → Int32)} {mmanyBy : (Nat → Int32)} {mbytes : (Nat → Int32)} {manew : (Nat → Int32)} {mvalues : (Nat → Int32)} {what : Int32} : wl_Met (τ := Int64 × (Nat → Int32)) l D E yX4_part cX4_part 2 (some .long) ({ frames := 1, cells := 0, slots := 0, locals := 21 } : Room) [.ref (a 0), .int what] (wM E a mabove mbelow mlisted mfollowing mdayThen mbytesLong mtokenAt mtokenLong mtoken mvalue mnow mkept misKept mrefused mtempers mhis mtheirs mmanyBy mbytes manew mvalues) (fun z => some (.long z.1)) (fun z => (wM E a mabove mbelow mlisted mfollowing mdayThen mbytesLong mtokenAt mtokenLong mtoken mvalue mnow mkept misKept z.2 mtempers mhis mtheirs mmanyBy mbytes manew mvalues)) (m_X4_part mabove mbelow mrefused what) := by
  refine wl_enter (own := RX4) (by decide +kernel) rfl (Nat.le_of_ble_eq_true rfl) ?_
  intro p0 e0 s0 m0 bl0 mt0 c0 A hC hr hlk hA H locs hP hD hS ls hl
  have hx := hC.1
  have hb := hC.2.1
  have hl : lv_has ls 2 [(0, .ref (a 0)), (1, .int what)] := hl
  have hm := m_X4_part.eq_1 mabove mbelow mrefused what
  refine lv_iload_n hx hb dX4_part_0 rfl (lv_at hl 1 rfl) ?_
  refine lv_if_ne hx hb (tgt := 11) dX4_part_1 (by decide) (fun c1 => ?_) (fun c1 => ?_)
  · have hm := hm.trans (if_neg c1)
    refine lv_iload_n hx hb dX4_part_11 rfl (lv_at hl 1 rfl) ?_
    refine lv_iconst (v := (nI 1)) hx hb dX4_part_12 (by decide +kernel) ?_
    refine lv_icmp_ne hx hb (tgt := 23) dX4_part_13 (by decide) (fun c2 => ?_) (fun c2 => ?_)
    · have hm := hm.trans (if_neg c2)
      refine lv_aload_n hx hb dX4_part_23 rfl (lv_at hl 0 rfl) ?_
      refine lv_bipush (v := (-2)) hx hb dX4_part_24 (by decide +kernel) ?_
      refine wl_callVi hC (c_X4_bad (tells := (-2)) ) lk_RX4_62 rfl ⟨rfl, rfl, Nat.le_of_ble_eq_true rfl, Nat.le_of_ble_eq_true rfl⟩ hP hD hS hA 0 rfl (T1 := 21) rfl hl.1 rfl (Nat.le_of_ble_eq_true rfl) dX4_part_26 ⟨Nat.zero_le _, Nat.zero_le _⟩ (fun z3 hz3 H locs hP hD hS => ?_)
      have hm := wl_bz hm hz3
      refine lv_i2l (v := z3.1.toInt64) hx hb dX4_part_29 rfl ?_
      exact wl_lret hC hr hlk hm rfl hP hD hS dX4_part_30
    · have hm := hm.trans (if_pos c2)
      refine lv_aload_n hx hb dX4_part_16 rfl (lv_at hl 0 rfl) ?_
      refine g_M_0_below hC hP mw_389 dX4_part_17 ?_
      refine lv_goto (tgt := 30) hx hb dX4_part_20 (by decide) ?_
      exact wl_lret hC hr hlk hm rfl hP hD hS dX4_part_30
  · have hm := hm.trans (if_pos c1)
    refine lv_aload_n hx hb dX4_part_4 rfl (lv_at hl 0 rfl) ?_
    refine g_M_0_above hC hP mw_521 dX4_part_5 ?_
    refine lv_goto (tgt := 30) hx hb dX4_part_8 (by decide) ?_
    exact wl_lret hC hr hlk hm rfl hP hD hS dX4_part_30
def m_X4_image_l19 (mnow : (Nat → Int32)) (i : Int32) (k4 : Nat) (v4 : (Nat → Int32)) : (Nat → Int32) := (upd v4 ((140 * (cl i)) + k4) (mnow k4))
def m_X4_image (mnow : (Nat → Int32)) (mkept : (Nat → Int32)) (misKept : (Nat → Int32)) (mrefused : (Nat → Int32)) (i : Int32) : Int32 × (Nat → Int32) × (Nat → Int32) × (Nat → Int32) := (wl_bnd (m_X4_in i.toInt64 (lN 0) (lN 1)) (fun z1 => (if z1 = true then (wl_bnd (wl_iter (m_X4_image_l19 mnow i) 140 0 mkept) (fun z4 => ((nI 1), z4, (upd misKept (cl i) (wl_b true)), mrefused))) else (wl_bnd (m_X4_bad mrefused (-2)) (fun z7 => (z7.1, mkept, misKept, z7.2))))))
set_option maxHeartbeats 4000000 in
set_option maxRecDepth 100000 in
theorem c_X4_image {l : Launch} {D : va_G} {E : Nat → ClassId} {a : Nat → Nat} {mabove : Int64} {mbelow : Int64} {mlisted : Int32} {mfollowing : Int32} {mdayThen : Int32} {mbytesLong : Nat} {mtokenAt : Nat} {mtokenLong : Nat} {mtoken : Int32} {mvalue : Int32} {mnow : (Nat → Int32)} {mkept : (Nat → Int32)} {misKept : (Nat → Int32)} {mrefused : (Nat → Int32)} {mtempers : (Nat → Int32)} {mhis : (Nat → Int32)} {mtheirs : (Nat → Int32)} {mmanyBy : (Nat → Int32)} {mbytes : (Nat → Int32)} {manew : (Nat → Int32)} {mvalues : (Nat → Int32)} {i : Int32} : wl_Met (τ := Int32 × (Nat → Int32) × (Nat → Int32) × (Nat → Int32)) l D E yX4_image cX4_image 3 (some .int) ({ frames := 1, cells := 0, slots := 0, locals := 25 } : Room) [.ref (a 0), .int i] (wM E a mabove mbelow mlisted mfollowing mdayThen mbytesLong mtokenAt mtokenLong mtoken mvalue mnow mkept misKept mrefused mtempers mhis mtheirs mmanyBy mbytes manew mvalues) (fun z => some (.int z.1)) (fun z => (wM E a mabove mbelow mlisted mfollowing mdayThen mbytesLong mtokenAt mtokenLong mtoken mvalue mnow z.2.1 z.2.2.1 z.2.2.2 mtempers mhis mtheirs mmanyBy mbytes manew mvalues)) (m_X4_image mnow mkept misKept mrefused i) := by
  refine wl_enter (own := RX4) (by decide +kernel) rfl (Nat.le_of_ble_eq_true rfl) ?_
  intro p0 e0 s0 m0 bl0 mt0 c0 A hC hr hlk hA H locs hP hD hS ls hl
  have hx := hC.1
  have hb := hC.2.1
  have hl : lv_has ls 3 [(0, .ref (a 0)), (1, .int i)] := hl
  have hm := m_X4_image.eq_1 mnow mkept misKept mrefused i
  refine lv_iload_n hx hb dX4_image_0 rfl (lv_at hl 1 rfl) ?_
  refine lv_i2l (v := i.toInt64) hx hb dX4_image_1 rfl ?_
  refine lv_lconst (v := lN 0) hx hb dX4_image_2 (by decide +kernel) ?_
  refine lv_lconst (v := lN 1) hx hb dX4_image_3 (by decide +kernel) ?_
  refine wl_callPi hC (c_X4_in (v := i.toInt64) (low := (lN 0)) (high := (lN 1)) ) lk_RX4_56 rfl ⟨rfl, rfl, Nat.le_of_ble_eq_true rfl, Nat.le_of_ble_eq_true rfl⟩ hP hS hA hl.1 rfl (Nat.le_of_ble_eq_true rfl) dX4_image_4 ⟨Nat.zero_le _, Nat.zero_le _⟩ (fun z1 hz1 H locs hP hS => ?_)
  have hm := wl_bz hm hz1
  refine wl_if_ne_b hx hb (tgt := 17) dX4_image_7 (by decide) (fun c2 => ?_) (fun c2 => ?_)
  · have hm := hm.trans (if_pos c2)
    obtain ⟨ha3, hb3_, hc3_⟩ := in_spec (a := 0) (b := 1) (by decide) (by decide) (hz1.symm.trans c2)
    have hl : lv_has ls 3 [(0, .ref (a 0)), (1, .int (nI (cl i)))] := by rw [← ha3]; exact hl
    refine lv_iconst (v := (nI 0)) hx hb dX4_image_17 (by decide +kernel) ?_
    refine lv_istore_n (lv' := [(2, .int (nI 0)), (0, .ref (a 0)), (1, .int (nI (cl i)))]) hx hb dX4_image_18 rfl hl (by decide) rfl (fun ls hl => ?_)
    obtain ⟨u4, hu4, hk4⟩ := wl_bx hm
    refine wl_for (D := D) (A := A) (H0 := s0.heap) (m_X4_image_l19 mnow i) 140 0 140 mkept 19 3 (fun k4 v4 => [(0, .ref (a 0)), (1, .int (nI (cl i))), (2, .int (nI k4))]) (fun k4 v4 => (wM E a mabove mbelow mlisted mfollowing mdayThen mbytesLong mtokenAt mtokenLong mtoken mvalue mnow v4 misKept mrefused mtempers mhis mtheirs mmanyBy mbytes manew mvalues)) (fun k4 v4 => True) (by omega) trivial ?_ ?_ hP hD hS (lv_sub hl [1, 2, 0] rfl)
    · intro z4 hv4 hI4 ls H locs hP hD hS hl
      have hm := hk4 z4 (hu4.trans hv4)
      refine lv_iload_n hx hb dX4_image_19 rfl (lv_at hl 2 rfl) ?_
      refine lv_sipush (v := (nI 140)) hx hb dX4_image_20 (by decide +kernel) ?_
      refine wl_icmp_ge_n hx hb (by first | omega | exact Nat.lt_of_le_of_lt Nat.and_le_right (by omega) | exact Nat.pow_lt_pow_right (by omega) (by omega) | exact Nat.lt_trans (by assumption) (Nat.pow_lt_pow_right (by omega) (by omega))) (by first | omega | exact Nat.lt_of_le_of_lt Nat.and_le_right (by omega) | exact Nat.pow_lt_pow_right (by omega) (by omega) | exact Nat.lt_trans (by assumption) (Nat.pow_lt_pow_right (by omega) (by omega))) (tgt := 50) dX4_image_23 (by decide) (fun c6 => ?_) (fun c6 => absurd (by omega) c6)
      refine lv_aload_n hx hb dX4_image_50 rfl (lv_at hl 0 rfl) ?_
      refine g_M_0_isKept hC hP mw_387 dX4_image_51 ?_
      refine lv_iload_n hx hb dX4_image_54 rfl (lv_at hl 1 rfl) ?_
      refine lv_iconst (v := (nI 1)) hx hb dX4_image_55 (by decide +kernel) ?_
      refine st_M_3 hC hP hD hS (cl i) true (by omega) dX4_image_56 (fun H locs hP hD hS => ?_)
      refine lv_iconst (v := (nI 1)) hx hb dX4_image_57 (by decide +kernel) ?_
      exact wl_iret hC hr hlk hm rfl hP hD hS dX4_image_58
    · intro k4 v4 hlo4 hhi4 hI4 IH4 ls H locs hP hD hS hl
      have hb4 := m_X4_image_l19.eq_1 mnow i k4 v4
      refine lv_iload_n hx hb dX4_image_19 rfl (lv_at hl 2 rfl) ?_
      refine lv_sipush (v := (nI 140)) hx hb dX4_image_20 (by decide +kernel) ?_
      refine wl_icmp_ge_n hx hb (by first | omega | exact Nat.lt_of_le_of_lt Nat.and_le_right (by omega) | exact Nat.pow_lt_pow_right (by omega) (by omega) | exact Nat.lt_trans (by assumption) (Nat.pow_lt_pow_right (by omega) (by omega))) (by first | omega | exact Nat.lt_of_le_of_lt Nat.and_le_right (by omega) | exact Nat.pow_lt_pow_right (by omega) (by omega) | exact Nat.lt_trans (by assumption) (Nat.pow_lt_pow_right (by omega) (by omega))) (tgt := 50) dX4_image_23 (by decide) (fun c5 => absurd c5 (by omega)) (fun c5 => ?_)
      refine lv_aload_n hx hb dX4_image_26 rfl (lv_at hl 0 rfl) ?_
      refine g_M_0_kept hC hP mw_386 dX4_image_27 ?_
      refine lv_sipush (v := (nI 140)) hx hb dX4_image_30 (by decide +kernel) ?_
      refine lv_iload_n hx hb dX4_image_33 rfl (lv_at hl 1 rfl) ?_
      refine lv_imul hx hb dX4_image_34 ?_
      refine wl_re (show nI 140 * nI (cl i) = nI (140 * (cl i)) from pk_mul 140 (cl i)) ?_
      refine lv_iload_n hx hb dX4_image_35 rfl (lv_at hl 2 rfl) ?_
      refine lv_iadd hx hb dX4_image_36 ?_
      refine wl_re (show nI (140 * (cl i)) + nI k4 = nI ((140 * (cl i)) + k4) from nI_add (140 * (cl i)) k4) ?_
      refine lv_aload_n hx hb dX4_image_37 rfl (lv_at hl 0 rfl) ?_
      refine g_M_0_now hC hP mw_385 dX4_image_38 ?_
      refine lv_iload_n hx hb dX4_image_41 rfl (lv_at hl 2 rfl) ?_
      refine ld_M_1 hC hP k4 (by omega) dX4_image_42 ?_
      refine st_M_2 hC hP hD hS ((140 * (cl i)) + k4) (mnow k4) (by omega) dX4_image_43 (fun H locs hP hD hS => ?_)
      refine lv_iinc (v := (nI (k4 + 1))) (lv' := [(2, .int (nI (k4 + 1))), (0, .ref (a 0)), (1, .int (nI (cl i)))]) hx hb dX4_image_44 hl (k := 2) rfl (wl_inc k4 1) (by decide) rfl (fun ls hl => ?_)
      refine lv_goto (tgt := 19) hx hb dX4_image_47 (by decide) ?_
      exact IH4 _ hb4 trivial ls H locs hP hD hS (lv_sub hl [1, 2, 0] rfl)
  · have hm := hm.trans (if_neg c2)
    refine lv_aload_n hx hb dX4_image_10 rfl (lv_at hl 0 rfl) ?_
    refine lv_bipush (v := (-2)) hx hb dX4_image_11 (by decide +kernel) ?_
    refine wl_callVi hC (c_X4_bad (tells := (-2)) ) lk_RX4_62 rfl ⟨rfl, rfl, Nat.le_of_ble_eq_true rfl, Nat.le_of_ble_eq_true rfl⟩ hP hD hS hA 0 rfl (T1 := 21) rfl hl.1 rfl (Nat.le_of_ble_eq_true rfl) dX4_image_13 ⟨Nat.zero_le _, Nat.zero_le _⟩ (fun z7 hz7 H locs hP hD hS => ?_)
    have hm := wl_bz hm hz7
    exact wl_iret hC hr hlk hm rfl hP hD hS dX4_image_16
def m_X4_from_l33 (mkept : (Nat → Int32)) (i : Int32) (k5 : Nat) (v5 : (Nat → Int32)) : (Nat → Int32) := (upd v5 k5 (mkept ((140 * (cl i)) + k5)))
def m_X4_from (mnow : (Nat → Int32)) (mkept : (Nat → Int32)) (misKept : (Nat → Int32)) (mrefused : (Nat → Int32)) (i : Int32) : Int32 × (Nat → Int32) × (Nat → Int32) := (wl_bnd (m_X4_in i.toInt64 (lN 0) (lN 1)) (fun z1 => (if z1 = true then (if (misKept (cl i)) = 0 then (wl_bnd (m_X4_no mrefused) (fun z8 => (z8.1, mnow, z8.2))) else (wl_bnd (wl_iter (m_X4_from_l33 mkept i) 140 0 mnow) (fun z5 => ((nI 1), z5, mrefused)))) else (wl_bnd (m_X4_bad mrefused (-2)) (fun z9 => (z9.1, mnow, z9.2))))))
set_option maxHeartbeats 4000000 in
set_option maxRecDepth 100000 in
theorem c_X4_from {l : Launch} {D : va_G} {E : Nat → ClassId} {a : Nat → Nat} {mabove : Int64} {mbelow : Int64} {mlisted : Int32} {mfollowing : Int32} {mdayThen : Int32} {mbytesLong : Nat} {mtokenAt : Nat} {mtokenLong : Nat} {mtoken : Int32} {mvalue : Int32} {mnow : (Nat → Int32)} {mkept : (Nat → Int32)} {misKept : (Nat → Int32)} {mrefused : (Nat → Int32)} {mtempers : (Nat → Int32)} {mhis : (Nat → Int32)} {mtheirs : (Nat → Int32)} {mmanyBy : (Nat → Int32)} {mbytes : (Nat → Int32)} {manew : (Nat → Int32)} {mvalues : (Nat → Int32)} {i : Int32} : wl_Met (τ := Int32 × (Nat → Int32) × (Nat → Int32)) l D E yX4_from cX4_from 3 (some .int) ({ frames := 1, cells := 0, slots := 0, locals := 25 } : Room) [.ref (a 0), .int i] (wM E a mabove mbelow mlisted mfollowing mdayThen mbytesLong mtokenAt mtokenLong mtoken mvalue mnow mkept misKept mrefused mtempers mhis mtheirs mmanyBy mbytes manew mvalues) (fun z => some (.int z.1)) (fun z => (wM E a mabove mbelow mlisted mfollowing mdayThen mbytesLong mtokenAt mtokenLong mtoken mvalue z.2.1 mkept misKept z.2.2 mtempers mhis mtheirs mmanyBy mbytes manew mvalues)) (m_X4_from mnow mkept misKept mrefused i) := by
  refine wl_enter (own := RX4) (by decide +kernel) rfl (Nat.le_of_ble_eq_true rfl) ?_
  intro p0 e0 s0 m0 bl0 mt0 c0 A hC hr hlk hA H locs hP hD hS ls hl
  have hx := hC.1
  have hb := hC.2.1
  have hl : lv_has ls 3 [(0, .ref (a 0)), (1, .int i)] := hl
  have hm := m_X4_from.eq_1 mnow mkept misKept mrefused i
  refine lv_iload_n hx hb dX4_from_0 rfl (lv_at hl 1 rfl) ?_
  refine lv_i2l (v := i.toInt64) hx hb dX4_from_1 rfl ?_
  refine lv_lconst (v := lN 0) hx hb dX4_from_2 (by decide +kernel) ?_
  refine lv_lconst (v := lN 1) hx hb dX4_from_3 (by decide +kernel) ?_
  refine wl_callPi hC (c_X4_in (v := i.toInt64) (low := (lN 0)) (high := (lN 1)) ) lk_RX4_56 rfl ⟨rfl, rfl, Nat.le_of_ble_eq_true rfl, Nat.le_of_ble_eq_true rfl⟩ hP hS hA hl.1 rfl (Nat.le_of_ble_eq_true rfl) dX4_from_4 ⟨Nat.zero_le _, Nat.zero_le _⟩ (fun z1 hz1 H locs hP hS => ?_)
  have hm := wl_bz hm hz1
  refine wl_if_ne_b hx hb (tgt := 17) dX4_from_7 (by decide) (fun c2 => ?_) (fun c2 => ?_)
  · have hm := hm.trans (if_pos c2)
    obtain ⟨ha3, hb3_, hc3_⟩ := in_spec (a := 0) (b := 1) (by decide) (by decide) (hz1.symm.trans c2)
    have hl : lv_has ls 3 [(0, .ref (a 0)), (1, .int (nI (cl i)))] := by rw [← ha3]; exact hl
    refine lv_aload_n hx hb dX4_from_17 rfl (lv_at hl 0 rfl) ?_
    refine g_M_0_isKept hC hP mw_387 dX4_from_18 ?_
    refine lv_iload_n hx hb dX4_from_21 rfl (lv_at hl 1 rfl) ?_
    refine ld_M_3 hC hP (cl i) (by omega) dX4_from_22 ?_
    refine lv_if_ne hx hb (tgt := 31) dX4_from_23 (by decide) (fun c4 => ?_) (fun c4 => ?_)
    · have hm := hm.trans (if_neg c4)
      refine lv_iconst (v := (nI 0)) hx hb dX4_from_31 (by decide +kernel) ?_
      refine lv_istore_n (lv' := [(2, .int (nI 0)), (0, .ref (a 0)), (1, .int (nI (cl i)))]) hx hb dX4_from_32 rfl hl (by decide) rfl (fun ls hl => ?_)
      obtain ⟨u5, hu5, hk5⟩ := wl_bx hm
      refine wl_for (D := D) (A := A) (H0 := s0.heap) (m_X4_from_l33 mkept i) 140 0 140 mnow 33 3 (fun k5 v5 => [(0, .ref (a 0)), (1, .int (nI (cl i))), (2, .int (nI k5))]) (fun k5 v5 => (wM E a mabove mbelow mlisted mfollowing mdayThen mbytesLong mtokenAt mtokenLong mtoken mvalue v5 mkept misKept mrefused mtempers mhis mtheirs mmanyBy mbytes manew mvalues)) (fun k5 v5 => True) (by omega) trivial ?_ ?_ hP hD hS (lv_sub hl [1, 2, 0] rfl)
      · intro z5 hv5 hI5 ls H locs hP hD hS hl
        have hm := hk5 z5 (hu5.trans hv5)
        refine lv_iload_n hx hb dX4_from_33 rfl (lv_at hl 2 rfl) ?_
        refine lv_sipush (v := (nI 140)) hx hb dX4_from_34 (by decide +kernel) ?_
        refine wl_icmp_ge_n hx hb (by first | omega | exact Nat.lt_of_le_of_lt Nat.and_le_right (by omega) | exact Nat.pow_lt_pow_right (by omega) (by omega) | exact Nat.lt_trans (by assumption) (Nat.pow_lt_pow_right (by omega) (by omega))) (by first | omega | exact Nat.lt_of_le_of_lt Nat.and_le_right (by omega) | exact Nat.pow_lt_pow_right (by omega) (by omega) | exact Nat.lt_trans (by assumption) (Nat.pow_lt_pow_right (by omega) (by omega))) (tgt := 64) dX4_from_37 (by decide) (fun c7 => ?_) (fun c7 => absurd (by omega) c7)
        refine lv_iconst (v := (nI 1)) hx hb dX4_from_64 (by decide +kernel) ?_
        exact wl_iret hC hr hlk hm rfl hP hD hS dX4_from_65
      · intro k5 v5 hlo5 hhi5 hI5 IH5 ls H locs hP hD hS hl
        have hb5 := m_X4_from_l33.eq_1 mkept i k5 v5
        refine lv_iload_n hx hb dX4_from_33 rfl (lv_at hl 2 rfl) ?_
        refine lv_sipush (v := (nI 140)) hx hb dX4_from_34 (by decide +kernel) ?_
        refine wl_icmp_ge_n hx hb (by first | omega | exact Nat.lt_of_le_of_lt Nat.and_le_right (by omega) | exact Nat.pow_lt_pow_right (by omega) (by omega) | exact Nat.lt_trans (by assumption) (Nat.pow_lt_pow_right (by omega) (by omega))) (by first | omega | exact Nat.lt_of_le_of_lt Nat.and_le_right (by omega) | exact Nat.pow_lt_pow_right (by omega) (by omega) | exact Nat.lt_trans (by assumption) (Nat.pow_lt_pow_right (by omega) (by omega))) (tgt := 64) dX4_from_37 (by decide) (fun c6 => absurd c6 (by omega)) (fun c6 => ?_)
        refine lv_aload_n hx hb dX4_from_40 rfl (lv_at hl 0 rfl) ?_
        refine g_M_0_now hC hP mw_385 dX4_from_41 ?_
        refine lv_iload_n hx hb dX4_from_44 rfl (lv_at hl 2 rfl) ?_
        refine lv_aload_n hx hb dX4_from_45 rfl (lv_at hl 0 rfl) ?_
        refine g_M_0_kept hC hP mw_386 dX4_from_46 ?_
        refine lv_sipush (v := (nI 140)) hx hb dX4_from_49 (by decide +kernel) ?_
        refine lv_iload_n hx hb dX4_from_52 rfl (lv_at hl 1 rfl) ?_
        refine lv_imul hx hb dX4_from_53 ?_
        refine wl_re (show nI 140 * nI (cl i) = nI (140 * (cl i)) from pk_mul 140 (cl i)) ?_
        refine lv_iload_n hx hb dX4_from_54 rfl (lv_at hl 2 rfl) ?_
        refine lv_iadd hx hb dX4_from_55 ?_
        refine wl_re (show nI (140 * (cl i)) + nI k5 = nI ((140 * (cl i)) + k5) from nI_add (140 * (cl i)) k5) ?_
        refine ld_M_2 hC hP ((140 * (cl i)) + k5) (by omega) dX4_from_56 ?_
        refine st_M_1 hC hP hD hS k5 (mkept ((140 * (cl i)) + k5)) (by omega) dX4_from_57 (fun H locs hP hD hS => ?_)
        refine lv_iinc (v := (nI (k5 + 1))) (lv' := [(2, .int (nI (k5 + 1))), (0, .ref (a 0)), (1, .int (nI (cl i)))]) hx hb dX4_from_58 hl (k := 2) rfl (wl_inc k5 1) (by decide) rfl (fun ls hl => ?_)
        refine lv_goto (tgt := 33) hx hb dX4_from_61 (by decide) ?_
        exact IH5 _ hb5 trivial ls H locs hP hD hS (lv_sub hl [1, 2, 0] rfl)
    · have hm := hm.trans (if_pos c4)
      refine lv_aload_n hx hb dX4_from_26 rfl (lv_at hl 0 rfl) ?_
      refine wl_callVi hC (c_X4_no  ) lk_RX4_131 rfl ⟨rfl, rfl, Nat.le_of_ble_eq_true rfl, Nat.le_of_ble_eq_true rfl⟩ hP hD hS hA 0 rfl (T1 := 21) rfl hl.1 rfl (Nat.le_of_ble_eq_true rfl) dX4_from_27 ⟨Nat.zero_le _, Nat.zero_le _⟩ (fun z8 hz8 H locs hP hD hS => ?_)
      have hm := wl_bz hm hz8
      exact wl_iret hC hr hlk hm rfl hP hD hS dX4_from_30
  · have hm := hm.trans (if_neg c2)
    refine lv_aload_n hx hb dX4_from_10 rfl (lv_at hl 0 rfl) ?_
    refine lv_bipush (v := (-2)) hx hb dX4_from_11 (by decide +kernel) ?_
    refine wl_callVi hC (c_X4_bad (tells := (-2)) ) lk_RX4_62 rfl ⟨rfl, rfl, Nat.le_of_ble_eq_true rfl, Nat.le_of_ble_eq_true rfl⟩ hP hD hS hA 0 rfl (T1 := 21) rfl hl.1 rfl (Nat.le_of_ble_eq_true rfl) dX4_from_13 ⟨Nat.zero_le _, Nat.zero_le _⟩ (fun z9 hz9 H locs hP hD hS => ?_)
    have hm := wl_bz hm hz9
    exact wl_iret hC hr hlk hm rfl hP hD hS dX4_from_16
def m_X4_status (mrefused : (Nat → Int32)) (what : Int32) : Int32 × (Nat → Int32) := (wl_bnd (m_X4_in what.toInt64 (lN 0) (lN 2)) (fun z1 => (if z1 = true then ((mrefused (cl what)), mrefused) else (wl_bnd (m_X4_bad mrefused (-1)) (fun z3 => (z3.1, z3.2))))))
set_option maxHeartbeats 4000000 in
set_option maxRecDepth 100000 in
theorem c_X4_status {l : Launch} {D : va_G} {E : Nat → ClassId} {a : Nat → Nat} {mabove : Int64} {mbelow : Int64} {mlisted : Int32} {mfollowing : Int32} {mdayThen : Int32} {mbytesLong : Nat} {mtokenAt : Nat} {mtokenLong : Nat} {mtoken : Int32} {mvalue : Int32} {mnow : (Nat → Int32)} {mkept : (Nat → Int32)} {misKept : (Nat → Int32)} {mrefused : (Nat → Int32)} {mtempers : (Nat → Int32)} {mhis : (Nat → Int32)} {mtheirs : (Nat → Int32)} {mmanyBy : (Nat → Int32)} {mbytes : (Nat → Int32)} {manew : (Nat → Int32)} {mvalues : (Nat → Int32)} {what : Int32} : wl_Met (τ := Int32 × (Nat → Int32)) l D E yX4_status cX4_status 2 (some .int) ({ frames := 1, cells := 0, slots := 0, locals := 25 } : Room) [.ref (a 0), .int what] (wM E a mabove mbelow mlisted mfollowing mdayThen mbytesLong mtokenAt mtokenLong mtoken mvalue mnow mkept misKept mrefused mtempers mhis mtheirs mmanyBy mbytes manew mvalues) (fun z => some (.int z.1)) (fun z => (wM E a mabove mbelow mlisted mfollowing mdayThen mbytesLong mtokenAt mtokenLong mtoken mvalue mnow mkept misKept z.2 mtempers mhis mtheirs mmanyBy mbytes manew mvalues)) (m_X4_status mrefused what) := by
  refine wl_enter (own := RX4) (by decide +kernel) rfl (Nat.le_of_ble_eq_true rfl) ?_
  intro p0 e0 s0 m0 bl0 mt0 c0 A hC hr hlk hA H locs hP hD hS ls hl
  have hx := hC.1
  have hb := hC.2.1
  have hl : lv_has ls 2 [(0, .ref (a 0)), (1, .int what)] := hl
  have hm := m_X4_status.eq_1 mrefused what
  refine lv_iload_n hx hb dX4_status_0 rfl (lv_at hl 1 rfl) ?_
  refine lv_i2l (v := what.toInt64) hx hb dX4_status_1 rfl ?_
  refine lv_lconst (v := lN 0) hx hb dX4_status_2 (by decide +kernel) ?_
  refine lv_ldc2 hx hb hC.2.2.2.1 (hC.2.2.2.2.1 _ mw_533) dX4_status_3 ?_
  refine wl_reL (show (2 : Int64) = lN 2 by decide +kernel) ?_
  refine wl_callPi hC (c_X4_in (v := what.toInt64) (low := (lN 0)) (high := (lN 2)) ) lk_RX4_56 rfl ⟨rfl, rfl, Nat.le_of_ble_eq_true rfl, Nat.le_of_ble_eq_true rfl⟩ hP hS hA hl.1 rfl (Nat.le_of_ble_eq_true rfl) dX4_status_6 ⟨Nat.zero_le _, Nat.zero_le _⟩ (fun z1 hz1 H locs hP hS => ?_)
  have hm := wl_bz hm hz1
  refine wl_if_eq_b hx hb (tgt := 21) dX4_status_9 (by decide) (fun c2 => ?_) (fun c2 => ?_)
  · have hm := hm.trans (if_neg c2)
    refine lv_aload_n hx hb dX4_status_21 rfl (lv_at hl 0 rfl) ?_
    refine lv_iconst (v := (-1)) hx hb dX4_status_22 (by decide +kernel) ?_
    refine wl_callVi hC (c_X4_bad (tells := (-1)) ) lk_RX4_62 rfl ⟨rfl, rfl, Nat.le_of_ble_eq_true rfl, Nat.le_of_ble_eq_true rfl⟩ hP hD hS hA 0 rfl (T1 := 21) rfl hl.1 rfl (Nat.le_of_ble_eq_true rfl) dX4_status_23 ⟨Nat.zero_le _, Nat.zero_le _⟩ (fun z3 hz3 H locs hP hD hS => ?_)
    have hm := wl_bz hm hz3
    exact wl_iret hC hr hlk hm rfl hP hD hS dX4_status_26
  · have hm := hm.trans (if_pos c2)
    obtain ⟨ha4, hb4_, hc4_⟩ := in_spec (a := 0) (b := 2) (by decide) (by decide) (hz1.symm.trans c2)
    have hl : lv_has ls 2 [(0, .ref (a 0)), (1, .int (nI (cl what)))] := by rw [← ha4]; exact hl
    refine lv_aload_n hx hb dX4_status_12 rfl (lv_at hl 0 rfl) ?_
    refine g_M_0_refused hC hP mw_388 dX4_status_13 ?_
    refine lv_iload_n hx hb dX4_status_16 rfl (lv_at hl 1 rfl) ?_
    refine ld_M_4 hC hP (cl what) (by omega) dX4_status_17 ?_
    refine lv_goto (tgt := 26) hx hb dX4_status_18 (by decide) ?_
    exact wl_iret hC hr hlk hm rfl hP hD hS dX4_status_26
def m_X4_counted (mbytesLong : Nat) (mnow : (Nat → Int32)) (what : Int32) (P : Nat) : Int32 := (if what = nI 0 then (nI P) else (if what = nI 1 then (mnow 21) else (if what = nI 2 then (wl_bnd (m_X4_bits (mnow 18)) (fun z3 => z3)) else (if what = nI 3 then (wl_bnd (m_X4_bits (mnow 19)) (fun z4 => z4)) else (if what = nI 4 then (mnow 20) else (if what = nI 5 then (mnow 2) else (if what = nI 6 then (mnow 3) else (nI mbytesLong))))))))
set_option maxHeartbeats 4000000 in
set_option maxRecDepth 100000 in
theorem c_X4_counted {l : Launch} {D : va_G} {E : Nat → ClassId} {a : Nat → Nat} {mabove : Int64} {mbelow : Int64} {mlisted : Int32} {mfollowing : Int32} {mdayThen : Int32} {mbytesLong : Nat} {mtokenAt : Nat} {mtokenLong : Nat} {mtoken : Int32} {mvalue : Int32} {mnow : (Nat → Int32)} {mkept : (Nat → Int32)} {misKept : (Nat → Int32)} {mrefused : (Nat → Int32)} {mtempers : (Nat → Int32)} {mhis : (Nat → Int32)} {mtheirs : (Nat → Int32)} {mmanyBy : (Nat → Int32)} {mbytes : (Nat → Int32)} {manew : (Nat → Int32)} {mvalues : (Nat → Int32)} {what : Int32} {P : Nat} (h0 : mnow 0 = nI P) : wl_Met (τ := Int32) l D E yX4_counted cX4_counted 2 (some .int) ({ frames := 1, cells := 0, slots := 0, locals := 22 } : Room) [.ref (a 0), .int what] (wM E a mabove mbelow mlisted mfollowing mdayThen mbytesLong mtokenAt mtokenLong mtoken mvalue mnow mkept misKept mrefused mtempers mhis mtheirs mmanyBy mbytes manew mvalues) (fun z => some (.int z)) (fun _ => (wM E a mabove mbelow mlisted mfollowing mdayThen mbytesLong mtokenAt mtokenLong mtoken mvalue mnow mkept misKept mrefused mtempers mhis mtheirs mmanyBy mbytes manew mvalues)) (m_X4_counted mbytesLong mnow what P) := by
  refine wl_enter (own := RX4) (by decide +kernel) rfl (Nat.le_of_ble_eq_true rfl) ?_
  intro p0 e0 s0 m0 bl0 mt0 c0 A hC hr hlk hA H locs hP hD hS ls hl
  have hx := hC.1
  have hb := hC.2.1
  have hl : lv_has ls 2 [(0, .ref (a 0)), (1, .int what)] := hl
  have hm := m_X4_counted.eq_1 mbytesLong mnow what P
  refine lv_iload_n hx hb dX4_counted_0 rfl (lv_at hl 1 rfl) ?_
  refine (Decidable.em (what = nI 0)).elim (fun c1_0 => ?_) (fun c1_0 => ?_)
  · have hm := hm.trans (if_pos c1_0)
    refine lv_tableIn (off := 43) (tgt := 44) hx hb dX4_counted_1 (by rw [c1_0]; decide +kernel) (by rw [c1_0]; decide +kernel) (by rw [c1_0]; decide +kernel) (by decide) ?_
    refine lv_aload_n hx hb dX4_counted_44 rfl (lv_at hl 0 rfl) ?_
    refine wl_callVi hC (c_X4_many (P := P) (h0)) lk_RX4_52 rfl ⟨rfl, rfl, Nat.le_of_ble_eq_true rfl, Nat.le_of_ble_eq_true rfl⟩ hP hD hS hA 0 rfl (T1 := 21) rfl hl.1 rfl (Nat.le_of_ble_eq_true rfl) dX4_counted_45 ⟨Nat.zero_le _, Nat.zero_le _⟩ (fun z2 hz2 H locs hP hD hS => ?_)
    have hz2 := hz2.symm
    subst hz2
    exact wl_iret hC hr hlk hm rfl hP hD hS dX4_counted_48
  · have hm := hm.trans (if_neg c1_0)
    refine (Decidable.em (what = nI 1)).elim (fun c1_1 => ?_) (fun c1_1 => ?_)
    · have hm := hm.trans (if_pos c1_1)
      refine lv_tableIn (off := 48) (tgt := 49) hx hb dX4_counted_1 (by rw [c1_1]; decide +kernel) (by rw [c1_1]; decide +kernel) (by rw [c1_1]; decide +kernel) (by decide) ?_
      refine lv_aload_n hx hb dX4_counted_49 rfl (lv_at hl 0 rfl) ?_
      refine g_M_0_now hC hP mw_385 dX4_counted_50 ?_
      refine lv_bipush (v := (nI 21)) hx hb dX4_counted_53 (by decide +kernel) ?_
      refine ld_M_1 hC hP 21 (by omega) dX4_counted_55 ?_
      exact wl_iret hC hr hlk hm rfl hP hD hS dX4_counted_56
    · have hm := hm.trans (if_neg c1_1)
      refine (Decidable.em (what = nI 2)).elim (fun c1_2 => ?_) (fun c1_2 => ?_)
      · have hm := hm.trans (if_pos c1_2)
        refine lv_tableIn (off := 56) (tgt := 57) hx hb dX4_counted_1 (by rw [c1_2]; decide +kernel) (by rw [c1_2]; decide +kernel) (by rw [c1_2]; decide +kernel) (by decide) ?_
        refine lv_aload_n hx hb dX4_counted_57 rfl (lv_at hl 0 rfl) ?_
        refine g_M_0_now hC hP mw_385 dX4_counted_58 ?_
        refine lv_bipush (v := (nI 18)) hx hb dX4_counted_61 (by decide +kernel) ?_
        refine ld_M_1 hC hP 18 (by omega) dX4_counted_63 ?_
        refine wl_callPi hC (c_X4_bits (set := (mnow 18)) ) lk_RX4_128 rfl ⟨rfl, rfl, Nat.le_of_ble_eq_true rfl, Nat.le_of_ble_eq_true rfl⟩ hP hS hA hl.1 rfl (Nat.le_of_ble_eq_true rfl) dX4_counted_64 ⟨Nat.zero_le _, Nat.zero_le _⟩ (fun z3 hz3 H locs hP hS => ?_)
        have hm := wl_bz hm hz3
        exact wl_iret hC hr hlk hm rfl hP hD hS dX4_counted_67
      · have hm := hm.trans (if_neg c1_2)
        refine (Decidable.em (what = nI 3)).elim (fun c1_3 => ?_) (fun c1_3 => ?_)
        · have hm := hm.trans (if_pos c1_3)
          refine lv_tableIn (off := 67) (tgt := 68) hx hb dX4_counted_1 (by rw [c1_3]; decide +kernel) (by rw [c1_3]; decide +kernel) (by rw [c1_3]; decide +kernel) (by decide) ?_
          refine lv_aload_n hx hb dX4_counted_68 rfl (lv_at hl 0 rfl) ?_
          refine g_M_0_now hC hP mw_385 dX4_counted_69 ?_
          refine lv_bipush (v := (nI 19)) hx hb dX4_counted_72 (by decide +kernel) ?_
          refine ld_M_1 hC hP 19 (by omega) dX4_counted_74 ?_
          refine wl_callPi hC (c_X4_bits (set := (mnow 19)) ) lk_RX4_128 rfl ⟨rfl, rfl, Nat.le_of_ble_eq_true rfl, Nat.le_of_ble_eq_true rfl⟩ hP hS hA hl.1 rfl (Nat.le_of_ble_eq_true rfl) dX4_counted_75 ⟨Nat.zero_le _, Nat.zero_le _⟩ (fun z4 hz4 H locs hP hS => ?_)
          have hm := wl_bz hm hz4
          exact wl_iret hC hr hlk hm rfl hP hD hS dX4_counted_78
        · have hm := hm.trans (if_neg c1_3)
          refine (Decidable.em (what = nI 4)).elim (fun c1_4 => ?_) (fun c1_4 => ?_)
          · have hm := hm.trans (if_pos c1_4)
            refine lv_tableIn (off := 78) (tgt := 79) hx hb dX4_counted_1 (by rw [c1_4]; decide +kernel) (by rw [c1_4]; decide +kernel) (by rw [c1_4]; decide +kernel) (by decide) ?_
            refine lv_aload_n hx hb dX4_counted_79 rfl (lv_at hl 0 rfl) ?_
            refine g_M_0_now hC hP mw_385 dX4_counted_80 ?_
            refine lv_bipush (v := (nI 20)) hx hb dX4_counted_83 (by decide +kernel) ?_
            refine ld_M_1 hC hP 20 (by omega) dX4_counted_85 ?_
            exact wl_iret hC hr hlk hm rfl hP hD hS dX4_counted_86
          · have hm := hm.trans (if_neg c1_4)
            refine (Decidable.em (what = nI 5)).elim (fun c1_5 => ?_) (fun c1_5 => ?_)
            · have hm := hm.trans (if_pos c1_5)
              refine lv_tableIn (off := 86) (tgt := 87) hx hb dX4_counted_1 (by rw [c1_5]; decide +kernel) (by rw [c1_5]; decide +kernel) (by rw [c1_5]; decide +kernel) (by decide) ?_
              refine lv_aload_n hx hb dX4_counted_87 rfl (lv_at hl 0 rfl) ?_
              refine g_M_0_now hC hP mw_385 dX4_counted_88 ?_
              refine lv_iconst (v := (nI 2)) hx hb dX4_counted_91 (by decide +kernel) ?_
              refine ld_M_1 hC hP 2 (by omega) dX4_counted_92 ?_
              exact wl_iret hC hr hlk hm rfl hP hD hS dX4_counted_93
            · have hm := hm.trans (if_neg c1_5)
              refine (Decidable.em (what = nI 6)).elim (fun c1_6 => ?_) (fun c1_6 => ?_)
              · have hm := hm.trans (if_pos c1_6)
                refine lv_tableIn (off := 93) (tgt := 94) hx hb dX4_counted_1 (by rw [c1_6]; decide +kernel) (by rw [c1_6]; decide +kernel) (by rw [c1_6]; decide +kernel) (by decide) ?_
                refine lv_aload_n hx hb dX4_counted_94 rfl (lv_at hl 0 rfl) ?_
                refine g_M_0_now hC hP mw_385 dX4_counted_95 ?_
                refine lv_iconst (v := (nI 3)) hx hb dX4_counted_98 (by decide +kernel) ?_
                refine ld_M_1 hC hP 3 (by omega) dX4_counted_99 ?_
                exact wl_iret hC hr hlk hm rfl hP hD hS dX4_counted_100
              · have hm := hm.trans (if_neg c1_6)
                refine lv_tableOut (tgt := 101) hx hb dX4_counted_1 (wl_tab0_6 c1_0 c1_1 c1_2 c1_3 c1_4 c1_5 c1_6) (by decide) ?_
                refine lv_aload_n hx hb dX4_counted_101 rfl (lv_at hl 0 rfl) ?_
                refine g_M_0_bytesLong hC hP mw_536 dX4_counted_102 ?_
                exact wl_iret hC hr hlk hm rfl hP hD hS dX4_counted_105
def m_X4_count (mbytesLong : Nat) (mnow : (Nat → Int32)) (mrefused : (Nat → Int32)) (what : Int32) (P : Nat) : Int32 × (Nat → Int32) := (wl_bnd (m_X4_in what.toInt64 (lN 0) (lN 7)) (fun z1 => (if z1 = true then (wl_bnd (m_X4_counted mbytesLong mnow what P) (fun z4 => (z4, mrefused))) else (wl_bnd (m_X4_bad mrefused (-2)) (fun z3 => (z3.1, z3.2))))))
set_option maxHeartbeats 4000000 in
set_option maxRecDepth 100000 in
theorem c_X4_count {l : Launch} {D : va_G} {E : Nat → ClassId} {a : Nat → Nat} {mabove : Int64} {mbelow : Int64} {mlisted : Int32} {mfollowing : Int32} {mdayThen : Int32} {mbytesLong : Nat} {mtokenAt : Nat} {mtokenLong : Nat} {mtoken : Int32} {mvalue : Int32} {mnow : (Nat → Int32)} {mkept : (Nat → Int32)} {misKept : (Nat → Int32)} {mrefused : (Nat → Int32)} {mtempers : (Nat → Int32)} {mhis : (Nat → Int32)} {mtheirs : (Nat → Int32)} {mmanyBy : (Nat → Int32)} {mbytes : (Nat → Int32)} {manew : (Nat → Int32)} {mvalues : (Nat → Int32)} {what : Int32} {P : Nat} (h0 : mnow 0 = nI P) : wl_Met (τ := Int32 × (Nat → Int32)) l D E yX4_count cX4_count 2 (some .int) ({ frames := 2, cells := 0, slots := 0, locals := 43 } : Room) [.ref (a 0), .int what] (wM E a mabove mbelow mlisted mfollowing mdayThen mbytesLong mtokenAt mtokenLong mtoken mvalue mnow mkept misKept mrefused mtempers mhis mtheirs mmanyBy mbytes manew mvalues) (fun z => some (.int z.1)) (fun z => (wM E a mabove mbelow mlisted mfollowing mdayThen mbytesLong mtokenAt mtokenLong mtoken mvalue mnow mkept misKept z.2 mtempers mhis mtheirs mmanyBy mbytes manew mvalues)) (m_X4_count mbytesLong mnow mrefused what P) := by
  refine wl_enter (own := RX4) (by decide +kernel) rfl (Nat.le_of_ble_eq_true rfl) ?_
  intro p0 e0 s0 m0 bl0 mt0 c0 A hC hr hlk hA H locs hP hD hS ls hl
  have hx := hC.1
  have hb := hC.2.1
  have hl : lv_has ls 2 [(0, .ref (a 0)), (1, .int what)] := hl
  have hm := m_X4_count.eq_1 mbytesLong mnow mrefused what P
  refine lv_iload_n hx hb dX4_count_0 rfl (lv_at hl 1 rfl) ?_
  refine lv_i2l (v := what.toInt64) hx hb dX4_count_1 rfl ?_
  refine lv_lconst (v := lN 0) hx hb dX4_count_2 (by decide +kernel) ?_
  refine lv_ldc2 hx hb hC.2.2.2.1 (hC.2.2.2.2.1 _ mw_591) dX4_count_3 ?_
  refine wl_reL (show (7 : Int64) = lN 7 by decide +kernel) ?_
  refine wl_callPi hC (c_X4_in (v := what.toInt64) (low := (lN 0)) (high := (lN 7)) ) lk_RX4_56 rfl ⟨rfl, rfl, Nat.le_of_ble_eq_true rfl, Nat.le_of_ble_eq_true rfl⟩ hP hS hA hl.1 rfl (Nat.le_of_ble_eq_true rfl) dX4_count_6 ⟨Nat.zero_le _, Nat.zero_le _⟩ (fun z1 hz1 H locs hP hS => ?_)
  have hm := wl_bz hm hz1
  refine wl_if_eq_b hx hb (tgt := 20) dX4_count_9 (by decide) (fun c2 => ?_) (fun c2 => ?_)
  · have hm := hm.trans (if_neg c2)
    refine lv_aload_n hx hb dX4_count_20 rfl (lv_at hl 0 rfl) ?_
    refine lv_bipush (v := (-2)) hx hb dX4_count_21 (by decide +kernel) ?_
    refine wl_callVi hC (c_X4_bad (tells := (-2)) ) lk_RX4_62 rfl ⟨rfl, rfl, Nat.le_of_ble_eq_true rfl, Nat.le_of_ble_eq_true rfl⟩ hP hD hS hA 0 rfl (T1 := 21) rfl hl.1 rfl (Nat.le_of_ble_eq_true rfl) dX4_count_23 ⟨Nat.zero_le _, Nat.zero_le _⟩ (fun z3 hz3 H locs hP hD hS => ?_)
    have hm := wl_bz hm hz3
    exact wl_iret hC hr hlk hm rfl hP hD hS dX4_count_26
  · have hm := hm.trans (if_pos c2)
    refine lv_aload_n hx hb dX4_count_12 rfl (lv_at hl 0 rfl) ?_
    refine lv_iload_n hx hb dX4_count_13 rfl (lv_at hl 1 rfl) ?_
    refine wl_callVi hC (c_X4_counted (what := what) (P := P) (h0)) lk_RX4_241 rfl ⟨rfl, rfl, Nat.le_of_ble_eq_true rfl, Nat.le_of_ble_eq_true rfl⟩ hP hD hS hA 0 rfl (T1 := 21) rfl hl.1 rfl (Nat.le_of_ble_eq_true rfl) dX4_count_14 ⟨Nat.zero_le _, Nat.zero_le _⟩ (fun z4 hz4 H locs hP hD hS => ?_)
    have hm := wl_bz hm hz4
    refine lv_goto (tgt := 26) hx hb dX4_count_17 (by decide) ?_
    exact wl_iret hC hr hlk hm rfl hP hD hS dX4_count_26
def m_X4_sums_l6 (mnow : (Nat → Int32)) (first : Nat) (k1 : Nat) (v1 : Int64) : Int64 := (((lN 31) * v1) + (mnow (first + k1)).toInt64)
def m_X4_sums (mnow : (Nat → Int32)) (from0 : Int64) (first : Nat) (n : Nat) : Int64 := (wl_bnd (wl_iter (m_X4_sums_l6 mnow first) n 0 from0) (fun z1 => z1))
set_option maxHeartbeats 4000000 in
set_option maxRecDepth 100000 in
theorem c_X4_sums {l : Launch} {D : va_G} {E : Nat → ClassId} {a : Nat → Nat} {mabove : Int64} {mbelow : Int64} {mlisted : Int32} {mfollowing : Int32} {mdayThen : Int32} {mbytesLong : Nat} {mtokenAt : Nat} {mtokenLong : Nat} {mtoken : Int32} {mvalue : Int32} {mnow : (Nat → Int32)} {mkept : (Nat → Int32)} {misKept : (Nat → Int32)} {mrefused : (Nat → Int32)} {mtempers : (Nat → Int32)} {mhis : (Nat → Int32)} {mtheirs : (Nat → Int32)} {mmanyBy : (Nat → Int32)} {mbytes : (Nat → Int32)} {manew : (Nat → Int32)} {mvalues : (Nat → Int32)} {from0 : Int64} {first : Nat} {n : Nat} (hs : first + n ≤ 140) : wl_Met (τ := Int64) l D E yX4_sums cX4_sums 8 (some .long) ({ frames := 0, cells := 0, slots := 0, locals := 0 } : Room) [.ref (a 0), .long from0, .int (nI first), .int (nI n)] (wM E a mabove mbelow mlisted mfollowing mdayThen mbytesLong mtokenAt mtokenLong mtoken mvalue mnow mkept misKept mrefused mtempers mhis mtheirs mmanyBy mbytes manew mvalues) (fun z => some (.long z)) (fun _ => (wM E a mabove mbelow mlisted mfollowing mdayThen mbytesLong mtokenAt mtokenLong mtoken mvalue mnow mkept misKept mrefused mtempers mhis mtheirs mmanyBy mbytes manew mvalues)) (m_X4_sums mnow from0 first n) := by
  refine wl_enter (own := RX4) (by decide +kernel) rfl (Nat.le_of_ble_eq_true rfl) ?_
  intro p0 e0 s0 m0 bl0 mt0 c0 A hC hr hlk hA H locs hP hD hS ls hl
  have hx := hC.1
  have hb := hC.2.1
  have hl : lv_has ls 8 [(0, .ref (a 0)), (1, .long from0), (3, .int (nI first)), (4, .int (nI n))] := hl
  have hm := m_X4_sums.eq_1 mnow from0 first n
  refine lv_lload_n hx hb dX4_sums_0 rfl (lv_at hl 1 rfl) ?_
  refine lv_lstore (lv' := [(5, .long from0), (0, .ref (a 0)), (1, .long from0), (3, .int (nI first)), (4, .int (nI n))]) hx hb dX4_sums_1 hl (by decide) rfl (fun ls hl => ?_)
  refine lv_iconst (v := (nI 0)) hx hb dX4_sums_3 (by decide +kernel) ?_
  refine lv_istore (lv' := [(7, .int (nI 0)), (5, .long from0), (0, .ref (a 0)), (1, .long from0), (3, .int (nI first)), (4, .int (nI n))]) hx hb dX4_sums_4 hl (by decide) rfl (fun ls hl => ?_)
  obtain ⟨u1, hu1, hk1⟩ := wl_bx hm
  refine wl_for (D := D) (A := A) (H0 := s0.heap) (m_X4_sums_l6 mnow first) n 0 n from0 6 8 (fun k1 v1 => [(0, .ref (a 0)), (3, .int (nI first)), (4, .int (nI n)), (5, .long v1), (7, .int (nI k1))]) (fun k1 v1 => (wM E a mabove mbelow mlisted mfollowing mdayThen mbytesLong mtokenAt mtokenLong mtoken mvalue mnow mkept misKept mrefused mtempers mhis mtheirs mmanyBy mbytes manew mvalues)) (fun k1 v1 => True) (by omega) trivial ?_ ?_ hP hD hS (lv_sub hl [2, 4, 5, 1, 0] rfl)
  · intro z1 hv1 hI1 ls H locs hP hD hS hl
    have hm := hk1 z1 (hu1.trans hv1)
    refine lv_iload hx hb dX4_sums_6 (lv_at hl 4 rfl) ?_
    refine lv_iload hx hb dX4_sums_8 (lv_at hl 2 rfl) ?_
    refine wl_icmp_ge_n hx hb (by first | omega | exact Nat.lt_of_le_of_lt Nat.and_le_right (by omega) | exact Nat.pow_lt_pow_right (by omega) (by omega) | exact Nat.lt_trans (by assumption) (Nat.pow_lt_pow_right (by omega) (by omega))) (by first | omega | exact Nat.lt_of_le_of_lt Nat.and_le_right (by omega) | exact Nat.pow_lt_pow_right (by omega) (by omega) | exact Nat.lt_trans (by assumption) (Nat.pow_lt_pow_right (by omega) (by omega))) (tgt := 38) dX4_sums_10 (by decide) (fun c3 => ?_) (fun c3 => absurd (by omega) c3)
    refine lv_lload hx hb dX4_sums_38 (lv_at hl 3 rfl) ?_
    exact wl_lret hC hr hlk hm rfl hP hD hS dX4_sums_40
  · intro k1 v1 hlo1 hhi1 hI1 IH1 ls H locs hP hD hS hl
    have hb1 := m_X4_sums_l6.eq_1 mnow first k1 v1
    refine lv_iload hx hb dX4_sums_6 (lv_at hl 4 rfl) ?_
    refine lv_iload hx hb dX4_sums_8 (lv_at hl 2 rfl) ?_
    refine wl_icmp_ge_n hx hb (by first | omega | exact Nat.lt_of_le_of_lt Nat.and_le_right (by omega) | exact Nat.pow_lt_pow_right (by omega) (by omega) | exact Nat.lt_trans (by assumption) (Nat.pow_lt_pow_right (by omega) (by omega))) (by first | omega | exact Nat.lt_of_le_of_lt Nat.and_le_right (by omega) | exact Nat.pow_lt_pow_right (by omega) (by omega) | exact Nat.lt_trans (by assumption) (Nat.pow_lt_pow_right (by omega) (by omega))) (tgt := 38) dX4_sums_10 (by decide) (fun c2 => absurd c2 (by omega)) (fun c2 => ?_)
    refine lv_ldc2 hx hb hC.2.2.2.1 (hC.2.2.2.2.1 _ mw_596) dX4_sums_13 ?_
    refine wl_reL (show (31 : Int64) = lN 31 by decide +kernel) ?_
    refine lv_lload hx hb dX4_sums_16 (lv_at hl 3 rfl) ?_
    refine lv_lmul hx hb dX4_sums_18 ?_
    refine lv_aload_n hx hb dX4_sums_19 rfl (lv_at hl 0 rfl) ?_
    refine g_M_0_now hC hP mw_385 dX4_sums_20 ?_
    refine lv_iload_n hx hb dX4_sums_23 rfl (lv_at hl 1 rfl) ?_
    refine lv_iload hx hb dX4_sums_24 (lv_at hl 4 rfl) ?_
    refine lv_iadd hx hb dX4_sums_26 ?_
    refine wl_re (show nI first + nI k1 = nI (first + k1) from nI_add first k1) ?_
    refine ld_M_1 hC hP (first + k1) (by omega) dX4_sums_27 ?_
    refine lv_i2l (v := (mnow (first + k1)).toInt64) hx hb dX4_sums_28 rfl ?_
    refine lv_ladd hx hb dX4_sums_29 ?_
    refine lv_lstore (lv' := [(5, .long (((lN 31) * v1) + (mnow (first + k1)).toInt64)), (0, .ref (a 0)), (3, .int (nI first)), (4, .int (nI n)), (7, .int (nI k1))]) hx hb dX4_sums_30 hl (by decide) rfl (fun ls hl => ?_)
    refine lv_iinc (v := (nI (k1 + 1))) (lv' := [(7, .int (nI (k1 + 1))), (5, .long (((lN 31) * v1) + (mnow (first + k1)).toInt64)), (0, .ref (a 0)), (3, .int (nI first)), (4, .int (nI n))]) hx hb dX4_sums_32 hl (k := 4) rfl (wl_inc k1 1) (by decide) rfl (fun ls hl => ?_)
    refine lv_goto (tgt := 6) hx hb dX4_sums_35 (by decide) ?_
    exact IH1 _ hb1 trivial ls H locs hP hD hS (lv_sub hl [2, 3, 4, 1, 0] rfl)
def m_X4_digest_l6 (mbytesLong : Nat) (mnow : (Nat → Int32)) (P : Nat) (k1 : Nat) (v1 : Int64) : Int64 := (wl_bnd (m_X4_counted mbytesLong mnow (nI k1) P) (fun z3 => (((lN 31) * v1) + z3.toInt64)))
def m_X4_digest_l47 (mnow : (Nat → Int32)) (k5 : Nat) (v5 : Int64) : Int64 := (((lN 31) * (((lN 31) * (((lN 31) * (((lN 31) * v5) + (mnow (4 + k5)).toInt64)) + (mnow (11 + k5)).toInt64)) + (((mnow 18) >>> ((nI k5) &&& 31)) &&& (nI 1)).toInt64)) + (((mnow 19) >>> ((nI k5) &&& 31)) &&& (nI 1)).toInt64)
def m_X4_digest (mabove : Int64) (mbelow : Int64) (mbytesLong : Nat) (mnow : (Nat → Int32)) (P : Nat) (NT : Nat) : Int64 := (wl_bnd (wl_iter (m_X4_digest_l6 mbytesLong mnow P) 8 0 (lN 1213)) (fun z1 => (wl_bnd (wl_iter (m_X4_digest_l47 mnow) P 0 (((lN 31) * z1) + (mnow 1).toInt64)) (fun z5 => (wl_bnd (m_X4_sums mnow z5 22 (5 * NT)) (fun z10 => (((lN 31) * (((lN 31) * z10) + mabove)) + mbelow)))))))
set_option maxHeartbeats 4000000 in
set_option maxRecDepth 100000 in
theorem c_X4_digest {l : Launch} {D : va_G} {E : Nat → ClassId} {a : Nat → Nat} {mabove : Int64} {mbelow : Int64} {mlisted : Int32} {mfollowing : Int32} {mdayThen : Int32} {mbytesLong : Nat} {mtokenAt : Nat} {mtokenLong : Nat} {mtoken : Int32} {mvalue : Int32} {mnow : (Nat → Int32)} {mkept : (Nat → Int32)} {misKept : (Nat → Int32)} {mrefused : (Nat → Int32)} {mtempers : (Nat → Int32)} {mhis : (Nat → Int32)} {mtheirs : (Nat → Int32)} {mmanyBy : (Nat → Int32)} {mbytes : (Nat → Int32)} {manew : (Nat → Int32)} {mvalues : (Nat → Int32)} {P : Nat} {NT : Nat} (h0 : mnow 0 = nI P) (hP7 : P ≤ 7) (h2 : mnow 2 = nI NT) (hN6 : NT ≤ 6) : wl_Met (τ := Int64) l D E yX4_digest cX4_digest 4 (some .long) ({ frames := 2, cells := 0, slots := 0, locals := 43 } : Room) [.ref (a 0)] (wM E a mabove mbelow mlisted mfollowing mdayThen mbytesLong mtokenAt mtokenLong mtoken mvalue mnow mkept misKept mrefused mtempers mhis mtheirs mmanyBy mbytes manew mvalues) (fun z => some (.long z)) (fun _ => (wM E a mabove mbelow mlisted mfollowing mdayThen mbytesLong mtokenAt mtokenLong mtoken mvalue mnow mkept misKept mrefused mtempers mhis mtheirs mmanyBy mbytes manew mvalues)) (m_X4_digest mabove mbelow mbytesLong mnow P NT) := by
  refine wl_enter (own := RX4) (by decide +kernel) rfl (Nat.le_of_ble_eq_true rfl) ?_
  intro p0 e0 s0 m0 bl0 mt0 c0 A hC hr hlk hA H locs hP hD hS ls hl
  have hx := hC.1
  have hb := hC.2.1
  have hl : lv_has ls 4 [(0, .ref (a 0))] := hl
  have hm := m_X4_digest.eq_1 mabove mbelow mbytesLong mnow P NT
  refine lv_ldc2 hx hb hC.2.2.2.1 (hC.2.2.2.2.1 _ mw_598) dX4_digest_0 ?_
  refine wl_reL (show (1213 : Int64) = lN 1213 by decide +kernel) ?_
  refine lv_lstore_n (lv' := [(1, .long (lN 1213)), (0, .ref (a 0))]) hx hb dX4_digest_3 rfl hl (by decide) rfl (fun ls hl => ?_)
  refine lv_iconst (v := (nI 0)) hx hb dX4_digest_4 (by decide +kernel) ?_
  refine lv_istore_n (lv' := [(3, .int (nI 0)), (1, .long (lN 1213)), (0, .ref (a 0))]) hx hb dX4_digest_5 rfl hl (by decide) rfl (fun ls hl => ?_)
  obtain ⟨u1, hu1, hk1⟩ := wl_bx hm
  refine wl_for (D := D) (A := A) (H0 := s0.heap) (m_X4_digest_l6 mbytesLong mnow P) 8 0 8 (lN 1213) 6 4 (fun k1 v1 => [(0, .ref (a 0)), (1, .long v1), (3, .int (nI k1))]) (fun k1 v1 => (wM E a mabove mbelow mlisted mfollowing mdayThen mbytesLong mtokenAt mtokenLong mtoken mvalue mnow mkept misKept mrefused mtempers mhis mtheirs mmanyBy mbytes manew mvalues)) (fun k1 v1 => True) (by omega) trivial ?_ ?_ hP hD hS (lv_sub hl [2, 1, 0] rfl)
  · intro z1 hv1 hI1 ls H locs hP hD hS hl
    have hm := hk1 z1 (hu1.trans hv1)
    refine lv_iload_n hx hb dX4_digest_6 rfl (lv_at hl 2 rfl) ?_
    refine lv_bipush (v := (nI 8)) hx hb dX4_digest_7 (by decide +kernel) ?_
    refine wl_icmp_ge_n hx hb (by first | omega | exact Nat.lt_of_le_of_lt Nat.and_le_right (by omega) | exact Nat.pow_lt_pow_right (by omega) (by omega) | exact Nat.lt_trans (by assumption) (Nat.pow_lt_pow_right (by omega) (by omega))) (by first | omega | exact Nat.lt_of_le_of_lt Nat.and_le_right (by omega) | exact Nat.pow_lt_pow_right (by omega) (by omega) | exact Nat.lt_trans (by assumption) (Nat.pow_lt_pow_right (by omega) (by omega))) (tgt := 31) dX4_digest_9 (by decide) (fun c4 => ?_) (fun c4 => absurd (by omega) c4)
    refine lv_ldc2 hx hb hC.2.2.2.1 (hC.2.2.2.2.1 _ mw_596) dX4_digest_31 ?_
    refine wl_reL (show (31 : Int64) = lN 31 by decide +kernel) ?_
    refine lv_lload_n hx hb dX4_digest_34 rfl (lv_at hl 1 rfl) ?_
    refine lv_lmul hx hb dX4_digest_35 ?_
    refine lv_aload_n hx hb dX4_digest_36 rfl (lv_at hl 0 rfl) ?_
    refine g_M_0_now hC hP mw_385 dX4_digest_37 ?_
    refine lv_iconst (v := (nI 1)) hx hb dX4_digest_40 (by decide +kernel) ?_
    refine ld_M_1 hC hP 1 (by omega) dX4_digest_41 ?_
    refine lv_i2l (v := (mnow 1).toInt64) hx hb dX4_digest_42 rfl ?_
    refine lv_ladd hx hb dX4_digest_43 ?_
    refine lv_lstore_n (lv' := [(1, .long (((lN 31) * z1) + (mnow 1).toInt64)), (0, .ref (a 0)), (3, .int (nI 8))]) hx hb dX4_digest_44 rfl hl (by decide) rfl (fun ls hl => ?_)
    refine lv_iconst (v := (nI 0)) hx hb dX4_digest_45 (by decide +kernel) ?_
    refine lv_istore_n (lv' := [(3, .int (nI 0)), (1, .long (((lN 31) * z1) + (mnow 1).toInt64)), (0, .ref (a 0))]) hx hb dX4_digest_46 rfl hl (by decide) rfl (fun ls hl => ?_)
    obtain ⟨u5, hu5, hk5⟩ := wl_bx hm
    refine wl_for (D := D) (A := A) (H0 := s0.heap) (m_X4_digest_l47 mnow) P 0 P (((lN 31) * z1) + (mnow 1).toInt64) 47 4 (fun k5 v5 => [(0, .ref (a 0)), (1, .long v5), (3, .int (nI k5))]) (fun k5 v5 => (wM E a mabove mbelow mlisted mfollowing mdayThen mbytesLong mtokenAt mtokenLong mtoken mvalue mnow mkept misKept mrefused mtempers mhis mtheirs mmanyBy mbytes manew mvalues)) (fun k5 v5 => True) (by omega) trivial ?_ ?_ hP hD hS (lv_sub hl [2, 1, 0] rfl)
    · intro z5 hv5 hI5 ls H locs hP hD hS hl
      have hm := hk5 z5 (hu5.trans hv5)
      refine lv_iload_n hx hb dX4_digest_47 rfl (lv_at hl 2 rfl) ?_
      refine lv_aload_n hx hb dX4_digest_48 rfl (lv_at hl 0 rfl) ?_
      refine wl_callVi hC (c_X4_many (P := P) (h0)) lk_RX4_52 rfl ⟨rfl, rfl, Nat.le_of_ble_eq_true rfl, Nat.le_of_ble_eq_true rfl⟩ hP hD hS hA 0 rfl (T1 := 21) rfl hl.1 rfl (Nat.le_of_ble_eq_true rfl) dX4_digest_49 ⟨Nat.zero_le _, Nat.zero_le _⟩ (fun z8 hz8 H locs hP hD hS => ?_)
      have hz8 := hz8.symm
      subst hz8
      refine wl_icmp_ge_n hx hb (by first | omega | exact Nat.lt_of_le_of_lt Nat.and_le_right (by omega) | exact Nat.pow_lt_pow_right (by omega) (by omega) | exact Nat.lt_trans (by assumption) (Nat.pow_lt_pow_right (by omega) (by omega))) (by first | omega | exact Nat.lt_of_le_of_lt Nat.and_le_right (by omega) | exact Nat.pow_lt_pow_right (by omega) (by omega) | exact Nat.lt_trans (by assumption) (Nat.pow_lt_pow_right (by omega) (by omega))) (tgt := 128) dX4_digest_52 (by decide) (fun c9 => ?_) (fun c9 => absurd (by omega) c9)
      refine lv_aload_n hx hb dX4_digest_128 rfl (lv_at hl 0 rfl) ?_
      refine lv_lload_n hx hb dX4_digest_129 rfl (lv_at hl 1 rfl) ?_
      refine lv_bipush (v := (nI 22)) hx hb dX4_digest_130 (by decide +kernel) ?_
      refine lv_iconst (v := (nI 5)) hx hb dX4_digest_132 (by decide +kernel) ?_
      refine lv_aload_n hx hb dX4_digest_133 rfl (lv_at hl 0 rfl) ?_
      refine g_M_0_now hC hP mw_385 dX4_digest_134 ?_
      refine lv_iconst (v := (nI 2)) hx hb dX4_digest_137 (by decide +kernel) ?_
      refine ld_M_1 hC hP 2 (by omega) dX4_digest_138 ?_
      refine wl_re (h2) ?_
      refine lv_imul hx hb dX4_digest_139 ?_
      refine wl_re (show nI 5 * nI NT = nI (5 * NT) from pk_mul 5 NT) ?_
      refine wl_callVl hC (c_X4_sums (from0 := z5) (first := 22) (n := (5 * NT)) (by first | assumption | omega)) lk_RX4_248 rfl ⟨rfl, rfl, Nat.le_of_ble_eq_true rfl, Nat.le_of_ble_eq_true rfl⟩ hP hD hS hA 0 rfl (T1 := 21) rfl hl.1 rfl (Nat.le_of_ble_eq_true rfl) dX4_digest_140 ⟨Nat.zero_le _, Nat.zero_le _⟩ (fun z10 hz10 H locs hP hD hS => ?_)
      have hm := wl_bz hm hz10
      refine lv_lstore_n (lv' := [(1, .long z10), (0, .ref (a 0)), (3, .int (nI P))]) hx hb dX4_digest_143 rfl hl (by decide) rfl (fun ls hl => ?_)
      refine lv_ldc2 hx hb hC.2.2.2.1 (hC.2.2.2.2.1 _ mw_596) dX4_digest_144 ?_
      refine wl_reL (show (31 : Int64) = lN 31 by decide +kernel) ?_
      refine lv_ldc2 hx hb hC.2.2.2.1 (hC.2.2.2.2.1 _ mw_596) dX4_digest_147 ?_
      refine wl_reL (show (31 : Int64) = lN 31 by decide +kernel) ?_
      refine lv_lload_n hx hb dX4_digest_150 rfl (lv_at hl 0 rfl) ?_
      refine lv_lmul hx hb dX4_digest_151 ?_
      refine lv_aload_n hx hb dX4_digest_152 rfl (lv_at hl 1 rfl) ?_
      refine g_M_0_above hC hP mw_521 dX4_digest_153 ?_
      refine lv_ladd hx hb dX4_digest_156 ?_
      refine lv_lmul hx hb dX4_digest_157 ?_
      refine lv_aload_n hx hb dX4_digest_158 rfl (lv_at hl 1 rfl) ?_
      refine g_M_0_below hC hP mw_389 dX4_digest_159 ?_
      refine lv_ladd hx hb dX4_digest_162 ?_
      exact wl_lret hC hr hlk hm rfl hP hD hS dX4_digest_163
    · intro k5 v5 hlo5 hhi5 hI5 IH5 ls H locs hP hD hS hl
      have hb5 := m_X4_digest_l47.eq_1 mnow k5 v5
      refine lv_iload_n hx hb dX4_digest_47 rfl (lv_at hl 2 rfl) ?_
      refine lv_aload_n hx hb dX4_digest_48 rfl (lv_at hl 0 rfl) ?_
      refine wl_callVi hC (c_X4_many (P := P) (h0)) lk_RX4_52 rfl ⟨rfl, rfl, Nat.le_of_ble_eq_true rfl, Nat.le_of_ble_eq_true rfl⟩ hP hD hS hA 0 rfl (T1 := 21) rfl hl.1 rfl (Nat.le_of_ble_eq_true rfl) dX4_digest_49 ⟨Nat.zero_le _, Nat.zero_le _⟩ (fun z6 hz6 H locs hP hD hS => ?_)
      have hz6 := hz6.symm
      subst hz6
      refine wl_icmp_ge_n hx hb (by first | omega | exact Nat.lt_of_le_of_lt Nat.and_le_right (by omega) | exact Nat.pow_lt_pow_right (by omega) (by omega) | exact Nat.lt_trans (by assumption) (Nat.pow_lt_pow_right (by omega) (by omega))) (by first | omega | exact Nat.lt_of_le_of_lt Nat.and_le_right (by omega) | exact Nat.pow_lt_pow_right (by omega) (by omega) | exact Nat.lt_trans (by assumption) (Nat.pow_lt_pow_right (by omega) (by omega))) (tgt := 128) dX4_digest_52 (by decide) (fun c7 => absurd c7 (by omega)) (fun c7 => ?_)
      refine lv_ldc2 hx hb hC.2.2.2.1 (hC.2.2.2.2.1 _ mw_596) dX4_digest_55 ?_
      refine wl_reL (show (31 : Int64) = lN 31 by decide +kernel) ?_
      refine lv_ldc2 hx hb hC.2.2.2.1 (hC.2.2.2.2.1 _ mw_596) dX4_digest_58 ?_
      refine wl_reL (show (31 : Int64) = lN 31 by decide +kernel) ?_
      refine lv_lload_n hx hb dX4_digest_61 rfl (lv_at hl 1 rfl) ?_
      refine lv_lmul hx hb dX4_digest_62 ?_
      refine lv_aload_n hx hb dX4_digest_63 rfl (lv_at hl 0 rfl) ?_
      refine g_M_0_now hC hP mw_385 dX4_digest_64 ?_
      refine lv_iconst (v := (nI 4)) hx hb dX4_digest_67 (by decide +kernel) ?_
      refine lv_iload_n hx hb dX4_digest_68 rfl (lv_at hl 2 rfl) ?_
      refine lv_iadd hx hb dX4_digest_69 ?_
      refine wl_re (show nI 4 + nI k5 = nI (4 + k5) from nI_add 4 k5) ?_
      refine ld_M_1 hC hP (4 + k5) (by omega) dX4_digest_70 ?_
      refine lv_i2l (v := (mnow (4 + k5)).toInt64) hx hb dX4_digest_71 rfl ?_
      refine lv_ladd hx hb dX4_digest_72 ?_
      refine lv_lmul hx hb dX4_digest_73 ?_
      refine lv_aload_n hx hb dX4_digest_74 rfl (lv_at hl 0 rfl) ?_
      refine g_M_0_now hC hP mw_385 dX4_digest_75 ?_
      refine lv_bipush (v := (nI 11)) hx hb dX4_digest_78 (by decide +kernel) ?_
      refine lv_iload_n hx hb dX4_digest_80 rfl (lv_at hl 2 rfl) ?_
      refine lv_iadd hx hb dX4_digest_81 ?_
      refine wl_re (show nI 11 + nI k5 = nI (11 + k5) from nI_add 11 k5) ?_
      refine ld_M_1 hC hP (11 + k5) (by omega) dX4_digest_82 ?_
      refine lv_i2l (v := (mnow (11 + k5)).toInt64) hx hb dX4_digest_83 rfl ?_
      refine lv_ladd hx hb dX4_digest_84 ?_
      refine lv_lstore_n (lv' := [(1, .long (((lN 31) * (((lN 31) * v5) + (mnow (4 + k5)).toInt64)) + (mnow (11 + k5)).toInt64)), (0, .ref (a 0)), (3, .int (nI k5))]) hx hb dX4_digest_85 rfl hl (by decide) rfl (fun ls hl => ?_)
      refine lv_ldc2 hx hb hC.2.2.2.1 (hC.2.2.2.2.1 _ mw_596) dX4_digest_86 ?_
      refine wl_reL (show (31 : Int64) = lN 31 by decide +kernel) ?_
      refine lv_ldc2 hx hb hC.2.2.2.1 (hC.2.2.2.2.1 _ mw_596) dX4_digest_89 ?_
      refine wl_reL (show (31 : Int64) = lN 31 by decide +kernel) ?_
      refine lv_lload_n hx hb dX4_digest_92 rfl (lv_at hl 0 rfl) ?_
      refine lv_lmul hx hb dX4_digest_93 ?_
      refine lv_aload_n hx hb dX4_digest_94 rfl (lv_at hl 1 rfl) ?_
      refine g_M_0_now hC hP mw_385 dX4_digest_95 ?_
      refine lv_bipush (v := (nI 18)) hx hb dX4_digest_98 (by decide +kernel) ?_
      refine ld_M_1 hC hP 18 (by omega) dX4_digest_100 ?_
      refine lv_iload_n hx hb dX4_digest_101 rfl (lv_at hl 2 rfl) ?_
      refine lv_ishr hx hb dX4_digest_102 ?_
      refine lv_iconst (v := (nI 1)) hx hb dX4_digest_103 (by decide +kernel) ?_
      refine lv_iand hx hb dX4_digest_104 ?_
      refine lv_i2l (v := (((mnow 18) >>> ((nI k5) &&& 31)) &&& (nI 1)).toInt64) hx hb dX4_digest_105 rfl ?_
      refine lv_ladd hx hb dX4_digest_106 ?_
      refine lv_lmul hx hb dX4_digest_107 ?_
      refine lv_aload_n hx hb dX4_digest_108 rfl (lv_at hl 1 rfl) ?_
      refine g_M_0_now hC hP mw_385 dX4_digest_109 ?_
      refine lv_bipush (v := (nI 19)) hx hb dX4_digest_112 (by decide +kernel) ?_
      refine ld_M_1 hC hP 19 (by omega) dX4_digest_114 ?_
      refine lv_iload_n hx hb dX4_digest_115 rfl (lv_at hl 2 rfl) ?_
      refine lv_ishr hx hb dX4_digest_116 ?_
      refine lv_iconst (v := (nI 1)) hx hb dX4_digest_117 (by decide +kernel) ?_
      refine lv_iand hx hb dX4_digest_118 ?_
      refine lv_i2l (v := (((mnow 19) >>> ((nI k5) &&& 31)) &&& (nI 1)).toInt64) hx hb dX4_digest_119 rfl ?_
      refine lv_ladd hx hb dX4_digest_120 ?_
      refine lv_lstore_n (lv' := [(1, .long (((lN 31) * (((lN 31) * (((lN 31) * (((lN 31) * v5) + (mnow (4 + k5)).toInt64)) + (mnow (11 + k5)).toInt64)) + (((mnow 18) >>> ((nI k5) &&& 31)) &&& (nI 1)).toInt64)) + (((mnow 19) >>> ((nI k5) &&& 31)) &&& (nI 1)).toInt64)), (0, .ref (a 0)), (3, .int (nI k5))]) hx hb dX4_digest_121 rfl hl (by decide) rfl (fun ls hl => ?_)
      refine lv_iinc (v := (nI (k5 + 1))) (lv' := [(3, .int (nI (k5 + 1))), (1, .long (((lN 31) * (((lN 31) * (((lN 31) * (((lN 31) * v5) + (mnow (4 + k5)).toInt64)) + (mnow (11 + k5)).toInt64)) + (((mnow 18) >>> ((nI k5) &&& 31)) &&& (nI 1)).toInt64)) + (((mnow 19) >>> ((nI k5) &&& 31)) &&& (nI 1)).toInt64)), (0, .ref (a 0))]) hx hb dX4_digest_122 hl (k := 2) rfl (wl_inc k5 1) (by decide) rfl (fun ls hl => ?_)
      refine lv_goto (tgt := 47) hx hb dX4_digest_125 (by decide) ?_
      exact IH5 _ hb5 trivial ls H locs hP hD hS (lv_sub hl [2, 1, 0] rfl)
  · intro k1 v1 hlo1 hhi1 hI1 IH1 ls H locs hP hD hS hl
    have hb1 := m_X4_digest_l6.eq_1 mbytesLong mnow P k1 v1
    refine lv_iload_n hx hb dX4_digest_6 rfl (lv_at hl 2 rfl) ?_
    refine lv_bipush (v := (nI 8)) hx hb dX4_digest_7 (by decide +kernel) ?_
    refine wl_icmp_ge_n hx hb (by first | omega | exact Nat.lt_of_le_of_lt Nat.and_le_right (by omega) | exact Nat.pow_lt_pow_right (by omega) (by omega) | exact Nat.lt_trans (by assumption) (Nat.pow_lt_pow_right (by omega) (by omega))) (by first | omega | exact Nat.lt_of_le_of_lt Nat.and_le_right (by omega) | exact Nat.pow_lt_pow_right (by omega) (by omega) | exact Nat.lt_trans (by assumption) (Nat.pow_lt_pow_right (by omega) (by omega))) (tgt := 31) dX4_digest_9 (by decide) (fun c2 => absurd c2 (by omega)) (fun c2 => ?_)
    refine lv_ldc2 hx hb hC.2.2.2.1 (hC.2.2.2.2.1 _ mw_596) dX4_digest_12 ?_
    refine wl_reL (show (31 : Int64) = lN 31 by decide +kernel) ?_
    refine lv_lload_n hx hb dX4_digest_15 rfl (lv_at hl 1 rfl) ?_
    refine lv_lmul hx hb dX4_digest_16 ?_
    refine lv_aload_n hx hb dX4_digest_17 rfl (lv_at hl 0 rfl) ?_
    refine lv_iload_n hx hb dX4_digest_18 rfl (lv_at hl 2 rfl) ?_
    refine wl_callVi hC (c_X4_counted (what := (nI k1)) (P := P) (h0)) lk_RX4_241 rfl ⟨rfl, rfl, Nat.le_of_ble_eq_true rfl, Nat.le_of_ble_eq_true rfl⟩ hP hD hS hA 0 rfl (T1 := 21) rfl hl.1 rfl (Nat.le_of_ble_eq_true rfl) dX4_digest_19 ⟨Nat.zero_le _, Nat.zero_le _⟩ (fun z3 hz3 H locs hP hD hS => ?_)
    have hb1 := wl_bz hb1 hz3
    refine lv_i2l (v := z3.toInt64) hx hb dX4_digest_22 rfl ?_
    refine lv_ladd hx hb dX4_digest_23 ?_
    refine lv_lstore_n (lv' := [(1, .long (((lN 31) * v1) + z3.toInt64)), (0, .ref (a 0)), (3, .int (nI k1))]) hx hb dX4_digest_24 rfl hl (by decide) rfl (fun ls hl => ?_)
    refine lv_iinc (v := (nI (k1 + 1))) (lv' := [(3, .int (nI (k1 + 1))), (1, .long (((lN 31) * v1) + z3.toInt64)), (0, .ref (a 0))]) hx hb dX4_digest_25 hl (k := 2) rfl (wl_inc k1 1) (by decide) rfl (fun ls hl => ?_)
    refine lv_goto (tgt := 6) hx hb dX4_digest_28 (by decide) ?_
    exact IH1 _ hb1 trivial ls H locs hP hD hS (lv_sub hl [2, 1, 0] rfl)
