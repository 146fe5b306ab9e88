def m_J6_bitCount_0f7a4 (i : Int32) : Int32 := ((((((((i - ((i.toUInt32 >>> ((nI 1).toUInt32 &&& Int32.toUInt32 31)).toInt32 &&& (1431655765))) &&& (858993459)) + (((i - ((i.toUInt32 >>> ((nI 1).toUInt32 &&& Int32.toUInt32 31)).toInt32 &&& (1431655765))).toUInt32 >>> ((nI 2).toUInt32 &&& Int32.toUInt32 31)).toInt32 &&& (858993459))) + ((((i - ((i.toUInt32 >>> ((nI 1).toUInt32 &&& Int32.toUInt32 31)).toInt32 &&& (1431655765))) &&& (858993459)) + (((i - ((i.toUInt32 >>> ((nI 1).toUInt32 &&& Int32.toUInt32 31)).toInt32 &&& (1431655765))).toUInt32 >>> ((nI 2).toUInt32 &&& Int32.toUInt32 31)).toInt32 &&& (858993459))).toUInt32 >>> ((nI 4).toUInt32 &&& Int32.toUInt32 31)).toInt32) &&& (252645135)) + ((((((i - ((i.toUInt32 >>> ((nI 1).toUInt32 &&& Int32.toUInt32 31)).toInt32 &&& (1431655765))) &&& (858993459)) + (((i - ((i.toUInt32 >>> ((nI 1).toUInt32 &&& Int32.toUInt32 31)).toInt32 &&& (1431655765))).toUInt32 >>> ((nI 2).toUInt32 &&& Int32.toUInt32 31)).toInt32 &&& (858993459))) + ((((i - ((i.toUInt32 >>> ((nI 1).toUInt32 &&& Int32.toUInt32 31)).toInt32 &&& (1431655765))) &&& (858993459)) + (((i - ((i.toUInt32 >>> ((nI 1).toUInt32 &&& Int32.toUInt32 31)).toInt32 &&& (1431655765))).toUInt32 >>> ((nI 2).toUInt32 &&& Int32.toUInt32 31)).toInt32 &&& (858993459))).toUInt32 >>> ((nI 4).toUInt32 &&& Int32.toUInt32 31)).toInt32) &&& (252645135)).toUInt32 >>> ((nI 8).toUInt32 &&& Int32.toUInt32 31)).toInt32) + (((((((i - ((i.toUInt32 >>> ((nI 1).toUInt32 &&& Int32.toUInt32 31)).toInt32 &&& (1431655765))) &&& (858993459)) + (((i - ((i.toUInt32 >>> ((nI 1).toUInt32 &&& Int32.toUInt32 31)).toInt32 &&& (1431655765))).toUInt32 >>> ((nI 2).toUInt32 &&& Int32.toUInt32 31)).toInt32 &&& (858993459))) + ((((i - ((i.toUInt32 >>> ((nI 1).toUInt32 &&& Int32.toUInt32 31)).toInt32 &&& (1431655765))) &&& (858993459)) + (((i - ((i.toUInt32 >>> ((nI 1).toUInt32 &&& Int32.toUInt32 31)).toInt32 &&& (1431655765))).toUInt32 >>> ((nI 2).toUInt32 &&& Int32.toUInt32 31)).toInt32 &&& (858993459))).toUInt32 >>> ((nI 4).toUInt32 &&& Int32.toUInt32 31)).toInt32) &&& (252645135)) + ((((((i - ((i.toUInt32 >>> ((nI 1).toUInt32 &&& Int32.toUInt32 31)).toInt32 &&& (1431655765))) &&& (858993459)) + (((i - ((i.toUInt32 >>> ((nI 1).toUInt32 &&& Int32.toUInt32 31)).toInt32 &&& (1431655765))).toUInt32 >>> ((nI 2).toUInt32 &&& Int32.toUInt32 31)).toInt32 &&& (858993459))) + ((((i - ((i.toUInt32 >>> ((nI 1).toUInt32 &&& Int32.toUInt32 31)).toInt32 &&& (1431655765))) &&& (858993459)) + (((i - ((i.toUInt32 >>> ((nI 1).toUInt32 &&& Int32.toUInt32 31)).toInt32 &&& (1431655765))).toUInt32 >>> ((nI 2).toUInt32 &&& Int32.toUInt32 31)).toInt32 &&& (858993459))).toUInt32 >>> ((nI 4).toUInt32 &&& Int32.toUInt32 31)).toInt32) &&& (252645135)).toUInt32 >>> ((nI 8).toUInt32 &&& Int32.toUInt32 31)).toInt32).toUInt32 >>> ((nI 16).toUInt32 &&& Int32.toUInt32 31)).toInt32) &&& (nI 63))
set_option maxHeartbeats 4000000 in
set_option maxRecDepth 100000 in
theorem c_J6_bitCount_0f7a4 {l : Launch} {D : va_G} {E : Nat → ClassId}  {i : Int32} : wl_Met (τ := Int32) l D E yJ6_bitCount_0f7a4 cJ6_bitCount_0f7a4 1 (some .int) ({ frames := 0, cells := 0, slots := 0, locals := 0 } : Room) [.int i] [] (fun z => some (.int z)) (fun _ => []) (m_J6_bitCount_0f7a4 i) := by
  refine wl_enter (own := RJ6) (by decide +kernel) rfl (Nat.le_of_ble_eq_true rfl) ?_
  intro p0 e0 s0 m0 bl0 mt0 c0 A hC hr hlk hA H locs hP hD hS ls hl
  have hx := hC.1
  have hb := hC.2.1
  have hl : lv_has ls 1 [(0, .int i)] := hl
  have hm := m_J6_bitCount_0f7a4.eq_1 i
  refine lv_iload_n hx hb dJ6_bitCount_0f7a4_0 rfl (lv_at hl 0 rfl) ?_
  refine lv_iload_n hx hb dJ6_bitCount_0f7a4_1 rfl (lv_at hl 0 rfl) ?_
  refine lv_iconst (v := (nI 1)) hx hb dJ6_bitCount_0f7a4_2 (by decide +kernel) ?_
  refine lv_iushr (v := (i.toUInt32 >>> ((nI 1).toUInt32 &&& Int32.toUInt32 31)).toInt32) hx hb dJ6_bitCount_0f7a4_3 rfl ?_
  refine lv_ldcw hx hb hC.2.2.2.1 (hC.2.2.2.2.1 _ mw_190) dJ6_bitCount_0f7a4_4 ?_
  refine lv_iand hx hb dJ6_bitCount_0f7a4_7 ?_
  refine lv_isub hx hb dJ6_bitCount_0f7a4_8 ?_
  refine lv_istore_n (lv' := [(0, .int (i - ((i.toUInt32 >>> ((nI 1).toUInt32 &&& Int32.toUInt32 31)).toInt32 &&& (1431655765))))]) hx hb dJ6_bitCount_0f7a4_9 rfl hl (by decide) rfl (fun ls hl => ?_)
  refine lv_iload_n hx hb dJ6_bitCount_0f7a4_10 rfl (lv_at hl 0 rfl) ?_
  refine lv_ldcw hx hb hC.2.2.2.1 (hC.2.2.2.2.1 _ mw_191) dJ6_bitCount_0f7a4_11 ?_
  refine lv_iand hx hb dJ6_bitCount_0f7a4_14 ?_
  refine lv_iload_n hx hb dJ6_bitCount_0f7a4_15 rfl (lv_at hl 0 rfl) ?_
  refine lv_iconst (v := (nI 2)) hx hb dJ6_bitCount_0f7a4_16 (by decide +kernel) ?_
  refine lv_iushr (v := ((i - ((i.toUInt32 >>> ((nI 1).toUInt32 &&& Int32.toUInt32 31)).toInt32 &&& (1431655765))).toUInt32 >>> ((nI 2).toUInt32 &&& Int32.toUInt32 31)).toInt32) hx hb dJ6_bitCount_0f7a4_17 rfl ?_
  refine lv_ldcw hx hb hC.2.2.2.1 (hC.2.2.2.2.1 _ mw_191) dJ6_bitCount_0f7a4_18 ?_
  refine lv_iand hx hb dJ6_bitCount_0f7a4_21 ?_
  refine lv_iadd hx hb dJ6_bitCount_0f7a4_22 ?_
  refine lv_istore_n (lv' := [(0, .int (((i - ((i.toUInt32 >>> ((nI 1).toUInt32 &&& Int32.toUInt32 31)).toInt32 &&& (1431655765))) &&& (858993459)) + (((i - ((i.toUInt32 >>> ((nI 1).toUInt32 &&& Int32.toUInt32 31)).toInt32 &&& (1431655765))).toUInt32 >>> ((nI 2).toUInt32 &&& Int32.toUInt32 31)).toInt32 &&& (858993459))))]) hx hb dJ6_bitCount_0f7a4_23 rfl hl (by decide) rfl (fun ls hl => ?_)
  refine lv_iload_n hx hb dJ6_bitCount_0f7a4_24 rfl (lv_at hl 0 rfl) ?_
  refine lv_iload_n hx hb dJ6_bitCount_0f7a4_25 rfl (lv_at hl 0 rfl) ?_
  refine lv_iconst (v := (nI 4)) hx hb dJ6_bitCount_0f7a4_26 (by decide +kernel) ?_
  refine lv_iushr (v := ((((i - ((i.toUInt32 >>> ((nI 1).toUInt32 &&& Int32.toUInt32 31)).toInt32 &&& (1431655765))) &&& (858993459)) + (((i - ((i.toUInt32 >>> ((nI 1).toUInt32 &&& Int32.toUInt32 31)).toInt32 &&& (1431655765))).toUInt32 >>> ((nI 2).toUInt32 &&& Int32.toUInt32 31)).toInt32 &&& (858993459))).toUInt32 >>> ((nI 4).toUInt32 &&& Int32.toUInt32 31)).toInt32) hx hb dJ6_bitCount_0f7a4_27 rfl ?_
  refine lv_iadd hx hb dJ6_bitCount_0f7a4_28 ?_
  refine lv_ldcw hx hb hC.2.2.2.1 (hC.2.2.2.2.1 _ mw_192) dJ6_bitCount_0f7a4_29 ?_
  refine lv_iand hx hb dJ6_bitCount_0f7a4_32 ?_
  refine lv_istore_n (lv' := [(0, .int (((((i - ((i.toUInt32 >>> ((nI 1).toUInt32 &&& Int32.toUInt32 31)).toInt32 &&& (1431655765))) &&& (858993459)) + (((i - ((i.toUInt32 >>> ((nI 1).toUInt32 &&& Int32.toUInt32 31)).toInt32 &&& (1431655765))).toUInt32 >>> ((nI 2).toUInt32 &&& Int32.toUInt32 31)).toInt32 &&& (858993459))) + ((((i - ((i.toUInt32 >>> ((nI 1).toUInt32 &&& Int32.toUInt32 31)).toInt32 &&& (1431655765))) &&& (858993459)) + (((i - ((i.toUInt32 >>> ((nI 1).toUInt32 &&& Int32.toUInt32 31)).toInt32 &&& (1431655765))).toUInt32 >>> ((nI 2).toUInt32 &&& Int32.toUInt32 31)).toInt32 &&& (858993459))).toUInt32 >>> ((nI 4).toUInt32 &&& Int32.toUInt32 31)).toInt32) &&& (252645135)))]) hx hb dJ6_bitCount_0f7a4_33 rfl hl (by decide) rfl (fun ls hl => ?_)
  refine lv_iload_n hx hb dJ6_bitCount_0f7a4_34 rfl (lv_at hl 0 rfl) ?_
  refine lv_iload_n hx hb dJ6_bitCount_0f7a4_35 rfl (lv_at hl 0 rfl) ?_
  refine lv_bipush (v := (nI 8)) hx hb dJ6_bitCount_0f7a4_36 (by decide +kernel) ?_
  refine lv_iushr (v := ((((((i - ((i.toUInt32 >>> ((nI 1).toUInt32 &&& Int32.toUInt32 31)).toInt32 &&& (1431655765))) &&& (858993459)) + (((i - ((i.toUInt32 >>> ((nI 1).toUInt32 &&& Int32.toUInt32 31)).toInt32 &&& (1431655765))).toUInt32 >>> ((nI 2).toUInt32 &&& Int32.toUInt32 31)).toInt32 &&& (858993459))) + ((((i - ((i.toUInt32 >>> ((nI 1).toUInt32 &&& Int32.toUInt32 31)).toInt32 &&& (1431655765))) &&& (858993459)) + (((i - ((i.toUInt32 >>> ((nI 1).toUInt32 &&& Int32.toUInt32 31)).toInt32 &&& (1431655765))).toUInt32 >>> ((nI 2).toUInt32 &&& Int32.toUInt32 31)).toInt32 &&& (858993459))).toUInt32 >>> ((nI 4).toUInt32 &&& Int32.toUInt32 31)).toInt32) &&& (252645135)).toUInt32 >>> ((nI 8).toUInt32 &&& Int32.toUInt32 31)).toInt32) hx hb dJ6_bitCount_0f7a4_38 rfl ?_
  refine lv_iadd hx hb dJ6_bitCount_0f7a4_39 ?_
  refine lv_istore_n (lv' := [(0, .int ((((((i - ((i.toUInt32 >>> ((nI 1).toUInt32 &&& Int32.toUInt32 31)).toInt32 &&& (1431655765))) &&& (858993459)) + (((i - ((i.toUInt32 >>> ((nI 1).toUInt32 &&& Int32.toUInt32 31)).toInt32 &&& (1431655765))).toUInt32 >>> ((nI 2).toUInt32 &&& Int32.toUInt32 31)).toInt32 &&& (858993459))) + ((((i - ((i.toUInt32 >>> ((nI 1).toUInt32 &&& Int32.toUInt32 31)).toInt32 &&& (1431655765))) &&& (858993459)) + (((i - ((i.toUInt32 >>> ((nI 1).toUInt32 &&& Int32.toUInt32 31)).toInt32 &&& (1431655765))).toUInt32 >>> ((nI 2).toUInt32 &&& Int32.toUInt32 31)).toInt32 &&& (858993459))).toUInt32 >>> ((nI 4).toUInt32 &&& Int32.toUInt32 31)).toInt32) &&& (252645135)) + ((((((i - ((i.toUInt32 >>> ((nI 1).toUInt32 &&& Int32.toUInt32 31)).toInt32 &&& (1431655765))) &&& (858993459)) + (((i - ((i.toUInt32 >>> ((nI 1).toUInt32 &&& Int32.toUInt32 31)).toInt32 &&& (1431655765))).toUInt32 >>> ((nI 2).toUInt32 &&& Int32.toUInt32 31)).toInt32 &&& (858993459))) + ((((i - ((i.toUInt32 >>> ((nI 1).toUInt32 &&& Int32.toUInt32 31)).toInt32 &&& (1431655765))) &&& (858993459)) + (((i - ((i.toUInt32 >>> ((nI 1).toUInt32 &&& Int32.toUInt32 31)).toInt32 &&& (1431655765))).toUInt32 >>> ((nI 2).toUInt32 &&& Int32.toUInt32 31)).toInt32 &&& (858993459))).toUInt32 >>> ((nI 4).toUInt32 &&& Int32.toUInt32 31)).toInt32) &&& (252645135)).toUInt32 >>> ((nI 8).toUInt32 &&& Int32.toUInt32 31)).toInt32))]) hx hb dJ6_bitCount_0f7a4_40 rfl hl (by decide) rfl (fun ls hl => ?_)
  refine lv_iload_n hx hb dJ6_bitCount_0f7a4_41 rfl (lv_at hl 0 rfl) ?_
  refine lv_iload_n hx hb dJ6_bitCount_0f7a4_42 rfl (lv_at hl 0 rfl) ?_
  refine lv_bipush (v := (nI 16)) hx hb dJ6_bitCount_0f7a4_43 (by decide +kernel) ?_
  refine lv_iushr (v := (((((((i - ((i.toUInt32 >>> ((nI 1).toUInt32 &&& Int32.toUInt32 31)).toInt32 &&& (1431655765))) &&& (858993459)) + (((i - ((i.toUInt32 >>> ((nI 1).toUInt32 &&& Int32.toUInt32 31)).toInt32 &&& (1431655765))).toUInt32 >>> ((nI 2).toUInt32 &&& Int32.toUInt32 31)).toInt32 &&& (858993459))) + ((((i - ((i.toUInt32 >>> ((nI 1).toUInt32 &&& Int32.toUInt32 31)).toInt32 &&& (1431655765))) &&& (858993459)) + (((i - ((i.toUInt32 >>> ((nI 1).toUInt32 &&& Int32.toUInt32 31)).toInt32 &&& (1431655765))).toUInt32 >>> ((nI 2).toUInt32 &&& Int32.toUInt32 31)).toInt32 &&& (858993459))).toUInt32 >>> ((nI 4).toUInt32 &&& Int32.toUInt32 31)).toInt32) &&& (252645135)) + ((((((i - ((i.toUInt32 >>> ((nI 1).toUInt32 &&& Int32.toUInt32 31)).toInt32 &&& (1431655765))) &&& (858993459)) + (((i - ((i.toUInt32 >>> ((nI 1).toUInt32 &&& Int32.toUInt32 31)).toInt32 &&& (1431655765))).toUInt32 >>> ((nI 2).toUInt32 &&& Int32.toUInt32 31)).toInt32 &&& (858993459))) + ((((i - ((i.toUInt32 >>> ((nI 1).toUInt32 &&& Int32.toUInt32 31)).toInt32 &&& (1431655765))) &&& (858993459)) + (((i - ((i.toUInt32 >>> ((nI 1).toUInt32 &&& Int32.toUInt32 31)).toInt32 &&& (1431655765))).toUInt32 >>> ((nI 2).toUInt32 &&& Int32.toUInt32 31)).toInt32 &&& (858993459))).toUInt32 >>> ((nI 4).toUInt32 &&& Int32.toUInt32 31)).toInt32) &&& (252645135)).toUInt32 >>> ((nI 8).toUInt32 &&& Int32.toUInt32 31)).toInt32).toUInt32 >>> ((nI 16).toUInt32 &&& Int32.toUInt32 31)).toInt32) hx hb dJ6_bitCount_0f7a4_45 rfl ?_
  refine lv_iadd hx hb dJ6_bitCount_0f7a4_46 ?_
  refine lv_istore_n (lv' := [(0, .int (((((((i - ((i.toUInt32 >>> ((nI 1).toUInt32 &&& Int32.toUInt32 31)).toInt32 &&& (1431655765))) &&& (858993459)) + (((i - ((i.toUInt32 >>> ((nI 1).toUInt32 &&& Int32.toUInt32 31)).toInt32 &&& (1431655765))).toUInt32 >>> ((nI 2).toUInt32 &&& Int32.toUInt32 31)).toInt32 &&& (858993459))) + ((((i - ((i.toUInt32 >>> ((nI 1).toUInt32 &&& Int32.toUInt32 31)).toInt32 &&& (1431655765))) &&& (858993459)) + (((i - ((i.toUInt32 >>> ((nI 1).toUInt32 &&& Int32.toUInt32 31)).toInt32 &&& (1431655765))).toUInt32 >>> ((nI 2).toUInt32 &&& Int32.toUInt32 31)).toInt32 &&& (858993459))).toUInt32 >>> ((nI 4).toUInt32 &&& Int32.toUInt32 31)).toInt32) &&& (252645135)) + ((((((i - ((i.toUInt32 >>> ((nI 1).toUInt32 &&& Int32.toUInt32 31)).toInt32 &&& (1431655765))) &&& (858993459)) + (((i - ((i.toUInt32 >>> ((nI 1).toUInt32 &&& Int32.toUInt32 31)).toInt32 &&& (1431655765))).toUInt32 >>> ((nI 2).toUInt32 &&& Int32.toUInt32 31)).toInt32 &&& (858993459))) + ((((i - ((i.toUInt32 >>> ((nI 1).toUInt32 &&& Int32.toUInt32 31)).toInt32 &&& (1431655765))) &&& (858993459)) + (((i - ((i.toUInt32 >>> ((nI 1).toUInt32 &&& Int32.toUInt32 31)).toInt32 &&& (1431655765))).toUInt32 >>> ((nI 2).toUInt32 &&& Int32.toUInt32 31)).toInt32 &&& (858993459))).toUInt32 >>> ((nI 4).toUInt32 &&& Int32.toUInt32 31)).toInt32) &&& (252645135)).toUInt32 >>> ((nI 8).toUInt32 &&& Int32.toUInt32 31)).toInt32) + (((((((i - ((i.toUInt32 >>> ((nI 1).toUInt32 &&& Int32.toUInt32 31)).toInt32 &&& (1431655765))) &&& (858993459)) + (((i - ((i.toUInt32 >>> ((nI 1).toUInt32 &&& Int32.toUInt32 31)).toInt32 &&& (1431655765))).toUInt32 >>> ((nI 2).toUInt32 &&& Int32.toUInt32 31)).toInt32 &&& (858993459))) + ((((i - ((i.toUInt32 >>> ((nI 1).toUInt32 &&& Int32.toUInt32 31)).toInt32 &&& (1431655765))) &&& (858993459)) + (((i - ((i.toUInt32 >>> ((nI 1).toUInt32 &&& Int32.toUInt32 31)).toInt32 &&& (1431655765))).toUInt32 >>> ((nI 2).toUInt32 &&& Int32.toUInt32 31)).toInt32 &&& (858993459))).toUInt32 >>> ((nI 4).toUInt32 &&& Int32.toUInt32 31)).toInt32) &&& (252645135)) + ((((((i - ((i.toUInt32 >>> ((nI 1).toUInt32 &&& Int32.toUInt32 31)).toInt32 &&& (1431655765))) &&& (858993459)) + (((i - ((i.toUInt32 >>> ((nI 1).toUInt32 &&& Int32.toUInt32 31)).toInt32 &&& (1431655765))).toUInt32 >>> ((nI 2).toUInt32 &&& Int32.toUInt32 31)).toInt32 &&& (858993459))) + ((((i - ((i.toUInt32 >>> ((nI 1).toUInt32 &&& Int32.toUInt32 31)).toInt32 &&& (1431655765))) &&& (858993459)) + (((i - ((i.toUInt32 >>> ((nI 1).toUInt32 &&& Int32.toUInt32 31)).toInt32 &&& (1431655765))).toUInt32 >>> ((nI 2).toUInt32 &&& Int32.toUInt32 31)).toInt32 &&& (858993459))).toUInt32 >>> ((nI 4).toUInt32 &&& Int32.toUInt32 31)).toInt32) &&& (252645135)).toUInt32 >>> ((nI 8).toUInt32 &&& Int32.toUInt32 31)).toInt32).toUInt32 >>> ((nI 16).toUInt32 &&& Int32.toUInt32 31)).toInt32))]) hx hb dJ6_bitCount_0f7a4_47 rfl hl (by decide) rfl (fun ls hl => ?_)
  refine lv_iload_n hx hb dJ6_bitCount_0f7a4_48 rfl (lv_at hl 0 rfl) ?_
  refine lv_bipush (v := (nI 63)) hx hb dJ6_bitCount_0f7a4_49 (by decide +kernel) ?_
  refine lv_iand hx hb dJ6_bitCount_0f7a4_51 ?_
  exact wl_iret hC hr hlk hm rfl hP hD hS dJ6_bitCount_0f7a4_52
def m_X3_isWithin (v : Int32) (least : Int32) (most : Int32) : Bool := (if v < least then false else (if most < v then false else true))
set_option maxHeartbeats 4000000 in
set_option maxRecDepth 100000 in
theorem c_X3_isWithin {l : Launch} {D : va_G} {E : Nat → ClassId}  {v : Int32} {least : Int32} {most : Int32} : wl_Met (τ := Bool) l D E yX3_isWithin cX3_isWithin 3 (some .boolean) ({ frames := 0, cells := 0, slots := 0, locals := 0 } : Room) [.int v, .int least, .int most] [] (fun z => some (.int (wl_b z))) (fun _ => []) (m_X3_isWithin v least most) := by
  refine wl_enter (own := RX3) (by decide +kernel) rfl (Nat.le_of_ble_eq_true rfl) ?_
  intro p0 e0 s0 m0 bl0 mt0 c0 A hC hr hlk hA H locs hP hD hS ls hl
  have hx := hC.1
  have hb := hC.2.1
  have hl : lv_has ls 3 [(0, .int v), (1, .int least), (2, .int most)] := hl
  have hm := m_X3_isWithin.eq_1 v least most
  refine lv_iload_n hx hb dX3_isWithin_0 rfl (lv_at hl 0 rfl) ?_
  refine lv_iload_n hx hb dX3_isWithin_1 rfl (lv_at hl 1 rfl) ?_
  refine lv_icmp_lt hx hb (tgt := 14) dX3_isWithin_2 (by decide) (fun c1 => ?_) (fun c1 => ?_)
  · have hm := hm.trans (if_pos c1)
    refine lv_iconst (v := (nI 0)) hx hb dX3_isWithin_14 (by decide +kernel) ?_
    exact wl_zret (v := false) hC hr hlk hm rfl hP hD hS dX3_isWithin_15
  · have hm := hm.trans (if_neg c1)
    refine lv_iload_n hx hb dX3_isWithin_5 rfl (lv_at hl 0 rfl) ?_
    refine lv_iload_n hx hb dX3_isWithin_6 rfl (lv_at hl 2 rfl) ?_
    refine lv_icmp_gt hx hb (tgt := 14) dX3_isWithin_7 (by decide) (fun c2 => ?_) (fun c2 => ?_)
    · have hm := hm.trans (if_pos c2)
      refine lv_iconst (v := (nI 0)) hx hb dX3_isWithin_14 (by decide +kernel) ?_
      exact wl_zret (v := false) hC hr hlk hm rfl hP hD hS dX3_isWithin_15
    · have hm := hm.trans (if_neg c2)
      refine lv_iconst (v := (nI 1)) hx hb dX3_isWithin_10 (by decide +kernel) ?_
      refine lv_goto (tgt := 15) hx hb dX3_isWithin_11 (by decide) ?_
      exact wl_zret (v := true) hC hr hlk hm rfl hP hD hS dX3_isWithin_15
def m_X3_bitOf (bits : Int32) (i : Nat) : Int32 := ((bits >>> ((nI i) &&& 31)) &&& (nI 1))
set_option maxHeartbeats 4000000 in
set_option maxRecDepth 100000 in
theorem c_X3_bitOf {l : Launch} {D : va_G} {E : Nat → ClassId}  {bits : Int32} {i : Nat} : wl_Met (τ := Int32) l D E yX3_bitOf cX3_bitOf 2 (some .int) ({ frames := 0, cells := 0, slots := 0, locals := 0 } : Room) [.int bits, .int (nI i)] [] (fun z => some (.int z)) (fun _ => []) (m_X3_bitOf bits i) := by
  refine wl_enter (own := RX3) (by decide +kernel) rfl (Nat.le_of_ble_eq_true rfl) ?_
  intro p0 e0 s0 m0 bl0 mt0 c0 A hC hr hlk hA H locs hP hD hS ls hl
  have hx := hC.1
  have hb := hC.2.1
  have hl : lv_has ls 2 [(0, .int bits), (1, .int (nI i))] := hl
  have hm := m_X3_bitOf.eq_1 bits i
  refine lv_iload_n hx hb dX3_bitOf_0 rfl (lv_at hl 0 rfl) ?_
  refine lv_iload_n hx hb dX3_bitOf_1 rfl (lv_at hl 1 rfl) ?_
  refine lv_ishr hx hb dX3_bitOf_2 ?_
  refine lv_iconst (v := (nI 1)) hx hb dX3_bitOf_3 (by decide +kernel) ?_
  refine lv_iand hx hb dX3_bitOf_4 ?_
  exact wl_iret hC hr hlk hm rfl hP hD hS dX3_bitOf_5
def m_X3_withBit (bits : Int32) (i : Nat) (is : Int32) : Int32 := (if is = (nI 1) then (bits ||| ((nI 1) <<< ((nI i) &&& 31))) else (bits &&& (((nI 1) <<< ((nI i) &&& 31)) ^^^ (-1))))
set_option maxHeartbeats 4000000 in
set_option maxRecDepth 100000 in
theorem c_X3_withBit {l : Launch} {D : va_G} {E : Nat → ClassId}  {bits : Int32} {i : Nat} {is : Int32} : wl_Met (τ := Int32) l D E yX3_withBit cX3_withBit 3 (some .int) ({ frames := 0, cells := 0, slots := 0, locals := 0 } : Room) [.int bits, .int (nI i), .int is] [] (fun z => some (.int z)) (fun _ => []) (m_X3_withBit bits i is) := by
  refine wl_enter (own := RX3) (by decide +kernel) rfl (Nat.le_of_ble_eq_true rfl) ?_
  intro p0 e0 s0 m0 bl0 mt0 c0 A hC hr hlk hA H locs hP hD hS ls hl
  have hx := hC.1
  have hb := hC.2.1
  have hl : lv_has ls 3 [(0, .int bits), (1, .int (nI i)), (2, .int is)] := hl
  have hm := m_X3_withBit.eq_1 bits i is
  refine lv_iload_n hx hb dX3_withBit_0 rfl (lv_at hl 2 rfl) ?_
  refine lv_iconst (v := (nI 1)) hx hb dX3_withBit_1 (by decide +kernel) ?_
  refine lv_icmp_ne hx hb (tgt := 13) dX3_withBit_2 (by decide) (fun c1 => ?_) (fun c1 => ?_)
  · have hm := hm.trans (if_neg c1)
    refine lv_iload_n hx hb dX3_withBit_13 rfl (lv_at hl 0 rfl) ?_
    refine lv_iconst (v := (nI 1)) hx hb dX3_withBit_14 (by decide +kernel) ?_
    refine lv_iload_n hx hb dX3_withBit_15 rfl (lv_at hl 1 rfl) ?_
    refine lv_ishl hx hb dX3_withBit_16 ?_
    refine lv_iconst (v := (-1)) hx hb dX3_withBit_17 (by decide +kernel) ?_
    refine lv_ixor hx hb dX3_withBit_18 ?_
    refine lv_iand hx hb dX3_withBit_19 ?_
    exact wl_iret hC hr hlk hm rfl hP hD hS dX3_withBit_20
  · have hm := hm.trans (if_pos c1)
    refine lv_iload_n hx hb dX3_withBit_5 rfl (lv_at hl 0 rfl) ?_
    refine lv_iconst (v := (nI 1)) hx hb dX3_withBit_6 (by decide +kernel) ?_
    refine lv_iload_n hx hb dX3_withBit_7 rfl (lv_at hl 1 rfl) ?_
    refine lv_ishl hx hb dX3_withBit_8 ?_
    refine lv_ior hx hb dX3_withBit_9 ?_
    refine lv_goto (tgt := 20) hx hb dX3_withBit_10 (by decide) ?_
    exact wl_iret hC hr hlk hm rfl hP hD hS dX3_withBit_20
def m_X3_actOf (kind : Int32) (day : Int32) (followed : Bool) (temper : Int32) : Int32 := (wl_bnd ((if followed = true then (if (nI 5) < ((if (nI 5) < (temper / (nI 6)) then (nI 5) else (temper / (nI 6))) + (nI 1)) then (nI 5) else ((if (nI 5) < (temper / (nI 6)) then (nI 5) else (temper / (nI 6))) + (nI 1))) else (if (nI 5) < (temper / (nI 6)) then (nI 5) else (temper / (nI 6)))) : Int32) (fun z1 => (if kind = nI 0 then (if (nI 5) < (temper / (nI 6)) then (nI 5) else (temper / (nI 6))) else (if kind = nI 1 then (if ((if (nI 5) < (temper / (nI 6)) then (nI 5) else (temper / (nI 6))) - (nI 2)) < (nI 0) then (nI 0) else ((if (nI 5) < (temper / (nI 6)) then (nI 5) else (temper / (nI 6))) - (nI 2))) else (if kind = nI 2 then (if followed = true then (nI 0) else (if (nI 5) < (temper / (nI 6)) then (nI 5) else (temper / (nI 6)))) else (if kind = nI 3 then z1 else (if kind = nI 4 then (if (day - day / (nI 3) * (nI 3)) = 0 then (if (if ((if (nI 5) < (temper / (nI 6)) then (nI 5) else (temper / (nI 6))) - (nI 2)) < (nI 0) then (nI 0) else ((if (nI 5) < (temper / (nI 6)) then (nI 5) else (temper / (nI 6))) - (nI 2))) < (nI 1) then (nI 1) else (if ((if (nI 5) < (temper / (nI 6)) then (nI 5) else (temper / (nI 6))) - (nI 2)) < (nI 0) then (nI 0) else ((if (nI 5) < (temper / (nI 6)) then (nI 5) else (temper / (nI 6))) - (nI 2)))) else (if ((if (nI 5) < (temper / (nI 6)) then (nI 5) else (temper / (nI 6))) - (nI 2)) < (nI 0) then (nI 0) else ((if (nI 5) < (temper / (nI 6)) then (nI 5) else (temper / (nI 6))) - (nI 2)))) else (if (day - day / (nI 2) * (nI 2)) = 0 then (nI 0) else z1))))))))
set_option maxHeartbeats 4000000 in
set_option maxRecDepth 100000 in
theorem c_X3_actOf {l : Launch} {D : va_G} {E : Nat → ClassId}  {kind : Int32} {day : Int32} {followed : Bool} {temper : Int32} : wl_Met (τ := Int32) l D E yX3_actOf cX3_actOf 7 (some .int) ({ frames := 1, cells := 0, slots := 0, locals := 24 } : Room) [.int kind, .int day, .int (wl_b followed), .int temper] [] (fun z => some (.int z)) (fun _ => []) (m_X3_actOf kind day followed temper) := by
  refine wl_enter (own := RX3) (by decide +kernel) rfl (Nat.le_of_ble_eq_true rfl) ?_
  intro p0 e0 s0 m0 bl0 mt0 c0 A hC hr hlk hA H locs hP hD hS ls hl
  have hx := hC.1
  have hb := hC.2.1
  have hl : lv_has ls 7 [(0, .int kind), (1, .int day), (2, .int (wl_b followed)), (3, .int temper)] := hl
  have hm := m_X3_actOf.eq_1 kind day followed temper
  refine lv_iload_n hx hb dX3_actOf_0 rfl (lv_at hl 3 rfl) ?_
  refine lv_bipush (v := (nI 6)) hx hb dX3_actOf_1 (by decide +kernel) ?_
  refine lv_idiv hx hb dX3_actOf_3 (nI_ne0 (by omega) (by omega)) ?_
  refine lv_iconst (v := (nI 5)) hx hb dX3_actOf_4 (by decide +kernel) ?_
  refine wl_min hC mw_141 hl.1 (Nat.le_of_ble_eq_true rfl) (Nat.le_of_ble_eq_true rfl) ⟨Nat.zero_le _, Nat.zero_le _⟩ dX3_actOf_5 ?_
  refine lv_istore (lv' := [(4, .int (if (nI 5) < (temper / (nI 6)) then (nI 5) else (temper / (nI 6)))), (0, .int kind), (1, .int day), (2, .int (wl_b followed)), (3, .int temper)]) hx hb dX3_actOf_8 hl (by decide) rfl (fun ls hl => ?_)
  refine lv_iload hx hb dX3_actOf_10 (lv_at hl 0 rfl) ?_
  refine lv_iconst (v := (nI 2)) hx hb dX3_actOf_12 (by decide +kernel) ?_
  refine lv_isub hx hb dX3_actOf_13 ?_
  refine lv_iconst (v := (nI 0)) hx hb dX3_actOf_14 (by decide +kernel) ?_
  refine wl_max hC mw_145 hl.1 (Nat.le_of_ble_eq_true rfl) (Nat.le_of_ble_eq_true rfl) ⟨Nat.zero_le _, Nat.zero_le _⟩ dX3_actOf_15 ?_
  refine lv_istore (lv' := [(5, .int (if ((if (nI 5) < (temper / (nI 6)) then (nI 5) else (temper / (nI 6))) - (nI 2)) < (nI 0) then (nI 0) else ((if (nI 5) < (temper / (nI 6)) then (nI 5) else (temper / (nI 6))) - (nI 2)))), (4, .int (if (nI 5) < (temper / (nI 6)) then (nI 5) else (temper / (nI 6)))), (0, .int kind), (1, .int day), (2, .int (wl_b followed)), (3, .int temper)]) hx hb dX3_actOf_18 hl (by decide) rfl (fun ls hl => ?_)
  refine lv_iload_n hx hb dX3_actOf_20 rfl (lv_at hl 4 rfl) ?_
  obtain ⟨u1, hj1, hk1⟩ := wl_bx hm
  refine wl_J u1 37 (fun z1 => [.int z1]) 7 (fun z1 => [(5, .int (if ((if (nI 5) < (temper / (nI 6)) then (nI 5) else (temper / (nI 6))) - (nI 2)) < (nI 0) then (nI 0) else ((if (nI 5) < (temper / (nI 6)) then (nI 5) else (temper / (nI 6))) - (nI 2)))), (4, .int (if (nI 5) < (temper / (nI 6)) then (nI 5) else (temper / (nI 6)))), (0, .int kind), (1, .int day), (2, .int (wl_b followed))]) D A s0.heap (fun z1 => []) (fun z1 hz1 ls H locs hP hD hS hl => ?_) (fun J1 => ?_)
  · have hm := hk1 z1 hz1
    refine lv_istore (lv' := [(6, .int z1), (5, .int (if ((if (nI 5) < (temper / (nI 6)) then (nI 5) else (temper / (nI 6))) - (nI 2)) < (nI 0) then (nI 0) else ((if (nI 5) < (temper / (nI 6)) then (nI 5) else (temper / (nI 6))) - (nI 2)))), (4, .int (if (nI 5) < (temper / (nI 6)) then (nI 5) else (temper / (nI 6)))), (0, .int kind), (1, .int day), (2, .int (wl_b followed))]) hx hb dX3_actOf_37 hl (by decide) rfl (fun ls hl => ?_)
    refine lv_iload_n hx hb dX3_actOf_39 rfl (lv_at hl 3 rfl) ?_
    refine (Decidable.em (kind = nI 0)).elim (fun c3_0 => ?_) (fun c3_0 => ?_)
    · have hm := hm.trans (if_pos c3_0)
      refine lv_tableIn (off := 36) (tgt := 76) hx hb dX3_actOf_40 (by rw [c3_0]; decide +kernel) (by rw [c3_0]; decide +kernel) (by rw [c3_0]; decide +kernel) (by decide) ?_
      refine lv_iload hx hb dX3_actOf_76 (lv_at hl 2 rfl) ?_
      exact wl_iret hC hr hlk hm rfl hP hD hS dX3_actOf_78
    · have hm := hm.trans (if_neg c3_0)
      refine (Decidable.em (kind = nI 1)).elim (fun c3_1 => ?_) (fun c3_1 => ?_)
      · have hm := hm.trans (if_pos c3_1)
        refine lv_tableIn (off := 39) (tgt := 79) hx hb dX3_actOf_40 (by rw [c3_1]; decide +kernel) (by rw [c3_1]; decide +kernel) (by rw [c3_1]; decide +kernel) (by decide) ?_
        refine lv_iload hx hb dX3_actOf_79 (lv_at hl 1 rfl) ?_
        exact wl_iret hC hr hlk hm rfl hP hD hS dX3_actOf_81
      · have hm := hm.trans (if_neg c3_1)
        refine (Decidable.em (kind = nI 2)).elim (fun c3_2 => ?_) (fun c3_2 => ?_)
        · have hm := hm.trans (if_pos c3_2)
          refine lv_tableIn (off := 42) (tgt := 82) hx hb dX3_actOf_40 (by rw [c3_2]; decide +kernel) (by rw [c3_2]; decide +kernel) (by rw [c3_2]; decide +kernel) (by decide) ?_
          refine lv_iload_n hx hb dX3_actOf_82 rfl (lv_at hl 5 rfl) ?_
          refine wl_if_eq_b hx hb (tgt := 90) dX3_actOf_83 (by decide) (fun c4 => ?_) (fun c4 => ?_)
          · have hm := hm.trans (if_neg c4)
            refine lv_iload hx hb dX3_actOf_90 (lv_at hl 2 rfl) ?_
            exact wl_iret hC hr hlk hm rfl hP hD hS dX3_actOf_92
          · have hm := hm.trans (if_pos c4)
            refine lv_iconst (v := (nI 0)) hx hb dX3_actOf_86 (by decide +kernel) ?_
            refine lv_goto (tgt := 92) hx hb dX3_actOf_87 (by decide) ?_
            exact wl_iret hC hr hlk hm rfl hP hD hS dX3_actOf_92
        · have hm := hm.trans (if_neg c3_2)
          refine (Decidable.em (kind = nI 3)).elim (fun c3_3 => ?_) (fun c3_3 => ?_)
          · have hm := hm.trans (if_pos c3_3)
            refine lv_tableIn (off := 53) (tgt := 93) hx hb dX3_actOf_40 (by rw [c3_3]; decide +kernel) (by rw [c3_3]; decide +kernel) (by rw [c3_3]; decide +kernel) (by decide) ?_
            refine lv_iload hx hb dX3_actOf_93 (lv_at hl 0 rfl) ?_
            exact wl_iret hC hr hlk hm rfl hP hD hS dX3_actOf_95
          · have hm := hm.trans (if_neg c3_3)
            refine (Decidable.em (kind = nI 4)).elim (fun c3_4 => ?_) (fun c3_4 => ?_)
            · have hm := hm.trans (if_pos c3_4)
              refine lv_tableIn (off := 56) (tgt := 96) hx hb dX3_actOf_40 (by rw [c3_4]; decide +kernel) (by rw [c3_4]; decide +kernel) (by rw [c3_4]; decide +kernel) (by decide) ?_
              refine lv_iload_n hx hb dX3_actOf_96 rfl (lv_at hl 4 rfl) ?_
              refine lv_iconst (v := (nI 3)) hx hb dX3_actOf_97 (by decide +kernel) ?_
              refine lv_irem hx hb dX3_actOf_98 (nI_ne0 (by omega) (by omega)) ?_
              refine lv_if_ne hx hb (tgt := 111) dX3_actOf_99 (by decide) (fun c5 => ?_) (fun c5 => ?_)
              · have hm := hm.trans (if_neg c5)
                refine lv_iload hx hb dX3_actOf_111 (lv_at hl 1 rfl) ?_
                exact wl_iret hC hr hlk hm rfl hP hD hS dX3_actOf_113
              · have hm := hm.trans (if_pos c5)
                refine lv_iload hx hb dX3_actOf_102 (lv_at hl 1 rfl) ?_
                refine lv_iconst (v := (nI 1)) hx hb dX3_actOf_104 (by decide +kernel) ?_
                refine wl_max hC mw_145 hl.1 (Nat.le_of_ble_eq_true rfl) (Nat.le_of_ble_eq_true rfl) ⟨Nat.zero_le _, Nat.zero_le _⟩ dX3_actOf_105 ?_
                refine lv_goto (tgt := 113) hx hb dX3_actOf_108 (by decide) ?_
                exact wl_iret hC hr hlk hm rfl hP hD hS dX3_actOf_113
            · have hm := hm.trans (if_neg c3_4)
              refine lv_tableOut (tgt := 114) hx hb dX3_actOf_40 (wl_tab0_4 c3_0 c3_1 c3_2 c3_3 c3_4) (by decide) ?_
              refine lv_iload_n hx hb dX3_actOf_114 rfl (lv_at hl 4 rfl) ?_
              refine lv_iconst (v := (nI 2)) hx hb dX3_actOf_115 (by decide +kernel) ?_
              refine lv_irem hx hb dX3_actOf_116 (nI_ne0 (by omega) (by omega)) ?_
              refine lv_if_ne hx hb (tgt := 124) dX3_actOf_117 (by decide) (fun c6 => ?_) (fun c6 => ?_)
              · have hm := hm.trans (if_neg c6)
                refine lv_iload hx hb dX3_actOf_124 (lv_at hl 0 rfl) ?_
                exact wl_iret hC hr hlk hm rfl hP hD hS dX3_actOf_126
              · have hm := hm.trans (if_pos c6)
                refine lv_iconst (v := (nI 0)) hx hb dX3_actOf_120 (by decide +kernel) ?_
                refine lv_goto (tgt := 126) hx hb dX3_actOf_121 (by decide) ?_
                exact wl_iret hC hr hlk hm rfl hP hD hS dX3_actOf_126
  · refine wl_if_eq_b hx hb (tgt := 35) dX3_actOf_21 (by decide) (fun c2 => ?_) (fun c2 => ?_)
    · have hj1 := hj1.trans (if_neg c2)
      refine lv_iload hx hb dX3_actOf_35 (lv_at hl 1 rfl) ?_
      exact J1 _ hj1 ls H locs hP hD hS (lv_sub hl [0, 1, 2, 3, 4] rfl)
    · have hj1 := hj1.trans (if_pos c2)
      refine lv_iload hx hb dX3_actOf_24 (lv_at hl 1 rfl) ?_
      refine lv_iconst (v := (nI 1)) hx hb dX3_actOf_26 (by decide +kernel) ?_
      refine lv_iadd hx hb dX3_actOf_27 ?_
      refine lv_iconst (v := (nI 5)) hx hb dX3_actOf_28 (by decide +kernel) ?_
      refine wl_min hC mw_141 hl.1 (Nat.le_of_ble_eq_true rfl) (Nat.le_of_ble_eq_true rfl) ⟨Nat.zero_le _, Nat.zero_le _⟩ dX3_actOf_29 ?_
      refine lv_goto (tgt := 37) hx hb dX3_actOf_32 (by decide) ?_
      exact J1 _ hj1 ls H locs hP hD hS (lv_sub hl [0, 1, 2, 3, 4] rfl)
def m_X3_moreOf (kind : Int32) : Int32 := (if kind = nI 0 then (nI 2) else (if kind = nI 1 then (nI 0) else (if kind = nI 2 then (nI 1) else (if kind = nI 3 then (nI 4) else (if kind = nI 4 then (nI 1) else (nI 4))))))
set_option maxHeartbeats 4000000 in
set_option maxRecDepth 100000 in
theorem c_X3_moreOf {l : Launch} {D : va_G} {E : Nat → ClassId}  {kind : Int32} : wl_Met (τ := Int32) l D E yX3_moreOf cX3_moreOf 1 (some .int) ({ frames := 0, cells := 0, slots := 0, locals := 0 } : Room) [.int kind] [] (fun z => some (.int z)) (fun _ => []) (m_X3_moreOf kind) := by
  refine wl_enter (own := RX3) (by decide +kernel) rfl (Nat.le_of_ble_eq_true rfl) ?_
  intro p0 e0 s0 m0 bl0 mt0 c0 A hC hr hlk hA H locs hP hD hS ls hl
  have hx := hC.1
  have hb := hC.2.1
  have hl : lv_has ls 1 [(0, .int kind)] := hl
  have hm := m_X3_moreOf.eq_1 kind
  refine lv_iload_n hx hb dX3_moreOf_0 rfl (lv_at hl 0 rfl) ?_
  refine (Decidable.em (kind = nI 0)).elim (fun c1_0 => ?_) (fun c1_0 => ?_)
  · have hm := hm.trans (if_pos c1_0)
    refine lv_tableIn (off := 35) (tgt := 36) hx hb dX3_moreOf_1 (by rw [c1_0]; decide +kernel) (by rw [c1_0]; decide +kernel) (by rw [c1_0]; decide +kernel) (by decide) ?_
    refine lv_iconst (v := (nI 2)) hx hb dX3_moreOf_36 (by decide +kernel) ?_
    exact wl_iret hC hr hlk hm rfl hP hD hS dX3_moreOf_37
  · have hm := hm.trans (if_neg c1_0)
    refine (Decidable.em (kind = nI 1)).elim (fun c1_1 => ?_) (fun c1_1 => ?_)
    · have hm := hm.trans (if_pos c1_1)
      refine lv_tableIn (off := 37) (tgt := 38) hx hb dX3_moreOf_1 (by rw [c1_1]; decide +kernel) (by rw [c1_1]; decide +kernel) (by rw [c1_1]; decide +kernel) (by decide) ?_
      refine lv_iconst (v := (nI 0)) hx hb dX3_moreOf_38 (by decide +kernel) ?_
      exact wl_iret hC hr hlk hm rfl hP hD hS dX3_moreOf_39
    · have hm := hm.trans (if_neg c1_1)
      refine (Decidable.em (kind = nI 2)).elim (fun c1_2 => ?_) (fun c1_2 => ?_)
      · have hm := hm.trans (if_pos c1_2)
        refine lv_tableIn (off := 39) (tgt := 40) hx hb dX3_moreOf_1 (by rw [c1_2]; decide +kernel) (by rw [c1_2]; decide +kernel) (by rw [c1_2]; decide +kernel) (by decide) ?_
        refine lv_iconst (v := (nI 1)) hx hb dX3_moreOf_40 (by decide +kernel) ?_
        exact wl_iret hC hr hlk hm rfl hP hD hS dX3_moreOf_41
      · have hm := hm.trans (if_neg c1_2)
        refine (Decidable.em (kind = nI 3)).elim (fun c1_3 => ?_) (fun c1_3 => ?_)
        · have hm := hm.trans (if_pos c1_3)
          refine lv_tableIn (off := 41) (tgt := 42) hx hb dX3_moreOf_1 (by rw [c1_3]; decide +kernel) (by rw [c1_3]; decide +kernel) (by rw [c1_3]; decide +kernel) (by decide) ?_
          refine lv_iconst (v := (nI 4)) hx hb dX3_moreOf_42 (by decide +kernel) ?_
          exact wl_iret hC hr hlk hm rfl hP hD hS dX3_moreOf_43
        · have hm := hm.trans (if_neg c1_3)
          refine (Decidable.em (kind = nI 4)).elim (fun c1_4 => ?_) (fun c1_4 => ?_)
          · have hm := hm.trans (if_pos c1_4)
            refine lv_tableIn (off := 39) (tgt := 40) hx hb dX3_moreOf_1 (by rw [c1_4]; decide +kernel) (by rw [c1_4]; decide +kernel) (by rw [c1_4]; decide +kernel) (by decide) ?_
            refine lv_iconst (v := (nI 1)) hx hb dX3_moreOf_40 (by decide +kernel) ?_
            exact wl_iret hC hr hlk hm rfl hP hD hS dX3_moreOf_41
          · have hm := hm.trans (if_neg c1_4)
            refine lv_tableOut (tgt := 42) hx hb dX3_moreOf_1 (wl_tab0_4 c1_0 c1_1 c1_2 c1_3 c1_4) (by decide) ?_
            refine lv_iconst (v := (nI 4)) hx hb dX3_moreOf_42 (by decide +kernel) ?_
            exact wl_iret hC hr hlk hm rfl hP hD hS dX3_moreOf_43
def m_X3_isFollowedIn (pair : Nat) : Bool := (if (pair &&& 2) = 0 then true else false)
set_option maxHeartbeats 4000000 in
set_option maxRecDepth 100000 in
theorem c_X3_isFollowedIn {l : Launch} {D : va_G} {E : Nat → ClassId}  {pair : Nat} : wl_Met (τ := Bool) l D E yX3_isFollowedIn cX3_isFollowedIn 1 (some .boolean) ({ frames := 0, cells := 0, slots := 0, locals := 0 } : Room) [.int (nI pair)] [] (fun z => some (.int (wl_b z))) (fun _ => []) (m_X3_isFollowedIn pair) := by
  refine wl_enter (own := RX3) (by decide +kernel) rfl (Nat.le_of_ble_eq_true rfl) ?_
  intro p0 e0 s0 m0 bl0 mt0 c0 A hC hr hlk hA H locs hP hD hS ls hl
  have hx := hC.1
  have hb := hC.2.1
  have hl : lv_has ls 1 [(0, .int (nI pair))] := hl
  have hm := m_X3_isFollowedIn.eq_1 pair
  refine lv_iload_n hx hb dX3_isFollowedIn_0 rfl (lv_at hl 0 rfl) ?_
  refine lv_iconst (v := (nI 2)) hx hb dX3_isFollowedIn_1 (by decide +kernel) ?_
  refine lv_iand hx hb dX3_isFollowedIn_2 ?_
  refine wl_re (show nI pair &&& nI 2 = nI (pair &&& 2) from wl_and pair 2) ?_
  refine wl_if_ne_n hx hb (by first | omega | exact Nat.lt_of_le_of_lt Nat.and_le_right (by omega) | exact Nat.pow_lt_pow_right (by omega) (by omega)) (tgt := 10) dX3_isFollowedIn_3 (by decide) (fun c1 => ?_) (fun c1 => ?_)
  · have hm := hm.trans (if_neg c1)
    refine lv_iconst (v := (nI 0)) hx hb dX3_isFollowedIn_10 (by decide +kernel) ?_
    exact wl_zret (v := false) hC hr hlk hm rfl hP hD hS dX3_isFollowedIn_11
  · have hm := hm.trans (if_pos c1)
    refine lv_iconst (v := (nI 1)) hx hb dX3_isFollowedIn_6 (by decide +kernel) ?_
    refine lv_goto (tgt := 11) hx hb dX3_isFollowedIn_7 (by decide) ?_
    exact wl_zret (v := true) hC hr hlk hm rfl hP hD hS dX3_isFollowedIn_11
def m_X3_mostAlike_l29 (kinds : Int32) (day : Int32) (followed : Bool) (temper : Int32) (z3 : Int32) (k4 : Nat) (v4 : Nat) : Nat := (wl_bnd (m_X3_bitOf kinds k4) (fun z6 => (if z6 = (nI 1) then (wl_bnd (m_X3_actOf (nI k4) day followed temper) (fun z8 => (if z8 = z3 then (v4 + 1) else v4))) else v4)))
def m_X3_mostAlike_l6 (kinds : Int32) (day : Int32) (followed : Bool) (temper : Int32) (k1 : Nat) (v1 : Int32) : Int32 := (wl_bnd (m_X3_actOf (nI k1) day followed temper) (fun z3 => (wl_bnd (wl_iter (m_X3_mostAlike_l29 kinds day followed temper z3) 6 0 0) (fun z4 => (if v1 < (nI z4) then (nI z4) else v1)))))
def m_X3_mostAlike (kinds : Int32) (day : Int32) (followed : Bool) (temper : Int32) : Int32 := (wl_bnd (wl_iter (m_X3_mostAlike_l6 kinds day followed temper) 6 0 (nI 0)) (fun z1 => z1))
set_option maxHeartbeats 4000000 in
set_option maxRecDepth 100000 in
theorem c_X3_mostAlike {l : Launch} {D : va_G} {E : Nat → ClassId}  {kinds : Int32} {day : Int32} {followed : Bool} {temper : Int32} : wl_Met (τ := Int32) l D E yX3_mostAlike cX3_mostAlike 9 (some .int) ({ frames := 2, cells := 0, slots := 0, locals := 50 } : Room) [.int kinds, .int day, .int (wl_b followed), .int temper] [] (fun z => some (.int z)) (fun _ => []) (m_X3_mostAlike kinds day followed temper) := by
  refine wl_enter (own := RX3) (by decide +kernel) rfl (Nat.le_of_ble_eq_true rfl) ?_
  intro p0 e0 s0 m0 bl0 mt0 c0 A hC hr hlk hA H locs hP hD hS ls hl
  have hx := hC.1
  have hb := hC.2.1
  have hl : lv_has ls 9 [(0, .int kinds), (1, .int day), (2, .int (wl_b followed)), (3, .int temper)] := hl
  have hm := m_X3_mostAlike.eq_1 kinds day followed temper
  refine lv_iconst (v := (nI 0)) hx hb dX3_mostAlike_0 (by decide +kernel) ?_
  refine lv_istore (lv' := [(4, .int (nI 0)), (0, .int kinds), (1, .int day), (2, .int (wl_b followed)), (3, .int temper)]) hx hb dX3_mostAlike_1 hl (by decide) rfl (fun ls hl => ?_)
  refine lv_iconst (v := (nI 0)) hx hb dX3_mostAlike_3 (by decide +kernel) ?_
  refine lv_istore (lv' := [(5, .int (nI 0)), (4, .int (nI 0)), (0, .int kinds), (1, .int day), (2, .int (wl_b followed)), (3, .int temper)]) hx hb dX3_mostAlike_4 hl (by decide) rfl (fun ls hl => ?_)
  obtain ⟨u1, hu1, hk1⟩ := wl_bx hm
  refine wl_for (D := D) (A := A) (H0 := s0.heap) (m_X3_mostAlike_l6 kinds day followed temper) 6 0 6 (nI 0) 6 9 (fun k1 v1 => [(0, .int kinds), (1, .int day), (2, .int (wl_b followed)), (3, .int temper), (4, .int v1), (5, .int (nI k1))]) (fun k1 v1 => []) (fun k1 v1 => True) (by omega) trivial ?_ ?_ hP hD hS (lv_sub hl [2, 3, 4, 5, 1, 0] rfl)
  · intro z1 hv1 hI1 ls H locs hP hD hS hl
    have hm := hk1 z1 (hu1.trans hv1)
    refine lv_iload hx hb dX3_mostAlike_6 (lv_at hl 5 rfl) ?_
    refine lv_bipush (v := (nI 6)) hx hb dX3_mostAlike_8 (by decide +kernel) ?_
    refine wl_icmp_ge_n hx hb (by first | omega | exact Nat.lt_of_le_of_lt Nat.and_le_right (by omega) | exact Nat.pow_lt_pow_right (by omega) (by omega)) (by first | omega | exact Nat.lt_of_le_of_lt Nat.and_le_right (by omega) | exact Nat.pow_lt_pow_right (by omega) (by omega)) (tgt := 83) dX3_mostAlike_10 (by decide) (fun c11 => ?_) (fun c11 => absurd (by omega) c11)
    refine lv_iload hx hb dX3_mostAlike_83 (lv_at hl 4 rfl) ?_
    exact wl_iret hC hr hlk hm rfl hP hD hS dX3_mostAlike_85
  · intro k1 v1 hlo1 hhi1 hI1 IH1 ls H locs hP hD hS hl
    have hb1 := m_X3_mostAlike_l6.eq_1 kinds day followed temper k1 v1
    refine lv_iload hx hb dX3_mostAlike_6 (lv_at hl 5 rfl) ?_
    refine lv_bipush (v := (nI 6)) hx hb dX3_mostAlike_8 (by decide +kernel) ?_
    refine wl_icmp_ge_n hx hb (by first | omega | exact Nat.lt_of_le_of_lt Nat.and_le_right (by omega) | exact Nat.pow_lt_pow_right (by omega) (by omega)) (by first | omega | exact Nat.lt_of_le_of_lt Nat.and_le_right (by omega) | exact Nat.pow_lt_pow_right (by omega) (by omega)) (tgt := 83) dX3_mostAlike_10 (by decide) (fun c2 => absurd c2 (by omega)) (fun c2 => ?_)
    refine lv_iload hx hb dX3_mostAlike_13 (lv_at hl 5 rfl) ?_
    refine lv_iload_n hx hb dX3_mostAlike_15 rfl (lv_at hl 1 rfl) ?_
    refine lv_iload_n hx hb dX3_mostAlike_16 rfl (lv_at hl 2 rfl) ?_
    refine lv_iload_n hx hb dX3_mostAlike_17 rfl (lv_at hl 3 rfl) ?_
    refine wl_callPi hC (c_X3_actOf (kind := (nI k1)) (day := day) (followed := followed) (temper := temper) ) lk_RX3_241 rfl ⟨rfl, rfl, Nat.le_of_ble_eq_true rfl, Nat.le_of_ble_eq_true rfl⟩ hP hS hA hl.1 rfl (Nat.le_of_ble_eq_true rfl) dX3_mostAlike_18 ⟨Nat.zero_le _, Nat.zero_le _⟩ (fun z3 hz3 H locs hP hS => ?_)
    have hb1 := wl_bz hb1 hz3
    refine lv_istore (lv' := [(6, .int z3), (0, .int kinds), (1, .int day), (2, .int (wl_b followed)), (3, .int temper), (4, .int v1), (5, .int (nI k1))]) hx hb dX3_mostAlike_21 hl (by decide) rfl (fun ls hl => ?_)
    refine lv_iconst (v := (nI 0)) hx hb dX3_mostAlike_23 (by decide +kernel) ?_
    refine lv_istore (lv' := [(7, .int (nI 0)), (6, .int z3), (0, .int kinds), (1, .int day), (2, .int (wl_b followed)), (3, .int temper), (4, .int v1), (5, .int (nI k1))]) hx hb dX3_mostAlike_24 hl (by decide) rfl (fun ls hl => ?_)
    refine lv_iconst (v := (nI 0)) hx hb dX3_mostAlike_26 (by decide +kernel) ?_
    refine lv_istore (lv' := [(8, .int (nI 0)), (7, .int (nI 0)), (6, .int z3), (0, .int kinds), (1, .int day), (2, .int (wl_b followed)), (3, .int temper), (4, .int v1), (5, .int (nI k1))]) hx hb dX3_mostAlike_27 hl (by decide) rfl (fun ls hl => ?_)
    obtain ⟨u4, hu4, hk4⟩ := wl_bx hb1
    refine wl_for (D := D) (A := A) (H0 := s0.heap) (m_X3_mostAlike_l29 kinds day followed temper z3) 6 0 6 0 29 9 (fun k4 v4 => [(0, .int kinds), (1, .int day), (2, .int (wl_b followed)), (3, .int temper), (4, .int v1), (5, .int (nI k1)), (6, .int z3), (7, .int (nI v4)), (8, .int (nI k4))]) (fun k4 v4 => []) (fun k4 v4 => True) (by omega) trivial ?_ ?_ hP hD hS (lv_sub hl [3, 4, 5, 6, 7, 8, 2, 1, 0] rfl)
    · intro z4 hv4 hI4 ls H locs hP hD hS hl
      have hb1 := hk4 z4 (hu4.trans hv4)
      refine lv_iload hx hb dX3_mostAlike_29 (lv_at hl 8 rfl) ?_
      refine lv_bipush (v := (nI 6)) hx hb dX3_mostAlike_31 (by decide +kernel) ?_
      refine wl_icmp_ge_n hx hb (by first | omega | exact Nat.lt_of_le_of_lt Nat.and_le_right (by omega) | exact Nat.pow_lt_pow_right (by omega) (by omega)) (by first | omega | exact Nat.lt_of_le_of_lt Nat.and_le_right (by omega) | exact Nat.pow_lt_pow_right (by omega) (by omega)) (tgt := 68) dX3_mostAlike_33 (by decide) (fun c10 => ?_) (fun c10 => absurd (by omega) c10)
      refine lv_iload hx hb dX3_mostAlike_68 (lv_at hl 4 rfl) ?_
      refine lv_iload hx hb dX3_mostAlike_70 (lv_at hl 7 rfl) ?_
      refine wl_max hC mw_145 hl.1 (Nat.le_of_ble_eq_true rfl) (Nat.le_of_ble_eq_true rfl) ⟨Nat.zero_le _, Nat.zero_le _⟩ dX3_mostAlike_72 ?_
      refine lv_istore (lv' := [(4, .int (if v1 < (nI z4) then (nI z4) else v1)), (0, .int kinds), (1, .int day), (2, .int (wl_b followed)), (3, .int temper), (5, .int (nI k1)), (6, .int z3), (7, .int (nI z4)), (8, .int (nI 6))]) hx hb dX3_mostAlike_75 hl (by decide) rfl (fun ls hl => ?_)
      refine lv_iinc (v := (nI (k1 + 1))) (lv' := [(5, .int (nI (k1 + 1))), (4, .int (if v1 < (nI z4) then (nI z4) else v1)), (0, .int kinds), (1, .int day), (2, .int (wl_b followed)), (3, .int temper), (6, .int z3), (7, .int (nI z4)), (8, .int (nI 6))]) hx hb dX3_mostAlike_77 hl (k := 5) rfl (wl_inc k1 1) (by decide) rfl (fun ls hl => ?_)
      refine lv_goto (tgt := 6) hx hb dX3_mostAlike_80 (by decide) ?_
      exact IH1 _ hb1 trivial ls H locs hP hD hS (lv_sub hl [2, 3, 4, 5, 1, 0] rfl)
    · intro k4 v4 hlo4 hhi4 hI4 IH4 ls H locs hP hD hS hl
      have hb4 := m_X3_mostAlike_l29.eq_1 kinds day followed temper z3 k4 v4
      refine lv_iload hx hb dX3_mostAlike_29 (lv_at hl 8 rfl) ?_
      refine lv_bipush (v := (nI 6)) hx hb dX3_mostAlike_31 (by decide +kernel) ?_
      refine wl_icmp_ge_n hx hb (by first | omega | exact Nat.lt_of_le_of_lt Nat.and_le_right (by omega) | exact Nat.pow_lt_pow_right (by omega) (by omega)) (by first | omega | exact Nat.lt_of_le_of_lt Nat.and_le_right (by omega) | exact Nat.pow_lt_pow_right (by omega) (by omega)) (tgt := 68) dX3_mostAlike_33 (by decide) (fun c5 => absurd c5 (by omega)) (fun c5 => ?_)
      refine lv_iload_n hx hb dX3_mostAlike_36 rfl (lv_at hl 0 rfl) ?_
      refine lv_iload hx hb dX3_mostAlike_37 (lv_at hl 8 rfl) ?_
      refine wl_callPi hC (c_X3_bitOf (bits := kinds) (i := k4) ) lk_RX3_93 rfl ⟨rfl, rfl, Nat.le_of_ble_eq_true rfl, Nat.le_of_ble_eq_true rfl⟩ hP hS hA hl.1 rfl (Nat.le_of_ble_eq_true rfl) dX3_mostAlike_39 ⟨Nat.zero_le _, Nat.zero_le _⟩ (fun z6 hz6 H locs hP hS => ?_)
      have hb4 := wl_bz hb4 hz6
      refine lv_iconst (v := (nI 1)) hx hb dX3_mostAlike_42 (by decide +kernel) ?_
      refine lv_icmp_ne hx hb (tgt := 62) dX3_mostAlike_43 (by decide) (fun c7 => ?_) (fun c7 => ?_)
      · have hb4 := hb4.trans (if_neg c7)
        refine lv_iinc (v := (nI (k4 + 1))) (lv' := [(8, .int (nI (k4 + 1))), (0, .int kinds), (1, .int day), (2, .int (wl_b followed)), (3, .int temper), (4, .int v1), (5, .int (nI k1)), (6, .int z3), (7, .int (nI v4))]) hx hb dX3_mostAlike_62 hl (k := 8) rfl (wl_inc k4 1) (by decide) rfl (fun ls hl => ?_)
        refine lv_goto (tgt := 29) hx hb dX3_mostAlike_65 (by decide) ?_
        exact IH4 _ hb4 trivial ls H locs hP hD hS (lv_sub hl [1, 2, 3, 4, 5, 6, 7, 8, 0] rfl)
      · have hb4 := hb4.trans (if_pos c7)
        refine lv_iload hx hb dX3_mostAlike_46 (lv_at hl 8 rfl) ?_
        refine lv_iload_n hx hb dX3_mostAlike_48 rfl (lv_at hl 1 rfl) ?_
        refine lv_iload_n hx hb dX3_mostAlike_49 rfl (lv_at hl 2 rfl) ?_
        refine lv_iload_n hx hb dX3_mostAlike_50 rfl (lv_at hl 3 rfl) ?_
        refine wl_callPi hC (c_X3_actOf (kind := (nI k4)) (day := day) (followed := followed) (temper := temper) ) lk_RX3_241 rfl ⟨rfl, rfl, Nat.le_of_ble_eq_true rfl, Nat.le_of_ble_eq_true rfl⟩ hP hS hA hl.1 rfl (Nat.le_of_ble_eq_true rfl) dX3_mostAlike_51 ⟨Nat.zero_le _, Nat.zero_le _⟩ (fun z8 hz8 H locs hP hS => ?_)
        have hb4 := wl_bz hb4 hz8
        refine lv_iload hx hb dX3_mostAlike_54 (lv_at hl 6 rfl) ?_
        refine lv_icmp_ne hx hb (tgt := 62) dX3_mostAlike_56 (by decide) (fun c9 => ?_) (fun c9 => ?_)
        · have hb4 := hb4.trans (if_neg c9)
          refine lv_iinc (v := (nI (k4 + 1))) (lv' := [(8, .int (nI (k4 + 1))), (0, .int kinds), (1, .int day), (2, .int (wl_b followed)), (3, .int temper), (4, .int v1), (5, .int (nI k1)), (6, .int z3), (7, .int (nI v4))]) hx hb dX3_mostAlike_62 hl (k := 8) rfl (wl_inc k4 1) (by decide) rfl (fun ls hl => ?_)
          refine lv_goto (tgt := 29) hx hb dX3_mostAlike_65 (by decide) ?_
          exact IH4 _ hb4 trivial ls H locs hP hD hS (lv_sub hl [1, 2, 3, 4, 5, 6, 7, 8, 0] rfl)
        · have hb4 := hb4.trans (if_pos c9)
          refine lv_iinc (v := (nI (v4 + 1))) (lv' := [(7, .int (nI (v4 + 1))), (0, .int kinds), (1, .int day), (2, .int (wl_b followed)), (3, .int temper), (4, .int v1), (5, .int (nI k1)), (6, .int z3), (8, .int (nI k4))]) hx hb dX3_mostAlike_59 hl (k := 7) rfl (wl_inc v4 1) (by decide) rfl (fun ls hl => ?_)
          refine lv_iinc (v := (nI (k4 + 1))) (lv' := [(8, .int (nI (k4 + 1))), (7, .int (nI (v4 + 1))), (0, .int kinds), (1, .int day), (2, .int (wl_b followed)), (3, .int temper), (4, .int v1), (5, .int (nI k1)), (6, .int z3)]) hx hb dX3_mostAlike_62 hl (k := 8) rfl (wl_inc k4 1) (by decide) rfl (fun ls hl => ?_)
          refine lv_goto (tgt := 29) hx hb dX3_mostAlike_65 (by decide) ?_
          exact IH4 _ hb4 trivial ls H locs hP hD hS (lv_sub hl [2, 3, 4, 5, 6, 7, 8, 1, 0] rfl)
def m_X0_sortOf (c : Int32) : Int32 := (if c < (nI 97) then (if c < (nI 48) then (if c = (nI 59) then (nI 3) else (nI 4)) else (if (nI 57) < c then (if c = (nI 59) then (nI 3) else (nI 4)) else (nI 2))) else (if (nI 122) < c then (if c < (nI 48) then (if c = (nI 59) then (nI 3) else (nI 4)) else (if (nI 57) < c then (if c = (nI 59) then (nI 3) else (nI 4)) else (nI 2))) else (nI 1)))
set_option maxHeartbeats 4000000 in
set_option maxRecDepth 100000 in
theorem c_X0_sortOf {l : Launch} {D : va_G} {E : Nat → ClassId}  {c : Int32} : wl_Met (τ := Int32) l D E yX0_sortOf cX0_sortOf 1 (some .int) ({ frames := 0, cells := 0, slots := 0, locals := 0 } : Room) [.int c] [] (fun z => some (.int z)) (fun _ => []) (m_X0_sortOf c) := by
  refine wl_enter (own := RX0) (by decide +kernel) rfl (Nat.le_of_ble_eq_true rfl) ?_
  intro p0 e0 s0 m0 bl0 mt0 c0 A hC hr hlk hA H locs hP hD hS ls hl
  have hx := hC.1
  have hb := hC.2.1
  have hl : lv_has ls 1 [(0, .int c)] := hl
  have hm := m_X0_sortOf.eq_1 c
  refine lv_iload_n hx hb dX0_sortOf_0 rfl (lv_at hl 0 rfl) ?_
  refine lv_bipush (v := (nI 97)) hx hb dX0_sortOf_1 (by decide +kernel) ?_
  refine lv_icmp_lt hx hb (tgt := 14) dX0_sortOf_3 (by decide) (fun c1 => ?_) (fun c1 => ?_)
  · have hm := hm.trans (if_pos c1)
    refine lv_iload_n hx hb dX0_sortOf_14 rfl (lv_at hl 0 rfl) ?_
    refine lv_bipush (v := (nI 48)) hx hb dX0_sortOf_15 (by decide +kernel) ?_
    refine lv_icmp_lt hx hb (tgt := 28) dX0_sortOf_17 (by decide) (fun c2 => ?_) (fun c2 => ?_)
    · have hm := hm.trans (if_pos c2)
      refine lv_iload_n hx hb dX0_sortOf_28 rfl (lv_at hl 0 rfl) ?_
      refine lv_bipush (v := (nI 59)) hx hb dX0_sortOf_29 (by decide +kernel) ?_
      refine lv_icmp_ne hx hb (tgt := 38) dX0_sortOf_31 (by decide) (fun c3 => ?_) (fun c3 => ?_)
      · have hm := hm.trans (if_neg c3)
        refine lv_iconst (v := (nI 4)) hx hb dX0_sortOf_38 (by decide +kernel) ?_
        exact wl_iret hC hr hlk hm rfl hP hD hS dX0_sortOf_39
      · have hm := hm.trans (if_pos c3)
        refine lv_iconst (v := (nI 3)) hx hb dX0_sortOf_34 (by decide +kernel) ?_
        refine lv_goto (tgt := 39) hx hb dX0_sortOf_35 (by decide) ?_
        exact wl_iret hC hr hlk hm rfl hP hD hS dX0_sortOf_39
    · have hm := hm.trans (if_neg c2)
      refine lv_iload_n hx hb dX0_sortOf_20 rfl (lv_at hl 0 rfl) ?_
      refine lv_bipush (v := (nI 57)) hx hb dX0_sortOf_21 (by decide +kernel) ?_
      refine lv_icmp_gt hx hb (tgt := 28) dX0_sortOf_23 (by decide) (fun c4 => ?_) (fun c4 => ?_)
      · have hm := hm.trans (if_pos c4)
        refine lv_iload_n hx hb dX0_sortOf_28 rfl (lv_at hl 0 rfl) ?_
        refine lv_bipush (v := (nI 59)) hx hb dX0_sortOf_29 (by decide +kernel) ?_
        refine lv_icmp_ne hx hb (tgt := 38) dX0_sortOf_31 (by decide) (fun c5 => ?_) (fun c5 => ?_)
        · have hm := hm.trans (if_neg c5)
          refine lv_iconst (v := (nI 4)) hx hb dX0_sortOf_38 (by decide +kernel) ?_
          exact wl_iret hC hr hlk hm rfl hP hD hS dX0_sortOf_39
        · have hm := hm.trans (if_pos c5)
          refine lv_iconst (v := (nI 3)) hx hb dX0_sortOf_34 (by decide +kernel) ?_
          refine lv_goto (tgt := 39) hx hb dX0_sortOf_35 (by decide) ?_
          exact wl_iret hC hr hlk hm rfl hP hD hS dX0_sortOf_39
      · have hm := hm.trans (if_neg c4)
        refine lv_iconst (v := (nI 2)) hx hb dX0_sortOf_26 (by decide +kernel) ?_
        exact wl_iret hC hr hlk hm rfl hP hD hS dX0_sortOf_27
  · have hm := hm.trans (if_neg c1)
    refine lv_iload_n hx hb dX0_sortOf_6 rfl (lv_at hl 0 rfl) ?_
    refine lv_bipush (v := (nI 122)) hx hb dX0_sortOf_7 (by decide +kernel) ?_
    refine lv_icmp_gt hx hb (tgt := 14) dX0_sortOf_9 (by decide) (fun c6 => ?_) (fun c6 => ?_)
    · have hm := hm.trans (if_pos c6)
      refine lv_iload_n hx hb dX0_sortOf_14 rfl (lv_at hl 0 rfl) ?_
      refine lv_bipush (v := (nI 48)) hx hb dX0_sortOf_15 (by decide +kernel) ?_
      refine lv_icmp_lt hx hb (tgt := 28) dX0_sortOf_17 (by decide) (fun c7 => ?_) (fun c7 => ?_)
      · have hm := hm.trans (if_pos c7)
        refine lv_iload_n hx hb dX0_sortOf_28 rfl (lv_at hl 0 rfl) ?_
        refine lv_bipush (v := (nI 59)) hx hb dX0_sortOf_29 (by decide +kernel) ?_
        refine lv_icmp_ne hx hb (tgt := 38) dX0_sortOf_31 (by decide) (fun c8 => ?_) (fun c8 => ?_)
        · have hm := hm.trans (if_neg c8)
          refine lv_iconst (v := (nI 4)) hx hb dX0_sortOf_38 (by decide +kernel) ?_
          exact wl_iret hC hr hlk hm rfl hP hD hS dX0_sortOf_39
        · have hm := hm.trans (if_pos c8)
          refine lv_iconst (v := (nI 3)) hx hb dX0_sortOf_34 (by decide +kernel) ?_
          refine lv_goto (tgt := 39) hx hb dX0_sortOf_35 (by decide) ?_
          exact wl_iret hC hr hlk hm rfl hP hD hS dX0_sortOf_39
      · have hm := hm.trans (if_neg c7)
        refine lv_iload_n hx hb dX0_sortOf_20 rfl (lv_at hl 0 rfl) ?_
        refine lv_bipush (v := (nI 57)) hx hb dX0_sortOf_21 (by decide +kernel) ?_
        refine lv_icmp_gt hx hb (tgt := 28) dX0_sortOf_23 (by decide) (fun c9 => ?_) (fun c9 => ?_)
        · have hm := hm.trans (if_pos c9)
          refine lv_iload_n hx hb dX0_sortOf_28 rfl (lv_at hl 0 rfl) ?_
          refine lv_bipush (v := (nI 59)) hx hb dX0_sortOf_29 (by decide +kernel) ?_
          refine lv_icmp_ne hx hb (tgt := 38) dX0_sortOf_31 (by decide) (fun c10 => ?_) (fun c10 => ?_)
          · have hm := hm.trans (if_neg c10)
            refine lv_iconst (v := (nI 4)) hx hb dX0_sortOf_38 (by decide +kernel) ?_
            exact wl_iret hC hr hlk hm rfl hP hD hS dX0_sortOf_39
          · have hm := hm.trans (if_pos c10)
            refine lv_iconst (v := (nI 3)) hx hb dX0_sortOf_34 (by decide +kernel) ?_
            refine lv_goto (tgt := 39) hx hb dX0_sortOf_35 (by decide) ?_
            exact wl_iret hC hr hlk hm rfl hP hD hS dX0_sortOf_39
        · have hm := hm.trans (if_neg c9)
          refine lv_iconst (v := (nI 2)) hx hb dX0_sortOf_26 (by decide +kernel) ?_
          exact wl_iret hC hr hlk hm rfl hP hD hS dX0_sortOf_27
    · have hm := hm.trans (if_neg c6)
      refine lv_iconst (v := (nI 1)) hx hb dX0_sortOf_12 (by decide +kernel) ?_
      exact wl_iret hC hr hlk hm rfl hP hD hS dX0_sortOf_13
def m_X4_in (v : Int64) (low : Int64) (high : Int64) : Bool := (if v < low then false else (if high < v then false else true))
set_option maxHeartbeats 4000000 in
set_option maxRecDepth 100000 in
theorem c_X4_in {l : Launch} {D : va_G} {E : Nat → ClassId}  {v : Int64} {low : Int64} {high : Int64} : wl_Met (τ := Bool) l D E yX4_in cX4_in 6 (some .boolean) ({ frames := 0, cells := 0, slots := 0, locals := 0 } : Room) [.long v, .long low, .long high] [] (fun z => some (.int (wl_b z))) (fun _ => []) (m_X4_in v low high) := by
  refine wl_enter (own := RX4) (by decide +kernel) rfl (Nat.le_of_ble_eq_true rfl) ?_
  intro p0 e0 s0 m0 bl0 mt0 c0 A hC hr hlk hA H locs hP hD hS ls hl
  have hx := hC.1
  have hb := hC.2.1
  have hl : lv_has ls 6 [(0, .long v), (2, .long low), (4, .long high)] := hl
  have hm := m_X4_in.eq_1 v low high
  refine lv_lload_n hx hb dX4_in_0 rfl (lv_at hl 0 rfl) ?_
  refine lv_lload_n hx hb dX4_in_1 rfl (lv_at hl 1 rfl) ?_
  refine W.lcmp hx hb dX4_in_2 ?_
  refine wl_c_lt hx hb (tgt := 17) dX4_in_3 (by decide) (fun c1 => ?_) (fun c1 => ?_)
  · have hm := hm.trans (if_pos c1)
    refine lv_iconst (v := (nI 0)) hx hb dX4_in_17 (by decide +kernel) ?_
    exact wl_zret (v := false) hC hr hlk hm rfl hP hD hS dX4_in_18
  · have hm := hm.trans (if_neg c1)
    refine lv_lload_n hx hb dX4_in_6 rfl (lv_at hl 0 rfl) ?_
    refine lv_lload hx hb dX4_in_7 (lv_at hl 2 rfl) ?_
    refine W.lcmp hx hb dX4_in_9 ?_
    refine wl_c_gt hx hb (tgt := 17) dX4_in_10 (by decide) (fun c2 => ?_) (fun c2 => ?_)
    · have hm := hm.trans (if_pos c2)
      refine lv_iconst (v := (nI 0)) hx hb dX4_in_17 (by decide +kernel) ?_
      exact wl_zret (v := false) hC hr hlk hm rfl hP hD hS dX4_in_18
    · have hm := hm.trans (if_neg c2)
      refine lv_iconst (v := (nI 1)) hx hb dX4_in_13 (by decide +kernel) ?_
      refine lv_goto (tgt := 18) hx hb dX4_in_14 (by decide) ?_
      exact wl_zret (v := true) hC hr hlk hm rfl hP hD hS dX4_in_18
def m_X4_has (set : Int32) (k : Nat) : Bool := (if ((set >>> ((nI k) &&& 31)) &&& (nI 1)) = (nI 1) then true else false)
set_option maxHeartbeats 4000000 in
set_option maxRecDepth 100000 in
theorem c_X4_has {l : Launch} {D : va_G} {E : Nat → ClassId}  {set : Int32} {k : Nat} : wl_Met (τ := Bool) l D E yX4_has cX4_has 2 (some .boolean) ({ frames := 0, cells := 0, slots := 0, locals := 0 } : Room) [.int set, .int (nI k)] [] (fun z => some (.int (wl_b z))) (fun _ => []) (m_X4_has set k) := by
  refine wl_enter (own := RX4) (by decide +kernel) rfl (Nat.le_of_ble_eq_true rfl) ?_
  intro p0 e0 s0 m0 bl0 mt0 c0 A hC hr hlk hA H locs hP hD hS ls hl
  have hx := hC.1
  have hb := hC.2.1
  have hl : lv_has ls 2 [(0, .int set), (1, .int (nI k))] := hl
  have hm := m_X4_has.eq_1 set k
  refine lv_iload_n hx hb dX4_has_0 rfl (lv_at hl 0 rfl) ?_
  refine lv_iload_n hx hb dX4_has_1 rfl (lv_at hl 1 rfl) ?_
  refine lv_ishr hx hb dX4_has_2 ?_
  refine lv_iconst (v := (nI 1)) hx hb dX4_has_3 (by decide +kernel) ?_
  refine lv_iand hx hb dX4_has_4 ?_
  refine lv_iconst (v := (nI 1)) hx hb dX4_has_5 (by decide +kernel) ?_
  refine lv_icmp_ne hx hb (tgt := 13) dX4_has_6 (by decide) (fun c1 => ?_) (fun c1 => ?_)
  · have hm := hm.trans (if_neg c1)
    refine lv_iconst (v := (nI 0)) hx hb dX4_has_13 (by decide +kernel) ?_
    exact wl_zret (v := false) hC hr hlk hm rfl hP hD hS dX4_has_14
  · have hm := hm.trans (if_pos c1)
    refine lv_iconst (v := (nI 1)) hx hb dX4_has_9 (by decide +kernel) ?_
    refine lv_goto (tgt := 14) hx hb dX4_has_10 (by decide) ?_
    exact wl_zret (v := true) hC hr hlk hm rfl hP hD hS dX4_has_14
def m_X4_actAs (kind : Int32) (t : Int32) (day : Int32) (followed : Bool) : Int32 := (wl_bnd ((if (t / (nI 6)) ≤ (nI 5) then (t / (nI 6)) else (nI 5)) : Int32) (fun z1 => (wl_bnd ((if z1 ≤ (nI 2) then (nI 0) else (z1 - (nI 2))) : Int32) (fun z3 => (wl_bnd ((if followed = true then (if (nI 5) ≤ z1 then z1 else (z1 + (nI 1))) else z1) : Int32) (fun z5 => (if kind = nI 1 then z3 else (if kind = nI 2 then (if followed = true then (nI 0) else z1) else (if kind = nI 3 then z5 else (if kind = nI 4 then (if (day - day / (nI 3) * (nI 3)) = 0 then (if z3 = 0 then (nI 1) else z3) else z3) else (if kind = nI 5 then (if (day - day / (nI 2) * (nI 2)) = 0 then (nI 0) else z5) else z1)))))))))))
set_option maxHeartbeats 4000000 in
set_option maxRecDepth 100000 in
theorem c_X4_actAs {l : Launch} {D : va_G} {E : Nat → ClassId}  {kind : Int32} {t : Int32} {day : Int32} {followed : Bool} : wl_Met (τ := Int32) l D E yX4_actAs cX4_actAs 7 (some .int) ({ frames := 0, cells := 0, slots := 0, locals := 0 } : Room) [.int kind, .int t, .int day, .int (wl_b followed)] [] (fun z => some (.int z)) (fun _ => []) (m_X4_actAs kind t day followed) := by
  refine wl_enter (own := RX4) (by decide +kernel) rfl (Nat.le_of_ble_eq_true rfl) ?_
  intro p0 e0 s0 m0 bl0 mt0 c0 A hC hr hlk hA H locs hP hD hS ls hl
  have hx := hC.1
  have hb := hC.2.1
  have hl : lv_has ls 7 [(0, .int kind), (1, .int t), (2, .int day), (3, .int (wl_b followed))] := hl
  have hm := m_X4_actAs.eq_1 kind t day followed
  refine lv_iload_n hx hb dX4_actAs_0 rfl (lv_at hl 1 rfl) ?_
  refine lv_bipush (v := (nI 6)) hx hb dX4_actAs_1 (by decide +kernel) ?_
  refine lv_idiv hx hb dX4_actAs_3 (nI_ne0 (by omega) (by omega)) ?_
  refine lv_iconst (v := (nI 5)) hx hb dX4_actAs_4 (by decide +kernel) ?_
  obtain ⟨u1, hj1, hk1⟩ := wl_bx hm
  refine wl_J u1 16 (fun z1 => [.int z1]) 7 (fun z1 => [(0, .int kind), (2, .int day), (3, .int (wl_b followed))]) D A s0.heap (fun z1 => []) (fun z1 hz1 ls H locs hP hD hS hl => ?_) (fun J1 => ?_)
  · have hm := hk1 z1 hz1
    refine lv_istore (lv' := [(4, .int z1), (0, .int kind), (2, .int day), (3, .int (wl_b followed))]) hx hb dX4_actAs_16 hl (by decide) rfl (fun ls hl => ?_)
    refine lv_iload hx hb dX4_actAs_18 (lv_at hl 0 rfl) ?_
    refine lv_iconst (v := (nI 2)) hx hb dX4_actAs_20 (by decide +kernel) ?_
    obtain ⟨u3, hj3, hk3⟩ := wl_bx hm
    refine wl_J u3 32 (fun z3 => [.int z3]) 7 (fun z3 => [(4, .int z1), (0, .int kind), (2, .int day), (3, .int (wl_b followed))]) D A s0.heap (fun z3 => []) (fun z3 hz3 ls H locs hP hD hS hl => ?_) (fun J3 => ?_)
    · have hm := hk3 z3 hz3
      refine lv_istore (lv' := [(5, .int z3), (4, .int z1), (0, .int kind), (2, .int day), (3, .int (wl_b followed))]) hx hb dX4_actAs_32 hl (by decide) rfl (fun ls hl => ?_)
      refine lv_iload_n hx hb dX4_actAs_34 rfl (lv_at hl 4 rfl) ?_
      obtain ⟨u5, hj5, hk5⟩ := wl_bx hm
      refine wl_J u5 53 (fun z5 => [.int z5]) 7 (fun z5 => [(5, .int z3), (4, .int z1), (0, .int kind), (2, .int day), (3, .int (wl_b followed))]) D A s0.heap (fun z5 => []) (fun z5 hz5 ls H locs hP hD hS hl => ?_) (fun J5 => ?_)
      · have hm := hk5 z5 hz5
        refine lv_istore (lv' := [(6, .int z5), (5, .int z3), (4, .int z1), (0, .int kind), (2, .int day), (3, .int (wl_b followed))]) hx hb dX4_actAs_53 hl (by decide) rfl (fun ls hl => ?_)
        refine lv_iload_n hx hb dX4_actAs_55 rfl (lv_at hl 3 rfl) ?_
        refine (Decidable.em (kind = nI 1)).elim (fun c8_1 => ?_) (fun c8_1 => ?_)
        · have hm := hm.trans (if_pos c8_1)
          refine lv_tableIn (off := 36) (tgt := 92) hx hb dX4_actAs_56 (by rw [c8_1]; decide +kernel) (by rw [c8_1]; decide +kernel) (by rw [c8_1]; decide +kernel) (by decide) ?_
          refine lv_iload hx hb dX4_actAs_92 (lv_at hl 1 rfl) ?_
          exact wl_iret hC hr hlk hm rfl hP hD hS dX4_actAs_94
        · have hm := hm.trans (if_neg c8_1)
          refine (Decidable.em (kind = nI 2)).elim (fun c8_2 => ?_) (fun c8_2 => ?_)
          · have hm := hm.trans (if_pos c8_2)
            refine lv_tableIn (off := 39) (tgt := 95) hx hb dX4_actAs_56 (by rw [c8_2]; decide +kernel) (by rw [c8_2]; decide +kernel) (by rw [c8_2]; decide +kernel) (by decide) ?_
            refine lv_iload_n hx hb dX4_actAs_95 rfl (lv_at hl 5 rfl) ?_
            refine wl_if_eq_b hx hb (tgt := 103) dX4_actAs_96 (by decide) (fun c9 => ?_) (fun c9 => ?_)
            · have hm := hm.trans (if_neg c9)
              refine lv_iload hx hb dX4_actAs_103 (lv_at hl 2 rfl) ?_
              exact wl_iret hC hr hlk hm rfl hP hD hS dX4_actAs_105
            · have hm := hm.trans (if_pos c9)
              refine lv_iconst (v := (nI 0)) hx hb dX4_actAs_99 (by decide +kernel) ?_
              refine lv_goto (tgt := 105) hx hb dX4_actAs_100 (by decide) ?_
              exact wl_iret hC hr hlk hm rfl hP hD hS dX4_actAs_105
          · have hm := hm.trans (if_neg c8_2)
            refine (Decidable.em (kind = nI 3)).elim (fun c8_3 => ?_) (fun c8_3 => ?_)
            · have hm := hm.trans (if_pos c8_3)
              refine lv_tableIn (off := 50) (tgt := 106) hx hb dX4_actAs_56 (by rw [c8_3]; decide +kernel) (by rw [c8_3]; decide +kernel) (by rw [c8_3]; decide +kernel) (by decide) ?_
              refine lv_iload hx hb dX4_actAs_106 (lv_at hl 0 rfl) ?_
              exact wl_iret hC hr hlk hm rfl hP hD hS dX4_actAs_108
            · have hm := hm.trans (if_neg c8_3)
              refine (Decidable.em (kind = nI 4)).elim (fun c8_4 => ?_) (fun c8_4 => ?_)
              · have hm := hm.trans (if_pos c8_4)
                refine lv_tableIn (off := 53) (tgt := 109) hx hb dX4_actAs_56 (by rw [c8_4]; decide +kernel) (by rw [c8_4]; decide +kernel) (by rw [c8_4]; decide +kernel) (by decide) ?_
                refine lv_iload_n hx hb dX4_actAs_109 rfl (lv_at hl 4 rfl) ?_
                refine lv_iconst (v := (nI 3)) hx hb dX4_actAs_110 (by decide +kernel) ?_
                refine lv_irem hx hb dX4_actAs_111 (nI_ne0 (by omega) (by omega)) ?_
                refine lv_if_ne hx hb (tgt := 124) dX4_actAs_112 (by decide) (fun c10 => ?_) (fun c10 => ?_)
                · have hm := hm.trans (if_neg c10)
                  refine lv_iload hx hb dX4_actAs_124 (lv_at hl 1 rfl) ?_
                  exact wl_iret hC hr hlk hm rfl hP hD hS dX4_actAs_126
                · have hm := hm.trans (if_pos c10)
                  refine lv_iload hx hb dX4_actAs_115 (lv_at hl 1 rfl) ?_
                  refine lv_if_ne hx hb (tgt := 124) dX4_actAs_117 (by decide) (fun c11 => ?_) (fun c11 => ?_)
                  · have hm := hm.trans (if_neg c11)
                    refine lv_iload hx hb dX4_actAs_124 (lv_at hl 1 rfl) ?_
                    exact wl_iret hC hr hlk hm rfl hP hD hS dX4_actAs_126
                  · have hm := hm.trans (if_pos c11)
                    refine lv_iconst (v := (nI 1)) hx hb dX4_actAs_120 (by decide +kernel) ?_
                    refine lv_goto (tgt := 126) hx hb dX4_actAs_121 (by decide) ?_
                    exact wl_iret hC hr hlk hm rfl hP hD hS dX4_actAs_126
              · have hm := hm.trans (if_neg c8_4)
                refine (Decidable.em (kind = nI 5)).elim (fun c8_5 => ?_) (fun c8_5 => ?_)
                · have hm := hm.trans (if_pos c8_5)
                  refine lv_tableIn (off := 71) (tgt := 127) hx hb dX4_actAs_56 (by rw [c8_5]; decide +kernel) (by rw [c8_5]; decide +kernel) (by rw [c8_5]; decide +kernel) (by decide) ?_
                  refine lv_iload_n hx hb dX4_actAs_127 rfl (lv_at hl 4 rfl) ?_
                  refine lv_iconst (v := (nI 2)) hx hb dX4_actAs_128 (by decide +kernel) ?_
                  refine lv_irem hx hb dX4_actAs_129 (nI_ne0 (by omega) (by omega)) ?_
                  refine lv_if_ne hx hb (tgt := 137) dX4_actAs_130 (by decide) (fun c12 => ?_) (fun c12 => ?_)
                  · have hm := hm.trans (if_neg c12)
                    refine lv_iload hx hb dX4_actAs_137 (lv_at hl 0 rfl) ?_
                    exact wl_iret hC hr hlk hm rfl hP hD hS dX4_actAs_139
                  · have hm := hm.trans (if_pos c12)
                    refine lv_iconst (v := (nI 0)) hx hb dX4_actAs_133 (by decide +kernel) ?_
                    refine lv_goto (tgt := 139) hx hb dX4_actAs_134 (by decide) ?_
                    exact wl_iret hC hr hlk hm rfl hP hD hS dX4_actAs_139
                · have hm := hm.trans (if_neg c8_5)
                  refine lv_tableOut (tgt := 140) hx hb dX4_actAs_56 (wl_tab1_5 c8_1 c8_2 c8_3 c8_4 c8_5) (by decide) ?_
                  refine lv_iload hx hb dX4_actAs_140 (lv_at hl 2 rfl) ?_
                  exact wl_iret hC hr hlk hm rfl hP hD hS dX4_actAs_142
      · refine wl_if_eq_b hx hb (tgt := 51) dX4_actAs_35 (by decide) (fun c6 => ?_) (fun c6 => ?_)
        · have hj5 := hj5.trans (if_neg c6)
          refine lv_iload hx hb dX4_actAs_51 (lv_at hl 1 rfl) ?_
          exact J5 _ hj5 ls H locs hP hD hS (lv_sub hl [0, 1, 2, 3, 4] rfl)
        · have hj5 := hj5.trans (if_pos c6)
          refine lv_iload hx hb dX4_actAs_38 (lv_at hl 1 rfl) ?_
          refine lv_iconst (v := (nI 5)) hx hb dX4_actAs_40 (by decide +kernel) ?_
          refine lv_icmp_ge hx hb (tgt := 51) dX4_actAs_41 (by decide) (fun c7 => ?_) (fun c7 => ?_)
          · have hj5 := hj5.trans (if_pos c7)
            refine lv_iload hx hb dX4_actAs_51 (lv_at hl 1 rfl) ?_
            exact J5 _ hj5 ls H locs hP hD hS (lv_sub hl [0, 1, 2, 3, 4] rfl)
          · have hj5 := hj5.trans (if_neg c7)
            refine lv_iload hx hb dX4_actAs_44 (lv_at hl 1 rfl) ?_
            refine lv_iconst (v := (nI 1)) hx hb dX4_actAs_46 (by decide +kernel) ?_
            refine lv_iadd hx hb dX4_actAs_47 ?_
            refine lv_goto (tgt := 53) hx hb dX4_actAs_48 (by decide) ?_
            exact J5 _ hj5 ls H locs hP hD hS (lv_sub hl [0, 1, 2, 3, 4] rfl)
    · refine lv_icmp_le hx hb (tgt := 31) dX4_actAs_21 (by decide) (fun c4 => ?_) (fun c4 => ?_)
      · have hj3 := hj3.trans (if_pos c4)
        refine lv_iconst (v := (nI 0)) hx hb dX4_actAs_31 (by decide +kernel) ?_
        exact J3 _ hj3 ls H locs hP hD hS (lv_sub hl [0, 1, 2, 3] rfl)
      · have hj3 := hj3.trans (if_neg c4)
        refine lv_iload hx hb dX4_actAs_24 (lv_at hl 0 rfl) ?_
        refine lv_iconst (v := (nI 2)) hx hb dX4_actAs_26 (by decide +kernel) ?_
        refine lv_isub hx hb dX4_actAs_27 ?_
        refine lv_goto (tgt := 32) hx hb dX4_actAs_28 (by decide) ?_
        exact J3 _ hj3 ls H locs hP hD hS (lv_sub hl [0, 1, 2, 3] rfl)
  · refine lv_icmp_le hx hb (tgt := 12) dX4_actAs_5 (by decide) (fun c2 => ?_) (fun c2 => ?_)
    · have hj1 := hj1.trans (if_pos c2)
      refine lv_iload_n hx hb dX4_actAs_12 rfl (lv_at hl 1 rfl) ?_
      refine lv_bipush (v := (nI 6)) hx hb dX4_actAs_13 (by decide +kernel) ?_
      refine lv_idiv hx hb dX4_actAs_15 (nI_ne0 (by omega) (by omega)) ?_
      exact J1 _ hj1 ls H locs hP hD hS (lv_sub hl [0, 2, 3] rfl)
    · have hj1 := hj1.trans (if_neg c2)
      refine lv_iconst (v := (nI 5)) hx hb dX4_actAs_8 (by decide +kernel) ?_
      refine lv_goto (tgt := 16) hx hb dX4_actAs_9 (by decide) ?_
      exact J1 _ hj1 ls H locs hP hD hS (lv_sub hl [0, 2, 3] rfl)
def m_X4_moreAs (kind : Int32) : Int32 := (if kind = 0 then (nI 2) else (if kind = (nI 1) then (nI 0) else (if kind = (nI 2) then (nI 1) else (if kind = (nI 4) then (nI 1) else (nI 4)))))
set_option maxHeartbeats 4000000 in
set_option maxRecDepth 100000 in
theorem c_X4_moreAs {l : Launch} {D : va_G} {E : Nat → ClassId}  {kind : Int32} : wl_Met (τ := Int32) l D E yX4_moreAs cX4_moreAs 1 (some .int) ({ frames := 0, cells := 0, slots := 0, locals := 0 } : Room) [.int kind] [] (fun z => some (.int z)) (fun _ => []) (m_X4_moreAs kind) := by
  refine wl_enter (own := RX4) (by decide +kernel) rfl (Nat.le_of_ble_eq_true rfl) ?_
  intro p0 e0 s0 m0 bl0 mt0 c0 A hC hr hlk hA H locs hP hD hS ls hl
  have hx := hC.1
  have hb := hC.2.1
  have hl : lv_has ls 1 [(0, .int kind)] := hl
  have hm := m_X4_moreAs.eq_1 kind
  refine lv_iload_n hx hb dX4_moreAs_0 rfl (lv_at hl 0 rfl) ?_
  refine lv_if_ne hx hb (tgt := 8) dX4_moreAs_1 (by decide) (fun c1 => ?_) (fun c1 => ?_)
  · have hm := hm.trans (if_neg c1)
    refine lv_iload_n hx hb dX4_moreAs_8 rfl (lv_at hl 0 rfl) ?_
    refine lv_iconst (v := (nI 1)) hx hb dX4_moreAs_9 (by decide +kernel) ?_
    refine lv_icmp_ne hx hb (tgt := 17) dX4_moreAs_10 (by decide) (fun c2 => ?_) (fun c2 => ?_)
    · have hm := hm.trans (if_neg c2)
      refine lv_iload_n hx hb dX4_moreAs_17 rfl (lv_at hl 0 rfl) ?_
      refine lv_iconst (v := (nI 2)) hx hb dX4_moreAs_18 (by decide +kernel) ?_
      refine lv_icmp_eq hx hb (tgt := 27) dX4_moreAs_19 (by decide) (fun c3 => ?_) (fun c3 => ?_)
      · have hm := hm.trans (if_pos c3)
        refine lv_iconst (v := (nI 1)) hx hb dX4_moreAs_27 (by decide +kernel) ?_
        refine lv_goto (tgt := 32) hx hb dX4_moreAs_28 (by decide) ?_
        exact wl_iret hC hr hlk hm rfl hP hD hS dX4_moreAs_32
      · have hm := hm.trans (if_neg c3)
        refine lv_iload_n hx hb dX4_moreAs_22 rfl (lv_at hl 0 rfl) ?_
        refine lv_iconst (v := (nI 4)) hx hb dX4_moreAs_23 (by decide +kernel) ?_
        refine lv_icmp_ne hx hb (tgt := 31) dX4_moreAs_24 (by decide) (fun c4 => ?_) (fun c4 => ?_)
        · have hm := hm.trans (if_neg c4)
          refine lv_iconst (v := (nI 4)) hx hb dX4_moreAs_31 (by decide +kernel) ?_
          exact wl_iret hC hr hlk hm rfl hP hD hS dX4_moreAs_32
        · have hm := hm.trans (if_pos c4)
          refine lv_iconst (v := (nI 1)) hx hb dX4_moreAs_27 (by decide +kernel) ?_
          refine lv_goto (tgt := 32) hx hb dX4_moreAs_28 (by decide) ?_
          exact wl_iret hC hr hlk hm rfl hP hD hS dX4_moreAs_32
    · have hm := hm.trans (if_pos c2)
      refine lv_iconst (v := (nI 0)) hx hb dX4_moreAs_13 (by decide +kernel) ?_
      refine lv_goto (tgt := 32) hx hb dX4_moreAs_14 (by decide) ?_
      exact wl_iret hC hr hlk hm rfl hP hD hS dX4_moreAs_32
  · have hm := hm.trans (if_pos c1)
    refine lv_iconst (v := (nI 2)) hx hb dX4_moreAs_4 (by decide +kernel) ?_
    refine lv_goto (tgt := 32) hx hb dX4_moreAs_5 (by decide) ?_
    exact wl_iret hC hr hlk hm rfl hP hD hS dX4_moreAs_32
def m_X4_temperBehind (kind : Int32) (t : Int32) (followed : Bool) : Int32 := (wl_bnd ((if followed = true then (wl_bnd (m_X4_moreAs kind) (fun z3 => (t + z3))) else (t - (nI 1))) : Int32) (fun z1 => (if 0 ≤ z1 then (if z1 ≤ (nI 99) then z1 else (nI 99)) else (nI 0))))
set_option maxHeartbeats 4000000 in
set_option maxRecDepth 100000 in
theorem c_X4_temperBehind {l : Launch} {D : va_G} {E : Nat → ClassId}  {kind : Int32} {t : Int32} {followed : Bool} : wl_Met (τ := Int32) l D E yX4_temperBehind cX4_temperBehind 4 (some .int) ({ frames := 1, cells := 0, slots := 0, locals := 20 } : Room) [.int kind, .int t, .int (wl_b followed)] [] (fun z => some (.int z)) (fun _ => []) (m_X4_temperBehind kind t followed) := by
  refine wl_enter (own := RX4) (by decide +kernel) rfl (Nat.le_of_ble_eq_true rfl) ?_
  intro p0 e0 s0 m0 bl0 mt0 c0 A hC hr hlk hA H locs hP hD hS ls hl
  have hx := hC.1
  have hb := hC.2.1
  have hl : lv_has ls 4 [(0, .int kind), (1, .int t), (2, .int (wl_b followed))] := hl
  have hm := m_X4_temperBehind.eq_1 kind t followed
  refine lv_iload_n hx hb dX4_temperBehind_0 rfl (lv_at hl 2 rfl) ?_
  obtain ⟨u1, hj1, hk1⟩ := wl_bx hm
  refine wl_J u1 16 (fun z1 => [.int z1]) 4 (fun z1 => []) D A s0.heap (fun z1 => []) (fun z1 hz1 ls H locs hP hD hS hl => ?_) (fun J1 => ?_)
  · have hm := hk1 z1 hz1
    refine lv_istore_n (lv' := [(3, .int z1)]) hx hb dX4_temperBehind_16 rfl hl (by decide) rfl (fun ls hl => ?_)
    refine lv_iload_n hx hb dX4_temperBehind_17 rfl (lv_at hl 0 rfl) ?_
    refine lv_if_ge hx hb (tgt := 25) dX4_temperBehind_18 (by decide) (fun c4 => ?_) (fun c4 => ?_)
    · have hm := hm.trans (if_pos c4)
      refine lv_iload_n hx hb dX4_temperBehind_25 rfl (lv_at hl 0 rfl) ?_
      refine lv_bipush (v := (nI 99)) hx hb dX4_temperBehind_26 (by decide +kernel) ?_
      refine lv_icmp_le hx hb (tgt := 36) dX4_temperBehind_28 (by decide) (fun c5 => ?_) (fun c5 => ?_)
      · have hm := hm.trans (if_pos c5)
        refine lv_iload_n hx hb dX4_temperBehind_36 rfl (lv_at hl 0 rfl) ?_
        exact wl_iret hC hr hlk hm rfl hP hD hS dX4_temperBehind_37
      · have hm := hm.trans (if_neg c5)
        refine lv_bipush (v := (nI 99)) hx hb dX4_temperBehind_31 (by decide +kernel) ?_
        refine lv_goto (tgt := 37) hx hb dX4_temperBehind_33 (by decide) ?_
        exact wl_iret hC hr hlk hm rfl hP hD hS dX4_temperBehind_37
    · have hm := hm.trans (if_neg c4)
      refine lv_iconst (v := (nI 0)) hx hb dX4_temperBehind_21 (by decide +kernel) ?_
      refine lv_goto (tgt := 37) hx hb dX4_temperBehind_22 (by decide) ?_
      exact wl_iret hC hr hlk hm rfl hP hD hS dX4_temperBehind_37
  · refine wl_if_eq_b hx hb (tgt := 13) dX4_temperBehind_1 (by decide) (fun c2 => ?_) (fun c2 => ?_)
    · have hj1 := hj1.trans (if_neg c2)
      refine lv_iload_n hx hb dX4_temperBehind_13 rfl (lv_at hl 1 rfl) ?_
      refine lv_iconst (v := (nI 1)) hx hb dX4_temperBehind_14 (by decide +kernel) ?_
      refine lv_isub hx hb dX4_temperBehind_15 ?_
      exact J1 _ hj1 ls H locs hP hD hS (lv_sub hl [] rfl)
    · have hj1 := hj1.trans (if_pos c2)
      refine lv_iload_n hx hb dX4_temperBehind_4 rfl (lv_at hl 1 rfl) ?_
      refine lv_iload_n hx hb dX4_temperBehind_5 rfl (lv_at hl 0 rfl) ?_
      refine wl_callPi hC (c_X4_moreAs (kind := kind) ) lk_RX4_75 rfl ⟨rfl, rfl, Nat.le_of_ble_eq_true rfl, Nat.le_of_ble_eq_true rfl⟩ hP hS hA hl.1 rfl (Nat.le_of_ble_eq_true rfl) dX4_temperBehind_6 ⟨Nat.zero_le _, Nat.zero_le _⟩ (fun z3 hz3 H locs hP hS => ?_)
      have hj1 := wl_bz hj1 hz3
      refine lv_iadd hx hb dX4_temperBehind_9 ?_
      refine lv_goto (tgt := 16) hx hb dX4_temperBehind_10 (by decide) ?_
      exact J1 _ hj1 ls H locs hP hD hS (lv_sub hl [] rfl)
def m_X4_isSmall (c : Int32) : Bool := (wl_bnd (m_X4_in c.toInt64 (lN 97) (lN 122)) (fun z1 => z1))
set_option maxHeartbeats 4000000 in
set_option maxRecDepth 100000 in
theorem c_X4_isSmall {l : Launch} {D : va_G} {E : Nat → ClassId}  {c : Int32} : wl_Met (τ := Bool) l D E yX4_isSmall cX4_isSmall 1 (some .boolean) ({ frames := 1, cells := 0, slots := 0, locals := 25 } : Room) [.int c] [] (fun z => some (.int (wl_b z))) (fun _ => []) (m_X4_isSmall c) := by
  refine wl_enter (own := RX4) (by decide +kernel) rfl (Nat.le_of_ble_eq_true rfl) ?_
  intro p0 e0 s0 m0 bl0 mt0 c0 A hC hr hlk hA H locs hP hD hS ls hl
  have hx := hC.1
  have hb := hC.2.1
  have hl : lv_has ls 1 [(0, .int c)] := hl
  have hm := m_X4_isSmall.eq_1 c
  refine lv_iload_n hx hb dX4_isSmall_0 rfl (lv_at hl 0 rfl) ?_
  refine lv_i2l (v := c.toInt64) hx hb dX4_isSmall_1 rfl ?_
  refine lv_ldc2 hx hb hC.2.2.2.1 (hC.2.2.2.2.1 _ mw_539) dX4_isSmall_2 ?_
  refine wl_reL (show (97 : Int64) = lN 97 by decide +kernel) ?_
  refine lv_ldc2 hx hb hC.2.2.2.1 (hC.2.2.2.2.1 _ mw_540) dX4_isSmall_5 ?_
  refine wl_reL (show (122 : Int64) = lN 122 by decide +kernel) ?_
  refine wl_callPi hC (c_X4_in (v := c.toInt64) (low := (lN 97)) (high := (lN 122)) ) lk_RX4_56 rfl ⟨rfl, rfl, Nat.le_of_ble_eq_true rfl, Nat.le_of_ble_eq_true rfl⟩ hP hS hA hl.1 rfl (Nat.le_of_ble_eq_true rfl) dX4_isSmall_8 ⟨Nat.zero_le _, Nat.zero_le _⟩ (fun z1 hz1 H locs hP hS => ?_)
  have hm := wl_bz hm hz1
  exact wl_zret (v := z1) hC hr hlk hm rfl hP hD hS dX4_isSmall_11
def m_X4_isFigure (c : Int32) : Bool := (wl_bnd (m_X4_in c.toInt64 (lN 48) (lN 57)) (fun z1 => z1))
set_option maxHeartbeats 4000000 in
set_option maxRecDepth 100000 in
theorem c_X4_isFigure {l : Launch} {D : va_G} {E : Nat → ClassId}  {c : Int32} : wl_Met (τ := Bool) l D E yX4_isFigure cX4_isFigure 1 (some .boolean) ({ frames := 1, cells := 0, slots := 0, locals := 25 } : Room) [.int c] [] (fun z => some (.int (wl_b z))) (fun _ => []) (m_X4_isFigure c) := by
  refine wl_enter (own := RX4) (by decide +kernel) rfl (Nat.le_of_ble_eq_true rfl) ?_
  intro p0 e0 s0 m0 bl0 mt0 c0 A hC hr hlk hA H locs hP hD hS ls hl
  have hx := hC.1
  have hb := hC.2.1
  have hl : lv_has ls 1 [(0, .int c)] := hl
  have hm := m_X4_isFigure.eq_1 c
  refine lv_iload_n hx hb dX4_isFigure_0 rfl (lv_at hl 0 rfl) ?_
  refine lv_i2l (v := c.toInt64) hx hb dX4_isFigure_1 rfl ?_
  refine lv_ldc2 hx hb hC.2.2.2.1 (hC.2.2.2.2.1 _ mw_542) dX4_isFigure_2 ?_
  refine wl_reL (show (48 : Int64) = lN 48 by decide +kernel) ?_
  refine lv_ldc2 hx hb hC.2.2.2.1 (hC.2.2.2.2.1 _ mw_543) dX4_isFigure_5 ?_
  refine wl_reL (show (57 : Int64) = lN 57 by decide +kernel) ?_
  refine wl_callPi hC (c_X4_in (v := c.toInt64) (low := (lN 48)) (high := (lN 57)) ) lk_RX4_56 rfl ⟨rfl, rfl, Nat.le_of_ble_eq_true rfl, Nat.le_of_ble_eq_true rfl⟩ hP hS hA hl.1 rfl (Nat.le_of_ble_eq_true rfl) dX4_isFigure_8 ⟨Nat.zero_le _, Nat.zero_le _⟩ (fun z1 hz1 H locs hP hS => ?_)
  have hm := wl_bz hm hz1
  exact wl_zret (v := z1) hC hr hlk hm rfl hP hD hS dX4_isFigure_11
