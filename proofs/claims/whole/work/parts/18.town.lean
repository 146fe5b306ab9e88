def m_X2_actOfDay (wkind : Int32) (wtemper : Int32) (wday : Int32) (wfollowed : Bool) : Int32 := (wl_bnd (m_X3_actOf wkind wday wfollowed wtemper) (fun z1 => z1))
set_option maxHeartbeats 4000000 in
set_option maxRecDepth 100000 in
theorem c_X2_actOfDay {l : Launch} {D : va_G} {E : Nat → ClassId} {a : Nat → Nat} {wkind : Int32} {wtemper : Int32} {wcounts : Int32} {wday : Int32} {wlisted : Bool} {wfollowed : Bool}  : wl_Met (τ := Int32) l D E yX2_actOfDay cX2_actOfDay 1 (some .int) ({ frames := 2, cells := 0, slots := 0, locals := 50 } : Room) [.ref (a 0)] (wW E a wkind wtemper wcounts wday wlisted wfollowed) (fun z => some (.int z)) (fun _ => (wW E a wkind wtemper wcounts wday wlisted wfollowed)) (m_X2_actOfDay wkind wtemper wday wfollowed) := by
  refine wl_enter (own := RX2) (by decide +kernel) rfl (Nat.le_of_ble_eq_true rfl) ?_
  intro p0 e0 s0 m0 bl0 mt0 c0 A hC hr hlk hA H locs hP hD hS ls hl
  have hx := hC.1
  have hb := hC.2.1
  have hl : lv_has ls 1 [(0, .ref (a 0))] := hl
  have hm := m_X2_actOfDay.eq_1 wkind wtemper wday wfollowed
  refine lv_aload_n hx hb dX2_actOfDay_0 rfl (lv_at hl 0 rfl) ?_
  refine g_W_0_kind hC hP mw_164 dX2_actOfDay_1 ?_
  refine lv_aload_n hx hb dX2_actOfDay_4 rfl (lv_at hl 0 rfl) ?_
  refine g_W_0_day hC hP mw_165 dX2_actOfDay_5 ?_
  refine lv_aload_n hx hb dX2_actOfDay_8 rfl (lv_at hl 0 rfl) ?_
  refine g_W_0_followed hC hP mw_166 dX2_actOfDay_9 ?_
  refine lv_aload_n hx hb dX2_actOfDay_12 rfl (lv_at hl 0 rfl) ?_
  refine g_W_0_temper hC hP mw_167 dX2_actOfDay_13 ?_
  refine wl_callNi hC (c_X3_actOf (kind := wkind) (day := wday) (followed := wfollowed) (temper := wtemper) ) lk_RX2_25 rfl ⟨rfl, rfl, Nat.le_of_ble_eq_true rfl, Nat.le_of_ble_eq_true rfl⟩ hP hS hA hl.1 rfl (Nat.le_of_ble_eq_true rfl) dX2_actOfDay_16 ⟨Nat.zero_le _, Nat.zero_le _⟩ (fun z1 hz1 H locs hP hS => ?_)
  have hm := wl_bz hm hz1
  exact wl_iret hC hr hlk hm rfl hP hD hS dX2_actOfDay_19
def m_X2_doesIt (wkind : Int32) (wtemper : Int32) (wcounts : Int32) (wday : Int32) (wfollowed : Bool) : Bool := (wl_bnd (m_X3_actOf wkind wday wfollowed wtemper) (fun z1 => (if z1 < wcounts then false else true)))
set_option maxHeartbeats 4000000 in
set_option maxRecDepth 100000 in
theorem c_X2_doesIt {l : Launch} {D : va_G} {E : Nat → ClassId} {a : Nat → Nat} {wkind : Int32} {wtemper : Int32} {wcounts : Int32} {wday : Int32} {wlisted : Bool} {wfollowed : Bool}  : wl_Met (τ := Bool) l D E yX2_doesIt cX2_doesIt 1 (some .boolean) ({ frames := 2, cells := 0, slots := 0, locals := 50 } : Room) [.ref (a 0)] (wW E a wkind wtemper wcounts wday wlisted wfollowed) (fun z => some (.int (wl_b z))) (fun _ => (wW E a wkind wtemper wcounts wday wlisted wfollowed)) (m_X2_doesIt wkind wtemper wcounts wday wfollowed) := by
  refine wl_enter (own := RX2) (by decide +kernel) rfl (Nat.le_of_ble_eq_true rfl) ?_
  intro p0 e0 s0 m0 bl0 mt0 c0 A hC hr hlk hA H locs hP hD hS ls hl
  have hx := hC.1
  have hb := hC.2.1
  have hl : lv_has ls 1 [(0, .ref (a 0))] := hl
  have hm := m_X2_doesIt.eq_1 wkind wtemper wcounts wday wfollowed
  refine lv_aload_n hx hb dX2_doesIt_0 rfl (lv_at hl 0 rfl) ?_
  refine g_W_0_kind hC hP mw_164 dX2_doesIt_1 ?_
  refine lv_aload_n hx hb dX2_doesIt_4 rfl (lv_at hl 0 rfl) ?_
  refine g_W_0_day hC hP mw_165 dX2_doesIt_5 ?_
  refine lv_aload_n hx hb dX2_doesIt_8 rfl (lv_at hl 0 rfl) ?_
  refine g_W_0_followed hC hP mw_166 dX2_doesIt_9 ?_
  refine lv_aload_n hx hb dX2_doesIt_12 rfl (lv_at hl 0 rfl) ?_
  refine g_W_0_temper hC hP mw_167 dX2_doesIt_13 ?_
  refine wl_callNi hC (c_X3_actOf (kind := wkind) (day := wday) (followed := wfollowed) (temper := wtemper) ) lk_RX2_25 rfl ⟨rfl, rfl, Nat.le_of_ble_eq_true rfl, Nat.le_of_ble_eq_true rfl⟩ hP hS hA hl.1 rfl (Nat.le_of_ble_eq_true rfl) dX2_doesIt_16 ⟨Nat.zero_le _, Nat.zero_le _⟩ (fun z1 hz1 H locs hP hS => ?_)
  have hm := wl_bz hm hz1
  refine lv_aload_n hx hb dX2_doesIt_19 rfl (lv_at hl 0 rfl) ?_
  refine g_W_0_counts hC hP mw_168 dX2_doesIt_20 ?_
  refine lv_icmp_lt hx hb (tgt := 30) dX2_doesIt_23 (by decide) (fun c2 => ?_) (fun c2 => ?_)
  · have hm := hm.trans (if_pos c2)
    refine lv_iconst (v := (nI 0)) hx hb dX2_doesIt_30 (by decide +kernel) ?_
    exact wl_zret (v := false) hC hr hlk hm rfl hP hD hS dX2_doesIt_31
  · have hm := hm.trans (if_neg c2)
    refine lv_iconst (v := (nI 1)) hx hb dX2_doesIt_26 (by decide +kernel) ?_
    refine lv_goto (tgt := 31) hx hb dX2_doesIt_27 (by decide) ?_
    exact wl_zret (v := true) hC hr hlk hm rfl hP hD hS dX2_doesIt_31
def m_X2_goBy (wkind : Int32) (wtemper : Int32) (wcounts : Int32) (wday : Int32) (wlisted : Bool) (wfollowed : Bool) : Bool × Int32 × Int32 × Bool × Bool := (wl_bnd ((if wlisted = true then (if wfollowed = true then (wl_bnd (m_X2_doesIt wkind wtemper wcounts wday wfollowed) (fun z4 => (if z4 = true then true else false))) else false) else false) : Bool) (fun z1 => (wl_bnd ((if wfollowed = true then (wl_bnd (m_X3_moreOf wkind) (fun z8 => (wtemper + z8))) else (wtemper - (nI 1))) : Int32) (fun z6 => (if z1 = true then (z1, (if (nI 0) < (if (nI 99) < z6 then (nI 99) else z6) then (if (nI 99) < z6 then (nI 99) else z6) else (nI 0)), (wday + (nI 1)), false, false) else (z1, (if (nI 0) < (if (nI 99) < z6 then (nI 99) else z6) then (if (nI 99) < z6 then (nI 99) else z6) else (nI 0)), (wday + (nI 1)), wlisted, wfollowed))))))
set_option maxHeartbeats 4000000 in
set_option maxRecDepth 100000 in
theorem c_X2_goBy {l : Launch} {D : va_G} {E : Nat → ClassId} {a : Nat → Nat} {wkind : Int32} {wtemper : Int32} {wcounts : Int32} {wday : Int32} {wlisted : Bool} {wfollowed : Bool}  : wl_Met (τ := Bool × Int32 × Int32 × Bool × Bool) l D E yX2_goBy cX2_goBy 3 (some .boolean) ({ frames := 3, cells := 0, slots := 0, locals := 70 } : Room) [.ref (a 0)] (wW E a wkind wtemper wcounts wday wlisted wfollowed) (fun z => some (.int (wl_b z.1))) (fun z => (wW E a wkind z.2.1 wcounts z.2.2.1 z.2.2.2.1 z.2.2.2.2)) (m_X2_goBy wkind wtemper wcounts wday wlisted wfollowed) := by
  refine wl_enter (own := RX2) (by decide +kernel) rfl (Nat.le_of_ble_eq_true rfl) ?_
  intro p0 e0 s0 m0 bl0 mt0 c0 A hC hr hlk hA H locs hP hD hS ls hl
  have hx := hC.1
  have hb := hC.2.1
  have hl : lv_has ls 3 [(0, .ref (a 0))] := hl
  have hm := m_X2_goBy.eq_1 wkind wtemper wcounts wday wlisted wfollowed
  refine lv_aload_n hx hb dX2_goBy_0 rfl (lv_at hl 0 rfl) ?_
  refine g_W_0_listed hC hP mw_171 dX2_goBy_1 ?_
  obtain ⟨u1, hj1, hk1⟩ := wl_bx hm
  refine wl_J u1 26 (fun z1 => [.int (wl_b z1)]) 3 (fun z1 => [(0, .ref (a 0))]) D A s0.heap (fun z1 => (wW E a wkind wtemper wcounts wday wlisted wfollowed)) (fun z1 hz1 ls H locs hP hD hS hl => ?_) (fun J1 => ?_)
  · have hm := hk1 z1 hz1
    refine lv_istore_n (lv' := [(1, .int (wl_b z1)), (0, .ref (a 0))]) hx hb dX2_goBy_26 rfl hl (by decide) rfl (fun ls hl => ?_)
    refine lv_aload_n hx hb dX2_goBy_27 rfl (lv_at hl 1 rfl) ?_
    refine g_W_0_followed hC hP mw_166 dX2_goBy_28 ?_
    obtain ⟨u6, hj6, hk6⟩ := wl_bx hm
    refine wl_J u6 55 (fun z6 => [.int z6]) 3 (fun z6 => [(1, .int (wl_b z1)), (0, .ref (a 0))]) D A s0.heap (fun z6 => (wW E a wkind wtemper wcounts wday wlisted wfollowed)) (fun z6 hz6 ls H locs hP hD hS hl => ?_) (fun J6 => ?_)
    · have hm := hk6 z6 hz6
      refine lv_istore_n (lv' := [(2, .int z6), (1, .int (wl_b z1)), (0, .ref (a 0))]) hx hb dX2_goBy_55 rfl hl (by decide) rfl (fun ls hl => ?_)
      refine lv_aload_n hx hb dX2_goBy_56 rfl (lv_at hl 2 rfl) ?_
      refine lv_iconst (v := (nI 0)) hx hb dX2_goBy_57 (by decide +kernel) ?_
      refine lv_iload_n hx hb dX2_goBy_58 rfl (lv_at hl 0 rfl) ?_
      refine lv_bipush (v := (nI 99)) hx hb dX2_goBy_59 (by decide +kernel) ?_
      refine wl_min hC mw_172 hl.1 (Nat.le_of_ble_eq_true rfl) (Nat.le_of_ble_eq_true rfl) ⟨Nat.zero_le _, Nat.zero_le _⟩ dX2_goBy_61 ?_
      refine wl_max hC mw_173 hl.1 (Nat.le_of_ble_eq_true rfl) (Nat.le_of_ble_eq_true rfl) ⟨Nat.zero_le _, Nat.zero_le _⟩ dX2_goBy_64 ?_
      refine p_W_0_temper hC hP hD hS (if (nI 0) < (if (nI 99) < z6 then (nI 99) else z6) then (if (nI 99) < z6 then (nI 99) else z6) else (nI 0)) mw_167 dX2_goBy_67 (fun H locs hP hD hS => ?_)
      refine lv_aload_n hx hb dX2_goBy_70 rfl (lv_at hl 2 rfl) ?_
      refine lv_dup hx hb dX2_goBy_71 rfl ?_
      refine g_W_0_day hC hP mw_165 dX2_goBy_72 ?_
      refine lv_iconst (v := (nI 1)) hx hb dX2_goBy_75 (by decide +kernel) ?_
      refine lv_iadd hx hb dX2_goBy_76 ?_
      refine p_W_0_day hC hP hD hS (wday + (nI 1)) mw_165 dX2_goBy_77 (fun H locs hP hD hS => ?_)
      refine lv_iload_n hx hb dX2_goBy_80 rfl (lv_at hl 1 rfl) ?_
      refine wl_if_eq_b hx hb (tgt := 94) dX2_goBy_81 (by decide) (fun c9 => ?_) (fun c9 => ?_)
      · have hm := hm.trans (if_neg c9)
        refine lv_iload_n hx hb dX2_goBy_94 rfl (lv_at hl 1 rfl) ?_
        exact wl_zret (v := z1) hC hr hlk hm rfl hP hD hS dX2_goBy_95
      · have hm := hm.trans (if_pos c9)
        refine lv_aload_n hx hb dX2_goBy_84 rfl (lv_at hl 2 rfl) ?_
        refine lv_iconst (v := (nI 0)) hx hb dX2_goBy_85 (by decide +kernel) ?_
        refine p_W_0_listed hC hP hD hS false mw_171 dX2_goBy_86 (fun H locs hP hD hS => ?_)
        refine lv_aload_n hx hb dX2_goBy_89 rfl (lv_at hl 2 rfl) ?_
        refine lv_iconst (v := (nI 0)) hx hb dX2_goBy_90 (by decide +kernel) ?_
        refine p_W_0_followed hC hP hD hS false mw_166 dX2_goBy_91 (fun H locs hP hD hS => ?_)
        refine lv_iload_n hx hb dX2_goBy_94 rfl (lv_at hl 1 rfl) ?_
        exact wl_zret (v := z1) hC hr hlk hm rfl hP hD hS dX2_goBy_95
    · refine wl_if_eq_b hx hb (tgt := 49) dX2_goBy_31 (by decide) (fun c7 => ?_) (fun c7 => ?_)
      · have hj6 := hj6.trans (if_neg c7)
        refine lv_aload_n hx hb dX2_goBy_49 rfl (lv_at hl 1 rfl) ?_
        refine g_W_0_temper hC hP mw_167 dX2_goBy_50 ?_
        refine lv_iconst (v := (nI 1)) hx hb dX2_goBy_53 (by decide +kernel) ?_
        refine lv_isub hx hb dX2_goBy_54 ?_
        exact J6 _ hj6 ls H locs hP hD hS (lv_sub hl [0, 1] rfl)
      · have hj6 := hj6.trans (if_pos c7)
        refine lv_aload_n hx hb dX2_goBy_34 rfl (lv_at hl 1 rfl) ?_
        refine g_W_0_temper hC hP mw_167 dX2_goBy_35 ?_
        refine lv_aload_n hx hb dX2_goBy_38 rfl (lv_at hl 1 rfl) ?_
        refine g_W_0_kind hC hP mw_164 dX2_goBy_39 ?_
        refine wl_callNi hC (c_X3_moreOf (kind := wkind) ) lk_RX2_39 rfl ⟨rfl, rfl, Nat.le_of_ble_eq_true rfl, Nat.le_of_ble_eq_true rfl⟩ hP hS hA hl.1 rfl (Nat.le_of_ble_eq_true rfl) dX2_goBy_42 ⟨Nat.zero_le _, Nat.zero_le _⟩ (fun z8 hz8 H locs hP hS => ?_)
        have hj6 := wl_bz hj6 hz8
        refine lv_iadd hx hb dX2_goBy_45 ?_
        refine lv_goto (tgt := 55) hx hb dX2_goBy_46 (by decide) ?_
        exact J6 _ hj6 ls H locs hP hD hS (lv_sub hl [0, 1] rfl)
  · refine wl_if_eq_b hx hb (tgt := 25) dX2_goBy_4 (by decide) (fun c2 => ?_) (fun c2 => ?_)
    · have hj1 := hj1.trans (if_neg c2)
      refine lv_iconst (v := (nI 0)) hx hb dX2_goBy_25 (by decide +kernel) ?_
      exact J1 _ hj1 ls H locs hP hD hS (lv_sub hl [0] rfl)
    · have hj1 := hj1.trans (if_pos c2)
      refine lv_aload_n hx hb dX2_goBy_7 rfl (lv_at hl 0 rfl) ?_
      refine g_W_0_followed hC hP mw_166 dX2_goBy_8 ?_
      refine wl_if_eq_b hx hb (tgt := 25) dX2_goBy_11 (by decide) (fun c3 => ?_) (fun c3 => ?_)
      · have hj1 := hj1.trans (if_neg c3)
        refine lv_iconst (v := (nI 0)) hx hb dX2_goBy_25 (by decide +kernel) ?_
        exact J1 _ hj1 ls H locs hP hD hS (lv_sub hl [0] rfl)
      · have hj1 := hj1.trans (if_pos c3)
        refine lv_aload_n hx hb dX2_goBy_14 rfl (lv_at hl 0 rfl) ?_
        refine wl_callVi hC (c_X2_doesIt  ) lk_RX2_35 rfl ⟨rfl, rfl, Nat.le_of_ble_eq_true rfl, Nat.le_of_ble_eq_true rfl⟩ hP hD hS hA 0 rfl (T1 := 6) rfl hl.1 rfl (Nat.le_of_ble_eq_true rfl) dX2_goBy_15 ⟨Nat.zero_le _, Nat.zero_le _⟩ (fun z4 hz4 H locs hP hD hS => ?_)
        have hj1 := wl_bz hj1 hz4
        refine wl_if_eq_b hx hb (tgt := 25) dX2_goBy_18 (by decide) (fun c5 => ?_) (fun c5 => ?_)
        · have hj1 := hj1.trans (if_neg c5)
          refine lv_iconst (v := (nI 0)) hx hb dX2_goBy_25 (by decide +kernel) ?_
          exact J1 _ hj1 ls H locs hP hD hS (lv_sub hl [0] rfl)
        · have hj1 := hj1.trans (if_pos c5)
          refine lv_iconst (v := (nI 1)) hx hb dX2_goBy_21 (by decide +kernel) ?_
          refine lv_goto (tgt := 26) hx hb dX2_goBy_22 (by decide) ?_
          exact J1 _ hj1 ls H locs hP hD hS (lv_sub hl [0] rfl)
def m_X1_begin (least : Int32) : Int32 × Nat × Int32 × Int32 × Int32 × Int32 × Nat × Nat := (least, 0, (nI 0), (nI 0), (nI 0), (nI 0), 0, 0)
set_option maxHeartbeats 4000000 in
set_option maxRecDepth 100000 in
theorem c_X1_begin {l : Launch} {D : va_G} {E : Nat → ClassId} {a : Nat → Nat} {counts : Int32} {people : Nat} {day : Int32} {listed : Int32} {followed : Int32} {struck : Int32} {noted : Nat} {undoable : Nat} {kinds : (Nat → Int32)} {tempers : (Nat → Int32)} {notes : (Nat → Int32)} {past : (Nat → Int32)} {least : Int32} : wl_Met (τ := Int32 × Nat × Int32 × Int32 × Int32 × Int32 × Nat × Nat) l D E yX1_begin cX1_begin 2 none ({ frames := 0, cells := 0, slots := 0, locals := 0 } : Room) [.ref (a 0), .int least] (wT E a counts people day listed followed struck noted undoable kinds tempers notes past) (fun _ => none) (fun z => (wT E a z.1 z.2.1 z.2.2.1 z.2.2.2.1 z.2.2.2.2.1 z.2.2.2.2.2.1 z.2.2.2.2.2.2.1 z.2.2.2.2.2.2.2 kinds tempers notes past)) (m_X1_begin least) := by
  refine wl_enter (own := RX1) (by decide +kernel) rfl (Nat.le_of_ble_eq_true rfl) ?_
  intro p0 e0 s0 m0 bl0 mt0 c0 A hC hr hlk hA H locs hP hD hS ls hl
  have hx := hC.1
  have hb := hC.2.1
  have hl : lv_has ls 2 [(0, .ref (a 0)), (1, .int least)] := hl
  have hm := m_X1_begin.eq_1 least
  refine lv_aload_n hx hb dX1_begin_0 rfl (lv_at hl 0 rfl) ?_
  refine lv_iload_n hx hb dX1_begin_1 rfl (lv_at hl 1 rfl) ?_
  refine p_T_0_counts hC hP hD hS least mw_8 dX1_begin_2 (fun H locs hP hD hS => ?_)
  refine lv_aload_n hx hb dX1_begin_5 rfl (lv_at hl 0 rfl) ?_
  refine lv_iconst (v := (nI 0)) hx hb dX1_begin_6 (by decide +kernel) ?_
  refine p_T_0_people hC hP hD hS 0 mw_9 dX1_begin_7 (fun H locs hP hD hS => ?_)
  refine lv_aload_n hx hb dX1_begin_10 rfl (lv_at hl 0 rfl) ?_
  refine lv_iconst (v := (nI 0)) hx hb dX1_begin_11 (by decide +kernel) ?_
  refine p_T_0_day hC hP hD hS (nI 0) mw_10 dX1_begin_12 (fun H locs hP hD hS => ?_)
  refine lv_aload_n hx hb dX1_begin_15 rfl (lv_at hl 0 rfl) ?_
  refine lv_iconst (v := (nI 0)) hx hb dX1_begin_16 (by decide +kernel) ?_
  refine p_T_0_listed hC hP hD hS (nI 0) mw_11 dX1_begin_17 (fun H locs hP hD hS => ?_)
  refine lv_aload_n hx hb dX1_begin_20 rfl (lv_at hl 0 rfl) ?_
  refine lv_iconst (v := (nI 0)) hx hb dX1_begin_21 (by decide +kernel) ?_
  refine p_T_0_followed hC hP hD hS (nI 0) mw_12 dX1_begin_22 (fun H locs hP hD hS => ?_)
  refine lv_aload_n hx hb dX1_begin_25 rfl (lv_at hl 0 rfl) ?_
  refine lv_iconst (v := (nI 0)) hx hb dX1_begin_26 (by decide +kernel) ?_
  refine p_T_0_struck hC hP hD hS (nI 0) mw_13 dX1_begin_27 (fun H locs hP hD hS => ?_)
  refine lv_aload_n hx hb dX1_begin_30 rfl (lv_at hl 0 rfl) ?_
  refine lv_iconst (v := (nI 0)) hx hb dX1_begin_31 (by decide +kernel) ?_
  refine p_T_0_noted hC hP hD hS 0 mw_14 dX1_begin_32 (fun H locs hP hD hS => ?_)
  refine lv_aload_n hx hb dX1_begin_35 rfl (lv_at hl 0 rfl) ?_
  refine lv_iconst (v := (nI 0)) hx hb dX1_begin_36 (by decide +kernel) ?_
  refine p_T_0_undoable hC hP hD hS 0 mw_15 dX1_begin_37 (fun H locs hP hD hS => ?_)
  exact wl_vret hC hr hlk hm rfl hP hD hS dX1_begin_40
def m_X1_addOne (people : Nat) (undoable : Nat) (kinds : (Nat → Int32)) (tempers : (Nat → Int32)) (kind : Int32) (temper : Int32) : Int32 × Nat × Nat × (Nat → Int32) × (Nat → Int32) := (if people < 7 then ((nI ((people + 1) - 1)), (people + 1), 0, (upd kinds people kind), (upd tempers people temper)) else ((-1), people, undoable, kinds, tempers))
set_option maxHeartbeats 4000000 in
set_option maxRecDepth 100000 in
theorem c_X1_addOne {l : Launch} {D : va_G} {E : Nat → ClassId} {a : Nat → Nat} {counts : Int32} {people : Nat} {day : Int32} {listed : Int32} {followed : Int32} {struck : Int32} {noted : Nat} {undoable : Nat} {kinds : (Nat → Int32)} {tempers : (Nat → Int32)} {notes : (Nat → Int32)} {past : (Nat → Int32)} {kind : Int32} {temper : Int32} (hP7 : people ≤ 7) : wl_Met (τ := Int32 × Nat × Nat × (Nat → Int32) × (Nat → Int32)) l D E yX1_addOne cX1_addOne 3 (some .int) ({ frames := 0, cells := 0, slots := 0, locals := 0 } : Room) [.ref (a 0), .int kind, .int temper] (wT E a counts people day listed followed struck noted undoable kinds tempers notes past) (fun z => some (.int z.1)) (fun z => (wT E a counts z.2.1 day listed followed struck noted z.2.2.1 z.2.2.2.1 z.2.2.2.2 notes past)) (m_X1_addOne people undoable kinds tempers kind temper) := by
  refine wl_enter (own := RX1) (by decide +kernel) rfl (Nat.le_of_ble_eq_true rfl) ?_
  intro p0 e0 s0 m0 bl0 mt0 c0 A hC hr hlk hA H locs hP hD hS ls hl
  have hx := hC.1
  have hb := hC.2.1
  have hl : lv_has ls 3 [(0, .ref (a 0)), (1, .int kind), (2, .int temper)] := hl
  have hm := m_X1_addOne.eq_1 people undoable kinds tempers kind temper
  refine lv_aload_n hx hb dX1_addOne_0 rfl (lv_at hl 0 rfl) ?_
  refine g_T_0_people hC hP mw_9 dX1_addOne_1 ?_
  refine lv_bipush (v := (nI 7)) hx hb dX1_addOne_4 (by decide +kernel) ?_
  refine wl_icmp_lt_n hx hb (by first | omega | exact Nat.lt_of_le_of_lt Nat.and_le_right (by omega) | exact Nat.pow_lt_pow_right (by omega) (by omega) | exact Nat.lt_trans (by assumption) (Nat.pow_lt_pow_right (by omega) (by omega))) (by first | omega | exact Nat.lt_of_le_of_lt Nat.and_le_right (by omega) | exact Nat.pow_lt_pow_right (by omega) (by omega) | exact Nat.lt_trans (by assumption) (Nat.pow_lt_pow_right (by omega) (by omega))) (tgt := 11) dX1_addOne_6 (by decide) (fun c1 => ?_) (fun c1 => ?_)
  · have hm := hm.trans (if_pos c1)
    refine lv_aload_n hx hb dX1_addOne_11 rfl (lv_at hl 0 rfl) ?_
    refine g_T_0_kinds hC hP mw_92 dX1_addOne_12 ?_
    refine lv_aload_n hx hb dX1_addOne_15 rfl (lv_at hl 0 rfl) ?_
    refine g_T_0_people hC hP mw_9 dX1_addOne_16 ?_
    refine lv_iload_n hx hb dX1_addOne_19 rfl (lv_at hl 1 rfl) ?_
    refine st_T_1 hC hP hD hS people kind (by omega) dX1_addOne_20 (fun H locs hP hD hS => ?_)
    refine lv_aload_n hx hb dX1_addOne_21 rfl (lv_at hl 0 rfl) ?_
    refine g_T_0_tempers hC hP mw_93 dX1_addOne_22 ?_
    refine lv_aload_n hx hb dX1_addOne_25 rfl (lv_at hl 0 rfl) ?_
    refine g_T_0_people hC hP mw_9 dX1_addOne_26 ?_
    refine lv_iload_n hx hb dX1_addOne_29 rfl (lv_at hl 2 rfl) ?_
    refine st_T_2 hC hP hD hS people temper (by omega) dX1_addOne_30 (fun H locs hP hD hS => ?_)
    refine lv_aload_n hx hb dX1_addOne_31 rfl (lv_at hl 0 rfl) ?_
    refine lv_iconst (v := (nI 0)) hx hb dX1_addOne_32 (by decide +kernel) ?_
    refine p_T_0_undoable hC hP hD hS 0 mw_15 dX1_addOne_33 (fun H locs hP hD hS => ?_)
    refine lv_aload_n hx hb dX1_addOne_36 rfl (lv_at hl 0 rfl) ?_
    refine lv_dup hx hb dX1_addOne_37 rfl ?_
    refine g_T_0_people hC hP mw_9 dX1_addOne_38 ?_
    refine lv_iconst (v := (nI 1)) hx hb dX1_addOne_41 (by decide +kernel) ?_
    refine lv_iadd hx hb dX1_addOne_42 ?_
    refine wl_re (show nI people + nI 1 = nI (people + 1) from nI_add people 1) ?_
    refine p_T_0_people hC hP hD hS (people + 1) mw_9 dX1_addOne_43 (fun H locs hP hD hS => ?_)
    refine lv_aload_n hx hb dX1_addOne_46 rfl (lv_at hl 0 rfl) ?_
    refine g_T_0_people hC hP mw_9 dX1_addOne_47 ?_
    refine lv_iconst (v := (nI 1)) hx hb dX1_addOne_50 (by decide +kernel) ?_
    refine lv_isub hx hb dX1_addOne_51 ?_
    refine wl_re (show nI (people + 1) - nI 1 = nI ((people + 1) - 1) from pk_sub (by omega)) ?_
    exact wl_iret hC hr hlk hm rfl hP hD hS dX1_addOne_52
  · have hm := hm.trans (if_neg c1)
    refine lv_iconst (v := (-1)) hx hb dX1_addOne_9 (by decide +kernel) ?_
    exact wl_iret hC hr hlk hm rfl hP hD hS dX1_addOne_10
def m_X1_addNote (noted : Nat) (notes : (Nat → Int32)) (p : Int32) (d : Int32) (wasFollowed : Int32) (t : Int32) (act : Int32) : Nat × Nat × (Nat → Int32) := (if noted < 6 then ((noted + 1), (noted + 1), (upd (upd (upd (upd (upd notes (noted * 5) p) ((noted * 5) + 1) d) ((noted * 5) + 2) wasFollowed) ((noted * 5) + 3) t) ((noted * 5) + 4) act)) else (noted, noted, notes))
set_option maxHeartbeats 4000000 in
set_option maxRecDepth 100000 in
theorem c_X1_addNote {l : Launch} {D : va_G} {E : Nat → ClassId} {a : Nat → Nat} {counts : Int32} {people : Nat} {day : Int32} {listed : Int32} {followed : Int32} {struck : Int32} {noted : Nat} {undoable : Nat} {kinds : (Nat → Int32)} {tempers : (Nat → Int32)} {notes : (Nat → Int32)} {past : (Nat → Int32)} {p : Int32} {d : Int32} {wasFollowed : Int32} {t : Int32} {act : Int32} (hN6 : noted ≤ 6) : wl_Met (τ := Nat × Nat × (Nat → Int32)) l D E yX1_addNote cX1_addNote 7 (some .int) ({ frames := 0, cells := 0, slots := 0, locals := 0 } : Room) [.ref (a 0), .int p, .int d, .int wasFollowed, .int t, .int act] (wT E a counts people day listed followed struck noted undoable kinds tempers notes past) (fun z => some (.int (nI z.1))) (fun z => (wT E a counts people day listed followed struck z.2.1 undoable kinds tempers z.2.2 past)) (m_X1_addNote noted notes p d wasFollowed t act) := by
  refine wl_enter (own := RX1) (by decide +kernel) rfl (Nat.le_of_ble_eq_true rfl) ?_
  intro p0 e0 s0 m0 bl0 mt0 c0 A hC hr hlk hA H locs hP hD hS ls hl
  have hx := hC.1
  have hb := hC.2.1
  have hl : lv_has ls 7 [(0, .ref (a 0)), (1, .int p), (2, .int d), (3, .int wasFollowed), (4, .int t), (5, .int act)] := hl
  have hm := m_X1_addNote.eq_1 noted notes p d wasFollowed t act
  refine lv_aload_n hx hb dX1_addNote_0 rfl (lv_at hl 0 rfl) ?_
  refine g_T_0_noted hC hP mw_14 dX1_addNote_1 ?_
  refine lv_bipush (v := (nI 6)) hx hb dX1_addNote_4 (by decide +kernel) ?_
  refine wl_icmp_lt_n hx hb (by first | omega | exact Nat.lt_of_le_of_lt Nat.and_le_right (by omega) | exact Nat.pow_lt_pow_right (by omega) (by omega) | exact Nat.lt_trans (by assumption) (Nat.pow_lt_pow_right (by omega) (by omega))) (by first | omega | exact Nat.lt_of_le_of_lt Nat.and_le_right (by omega) | exact Nat.pow_lt_pow_right (by omega) (by omega) | exact Nat.lt_trans (by assumption) (Nat.pow_lt_pow_right (by omega) (by omega))) (tgt := 14) dX1_addNote_6 (by decide) (fun c1 => ?_) (fun c1 => ?_)
  · have hm := hm.trans (if_pos c1)
    refine lv_aload_n hx hb dX1_addNote_14 rfl (lv_at hl 0 rfl) ?_
    refine g_T_0_noted hC hP mw_14 dX1_addNote_15 ?_
    refine lv_iconst (v := (nI 5)) hx hb dX1_addNote_18 (by decide +kernel) ?_
    refine lv_imul hx hb dX1_addNote_19 ?_
    refine wl_re (show nI noted * nI 5 = nI (noted * 5) from pk_mul noted 5) ?_
    refine lv_istore (lv' := [(6, .int (nI (noted * 5))), (0, .ref (a 0)), (1, .int p), (2, .int d), (3, .int wasFollowed), (4, .int t), (5, .int act)]) hx hb dX1_addNote_20 hl (by decide) rfl (fun ls hl => ?_)
    refine lv_aload_n hx hb dX1_addNote_22 rfl (lv_at hl 1 rfl) ?_
    refine g_T_0_notes hC hP mw_132 dX1_addNote_23 ?_
    refine lv_iload hx hb dX1_addNote_26 (lv_at hl 0 rfl) ?_
    refine lv_iload_n hx hb dX1_addNote_28 rfl (lv_at hl 2 rfl) ?_
    refine st_T_3 hC hP hD hS (noted * 5) p (by omega) dX1_addNote_29 (fun H locs hP hD hS => ?_)
    refine lv_aload_n hx hb dX1_addNote_30 rfl (lv_at hl 1 rfl) ?_
    refine g_T_0_notes hC hP mw_132 dX1_addNote_31 ?_
    refine lv_iload hx hb dX1_addNote_34 (lv_at hl 0 rfl) ?_
    refine lv_iconst (v := (nI 1)) hx hb dX1_addNote_36 (by decide +kernel) ?_
    refine lv_iadd hx hb dX1_addNote_37 ?_
    refine wl_re (show nI (noted * 5) + nI 1 = nI ((noted * 5) + 1) from nI_add (noted * 5) 1) ?_
    refine lv_iload_n hx hb dX1_addNote_38 rfl (lv_at hl 3 rfl) ?_
    refine st_T_3 hC hP hD hS ((noted * 5) + 1) d (by omega) dX1_addNote_39 (fun H locs hP hD hS => ?_)
    refine lv_aload_n hx hb dX1_addNote_40 rfl (lv_at hl 1 rfl) ?_
    refine g_T_0_notes hC hP mw_132 dX1_addNote_41 ?_
    refine lv_iload hx hb dX1_addNote_44 (lv_at hl 0 rfl) ?_
    refine lv_iconst (v := (nI 2)) hx hb dX1_addNote_46 (by decide +kernel) ?_
    refine lv_iadd hx hb dX1_addNote_47 ?_
    refine wl_re (show nI (noted * 5) + nI 2 = nI ((noted * 5) + 2) from nI_add (noted * 5) 2) ?_
    refine lv_iload_n hx hb dX1_addNote_48 rfl (lv_at hl 4 rfl) ?_
    refine st_T_3 hC hP hD hS ((noted * 5) + 2) wasFollowed (by omega) dX1_addNote_49 (fun H locs hP hD hS => ?_)
    refine lv_aload_n hx hb dX1_addNote_50 rfl (lv_at hl 1 rfl) ?_
    refine g_T_0_notes hC hP mw_132 dX1_addNote_51 ?_
    refine lv_iload hx hb dX1_addNote_54 (lv_at hl 0 rfl) ?_
    refine lv_iconst (v := (nI 3)) hx hb dX1_addNote_56 (by decide +kernel) ?_
    refine lv_iadd hx hb dX1_addNote_57 ?_
    refine wl_re (show nI (noted * 5) + nI 3 = nI ((noted * 5) + 3) from nI_add (noted * 5) 3) ?_
    refine lv_iload hx hb dX1_addNote_58 (lv_at hl 5 rfl) ?_
    refine st_T_3 hC hP hD hS ((noted * 5) + 3) t (by omega) dX1_addNote_60 (fun H locs hP hD hS => ?_)
    refine lv_aload_n hx hb dX1_addNote_61 rfl (lv_at hl 1 rfl) ?_
    refine g_T_0_notes hC hP mw_132 dX1_addNote_62 ?_
    refine lv_iload hx hb dX1_addNote_65 (lv_at hl 0 rfl) ?_
    refine lv_iconst (v := (nI 4)) hx hb dX1_addNote_67 (by decide +kernel) ?_
    refine lv_iadd hx hb dX1_addNote_68 ?_
    refine wl_re (show nI (noted * 5) + nI 4 = nI ((noted * 5) + 4) from nI_add (noted * 5) 4) ?_
    refine lv_iload hx hb dX1_addNote_69 (lv_at hl 6 rfl) ?_
    refine st_T_3 hC hP hD hS ((noted * 5) + 4) act (by omega) dX1_addNote_71 (fun H locs hP hD hS => ?_)
    refine lv_aload_n hx hb dX1_addNote_72 rfl (lv_at hl 1 rfl) ?_
    refine lv_dup hx hb dX1_addNote_73 rfl ?_
    refine g_T_0_noted hC hP mw_14 dX1_addNote_74 ?_
    refine lv_iconst (v := (nI 1)) hx hb dX1_addNote_77 (by decide +kernel) ?_
    refine lv_iadd hx hb dX1_addNote_78 ?_
    refine wl_re (show nI noted + nI 1 = nI (noted + 1) from nI_add noted 1) ?_
    refine p_T_0_noted hC hP hD hS (noted + 1) mw_14 dX1_addNote_79 (fun H locs hP hD hS => ?_)
    refine lv_aload_n hx hb dX1_addNote_82 rfl (lv_at hl 1 rfl) ?_
    refine g_T_0_noted hC hP mw_14 dX1_addNote_83 ?_
    exact wl_iret hC hr hlk hm rfl hP hD hS dX1_addNote_86
  · have hm := hm.trans (if_neg c1)
    refine lv_aload_n hx hb dX1_addNote_9 rfl (lv_at hl 0 rfl) ?_
    refine g_T_0_noted hC hP mw_14 dX1_addNote_10 ?_
    exact wl_iret hC hr hlk hm rfl hP hD hS dX1_addNote_13
def m_X1_isNoteSo (notes : (Nat → Int32)) (i : Nat) (kind : Int32) : Bool := (wl_bnd ((if (notes ((i * 5) + 2)) = (nI 1) then true else false) : Bool) (fun z1 => (wl_bnd (m_X3_actOf kind (notes ((i * 5) + 1)) z1 (notes ((i * 5) + 3))) (fun z3 => (if z3 = (notes ((i * 5) + 4)) then true else false)))))
set_option maxHeartbeats 4000000 in
set_option maxRecDepth 100000 in
theorem c_X1_isNoteSo {l : Launch} {D : va_G} {E : Nat → ClassId} {a : Nat → Nat} {counts : Int32} {people : Nat} {day : Int32} {listed : Int32} {followed : Int32} {struck : Int32} {noted : Nat} {undoable : Nat} {kinds : (Nat → Int32)} {tempers : (Nat → Int32)} {notes : (Nat → Int32)} {past : (Nat → Int32)} {i : Nat} {kind : Int32} (hi : i < 6) : wl_Met (τ := Bool) l D E yX1_isNoteSo cX1_isNoteSo 4 (some .boolean) ({ frames := 2, cells := 0, slots := 0, locals := 50 } : Room) [.ref (a 0), .int (nI i), .int kind] (wT E a counts people day listed followed struck noted undoable kinds tempers notes past) (fun z => some (.int (wl_b z))) (fun _ => (wT E a counts people day listed followed struck noted undoable kinds tempers notes past)) (m_X1_isNoteSo notes i kind) := by
  refine wl_enter (own := RX1) (by decide +kernel) rfl (Nat.le_of_ble_eq_true rfl) ?_
  intro p0 e0 s0 m0 bl0 mt0 c0 A hC hr hlk hA H locs hP hD hS ls hl
  have hx := hC.1
  have hb := hC.2.1
  have hl : lv_has ls 4 [(0, .ref (a 0)), (1, .int (nI i)), (2, .int kind)] := hl
  have hm := m_X1_isNoteSo.eq_1 notes i kind
  refine lv_iload_n hx hb dX1_isNoteSo_0 rfl (lv_at hl 1 rfl) ?_
  refine lv_iconst (v := (nI 5)) hx hb dX1_isNoteSo_1 (by decide +kernel) ?_
  refine lv_imul hx hb dX1_isNoteSo_2 ?_
  refine wl_re (show nI i * nI 5 = nI (i * 5) from pk_mul i 5) ?_
  refine lv_istore_n (lv' := [(3, .int (nI (i * 5))), (0, .ref (a 0)), (1, .int (nI i)), (2, .int kind)]) hx hb dX1_isNoteSo_3 rfl hl (by decide) rfl (fun ls hl => ?_)
  refine lv_iload_n hx hb dX1_isNoteSo_4 rfl (lv_at hl 3 rfl) ?_
  refine lv_aload_n hx hb dX1_isNoteSo_5 rfl (lv_at hl 1 rfl) ?_
  refine g_T_0_notes hC hP mw_132 dX1_isNoteSo_6 ?_
  refine lv_iload_n hx hb dX1_isNoteSo_9 rfl (lv_at hl 0 rfl) ?_
  refine lv_iconst (v := (nI 1)) hx hb dX1_isNoteSo_10 (by decide +kernel) ?_
  refine lv_iadd hx hb dX1_isNoteSo_11 ?_
  refine wl_re (show nI (i * 5) + nI 1 = nI ((i * 5) + 1) from nI_add (i * 5) 1) ?_
  refine ld_T_3 hC hP ((i * 5) + 1) (by omega) dX1_isNoteSo_12 ?_
  refine lv_aload_n hx hb dX1_isNoteSo_13 rfl (lv_at hl 1 rfl) ?_
  refine g_T_0_notes hC hP mw_132 dX1_isNoteSo_14 ?_
  refine lv_iload_n hx hb dX1_isNoteSo_17 rfl (lv_at hl 0 rfl) ?_
  refine lv_iconst (v := (nI 2)) hx hb dX1_isNoteSo_18 (by decide +kernel) ?_
  refine lv_iadd hx hb dX1_isNoteSo_19 ?_
  refine wl_re (show nI (i * 5) + nI 2 = nI ((i * 5) + 2) from nI_add (i * 5) 2) ?_
  refine ld_T_3 hC hP ((i * 5) + 2) (by omega) dX1_isNoteSo_20 ?_
  refine lv_iconst (v := (nI 1)) hx hb dX1_isNoteSo_21 (by decide +kernel) ?_
  obtain ⟨u1, hj1, hk1⟩ := wl_bx hm
  refine wl_J u1 30 (fun z1 => [.int (wl_b z1), .int (notes ((i * 5) + 1)), .int kind]) 4 (fun z1 => [(3, .int (nI (i * 5))), (0, .ref (a 0))]) D A s0.heap (fun z1 => (wT E a counts people day listed followed struck noted undoable kinds tempers notes past)) (fun z1 hz1 ls H locs hP hD hS hl => ?_) (fun J1 => ?_)
  · have hm := hk1 z1 hz1
    refine lv_aload_n hx hb dX1_isNoteSo_30 rfl (lv_at hl 1 rfl) ?_
    refine g_T_0_notes hC hP mw_132 dX1_isNoteSo_31 ?_
    refine lv_iload_n hx hb dX1_isNoteSo_34 rfl (lv_at hl 0 rfl) ?_
    refine lv_iconst (v := (nI 3)) hx hb dX1_isNoteSo_35 (by decide +kernel) ?_
    refine lv_iadd hx hb dX1_isNoteSo_36 ?_
    refine wl_re (show nI (i * 5) + nI 3 = nI ((i * 5) + 3) from nI_add (i * 5) 3) ?_
    refine ld_T_3 hC hP ((i * 5) + 3) (by omega) dX1_isNoteSo_37 ?_
    refine wl_callNi hC (c_X3_actOf (kind := kind) (day := (notes ((i * 5) + 1))) (followed := z1) (temper := (notes ((i * 5) + 3))) ) lk_RX1_55 rfl ⟨rfl, rfl, Nat.le_of_ble_eq_true rfl, Nat.le_of_ble_eq_true rfl⟩ hP hS hA hl.1 rfl (Nat.le_of_ble_eq_true rfl) dX1_isNoteSo_38 ⟨Nat.zero_le _, Nat.zero_le _⟩ (fun z3 hz3 H locs hP hS => ?_)
    have hm := wl_bz hm hz3
    refine lv_aload_n hx hb dX1_isNoteSo_41 rfl (lv_at hl 1 rfl) ?_
    refine g_T_0_notes hC hP mw_132 dX1_isNoteSo_42 ?_
    refine lv_iload_n hx hb dX1_isNoteSo_45 rfl (lv_at hl 0 rfl) ?_
    refine lv_iconst (v := (nI 4)) hx hb dX1_isNoteSo_46 (by decide +kernel) ?_
    refine lv_iadd hx hb dX1_isNoteSo_47 ?_
    refine wl_re (show nI (i * 5) + nI 4 = nI ((i * 5) + 4) from nI_add (i * 5) 4) ?_
    refine ld_T_3 hC hP ((i * 5) + 4) (by omega) dX1_isNoteSo_48 ?_
    refine lv_icmp_ne hx hb (tgt := 56) dX1_isNoteSo_49 (by decide) (fun c4 => ?_) (fun c4 => ?_)
    · have hm := hm.trans (if_neg c4)
      refine lv_iconst (v := (nI 0)) hx hb dX1_isNoteSo_56 (by decide +kernel) ?_
      exact wl_zret (v := false) hC hr hlk hm rfl hP hD hS dX1_isNoteSo_57
    · have hm := hm.trans (if_pos c4)
      refine lv_iconst (v := (nI 1)) hx hb dX1_isNoteSo_52 (by decide +kernel) ?_
      refine lv_goto (tgt := 57) hx hb dX1_isNoteSo_53 (by decide) ?_
      exact wl_zret (v := true) hC hr hlk hm rfl hP hD hS dX1_isNoteSo_57
  · refine lv_icmp_ne hx hb (tgt := 29) dX1_isNoteSo_22 (by decide) (fun c2 => ?_) (fun c2 => ?_)
    · have hj1 := hj1.trans (if_neg c2)
      refine lv_iconst (v := (nI 0)) hx hb dX1_isNoteSo_29 (by decide +kernel) ?_
      exact J1 _ hj1 ls H locs hP hD hS (lv_sub hl [0, 1] rfl)
    · have hj1 := hj1.trans (if_pos c2)
      refine lv_iconst (v := (nI 1)) hx hb dX1_isNoteSo_25 (by decide +kernel) ?_
      refine lv_goto (tgt := 30) hx hb dX1_isNoteSo_26 (by decide) ?_
      exact J1 _ hj1 ls H locs hP hD hS (lv_sub hl [0, 1] rfl)
def m_X1_kindsByNotes_l16 (notes : (Nat → Int32)) (p : Int32) (k1 : Nat) (k3 : Nat) (v3 : Bool) : Bool := (if v3 = true then (if (notes (k3 * 5)) = p then (wl_bnd (m_X1_isNoteSo notes k3 (nI k1)) (fun z7 => (if z7 = true then true else false))) else true) else false)
def m_X1_kindsByNotes_l4 (noted : Nat) (notes : (Nat → Int32)) (p : Int32) (k1 : Nat) (v1 : Int32) : Int32 := (wl_bnd (wl_iter (m_X1_kindsByNotes_l16 notes p k1) noted 0 true) (fun z3 => (wl_bnd ((if z3 = true then true else false) : Bool) (fun z10 => (wl_bnd (m_X3_withBit v1 k1 (wl_b z10)) (fun z12 => z12))))))
def m_X1_kindsByNotes (noted : Nat) (notes : (Nat → Int32)) (p : Int32) : Int32 := (wl_bnd (wl_iter (m_X1_kindsByNotes_l4 noted notes p) 6 0 (nI 0)) (fun z1 => z1))
set_option maxHeartbeats 4000000 in
set_option maxRecDepth 100000 in
theorem c_X1_kindsByNotes {l : Launch} {D : va_G} {E : Nat → ClassId} {a : Nat → Nat} {counts : Int32} {people : Nat} {day : Int32} {listed : Int32} {followed : Int32} {struck : Int32} {noted : Nat} {undoable : Nat} {kinds : (Nat → Int32)} {tempers : (Nat → Int32)} {notes : (Nat → Int32)} {past : (Nat → Int32)} {p : Int32} (hN6 : noted ≤ 6) : wl_Met (τ := Int32) l D E yX1_kindsByNotes cX1_kindsByNotes 6 (some .int) ({ frames := 3, cells := 0, slots := 0, locals := 73 } : Room) [.ref (a 0), .int p] (wT E a counts people day listed followed struck noted undoable kinds tempers notes past) (fun z => some (.int z)) (fun _ => (wT E a counts people day listed followed struck noted undoable kinds tempers notes past)) (m_X1_kindsByNotes noted notes p) := by
  refine wl_enter (own := RX1) (by decide +kernel) rfl (Nat.le_of_ble_eq_true rfl) ?_
  intro p0 e0 s0 m0 bl0 mt0 c0 A hC hr hlk hA H locs hP hD hS ls hl
  have hx := hC.1
  have hb := hC.2.1
  have hl : lv_has ls 6 [(0, .ref (a 0)), (1, .int p)] := hl
  have hm := m_X1_kindsByNotes.eq_1 noted notes p
  refine lv_iconst (v := (nI 0)) hx hb dX1_kindsByNotes_0 (by decide +kernel) ?_
  refine lv_istore_n (lv' := [(2, .int (nI 0)), (0, .ref (a 0)), (1, .int p)]) hx hb dX1_kindsByNotes_1 rfl hl (by decide) rfl (fun ls hl => ?_)
  refine lv_iconst (v := (nI 0)) hx hb dX1_kindsByNotes_2 (by decide +kernel) ?_
  refine lv_istore_n (lv' := [(3, .int (nI 0)), (2, .int (nI 0)), (0, .ref (a 0)), (1, .int p)]) hx hb dX1_kindsByNotes_3 rfl hl (by decide) rfl (fun ls hl => ?_)
  obtain ⟨u1, hu1, hk1⟩ := wl_bx hm
  refine wl_for (D := D) (A := A) (H0 := s0.heap) (m_X1_kindsByNotes_l4 noted notes p) 6 0 6 (nI 0) 4 6 (fun k1 v1 => [(0, .ref (a 0)), (1, .int p), (2, .int v1), (3, .int (nI k1))]) (fun k1 v1 => (wT E a counts people day listed followed struck noted undoable kinds tempers notes past)) (fun k1 v1 => True) (by omega) trivial ?_ ?_ hP hD hS (lv_sub hl [2, 3, 1, 0] rfl)
  · intro z1 hv1 hI1 ls H locs hP hD hS hl
    have hm := hk1 z1 (hu1.trans hv1)
    refine lv_iload_n hx hb dX1_kindsByNotes_4 rfl (lv_at hl 3 rfl) ?_
    refine lv_bipush (v := (nI 6)) hx hb dX1_kindsByNotes_5 (by decide +kernel) ?_
    refine wl_icmp_ge_n hx hb (by first | omega | exact Nat.lt_of_le_of_lt Nat.and_le_right (by omega) | exact Nat.pow_lt_pow_right (by omega) (by omega) | exact Nat.lt_trans (by assumption) (Nat.pow_lt_pow_right (by omega) (by omega))) (by first | omega | exact Nat.lt_of_le_of_lt Nat.and_le_right (by omega) | exact Nat.pow_lt_pow_right (by omega) (by omega) | exact Nat.lt_trans (by assumption) (Nat.pow_lt_pow_right (by omega) (by omega))) (tgt := 88) dX1_kindsByNotes_7 (by decide) (fun c13 => ?_) (fun c13 => absurd (by omega) c13)
    refine lv_iload_n hx hb dX1_kindsByNotes_88 rfl (lv_at hl 2 rfl) ?_
    exact wl_iret hC hr hlk hm rfl hP hD hS dX1_kindsByNotes_89
  · intro k1 v1 hlo1 hhi1 hI1 IH1 ls H locs hP hD hS hl
    have hb1 := m_X1_kindsByNotes_l4.eq_1 noted notes p k1 v1
    refine lv_iload_n hx hb dX1_kindsByNotes_4 rfl (lv_at hl 3 rfl) ?_
    refine lv_bipush (v := (nI 6)) hx hb dX1_kindsByNotes_5 (by decide +kernel) ?_
    refine wl_icmp_ge_n hx hb (by first | omega | exact Nat.lt_of_le_of_lt Nat.and_le_right (by omega) | exact Nat.pow_lt_pow_right (by omega) (by omega) | exact Nat.lt_trans (by assumption) (Nat.pow_lt_pow_right (by omega) (by omega))) (by first | omega | exact Nat.lt_of_le_of_lt Nat.and_le_right (by omega) | exact Nat.pow_lt_pow_right (by omega) (by omega) | exact Nat.lt_trans (by assumption) (Nat.pow_lt_pow_right (by omega) (by omega))) (tgt := 88) dX1_kindsByNotes_7 (by decide) (fun c2 => absurd c2 (by omega)) (fun c2 => ?_)
    refine lv_iconst (v := (nI 1)) hx hb dX1_kindsByNotes_10 (by decide +kernel) ?_
    refine lv_istore (lv' := [(4, .int (nI 1)), (0, .ref (a 0)), (1, .int p), (2, .int v1), (3, .int (nI k1))]) hx hb dX1_kindsByNotes_11 hl (by decide) rfl (fun ls hl => ?_)
    refine lv_iconst (v := (nI 0)) hx hb dX1_kindsByNotes_13 (by decide +kernel) ?_
    refine lv_istore (lv' := [(5, .int (nI 0)), (4, .int (nI 1)), (0, .ref (a 0)), (1, .int p), (2, .int v1), (3, .int (nI k1))]) hx hb dX1_kindsByNotes_14 hl (by decide) rfl (fun ls hl => ?_)
    obtain ⟨u3, hu3, hk3⟩ := wl_bx hb1
    refine wl_for (D := D) (A := A) (H0 := s0.heap) (m_X1_kindsByNotes_l16 notes p k1) noted 0 noted true 16 6 (fun k3 v3 => [(0, .ref (a 0)), (1, .int p), (2, .int v1), (3, .int (nI k1)), (4, .int (wl_b v3)), (5, .int (nI k3))]) (fun k3 v3 => (wT E a counts people day listed followed struck noted undoable kinds tempers notes past)) (fun k3 v3 => True) (by omega) trivial ?_ ?_ hP hD hS (lv_sub hl [2, 3, 4, 5, 1, 0] rfl)
    · intro z3 hv3 hI3 ls H locs hP hD hS hl
      have hb1 := hk3 z3 (hu3.trans hv3)
      refine lv_iload hx hb dX1_kindsByNotes_16 (lv_at hl 5 rfl) ?_
      refine lv_aload_n hx hb dX1_kindsByNotes_18 rfl (lv_at hl 0 rfl) ?_
      refine g_T_0_noted hC hP mw_14 dX1_kindsByNotes_19 ?_
      refine wl_icmp_ge_n hx hb (by first | omega | exact Nat.lt_of_le_of_lt Nat.and_le_right (by omega) | exact Nat.pow_lt_pow_right (by omega) (by omega) | exact Nat.lt_trans (by assumption) (Nat.pow_lt_pow_right (by omega) (by omega))) (by first | omega | exact Nat.lt_of_le_of_lt Nat.and_le_right (by omega) | exact Nat.pow_lt_pow_right (by omega) (by omega) | exact Nat.lt_trans (by assumption) (Nat.pow_lt_pow_right (by omega) (by omega))) (tgt := 66) dX1_kindsByNotes_22 (by decide) (fun c9 => ?_) (fun c9 => absurd (by omega) c9)
      refine lv_iload_n hx hb dX1_kindsByNotes_66 rfl (lv_at hl 2 rfl) ?_
      refine lv_iload_n hx hb dX1_kindsByNotes_67 rfl (lv_at hl 3 rfl) ?_
      refine lv_iload hx hb dX1_kindsByNotes_68 (lv_at hl 4 rfl) ?_
      obtain ⟨u10, hj10, hk10⟩ := wl_bx hb1
      refine wl_J u10 78 (fun z10 => [.int (wl_b z10), .int (nI k1), .int v1]) 6 (fun z10 => [(0, .ref (a 0)), (1, .int p), (3, .int (nI k1))]) D A s0.heap (fun z10 => (wT E a counts people day listed followed struck noted undoable kinds tempers notes past)) (fun z10 hz10 ls H locs hP hD hS hl => ?_) (fun J10 => ?_)
      · have hb1 := hk10 z10 hz10
        refine wl_callNi hC (c_X3_withBit (bits := v1) (i := k1) (is := (wl_b z10)) ) lk_RX1_63 rfl ⟨rfl, rfl, Nat.le_of_ble_eq_true rfl, Nat.le_of_ble_eq_true rfl⟩ hP hS hA hl.1 rfl (Nat.le_of_ble_eq_true rfl) dX1_kindsByNotes_78 ⟨Nat.zero_le _, Nat.zero_le _⟩ (fun z12 hz12 H locs hP hS => ?_)
        have hb1 := wl_bz hb1 hz12
        refine lv_istore_n (lv' := [(2, .int z12), (0, .ref (a 0)), (1, .int p), (3, .int (nI k1))]) hx hb dX1_kindsByNotes_81 rfl hl (by decide) rfl (fun ls hl => ?_)
        refine lv_iinc (v := (nI (k1 + 1))) (lv' := [(3, .int (nI (k1 + 1))), (2, .int z12), (0, .ref (a 0)), (1, .int p)]) hx hb dX1_kindsByNotes_82 hl (k := 3) rfl (wl_inc k1 1) (by decide) rfl (fun ls hl => ?_)
        refine lv_goto (tgt := 4) hx hb dX1_kindsByNotes_85 (by decide) ?_
        exact IH1 _ hb1 trivial ls H locs hP hD hS (lv_sub hl [2, 3, 1, 0] rfl)
      · refine wl_if_eq_b hx hb (tgt := 77) dX1_kindsByNotes_70 (by decide) (fun c11 => ?_) (fun c11 => ?_)
        · have hj10 := hj10.trans (if_neg c11)
          refine lv_iconst (v := (nI 0)) hx hb dX1_kindsByNotes_77 (by decide +kernel) ?_
          exact J10 _ hj10 ls H locs hP hD hS (lv_sub hl [0, 1, 3] rfl)
        · have hj10 := hj10.trans (if_pos c11)
          refine lv_iconst (v := (nI 1)) hx hb dX1_kindsByNotes_73 (by decide +kernel) ?_
          refine lv_goto (tgt := 78) hx hb dX1_kindsByNotes_74 (by decide) ?_
          exact J10 _ hj10 ls H locs hP hD hS (lv_sub hl [0, 1, 3] rfl)
    · intro k3 v3 hlo3 hhi3 hI3 IH3 ls H locs hP hD hS hl
      have hb3 := m_X1_kindsByNotes_l16.eq_1 notes p k1 k3 v3
      refine lv_iload hx hb dX1_kindsByNotes_16 (lv_at hl 5 rfl) ?_
      refine lv_aload_n hx hb dX1_kindsByNotes_18 rfl (lv_at hl 0 rfl) ?_
      refine g_T_0_noted hC hP mw_14 dX1_kindsByNotes_19 ?_
      refine wl_icmp_ge_n hx hb (by first | omega | exact Nat.lt_of_le_of_lt Nat.and_le_right (by omega) | exact Nat.pow_lt_pow_right (by omega) (by omega) | exact Nat.lt_trans (by assumption) (Nat.pow_lt_pow_right (by omega) (by omega))) (by first | omega | exact Nat.lt_of_le_of_lt Nat.and_le_right (by omega) | exact Nat.pow_lt_pow_right (by omega) (by omega) | exact Nat.lt_trans (by assumption) (Nat.pow_lt_pow_right (by omega) (by omega))) (tgt := 66) dX1_kindsByNotes_22 (by decide) (fun c4 => absurd c4 (by omega)) (fun c4 => ?_)
      refine lv_iload hx hb dX1_kindsByNotes_25 (lv_at hl 4 rfl) ?_
      refine wl_if_eq_b hx hb (tgt := 57) dX1_kindsByNotes_27 (by decide) (fun c5 => ?_) (fun c5 => ?_)
      · have hb3 := hb3.trans (if_neg c5)
        refine lv_iconst (v := (nI 0)) hx hb dX1_kindsByNotes_57 (by decide +kernel) ?_
        refine lv_istore (lv' := [(4, .int (nI 0)), (0, .ref (a 0)), (1, .int p), (2, .int v1), (3, .int (nI k1)), (5, .int (nI k3))]) hx hb dX1_kindsByNotes_58 hl (by decide) rfl (fun ls hl => ?_)
        refine lv_iinc (v := (nI (k3 + 1))) (lv' := [(5, .int (nI (k3 + 1))), (4, .int (nI 0)), (0, .ref (a 0)), (1, .int p), (2, .int v1), (3, .int (nI k1))]) hx hb dX1_kindsByNotes_60 hl (k := 5) rfl (wl_inc k3 1) (by decide) rfl (fun ls hl => ?_)
        refine lv_goto (tgt := 16) hx hb dX1_kindsByNotes_63 (by decide) ?_
        exact IH3 _ hb3 trivial ls H locs hP hD hS (lv_sub hl [2, 3, 4, 5, 1, 0] rfl)
      · have hb3 := hb3.trans (if_pos c5)
        refine lv_aload_n hx hb dX1_kindsByNotes_30 rfl (lv_at hl 0 rfl) ?_
        refine g_T_0_notes hC hP mw_132 dX1_kindsByNotes_31 ?_
        refine lv_iload hx hb dX1_kindsByNotes_34 (lv_at hl 5 rfl) ?_
        refine lv_iconst (v := (nI 5)) hx hb dX1_kindsByNotes_36 (by decide +kernel) ?_
        refine lv_imul hx hb dX1_kindsByNotes_37 ?_
        refine wl_re (show nI k3 * nI 5 = nI (k3 * 5) from pk_mul k3 5) ?_
        refine ld_T_3 hC hP (k3 * 5) (by omega) dX1_kindsByNotes_38 ?_
        refine lv_iload_n hx hb dX1_kindsByNotes_39 rfl (lv_at hl 1 rfl) ?_
        refine lv_icmp_ne hx hb (tgt := 53) dX1_kindsByNotes_40 (by decide) (fun c6 => ?_) (fun c6 => ?_)
        · have hb3 := hb3.trans (if_neg c6)
          refine lv_iconst (v := (nI 1)) hx hb dX1_kindsByNotes_53 (by decide +kernel) ?_
          refine lv_goto (tgt := 58) hx hb dX1_kindsByNotes_54 (by decide) ?_
          refine lv_istore (lv' := [(4, .int (nI 1)), (0, .ref (a 0)), (1, .int p), (2, .int v1), (3, .int (nI k1)), (5, .int (nI k3))]) hx hb dX1_kindsByNotes_58 hl (by decide) rfl (fun ls hl => ?_)
          refine lv_iinc (v := (nI (k3 + 1))) (lv' := [(5, .int (nI (k3 + 1))), (4, .int (nI 1)), (0, .ref (a 0)), (1, .int p), (2, .int v1), (3, .int (nI k1))]) hx hb dX1_kindsByNotes_60 hl (k := 5) rfl (wl_inc k3 1) (by decide) rfl (fun ls hl => ?_)
          refine lv_goto (tgt := 16) hx hb dX1_kindsByNotes_63 (by decide) ?_
          exact IH3 _ hb3 trivial ls H locs hP hD hS (lv_sub hl [2, 3, 4, 5, 1, 0] rfl)
        · have hb3 := hb3.trans (if_pos c6)
          refine lv_aload_n hx hb dX1_kindsByNotes_43 rfl (lv_at hl 0 rfl) ?_
          refine lv_iload hx hb dX1_kindsByNotes_44 (lv_at hl 5 rfl) ?_
          refine lv_iload_n hx hb dX1_kindsByNotes_46 rfl (lv_at hl 3 rfl) ?_
          refine wl_callVi hC (c_X1_isNoteSo (i := k3) (kind := (nI k1)) (by first | assumption | omega)) lk_RX1_59 rfl ⟨rfl, rfl, Nat.le_of_ble_eq_true rfl, Nat.le_of_ble_eq_true rfl⟩ hP hD hS hA 0 rfl (T1 := 12) rfl hl.1 rfl (Nat.le_of_ble_eq_true rfl) dX1_kindsByNotes_47 ⟨Nat.zero_le _, Nat.zero_le _⟩ (fun z7 hz7 H locs hP hD hS => ?_)
          have hb3 := wl_bz hb3 hz7
          refine wl_if_eq_b hx hb (tgt := 57) dX1_kindsByNotes_50 (by decide) (fun c8 => ?_) (fun c8 => ?_)
          · have hb3 := hb3.trans (if_neg c8)
            refine lv_iconst (v := (nI 0)) hx hb dX1_kindsByNotes_57 (by decide +kernel) ?_
            refine lv_istore (lv' := [(4, .int (nI 0)), (0, .ref (a 0)), (1, .int p), (2, .int v1), (3, .int (nI k1)), (5, .int (nI k3))]) hx hb dX1_kindsByNotes_58 hl (by decide) rfl (fun ls hl => ?_)
            refine lv_iinc (v := (nI (k3 + 1))) (lv' := [(5, .int (nI (k3 + 1))), (4, .int (nI 0)), (0, .ref (a 0)), (1, .int p), (2, .int v1), (3, .int (nI k1))]) hx hb dX1_kindsByNotes_60 hl (k := 5) rfl (wl_inc k3 1) (by decide) rfl (fun ls hl => ?_)
            refine lv_goto (tgt := 16) hx hb dX1_kindsByNotes_63 (by decide) ?_
            exact IH3 _ hb3 trivial ls H locs hP hD hS (lv_sub hl [2, 3, 4, 5, 1, 0] rfl)
          · have hb3 := hb3.trans (if_pos c8)
            refine lv_iconst (v := (nI 1)) hx hb dX1_kindsByNotes_53 (by decide +kernel) ?_
            refine lv_goto (tgt := 58) hx hb dX1_kindsByNotes_54 (by decide) ?_
            refine lv_istore (lv' := [(4, .int (nI 1)), (0, .ref (a 0)), (1, .int p), (2, .int v1), (3, .int (nI k1)), (5, .int (nI k3))]) hx hb dX1_kindsByNotes_58 hl (by decide) rfl (fun ls hl => ?_)
            refine lv_iinc (v := (nI (k3 + 1))) (lv' := [(5, .int (nI (k3 + 1))), (4, .int (nI 1)), (0, .ref (a 0)), (1, .int p), (2, .int v1), (3, .int (nI k1))]) hx hb dX1_kindsByNotes_60 hl (k := 5) rfl (wl_inc k3 1) (by decide) rfl (fun ls hl => ?_)
            refine lv_goto (tgt := 16) hx hb dX1_kindsByNotes_63 (by decide) ?_
            exact IH3 _ hb3 trivial ls H locs hP hD hS (lv_sub hl [2, 3, 4, 5, 1, 0] rfl)
def m_X1_startWalk (counts : Int32) (day : Int32) (listed : Int32) (followed : Int32) (kinds : (Nat → Int32)) (tempers : (Nat → Int32)) (p : Nat) : Int32 × Int32 × Int32 × Int32 × Bool × Bool := (wl_bnd (m_X3_bitOf listed p) (fun z1 => (wl_bnd ((if z1 = (nI 1) then true else false) : Bool) (fun z2 => (wl_bnd (m_X3_bitOf followed p) (fun z4 => (if z4 = (nI 1) then ((kinds p), (tempers p), counts, day, z2, true) else ((kinds p), (tempers p), counts, day, z2, false))))))))
set_option maxHeartbeats 4000000 in
set_option maxRecDepth 100000 in
theorem c_X1_startWalk {l : Launch} {D : va_G} {E : Nat → ClassId} {a : Nat → Nat} {counts : Int32} {people : Nat} {day : Int32} {listed : Int32} {followed : Int32} {struck : Int32} {noted : Nat} {undoable : Nat} {kinds : (Nat → Int32)} {tempers : (Nat → Int32)} {notes : (Nat → Int32)} {past : (Nat → Int32)} {wkind : Int32} {wtemper : Int32} {wcounts : Int32} {wday : Int32} {wlisted : Bool} {wfollowed : Bool} {p : Nat} (hp : p < 7) : wl_Met (τ := Int32 × Int32 × Int32 × Int32 × Bool × Bool) l D E yX1_startWalk cX1_startWalk 3 none ({ frames := 1, cells := 0, slots := 0, locals := 21 } : Room) [.ref (a 0), .ref (a 5), .int (nI p)] (wTW E a counts people day listed followed struck noted undoable kinds tempers notes past wkind wtemper wcounts wday wlisted wfollowed) (fun _ => none) (fun z => (wTW E a counts people day listed followed struck noted undoable kinds tempers notes past z.1 z.2.1 z.2.2.1 z.2.2.2.1 z.2.2.2.2.1 z.2.2.2.2.2)) (m_X1_startWalk counts day listed followed kinds tempers p) := by
  refine wl_enter (own := RX1) (by decide +kernel) rfl (Nat.le_of_ble_eq_true rfl) ?_
  intro p0 e0 s0 m0 bl0 mt0 c0 A hC hr hlk hA H locs hP hD hS ls hl
  have hx := hC.1
  have hb := hC.2.1
  have hl : lv_has ls 3 [(0, .ref (a 0)), (1, .ref (a 5)), (2, .int (nI p))] := hl
  have hm := m_X1_startWalk.eq_1 counts day listed followed kinds tempers p
  refine lv_aload_n hx hb dX1_startWalk_0 rfl (lv_at hl 1 rfl) ?_
  refine lv_aload_n hx hb dX1_startWalk_1 rfl (lv_at hl 0 rfl) ?_
  refine g_TW_0_kinds hC hP mw_92 dX1_startWalk_2 ?_
  refine lv_iload_n hx hb dX1_startWalk_5 rfl (lv_at hl 2 rfl) ?_
  refine ld_TW_1 hC hP p (by omega) dX1_startWalk_6 ?_
  refine p_TW_5_kind hC hP hD hS (kinds p) mw_156 dX1_startWalk_7 (fun H locs hP hD hS => ?_)
  refine lv_aload_n hx hb dX1_startWalk_10 rfl (lv_at hl 1 rfl) ?_
  refine lv_aload_n hx hb dX1_startWalk_11 rfl (lv_at hl 0 rfl) ?_
  refine g_TW_0_tempers hC hP mw_93 dX1_startWalk_12 ?_
  refine lv_iload_n hx hb dX1_startWalk_15 rfl (lv_at hl 2 rfl) ?_
  refine ld_TW_2 hC hP p (by omega) dX1_startWalk_16 ?_
  refine p_TW_5_temper hC hP hD hS (tempers p) mw_157 dX1_startWalk_17 (fun H locs hP hD hS => ?_)
  refine lv_aload_n hx hb dX1_startWalk_20 rfl (lv_at hl 1 rfl) ?_
  refine lv_aload_n hx hb dX1_startWalk_21 rfl (lv_at hl 0 rfl) ?_
  refine g_TW_0_counts hC hP mw_8 dX1_startWalk_22 ?_
  refine p_TW_5_counts hC hP hD hS counts mw_158 dX1_startWalk_25 (fun H locs hP hD hS => ?_)
  refine lv_aload_n hx hb dX1_startWalk_28 rfl (lv_at hl 1 rfl) ?_
  refine lv_aload_n hx hb dX1_startWalk_29 rfl (lv_at hl 0 rfl) ?_
  refine g_TW_0_day hC hP mw_10 dX1_startWalk_30 ?_
  refine p_TW_5_day hC hP hD hS day mw_159 dX1_startWalk_33 (fun H locs hP hD hS => ?_)
  refine lv_aload_n hx hb dX1_startWalk_36 rfl (lv_at hl 1 rfl) ?_
  refine lv_aload_n hx hb dX1_startWalk_37 rfl (lv_at hl 0 rfl) ?_
  refine g_TW_0_listed hC hP mw_11 dX1_startWalk_38 ?_
  refine lv_iload_n hx hb dX1_startWalk_41 rfl (lv_at hl 2 rfl) ?_
  refine wl_callNi hC (c_X3_bitOf (bits := listed) (i := p) ) lk_RX1_77 rfl ⟨rfl, rfl, Nat.le_of_ble_eq_true rfl, Nat.le_of_ble_eq_true rfl⟩ hP hS hA hl.1 rfl (Nat.le_of_ble_eq_true rfl) dX1_startWalk_42 ⟨Nat.zero_le _, Nat.zero_le _⟩ (fun z1 hz1 H locs hP hS => ?_)
  have hm := wl_bz hm hz1
  refine lv_iconst (v := (nI 1)) hx hb dX1_startWalk_45 (by decide +kernel) ?_
  obtain ⟨u2, hj2, hk2⟩ := wl_bx hm
  refine wl_J u2 54 (fun z2 => [.int (wl_b z2), .ref (a 5)]) 3 (fun z2 => [(0, .ref (a 0)), (1, .ref (a 5)), (2, .int (nI p))]) D A s0.heap (fun z2 => (wTW E a counts people day listed followed struck noted undoable kinds tempers notes past (kinds p) (tempers p) counts day wlisted wfollowed)) (fun z2 hz2 ls H locs hP hD hS hl => ?_) (fun J2 => ?_)
  · have hm := hk2 z2 hz2
    refine p_TW_5_listed hC hP hD hS z2 mw_160 dX1_startWalk_54 (fun H locs hP hD hS => ?_)
    refine lv_aload_n hx hb dX1_startWalk_57 rfl (lv_at hl 1 rfl) ?_
    refine lv_aload_n hx hb dX1_startWalk_58 rfl (lv_at hl 0 rfl) ?_
    refine g_TW_0_followed hC hP mw_12 dX1_startWalk_59 ?_
    refine lv_iload_n hx hb dX1_startWalk_62 rfl (lv_at hl 2 rfl) ?_
    refine wl_callNi hC (c_X3_bitOf (bits := followed) (i := p) ) lk_RX1_77 rfl ⟨rfl, rfl, Nat.le_of_ble_eq_true rfl, Nat.le_of_ble_eq_true rfl⟩ hP hS hA hl.1 rfl (Nat.le_of_ble_eq_true rfl) dX1_startWalk_63 ⟨Nat.zero_le _, Nat.zero_le _⟩ (fun z4 hz4 H locs hP hS => ?_)
    have hm := wl_bz hm hz4
    refine lv_iconst (v := (nI 1)) hx hb dX1_startWalk_66 (by decide +kernel) ?_
    refine lv_icmp_ne hx hb (tgt := 74) dX1_startWalk_67 (by decide) (fun c5 => ?_) (fun c5 => ?_)
    · have hm := hm.trans (if_neg c5)
      refine lv_iconst (v := (nI 0)) hx hb dX1_startWalk_74 (by decide +kernel) ?_
      refine p_TW_5_followed hC hP hD hS false mw_161 dX1_startWalk_75 (fun H locs hP hD hS => ?_)
      exact wl_vret hC hr hlk hm rfl hP hD hS dX1_startWalk_78
    · have hm := hm.trans (if_pos c5)
      refine lv_iconst (v := (nI 1)) hx hb dX1_startWalk_70 (by decide +kernel) ?_
      refine lv_goto (tgt := 75) hx hb dX1_startWalk_71 (by decide) ?_
      refine p_TW_5_followed hC hP hD hS true mw_161 dX1_startWalk_75 (fun H locs hP hD hS => ?_)
      exact wl_vret hC hr hlk hm rfl hP hD hS dX1_startWalk_78
  · refine lv_icmp_ne hx hb (tgt := 53) dX1_startWalk_46 (by decide) (fun c3 => ?_) (fun c3 => ?_)
    · have hj2 := hj2.trans (if_neg c3)
      refine lv_iconst (v := (nI 0)) hx hb dX1_startWalk_53 (by decide +kernel) ?_
      exact J2 _ hj2 ls H locs hP hD hS (lv_sub hl [0, 1, 2] rfl)
    · have hj2 := hj2.trans (if_pos c3)
      refine lv_iconst (v := (nI 1)) hx hb dX1_startWalk_49 (by decide +kernel) ?_
      refine lv_goto (tgt := 54) hx hb dX1_startWalk_50 (by decide) ?_
      exact J2 _ hj2 ls H locs hP hD hS (lv_sub hl [0, 1, 2] rfl)
set_option maxHeartbeats 4000000 in
set_option maxRecDepth 100000 in
theorem c_X2_goBy__TW_5 {l : Launch} {D : va_G} {E : Nat → ClassId} {a : Nat → Nat} {counts : Int32} {people : Nat} {day : Int32} {listed : Int32} {followed : Int32} {struck : Int32} {noted : Nat} {undoable : Nat} {kinds : (Nat → Int32)} {tempers : (Nat → Int32)} {notes : (Nat → Int32)} {past : (Nat → Int32)} {wkind : Int32} {wtemper : Int32} {wcounts : Int32} {wday : Int32} {wlisted : Bool} {wfollowed : Bool}  : wl_Met (τ := Bool × Int32 × Int32 × Bool × Bool) l D E yX2_goBy cX2_goBy 3 (some .boolean) ({ frames := 3, cells := 0, slots := 0, locals := 70 } : Room) [.ref (a 5)] (wTW E a counts people day listed followed struck noted undoable kinds tempers notes past wkind wtemper wcounts wday wlisted wfollowed) (fun z => some (.int (wl_b z.1))) (fun z => (wTW E a counts people day listed followed struck noted undoable kinds tempers notes past wkind z.2.1 wcounts z.2.2.1 z.2.2.2.1 z.2.2.2.2)) (m_X2_goBy wkind wtemper wcounts wday wlisted wfollowed) :=
  wl_lift (c_X2_goBy (a := (fun k => a ([5].getD k 0))) (wkind := wkind) (wtemper := wtemper) (wcounts := wcounts) (wday := wday) (wlisted := wlisted) (wfollowed := wfollowed)  ) [5] [0, 1, 2, 3, 4] [0, 1, 2, 3, 4, 5] (wr := ([0, 1, 2, 3, 4].filterMap (fun i => (wTW E a counts people day listed followed struck noted undoable kinds tempers notes past wkind wtemper wcounts wday wlisted wfollowed)[i]?))) rfl rfl (by decide) (by decide) (by decide) (by decide) (fun _ => rfl)
def m_X1_goBy_l4 (counts : Int32) (day : Int32) (listed : Int32) (followed : Int32) (kinds : (Nat → Int32)) (k1 : Nat) (v1 : (Nat → Int32) × Int32 × Int32 × Int32 × Int32 × Bool × Bool × Int32) : (Nat → Int32) × Int32 × Int32 × Int32 × Int32 × Bool × Bool × Int32 := (wl_bnd (m_X1_startWalk counts day listed followed kinds v1.1 k1) (fun z3 => (wl_bnd (m_X2_goBy z3.1 z3.2.1 z3.2.2.1 z3.2.2.2.1 z3.2.2.2.2.1 z3.2.2.2.2.2) (fun z4 => (wl_bnd ((if z4.1 = true then true else false) : Bool) (fun z5 => (wl_bnd (m_X3_withBit v1.2.2.2.2.2.2.2 k1 (wl_b z5)) (fun z7 => ((upd v1.1 k1 z4.2.1), z3.1, z4.2.1, z3.2.2.1, z4.2.2.1, z4.2.2.2.1, z4.2.2.2.2, z7)))))))))
def m_X1_goBy (counts : Int32) (people : Nat) (day : Int32) (listed : Int32) (followed : Int32) (struck : Int32) (kinds : (Nat → Int32)) (tempers : (Nat → Int32)) (wkind : Int32) (wtemper : Int32) (wcounts : Int32) (wday : Int32) (wlisted : Bool) (wfollowed : Bool) : Int32 × Int32 × Int32 × Int32 × Int32 × (Nat → Int32) × Int32 × Int32 × Int32 × Int32 × Bool × Bool := (wl_bnd (wl_iter (m_X1_goBy_l4 counts day listed followed kinds) people 0 (tempers, wkind, wtemper, wcounts, wday, wlisted, wfollowed, (nI 0))) (fun z1 => (wl_bnd (m_J6_bitCount_0f7a4 z1.2.2.2.2.2.2.2) (fun z9 => (z1.2.2.2.2.2.2.2, (day + (nI 1)), (listed &&& (z1.2.2.2.2.2.2.2 ^^^ (-1))), (followed &&& (z1.2.2.2.2.2.2.2 ^^^ (-1))), (struck + z9), z1.1, z1.2.1, z1.2.2.1, z1.2.2.2.1, z1.2.2.2.2.1, z1.2.2.2.2.2.1, z1.2.2.2.2.2.2.1)))))
set_option maxHeartbeats 4000000 in
set_option maxRecDepth 100000 in
theorem c_X1_goBy {l : Launch} {D : va_G} {E : Nat → ClassId} {a : Nat → Nat} {counts : Int32} {people : Nat} {day : Int32} {listed : Int32} {followed : Int32} {struck : Int32} {noted : Nat} {undoable : Nat} {kinds : (Nat → Int32)} {tempers : (Nat → Int32)} {notes : (Nat → Int32)} {past : (Nat → Int32)} {wkind : Int32} {wtemper : Int32} {wcounts : Int32} {wday : Int32} {wlisted : Bool} {wfollowed : Bool}  (hP7 : people ≤ 7) : wl_Met (τ := Int32 × Int32 × Int32 × Int32 × Int32 × (Nat → Int32) × Int32 × Int32 × Int32 × Int32 × Bool × Bool) l D E yX1_goBy cX1_goBy 4 (some .int) ({ frames := 4, cells := 0, slots := 0, locals := 92 } : Room) [.ref (a 0), .ref (a 5)] (wTW E a counts people day listed followed struck noted undoable kinds tempers notes past wkind wtemper wcounts wday wlisted wfollowed) (fun z => some (.int z.1)) (fun z => (wTW E a counts people z.2.1 z.2.2.1 z.2.2.2.1 z.2.2.2.2.1 noted undoable kinds z.2.2.2.2.2.1 notes past z.2.2.2.2.2.2.1 z.2.2.2.2.2.2.2.1 z.2.2.2.2.2.2.2.2.1 z.2.2.2.2.2.2.2.2.2.1 z.2.2.2.2.2.2.2.2.2.2.1 z.2.2.2.2.2.2.2.2.2.2.2)) (m_X1_goBy counts people day listed followed struck kinds tempers wkind wtemper wcounts wday wlisted wfollowed) := by
  refine wl_enter (own := RX1) (by decide +kernel) rfl (Nat.le_of_ble_eq_true rfl) ?_
  intro p0 e0 s0 m0 bl0 mt0 c0 A hC hr hlk hA H locs hP hD hS ls hl
  have hx := hC.1
  have hb := hC.2.1
  have hl : lv_has ls 4 [(0, .ref (a 0)), (1, .ref (a 5))] := hl
  have hm := m_X1_goBy.eq_1 counts people day listed followed struck kinds tempers wkind wtemper wcounts wday wlisted wfollowed
  refine lv_iconst (v := (nI 0)) hx hb dX1_goBy_0 (by decide +kernel) ?_
  refine lv_istore_n (lv' := [(2, .int (nI 0)), (0, .ref (a 0)), (1, .ref (a 5))]) hx hb dX1_goBy_1 rfl hl (by decide) rfl (fun ls hl => ?_)
  refine lv_iconst (v := (nI 0)) hx hb dX1_goBy_2 (by decide +kernel) ?_
  refine lv_istore_n (lv' := [(3, .int (nI 0)), (2, .int (nI 0)), (0, .ref (a 0)), (1, .ref (a 5))]) hx hb dX1_goBy_3 rfl hl (by decide) rfl (fun ls hl => ?_)
  obtain ⟨u1, hu1, hk1⟩ := wl_bx hm
  refine wl_for (D := D) (A := A) (H0 := s0.heap) (m_X1_goBy_l4 counts day listed followed kinds) people 0 people (tempers, wkind, wtemper, wcounts, wday, wlisted, wfollowed, (nI 0)) 4 4 (fun k1 v1 => [(0, .ref (a 0)), (1, .ref (a 5)), (2, .int v1.2.2.2.2.2.2.2), (3, .int (nI k1))]) (fun k1 v1 => (wTW E a counts people day listed followed struck noted undoable kinds v1.1 notes past v1.2.1 v1.2.2.1 v1.2.2.2.1 v1.2.2.2.2.1 v1.2.2.2.2.2.1 v1.2.2.2.2.2.2.1)) (fun k1 v1 => True) (by omega) trivial ?_ ?_ hP hD hS (lv_sub hl [2, 3, 1, 0] rfl)
  · intro z1 hv1 hI1 ls H locs hP hD hS hl
    have hm := hk1 z1 (hu1.trans hv1)
    refine lv_iload_n hx hb dX1_goBy_4 rfl (lv_at hl 3 rfl) ?_
    refine lv_aload_n hx hb dX1_goBy_5 rfl (lv_at hl 0 rfl) ?_
    refine g_TW_0_people hC hP mw_9 dX1_goBy_6 ?_
    refine wl_icmp_ge_n hx hb (by first | omega | exact Nat.lt_of_le_of_lt Nat.and_le_right (by omega) | exact Nat.pow_lt_pow_right (by omega) (by omega) | exact Nat.lt_trans (by assumption) (Nat.pow_lt_pow_right (by omega) (by omega))) (by first | omega | exact Nat.lt_of_le_of_lt Nat.and_le_right (by omega) | exact Nat.pow_lt_pow_right (by omega) (by omega) | exact Nat.lt_trans (by assumption) (Nat.pow_lt_pow_right (by omega) (by omega))) (tgt := 52) dX1_goBy_9 (by decide) (fun c8 => ?_) (fun c8 => absurd (by omega) c8)
    refine lv_aload_n hx hb dX1_goBy_52 rfl (lv_at hl 0 rfl) ?_
    refine lv_dup hx hb dX1_goBy_53 rfl ?_
    refine g_TW_0_listed hC hP mw_11 dX1_goBy_54 ?_
    refine lv_iload_n hx hb dX1_goBy_57 rfl (lv_at hl 2 rfl) ?_
    refine lv_iconst (v := (-1)) hx hb dX1_goBy_58 (by decide +kernel) ?_
    refine lv_ixor hx hb dX1_goBy_59 ?_
    refine lv_iand hx hb dX1_goBy_60 ?_
    refine p_TW_0_listed hC hP hD hS (listed &&& (z1.2.2.2.2.2.2.2 ^^^ (-1))) mw_11 dX1_goBy_61 (fun H locs hP hD hS => ?_)
    refine lv_aload_n hx hb dX1_goBy_64 rfl (lv_at hl 0 rfl) ?_
    refine lv_dup hx hb dX1_goBy_65 rfl ?_
    refine g_TW_0_followed hC hP mw_12 dX1_goBy_66 ?_
    refine lv_iload_n hx hb dX1_goBy_69 rfl (lv_at hl 2 rfl) ?_
    refine lv_iconst (v := (-1)) hx hb dX1_goBy_70 (by decide +kernel) ?_
    refine lv_ixor hx hb dX1_goBy_71 ?_
    refine lv_iand hx hb dX1_goBy_72 ?_
    refine p_TW_0_followed hC hP hD hS (followed &&& (z1.2.2.2.2.2.2.2 ^^^ (-1))) mw_12 dX1_goBy_73 (fun H locs hP hD hS => ?_)
    refine lv_aload_n hx hb dX1_goBy_76 rfl (lv_at hl 0 rfl) ?_
    refine lv_dup hx hb dX1_goBy_77 rfl ?_
    refine g_TW_0_struck hC hP mw_13 dX1_goBy_78 ?_
    refine lv_iload_n hx hb dX1_goBy_81 rfl (lv_at hl 2 rfl) ?_
    refine wl_callPi hC (c_J6_bitCount_0f7a4 (i := z1.2.2.2.2.2.2.2) ) lk_RX1_94 rfl ⟨rfl, rfl, Nat.le_of_ble_eq_true rfl, Nat.le_of_ble_eq_true rfl⟩ hP hS hA hl.1 rfl (Nat.le_of_ble_eq_true rfl) dX1_goBy_82 ⟨Nat.zero_le _, Nat.zero_le _⟩ (fun z9 hz9 H locs hP hS => ?_)
    have hm := wl_bz hm hz9
    refine lv_iadd hx hb dX1_goBy_85 ?_
    refine p_TW_0_struck hC hP hD hS (struck + z9) mw_13 dX1_goBy_86 (fun H locs hP hD hS => ?_)
    refine lv_aload_n hx hb dX1_goBy_89 rfl (lv_at hl 0 rfl) ?_
    refine lv_dup hx hb dX1_goBy_90 rfl ?_
    refine g_TW_0_day hC hP mw_10 dX1_goBy_91 ?_
    refine lv_iconst (v := (nI 1)) hx hb dX1_goBy_94 (by decide +kernel) ?_
    refine lv_iadd hx hb dX1_goBy_95 ?_
    refine p_TW_0_day hC hP hD hS (day + (nI 1)) mw_10 dX1_goBy_96 (fun H locs hP hD hS => ?_)
    refine lv_iload_n hx hb dX1_goBy_99 rfl (lv_at hl 2 rfl) ?_
    exact wl_iret hC hr hlk hm rfl hP hD hS dX1_goBy_100
  · intro k1 v1 hlo1 hhi1 hI1 IH1 ls H locs hP hD hS hl
    have hb1 := m_X1_goBy_l4.eq_1 counts day listed followed kinds k1 v1
    refine lv_iload_n hx hb dX1_goBy_4 rfl (lv_at hl 3 rfl) ?_
    refine lv_aload_n hx hb dX1_goBy_5 rfl (lv_at hl 0 rfl) ?_
    refine g_TW_0_people hC hP mw_9 dX1_goBy_6 ?_
    refine wl_icmp_ge_n hx hb (by first | omega | exact Nat.lt_of_le_of_lt Nat.and_le_right (by omega) | exact Nat.pow_lt_pow_right (by omega) (by omega) | exact Nat.lt_trans (by assumption) (Nat.pow_lt_pow_right (by omega) (by omega))) (by first | omega | exact Nat.lt_of_le_of_lt Nat.and_le_right (by omega) | exact Nat.pow_lt_pow_right (by omega) (by omega) | exact Nat.lt_trans (by assumption) (Nat.pow_lt_pow_right (by omega) (by omega))) (tgt := 52) dX1_goBy_9 (by decide) (fun c2 => absurd c2 (by omega)) (fun c2 => ?_)
    refine lv_aload_n hx hb dX1_goBy_12 rfl (lv_at hl 0 rfl) ?_
    refine lv_aload_n hx hb dX1_goBy_13 rfl (lv_at hl 1 rfl) ?_
    refine lv_iload_n hx hb dX1_goBy_14 rfl (lv_at hl 3 rfl) ?_
    refine wl_callVv hC (c_X1_startWalk (p := k1) (by first | assumption | omega)) lk_RX1_86 rfl ⟨rfl, rfl, Nat.le_of_ble_eq_true rfl, Nat.le_of_ble_eq_true rfl⟩ hP hD hS hA 0 rfl (T1 := 12) rfl hl.1 rfl (Nat.le_of_ble_eq_true rfl) dX1_goBy_15 ⟨Nat.zero_le _, Nat.zero_le _⟩ (fun z3 hz3 H locs hP hD hS => ?_)
    have hb1 := wl_bz hb1 hz3
    refine lv_iload_n hx hb dX1_goBy_18 rfl (lv_at hl 2 rfl) ?_
    refine lv_iload_n hx hb dX1_goBy_19 rfl (lv_at hl 3 rfl) ?_
    refine lv_aload_n hx hb dX1_goBy_20 rfl (lv_at hl 1 rfl) ?_
    refine wl_callVi hC (c_X2_goBy__TW_5  ) lk_RX1_90 rfl ⟨rfl, rfl, Nat.le_of_ble_eq_true rfl, Nat.le_of_ble_eq_true rfl⟩ hP hD hS hA 5 rfl (T1 := 6) rfl hl.1 rfl (Nat.le_of_ble_eq_true rfl) dX1_goBy_21 ⟨Nat.zero_le _, Nat.zero_le _⟩ (fun z4 hz4 H locs hP hD hS => ?_)
    have hb1 := wl_bz hb1 hz4
    obtain ⟨u5, hj5, hk5⟩ := wl_bx hb1
    refine wl_J u5 32 (fun z5 => [.int (wl_b z5), .int (nI k1), .int v1.2.2.2.2.2.2.2]) 4 (fun z5 => [(0, .ref (a 0)), (1, .ref (a 5)), (3, .int (nI k1))]) D A s0.heap (fun z5 => (wTW E a counts people day listed followed struck noted undoable kinds v1.1 notes past z3.1 z4.2.1 z3.2.2.1 z4.2.2.1 z4.2.2.2.1 z4.2.2.2.2)) (fun z5 hz5 ls H locs hP hD hS hl => ?_) (fun J5 => ?_)
    · have hb1 := hk5 z5 hz5
      refine wl_callNi hC (c_X3_withBit (bits := v1.2.2.2.2.2.2.2) (i := k1) (is := (wl_b z5)) ) lk_RX1_63 rfl ⟨rfl, rfl, Nat.le_of_ble_eq_true rfl, Nat.le_of_ble_eq_true rfl⟩ hP hS hA hl.1 rfl (Nat.le_of_ble_eq_true rfl) dX1_goBy_32 ⟨Nat.zero_le _, Nat.zero_le _⟩ (fun z7 hz7 H locs hP hS => ?_)
      have hb1 := wl_bz hb1 hz7
      refine lv_istore_n (lv' := [(2, .int z7), (0, .ref (a 0)), (1, .ref (a 5)), (3, .int (nI k1))]) hx hb dX1_goBy_35 rfl hl (by decide) rfl (fun ls hl => ?_)
      refine lv_aload_n hx hb dX1_goBy_36 rfl (lv_at hl 1 rfl) ?_
      refine g_TW_0_tempers hC hP mw_93 dX1_goBy_37 ?_
      refine lv_iload_n hx hb dX1_goBy_40 rfl (lv_at hl 3 rfl) ?_
      refine lv_aload_n hx hb dX1_goBy_41 rfl (lv_at hl 2 rfl) ?_
      refine g_TW_5_temper hC hP mw_157 dX1_goBy_42 ?_
      refine st_TW_2 hC hP hD hS k1 z4.2.1 (by omega) dX1_goBy_45 (fun H locs hP hD hS => ?_)
      refine lv_iinc (v := (nI (k1 + 1))) (lv' := [(3, .int (nI (k1 + 1))), (2, .int z7), (0, .ref (a 0)), (1, .ref (a 5))]) hx hb dX1_goBy_46 hl (k := 3) rfl (wl_inc k1 1) (by decide) rfl (fun ls hl => ?_)
      refine lv_goto (tgt := 4) hx hb dX1_goBy_49 (by decide) ?_
      exact IH1 _ hb1 trivial ls H locs hP hD hS (lv_sub hl [2, 3, 1, 0] rfl)
    · refine wl_if_eq_b hx hb (tgt := 31) dX1_goBy_24 (by decide) (fun c6 => ?_) (fun c6 => ?_)
      · have hj5 := hj5.trans (if_neg c6)
        refine lv_iconst (v := (nI 0)) hx hb dX1_goBy_31 (by decide +kernel) ?_
        exact J5 _ hj5 ls H locs hP hD hS (lv_sub hl [0, 1, 3] rfl)
      · have hj5 := hj5.trans (if_pos c6)
        refine lv_iconst (v := (nI 1)) hx hb dX1_goBy_27 (by decide +kernel) ?_
        refine lv_goto (tgt := 32) hx hb dX1_goBy_28 (by decide) ?_
        exact J5 _ hj5 ls H locs hP hD hS (lv_sub hl [0, 1, 3] rfl)
def m_X1_keepPast (day : Int32) (listed : Int32) (followed : Int32) (struck : Int32) (undoable : Nat) (tempers : (Nat → Int32)) (past : (Nat → Int32)) : Nat × (Nat → Int32) := (wl_bnd ((if undoable < 8 then (undoable, past) else (7, (va_cpy past past 11 0 77))) : Nat × (Nat → Int32)) (fun z1 => ((z1.1 + 1), (upd (upd (upd (upd (va_cpy tempers z1.2 0 (z1.1 * 11) 7) ((z1.1 * 11) + 7) listed) (((z1.1 * 11) + 7) + 1) followed) (((z1.1 * 11) + 7) + 2) struck) (((z1.1 * 11) + 7) + 3) day))))
set_option maxHeartbeats 4000000 in
set_option maxRecDepth 100000 in
theorem c_X1_keepPast {l : Launch} {D : va_G} {E : Nat → ClassId} {a : Nat → Nat} {counts : Int32} {people : Nat} {day : Int32} {listed : Int32} {followed : Int32} {struck : Int32} {noted : Nat} {undoable : Nat} {kinds : (Nat → Int32)} {tempers : (Nat → Int32)} {notes : (Nat → Int32)} {past : (Nat → Int32)}  (hU8 : undoable ≤ 8) : wl_Met (τ := Nat × (Nat → Int32)) l D E yX1_keepPast cX1_keepPast 2 none ({ frames := 1, cells := 0, slots := 0, locals := 40 } : Room) [.ref (a 0)] (wT E a counts people day listed followed struck noted undoable kinds tempers notes past) (fun _ => none) (fun z => (wT E a counts people day listed followed struck noted z.1 kinds tempers notes z.2)) (m_X1_keepPast day listed followed struck undoable tempers past) := by
  refine wl_enter (own := RX1) (by decide +kernel) rfl (Nat.le_of_ble_eq_true rfl) ?_
  intro p0 e0 s0 m0 bl0 mt0 c0 A hC hr hlk hA H locs hP hD hS ls hl
  have hx := hC.1
  have hb := hC.2.1
  have hl : lv_has ls 2 [(0, .ref (a 0))] := hl
  have hm := m_X1_keepPast.eq_1 day listed followed struck undoable tempers past
  refine lv_aload_n hx hb dX1_keepPast_0 rfl (lv_at hl 0 rfl) ?_
  refine g_T_0_undoable hC hP mw_15 dX1_keepPast_1 ?_
  refine lv_bipush (v := (nI 8)) hx hb dX1_keepPast_4 (by decide +kernel) ?_
  obtain ⟨u1, hj1, hk1⟩ := wl_bx hm
  refine wl_J u1 31 (fun z1 => []) 2 (fun z1 => [(0, .ref (a 0))]) D A s0.heap (fun z1 => (wT E a counts people day listed followed struck noted z1.1 kinds tempers notes z1.2)) (fun z1 hz1 ls H locs hP hD hS hl => ?_) (fun J1 => ?_)
  · have hm := hk1 z1 hz1
    have hV : z1.1 ≤ 7 := by
      rw [← hz1, hj1]
      by_cases hU : undoable < 8
      · rw [if_pos hU]; show undoable ≤ 7; omega
      · rw [if_neg hU]; show (7 : Nat) ≤ 7; omega
    refine lv_aload_n hx hb dX1_keepPast_31 rfl (lv_at hl 0 rfl) ?_
    refine g_T_0_undoable hC hP mw_15 dX1_keepPast_32 ?_
    refine lv_bipush (v := (nI 11)) hx hb dX1_keepPast_35 (by decide +kernel) ?_
    refine lv_imul hx hb dX1_keepPast_37 ?_
    refine wl_re (show nI z1.1 * nI 11 = nI (z1.1 * 11) from pk_mul z1.1 11) ?_
    refine lv_istore_n (lv' := [(1, .int (nI (z1.1 * 11))), (0, .ref (a 0))]) hx hb dX1_keepPast_38 rfl hl (by decide) rfl (fun ls hl => ?_)
    refine lv_aload_n hx hb dX1_keepPast_39 rfl (lv_at hl 1 rfl) ?_
    refine g_T_0_tempers hC hP mw_93 dX1_keepPast_40 ?_
    refine lv_iconst (v := (nI 0)) hx hb dX1_keepPast_43 (by decide +kernel) ?_
    refine lv_aload_n hx hb dX1_keepPast_44 rfl (lv_at hl 1 rfl) ?_
    refine g_T_0_past hC hP mw_133 dX1_keepPast_45 ?_
    refine lv_iload_n hx hb dX1_keepPast_48 rfl (lv_at hl 0 rfl) ?_
    refine lv_bipush (v := (nI 7)) hx hb dX1_keepPast_49 (by decide +kernel) ?_
    refine cp_T_2_4 hC hP hD hS hl.1 0 (z1.1 * 11) 7 (by omega) (by omega) mw_135 (Nat.le_of_ble_eq_true rfl) (by decide +kernel) dX1_keepPast_51 (fun H locs hP hD hS => ?_)
    refine lv_aload_n hx hb dX1_keepPast_54 rfl (lv_at hl 1 rfl) ?_
    refine g_T_0_past hC hP mw_133 dX1_keepPast_55 ?_
    refine lv_iload_n hx hb dX1_keepPast_58 rfl (lv_at hl 0 rfl) ?_
    refine lv_bipush (v := (nI 7)) hx hb dX1_keepPast_59 (by decide +kernel) ?_
    refine lv_iadd hx hb dX1_keepPast_61 ?_
    refine wl_re (show nI (z1.1 * 11) + nI 7 = nI ((z1.1 * 11) + 7) from nI_add (z1.1 * 11) 7) ?_
    refine lv_aload_n hx hb dX1_keepPast_62 rfl (lv_at hl 1 rfl) ?_
    refine g_T_0_listed hC hP mw_11 dX1_keepPast_63 ?_
    refine st_T_4 hC hP hD hS ((z1.1 * 11) + 7) listed (by omega) dX1_keepPast_66 (fun H locs hP hD hS => ?_)
    refine lv_aload_n hx hb dX1_keepPast_67 rfl (lv_at hl 1 rfl) ?_
    refine g_T_0_past hC hP mw_133 dX1_keepPast_68 ?_
    refine lv_iload_n hx hb dX1_keepPast_71 rfl (lv_at hl 0 rfl) ?_
    refine lv_bipush (v := (nI 7)) hx hb dX1_keepPast_72 (by decide +kernel) ?_
    refine lv_iadd hx hb dX1_keepPast_74 ?_
    refine wl_re (show nI (z1.1 * 11) + nI 7 = nI ((z1.1 * 11) + 7) from nI_add (z1.1 * 11) 7) ?_
    refine lv_iconst (v := (nI 1)) hx hb dX1_keepPast_75 (by decide +kernel) ?_
    refine lv_iadd hx hb dX1_keepPast_76 ?_
    refine wl_re (show nI ((z1.1 * 11) + 7) + nI 1 = nI (((z1.1 * 11) + 7) + 1) from nI_add ((z1.1 * 11) + 7) 1) ?_
    refine lv_aload_n hx hb dX1_keepPast_77 rfl (lv_at hl 1 rfl) ?_
    refine g_T_0_followed hC hP mw_12 dX1_keepPast_78 ?_
    refine st_T_4 hC hP hD hS (((z1.1 * 11) + 7) + 1) followed (by omega) dX1_keepPast_81 (fun H locs hP hD hS => ?_)
    refine lv_aload_n hx hb dX1_keepPast_82 rfl (lv_at hl 1 rfl) ?_
    refine g_T_0_past hC hP mw_133 dX1_keepPast_83 ?_
    refine lv_iload_n hx hb dX1_keepPast_86 rfl (lv_at hl 0 rfl) ?_
    refine lv_bipush (v := (nI 7)) hx hb dX1_keepPast_87 (by decide +kernel) ?_
    refine lv_iadd hx hb dX1_keepPast_89 ?_
    refine wl_re (show nI (z1.1 * 11) + nI 7 = nI ((z1.1 * 11) + 7) from nI_add (z1.1 * 11) 7) ?_
    refine lv_iconst (v := (nI 2)) hx hb dX1_keepPast_90 (by decide +kernel) ?_
    refine lv_iadd hx hb dX1_keepPast_91 ?_
    refine wl_re (show nI ((z1.1 * 11) + 7) + nI 2 = nI (((z1.1 * 11) + 7) + 2) from nI_add ((z1.1 * 11) + 7) 2) ?_
    refine lv_aload_n hx hb dX1_keepPast_92 rfl (lv_at hl 1 rfl) ?_
    refine g_T_0_struck hC hP mw_13 dX1_keepPast_93 ?_
    refine st_T_4 hC hP hD hS (((z1.1 * 11) + 7) + 2) struck (by omega) dX1_keepPast_96 (fun H locs hP hD hS => ?_)
    refine lv_aload_n hx hb dX1_keepPast_97 rfl (lv_at hl 1 rfl) ?_
    refine g_T_0_past hC hP mw_133 dX1_keepPast_98 ?_
    refine lv_iload_n hx hb dX1_keepPast_101 rfl (lv_at hl 0 rfl) ?_
    refine lv_bipush (v := (nI 7)) hx hb dX1_keepPast_102 (by decide +kernel) ?_
    refine lv_iadd hx hb dX1_keepPast_104 ?_
    refine wl_re (show nI (z1.1 * 11) + nI 7 = nI ((z1.1 * 11) + 7) from nI_add (z1.1 * 11) 7) ?_
    refine lv_iconst (v := (nI 3)) hx hb dX1_keepPast_105 (by decide +kernel) ?_
    refine lv_iadd hx hb dX1_keepPast_106 ?_
    refine wl_re (show nI ((z1.1 * 11) + 7) + nI 3 = nI (((z1.1 * 11) + 7) + 3) from nI_add ((z1.1 * 11) + 7) 3) ?_
    refine lv_aload_n hx hb dX1_keepPast_107 rfl (lv_at hl 1 rfl) ?_
    refine g_T_0_day hC hP mw_10 dX1_keepPast_108 ?_
    refine st_T_4 hC hP hD hS (((z1.1 * 11) + 7) + 3) day (by omega) dX1_keepPast_111 (fun H locs hP hD hS => ?_)
    refine lv_aload_n hx hb dX1_keepPast_112 rfl (lv_at hl 1 rfl) ?_
    refine lv_dup hx hb dX1_keepPast_113 rfl ?_
    refine g_T_0_undoable hC hP mw_15 dX1_keepPast_114 ?_
    refine lv_iconst (v := (nI 1)) hx hb dX1_keepPast_117 (by decide +kernel) ?_
    refine lv_iadd hx hb dX1_keepPast_118 ?_
    refine wl_re (show nI z1.1 + nI 1 = nI (z1.1 + 1) from nI_add z1.1 1) ?_
    refine p_T_0_undoable hC hP hD hS (z1.1 + 1) mw_15 dX1_keepPast_119 (fun H locs hP hD hS => ?_)
    exact wl_vret hC hr hlk hm rfl hP hD hS dX1_keepPast_122
  · refine wl_icmp_lt_n hx hb (by first | omega | exact Nat.lt_of_le_of_lt Nat.and_le_right (by omega) | exact Nat.pow_lt_pow_right (by omega) (by omega) | exact Nat.lt_trans (by assumption) (Nat.pow_lt_pow_right (by omega) (by omega))) (by first | omega | exact Nat.lt_of_le_of_lt Nat.and_le_right (by omega) | exact Nat.pow_lt_pow_right (by omega) (by omega) | exact Nat.lt_trans (by assumption) (Nat.pow_lt_pow_right (by omega) (by omega))) (tgt := 31) dX1_keepPast_6 (by decide) (fun c2 => ?_) (fun c2 => ?_)
    · have hj1 := hj1.trans (if_pos c2)
      exact J1 _ hj1 ls H locs hP hD hS (lv_sub hl [0] rfl)
    · have hj1 := hj1.trans (if_neg c2)
      refine lv_aload_n hx hb dX1_keepPast_9 rfl (lv_at hl 0 rfl) ?_
      refine g_T_0_past hC hP mw_133 dX1_keepPast_10 ?_
      refine lv_bipush (v := (nI 11)) hx hb dX1_keepPast_13 (by decide +kernel) ?_
      refine lv_aload_n hx hb dX1_keepPast_15 rfl (lv_at hl 0 rfl) ?_
      refine g_T_0_past hC hP mw_133 dX1_keepPast_16 ?_
      refine lv_iconst (v := (nI 0)) hx hb dX1_keepPast_19 (by decide +kernel) ?_
      refine lv_bipush (v := (nI 77)) hx hb dX1_keepPast_20 (by decide +kernel) ?_
      refine cp_T_4_4 hC hP hD hS hl.1 11 0 77 (by omega) (by omega) mw_135 (Nat.le_of_ble_eq_true rfl) (by decide +kernel) dX1_keepPast_22 (fun H locs hP hD hS => ?_)
      refine lv_aload_n hx hb dX1_keepPast_25 rfl (lv_at hl 0 rfl) ?_
      refine lv_bipush (v := (nI 7)) hx hb dX1_keepPast_26 (by decide +kernel) ?_
      refine p_T_0_undoable hC hP hD hS 7 mw_15 dX1_keepPast_28 (fun H locs hP hD hS => ?_)
      exact J1 _ hj1 ls H locs hP hD hS (lv_sub hl [0] rfl)
def m_X1_takePast (day : Int32) (listed : Int32) (followed : Int32) (struck : Int32) (undoable : Nat) (tempers : (Nat → Int32)) (past : (Nat → Int32)) : Int32 × Int32 × Int32 × Int32 × Nat × (Nat → Int32) := (if 0 < undoable then ((past ((((undoable - 1) * 11) + 7) + 3)), (past (((undoable - 1) * 11) + 7)), (past ((((undoable - 1) * 11) + 7) + 1)), (past ((((undoable - 1) * 11) + 7) + 2)), (undoable - 1), (va_cpy past tempers ((undoable - 1) * 11) 0 7)) else (day, listed, followed, struck, undoable, tempers))
set_option maxHeartbeats 4000000 in
set_option maxRecDepth 100000 in
theorem c_X1_takePast {l : Launch} {D : va_G} {E : Nat → ClassId} {a : Nat → Nat} {counts : Int32} {people : Nat} {day : Int32} {listed : Int32} {followed : Int32} {struck : Int32} {noted : Nat} {undoable : Nat} {kinds : (Nat → Int32)} {tempers : (Nat → Int32)} {notes : (Nat → Int32)} {past : (Nat → Int32)}  (hU8 : undoable ≤ 8) : wl_Met (τ := Int32 × Int32 × Int32 × Int32 × Nat × (Nat → Int32)) l D E yX1_takePast cX1_takePast 2 none ({ frames := 1, cells := 0, slots := 0, locals := 40 } : Room) [.ref (a 0)] (wT E a counts people day listed followed struck noted undoable kinds tempers notes past) (fun _ => none) (fun z => (wT E a counts people z.1 z.2.1 z.2.2.1 z.2.2.2.1 noted z.2.2.2.2.1 kinds z.2.2.2.2.2 notes past)) (m_X1_takePast day listed followed struck undoable tempers past) := by
  refine wl_enter (own := RX1) (by decide +kernel) rfl (Nat.le_of_ble_eq_true rfl) ?_
  intro p0 e0 s0 m0 bl0 mt0 c0 A hC hr hlk hA H locs hP hD hS ls hl
  have hx := hC.1
  have hb := hC.2.1
  have hl : lv_has ls 2 [(0, .ref (a 0))] := hl
  have hm := m_X1_takePast.eq_1 day listed followed struck undoable tempers past
  refine lv_aload_n hx hb dX1_takePast_0 rfl (lv_at hl 0 rfl) ?_
  refine g_T_0_undoable hC hP mw_15 dX1_takePast_1 ?_
  refine wl_if_gt_n hx hb (by first | omega | exact Nat.lt_of_le_of_lt Nat.and_le_right (by omega) | exact Nat.pow_lt_pow_right (by omega) (by omega) | exact Nat.lt_trans (by assumption) (Nat.pow_lt_pow_right (by omega) (by omega))) (tgt := 8) dX1_takePast_4 (by decide) (fun c1 => ?_) (fun c1 => ?_)
  · have hm := hm.trans (if_pos c1)
    refine lv_aload_n hx hb dX1_takePast_8 rfl (lv_at hl 0 rfl) ?_
    refine lv_dup hx hb dX1_takePast_9 rfl ?_
    refine g_T_0_undoable hC hP mw_15 dX1_takePast_10 ?_
    refine lv_iconst (v := (nI 1)) hx hb dX1_takePast_13 (by decide +kernel) ?_
    refine lv_isub hx hb dX1_takePast_14 ?_
    refine wl_re (show nI undoable - nI 1 = nI (undoable - 1) from pk_sub (by omega)) ?_
    refine p_T_0_undoable hC hP hD hS (undoable - 1) mw_15 dX1_takePast_15 (fun H locs hP hD hS => ?_)
    refine lv_aload_n hx hb dX1_takePast_18 rfl (lv_at hl 0 rfl) ?_
    refine g_T_0_undoable hC hP mw_15 dX1_takePast_19 ?_
    refine lv_bipush (v := (nI 11)) hx hb dX1_takePast_22 (by decide +kernel) ?_
    refine lv_imul hx hb dX1_takePast_24 ?_
    refine wl_re (show nI (undoable - 1) * nI 11 = nI ((undoable - 1) * 11) from pk_mul (undoable - 1) 11) ?_
    refine lv_istore_n (lv' := [(1, .int (nI ((undoable - 1) * 11))), (0, .ref (a 0))]) hx hb dX1_takePast_25 rfl hl (by decide) rfl (fun ls hl => ?_)
    refine lv_aload_n hx hb dX1_takePast_26 rfl (lv_at hl 1 rfl) ?_
    refine g_T_0_past hC hP mw_133 dX1_takePast_27 ?_
    refine lv_iload_n hx hb dX1_takePast_30 rfl (lv_at hl 0 rfl) ?_
    refine lv_aload_n hx hb dX1_takePast_31 rfl (lv_at hl 1 rfl) ?_
    refine g_T_0_tempers hC hP mw_93 dX1_takePast_32 ?_
    refine lv_iconst (v := (nI 0)) hx hb dX1_takePast_35 (by decide +kernel) ?_
    refine lv_bipush (v := (nI 7)) hx hb dX1_takePast_36 (by decide +kernel) ?_
    refine cp_T_4_2 hC hP hD hS hl.1 ((undoable - 1) * 11) 0 7 (by omega) (by omega) mw_135 (Nat.le_of_ble_eq_true rfl) (by decide +kernel) dX1_takePast_38 (fun H locs hP hD hS => ?_)
    refine lv_aload_n hx hb dX1_takePast_41 rfl (lv_at hl 1 rfl) ?_
    refine lv_aload_n hx hb dX1_takePast_42 rfl (lv_at hl 1 rfl) ?_
    refine g_T_0_past hC hP mw_133 dX1_takePast_43 ?_
    refine lv_iload_n hx hb dX1_takePast_46 rfl (lv_at hl 0 rfl) ?_
    refine lv_bipush (v := (nI 7)) hx hb dX1_takePast_47 (by decide +kernel) ?_
    refine lv_iadd hx hb dX1_takePast_49 ?_
    refine wl_re (show nI ((undoable - 1) * 11) + nI 7 = nI (((undoable - 1) * 11) + 7) from nI_add ((undoable - 1) * 11) 7) ?_
    refine ld_T_4 hC hP (((undoable - 1) * 11) + 7) (by omega) dX1_takePast_50 ?_
    refine p_T_0_listed hC hP hD hS (past (((undoable - 1) * 11) + 7)) mw_11 dX1_takePast_51 (fun H locs hP hD hS => ?_)
    refine lv_aload_n hx hb dX1_takePast_54 rfl (lv_at hl 1 rfl) ?_
    refine lv_aload_n hx hb dX1_takePast_55 rfl (lv_at hl 1 rfl) ?_
    refine g_T_0_past hC hP mw_133 dX1_takePast_56 ?_
    refine lv_iload_n hx hb dX1_takePast_59 rfl (lv_at hl 0 rfl) ?_
    refine lv_bipush (v := (nI 7)) hx hb dX1_takePast_60 (by decide +kernel) ?_
    refine lv_iadd hx hb dX1_takePast_62 ?_
    refine wl_re (show nI ((undoable - 1) * 11) + nI 7 = nI (((undoable - 1) * 11) + 7) from nI_add ((undoable - 1) * 11) 7) ?_
    refine lv_iconst (v := (nI 1)) hx hb dX1_takePast_63 (by decide +kernel) ?_
    refine lv_iadd hx hb dX1_takePast_64 ?_
    refine wl_re (show nI (((undoable - 1) * 11) + 7) + nI 1 = nI ((((undoable - 1) * 11) + 7) + 1) from nI_add (((undoable - 1) * 11) + 7) 1) ?_
    refine ld_T_4 hC hP ((((undoable - 1) * 11) + 7) + 1) (by omega) dX1_takePast_65 ?_
    refine p_T_0_followed hC hP hD hS (past ((((undoable - 1) * 11) + 7) + 1)) mw_12 dX1_takePast_66 (fun H locs hP hD hS => ?_)
    refine lv_aload_n hx hb dX1_takePast_69 rfl (lv_at hl 1 rfl) ?_
    refine lv_aload_n hx hb dX1_takePast_70 rfl (lv_at hl 1 rfl) ?_
    refine g_T_0_past hC hP mw_133 dX1_takePast_71 ?_
    refine lv_iload_n hx hb dX1_takePast_74 rfl (lv_at hl 0 rfl) ?_
    refine lv_bipush (v := (nI 7)) hx hb dX1_takePast_75 (by decide +kernel) ?_
    refine lv_iadd hx hb dX1_takePast_77 ?_
    refine wl_re (show nI ((undoable - 1) * 11) + nI 7 = nI (((undoable - 1) * 11) + 7) from nI_add ((undoable - 1) * 11) 7) ?_
    refine lv_iconst (v := (nI 2)) hx hb dX1_takePast_78 (by decide +kernel) ?_
    refine lv_iadd hx hb dX1_takePast_79 ?_
    refine wl_re (show nI (((undoable - 1) * 11) + 7) + nI 2 = nI ((((undoable - 1) * 11) + 7) + 2) from nI_add (((undoable - 1) * 11) + 7) 2) ?_
    refine ld_T_4 hC hP ((((undoable - 1) * 11) + 7) + 2) (by omega) dX1_takePast_80 ?_
    refine p_T_0_struck hC hP hD hS (past ((((undoable - 1) * 11) + 7) + 2)) mw_13 dX1_takePast_81 (fun H locs hP hD hS => ?_)
    refine lv_aload_n hx hb dX1_takePast_84 rfl (lv_at hl 1 rfl) ?_
    refine lv_aload_n hx hb dX1_takePast_85 rfl (lv_at hl 1 rfl) ?_
    refine g_T_0_past hC hP mw_133 dX1_takePast_86 ?_
    refine lv_iload_n hx hb dX1_takePast_89 rfl (lv_at hl 0 rfl) ?_
    refine lv_bipush (v := (nI 7)) hx hb dX1_takePast_90 (by decide +kernel) ?_
    refine lv_iadd hx hb dX1_takePast_92 ?_
    refine wl_re (show nI ((undoable - 1) * 11) + nI 7 = nI (((undoable - 1) * 11) + 7) from nI_add ((undoable - 1) * 11) 7) ?_
    refine lv_iconst (v := (nI 3)) hx hb dX1_takePast_93 (by decide +kernel) ?_
    refine lv_iadd hx hb dX1_takePast_94 ?_
    refine wl_re (show nI (((undoable - 1) * 11) + 7) + nI 3 = nI ((((undoable - 1) * 11) + 7) + 3) from nI_add (((undoable - 1) * 11) + 7) 3) ?_
    refine ld_T_4 hC hP ((((undoable - 1) * 11) + 7) + 3) (by omega) dX1_takePast_95 ?_
    refine p_T_0_day hC hP hD hS (past ((((undoable - 1) * 11) + 7) + 3)) mw_10 dX1_takePast_96 (fun H locs hP hD hS => ?_)
    exact wl_vret hC hr hlk hm rfl hP hD hS dX1_takePast_99
  · have hm := hm.trans (if_neg c1)
    exact wl_vret hC hr hlk hm rfl hP hD hS dX1_takePast_7
def m_X1_copyFrom (kinds : (Nat → Int32)) (tempers : (Nat → Int32)) (notes : (Nat → Int32)) (past : (Nat → Int32)) (countsb : Int32) (peopleb : Nat) (dayb : Int32) (listedb : Int32) (followedb : Int32) (struckb : Int32) (notedb : Nat) (undoableb : Nat) (kindsb : (Nat → Int32)) (tempersb : (Nat → Int32)) (notesb : (Nat → Int32)) (pastb : (Nat → Int32)) : Int32 × Nat × Int32 × Int32 × Int32 × Int32 × Nat × Nat × (Nat → Int32) × (Nat → Int32) × (Nat → Int32) × (Nat → Int32) := (countsb, peopleb, dayb, listedb, followedb, struckb, notedb, undoableb, (va_cpy kindsb kinds 0 0 7), (va_cpy tempersb tempers 0 0 7), (va_cpy notesb notes 0 0 30), (va_cpy pastb past 0 0 88))
set_option maxHeartbeats 4000000 in
set_option maxRecDepth 100000 in
theorem c_X1_copyFrom {l : Launch} {D : va_G} {E : Nat → ClassId} {a : Nat → Nat} {counts : Int32} {people : Nat} {day : Int32} {listed : Int32} {followed : Int32} {struck : Int32} {noted : Nat} {undoable : Nat} {kinds : (Nat → Int32)} {tempers : (Nat → Int32)} {notes : (Nat → Int32)} {past : (Nat → Int32)} {countsb : Int32} {peopleb : Nat} {dayb : Int32} {listedb : Int32} {followedb : Int32} {struckb : Int32} {notedb : Nat} {undoableb : Nat} {kindsb : (Nat → Int32)} {tempersb : (Nat → Int32)} {notesb : (Nat → Int32)} {pastb : (Nat → Int32)}  : wl_Met (τ := Int32 × Nat × Int32 × Int32 × Int32 × Int32 × Nat × Nat × (Nat → Int32) × (Nat → Int32) × (Nat → Int32) × (Nat → Int32)) l D E yX1_copyFrom cX1_copyFrom 2 none ({ frames := 1, cells := 0, slots := 0, locals := 40 } : Room) [.ref (a 0), .ref (a 5)] (wTT E a counts people day listed followed struck noted undoable kinds tempers notes past countsb peopleb dayb listedb followedb struckb notedb undoableb kindsb tempersb notesb pastb) (fun _ => none) (fun z => (wTT E a z.1 z.2.1 z.2.2.1 z.2.2.2.1 z.2.2.2.2.1 z.2.2.2.2.2.1 z.2.2.2.2.2.2.1 z.2.2.2.2.2.2.2.1 z.2.2.2.2.2.2.2.2.1 z.2.2.2.2.2.2.2.2.2.1 z.2.2.2.2.2.2.2.2.2.2.1 z.2.2.2.2.2.2.2.2.2.2.2 countsb peopleb dayb listedb followedb struckb notedb undoableb kindsb tempersb notesb pastb)) (m_X1_copyFrom kinds tempers notes past countsb peopleb dayb listedb followedb struckb notedb undoableb kindsb tempersb notesb pastb) := by
  refine wl_enter (own := RX1) (by decide +kernel) rfl (Nat.le_of_ble_eq_true rfl) ?_
  intro p0 e0 s0 m0 bl0 mt0 c0 A hC hr hlk hA H locs hP hD hS ls hl
  have hx := hC.1
  have hb := hC.2.1
  have hl : lv_has ls 2 [(0, .ref (a 0)), (1, .ref (a 5))] := hl
  have hm := m_X1_copyFrom.eq_1 kinds tempers notes past countsb peopleb dayb listedb followedb struckb notedb undoableb kindsb tempersb notesb pastb
  refine lv_aload_n hx hb dX1_copyFrom_0 rfl (lv_at hl 0 rfl) ?_
  refine lv_aload_n hx hb dX1_copyFrom_1 rfl (lv_at hl 1 rfl) ?_
  refine g_TT_5_counts hC hP mw_8 dX1_copyFrom_2 ?_
  refine p_TT_0_counts hC hP hD hS countsb mw_8 dX1_copyFrom_5 (fun H locs hP hD hS => ?_)
  refine lv_aload_n hx hb dX1_copyFrom_8 rfl (lv_at hl 0 rfl) ?_
  refine lv_aload_n hx hb dX1_copyFrom_9 rfl (lv_at hl 1 rfl) ?_
  refine g_TT_5_people hC hP mw_9 dX1_copyFrom_10 ?_
  refine p_TT_0_people hC hP hD hS peopleb mw_9 dX1_copyFrom_13 (fun H locs hP hD hS => ?_)
  refine lv_aload_n hx hb dX1_copyFrom_16 rfl (lv_at hl 0 rfl) ?_
  refine lv_aload_n hx hb dX1_copyFrom_17 rfl (lv_at hl 1 rfl) ?_
  refine g_TT_5_day hC hP mw_10 dX1_copyFrom_18 ?_
  refine p_TT_0_day hC hP hD hS dayb mw_10 dX1_copyFrom_21 (fun H locs hP hD hS => ?_)
  refine lv_aload_n hx hb dX1_copyFrom_24 rfl (lv_at hl 0 rfl) ?_
  refine lv_aload_n hx hb dX1_copyFrom_25 rfl (lv_at hl 1 rfl) ?_
  refine g_TT_5_listed hC hP mw_11 dX1_copyFrom_26 ?_
  refine p_TT_0_listed hC hP hD hS listedb mw_11 dX1_copyFrom_29 (fun H locs hP hD hS => ?_)
  refine lv_aload_n hx hb dX1_copyFrom_32 rfl (lv_at hl 0 rfl) ?_
  refine lv_aload_n hx hb dX1_copyFrom_33 rfl (lv_at hl 1 rfl) ?_
  refine g_TT_5_followed hC hP mw_12 dX1_copyFrom_34 ?_
  refine p_TT_0_followed hC hP hD hS followedb mw_12 dX1_copyFrom_37 (fun H locs hP hD hS => ?_)
  refine lv_aload_n hx hb dX1_copyFrom_40 rfl (lv_at hl 0 rfl) ?_
  refine lv_aload_n hx hb dX1_copyFrom_41 rfl (lv_at hl 1 rfl) ?_
  refine g_TT_5_struck hC hP mw_13 dX1_copyFrom_42 ?_
  refine p_TT_0_struck hC hP hD hS struckb mw_13 dX1_copyFrom_45 (fun H locs hP hD hS => ?_)
  refine lv_aload_n hx hb dX1_copyFrom_48 rfl (lv_at hl 0 rfl) ?_
  refine lv_aload_n hx hb dX1_copyFrom_49 rfl (lv_at hl 1 rfl) ?_
  refine g_TT_5_noted hC hP mw_14 dX1_copyFrom_50 ?_
  refine p_TT_0_noted hC hP hD hS notedb mw_14 dX1_copyFrom_53 (fun H locs hP hD hS => ?_)
  refine lv_aload_n hx hb dX1_copyFrom_56 rfl (lv_at hl 0 rfl) ?_
  refine lv_aload_n hx hb dX1_copyFrom_57 rfl (lv_at hl 1 rfl) ?_
  refine g_TT_5_undoable hC hP mw_15 dX1_copyFrom_58 ?_
  refine p_TT_0_undoable hC hP hD hS undoableb mw_15 dX1_copyFrom_61 (fun H locs hP hD hS => ?_)
  refine lv_aload_n hx hb dX1_copyFrom_64 rfl (lv_at hl 1 rfl) ?_
  refine g_TT_5_kinds hC hP mw_92 dX1_copyFrom_65 ?_
  refine lv_iconst (v := (nI 0)) hx hb dX1_copyFrom_68 (by decide +kernel) ?_
  refine lv_aload_n hx hb dX1_copyFrom_69 rfl (lv_at hl 0 rfl) ?_
  refine g_TT_0_kinds hC hP mw_92 dX1_copyFrom_70 ?_
  refine lv_iconst (v := (nI 0)) hx hb dX1_copyFrom_73 (by decide +kernel) ?_
  refine lv_aload_n hx hb dX1_copyFrom_74 rfl (lv_at hl 0 rfl) ?_
  refine g_TT_0_kinds hC hP mw_92 dX1_copyFrom_75 ?_
  refine al_TT_1 hC hP dX1_copyFrom_78 ?_
  refine cp_TT_6_1 hC hP hD hS hl.1 0 0 7 (by omega) (by omega) mw_135 (Nat.le_of_ble_eq_true rfl) (by decide +kernel) dX1_copyFrom_79 (fun H locs hP hD hS => ?_)
  refine lv_aload_n hx hb dX1_copyFrom_82 rfl (lv_at hl 1 rfl) ?_
  refine g_TT_5_tempers hC hP mw_93 dX1_copyFrom_83 ?_
  refine lv_iconst (v := (nI 0)) hx hb dX1_copyFrom_86 (by decide +kernel) ?_
  refine lv_aload_n hx hb dX1_copyFrom_87 rfl (lv_at hl 0 rfl) ?_
  refine g_TT_0_tempers hC hP mw_93 dX1_copyFrom_88 ?_
  refine lv_iconst (v := (nI 0)) hx hb dX1_copyFrom_91 (by decide +kernel) ?_
  refine lv_aload_n hx hb dX1_copyFrom_92 rfl (lv_at hl 0 rfl) ?_
  refine g_TT_0_tempers hC hP mw_93 dX1_copyFrom_93 ?_
  refine al_TT_2 hC hP dX1_copyFrom_96 ?_
  refine cp_TT_7_2 hC hP hD hS hl.1 0 0 7 (by omega) (by omega) mw_135 (Nat.le_of_ble_eq_true rfl) (by decide +kernel) dX1_copyFrom_97 (fun H locs hP hD hS => ?_)
  refine lv_aload_n hx hb dX1_copyFrom_100 rfl (lv_at hl 1 rfl) ?_
  refine g_TT_5_notes hC hP mw_132 dX1_copyFrom_101 ?_
  refine lv_iconst (v := (nI 0)) hx hb dX1_copyFrom_104 (by decide +kernel) ?_
  refine lv_aload_n hx hb dX1_copyFrom_105 rfl (lv_at hl 0 rfl) ?_
  refine g_TT_0_notes hC hP mw_132 dX1_copyFrom_106 ?_
  refine lv_iconst (v := (nI 0)) hx hb dX1_copyFrom_109 (by decide +kernel) ?_
  refine lv_aload_n hx hb dX1_copyFrom_110 rfl (lv_at hl 0 rfl) ?_
  refine g_TT_0_notes hC hP mw_132 dX1_copyFrom_111 ?_
  refine al_TT_3 hC hP dX1_copyFrom_114 ?_
  refine cp_TT_8_3 hC hP hD hS hl.1 0 0 30 (by omega) (by omega) mw_135 (Nat.le_of_ble_eq_true rfl) (by decide +kernel) dX1_copyFrom_115 (fun H locs hP hD hS => ?_)
  refine lv_aload_n hx hb dX1_copyFrom_118 rfl (lv_at hl 1 rfl) ?_
  refine g_TT_5_past hC hP mw_133 dX1_copyFrom_119 ?_
  refine lv_iconst (v := (nI 0)) hx hb dX1_copyFrom_122 (by decide +kernel) ?_
  refine lv_aload_n hx hb dX1_copyFrom_123 rfl (lv_at hl 0 rfl) ?_
  refine g_TT_0_past hC hP mw_133 dX1_copyFrom_124 ?_
  refine lv_iconst (v := (nI 0)) hx hb dX1_copyFrom_127 (by decide +kernel) ?_
  refine lv_aload_n hx hb dX1_copyFrom_128 rfl (lv_at hl 0 rfl) ?_
  refine g_TT_0_past hC hP mw_133 dX1_copyFrom_129 ?_
  refine al_TT_4 hC hP dX1_copyFrom_132 ?_
  refine cp_TT_9_4 hC hP hD hS hl.1 0 0 88 (by omega) (by omega) mw_135 (Nat.le_of_ble_eq_true rfl) (by decide +kernel) dX1_copyFrom_133 (fun H locs hP hD hS => ?_)
  exact wl_vret hC hr hlk hm rfl hP hD hS dX1_copyFrom_136
