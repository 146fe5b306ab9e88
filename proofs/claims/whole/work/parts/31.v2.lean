set_option maxHeartbeats 4000000 in
set_option maxRecDepth 100000 in
theorem c_X0_isWord__XT_0 {l : Launch} {D : va_G} {E : Nat → ClassId} {K V : Nat → Nat} {fz : Nat} {a : Nat → Nat} {xlength : Nat} {xstart : Nat} {xbehind : Nat} {xsort : Int32} {xnumber : Int32} {xbytes : (Nat → Int32)} {counts : Int32} {people : Nat} {day : Int32} {listed : Int32} {followed : Int32} {struck : Int32} {noted : Nat} {undoable : Nat} {kinds : (Nat → Int32)} {tempers : (Nat → Int32)} {notes : (Nat → Int32)} {past : (Nat → Int32)} {i : Nat} (hXL : xlength ≤ 150) (hXB : xbehind ≤ xlength) (hSB : xstart ≤ xbehind) (hi : i < 4) : wl_MetS (τ := Bool) l D E K V fz yX0_isWord cX0_isWord 3 (some .boolean) ({ frames := 4, cells := 0, slots := 0, locals := 85 } : Room) [.ref (a 0), .ref (K i)] (wXT E a xlength xstart xbehind xsort xnumber xbytes counts people day listed followed struck noted undoable kinds tempers notes past) (fun z => some (.int (wl_b z))) (fun _ => (wXT E a xlength xstart xbehind xsort xnumber xbytes counts people day listed followed struck noted undoable kinds tempers notes past)) (m_X0_isWord xstart xbehind xsort xbytes i) :=
  wl_liftS (c_X0_isWord (a := (fun k => a ([0, 1].getD k 0))) (xlength := xlength) (xstart := xstart) (xbehind := xbehind) (xsort := xsort) (xnumber := xnumber) (xbytes := xbytes) (i := i) hXL hXB hSB hi) [0, 1] [2, 3, 4, 5, 6] [5, 6, 0, 1, 2, 3, 4] (wr := ([2, 3, 4, 5, 6].filterMap (fun i => (wXT E a xlength xstart xbehind xsort xnumber xbytes counts people day listed followed struck noted undoable kinds tempers notes past)[i]?))) rfl rfl (by decide) (by decide) (by decide) (by decide) (fun _ => rfl)
def m_X0_takesItem (xlength : Nat) (xstart : Nat) (xbehind : Nat) (xsort : Int32) (xnumber : Int32) (xbytes : (Nat → Int32)) (counts : Int32) (people : Nat) (listed : Int32) (followed : Int32) (undoable : Nat) (kinds : (Nat → Int32)) (tempers : (Nat → Int32)) (first : Bool) : Bool × Nat × Nat × Int32 × Int32 × Int32 × Nat × Int32 × Int32 × Nat × (Nat → Int32) × (Nat → Int32) := (wl_bnd (m_X0_isWord xstart xbehind xsort xbytes 0) (fun z1 => (if z1 = first then (if first = true then (wl_bnd (m_X0_takesTown xlength xbehind xnumber xbytes counts) (fun z14 => (z14.1, z14.2.1, z14.2.2.1, z14.2.2.2.1, z14.2.2.2.2.1, z14.2.2.2.2.2, people, listed, followed, undoable, kinds, tempers))) else (wl_bnd (m_X0_isWord xstart xbehind xsort xbytes 1) (fun z4 => (if z4 = true then (wl_bnd (m_X0_takesOne xlength xstart xbehind xsort xnumber xbytes people undoable kinds tempers) (fun z13 => (z13.1, z13.2.1, z13.2.2.1, z13.2.2.2.1, z13.2.2.2.2.1, counts, z13.2.2.2.2.2.1, listed, followed, z13.2.2.2.2.2.2.1, z13.2.2.2.2.2.2.2.1, z13.2.2.2.2.2.2.2.2))) else (wl_bnd (m_X0_isWord xstart xbehind xsort xbytes 2) (fun z6 => (if z6 = true then (wl_bnd (m_X0_takesListed xlength xbehind xnumber xbytes people listed) (fun z12 => (z12.1, z12.2.1, z12.2.2.1, z12.2.2.2.1, z12.2.2.2.2.1, counts, people, z12.2.2.2.2.2, followed, undoable, kinds, tempers))) else (wl_bnd (m_X0_isWord xstart xbehind xsort xbytes 3) (fun z8 => (if z8 = true then (wl_bnd (m_X0_takesFollowed xlength xbehind xnumber xbytes people followed) (fun z10 => (if z10.1 = true then (true, z10.2.1, z10.2.2.1, z10.2.2.2.1, z10.2.2.2.2.1, counts, people, listed, z10.2.2.2.2.2, undoable, kinds, tempers) else (false, z10.2.1, z10.2.2.1, z10.2.2.2.1, z10.2.2.2.2.1, counts, people, listed, z10.2.2.2.2.2, undoable, kinds, tempers)))) else (false, xstart, xbehind, xsort, xnumber, counts, people, listed, followed, undoable, kinds, tempers))))))))))) else (false, xstart, xbehind, xsort, xnumber, counts, people, listed, followed, undoable, kinds, tempers))))
set_option maxHeartbeats 4000000 in
set_option maxRecDepth 100000 in
theorem c_X0_takesItem {l : Launch} {D : va_G} {E : Nat → ClassId} {K V : Nat → Nat} {fz : Nat} {a : Nat → Nat} {xlength : Nat} {xstart : Nat} {xbehind : Nat} {xsort : Int32} {xnumber : Int32} {xbytes : (Nat → Int32)} {counts : Int32} {people : Nat} {day : Int32} {listed : Int32} {followed : Int32} {struck : Int32} {noted : Nat} {undoable : Nat} {kinds : (Nat → Int32)} {tempers : (Nat → Int32)} {notes : (Nat → Int32)} {past : (Nat → Int32)} {first : Bool} (hXL : xlength ≤ 150) (hXB : xbehind ≤ xlength) (hSB : xstart ≤ xbehind) (hP7 : people ≤ 7) : wl_MetS (τ := Bool × Nat × Nat × Int32 × Int32 × Int32 × Nat × Int32 × Int32 × Nat × (Nat → Int32) × (Nat → Int32)) l D E K V fz yX0_takesItem cX0_takesItem 3 (some .boolean) ({ frames := 5, cells := 0, slots := 0, locals := 107 } : Room) [.ref (a 0), .ref (a 2), .int (wl_b first)] (wXT E a xlength xstart xbehind xsort xnumber xbytes counts people day listed followed struck noted undoable kinds tempers notes past) (fun z => some (.int (wl_b z.1))) (fun z => (wXT E a xlength z.2.1 z.2.2.1 z.2.2.2.1 z.2.2.2.2.1 xbytes z.2.2.2.2.2.1 z.2.2.2.2.2.2.1 day z.2.2.2.2.2.2.2.1 z.2.2.2.2.2.2.2.2.1 struck noted z.2.2.2.2.2.2.2.2.2.1 z.2.2.2.2.2.2.2.2.2.2.1 z.2.2.2.2.2.2.2.2.2.2.2 notes past)) (m_X0_takesItem xlength xstart xbehind xsort xnumber xbytes counts people listed followed undoable kinds tempers first) := by
  refine wl_enterS (own := RX0) (by decide +kernel) rfl (Nat.le_of_ble_eq_true rfl) ?_
  intro p0 e0 s0 m0 bl0 mt0 c0 A hC hE hr hlk hA H locs hP hD hS ls hl
  have hx := hC.1
  have hb := hC.2.1
  have hl : lv_has ls 3 [(0, .ref (a 0)), (1, .ref (a 2)), (2, .int (wl_b first))] := hl
  have hm := m_X0_takesItem.eq_1 xlength xstart xbehind xsort xnumber xbytes counts people listed followed undoable kinds tempers first
  refine lv_aload_n hx hb dX0_takesItem_0 rfl (lv_at hl 0 rfl) ?_
  refine va_ldcS hx hb hC.2.2.2.1 (hE.2.2.2 0 (by decide)) dX0_takesItem_1 ?_
  refine wl_callVSi hC hE (c_X0_isWord__XT_0 (i := 0) (by first | assumption | omega) (by first | assumption | omega) (by first | assumption | omega) (by first | assumption | omega)) lk_RX0_43 rfl ⟨rfl, rfl, Nat.le_of_ble_eq_true rfl, Nat.le_of_ble_eq_true rfl⟩ hP hD hS hA 0 rfl (T1 := 6) rfl hl.1 rfl (Nat.le_of_ble_eq_true rfl) dX0_takesItem_3 ⟨Nat.zero_le _, Nat.zero_le _⟩ (fun z1 hz1 H locs hP hD hS => ?_)
  have hm := wl_bz hm hz1
  refine lv_iload_n hx hb dX0_takesItem_6 rfl (lv_at hl 2 rfl) ?_
  refine wl_icmp_eq_b hx hb (tgt := 12) dX0_takesItem_7 (by decide) (fun c2 => ?_) (fun c2 => ?_)
  · have hm := hm.trans (if_pos c2)
    refine lv_iload_n hx hb dX0_takesItem_12 rfl (lv_at hl 2 rfl) ?_
    refine wl_if_eq_b hx hb (tgt := 22) dX0_takesItem_13 (by decide) (fun c3 => ?_) (fun c3 => ?_)
    · have hm := hm.trans (if_neg c3)
      refine lv_aload_n hx hb dX0_takesItem_22 rfl (lv_at hl 0 rfl) ?_
      refine va_ldcS hx hb hC.2.2.2.1 (hE.2.2.2 1 (by decide)) dX0_takesItem_23 ?_
      refine wl_callVSi hC hE (c_X0_isWord__XT_0 (i := 1) (by first | assumption | omega) (by first | assumption | omega) (by first | assumption | omega) (by first | assumption | omega)) lk_RX0_43 rfl ⟨rfl, rfl, Nat.le_of_ble_eq_true rfl, Nat.le_of_ble_eq_true rfl⟩ hP hD hS hA 0 rfl (T1 := 6) rfl hl.1 rfl (Nat.le_of_ble_eq_true rfl) dX0_takesItem_25 ⟨Nat.zero_le _, Nat.zero_le _⟩ (fun z4 hz4 H locs hP hD hS => ?_)
      have hm := wl_bz hm hz4
      refine wl_if_eq_b hx hb (tgt := 37) dX0_takesItem_28 (by decide) (fun c5 => ?_) (fun c5 => ?_)
      · have hm := hm.trans (if_neg c5)
        refine lv_aload_n hx hb dX0_takesItem_37 rfl (lv_at hl 0 rfl) ?_
        refine va_ldcS hx hb hC.2.2.2.1 (hE.2.2.2 2 (by decide)) dX0_takesItem_38 ?_
        refine wl_callVSi hC hE (c_X0_isWord__XT_0 (i := 2) (by first | assumption | omega) (by first | assumption | omega) (by first | assumption | omega) (by first | assumption | omega)) lk_RX0_43 rfl ⟨rfl, rfl, Nat.le_of_ble_eq_true rfl, Nat.le_of_ble_eq_true rfl⟩ hP hD hS hA 0 rfl (T1 := 6) rfl hl.1 rfl (Nat.le_of_ble_eq_true rfl) dX0_takesItem_40 ⟨Nat.zero_le _, Nat.zero_le _⟩ (fun z6 hz6 H locs hP hD hS => ?_)
        have hm := wl_bz hm hz6
        refine wl_if_eq_b hx hb (tgt := 52) dX0_takesItem_43 (by decide) (fun c7 => ?_) (fun c7 => ?_)
        · have hm := hm.trans (if_neg c7)
          refine lv_aload_n hx hb dX0_takesItem_52 rfl (lv_at hl 0 rfl) ?_
          refine va_ldcS hx hb hC.2.2.2.1 (hE.2.2.2 3 (by decide)) dX0_takesItem_53 ?_
          refine wl_callVSi hC hE (c_X0_isWord__XT_0 (i := 3) (by first | assumption | omega) (by first | assumption | omega) (by first | assumption | omega) (by first | assumption | omega)) lk_RX0_43 rfl ⟨rfl, rfl, Nat.le_of_ble_eq_true rfl, Nat.le_of_ble_eq_true rfl⟩ hP hD hS hA 0 rfl (T1 := 6) rfl hl.1 rfl (Nat.le_of_ble_eq_true rfl) dX0_takesItem_55 ⟨Nat.zero_le _, Nat.zero_le _⟩ (fun z8 hz8 H locs hP hD hS => ?_)
          have hm := wl_bz hm hz8
          refine wl_if_eq_b hx hb (tgt := 73) dX0_takesItem_58 (by decide) (fun c9 => ?_) (fun c9 => ?_)
          · have hm := hm.trans (if_neg c9)
            refine lv_iconst (v := (nI 0)) hx hb dX0_takesItem_73 (by decide +kernel) ?_
            exact wl_zret (v := false) hC hr hlk hm rfl hP hD hS dX0_takesItem_74
          · have hm := hm.trans (if_pos c9)
            refine lv_aload_n hx hb dX0_takesItem_61 rfl (lv_at hl 0 rfl) ?_
            refine lv_aload_n hx hb dX0_takesItem_62 rfl (lv_at hl 1 rfl) ?_
            refine wl_callVi hC (c_X0_takesFollowed  (by first | assumption | omega) (by first | assumption | omega) (by first | assumption | omega)) lk_RX0_63 rfl ⟨rfl, rfl, Nat.le_of_ble_eq_true rfl, Nat.le_of_ble_eq_true rfl⟩ hP hD hS hA 0 rfl (T1 := 6) rfl hl.1 rfl (Nat.le_of_ble_eq_true rfl) dX0_takesItem_63 ⟨Nat.zero_le _, Nat.zero_le _⟩ (fun z10 hz10 H locs hP hD hS => ?_)
            have hm := wl_bz hm hz10
            refine wl_if_eq_b hx hb (tgt := 73) dX0_takesItem_66 (by decide) (fun c11 => ?_) (fun c11 => ?_)
            · have hm := hm.trans (if_neg c11)
              refine lv_iconst (v := (nI 0)) hx hb dX0_takesItem_73 (by decide +kernel) ?_
              exact wl_zret (v := false) hC hr hlk hm rfl hP hD hS dX0_takesItem_74
            · have hm := hm.trans (if_pos c11)
              refine lv_iconst (v := (nI 1)) hx hb dX0_takesItem_69 (by decide +kernel) ?_
              refine lv_goto (tgt := 74) hx hb dX0_takesItem_70 (by decide) ?_
              exact wl_zret (v := true) hC hr hlk hm rfl hP hD hS dX0_takesItem_74
        · have hm := hm.trans (if_pos c7)
          refine lv_aload_n hx hb dX0_takesItem_46 rfl (lv_at hl 0 rfl) ?_
          refine lv_aload_n hx hb dX0_takesItem_47 rfl (lv_at hl 1 rfl) ?_
          refine wl_callVi hC (c_X0_takesListed  (by first | assumption | omega) (by first | assumption | omega) (by first | assumption | omega)) lk_RX0_58 rfl ⟨rfl, rfl, Nat.le_of_ble_eq_true rfl, Nat.le_of_ble_eq_true rfl⟩ hP hD hS hA 0 rfl (T1 := 6) rfl hl.1 rfl (Nat.le_of_ble_eq_true rfl) dX0_takesItem_48 ⟨Nat.zero_le _, Nat.zero_le _⟩ (fun z12 hz12 H locs hP hD hS => ?_)
          have hm := wl_bz hm hz12
          exact wl_zret (v := z12.1) hC hr hlk hm rfl hP hD hS dX0_takesItem_51
      · have hm := hm.trans (if_pos c5)
        refine lv_aload_n hx hb dX0_takesItem_31 rfl (lv_at hl 0 rfl) ?_
        refine lv_aload_n hx hb dX0_takesItem_32 rfl (lv_at hl 1 rfl) ?_
        refine wl_callVi hC (c_X0_takesOne  (by first | assumption | omega) (by first | assumption | omega) (by first | assumption | omega)) lk_RX0_53 rfl ⟨rfl, rfl, Nat.le_of_ble_eq_true rfl, Nat.le_of_ble_eq_true rfl⟩ hP hD hS hA 0 rfl (T1 := 6) rfl hl.1 rfl (Nat.le_of_ble_eq_true rfl) dX0_takesItem_33 ⟨Nat.zero_le _, Nat.zero_le _⟩ (fun z13 hz13 H locs hP hD hS => ?_)
        have hm := wl_bz hm hz13
        exact wl_zret (v := z13.1) hC hr hlk hm rfl hP hD hS dX0_takesItem_36
    · have hm := hm.trans (if_pos c3)
      refine lv_aload_n hx hb dX0_takesItem_16 rfl (lv_at hl 0 rfl) ?_
      refine lv_aload_n hx hb dX0_takesItem_17 rfl (lv_at hl 1 rfl) ?_
      refine wl_callVi hC (c_X0_takesTown  (by first | assumption | omega) (by first | assumption | omega)) lk_RX0_47 rfl ⟨rfl, rfl, Nat.le_of_ble_eq_true rfl, Nat.le_of_ble_eq_true rfl⟩ hP hD hS hA 0 rfl (T1 := 6) rfl hl.1 rfl (Nat.le_of_ble_eq_true rfl) dX0_takesItem_18 ⟨Nat.zero_le _, Nat.zero_le _⟩ (fun z14 hz14 H locs hP hD hS => ?_)
      have hm := wl_bz hm hz14
      exact wl_zret (v := z14.1) hC hr hlk hm rfl hP hD hS dX0_takesItem_21
  · have hm := hm.trans (if_neg c2)
    refine lv_iconst (v := (nI 0)) hx hb dX0_takesItem_10 (by decide +kernel) ?_
    exact wl_zret (v := false) hC hr hlk hm rfl hP hD hS dX0_takesItem_11
