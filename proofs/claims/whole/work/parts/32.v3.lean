theorem takesTownX_ok {L b0 : Nat} {n0 ct : Int32} {by_ : Nat → Int32} (h : b0 ≤ L) (hL : L ≤ 150) : (m_X0_takesTown L b0 n0 by_ ct).2.2.1 ≤ L := by
  unfold m_X0_takesTown wl_bnd
  have g := takesNumber_ok (n0 := n0) (least := nI 1) (most := nI 5) (by_ := by_) h hL
  generalize m_X0_takesNumber L b0 n0 by_ (nI 1) (nI 5) = z at g ⊢
  dsimp only
  by_cases h1 : z.1 = true
  · rw [if_pos h1]; exact (takesStop_ok g.2.2 hL).2.2
  · rw [if_neg h1]; exact g.2.2
theorem takesListedX_ok {L b0 p : Nat} {n0 li : Int32} {by_ : Nat → Int32} (h : b0 ≤ L) (hL : L ≤ 150) : (m_X0_takesListed L b0 n0 by_ p li).2.2.1 ≤ L := by
  unfold m_X0_takesListed wl_bnd
  have g := takesNumber_ok (n0 := n0) (least := nI 0) (most := nI p - nI 1) (by_ := by_) h hL
  generalize m_X0_takesNumber L b0 n0 by_ (nI 0) (nI p - nI 1) = z at g ⊢
  dsimp only
  by_cases h1 : z.1 = true
  · rw [if_pos h1]; exact (takesStop_ok g.2.2 hL).2.2
  · rw [if_neg h1]; exact g.2.2
theorem takesFollowedX_ok {L b0 p : Nat} {n0 li : Int32} {by_ : Nat → Int32} (h : b0 ≤ L) (hL : L ≤ 150) : (m_X0_takesFollowed L b0 n0 by_ p li).2.2.1 ≤ L := takesListedX_ok h hL
theorem takesOneX_ok {L st b0 p u : Nat} {so n0 : Int32} {by_ kd_ te : Nat → Int32} (h : b0 ≤ L) (hL : L ≤ 150) (hp : p ≤ 7) : (m_X0_takesOne L st b0 so n0 by_ p u kd_ te).2.2.1 ≤ L ∧ (m_X0_takesOne L st b0 so n0 by_ p u kd_ te).2.2.2.2.2.1 ≤ 7 := by
  unfold m_X0_takesOne wl_bnd
  by_cases h7 : 7 ≤ p
  · rw [if_pos h7]; exact ⟨h, hp⟩
  · rw [if_neg h7]
    have g := takesNumber_ok (n0 := n0) (least := nI 0) (most := nI 5) (by_ := by_) h hL
    generalize m_X0_takesNumber L b0 n0 by_ (nI 0) (nI 5) = z at g ⊢
    dsimp only
    by_cases h1 : z.1 = true
    · simp only [if_pos h1]
      have g2 := takesNumber_ok (n0 := z.2.2.2.2) (least := nI 0) (most := nI 30) (by_ := by_) g.2.2 hL
      generalize m_X0_takesNumber L z.2.2.1 z.2.2.2.2 by_ (nI 0) (nI 30) = z2 at g2 ⊢
      by_cases h2 : z2.1 = true
      · simp only [if_pos h2]
        refine ⟨(takesStop_ok g2.2.2 hL).2.2, ?_⟩
        show (m_X1_addOne p u kd_ te z.2.2.2.2 z2.2.2.2.2).2.1 ≤ 7
        unfold m_X1_addOne
        rw [if_pos (by omega)]
        show p + 1 ≤ 7
        omega
      · simp only [if_neg h2]; exact ⟨g2.2.2, hp⟩
    · simp only [if_neg h1]; exact ⟨g.2.2, hp⟩
theorem takesItemX_ok {L st b0 p u : Nat} {so n0 ct li fo : Int32} {by_ kd_ te : Nat → Int32} {first : Bool} (h : b0 ≤ L) (hL : L ≤ 150) (hp : p ≤ 7) : (m_X0_takesItem L st b0 so n0 by_ ct p li fo u kd_ te first).2.2.1 ≤ L ∧ (m_X0_takesItem L st b0 so n0 by_ ct p li fo u kd_ te first).2.2.2.2.2.2.1 ≤ 7 := by
  unfold m_X0_takesItem wl_bnd
  dsimp only
  repeat' split
  · exact ⟨takesTownX_ok h hL, hp⟩
  · exact takesOneX_ok h hL hp
  · exact ⟨takesListedX_ok h hL, hp⟩
  · exact ⟨takesFollowedX_ok h hL, hp⟩
  · exact ⟨takesFollowedX_ok h hL, hp⟩
  · exact ⟨h, hp⟩
  · exact ⟨h, hp⟩
set_option maxHeartbeats 4000000 in
set_option maxRecDepth 100000 in
theorem c_X1_begin__XT_2 {l : Launch} {D : va_G} {E : Nat → ClassId} {a : Nat → Nat} {xlength : Nat} {xstart : Nat} {xbehind : Nat} {xsort : Int32} {xnumber : Int32} {xbytes : (Nat → Int32)} {counts : Int32} {people : Nat} {day : Int32} {listed : Int32} {followed : Int32} {struck : Int32} {noted : Nat} {undoable : Nat} {kinds : (Nat → Int32)} {tempers : (Nat → Int32)} {notes : (Nat → Int32)} {past : (Nat → Int32)} {least : Int32} : wl_Met (τ := Int32 × Nat × Int32 × Int32 × Int32 × Int32 × Nat × Nat) l D E yX1_begin cX1_begin 2 none ({ frames := 0, cells := 0, slots := 0, locals := 0 } : Room) [.ref (a 2), .int least] (wXT E a xlength xstart xbehind xsort xnumber xbytes counts people day listed followed struck noted undoable kinds tempers notes past) (fun _ => none) (fun z => (wXT E a xlength xstart xbehind xsort xnumber xbytes z.1 z.2.1 z.2.2.1 z.2.2.2.1 z.2.2.2.2.1 z.2.2.2.2.2.1 z.2.2.2.2.2.2.1 z.2.2.2.2.2.2.2 kinds tempers notes past)) (m_X1_begin least) :=
  wl_lift (c_X1_begin (a := (fun k => a ([2, 3, 4, 5, 6].getD k 0))) (counts := counts) (people := people) (day := day) (listed := listed) (followed := followed) (struck := struck) (noted := noted) (undoable := undoable) (kinds := kinds) (tempers := tempers) (notes := notes) (past := past) (least := least) ) [2, 3, 4, 5, 6] [0, 1] [0, 1, 2, 3, 4, 5, 6] (wr := ([0, 1].filterMap (fun i => (wXT E a xlength xstart xbehind xsort xnumber xbytes counts people day listed followed struck noted undoable kinds tempers notes past)[i]?))) rfl rfl (by decide) (by decide) (by decide) (by decide) (fun _ => rfl)
set_option maxHeartbeats 4000000 in
set_option maxRecDepth 100000 in
theorem c_X0_takeToken__XT_0 {l : Launch} {D : va_G} {E : Nat → ClassId} {a : Nat → Nat} {xlength : Nat} {xstart : Nat} {xbehind : Nat} {xsort : Int32} {xnumber : Int32} {xbytes : (Nat → Int32)} {counts : Int32} {people : Nat} {day : Int32} {listed : Int32} {followed : Int32} {struck : Int32} {noted : Nat} {undoable : Nat} {kinds : (Nat → Int32)} {tempers : (Nat → Int32)} {notes : (Nat → Int32)} {past : (Nat → Int32)}  (hXL : xlength ≤ 150) (hXB : xbehind ≤ xlength) : wl_Met (τ := Nat × Nat × Int32) l D E yX0_takeToken cX0_takeToken 1 none ({ frames := 1, cells := 0, slots := 0, locals := 20 } : Room) [.ref (a 0)] (wXT E a xlength xstart xbehind xsort xnumber xbytes counts people day listed followed struck noted undoable kinds tempers notes past) (fun _ => none) (fun z => (wXT E a xlength z.1 z.2.1 z.2.2 xnumber xbytes counts people day listed followed struck noted undoable kinds tempers notes past)) (m_X0_takeToken xlength xbehind xbytes) :=
  wl_lift (c_X0_takeToken (a := (fun k => a ([0, 1].getD k 0))) (xlength := xlength) (xstart := xstart) (xbehind := xbehind) (xsort := xsort) (xnumber := xnumber) (xbytes := xbytes)  hXL hXB) [0, 1] [2, 3, 4, 5, 6] [5, 6, 0, 1, 2, 3, 4] (wr := ([2, 3, 4, 5, 6].filterMap (fun i => (wXT E a xlength xstart xbehind xsort xnumber xbytes counts people day listed followed struck noted undoable kinds tempers notes past)[i]?))) rfl rfl (by decide) (by decide) (by decide) (by decide) (fun _ => rfl)
def m_X0_readInto_l12 (xlength : Nat) (xbytes : (Nat → Int32)) (z1 : Int32 × Nat × Int32 × Int32 × Int32 × Int32 × Nat × Nat) (v2 : Nat × Nat × Int32 × Int32 × Int32 × Nat × Int32 × Int32 × Nat × (Nat → Int32) × (Nat → Int32) × Nat) : (Nat × Nat × Int32 × Int32 × Int32 × Nat × Int32 × Int32 × Nat × (Nat → Int32) × (Nat → Int32) × Nat) ⊕ (Int32 × Nat × Nat × Int32 × Int32 × Int32 × Nat × Int32 × Int32 × Int32 × Int32 × Nat × Nat × (Nat → Int32) × (Nat → Int32)) := (if 150 < v2.2.2.2.2.2.2.2.2.2.2.2 then (Sum.inr (((-10) - (nI v2.1)), v2.1, v2.2.1, v2.2.2.1, v2.2.2.2.1, v2.2.2.2.2.1, v2.2.2.2.2.2.1, z1.2.2.1, v2.2.2.2.2.2.2.1, v2.2.2.2.2.2.2.2.1, z1.2.2.2.2.2.1, z1.2.2.2.2.2.2.1, v2.2.2.2.2.2.2.2.2.1, v2.2.2.2.2.2.2.2.2.2.1, v2.2.2.2.2.2.2.2.2.2.2.1)) else (wl_bnd (m_X0_takeToken xlength v2.2.1 xbytes) (fun z4 => (if 0 < v2.2.2.2.2.2.2.2.2.2.2.2 then (if z4.2.2 = 0 then (Sum.inr ((nI v2.2.2.2.2.2.2.2.2.2.2.2), z4.1, z4.2.1, z4.2.2, v2.2.2.2.1, v2.2.2.2.2.1, v2.2.2.2.2.2.1, z1.2.2.1, v2.2.2.2.2.2.2.1, v2.2.2.2.2.2.2.2.1, z1.2.2.2.2.2.1, z1.2.2.2.2.2.2.1, v2.2.2.2.2.2.2.2.2.1, v2.2.2.2.2.2.2.2.2.2.1, v2.2.2.2.2.2.2.2.2.2.2.1)) else (wl_bnd ((if v2.2.2.2.2.2.2.2.2.2.2.2 = 0 then true else false) : Bool) (fun z11 => (wl_bnd (m_X0_takesItem xlength z4.1 z4.2.1 z4.2.2 v2.2.2.2.1 xbytes v2.2.2.2.2.1 v2.2.2.2.2.2.1 v2.2.2.2.2.2.2.1 v2.2.2.2.2.2.2.2.1 v2.2.2.2.2.2.2.2.2.1 v2.2.2.2.2.2.2.2.2.2.1 v2.2.2.2.2.2.2.2.2.2.2.1 z11) (fun z13 => (if z13.1 = true then (Sum.inl (z13.2.1, z13.2.2.1, z13.2.2.2.1, z13.2.2.2.2.1, z13.2.2.2.2.2.1, z13.2.2.2.2.2.2.1, z13.2.2.2.2.2.2.2.1, z13.2.2.2.2.2.2.2.2.1, z13.2.2.2.2.2.2.2.2.2.1, z13.2.2.2.2.2.2.2.2.2.2.1, z13.2.2.2.2.2.2.2.2.2.2.2, (v2.2.2.2.2.2.2.2.2.2.2.2 + 1))) else (Sum.inr (((-10) - (nI z13.2.1)), z13.2.1, z13.2.2.1, z13.2.2.2.1, z13.2.2.2.2.1, z13.2.2.2.2.2.1, z13.2.2.2.2.2.2.1, z1.2.2.1, z13.2.2.2.2.2.2.2.1, z13.2.2.2.2.2.2.2.2.1, z1.2.2.2.2.2.1, z1.2.2.2.2.2.2.1, z13.2.2.2.2.2.2.2.2.2.1, z13.2.2.2.2.2.2.2.2.2.2.1, z13.2.2.2.2.2.2.2.2.2.2.2)))))))) else (wl_bnd ((if v2.2.2.2.2.2.2.2.2.2.2.2 = 0 then true else false) : Bool) (fun z6 => (wl_bnd (m_X0_takesItem xlength z4.1 z4.2.1 z4.2.2 v2.2.2.2.1 xbytes v2.2.2.2.2.1 v2.2.2.2.2.2.1 v2.2.2.2.2.2.2.1 v2.2.2.2.2.2.2.2.1 v2.2.2.2.2.2.2.2.2.1 v2.2.2.2.2.2.2.2.2.2.1 v2.2.2.2.2.2.2.2.2.2.2.1 z6) (fun z8 => (if z8.1 = true then (Sum.inl (z8.2.1, z8.2.2.1, z8.2.2.2.1, z8.2.2.2.2.1, z8.2.2.2.2.2.1, z8.2.2.2.2.2.2.1, z8.2.2.2.2.2.2.2.1, z8.2.2.2.2.2.2.2.2.1, z8.2.2.2.2.2.2.2.2.2.1, z8.2.2.2.2.2.2.2.2.2.2.1, z8.2.2.2.2.2.2.2.2.2.2.2, (v2.2.2.2.2.2.2.2.2.2.2.2 + 1))) else (Sum.inr (((-10) - (nI z8.2.1)), z8.2.1, z8.2.2.1, z8.2.2.2.1, z8.2.2.2.2.1, z8.2.2.2.2.2.1, z8.2.2.2.2.2.2.1, z1.2.2.1, z8.2.2.2.2.2.2.2.1, z8.2.2.2.2.2.2.2.2.1, z1.2.2.2.2.2.1, z1.2.2.2.2.2.2.1, z8.2.2.2.2.2.2.2.2.2.1, z8.2.2.2.2.2.2.2.2.2.2.1, z8.2.2.2.2.2.2.2.2.2.2.2)))))))))))
def m_X0_readInto (xlength : Nat) (xstart : Nat) (xsort : Int32) (xnumber : Int32) (xbytes : (Nat → Int32)) (kinds : (Nat → Int32)) (tempers : (Nat → Int32)) : Int32 × Nat × Nat × Int32 × Int32 × Int32 × Nat × Int32 × Int32 × Int32 × Int32 × Nat × Nat × (Nat → Int32) × (Nat → Int32) := (wl_bnd (m_X1_begin (nI 3)) (fun z1 => (wl_run (m_X0_readInto_l12 xlength xbytes z1) default 152 (xstart, 0, xsort, xnumber, z1.1, z1.2.1, z1.2.2.2.1, z1.2.2.2.2.1, z1.2.2.2.2.2.2.2, kinds, tempers, 0))))
set_option maxHeartbeats 4000000 in
set_option maxRecDepth 100000 in
theorem c_X0_readInto {l : Launch} {D : va_G} {E : Nat → ClassId} {K V : Nat → Nat} {fz : Nat} {a : Nat → Nat} {xlength : Nat} {xstart : Nat} {xbehind : Nat} {xsort : Int32} {xnumber : Int32} {xbytes : (Nat → Int32)} {counts : Int32} {people : Nat} {day : Int32} {listed : Int32} {followed : Int32} {struck : Int32} {noted : Nat} {undoable : Nat} {kinds : (Nat → Int32)} {tempers : (Nat → Int32)} {notes : (Nat → Int32)} {past : (Nat → Int32)}  (hXL : xlength ≤ 150) : wl_MetS (τ := Int32 × Nat × Nat × Int32 × Int32 × Int32 × Nat × Int32 × Int32 × Int32 × Int32 × Nat × Nat × (Nat → Int32) × (Nat → Int32)) l D E K V fz yX0_readInto cX0_readInto 3 (some .int) ({ frames := 6, cells := 0, slots := 0, locals := 129 } : Room) [.ref (a 0), .ref (a 2)] (wXT E a xlength xstart xbehind xsort xnumber xbytes counts people day listed followed struck noted undoable kinds tempers notes past) (fun z => some (.int z.1)) (fun z => (wXT E a xlength z.2.1 z.2.2.1 z.2.2.2.1 z.2.2.2.2.1 xbytes z.2.2.2.2.2.1 z.2.2.2.2.2.2.1 z.2.2.2.2.2.2.2.1 z.2.2.2.2.2.2.2.2.1 z.2.2.2.2.2.2.2.2.2.1 z.2.2.2.2.2.2.2.2.2.2.1 z.2.2.2.2.2.2.2.2.2.2.2.1 z.2.2.2.2.2.2.2.2.2.2.2.2.1 z.2.2.2.2.2.2.2.2.2.2.2.2.2.1 z.2.2.2.2.2.2.2.2.2.2.2.2.2.2 notes past)) (m_X0_readInto xlength xstart xsort xnumber xbytes kinds tempers) := by
  refine wl_enterS (own := RX0) (by decide +kernel) rfl (Nat.le_of_ble_eq_true rfl) ?_
  intro p0 e0 s0 m0 bl0 mt0 c0 A hC hE hr hlk hA H locs hP hD hS ls hl
  have hx := hC.1
  have hb := hC.2.1
  have hl : lv_has ls 3 [(0, .ref (a 0)), (1, .ref (a 2))] := hl
  have hm := m_X0_readInto.eq_1 xlength xstart xsort xnumber xbytes kinds tempers
  refine lv_aload_n hx hb dX0_readInto_0 rfl (lv_at hl 1 rfl) ?_
  refine lv_iconst (v := (nI 3)) hx hb dX0_readInto_1 (by decide +kernel) ?_
  refine wl_callVv hC (c_X1_begin__XT_2 (least := (nI 3)) ) lk_RX0_19 rfl ⟨rfl, rfl, Nat.le_of_ble_eq_true rfl, Nat.le_of_ble_eq_true rfl⟩ hP hD hS hA 2 rfl (T1 := 12) rfl hl.1 rfl (Nat.le_of_ble_eq_true rfl) dX0_readInto_2 ⟨Nat.zero_le _, Nat.zero_le _⟩ (fun z1 hz1 H locs hP hD hS => ?_)
  have hm := wl_bz hm hz1
  have hB1 : z1.2.1 = 0 := by rw [hz1]; rfl
  refine lv_aload_n hx hb dX0_readInto_5 rfl (lv_at hl 0 rfl) ?_
  refine lv_iconst (v := (nI 0)) hx hb dX0_readInto_6 (by decide +kernel) ?_
  refine p_XT_0_behind hC hP hD hS 0 mw_18 dX0_readInto_7 (fun H locs hP hD hS => ?_)
  refine lv_iconst (v := (nI 0)) hx hb dX0_readInto_10 (by decide +kernel) ?_
  refine lv_istore_n (lv' := [(2, .int (nI 0)), (0, .ref (a 0)), (1, .ref (a 2))]) hx hb dX0_readInto_11 rfl hl (by decide) rfl (fun ls hl => ?_)
  refine wl_while (D := D) (A := A) (H0 := s0.heap) (m_X0_readInto_l12 xlength xbytes z1) default 152 (xstart, 0, xsort, xnumber, z1.1, z1.2.1, z1.2.2.2.1, z1.2.2.2.2.1, z1.2.2.2.2.2.2.2, kinds, tempers, 0) 12 3 (fun v2 => [(0, .ref (a 0)), (1, .ref (a 2)), (2, .int (nI v2.2.2.2.2.2.2.2.2.2.2.2))]) (fun v2 => (wXT E a xlength v2.1 v2.2.1 v2.2.2.1 v2.2.2.2.1 xbytes v2.2.2.2.2.1 v2.2.2.2.2.2.1 z1.2.2.1 v2.2.2.2.2.2.2.1 v2.2.2.2.2.2.2.2.1 z1.2.2.2.2.2.1 z1.2.2.2.2.2.2.1 v2.2.2.2.2.2.2.2.2.1 v2.2.2.2.2.2.2.2.2.2.1 v2.2.2.2.2.2.2.2.2.2.2.1 notes past)) (fun v2 => (v2.2.1 ≤ xlength) ∧ (v2.2.2.2.2.2.1 ≤ 7) ∧ (v2.2.2.2.2.2.2.2.2.2.2.2 ≤ 151)) (fun v2 => 151 - v2.2.2.2.2.2.2.2.2.2.2.2) ⟨(by show 0 ≤ xlength; exact (Nat.zero_le _)), (by show z1.2.1 ≤ 7; omega), (by show 0 ≤ 151; omega)⟩ (by show 151 - 0 < 152; first | decide | omega) ?_ hP hD hS (lv_sub hl [1, 2, 0] rfl)
  intro v2 hI2 EX2 IH2 ls H locs hP hD hS hl
  obtain ⟨q1, q7, q2⟩ := hI2
  have hb2 := m_X0_readInto_l12.eq_1 xlength xbytes z1 v2
  refine lv_iload_n hx hb dX0_readInto_12 rfl (lv_at hl 2 rfl) ?_
  refine lv_sipush (v := (nI 150)) hx hb dX0_readInto_13 (by decide +kernel) ?_
  refine wl_icmp_gt_n hx hb (by first | omega | exact Nat.lt_of_le_of_lt Nat.and_le_right (by omega) | exact Nat.pow_lt_pow_right (by omega) (by omega) | exact Nat.lt_trans (by assumption) (Nat.pow_lt_pow_right (by omega) (by omega))) (by first | omega | exact Nat.lt_of_le_of_lt Nat.and_le_right (by omega) | exact Nat.pow_lt_pow_right (by omega) (by omega) | exact Nat.lt_trans (by assumption) (Nat.pow_lt_pow_right (by omega) (by omega))) (tgt := 62) dX0_readInto_16 (by decide) (fun c3 => ?_) (fun c3 => ?_)
  · have hb2 := hb2.trans (if_pos c3)
    refine lv_bipush (v := (-10)) hx hb dX0_readInto_62 (by decide +kernel) ?_
    refine lv_aload_n hx hb dX0_readInto_64 rfl (lv_at hl 0 rfl) ?_
    refine g_XT_0_start hC hP mw_19 dX0_readInto_65 ?_
    refine lv_isub hx hb dX0_readInto_68 ?_
    exact wl_iret hC hr hlk (hm.trans (EX2 _ hb2)) rfl hP hD hS dX0_readInto_69
  · have hb2 := hb2.trans (if_neg c3)
    refine lv_aload_n hx hb dX0_readInto_19 rfl (lv_at hl 0 rfl) ?_
    refine wl_callVv hC (c_X0_takeToken__XT_0  (by first | assumption | omega) (by first | assumption | omega)) lk_RX0_28 rfl ⟨rfl, rfl, Nat.le_of_ble_eq_true rfl, Nat.le_of_ble_eq_true rfl⟩ hP hD hS hA 0 rfl (T1 := 6) rfl hl.1 rfl (Nat.le_of_ble_eq_true rfl) dX0_readInto_20 ⟨Nat.zero_le _, Nat.zero_le _⟩ (fun z4 hz4 H locs hP hD hS => ?_)
    have hb2 := wl_bz hb2 hz4
    have hQz4 := takeToken_ok (by_ := xbytes) q1 hXL
    rw [← hz4] at hQz4
    obtain ⟨hAz4, hBz4, hCz4⟩ := hQz4
    refine lv_iload_n hx hb dX0_readInto_23 rfl (lv_at hl 2 rfl) ?_
    refine wl_if_le_n hx hb (by first | omega | exact Nat.lt_of_le_of_lt Nat.and_le_right (by omega) | exact Nat.pow_lt_pow_right (by omega) (by omega) | exact Nat.lt_trans (by assumption) (Nat.pow_lt_pow_right (by omega) (by omega))) (tgt := 36) dX0_readInto_24 (by decide) (fun c5 => ?_) (fun c5 => ?_)
    · have hb2 := hb2.trans (if_neg c5)
      refine lv_aload_n hx hb dX0_readInto_36 rfl (lv_at hl 0 rfl) ?_
      refine lv_aload_n hx hb dX0_readInto_37 rfl (lv_at hl 1 rfl) ?_
      refine lv_iload_n hx hb dX0_readInto_38 rfl (lv_at hl 2 rfl) ?_
      obtain ⟨u6, hj6, hk6⟩ := wl_bx hb2
      refine wl_J u6 47 (fun z6 => [.int (wl_b z6), .ref (a 2), .ref (a 0)]) 3 (fun z6 => [(0, .ref (a 0)), (1, .ref (a 2)), (2, .int (nI v2.2.2.2.2.2.2.2.2.2.2.2))]) D A s0.heap (fun z6 => (wXT E a xlength z4.1 z4.2.1 z4.2.2 v2.2.2.2.1 xbytes v2.2.2.2.2.1 v2.2.2.2.2.2.1 z1.2.2.1 v2.2.2.2.2.2.2.1 v2.2.2.2.2.2.2.2.1 z1.2.2.2.2.2.1 z1.2.2.2.2.2.2.1 v2.2.2.2.2.2.2.2.2.1 v2.2.2.2.2.2.2.2.2.2.1 v2.2.2.2.2.2.2.2.2.2.2.1 notes past)) (fun z6 hz6 ls H locs hP hD hS hl => ?_) (fun J6 => ?_)
      · have hb2 := hk6 z6 hz6
        refine wl_callVSi hC hE (c_X0_takesItem (first := z6) (by first | assumption | omega) (by first | assumption | omega) (by first | assumption | omega) (by first | assumption | omega)) lk_RX0_34 rfl ⟨rfl, rfl, Nat.le_of_ble_eq_true rfl, Nat.le_of_ble_eq_true rfl⟩ hP hD hS hA 0 rfl (T1 := 6) rfl hl.1 rfl (Nat.le_of_ble_eq_true rfl) dX0_readInto_47 ⟨Nat.zero_le _, Nat.zero_le _⟩ (fun z8 hz8 H locs hP hD hS => ?_)
        have hb2 := wl_bz hb2 hz8
        obtain ⟨hI1, hI2⟩ : z8.2.2.1 ≤ xlength ∧ z8.2.2.2.2.2.2.1 ≤ 7 := by rw [hz8]; exact takesItemX_ok (by assumption) hXL q7
        refine wl_if_ne_b hx hb (tgt := 56) dX0_readInto_50 (by decide) (fun c9 => ?_) (fun c9 => ?_)
        · have hb2 := hb2.trans (if_pos c9)
          refine lv_iinc (v := (nI (v2.2.2.2.2.2.2.2.2.2.2.2 + 1))) (lv' := [(2, .int (nI (v2.2.2.2.2.2.2.2.2.2.2.2 + 1))), (0, .ref (a 0)), (1, .ref (a 2))]) hx hb dX0_readInto_56 hl (k := 2) rfl (wl_inc v2.2.2.2.2.2.2.2.2.2.2.2 1) (by decide) rfl (fun ls hl => ?_)
          refine lv_goto (tgt := 12) hx hb dX0_readInto_59 (by decide) ?_
          exact IH2 _ hb2 ⟨(by show z8.2.2.1 ≤ xlength; exact hI1), (by show z8.2.2.2.2.2.2.1 ≤ 7; exact hI2), (by show (v2.2.2.2.2.2.2.2.2.2.2.2 + 1) ≤ 151; omega)⟩ (by show 151 - (v2.2.2.2.2.2.2.2.2.2.2.2 + 1) < 151 - v2.2.2.2.2.2.2.2.2.2.2.2; omega) ls H locs hP hD hS (lv_sub hl [1, 2, 0] rfl)
        · have hb2 := hb2.trans (if_neg c9)
          refine lv_goto (tgt := 62) hx hb dX0_readInto_53 (by decide) ?_
          refine lv_bipush (v := (-10)) hx hb dX0_readInto_62 (by decide +kernel) ?_
          refine lv_aload_n hx hb dX0_readInto_64 rfl (lv_at hl 0 rfl) ?_
          refine g_XT_0_start hC hP mw_19 dX0_readInto_65 ?_
          refine lv_isub hx hb dX0_readInto_68 ?_
          exact wl_iret hC hr hlk (hm.trans (EX2 _ hb2)) rfl hP hD hS dX0_readInto_69
      · refine wl_if_ne_n hx hb (by first | omega | exact Nat.lt_of_le_of_lt Nat.and_le_right (by omega) | exact Nat.pow_lt_pow_right (by omega) (by omega) | exact Nat.lt_trans (by assumption) (Nat.pow_lt_pow_right (by omega) (by omega))) (tgt := 46) dX0_readInto_39 (by decide) (fun c7 => ?_) (fun c7 => ?_)
        · have hj6 := hj6.trans (if_neg c7)
          refine lv_iconst (v := (nI 0)) hx hb dX0_readInto_46 (by decide +kernel) ?_
          exact J6 _ hj6 ls H locs hP hD hS (lv_sub hl [0, 1, 2] rfl)
        · have hj6 := hj6.trans (if_pos c7)
          refine lv_iconst (v := (nI 1)) hx hb dX0_readInto_42 (by decide +kernel) ?_
          refine lv_goto (tgt := 47) hx hb dX0_readInto_43 (by decide) ?_
          exact J6 _ hj6 ls H locs hP hD hS (lv_sub hl [0, 1, 2] rfl)
    · have hb2 := hb2.trans (if_pos c5)
      refine lv_aload_n hx hb dX0_readInto_27 rfl (lv_at hl 0 rfl) ?_
      refine g_XT_0_sort hC hP mw_20 dX0_readInto_28 ?_
      refine lv_if_ne hx hb (tgt := 36) dX0_readInto_31 (by decide) (fun c10 => ?_) (fun c10 => ?_)
      · have hb2 := hb2.trans (if_neg c10)
        refine lv_aload_n hx hb dX0_readInto_36 rfl (lv_at hl 0 rfl) ?_
        refine lv_aload_n hx hb dX0_readInto_37 rfl (lv_at hl 1 rfl) ?_
        refine lv_iload_n hx hb dX0_readInto_38 rfl (lv_at hl 2 rfl) ?_
        obtain ⟨u11, hj11, hk11⟩ := wl_bx hb2
        refine wl_J u11 47 (fun z11 => [.int (wl_b z11), .ref (a 2), .ref (a 0)]) 3 (fun z11 => [(0, .ref (a 0)), (1, .ref (a 2)), (2, .int (nI v2.2.2.2.2.2.2.2.2.2.2.2))]) D A s0.heap (fun z11 => (wXT E a xlength z4.1 z4.2.1 z4.2.2 v2.2.2.2.1 xbytes v2.2.2.2.2.1 v2.2.2.2.2.2.1 z1.2.2.1 v2.2.2.2.2.2.2.1 v2.2.2.2.2.2.2.2.1 z1.2.2.2.2.2.1 z1.2.2.2.2.2.2.1 v2.2.2.2.2.2.2.2.2.1 v2.2.2.2.2.2.2.2.2.2.1 v2.2.2.2.2.2.2.2.2.2.2.1 notes past)) (fun z11 hz11 ls H locs hP hD hS hl => ?_) (fun J11 => ?_)
        · have hb2 := hk11 z11 hz11
          refine wl_callVSi hC hE (c_X0_takesItem (first := z11) (by first | assumption | omega) (by first | assumption | omega) (by first | assumption | omega) (by first | assumption | omega)) lk_RX0_34 rfl ⟨rfl, rfl, Nat.le_of_ble_eq_true rfl, Nat.le_of_ble_eq_true rfl⟩ hP hD hS hA 0 rfl (T1 := 6) rfl hl.1 rfl (Nat.le_of_ble_eq_true rfl) dX0_readInto_47 ⟨Nat.zero_le _, Nat.zero_le _⟩ (fun z13 hz13 H locs hP hD hS => ?_)
          have hb2 := wl_bz hb2 hz13
          obtain ⟨hI1, hI2⟩ : z13.2.2.1 ≤ xlength ∧ z13.2.2.2.2.2.2.1 ≤ 7 := by rw [hz13]; exact takesItemX_ok (by assumption) hXL q7
          refine wl_if_ne_b hx hb (tgt := 56) dX0_readInto_50 (by decide) (fun c14 => ?_) (fun c14 => ?_)
          · have hb2 := hb2.trans (if_pos c14)
            refine lv_iinc (v := (nI (v2.2.2.2.2.2.2.2.2.2.2.2 + 1))) (lv' := [(2, .int (nI (v2.2.2.2.2.2.2.2.2.2.2.2 + 1))), (0, .ref (a 0)), (1, .ref (a 2))]) hx hb dX0_readInto_56 hl (k := 2) rfl (wl_inc v2.2.2.2.2.2.2.2.2.2.2.2 1) (by decide) rfl (fun ls hl => ?_)
            refine lv_goto (tgt := 12) hx hb dX0_readInto_59 (by decide) ?_
            exact IH2 _ hb2 ⟨(by show z13.2.2.1 ≤ xlength; exact hI1), (by show z13.2.2.2.2.2.2.1 ≤ 7; exact hI2), (by show (v2.2.2.2.2.2.2.2.2.2.2.2 + 1) ≤ 151; omega)⟩ (by show 151 - (v2.2.2.2.2.2.2.2.2.2.2.2 + 1) < 151 - v2.2.2.2.2.2.2.2.2.2.2.2; omega) ls H locs hP hD hS (lv_sub hl [1, 2, 0] rfl)
          · have hb2 := hb2.trans (if_neg c14)
            refine lv_goto (tgt := 62) hx hb dX0_readInto_53 (by decide) ?_
            refine lv_bipush (v := (-10)) hx hb dX0_readInto_62 (by decide +kernel) ?_
            refine lv_aload_n hx hb dX0_readInto_64 rfl (lv_at hl 0 rfl) ?_
            refine g_XT_0_start hC hP mw_19 dX0_readInto_65 ?_
            refine lv_isub hx hb dX0_readInto_68 ?_
            exact wl_iret hC hr hlk (hm.trans (EX2 _ hb2)) rfl hP hD hS dX0_readInto_69
        · refine wl_if_ne_n hx hb (by first | omega | exact Nat.lt_of_le_of_lt Nat.and_le_right (by omega) | exact Nat.pow_lt_pow_right (by omega) (by omega) | exact Nat.lt_trans (by assumption) (Nat.pow_lt_pow_right (by omega) (by omega))) (tgt := 46) dX0_readInto_39 (by decide) (fun c12 => ?_) (fun c12 => ?_)
          · have hj11 := hj11.trans (if_neg c12)
            refine lv_iconst (v := (nI 0)) hx hb dX0_readInto_46 (by decide +kernel) ?_
            exact J11 _ hj11 ls H locs hP hD hS (lv_sub hl [0, 1, 2] rfl)
          · have hj11 := hj11.trans (if_pos c12)
            refine lv_iconst (v := (nI 1)) hx hb dX0_readInto_42 (by decide +kernel) ?_
            refine lv_goto (tgt := 47) hx hb dX0_readInto_43 (by decide) ?_
            exact J11 _ hj11 ls H locs hP hD hS (lv_sub hl [0, 1, 2] rfl)
      · have hb2 := hb2.trans (if_pos c10)
        refine lv_iload_n hx hb dX0_readInto_34 rfl (lv_at hl 2 rfl) ?_
        exact wl_iret hC hr hlk (hm.trans (EX2 _ hb2)) rfl hP hD hS dX0_readInto_35
