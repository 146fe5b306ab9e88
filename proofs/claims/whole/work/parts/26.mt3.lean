theorem upd_many {x : Int32} : ∀ (n k : Nat) (v : Nat → Int32) (i : Nat), wl_iter (fun k v => upd v k x) n k v i = if k ≤ i ∧ i < k + n then x else v i := by
  intro n
  induction n with
  | zero => intro k v i; rw [wl_iter, if_neg (by omega)]
  | succ n ih =>
    intro k v i
    rw [wl_iter, ih]
    by_cases h : k + 1 ≤ i ∧ i < k + 1 + n
    · rw [if_pos h, if_pos (by omega)]
    · rw [if_neg h]
      by_cases h2 : i = k
      · subst h2; rw [pk_us, if_pos (by omega)]
      · rw [pk_un h2, if_neg (by omega)]
theorem begin_at (arr : Nat → Int32) (c : Int32) (i : Nat) : m_X4_begin arr c i = if i = 1 then c else if i < 52 then nI 0 else arr i := by
  show upd (wl_iter m_X4_begin_l2 52 0 arr) 1 c i = _
  by_cases h : i = 1
  · subst h; rw [pk_us, if_pos rfl]
  · rw [pk_un h, if_neg h]
    show wl_iter (fun k v => upd v k (nI 0)) 52 0 arr i = _
    rw [upd_many]
    by_cases h2 : i < 52
    · rw [if_pos (by omega), if_pos h2]
    · rw [if_neg (by omega), if_neg h2]
/-- what a look at the text leaves: the token further on, the laid town's people at most seven -/
def TI (L ta : Nat) (z : Bool × Nat × Nat × Int32 × Int32 × (Nat → Int32) × (Nat → Int32)) : Prop :=
  ta ≤ z.2.1 ∧ TK L z.2.1 z.2.2.1 z.2.2.2.1 ∧ z.2.2.2.2.2.1 0 = nI (cl (z.2.2.2.2.2.1 0)) ∧ cl (z.2.2.2.2.2.1 0) ≤ 7
theorem takesOne_ok {L ta lg : Nat} {tok val : Int32} {by_ an vals : Nat → Int32} {P : Nat} (h : TK L ta lg tok) (hL : L ≤ 150) (h0 : an 0 = nI P) (hP : P ≤ 7) : TI L ta (m_X4_takesOne L ta lg tok val by_ an vals P) := by
  have hs := wl_selfcl h0 hP (by decide)
  unfold m_X4_takesOne wl_bnd
  by_cases h7 : P = 7
  · rw [if_pos h7]; exact ⟨Nat.le_refl _, h, hs.1, hs.2⟩
  · rw [if_neg h7]
    obtain ⟨g1, g2⟩ := goBehind_ok (by_ := by_) h.1 hL
    generalize m_X4_goBehind L ta lg by_ = z2 at g1 g2 ⊢
    dsimp only
    obtain ⟨k1, k2⟩ := takes_ok (val := z2.2.2.2) (by_ := by_) (vals := vals) (k := 0) (low := nI 0) (high := nI 5) g2 hL
    generalize m_X4_takes L z2.1 z2.2.1 z2.2.2.1 z2.2.2.2 by_ vals 0 (nI 0) (nI 5) = z3 at k1 k2 ⊢
    by_cases h3 : z3.1 = true
    · simp only [if_pos h3]
      obtain ⟨j1, j2⟩ := takes_ok (val := z3.2.2.2.2.1) (by_ := by_) (vals := z3.2.2.2.2.2) (k := 1) (low := nI 0) (high := nI 30) k2 hL
      generalize m_X4_takes L z3.2.1 z3.2.2.1 z3.2.2.2.1 z3.2.2.2.2.1 by_ z3.2.2.2.2.2 1 (nI 0) (nI 30) = z5 at j1 j2 ⊢
      by_cases h5 : z5.1 = true
      · simp only [if_pos h5]
        have e : m_X4_layOne an (z5.2.2.2.2.2 0) (z5.2.2.2.2.2 1) P 0 = nI (P + 1) := pk_us
        have e2 := wl_selfcl e (show P + 1 ≤ 7 by omega) (by decide)
        exact ⟨by show ta ≤ z5.2.1; omega, j2, e2.1, e2.2⟩
      · simp only [if_neg h5]
        exact ⟨by show ta ≤ z5.2.1; omega, j2, hs.1, hs.2⟩
    · simp only [if_neg h3]
      exact ⟨by show ta ≤ z3.2.1; omega, k2, hs.1, hs.2⟩
theorem takesBit_ok {L ta lg : Nat} {tok : Int32} {by_ an vals : Nat → Int32} {w P : Nat} (h : TK L ta lg tok) (hL : L ≤ 150) (h0 : an 0 = nI P) (hP : P ≤ 7) (hw : w = 18 ∨ w = 19) : TI L ta (m_X4_takesBit L ta lg by_ an vals w P) := by
  have hs := wl_selfcl h0 hP (by decide)
  unfold m_X4_takesBit wl_bnd
  obtain ⟨g1, g2⟩ := goBehind_ok (by_ := by_) h.1 hL
  generalize m_X4_goBehind L ta lg by_ = z2 at g1 g2 ⊢
  dsimp only
  obtain ⟨k1, k2⟩ := takes_ok (val := z2.2.2.2) (by_ := by_) (vals := vals) (k := 0) (low := nI 0) (high := nI P - nI 1) g2 hL
  generalize m_X4_takes L z2.1 z2.2.1 z2.2.2.1 z2.2.2.2 by_ vals 0 (nI 0) (nI P - nI 1) = z3 at k1 k2 ⊢
  by_cases h3 : z3.1 = true
  · simp only [if_pos h3]
    have e : upd an w (an w ||| nI 1 <<< (z3.2.2.2.2.2 0 &&& 31)) 0 = an 0 := pk_un (by omega)
    exact ⟨by show ta ≤ z3.2.1; omega, k2, by show upd an w (an w ||| nI 1 <<< (z3.2.2.2.2.2 0 &&& 31)) 0 = nI (cl (upd an w (an w ||| nI 1 <<< (z3.2.2.2.2.2 0 &&& 31)) 0)); rw [e]; exact hs.1, by show cl (upd an w (an w ||| nI 1 <<< (z3.2.2.2.2.2 0 &&& 31)) 0) ≤ 7; rw [e]; exact hs.2⟩
  · simp only [if_neg h3]
    exact ⟨by show ta ≤ z3.2.1; omega, k2, hs.1, hs.2⟩
theorem takesItem_ok {L ta lg : Nat} {tok val : Int32} {by_ an vals : Nat → Int32} {P : Nat} (h : TK L ta lg tok) (hL : L ≤ 150) (h0 : an 0 = nI P) (hP : P ≤ 7) : TI L ta (m_X4_takesItem L ta lg tok val by_ an vals P) := by
  have hs := wl_selfcl h0 hP (by decide)
  unfold m_X4_takesItem wl_bnd
  dsimp only
  repeat' split
  · exact takesOne_ok h hL h0 hP
  · exact takesBit_ok h hL h0 hP (Or.inl rfl)
  · exact takesBit_ok h hL h0 hP (Or.inr rfl)
  · exact takesBit_ok h hL h0 hP (Or.inr rfl)
  · exact ⟨Nat.le_refl _, h, hs.1, hs.2⟩
theorem takesTown_ok {L ta lg : Nat} {tok val : Int32} {by_ an vals : Nat → Int32} (h : TK L ta lg tok) (hL : L ≤ 150) : TK L (m_X4_takesTown L ta lg tok val by_ an vals).2.1 (m_X4_takesTown L ta lg tok val by_ an vals).2.2.1 (m_X4_takesTown L ta lg tok val by_ an vals).2.2.2.1 ∧ ((m_X4_takesTown L ta lg tok val by_ an vals).1 = true → (m_X4_takesTown L ta lg tok val by_ an vals).2.2.2.2.2.1 0 = nI 0) := by
  unfold m_X4_takesTown wl_bnd
  by_cases h1 : m_X4_spells ta lg tok by_ 4 (nI 116) (nI 111) (nI 119) (nI 110) (nI 0) (nI 0) = true
  · simp only [if_pos h1]
    obtain ⟨g1, g2⟩ := goBehind_ok (by_ := by_) h.1 hL
    generalize m_X4_goBehind L ta lg by_ = z2 at g1 g2 ⊢
    obtain ⟨k1, k2⟩ := takes_ok (val := z2.2.2.2) (by_ := by_) (vals := vals) (k := 0) (low := nI 1) (high := nI 5) g2 hL
    generalize m_X4_takes L z2.1 z2.2.1 z2.2.2.1 z2.2.2.2 by_ vals 0 (nI 1) (nI 5) = z3 at k1 k2 ⊢
    by_cases h3 : z3.1 = true
    · simp only [if_pos h3]
      split
      · exact ⟨k2, by
        intro _
        generalize hw : m_X4_begin an _ = w
        show w 0 = nI 0
        rw [← hw, begin_at, if_neg (by decide), if_pos (by decide)]⟩
      · exact ⟨k2, fun q => by cases q⟩
    · simp only [if_neg h3]
      exact ⟨k2, fun q => by cases q⟩
  · simp only [if_neg h1]
    exact ⟨h, fun q => by cases q⟩
def m_X4_read_l68 (v5 : Nat × Nat × Int32 × Int32 × (Nat → Int32) × (Nat → Int32) × Nat) (k7 : Nat) (v7 : (Nat → Int32)) : (Nat → Int32) := (upd v7 k7 (v5.2.2.2.2.1 k7))
def m_X4_read_l26 (mbytesLong : Nat) (mnow : (Nat → Int32)) (mbytes : (Nat → Int32)) (v5 : Nat × Nat × Int32 × Int32 × (Nat → Int32) × (Nat → Int32) × Nat) : (Nat × Nat × Int32 × Int32 × (Nat → Int32) × (Nat → Int32) × Nat) ⊕ (Int32 × Nat × Nat × Int32 × Int32 × (Nat → Int32) × (Nat → Int32) × (Nat → Int32)) := (if v5.2.2.1 = 0 then (wl_bnd (wl_iter (m_X4_read_l68 v5) 52 0 mnow) (fun z7 => (Sum.inr ((nI v5.2.2.2.2.2.2), v5.1, v5.2.1, v5.2.2.1, v5.2.2.2.1, z7, v5.2.2.2.2.1, v5.2.2.2.2.2.1)))) else (wl_bnd (m_X4_takesItem mbytesLong v5.1 v5.2.1 v5.2.2.1 v5.2.2.2.1 mbytes v5.2.2.2.2.1 v5.2.2.2.2.2.1 (cl (v5.2.2.2.2.1 0))) (fun z10 => (if z10.1 = true then (if z10.2.2.2.1 = (nI 3) then (wl_bnd (m_X4_goBehind mbytesLong z10.2.1 z10.2.2.1 mbytes) (fun z13 => (Sum.inl (z13.1, z13.2.1, z13.2.2.1, z13.2.2.2, z10.2.2.2.2.2.1, z10.2.2.2.2.2.2, (v5.2.2.2.2.2.2 + 1))))) else (Sum.inr (((-10) - (nI z10.2.1)), z10.2.1, z10.2.2.1, z10.2.2.2.1, z10.2.2.2.2.1, mnow, z10.2.2.2.2.2.1, z10.2.2.2.2.2.2))) else (Sum.inr (((-10) - (nI z10.2.1)), z10.2.1, z10.2.2.1, z10.2.2.2.1, z10.2.2.2.2.1, mnow, z10.2.2.2.2.2.1, z10.2.2.2.2.2.2))))))
def m_X4_read (mbytesLong : Nat) (mnow : (Nat → Int32)) (mbytes : (Nat → Int32)) (manew : (Nat → Int32)) (mvalues : (Nat → Int32)) : Int32 × Nat × Nat × Int32 × Int32 × (Nat → Int32) × (Nat → Int32) × (Nat → Int32) := (wl_bnd (m_X4_lookAt mbytesLong mbytes 0) (fun z1 => (wl_bnd (m_X4_takesTown mbytesLong z1.1 z1.2.1 z1.2.2.1 z1.2.2.2 mbytes manew mvalues) (fun z2 => (if z2.1 = true then (wl_bnd (m_X4_goBehind mbytesLong z2.2.1 z2.2.2.1 mbytes) (fun z4 => (wl_run (m_X4_read_l26 mbytesLong mnow mbytes) default 151 (z4.1, z4.2.1, z4.2.2.1, z4.2.2.2, z2.2.2.2.2.2.1, z2.2.2.2.2.2.2, 1)))) else (((-10) - (nI z2.2.1)), z2.2.1, z2.2.2.1, z2.2.2.2.1, z2.2.2.2.2.1, mnow, z2.2.2.2.2.2.1, z2.2.2.2.2.2.2))))))
set_option maxHeartbeats 4000000 in
set_option maxRecDepth 100000 in
theorem c_X4_read {l : Launch} {D : va_G} {E : Nat → ClassId} {a : Nat → Nat} {mabove : Int64} {mbelow : Int64} {mlisted : Int32} {mfollowing : Int32} {mdayThen : Int32} {mbytesLong : Nat} {mtokenAt : Nat} {mtokenLong : Nat} {mtoken : Int32} {mvalue : Int32} {mnow : (Nat → Int32)} {mkept : (Nat → Int32)} {misKept : (Nat → Int32)} {mrefused : (Nat → Int32)} {mtempers : (Nat → Int32)} {mhis : (Nat → Int32)} {mtheirs : (Nat → Int32)} {mmanyBy : (Nat → Int32)} {mbytes : (Nat → Int32)} {manew : (Nat → Int32)} {mvalues : (Nat → Int32)}  (hBL : mbytesLong ≤ 150) : wl_Met (τ := Int32 × Nat × Nat × Int32 × Int32 × (Nat → Int32) × (Nat → Int32) × (Nat → Int32)) l D E yX4_read cX4_read 3 (some .int) ({ frames := 7, cells := 0, slots := 0, locals := 153 } : Room) [.ref (a 0)] (wM E a mabove mbelow mlisted mfollowing mdayThen mbytesLong mtokenAt mtokenLong mtoken mvalue mnow mkept misKept mrefused mtempers mhis mtheirs mmanyBy mbytes manew mvalues) (fun z => some (.int z.1)) (fun z => (wM E a mabove mbelow mlisted mfollowing mdayThen mbytesLong z.2.1 z.2.2.1 z.2.2.2.1 z.2.2.2.2.1 z.2.2.2.2.2.1 mkept misKept mrefused mtempers mhis mtheirs mmanyBy mbytes z.2.2.2.2.2.2.1 z.2.2.2.2.2.2.2)) (m_X4_read mbytesLong mnow mbytes manew mvalues) := by
  refine wl_enter (own := RX4) (by decide +kernel) rfl (Nat.le_of_ble_eq_true rfl) ?_
  intro p0 e0 s0 m0 bl0 mt0 c0 A hC hr hlk hA H locs hP hD hS ls hl
  have hx := hC.1
  have hb := hC.2.1
  have hl : lv_has ls 3 [(0, .ref (a 0))] := hl
  have hm := m_X4_read.eq_1 mbytesLong mnow mbytes manew mvalues
  refine lv_aload_n hx hb dX4_read_0 rfl (lv_at hl 0 rfl) ?_
  refine lv_iconst (v := (nI 0)) hx hb dX4_read_1 (by decide +kernel) ?_
  refine wl_callVv hC (c_X4_lookAt (from0 := 0) (by first | assumption | omega) (Nat.zero_le _)) lk_RX4_213 rfl ⟨rfl, rfl, Nat.le_of_ble_eq_true rfl, Nat.le_of_ble_eq_true rfl⟩ hP hD hS hA 0 rfl (T1 := 21) rfl hl.1 rfl (Nat.le_of_ble_eq_true rfl) dX4_read_2 ⟨Nat.zero_le _, Nat.zero_le _⟩ (fun z1 hz1 H locs hP hD hS => ?_)
  have hm := wl_bz hm hz1
  have hTK0 : TK mbytesLong z1.1 z1.2.1 z1.2.2.1 := by rw [hz1]; exact (lookAt_ok (by omega) hBL).2
  have hTI0 := hTK0.1
  refine lv_aload_n hx hb dX4_read_5 rfl (lv_at hl 0 rfl) ?_
  refine wl_callVi hC (c_X4_takesTown  (by first | assumption | omega) (by first | assumption | omega)) lk_RX4_233 rfl ⟨rfl, rfl, Nat.le_of_ble_eq_true rfl, Nat.le_of_ble_eq_true rfl⟩ hP hD hS hA 0 rfl (T1 := 21) rfl hl.1 rfl (Nat.le_of_ble_eq_true rfl) dX4_read_6 ⟨Nat.zero_le _, Nat.zero_le _⟩ (fun z2 hz2 H locs hP hD hS => ?_)
  have hm := wl_bz hm hz2
  obtain ⟨hTK1, hBT⟩ := takesTown_ok (val := _) (by_ := mbytes) (an := manew) (vals := mvalues) hTK0 hBL
  rw [← hz2] at hTK1 hBT
  have hTI1 := hTK1.1
  refine wl_if_ne_b hx hb (tgt := 20) dX4_read_9 (by decide) (fun c3 => ?_) (fun c3 => ?_)
  · have hm := hm.trans (if_pos c3)
    refine lv_aload_n hx hb dX4_read_20 rfl (lv_at hl 0 rfl) ?_
    refine wl_callVv hC (c_X4_goBehind  (by first | assumption | omega) (by first | assumption | omega)) lk_RX4_217 rfl ⟨rfl, rfl, Nat.le_of_ble_eq_true rfl, Nat.le_of_ble_eq_true rfl⟩ hP hD hS hA 0 rfl (T1 := 21) rfl hl.1 rfl (Nat.le_of_ble_eq_true rfl) dX4_read_21 ⟨Nat.zero_le _, Nat.zero_le _⟩ (fun z4 hz4 H locs hP hD hS => ?_)
    have hm := wl_bz hm hz4
    have hTK2 : TK mbytesLong z4.1 z4.2.1 z4.2.2.1 := by rw [hz4]; exact (goBehind_ok hTI1 hBL).2
    refine lv_iconst (v := (nI 1)) hx hb dX4_read_24 (by decide +kernel) ?_
    refine lv_istore_n (lv' := [(1, .int (nI 1)), (0, .ref (a 0))]) hx hb dX4_read_25 rfl hl (by decide) rfl (fun ls hl => ?_)
    refine wl_while (D := D) (A := A) (H0 := s0.heap) (m_X4_read_l26 mbytesLong mnow mbytes) default 151 (z4.1, z4.2.1, z4.2.2.1, z4.2.2.2, z2.2.2.2.2.2.1, z2.2.2.2.2.2.2, 1) 26 3 (fun v5 => [(0, .ref (a 0)), (1, .int (nI v5.2.2.2.2.2.2))]) (fun v5 => (wM E a mabove mbelow mlisted mfollowing mdayThen mbytesLong v5.1 v5.2.1 v5.2.2.1 v5.2.2.2.1 mnow mkept misKept mrefused mtempers mhis mtheirs mmanyBy mbytes v5.2.2.2.2.1 v5.2.2.2.2.2.1)) (fun v5 => (TK mbytesLong v5.1 v5.2.1 v5.2.2.1) ∧ (v5.2.2.2.2.1 0 = nI (cl (v5.2.2.2.2.1 0))) ∧ (cl (v5.2.2.2.2.1 0) ≤ 7)) (fun v5 => mbytesLong - v5.1) ⟨(by show TK mbytesLong z4.1 z4.2.1 z4.2.2.1; exact hTK2), (by show z2.2.2.2.2.2.1 0 = nI (cl (z2.2.2.2.2.2.1 0)); exact (wl_selfcl (hBT (by assumption)) (Nat.zero_le 7) (by decide)).1), (by show cl (z2.2.2.2.2.2.1 0) ≤ 7; exact (wl_selfcl (hBT (by assumption)) (Nat.zero_le 7) (by decide)).2)⟩ (by show mbytesLong - z4.1 < 151; first | decide | omega) ?_ hP hD hS (lv_sub hl [1, 0] rfl)
    intro v5 hI5 EX5 IH5 ls H locs hP hD hS hl
    obtain ⟨qT, q0, q7⟩ := hI5
    have hb5 := m_X4_read_l26.eq_1 mbytesLong mnow mbytes v5
    have qTI := qT.1
    refine lv_aload_n hx hb dX4_read_26 rfl (lv_at hl 0 rfl) ?_
    refine g_M_0_token hC hP mw_547 dX4_read_27 ?_
    refine lv_if_eq hx hb (tgt := 66) dX4_read_30 (by decide) (fun c6 => ?_) (fun c6 => ?_)
    · have hb5 := hb5.trans (if_pos c6)
      refine lv_iconst (v := (nI 0)) hx hb dX4_read_66 (by decide +kernel) ?_
      refine lv_istore_n (lv' := [(2, .int (nI 0)), (0, .ref (a 0)), (1, .int (nI v5.2.2.2.2.2.2))]) hx hb dX4_read_67 rfl hl (by decide) rfl (fun ls hl => ?_)
      obtain ⟨u7, hu7, hk7⟩ := wl_bx hb5
      refine wl_for (D := D) (A := A) (H0 := s0.heap) (m_X4_read_l68 v5) 52 0 52 mnow 68 3 (fun k7 v7 => [(0, .ref (a 0)), (1, .int (nI v5.2.2.2.2.2.2)), (2, .int (nI k7))]) (fun k7 v7 => (wM E a mabove mbelow mlisted mfollowing mdayThen mbytesLong v5.1 v5.2.1 v5.2.2.1 v5.2.2.2.1 v7 mkept misKept mrefused mtempers mhis mtheirs mmanyBy mbytes v5.2.2.2.2.1 v5.2.2.2.2.2.1)) (fun k7 v7 => True) (by omega) trivial ?_ ?_ hP hD hS (lv_sub hl [1, 2, 0] rfl)
      · intro z7 hv7 hI7 ls H locs hP hD hS hl
        have hb5 := hk7 z7 (hu7.trans hv7)
        refine lv_iload_n hx hb dX4_read_68 rfl (lv_at hl 2 rfl) ?_
        refine lv_bipush (v := (nI 52)) hx hb dX4_read_69 (by decide +kernel) ?_
        refine wl_icmp_ge_n hx hb (by first | omega | exact Nat.lt_of_le_of_lt Nat.and_le_right (by omega) | exact Nat.pow_lt_pow_right (by omega) (by omega) | exact Nat.lt_trans (by assumption) (Nat.pow_lt_pow_right (by omega) (by omega))) (by first | omega | exact Nat.lt_of_le_of_lt Nat.and_le_right (by omega) | exact Nat.pow_lt_pow_right (by omega) (by omega) | exact Nat.lt_trans (by assumption) (Nat.pow_lt_pow_right (by omega) (by omega))) (tgt := 92) dX4_read_71 (by decide) (fun c9 => ?_) (fun c9 => absurd (by omega) c9)
        refine lv_iload_n hx hb dX4_read_92 rfl (lv_at hl 1 rfl) ?_
        exact wl_iret hC hr hlk (hm.trans (EX5 _ hb5)) rfl hP hD hS dX4_read_93
      · intro k7 v7 hlo7 hhi7 hI7 IH7 ls H locs hP hD hS hl
        have hb7 := m_X4_read_l68.eq_1 v5 k7 v7
        refine lv_iload_n hx hb dX4_read_68 rfl (lv_at hl 2 rfl) ?_
        refine lv_bipush (v := (nI 52)) hx hb dX4_read_69 (by decide +kernel) ?_
        refine wl_icmp_ge_n hx hb (by first | omega | exact Nat.lt_of_le_of_lt Nat.and_le_right (by omega) | exact Nat.pow_lt_pow_right (by omega) (by omega) | exact Nat.lt_trans (by assumption) (Nat.pow_lt_pow_right (by omega) (by omega))) (by first | omega | exact Nat.lt_of_le_of_lt Nat.and_le_right (by omega) | exact Nat.pow_lt_pow_right (by omega) (by omega) | exact Nat.lt_trans (by assumption) (Nat.pow_lt_pow_right (by omega) (by omega))) (tgt := 92) dX4_read_71 (by decide) (fun c8 => absurd c8 (by omega)) (fun c8 => ?_)
        refine lv_aload_n hx hb dX4_read_74 rfl (lv_at hl 0 rfl) ?_
        refine g_M_0_now hC hP mw_385 dX4_read_75 ?_
        refine lv_iload_n hx hb dX4_read_78 rfl (lv_at hl 2 rfl) ?_
        refine lv_aload_n hx hb dX4_read_79 rfl (lv_at hl 0 rfl) ?_
        refine g_M_0_anew hC hP mw_395 dX4_read_80 ?_
        refine lv_iload_n hx hb dX4_read_83 rfl (lv_at hl 2 rfl) ?_
        refine ld_M_10 hC hP k7 (by omega) dX4_read_84 ?_
        refine st_M_1 hC hP hD hS k7 (v5.2.2.2.2.1 k7) (by omega) dX4_read_85 (fun H locs hP hD hS => ?_)
        refine lv_iinc (v := (nI (k7 + 1))) (lv' := [(2, .int (nI (k7 + 1))), (0, .ref (a 0)), (1, .int (nI v5.2.2.2.2.2.2))]) hx hb dX4_read_86 hl (k := 2) rfl (wl_inc k7 1) (by decide) rfl (fun ls hl => ?_)
        refine lv_goto (tgt := 68) hx hb dX4_read_89 (by decide) ?_
        exact IH7 _ hb7 trivial ls H locs hP hD hS (lv_sub hl [1, 2, 0] rfl)
    · have hb5 := hb5.trans (if_neg c6)
      refine lv_aload_n hx hb dX4_read_33 rfl (lv_at hl 0 rfl) ?_
      refine wl_callVi hC (c_X4_takesItem (P := (cl (v5.2.2.2.2.1 0))) (by first | assumption | omega) (by first | assumption | omega) (q0) (by first | assumption | omega)) lk_RX4_236 rfl ⟨rfl, rfl, Nat.le_of_ble_eq_true rfl, Nat.le_of_ble_eq_true rfl⟩ hP hD hS hA 0 rfl (T1 := 21) rfl hl.1 rfl (Nat.le_of_ble_eq_true rfl) dX4_read_34 ⟨Nat.zero_le _, Nat.zero_le _⟩ (fun z10 hz10 H locs hP hD hS => ?_)
      have hb5 := wl_bz hb5 hz10
      obtain ⟨hI1, hI2, hI3, hI4⟩ := takesItem_ok (val := _) (by_ := mbytes) (an := _) (vals := _) qT hBL q0 q7
      rw [← hz10] at hI1 hI2 hI3 hI4
      have hTI3 := hI2.1
      refine wl_if_eq_b hx hb (tgt := 48) dX4_read_37 (by decide) (fun c11 => ?_) (fun c11 => ?_)
      · have hb5 := hb5.trans (if_neg c11)
        refine lv_bipush (v := (-10)) hx hb dX4_read_48 (by decide +kernel) ?_
        refine lv_aload_n hx hb dX4_read_50 rfl (lv_at hl 0 rfl) ?_
        refine g_M_0_tokenAt hC hP mw_545 dX4_read_51 ?_
        refine lv_isub hx hb dX4_read_54 ?_
        exact wl_iret hC hr hlk (hm.trans (EX5 _ hb5)) rfl hP hD hS dX4_read_55
      · have hb5 := hb5.trans (if_pos c11)
        refine lv_aload_n hx hb dX4_read_40 rfl (lv_at hl 0 rfl) ?_
        refine g_M_0_token hC hP mw_547 dX4_read_41 ?_
        refine lv_iconst (v := (nI 3)) hx hb dX4_read_44 (by decide +kernel) ?_
        refine lv_icmp_eq hx hb (tgt := 56) dX4_read_45 (by decide) (fun c12 => ?_) (fun c12 => ?_)
        · have hb5 := hb5.trans (if_pos c12)
          have hI5 : 1 ≤ z10.2.2.1 := hI2.2 (fun q9 => by have q8 : z10.2.2.2.1 = nI 3 := (by assumption); rw [q8] at q9; exact absurd q9 (by decide +kernel))
          refine lv_aload_n hx hb dX4_read_56 rfl (lv_at hl 0 rfl) ?_
          refine wl_callVv hC (c_X4_goBehind  (by first | assumption | omega) (by first | assumption | omega)) lk_RX4_217 rfl ⟨rfl, rfl, Nat.le_of_ble_eq_true rfl, Nat.le_of_ble_eq_true rfl⟩ hP hD hS hA 0 rfl (T1 := 21) rfl hl.1 rfl (Nat.le_of_ble_eq_true rfl) dX4_read_57 ⟨Nat.zero_le _, Nat.zero_le _⟩ (fun z13 hz13 H locs hP hD hS => ?_)
          have hb5 := wl_bz hb5 hz13
          obtain ⟨hJ1, hJ2⟩ := goBehind_ok (by_ := mbytes) hTI3 hBL
          rw [← hz13] at hJ1 hJ2
          have hJ3 := hJ2.1
          refine lv_iinc (v := (nI (v5.2.2.2.2.2.2 + 1))) (lv' := [(1, .int (nI (v5.2.2.2.2.2.2 + 1))), (0, .ref (a 0))]) hx hb dX4_read_60 hl (k := 1) rfl (wl_inc v5.2.2.2.2.2.2 1) (by decide) rfl (fun ls hl => ?_)
          refine lv_goto (tgt := 26) hx hb dX4_read_63 (by decide) ?_
          exact IH5 _ hb5 ⟨(by show TK mbytesLong z13.1 z13.2.1 z13.2.2.1; exact hJ2), (by show z10.2.2.2.2.2.1 0 = nI (cl (z10.2.2.2.2.2.1 0)); exact hI3), (by show cl (z10.2.2.2.2.2.1 0) ≤ 7; exact hI4)⟩ (by show mbytesLong - z13.1 < mbytesLong - v5.1; omega) ls H locs hP hD hS (lv_sub hl [1, 0] rfl)
        · have hb5 := hb5.trans (if_neg c12)
          refine lv_bipush (v := (-10)) hx hb dX4_read_48 (by decide +kernel) ?_
          refine lv_aload_n hx hb dX4_read_50 rfl (lv_at hl 0 rfl) ?_
          refine g_M_0_tokenAt hC hP mw_545 dX4_read_51 ?_
          refine lv_isub hx hb dX4_read_54 ?_
          exact wl_iret hC hr hlk (hm.trans (EX5 _ hb5)) rfl hP hD hS dX4_read_55
  · have hm := hm.trans (if_neg c3)
    refine lv_bipush (v := (-10)) hx hb dX4_read_12 (by decide +kernel) ?_
    refine lv_aload_n hx hb dX4_read_14 rfl (lv_at hl 0 rfl) ?_
    refine g_M_0_tokenAt hC hP mw_545 dX4_read_15 ?_
    refine lv_isub hx hb dX4_read_18 ?_
    exact wl_iret hC hr hlk hm rfl hP hD hS dX4_read_19
