theorem run_inv {σ ρ : Type} (f : σ → σ ⊕ ρ) (d : ρ) (I : σ → Prop) (μ : σ → Nat) (B : ρ → Prop) (step : ∀ v, I v → (∀ v', f v = .inl v' → I v' ∧ μ v' < μ v) ∧ (∀ r, f v = .inr r → B r)) :
    ∀ (n : Nat) (v : σ), μ v < n → I v → B (wl_run f d n v) := by
  intro n
  induction n with
  | zero => intro v hv; exact absurd hv (Nat.not_lt_zero _)
  | succ n ih =>
    intro v hv hI
    obtain ⟨s1, s2⟩ := step v hI
    cases hf : f v with
    | inl v' =>
      obtain ⟨g1, g2⟩ := s1 v' hf
      rw [wl_run, hf]
      exact ih v' (by omega) g1
    | inr r =>
      rw [wl_run, hf]
      exact s2 r hf
/-- a token within L bytes -/
def TK (L ta lg : Nat) (tok : Int32) : Prop := ta + lg ≤ L ∧ (¬ tok = nI 0 → 1 ≤ lg)
theorem look5_ok {L : Nat} {by_ : Nat → Int32} {f0 : Nat} (h : f0 ≤ L) (hL : L ≤ 150) : f0 ≤ wl_run (m_X4_lookAt_l5 L by_) default 151 f0 ∧ wl_run (m_X4_lookAt_l5 L by_) default 151 f0 ≤ L := by
  refine run_inv (m_X4_lookAt_l5 L by_) default (fun v => f0 ≤ v ∧ v ≤ L) (fun v => L - v) (fun r => f0 ≤ r ∧ r ≤ L) ?_ 151 f0 (by omega) ⟨Nat.le_refl _, h⟩
  intro v hv
  unfold m_X4_lookAt_l5
  by_cases h1 : L ≤ v
  · rw [if_pos h1]
    exact ⟨fun v' q => (by cases q), fun r q => by cases q; exact hv⟩
  · rw [if_neg h1]
    by_cases h2 : by_ v = nI 32
    · rw [if_pos h2]
      exact ⟨fun v' q => by cases q; exact ⟨by omega, by omega⟩, fun r q => by cases q⟩
    · rw [if_neg h2]
      exact ⟨fun v' q => (by cases q), fun r q => by cases q; exact hv⟩
theorem look136_ok {L : Nat} {by_ : Nat → Int32} {z1 z6 : Nat} {g : Bool} (h : z1 < L) (hL : L ≤ 150) : 1 ≤ wl_run (m_X4_lookAt_l136 L by_ z1 z6) default 301 (1, g) ∧ z1 + wl_run (m_X4_lookAt_l136 L by_ z1 z6) default 301 (1, g) ≤ L := by
  refine run_inv (m_X4_lookAt_l136 L by_ z1 z6) default (fun v => 1 ≤ v.1 ∧ z1 + v.1 ≤ L) (fun v => 2 * (L - v.1) + cond v.2 1 0) (fun r => 1 ≤ r ∧ z1 + r ≤ L) ?_ 301 (1, g) (by have := wl_c01 g; show 2 * (L - 1) + cond g 1 0 < 301; omega) ⟨Nat.le_refl _, h⟩
  rintro ⟨t, g⟩ hv
  obtain ⟨hv1, hv2⟩ : 1 ≤ t ∧ z1 + t ≤ L := hv
  unfold m_X4_lookAt_l136 wl_bnd
  by_cases h1 : g = true
  · rw [if_pos h1]
    by_cases h2 : L ≤ z1 + t
    · rw [if_pos h2]
      exact ⟨fun v' q => (by cases q), fun r q => by cases q; exact ⟨hv1, hv2⟩⟩
    · rw [if_neg h2]
      generalize (if z6 = 1 then m_X4_isSmall (by_ (z1 + (t, g).1)) else m_X4_isFigure (by_ (z1 + (t, g).1))) = b
      dsimp only
      by_cases h3 : b = true
      · rw [if_pos h3]
        refine ⟨fun v' q => ?_, fun r q => by cases q⟩
        cases q
        exact ⟨⟨by omega, by omega⟩, wl_look_mu1 (a := z1) h1 (by omega)⟩
      · rw [if_neg h3]
        refine ⟨fun v' q => ?_, fun r q => by cases q⟩
        cases q
        exact ⟨⟨hv1, hv2⟩, wl_look_mu2 h1 h3⟩
  · rw [if_neg h1]
    exact ⟨fun v' q => (by cases q), fun r q => by cases q; exact ⟨hv1, hv2⟩⟩
theorem lookAt_ok {L : Nat} {by_ : Nat → Int32} {f0 : Nat} (h : f0 ≤ L) (hL : L ≤ 150) : f0 ≤ (m_X4_lookAt L by_ f0).1 ∧ TK L (m_X4_lookAt L by_ f0).1 (m_X4_lookAt L by_ f0).2.1 (m_X4_lookAt L by_ f0).2.2.1 := by
  obtain ⟨h1, h2⟩ := look5_ok (by_ := by_) h hL
  unfold m_X4_lookAt wl_bnd TK
  generalize wl_run (m_X4_lookAt_l5 L by_) default 151 f0 = z1 at h1 h2 ⊢
  by_cases h3 : z1 = L
  · simp only [if_pos h3]
    exact ⟨h1, by omega, fun q => (q (by first | trivial | rfl)).elim⟩
  · simp only [if_neg h3]
    generalize (if m_X4_isSmall (by_ z1) = true then 1 else if m_X4_isFigure (by_ z1) = true then 2 else if by_ z1 = nI 59 then 3 else 4) = z6
    generalize (if 3 ≤ z6 then false else true) = g
    obtain ⟨k1, k2⟩ := look136_ok (by_ := by_) (z6 := z6) (g := g) (show z1 < L by omega) hL
    generalize wl_run (m_X4_lookAt_l136 L by_ z1 z6) default 301 (1, g) = z13 at k1 k2 ⊢
    repeat' split
    all_goals exact ⟨h1, k2, fun _ => k1⟩
theorem goBehind_ok {L ta lg : Nat} {by_ : Nat → Int32} (h : ta + lg ≤ L) (hL : L ≤ 150) : ta + lg ≤ (m_X4_goBehind L ta lg by_).1 ∧ TK L (m_X4_goBehind L ta lg by_).1 (m_X4_goBehind L ta lg by_).2.1 (m_X4_goBehind L ta lg by_).2.2.1 := by
  unfold m_X4_goBehind wl_bnd
  exact lookAt_ok h hL
theorem takes_ok {L ta lg : Nat} {tok val : Int32} {by_ vals : Nat → Int32} {k : Nat} {low high : Int32} (h : TK L ta lg tok) (hL : L ≤ 150) : ta ≤ (m_X4_takes L ta lg tok val by_ vals k low high).2.1 ∧ TK L (m_X4_takes L ta lg tok val by_ vals k low high).2.1 (m_X4_takes L ta lg tok val by_ vals k low high).2.2.1 (m_X4_takes L ta lg tok val by_ vals k low high).2.2.2.1 := by
  unfold m_X4_takes wl_bnd
  obtain ⟨g1, g2⟩ := goBehind_ok (by_ := by_) h.1 hL
  by_cases h1 : tok = nI 2
  · rw [if_pos h1]
    by_cases h2 : m_X4_in val.toInt64 low.toInt64 high.toInt64 = true
    · simp only [if_pos h2]
      exact ⟨by omega, g2⟩
    · simp only [if_neg h2]
      exact ⟨Nat.le_refl _, h⟩
  · rw [if_neg h1]
    exact ⟨Nat.le_refl _, h⟩
set_option maxHeartbeats 4000000 in
set_option maxRecDepth 100000 in
theorem c_X4_begin__M_10 {l : Launch} {D : va_G} {E : Nat → ClassId} {a : Nat → Nat} {mabove : Int64} {mbelow : Int64} {mlisted : Int32} {mfollowing : Int32} {mdayThen : Int32} {mbytesLong : Nat} {mtokenAt : Nat} {mtokenLong : Nat} {mtoken : Int32} {mvalue : Int32} {mnow : (Nat → Int32)} {mkept : (Nat → Int32)} {misKept : (Nat → Int32)} {mrefused : (Nat → Int32)} {mtempers : (Nat → Int32)} {mhis : (Nat → Int32)} {mtheirs : (Nat → Int32)} {mmanyBy : (Nat → Int32)} {mbytes : (Nat → Int32)} {manew : (Nat → Int32)} {mvalues : (Nat → Int32)} {counts : Int32} (hn1 : 52 ≤ 52) (hn2 : 52 ≤ 2000) : wl_Met (τ := (Nat → Int32)) l D E yX4_begin cX4_begin 3 none ({ frames := 0, cells := 0, slots := 0, locals := 0 } : Room) [.ref (a 10), .int counts] (wM E a mabove mbelow mlisted mfollowing mdayThen mbytesLong mtokenAt mtokenLong mtoken mvalue mnow mkept misKept mrefused mtempers mhis mtheirs mmanyBy mbytes manew mvalues) (fun _ => none) (fun z => (wM E a mabove mbelow mlisted mfollowing mdayThen mbytesLong mtokenAt mtokenLong mtoken mvalue mnow mkept misKept mrefused mtempers mhis mtheirs mmanyBy mbytes z mvalues)) (m_X4_begin manew counts) :=
  wl_lift (c_X4_begin (a := (fun k => a ([10].getD k 0))) (arr := manew) (counts := counts) (n := 52) hn1 hn2) [10] [0, 1, 2, 3, 4, 5, 6, 7, 8, 9, 11] [0, 1, 2, 3, 4, 5, 6, 7, 8, 9, 11, 10] (wr := ([0, 1, 2, 3, 4, 5, 6, 7, 8, 9, 11].filterMap (fun i => (wM E a mabove mbelow mlisted mfollowing mdayThen mbytesLong mtokenAt mtokenLong mtoken mvalue mnow mkept misKept mrefused mtempers mhis mtheirs mmanyBy mbytes manew mvalues)[i]?))) rfl rfl (by decide) (by decide) (by decide) (by decide) (fun _ => rfl)
def m_X4_takesTown (mbytesLong : Nat) (mtokenAt : Nat) (mtokenLong : Nat) (mtoken : Int32) (mvalue : Int32) (mbytes : (Nat → Int32)) (manew : (Nat → Int32)) (mvalues : (Nat → Int32)) : Bool × Nat × Nat × Int32 × Int32 × (Nat → Int32) × (Nat → Int32) := (wl_bnd (m_X4_spells mtokenAt mtokenLong mtoken mbytes 4 (nI 116) (nI 111) (nI 119) (nI 110) (nI 0) (nI 0)) (fun z1 => (if z1 = true then (wl_bnd (m_X4_goBehind mbytesLong mtokenAt mtokenLong mbytes) (fun z3 => (wl_bnd (m_X4_takes mbytesLong z3.1 z3.2.1 z3.2.2.1 z3.2.2.2 mbytes mvalues 0 (nI 1) (nI 5)) (fun z4 => (if z4.1 = true then (wl_bnd (m_X4_begin manew (z4.2.2.2.2.2 0)) (fun z6 => (if z4.2.2.2.1 = (nI 3) then (true, z4.2.1, z4.2.2.1, z4.2.2.2.1, z4.2.2.2.2.1, z6, z4.2.2.2.2.2) else (false, z4.2.1, z4.2.2.1, z4.2.2.2.1, z4.2.2.2.2.1, z6, z4.2.2.2.2.2)))) else (false, z4.2.1, z4.2.2.1, z4.2.2.2.1, z4.2.2.2.2.1, manew, z4.2.2.2.2.2)))))) else (false, mtokenAt, mtokenLong, mtoken, mvalue, manew, mvalues))))
set_option maxHeartbeats 4000000 in
set_option maxRecDepth 100000 in
theorem c_X4_takesTown {l : Launch} {D : va_G} {E : Nat → ClassId} {a : Nat → Nat} {mabove : Int64} {mbelow : Int64} {mlisted : Int32} {mfollowing : Int32} {mdayThen : Int32} {mbytesLong : Nat} {mtokenAt : Nat} {mtokenLong : Nat} {mtoken : Int32} {mvalue : Int32} {mnow : (Nat → Int32)} {mkept : (Nat → Int32)} {misKept : (Nat → Int32)} {mrefused : (Nat → Int32)} {mtempers : (Nat → Int32)} {mhis : (Nat → Int32)} {mtheirs : (Nat → Int32)} {mmanyBy : (Nat → Int32)} {mbytes : (Nat → Int32)} {manew : (Nat → Int32)} {mvalues : (Nat → Int32)}  (hBL : mbytesLong ≤ 150) (hTI : mtokenAt + mtokenLong ≤ mbytesLong) : wl_Met (τ := Bool × Nat × Nat × Int32 × Int32 × (Nat → Int32) × (Nat → Int32)) l D E yX4_takesTown cX4_takesTown 1 (some .boolean) ({ frames := 5, cells := 0, slots := 0, locals := 112 } : Room) [.ref (a 0)] (wM E a mabove mbelow mlisted mfollowing mdayThen mbytesLong mtokenAt mtokenLong mtoken mvalue mnow mkept misKept mrefused mtempers mhis mtheirs mmanyBy mbytes manew mvalues) (fun z => some (.int (wl_b z.1))) (fun z => (wM E a mabove mbelow mlisted mfollowing mdayThen mbytesLong z.2.1 z.2.2.1 z.2.2.2.1 z.2.2.2.2.1 mnow mkept misKept mrefused mtempers mhis mtheirs mmanyBy mbytes z.2.2.2.2.2.1 z.2.2.2.2.2.2)) (m_X4_takesTown mbytesLong mtokenAt mtokenLong mtoken mvalue mbytes manew mvalues) := by
  refine wl_enter (own := RX4) (by decide +kernel) rfl (Nat.le_of_ble_eq_true rfl) ?_
  intro p0 e0 s0 m0 bl0 mt0 c0 A hC hr hlk hA H locs hP hD hS ls hl
  have hx := hC.1
  have hb := hC.2.1
  have hl : lv_has ls 1 [(0, .ref (a 0))] := hl
  have hm := m_X4_takesTown.eq_1 mbytesLong mtokenAt mtokenLong mtoken mvalue mbytes manew mvalues
  refine lv_aload_n hx hb dX4_takesTown_0 rfl (lv_at hl 0 rfl) ?_
  refine lv_iconst (v := (nI 4)) hx hb dX4_takesTown_1 (by decide +kernel) ?_
  refine lv_bipush (v := (nI 116)) hx hb dX4_takesTown_2 (by decide +kernel) ?_
  refine lv_bipush (v := (nI 111)) hx hb dX4_takesTown_4 (by decide +kernel) ?_
  refine lv_bipush (v := (nI 119)) hx hb dX4_takesTown_6 (by decide +kernel) ?_
  refine lv_bipush (v := (nI 110)) hx hb dX4_takesTown_8 (by decide +kernel) ?_
  refine lv_iconst (v := (nI 0)) hx hb dX4_takesTown_10 (by decide +kernel) ?_
  refine lv_iconst (v := (nI 0)) hx hb dX4_takesTown_11 (by decide +kernel) ?_
  refine wl_callVi hC (c_X4_spells (size := 4) (ca := (nI 116)) (cb := (nI 111)) (cd := (nI 119)) (ce := (nI 110)) (cf := (nI 0)) (cg := (nI 0)) (by first | assumption | omega) (by first | assumption | omega) (by first | assumption | omega)) lk_RX4_220 rfl ⟨rfl, rfl, Nat.le_of_ble_eq_true rfl, Nat.le_of_ble_eq_true rfl⟩ hP hD hS hA 0 rfl (T1 := 21) rfl hl.1 rfl (Nat.le_of_ble_eq_true rfl) dX4_takesTown_12 ⟨Nat.zero_le _, Nat.zero_le _⟩ (fun z1 hz1 H locs hP hD hS => ?_)
  have hm := wl_bz hm hz1
  refine wl_if_ne_b hx hb (tgt := 20) dX4_takesTown_15 (by decide) (fun c2 => ?_) (fun c2 => ?_)
  · have hm := hm.trans (if_pos c2)
    refine lv_aload_n hx hb dX4_takesTown_20 rfl (lv_at hl 0 rfl) ?_
    refine wl_callVv hC (c_X4_goBehind  (by first | assumption | omega) (by first | assumption | omega)) lk_RX4_217 rfl ⟨rfl, rfl, Nat.le_of_ble_eq_true rfl, Nat.le_of_ble_eq_true rfl⟩ hP hD hS hA 0 rfl (T1 := 21) rfl hl.1 rfl (Nat.le_of_ble_eq_true rfl) dX4_takesTown_21 ⟨Nat.zero_le _, Nat.zero_le _⟩ (fun z3 hz3 H locs hP hD hS => ?_)
    have hm := wl_bz hm hz3
    have hTz3 := (goBehind_ok (by_ := mbytes) hTI hBL).2
    have hTIz3 : z3.1 + z3.2.1 ≤ mbytesLong := by rw [hz3]; exact hTz3.1
    refine lv_aload_n hx hb dX4_takesTown_24 rfl (lv_at hl 0 rfl) ?_
    refine lv_iconst (v := (nI 0)) hx hb dX4_takesTown_25 (by decide +kernel) ?_
    refine lv_iconst (v := (nI 1)) hx hb dX4_takesTown_26 (by decide +kernel) ?_
    refine lv_iconst (v := (nI 5)) hx hb dX4_takesTown_27 (by decide +kernel) ?_
    refine wl_callVi hC (c_X4_takes (k := 0) (low := (nI 1)) (high := (nI 5)) (by first | assumption | omega) (by first | assumption | omega) (by first | assumption | omega)) lk_RX4_224 rfl ⟨rfl, rfl, Nat.le_of_ble_eq_true rfl, Nat.le_of_ble_eq_true rfl⟩ hP hD hS hA 0 rfl (T1 := 21) rfl hl.1 rfl (Nat.le_of_ble_eq_true rfl) dX4_takesTown_28 ⟨Nat.zero_le _, Nat.zero_le _⟩ (fun z4 hz4 H locs hP hD hS => ?_)
    have hm := wl_bz hm hz4
    refine wl_if_ne_b hx hb (tgt := 36) dX4_takesTown_31 (by decide) (fun c5 => ?_) (fun c5 => ?_)
    · have hm := hm.trans (if_pos c5)
      refine lv_aload_n hx hb dX4_takesTown_36 rfl (lv_at hl 0 rfl) ?_
      refine g_M_0_anew hC hP mw_395 dX4_takesTown_37 ?_
      refine lv_aload_n hx hb dX4_takesTown_40 rfl (lv_at hl 0 rfl) ?_
      refine g_M_0_values hC hP mw_396 dX4_takesTown_41 ?_
      refine lv_iconst (v := (nI 0)) hx hb dX4_takesTown_44 (by decide +kernel) ?_
      refine ld_M_11 hC hP 0 (by omega) dX4_takesTown_45 ?_
      refine wl_callSv hC (c_X4_begin__M_10 (counts := (z4.2.2.2.2.2 0)) (by first | assumption | omega) (by first | assumption | omega)) lk_RX4_48 rfl ⟨rfl, rfl, Nat.le_of_ble_eq_true rfl, Nat.le_of_ble_eq_true rfl⟩ hP hD hS hA hl.1 rfl (Nat.le_of_ble_eq_true rfl) dX4_takesTown_46 ⟨Nat.zero_le _, Nat.zero_le _⟩ (fun z6 hz6 H locs hP hD hS => ?_)
      have hm := wl_bz hm hz6
      refine lv_aload_n hx hb dX4_takesTown_49 rfl (lv_at hl 0 rfl) ?_
      refine g_M_0_token hC hP mw_547 dX4_takesTown_50 ?_
      refine lv_iconst (v := (nI 3)) hx hb dX4_takesTown_53 (by decide +kernel) ?_
      refine lv_icmp_ne hx hb (tgt := 61) dX4_takesTown_54 (by decide) (fun c7 => ?_) (fun c7 => ?_)
      · have hm := hm.trans (if_neg c7)
        refine lv_iconst (v := (nI 0)) hx hb dX4_takesTown_61 (by decide +kernel) ?_
        exact wl_zret (v := false) hC hr hlk hm rfl hP hD hS dX4_takesTown_62
      · have hm := hm.trans (if_pos c7)
        refine lv_iconst (v := (nI 1)) hx hb dX4_takesTown_57 (by decide +kernel) ?_
        refine lv_goto (tgt := 62) hx hb dX4_takesTown_58 (by decide) ?_
        exact wl_zret (v := true) hC hr hlk hm rfl hP hD hS dX4_takesTown_62
    · have hm := hm.trans (if_neg c5)
      refine lv_iconst (v := (nI 0)) hx hb dX4_takesTown_34 (by decide +kernel) ?_
      exact wl_zret (v := false) hC hr hlk hm rfl hP hD hS dX4_takesTown_35
  · have hm := hm.trans (if_neg c2)
    refine lv_iconst (v := (nI 0)) hx hb dX4_takesTown_18 (by decide +kernel) ?_
    exact wl_zret (v := false) hC hr hlk hm rfl hP hD hS dX4_takesTown_19
set_option maxHeartbeats 4000000 in
set_option maxRecDepth 100000 in
theorem c_X4_layOne__M_10 {l : Launch} {D : va_G} {E : Nat → ClassId} {a : Nat → Nat} {mabove : Int64} {mbelow : Int64} {mlisted : Int32} {mfollowing : Int32} {mdayThen : Int32} {mbytesLong : Nat} {mtokenAt : Nat} {mtokenLong : Nat} {mtoken : Int32} {mvalue : Int32} {mnow : (Nat → Int32)} {mkept : (Nat → Int32)} {misKept : (Nat → Int32)} {mrefused : (Nat → Int32)} {mtempers : (Nat → Int32)} {mhis : (Nat → Int32)} {mtheirs : (Nat → Int32)} {mmanyBy : (Nat → Int32)} {mbytes : (Nat → Int32)} {manew : (Nat → Int32)} {mvalues : (Nat → Int32)} {kind : Int32} {temper : Int32} {P : Nat} (h0 : manew 0 = nI P) (hn1 : 52 ≤ 52) (hn2 : 52 ≤ 2000) (hP6 : P < 7) : wl_Met (τ := (Nat → Int32)) l D E yX4_layOne cX4_layOne 3 none ({ frames := 0, cells := 0, slots := 0, locals := 0 } : Room) [.ref (a 10), .int kind, .int temper] (wM E a mabove mbelow mlisted mfollowing mdayThen mbytesLong mtokenAt mtokenLong mtoken mvalue mnow mkept misKept mrefused mtempers mhis mtheirs mmanyBy mbytes manew mvalues) (fun _ => none) (fun z => (wM E a mabove mbelow mlisted mfollowing mdayThen mbytesLong mtokenAt mtokenLong mtoken mvalue mnow mkept misKept mrefused mtempers mhis mtheirs mmanyBy mbytes z mvalues)) (m_X4_layOne manew kind temper P) :=
  wl_lift (c_X4_layOne (a := (fun k => a ([10].getD k 0))) (arr := manew) (kind := kind) (temper := temper) (P := P) (n := 52) h0 hn1 hn2 hP6) [10] [0, 1, 2, 3, 4, 5, 6, 7, 8, 9, 11] [0, 1, 2, 3, 4, 5, 6, 7, 8, 9, 11, 10] (wr := ([0, 1, 2, 3, 4, 5, 6, 7, 8, 9, 11].filterMap (fun i => (wM E a mabove mbelow mlisted mfollowing mdayThen mbytesLong mtokenAt mtokenLong mtoken mvalue mnow mkept misKept mrefused mtempers mhis mtheirs mmanyBy mbytes manew mvalues)[i]?))) rfl rfl (by decide) (by decide) (by decide) (by decide) (fun _ => rfl)
def m_X4_takesOne (mbytesLong : Nat) (mtokenAt : Nat) (mtokenLong : Nat) (mtoken : Int32) (mvalue : Int32) (mbytes : (Nat → Int32)) (manew : (Nat → Int32)) (mvalues : (Nat → Int32)) (P : Nat) : Bool × Nat × Nat × Int32 × Int32 × (Nat → Int32) × (Nat → Int32) := (if P = 7 then (false, mtokenAt, mtokenLong, mtoken, mvalue, manew, mvalues) else (wl_bnd (m_X4_goBehind mbytesLong mtokenAt mtokenLong mbytes) (fun z2 => (wl_bnd (m_X4_takes mbytesLong z2.1 z2.2.1 z2.2.2.1 z2.2.2.2 mbytes mvalues 0 (nI 0) (nI 5)) (fun z3 => (if z3.1 = true then (wl_bnd (m_X4_takes mbytesLong z3.2.1 z3.2.2.1 z3.2.2.2.1 z3.2.2.2.2.1 mbytes z3.2.2.2.2.2 1 (nI 0) (nI 30)) (fun z5 => (if z5.1 = true then (wl_bnd (m_X4_layOne manew (z5.2.2.2.2.2 0) (z5.2.2.2.2.2 1) P) (fun z7 => (true, z5.2.1, z5.2.2.1, z5.2.2.2.1, z5.2.2.2.2.1, z7, z5.2.2.2.2.2))) else (false, z5.2.1, z5.2.2.1, z5.2.2.2.1, z5.2.2.2.2.1, manew, z5.2.2.2.2.2)))) else (false, z3.2.1, z3.2.2.1, z3.2.2.2.1, z3.2.2.2.2.1, manew, z3.2.2.2.2.2)))))))
set_option maxHeartbeats 4000000 in
set_option maxRecDepth 100000 in
theorem c_X4_takesOne {l : Launch} {D : va_G} {E : Nat → ClassId} {a : Nat → Nat} {mabove : Int64} {mbelow : Int64} {mlisted : Int32} {mfollowing : Int32} {mdayThen : Int32} {mbytesLong : Nat} {mtokenAt : Nat} {mtokenLong : Nat} {mtoken : Int32} {mvalue : Int32} {mnow : (Nat → Int32)} {mkept : (Nat → Int32)} {misKept : (Nat → Int32)} {mrefused : (Nat → Int32)} {mtempers : (Nat → Int32)} {mhis : (Nat → Int32)} {mtheirs : (Nat → Int32)} {mmanyBy : (Nat → Int32)} {mbytes : (Nat → Int32)} {manew : (Nat → Int32)} {mvalues : (Nat → Int32)} {P : Nat} (hBL : mbytesLong ≤ 150) (hTI : mtokenAt + mtokenLong ≤ mbytesLong) (h0 : manew 0 = nI P) (hP7 : P ≤ 7) : wl_Met (τ := Bool × Nat × Nat × Int32 × Int32 × (Nat → Int32) × (Nat → Int32)) l D E yX4_takesOne cX4_takesOne 1 (some .boolean) ({ frames := 5, cells := 0, slots := 0, locals := 112 } : Room) [.ref (a 0)] (wM E a mabove mbelow mlisted mfollowing mdayThen mbytesLong mtokenAt mtokenLong mtoken mvalue mnow mkept misKept mrefused mtempers mhis mtheirs mmanyBy mbytes manew mvalues) (fun z => some (.int (wl_b z.1))) (fun z => (wM E a mabove mbelow mlisted mfollowing mdayThen mbytesLong z.2.1 z.2.2.1 z.2.2.2.1 z.2.2.2.2.1 mnow mkept misKept mrefused mtempers mhis mtheirs mmanyBy mbytes z.2.2.2.2.2.1 z.2.2.2.2.2.2)) (m_X4_takesOne mbytesLong mtokenAt mtokenLong mtoken mvalue mbytes manew mvalues P) := by
  refine wl_enter (own := RX4) (by decide +kernel) rfl (Nat.le_of_ble_eq_true rfl) ?_
  intro p0 e0 s0 m0 bl0 mt0 c0 A hC hr hlk hA H locs hP hD hS ls hl
  have hx := hC.1
  have hb := hC.2.1
  have hl : lv_has ls 1 [(0, .ref (a 0))] := hl
  have hm := m_X4_takesOne.eq_1 mbytesLong mtokenAt mtokenLong mtoken mvalue mbytes manew mvalues P
  refine lv_aload_n hx hb dX4_takesOne_0 rfl (lv_at hl 0 rfl) ?_
  refine g_M_0_anew hC hP mw_395 dX4_takesOne_1 ?_
  refine lv_iconst (v := (nI 0)) hx hb dX4_takesOne_4 (by decide +kernel) ?_
  refine ld_M_10 hC hP 0 (by omega) dX4_takesOne_5 ?_
  refine wl_re (h0) ?_
  refine lv_bipush (v := (nI 7)) hx hb dX4_takesOne_6 (by decide +kernel) ?_
  refine wl_icmp_ne_n hx hb (by first | omega | exact Nat.lt_of_le_of_lt Nat.and_le_right (by omega) | exact Nat.pow_lt_pow_right (by omega) (by omega) | exact Nat.lt_trans (by assumption) (Nat.pow_lt_pow_right (by omega) (by omega))) (by first | omega | exact Nat.lt_of_le_of_lt Nat.and_le_right (by omega) | exact Nat.pow_lt_pow_right (by omega) (by omega) | exact Nat.lt_trans (by assumption) (Nat.pow_lt_pow_right (by omega) (by omega))) (tgt := 13) dX4_takesOne_8 (by decide) (fun c1 => ?_) (fun c1 => ?_)
  · have hm := hm.trans (if_neg c1)
    refine lv_aload_n hx hb dX4_takesOne_13 rfl (lv_at hl 0 rfl) ?_
    refine wl_callVv hC (c_X4_goBehind  (by first | assumption | omega) (by first | assumption | omega)) lk_RX4_217 rfl ⟨rfl, rfl, Nat.le_of_ble_eq_true rfl, Nat.le_of_ble_eq_true rfl⟩ hP hD hS hA 0 rfl (T1 := 21) rfl hl.1 rfl (Nat.le_of_ble_eq_true rfl) dX4_takesOne_14 ⟨Nat.zero_le _, Nat.zero_le _⟩ (fun z2 hz2 H locs hP hD hS => ?_)
    have hm := wl_bz hm hz2
    have hTz2 : TK mbytesLong z2.1 z2.2.1 z2.2.2.1 := by rw [hz2]; exact (goBehind_ok hTI hBL).2
    have hTIz2 := hTz2.1
    refine lv_aload_n hx hb dX4_takesOne_17 rfl (lv_at hl 0 rfl) ?_
    refine lv_iconst (v := (nI 0)) hx hb dX4_takesOne_18 (by decide +kernel) ?_
    refine lv_iconst (v := (nI 0)) hx hb dX4_takesOne_19 (by decide +kernel) ?_
    refine lv_iconst (v := (nI 5)) hx hb dX4_takesOne_20 (by decide +kernel) ?_
    refine wl_callVi hC (c_X4_takes (k := 0) (low := (nI 0)) (high := (nI 5)) (by first | assumption | omega) (by first | assumption | omega) (by first | assumption | omega)) lk_RX4_224 rfl ⟨rfl, rfl, Nat.le_of_ble_eq_true rfl, Nat.le_of_ble_eq_true rfl⟩ hP hD hS hA 0 rfl (T1 := 21) rfl hl.1 rfl (Nat.le_of_ble_eq_true rfl) dX4_takesOne_21 ⟨Nat.zero_le _, Nat.zero_le _⟩ (fun z3 hz3 H locs hP hD hS => ?_)
    have hm := wl_bz hm hz3
    have hTIz3 : z3.2.1 + z3.2.2.1 ≤ mbytesLong := by rw [hz3]; exact (takes_ok (by assumption) hBL).2.1
    refine wl_if_eq_b hx hb (tgt := 38) dX4_takesOne_24 (by decide) (fun c4 => ?_) (fun c4 => ?_)
    · have hm := hm.trans (if_neg c4)
      refine lv_iconst (v := (nI 0)) hx hb dX4_takesOne_38 (by decide +kernel) ?_
      exact wl_zret (v := false) hC hr hlk hm rfl hP hD hS dX4_takesOne_39
    · have hm := hm.trans (if_pos c4)
      refine lv_aload_n hx hb dX4_takesOne_27 rfl (lv_at hl 0 rfl) ?_
      refine lv_iconst (v := (nI 1)) hx hb dX4_takesOne_28 (by decide +kernel) ?_
      refine lv_iconst (v := (nI 0)) hx hb dX4_takesOne_29 (by decide +kernel) ?_
      refine lv_bipush (v := (nI 30)) hx hb dX4_takesOne_30 (by decide +kernel) ?_
      refine wl_callVi hC (c_X4_takes (k := 1) (low := (nI 0)) (high := (nI 30)) (by first | assumption | omega) (by first | assumption | omega) (by first | assumption | omega)) lk_RX4_224 rfl ⟨rfl, rfl, Nat.le_of_ble_eq_true rfl, Nat.le_of_ble_eq_true rfl⟩ hP hD hS hA 0 rfl (T1 := 21) rfl hl.1 rfl (Nat.le_of_ble_eq_true rfl) dX4_takesOne_32 ⟨Nat.zero_le _, Nat.zero_le _⟩ (fun z5 hz5 H locs hP hD hS => ?_)
      have hm := wl_bz hm hz5
      refine wl_if_ne_b hx hb (tgt := 40) dX4_takesOne_35 (by decide) (fun c6 => ?_) (fun c6 => ?_)
      · have hm := hm.trans (if_pos c6)
        refine lv_aload_n hx hb dX4_takesOne_40 rfl (lv_at hl 0 rfl) ?_
        refine g_M_0_anew hC hP mw_395 dX4_takesOne_41 ?_
        refine lv_aload_n hx hb dX4_takesOne_44 rfl (lv_at hl 0 rfl) ?_
        refine g_M_0_values hC hP mw_396 dX4_takesOne_45 ?_
        refine lv_iconst (v := (nI 0)) hx hb dX4_takesOne_48 (by decide +kernel) ?_
        refine ld_M_11 hC hP 0 (by omega) dX4_takesOne_49 ?_
        refine lv_aload_n hx hb dX4_takesOne_50 rfl (lv_at hl 0 rfl) ?_
        refine g_M_0_values hC hP mw_396 dX4_takesOne_51 ?_
        refine lv_iconst (v := (nI 1)) hx hb dX4_takesOne_54 (by decide +kernel) ?_
        refine ld_M_11 hC hP 1 (by omega) dX4_takesOne_55 ?_
        refine wl_callSv hC (c_X4_layOne__M_10 (kind := (z5.2.2.2.2.2 0)) (temper := (z5.2.2.2.2.2 1)) (P := P) (h0) (by first | assumption | omega) (by first | assumption | omega) (by first | assumption | omega)) lk_RX4_71 rfl ⟨rfl, rfl, Nat.le_of_ble_eq_true rfl, Nat.le_of_ble_eq_true rfl⟩ hP hD hS hA hl.1 rfl (Nat.le_of_ble_eq_true rfl) dX4_takesOne_56 ⟨Nat.zero_le _, Nat.zero_le _⟩ (fun z7 hz7 H locs hP hD hS => ?_)
        have hm := wl_bz hm hz7
        refine lv_iconst (v := (nI 1)) hx hb dX4_takesOne_59 (by decide +kernel) ?_
        exact wl_zret (v := true) hC hr hlk hm rfl hP hD hS dX4_takesOne_60
      · have hm := hm.trans (if_neg c6)
        refine lv_iconst (v := (nI 0)) hx hb dX4_takesOne_38 (by decide +kernel) ?_
        exact wl_zret (v := false) hC hr hlk hm rfl hP hD hS dX4_takesOne_39
  · have hm := hm.trans (if_pos c1)
    refine lv_iconst (v := (nI 0)) hx hb dX4_takesOne_11 (by decide +kernel) ?_
    exact wl_zret (v := false) hC hr hlk hm rfl hP hD hS dX4_takesOne_12
def m_X4_takesBit (mbytesLong : Nat) (mtokenAt : Nat) (mtokenLong : Nat) (mbytes : (Nat → Int32)) (manew : (Nat → Int32)) (mvalues : (Nat → Int32)) (which : Nat) (P : Nat) : Bool × Nat × Nat × Int32 × Int32 × (Nat → Int32) × (Nat → Int32) := (wl_bnd (m_X4_goBehind mbytesLong mtokenAt mtokenLong mbytes) (fun z1 => (wl_bnd (m_X4_takes mbytesLong z1.1 z1.2.1 z1.2.2.1 z1.2.2.2 mbytes mvalues 0 (nI 0) ((nI P) - (nI 1))) (fun z2 => (if z2.1 = true then (true, z2.2.1, z2.2.2.1, z2.2.2.2.1, z2.2.2.2.2.1, (upd manew which ((manew which) ||| ((nI 1) <<< ((z2.2.2.2.2.2 0) &&& 31)))), z2.2.2.2.2.2) else (false, z2.2.1, z2.2.2.1, z2.2.2.2.1, z2.2.2.2.2.1, manew, z2.2.2.2.2.2))))))
set_option maxHeartbeats 4000000 in
set_option maxRecDepth 100000 in
theorem c_X4_takesBit {l : Launch} {D : va_G} {E : Nat → ClassId} {a : Nat → Nat} {mabove : Int64} {mbelow : Int64} {mlisted : Int32} {mfollowing : Int32} {mdayThen : Int32} {mbytesLong : Nat} {mtokenAt : Nat} {mtokenLong : Nat} {mtoken : Int32} {mvalue : Int32} {mnow : (Nat → Int32)} {mkept : (Nat → Int32)} {misKept : (Nat → Int32)} {mrefused : (Nat → Int32)} {mtempers : (Nat → Int32)} {mhis : (Nat → Int32)} {mtheirs : (Nat → Int32)} {mmanyBy : (Nat → Int32)} {mbytes : (Nat → Int32)} {manew : (Nat → Int32)} {mvalues : (Nat → Int32)} {which : Nat} {P : Nat} (hBL : mbytesLong ≤ 150) (hTI : mtokenAt + mtokenLong ≤ mbytesLong) (h0 : manew 0 = nI P) (hw : which = 18 ∨ which = 19) : wl_Met (τ := Bool × Nat × Nat × Int32 × Int32 × (Nat → Int32) × (Nat → Int32)) l D E yX4_takesBit cX4_takesBit 2 (some .boolean) ({ frames := 5, cells := 0, slots := 0, locals := 112 } : Room) [.ref (a 0), .int (nI which)] (wM E a mabove mbelow mlisted mfollowing mdayThen mbytesLong mtokenAt mtokenLong mtoken mvalue mnow mkept misKept mrefused mtempers mhis mtheirs mmanyBy mbytes manew mvalues) (fun z => some (.int (wl_b z.1))) (fun z => (wM E a mabove mbelow mlisted mfollowing mdayThen mbytesLong z.2.1 z.2.2.1 z.2.2.2.1 z.2.2.2.2.1 mnow mkept misKept mrefused mtempers mhis mtheirs mmanyBy mbytes z.2.2.2.2.2.1 z.2.2.2.2.2.2)) (m_X4_takesBit mbytesLong mtokenAt mtokenLong mbytes manew mvalues which P) := by
  refine wl_enter (own := RX4) (by decide +kernel) rfl (Nat.le_of_ble_eq_true rfl) ?_
  intro p0 e0 s0 m0 bl0 mt0 c0 A hC hr hlk hA H locs hP hD hS ls hl
  have hx := hC.1
  have hb := hC.2.1
  have hl : lv_has ls 2 [(0, .ref (a 0)), (1, .int (nI which))] := hl
  have hm := m_X4_takesBit.eq_1 mbytesLong mtokenAt mtokenLong mbytes manew mvalues which P
  refine lv_aload_n hx hb dX4_takesBit_0 rfl (lv_at hl 0 rfl) ?_
  refine wl_callVv hC (c_X4_goBehind  (by first | assumption | omega) (by first | assumption | omega)) lk_RX4_217 rfl ⟨rfl, rfl, Nat.le_of_ble_eq_true rfl, Nat.le_of_ble_eq_true rfl⟩ hP hD hS hA 0 rfl (T1 := 21) rfl hl.1 rfl (Nat.le_of_ble_eq_true rfl) dX4_takesBit_1 ⟨Nat.zero_le _, Nat.zero_le _⟩ (fun z1 hz1 H locs hP hD hS => ?_)
  have hm := wl_bz hm hz1
  have hTz1 : TK mbytesLong z1.1 z1.2.1 z1.2.2.1 := by rw [hz1]; exact (goBehind_ok hTI hBL).2
  have hTIz1 := hTz1.1
  refine lv_aload_n hx hb dX4_takesBit_4 rfl (lv_at hl 0 rfl) ?_
  refine lv_iconst (v := (nI 0)) hx hb dX4_takesBit_5 (by decide +kernel) ?_
  refine lv_iconst (v := (nI 0)) hx hb dX4_takesBit_6 (by decide +kernel) ?_
  refine lv_aload_n hx hb dX4_takesBit_7 rfl (lv_at hl 0 rfl) ?_
  refine g_M_0_anew hC hP mw_395 dX4_takesBit_8 ?_
  refine lv_iconst (v := (nI 0)) hx hb dX4_takesBit_11 (by decide +kernel) ?_
  refine ld_M_10 hC hP 0 (by omega) dX4_takesBit_12 ?_
  refine wl_re (h0) ?_
  refine lv_iconst (v := (nI 1)) hx hb dX4_takesBit_13 (by decide +kernel) ?_
  refine lv_isub hx hb dX4_takesBit_14 ?_
  refine wl_callVi hC (c_X4_takes (k := 0) (low := (nI 0)) (high := ((nI P) - (nI 1))) (by first | assumption | omega) (by first | assumption | omega) (by first | assumption | omega)) lk_RX4_224 rfl ⟨rfl, rfl, Nat.le_of_ble_eq_true rfl, Nat.le_of_ble_eq_true rfl⟩ hP hD hS hA 0 rfl (T1 := 21) rfl hl.1 rfl (Nat.le_of_ble_eq_true rfl) dX4_takesBit_15 ⟨Nat.zero_le _, Nat.zero_le _⟩ (fun z2 hz2 H locs hP hD hS => ?_)
  have hm := wl_bz hm hz2
  refine wl_if_ne_b hx hb (tgt := 23) dX4_takesBit_18 (by decide) (fun c3 => ?_) (fun c3 => ?_)
  · have hm := hm.trans (if_pos c3)
    refine lv_aload_n hx hb dX4_takesBit_23 rfl (lv_at hl 0 rfl) ?_
    refine g_M_0_anew hC hP mw_395 dX4_takesBit_24 ?_
    refine lv_iload_n hx hb dX4_takesBit_27 rfl (lv_at hl 1 rfl) ?_
    refine lv_dup2_11 hx hb dX4_takesBit_28 rfl rfl ?_
    refine ld_M_10 hC hP which (by omega) dX4_takesBit_29 ?_
    refine lv_iconst (v := (nI 1)) hx hb dX4_takesBit_30 (by decide +kernel) ?_
    refine lv_aload_n hx hb dX4_takesBit_31 rfl (lv_at hl 0 rfl) ?_
    refine g_M_0_values hC hP mw_396 dX4_takesBit_32 ?_
    refine lv_iconst (v := (nI 0)) hx hb dX4_takesBit_35 (by decide +kernel) ?_
    refine ld_M_11 hC hP 0 (by omega) dX4_takesBit_36 ?_
    refine lv_ishl hx hb dX4_takesBit_37 ?_
    refine lv_ior hx hb dX4_takesBit_38 ?_
    refine st_M_10 hC hP hD hS which ((manew which) ||| ((nI 1) <<< ((z2.2.2.2.2.2 0) &&& 31))) (by omega) dX4_takesBit_39 (fun H locs hP hD hS => ?_)
    refine lv_iconst (v := (nI 1)) hx hb dX4_takesBit_40 (by decide +kernel) ?_
    exact wl_zret (v := true) hC hr hlk hm rfl hP hD hS dX4_takesBit_41
  · have hm := hm.trans (if_neg c3)
    refine lv_iconst (v := (nI 0)) hx hb dX4_takesBit_21 (by decide +kernel) ?_
    exact wl_zret (v := false) hC hr hlk hm rfl hP hD hS dX4_takesBit_22
def m_X4_takesItem (mbytesLong : Nat) (mtokenAt : Nat) (mtokenLong : Nat) (mtoken : Int32) (mvalue : Int32) (mbytes : (Nat → Int32)) (manew : (Nat → Int32)) (mvalues : (Nat → Int32)) (P : Nat) : Bool × Nat × Nat × Int32 × Int32 × (Nat → Int32) × (Nat → Int32) := (wl_bnd (m_X4_spells mtokenAt mtokenLong mtoken mbytes 3 (nI 111) (nI 110) (nI 101) (nI 0) (nI 0) (nI 0)) (fun z1 => (if z1 = true then (wl_bnd (m_X4_takesOne mbytesLong mtokenAt mtokenLong mtoken mvalue mbytes manew mvalues P) (fun z10 => (z10.1, z10.2.1, z10.2.2.1, z10.2.2.2.1, z10.2.2.2.2.1, z10.2.2.2.2.2.1, z10.2.2.2.2.2.2))) else (wl_bnd (m_X4_spells mtokenAt mtokenLong mtoken mbytes 4 (nI 108) (nI 105) (nI 115) (nI 116) (nI 0) (nI 0)) (fun z3 => (if z3 = true then (wl_bnd (m_X4_takesBit mbytesLong mtokenAt mtokenLong mbytes manew mvalues 18 P) (fun z9 => (z9.1, z9.2.1, z9.2.2.1, z9.2.2.2.1, z9.2.2.2.2.1, z9.2.2.2.2.2.1, z9.2.2.2.2.2.2))) else (wl_bnd (m_X4_spells mtokenAt mtokenLong mtoken mbytes 6 (nI 102) (nI 111) (nI 108) (nI 108) (nI 111) (nI 119)) (fun z5 => (if z5 = true then (wl_bnd (m_X4_takesBit mbytesLong mtokenAt mtokenLong mbytes manew mvalues 19 P) (fun z7 => (if z7.1 = true then (true, z7.2.1, z7.2.2.1, z7.2.2.2.1, z7.2.2.2.2.1, z7.2.2.2.2.2.1, z7.2.2.2.2.2.2) else (false, z7.2.1, z7.2.2.1, z7.2.2.2.1, z7.2.2.2.2.1, z7.2.2.2.2.2.1, z7.2.2.2.2.2.2)))) else (false, mtokenAt, mtokenLong, mtoken, mvalue, manew, mvalues))))))))))
set_option maxHeartbeats 4000000 in
set_option maxRecDepth 100000 in
theorem c_X4_takesItem {l : Launch} {D : va_G} {E : Nat → ClassId} {a : Nat → Nat} {mabove : Int64} {mbelow : Int64} {mlisted : Int32} {mfollowing : Int32} {mdayThen : Int32} {mbytesLong : Nat} {mtokenAt : Nat} {mtokenLong : Nat} {mtoken : Int32} {mvalue : Int32} {mnow : (Nat → Int32)} {mkept : (Nat → Int32)} {misKept : (Nat → Int32)} {mrefused : (Nat → Int32)} {mtempers : (Nat → Int32)} {mhis : (Nat → Int32)} {mtheirs : (Nat → Int32)} {mmanyBy : (Nat → Int32)} {mbytes : (Nat → Int32)} {manew : (Nat → Int32)} {mvalues : (Nat → Int32)} {P : Nat} (hBL : mbytesLong ≤ 150) (hTI : mtokenAt + mtokenLong ≤ mbytesLong) (h0 : manew 0 = nI P) (hP7 : P ≤ 7) : wl_Met (τ := Bool × Nat × Nat × Int32 × Int32 × (Nat → Int32) × (Nat → Int32)) l D E yX4_takesItem cX4_takesItem 1 (some .boolean) ({ frames := 6, cells := 0, slots := 0, locals := 133 } : Room) [.ref (a 0)] (wM E a mabove mbelow mlisted mfollowing mdayThen mbytesLong mtokenAt mtokenLong mtoken mvalue mnow mkept misKept mrefused mtempers mhis mtheirs mmanyBy mbytes manew mvalues) (fun z => some (.int (wl_b z.1))) (fun z => (wM E a mabove mbelow mlisted mfollowing mdayThen mbytesLong z.2.1 z.2.2.1 z.2.2.2.1 z.2.2.2.2.1 mnow mkept misKept mrefused mtempers mhis mtheirs mmanyBy mbytes z.2.2.2.2.2.1 z.2.2.2.2.2.2)) (m_X4_takesItem mbytesLong mtokenAt mtokenLong mtoken mvalue mbytes manew mvalues P) := by
  refine wl_enter (own := RX4) (by decide +kernel) rfl (Nat.le_of_ble_eq_true rfl) ?_
  intro p0 e0 s0 m0 bl0 mt0 c0 A hC hr hlk hA H locs hP hD hS ls hl
  have hx := hC.1
  have hb := hC.2.1
  have hl : lv_has ls 1 [(0, .ref (a 0))] := hl
  have hm := m_X4_takesItem.eq_1 mbytesLong mtokenAt mtokenLong mtoken mvalue mbytes manew mvalues P
  refine lv_aload_n hx hb dX4_takesItem_0 rfl (lv_at hl 0 rfl) ?_
  refine lv_iconst (v := (nI 3)) hx hb dX4_takesItem_1 (by decide +kernel) ?_
  refine lv_bipush (v := (nI 111)) hx hb dX4_takesItem_2 (by decide +kernel) ?_
  refine lv_bipush (v := (nI 110)) hx hb dX4_takesItem_4 (by decide +kernel) ?_
  refine lv_bipush (v := (nI 101)) hx hb dX4_takesItem_6 (by decide +kernel) ?_
  refine lv_iconst (v := (nI 0)) hx hb dX4_takesItem_8 (by decide +kernel) ?_
  refine lv_iconst (v := (nI 0)) hx hb dX4_takesItem_9 (by decide +kernel) ?_
  refine lv_iconst (v := (nI 0)) hx hb dX4_takesItem_10 (by decide +kernel) ?_
  refine wl_callVi hC (c_X4_spells (size := 3) (ca := (nI 111)) (cb := (nI 110)) (cd := (nI 101)) (ce := (nI 0)) (cf := (nI 0)) (cg := (nI 0)) (by first | assumption | omega) (by first | assumption | omega) (by first | assumption | omega)) lk_RX4_220 rfl ⟨rfl, rfl, Nat.le_of_ble_eq_true rfl, Nat.le_of_ble_eq_true rfl⟩ hP hD hS hA 0 rfl (T1 := 21) rfl hl.1 rfl (Nat.le_of_ble_eq_true rfl) dX4_takesItem_11 ⟨Nat.zero_le _, Nat.zero_le _⟩ (fun z1 hz1 H locs hP hD hS => ?_)
  have hm := wl_bz hm hz1
  refine wl_if_eq_b hx hb (tgt := 22) dX4_takesItem_14 (by decide) (fun c2 => ?_) (fun c2 => ?_)
  · have hm := hm.trans (if_neg c2)
    refine lv_aload_n hx hb dX4_takesItem_22 rfl (lv_at hl 0 rfl) ?_
    refine lv_iconst (v := (nI 4)) hx hb dX4_takesItem_23 (by decide +kernel) ?_
    refine lv_bipush (v := (nI 108)) hx hb dX4_takesItem_24 (by decide +kernel) ?_
    refine lv_bipush (v := (nI 105)) hx hb dX4_takesItem_26 (by decide +kernel) ?_
    refine lv_bipush (v := (nI 115)) hx hb dX4_takesItem_28 (by decide +kernel) ?_
    refine lv_bipush (v := (nI 116)) hx hb dX4_takesItem_30 (by decide +kernel) ?_
    refine lv_iconst (v := (nI 0)) hx hb dX4_takesItem_32 (by decide +kernel) ?_
    refine lv_iconst (v := (nI 0)) hx hb dX4_takesItem_33 (by decide +kernel) ?_
    refine wl_callVi hC (c_X4_spells (size := 4) (ca := (nI 108)) (cb := (nI 105)) (cd := (nI 115)) (ce := (nI 116)) (cf := (nI 0)) (cg := (nI 0)) (by first | assumption | omega) (by first | assumption | omega) (by first | assumption | omega)) lk_RX4_220 rfl ⟨rfl, rfl, Nat.le_of_ble_eq_true rfl, Nat.le_of_ble_eq_true rfl⟩ hP hD hS hA 0 rfl (T1 := 21) rfl hl.1 rfl (Nat.le_of_ble_eq_true rfl) dX4_takesItem_34 ⟨Nat.zero_le _, Nat.zero_le _⟩ (fun z3 hz3 H locs hP hD hS => ?_)
    have hm := wl_bz hm hz3
    refine wl_if_eq_b hx hb (tgt := 47) dX4_takesItem_37 (by decide) (fun c4 => ?_) (fun c4 => ?_)
    · have hm := hm.trans (if_neg c4)
      refine lv_aload_n hx hb dX4_takesItem_47 rfl (lv_at hl 0 rfl) ?_
      refine lv_bipush (v := (nI 6)) hx hb dX4_takesItem_48 (by decide +kernel) ?_
      refine lv_bipush (v := (nI 102)) hx hb dX4_takesItem_50 (by decide +kernel) ?_
      refine lv_bipush (v := (nI 111)) hx hb dX4_takesItem_52 (by decide +kernel) ?_
      refine lv_bipush (v := (nI 108)) hx hb dX4_takesItem_54 (by decide +kernel) ?_
      refine lv_bipush (v := (nI 108)) hx hb dX4_takesItem_56 (by decide +kernel) ?_
      refine lv_bipush (v := (nI 111)) hx hb dX4_takesItem_58 (by decide +kernel) ?_
      refine lv_bipush (v := (nI 119)) hx hb dX4_takesItem_60 (by decide +kernel) ?_
      refine wl_callVi hC (c_X4_spells (size := 6) (ca := (nI 102)) (cb := (nI 111)) (cd := (nI 108)) (ce := (nI 108)) (cf := (nI 111)) (cg := (nI 119)) (by first | assumption | omega) (by first | assumption | omega) (by first | assumption | omega)) lk_RX4_220 rfl ⟨rfl, rfl, Nat.le_of_ble_eq_true rfl, Nat.le_of_ble_eq_true rfl⟩ hP hD hS hA 0 rfl (T1 := 21) rfl hl.1 rfl (Nat.le_of_ble_eq_true rfl) dX4_takesItem_62 ⟨Nat.zero_le _, Nat.zero_le _⟩ (fun z5 hz5 H locs hP hD hS => ?_)
      have hm := wl_bz hm hz5
      refine wl_if_eq_b hx hb (tgt := 81) dX4_takesItem_65 (by decide) (fun c6 => ?_) (fun c6 => ?_)
      · have hm := hm.trans (if_neg c6)
        refine lv_iconst (v := (nI 0)) hx hb dX4_takesItem_81 (by decide +kernel) ?_
        exact wl_zret (v := false) hC hr hlk hm rfl hP hD hS dX4_takesItem_82
      · have hm := hm.trans (if_pos c6)
        refine lv_aload_n hx hb dX4_takesItem_68 rfl (lv_at hl 0 rfl) ?_
        refine lv_bipush (v := (nI 19)) hx hb dX4_takesItem_69 (by decide +kernel) ?_
        refine wl_callVi hC (c_X4_takesBit (which := 19) (P := P) (by first | assumption | omega) (by first | assumption | omega) (h0) (Or.inr rfl)) lk_RX4_230 rfl ⟨rfl, rfl, Nat.le_of_ble_eq_true rfl, Nat.le_of_ble_eq_true rfl⟩ hP hD hS hA 0 rfl (T1 := 21) rfl hl.1 rfl (Nat.le_of_ble_eq_true rfl) dX4_takesItem_71 ⟨Nat.zero_le _, Nat.zero_le _⟩ (fun z7 hz7 H locs hP hD hS => ?_)
        have hm := wl_bz hm hz7
        refine wl_if_eq_b hx hb (tgt := 81) dX4_takesItem_74 (by decide) (fun c8 => ?_) (fun c8 => ?_)
        · have hm := hm.trans (if_neg c8)
          refine lv_iconst (v := (nI 0)) hx hb dX4_takesItem_81 (by decide +kernel) ?_
          exact wl_zret (v := false) hC hr hlk hm rfl hP hD hS dX4_takesItem_82
        · have hm := hm.trans (if_pos c8)
          refine lv_iconst (v := (nI 1)) hx hb dX4_takesItem_77 (by decide +kernel) ?_
          refine lv_goto (tgt := 82) hx hb dX4_takesItem_78 (by decide) ?_
          exact wl_zret (v := true) hC hr hlk hm rfl hP hD hS dX4_takesItem_82
    · have hm := hm.trans (if_pos c4)
      refine lv_aload_n hx hb dX4_takesItem_40 rfl (lv_at hl 0 rfl) ?_
      refine lv_bipush (v := (nI 18)) hx hb dX4_takesItem_41 (by decide +kernel) ?_
      refine wl_callVi hC (c_X4_takesBit (which := 18) (P := P) (by first | assumption | omega) (by first | assumption | omega) (h0) (Or.inl rfl)) lk_RX4_230 rfl ⟨rfl, rfl, Nat.le_of_ble_eq_true rfl, Nat.le_of_ble_eq_true rfl⟩ hP hD hS hA 0 rfl (T1 := 21) rfl hl.1 rfl (Nat.le_of_ble_eq_true rfl) dX4_takesItem_43 ⟨Nat.zero_le _, Nat.zero_le _⟩ (fun z9 hz9 H locs hP hD hS => ?_)
      have hm := wl_bz hm hz9
      exact wl_zret (v := z9.1) hC hr hlk hm rfl hP hD hS dX4_takesItem_46
  · have hm := hm.trans (if_pos c2)
    refine lv_aload_n hx hb dX4_takesItem_17 rfl (lv_at hl 0 rfl) ?_
    refine wl_callVi hC (c_X4_takesOne (P := P) (by first | assumption | omega) (by first | assumption | omega) (h0) (by first | assumption | omega)) lk_RX4_227 rfl ⟨rfl, rfl, Nat.le_of_ble_eq_true rfl, Nat.le_of_ble_eq_true rfl⟩ hP hD hS hA 0 rfl (T1 := 21) rfl hl.1 rfl (Nat.le_of_ble_eq_true rfl) dX4_takesItem_18 ⟨Nat.zero_le _, Nat.zero_le _⟩ (fun z10 hz10 H locs hP hD hS => ?_)
    have hm := wl_bz hm hz10
    exact wl_zret (v := z10.1) hC hr hlk hm rfl hP hD hS dX4_takesItem_21
