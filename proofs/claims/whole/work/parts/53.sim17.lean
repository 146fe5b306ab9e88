/-! SIMULATION 17: read -/
theorem loop_2 {L : Nat} {by_ now : Nat → Int32} (hL : L ≤ 150) (z1 : Int32 × Nat × Int32 × Int32 × Int32 × Int32 × Nat × Nat) (h1 : z1.2.2.1 = nI 0) (h2 : z1.2.2.2.2.2.1 = nI 0) (h3 : z1.2.2.2.2.2.2.1 = 0) (v : Nat × Nat × Int32 × Int32 × Int32 × Nat × Int32 × Int32 × Nat × (Nat → Int32) × (Nat → Int32) × Nat) (w : Nat × Nat × Int32 × Int32 × (Nat → Int32) × (Nat → Int32) × Nat)
    (hv : v.2.1 ≤ L ∧ v.2.2.2.2.2.2.2.2.2.2.2 ≤ v.2.1 ∧ 1 ≤ v.2.2.2.2.2.2.2.2.2.2.2 ∧ w.2.2.2.2.2.2 = v.2.2.2.2.2.2.2.2.2.2.2 ∧ (w.1, w.2.1, w.2.2.1, w.2.2.2.1) = m_X4_lookAt L by_ v.2.1 ∧ v.2.2.2.2.2.2.2.2.1 = 0 ∧ FT v.2.2.2.2.1 v.2.2.2.2.2.1 v.2.2.2.2.2.2.1 v.2.2.2.2.2.2.2.1 v.2.2.2.2.2.2.2.2.2.1 v.2.2.2.2.2.2.2.2.2.2.1 w.2.2.2.2.1) :
    BR now (wl_run (m_X0_readInto_l12 L by_ z1) default 151 v) (wl_run (m_X4_read_l26 L now by_) default 151 w) := by
  refine run2 (m_X0_readInto_l12 L by_ z1) (m_X4_read_l26 L now by_) default default (fun v w => v.2.1 ≤ L ∧ v.2.2.2.2.2.2.2.2.2.2.2 ≤ v.2.1 ∧ 1 ≤ v.2.2.2.2.2.2.2.2.2.2.2 ∧ w.2.2.2.2.2.2 = v.2.2.2.2.2.2.2.2.2.2.2 ∧ (w.1, w.2.1, w.2.2.1, w.2.2.2.1) = m_X4_lookAt L by_ v.2.1 ∧ v.2.2.2.2.2.2.2.2.1 = 0 ∧ FT v.2.2.2.2.1 v.2.2.2.2.2.1 v.2.2.2.2.2.2.1 v.2.2.2.2.2.2.2.1 v.2.2.2.2.2.2.2.2.2.1 v.2.2.2.2.2.2.2.2.2.2.1 w.2.2.2.2.1) (fun v => L - v.2.1) (BR now) (fun v w hR => ?_) 151 151 v w (by omega) (by omega) hv
  obtain ⟨st, be, so, nu, ct, P, li, fo, un, ki, te, n⟩ := v
  obtain ⟨ta, lg, tok, val, an, vals, m⟩ := w
  obtain ⟨r1, r2, r3, r4, r5, r6, r7⟩ := hR
  have r1 : be ≤ L := r1
  have r2 : n ≤ be := r2
  have r3 : 1 ≤ n := r3
  have r4 : m = n := r4
  have r5 : (ta, lg, tok, val) = m_X4_lookAt L by_ be := r5
  have r6 : un = 0 := r6
  have r7 : FT ct P li fo ki te an := r7
  subst r4 r6
  obtain ⟨g1, g2⟩ := lookAt_ok (by_ := by_) r1 hL
  have ett := takeToken_eq (by_ := by_) r1 hL
  rw [← r5] at g1 g2 ett
  have g1 : be ≤ ta := g1
  have g2 : TK L ta lg tok := g2
  have ett : m_X0_takeToken L be by_ = (ta, ta + lg, tok) := ett
  have eP : cl (an 0) = P := by
    have e0 : an 0 = nI P := RT.e0 r7
    have hp : P ≤ 7 := RT.hp r7
    rw [e0]
    exact nI_clamp (by omega)
  unfold m_X0_readInto_l12 m_X4_read_l26
  dsimp only [wl_bnd]
  rw [if_neg (show ¬ 150 < m by omega), if_pos (show 0 < m by omega), ett, eP]
  dsimp only
  by_cases h0 : tok = 0
  · rw [if_pos h0, if_pos h0]
    refine Or.inr ⟨_, _, rfl, rfl, rfl, Or.inr ⟨pos_s m (by omega), h1, h2, h3, rfl, an, r7, fun i hi => ?_⟩⟩
    exact cp52 _ now i hi
  · rw [if_neg h0, if_neg h0, if_neg (show ¬ m = 0 by omega)]
    have it := item_2 (val := val) (n0 := nu) (by_ := by_) (vals := vals) hL g2 r7
    generalize m_X0_takesItem L ta (ta + lg) tok nu by_ ct P li fo 0 ki te false = zX at it ⊢
    generalize m_X4_takesItem L ta lg tok val by_ an vals P = zM at it ⊢
    rcases it with ⟨a1, a2, a3, a4, a5, a6, a7, a8⟩ | ⟨a1, a2, a3, a4⟩
    · rw [if_pos a1, if_pos a2, if_pos a3]
      refine Or.inl ⟨_, _, rfl, rfl, ⟨a6, ?_, Nat.le_add_left 1 m, rfl, ?_, a7, a8⟩, ?_⟩
      · show m + 1 ≤ zX.2.2.1
        omega
      · show m_X4_lookAt L by_ (zM.2.1 + zM.2.2.1) = m_X4_lookAt L by_ zX.2.2.1
        rw [a4]
      · show L - zX.2.2.1 < L - be
        omega
    · rw [if_neg (Bool.eq_false_iff.mp a1)]
      have neg := neg_s zX.2.1 (by omega)
      by_cases b1 : zM.1 = true
      · rw [if_pos b1, if_neg (fun q => a2 ⟨b1, q⟩)]
        exact Or.inr ⟨_, _, rfl, rfl, by show (-10) - nI zX.2.1 = (-10) - nI zM.2.1; rw [a3], Or.inl ⟨neg, rfl⟩⟩
      · rw [if_neg b1]
        exact Or.inr ⟨_, _, rfl, rfl, by show (-10) - nI zX.2.1 = (-10) - nI zM.2.1; rw [a3], Or.inl ⟨neg, rfl⟩⟩
theorem town_3 {L ta lg : Nat} {tok val : Int32} {by_ an vals : Nat → Int32} (h : (m_X4_takesTown L ta lg tok val by_ an vals).1 = true) : (m_X4_takesTown L ta lg tok val by_ an vals).2.2.2.1 = nI 3 := by
  unfold m_X4_takesTown at h ⊢
  dsimp only [wl_bnd] at h ⊢
  by_cases t0 : m_X4_spells ta lg tok by_ 4 (nI 116) (nI 111) (nI 119) (nI 110) (nI 0) (nI 0) = true
  · rw [if_pos t0] at h ⊢
    generalize m_X4_takes L (m_X4_goBehind L ta lg by_).1 (m_X4_goBehind L ta lg by_).2.1 (m_X4_goBehind L ta lg by_).2.2.1 (m_X4_goBehind L ta lg by_).2.2.2 by_ vals 0 (nI 1) (nI 5) = z at h ⊢
    by_cases t1 : z.1 = true
    · rw [if_pos t1] at h ⊢
      by_cases t2 : z.2.2.2.1 = nI 3
      · rw [if_pos t2]
        exact t2
      · rw [if_neg t2] at h
        exact absurd (show false = true from h) (by decide)
    · rw [if_neg t1] at h
      exact absurd (show false = true from h) (by decide)
  · rw [if_neg t0] at h
    exact absurd (show false = true from h) (by decide)
theorem read_2 {L : Nat} {by_ now an vals kinds tempers : Nat → Int32} (hL : L ≤ 150) (xst : Nat) (xso xnu : Int32) : BR now (m_X0_readInto L xst xso xnu by_ kinds tempers) (m_X4_read L now by_ an vals) := by
  unfold m_X0_readInto m_X4_read
  dsimp only [wl_bnd]
  obtain ⟨g1, g2⟩ := lookAt_ok (by_ := by_) (Nat.zero_le L) hL
  have ett := takeToken_eq (by_ := by_) (Nat.zero_le L) hL
  generalize hx : m_X4_lookAt L by_ 0 = x at g1 g2 ett ⊢
  rw [wl_run]
  have e : m_X0_readInto_l12 L by_ (m_X1_begin (nI 3)) (xst, 0, xso, xnu, (m_X1_begin (nI 3)).1, (m_X1_begin (nI 3)).2.1, (m_X1_begin (nI 3)).2.2.2.1, (m_X1_begin (nI 3)).2.2.2.2.1, (m_X1_begin (nI 3)).2.2.2.2.2.2.2, kinds, tempers, 0) = (if (m_X0_takesItem L x.1 (x.1 + x.2.1) x.2.2.1 xnu by_ (nI 3) 0 (nI 0) (nI 0) 0 kinds tempers true).1 = true then .inl ((m_X0_takesItem L x.1 (x.1 + x.2.1) x.2.2.1 xnu by_ (nI 3) 0 (nI 0) (nI 0) 0 kinds tempers true).2.1, (m_X0_takesItem L x.1 (x.1 + x.2.1) x.2.2.1 xnu by_ (nI 3) 0 (nI 0) (nI 0) 0 kinds tempers true).2.2.1, (m_X0_takesItem L x.1 (x.1 + x.2.1) x.2.2.1 xnu by_ (nI 3) 0 (nI 0) (nI 0) 0 kinds tempers true).2.2.2.1, (m_X0_takesItem L x.1 (x.1 + x.2.1) x.2.2.1 xnu by_ (nI 3) 0 (nI 0) (nI 0) 0 kinds tempers true).2.2.2.2.1, (m_X0_takesItem L x.1 (x.1 + x.2.1) x.2.2.1 xnu by_ (nI 3) 0 (nI 0) (nI 0) 0 kinds tempers true).2.2.2.2.2.1, (m_X0_takesItem L x.1 (x.1 + x.2.1) x.2.2.1 xnu by_ (nI 3) 0 (nI 0) (nI 0) 0 kinds tempers true).2.2.2.2.2.2.1, (m_X0_takesItem L x.1 (x.1 + x.2.1) x.2.2.1 xnu by_ (nI 3) 0 (nI 0) (nI 0) 0 kinds tempers true).2.2.2.2.2.2.2.1, (m_X0_takesItem L x.1 (x.1 + x.2.1) x.2.2.1 xnu by_ (nI 3) 0 (nI 0) (nI 0) 0 kinds tempers true).2.2.2.2.2.2.2.2.1, (m_X0_takesItem L x.1 (x.1 + x.2.1) x.2.2.1 xnu by_ (nI 3) 0 (nI 0) (nI 0) 0 kinds tempers true).2.2.2.2.2.2.2.2.2.1, (m_X0_takesItem L x.1 (x.1 + x.2.1) x.2.2.1 xnu by_ (nI 3) 0 (nI 0) (nI 0) 0 kinds tempers true).2.2.2.2.2.2.2.2.2.2.1, (m_X0_takesItem L x.1 (x.1 + x.2.1) x.2.2.1 xnu by_ (nI 3) 0 (nI 0) (nI 0) 0 kinds tempers true).2.2.2.2.2.2.2.2.2.2.2, 0 + 1) else .inr (((-10) - nI (m_X0_takesItem L x.1 (x.1 + x.2.1) x.2.2.1 xnu by_ (nI 3) 0 (nI 0) (nI 0) 0 kinds tempers true).2.1), (m_X0_takesItem L x.1 (x.1 + x.2.1) x.2.2.1 xnu by_ (nI 3) 0 (nI 0) (nI 0) 0 kinds tempers true).2.1, (m_X0_takesItem L x.1 (x.1 + x.2.1) x.2.2.1 xnu by_ (nI 3) 0 (nI 0) (nI 0) 0 kinds tempers true).2.2.1, (m_X0_takesItem L x.1 (x.1 + x.2.1) x.2.2.1 xnu by_ (nI 3) 0 (nI 0) (nI 0) 0 kinds tempers true).2.2.2.1, (m_X0_takesItem L x.1 (x.1 + x.2.1) x.2.2.1 xnu by_ (nI 3) 0 (nI 0) (nI 0) 0 kinds tempers true).2.2.2.2.1, (m_X0_takesItem L x.1 (x.1 + x.2.1) x.2.2.1 xnu by_ (nI 3) 0 (nI 0) (nI 0) 0 kinds tempers true).2.2.2.2.2.1, (m_X0_takesItem L x.1 (x.1 + x.2.1) x.2.2.1 xnu by_ (nI 3) 0 (nI 0) (nI 0) 0 kinds tempers true).2.2.2.2.2.2.1, (m_X1_begin (nI 3)).2.2.1, (m_X0_takesItem L x.1 (x.1 + x.2.1) x.2.2.1 xnu by_ (nI 3) 0 (nI 0) (nI 0) 0 kinds tempers true).2.2.2.2.2.2.2.1, (m_X0_takesItem L x.1 (x.1 + x.2.1) x.2.2.1 xnu by_ (nI 3) 0 (nI 0) (nI 0) 0 kinds tempers true).2.2.2.2.2.2.2.2.1, (m_X1_begin (nI 3)).2.2.2.2.2.1, (m_X1_begin (nI 3)).2.2.2.2.2.2.1, (m_X0_takesItem L x.1 (x.1 + x.2.1) x.2.2.1 xnu by_ (nI 3) 0 (nI 0) (nI 0) 0 kinds tempers true).2.2.2.2.2.2.2.2.2.1, (m_X0_takesItem L x.1 (x.1 + x.2.1) x.2.2.1 xnu by_ (nI 3) 0 (nI 0) (nI 0) 0 kinds tempers true).2.2.2.2.2.2.2.2.2.2.1, (m_X0_takesItem L x.1 (x.1 + x.2.1) x.2.2.1 xnu by_ (nI 3) 0 (nI 0) (nI 0) 0 kinds tempers true).2.2.2.2.2.2.2.2.2.2.2)) := by
    unfold m_X0_readInto_l12
    dsimp only [wl_bnd]
    rw [if_neg (show ¬ 150 < 0 by decide), if_neg (show ¬ 0 < 0 by decide), if_pos (show (0 : Nat) = 0 from rfl), ett]
    rfl
  rw [e]
  have it := first_2 (val := x.2.2.2) (n0 := xnu) (by_ := by_) (kinds := kinds) (tempers := tempers) (an := an) (vals := vals) hL g2
  generalize m_X0_takesItem L x.1 (x.1 + x.2.1) x.2.2.1 xnu by_ (nI 3) 0 (nI 0) (nI 0) 0 kinds tempers true = zX at it ⊢
  have t3 := town_3 (L := L) (ta := x.1) (lg := x.2.1) (tok := x.2.2.1) (val := x.2.2.2) (by_ := by_) (an := an) (vals := vals)
  generalize m_X4_takesTown L x.1 x.2.1 x.2.2.1 x.2.2.2 by_ an vals = zM at it t3 ⊢
  rcases it with ⟨a1, a2, a3, a4, a5, a6, a7, a8⟩ | ⟨a1, a2, a3, a4⟩
  · rw [if_pos a1, if_pos a2]
    refine loop_2 hL (m_X1_begin (nI 3)) rfl rfl rfl _ _ ⟨a6, ?_, Nat.le_refl 1, rfl, ?_, a7, a8⟩
    · show 0 + 1 ≤ zX.2.2.1
      omega
    · show m_X4_lookAt L by_ (zM.2.1 + zM.2.2.1) = m_X4_lookAt L by_ zX.2.2.1
      rw [a4]
  · rw [if_neg (Bool.eq_false_iff.mp a1)]
    have neg := neg_s zX.2.1 (by omega)
    by_cases b1 : zM.1 = true
    · exact absurd ⟨b1, t3 b1⟩ a2
    · rw [if_neg b1]
      exact ⟨by show (-10) - nI zX.2.1 = (-10) - nI zM.2.1; rw [a3], Or.inl ⟨neg, rfl⟩⟩
theorem sim_read {s : SX} {r : SM} (h : RR s r) : (aX_read s).1 = (aM_read s r).1 ∧ RR (uX_read s (aX_read s)) (uM_read r (aM_read s r)) := by
  unfold aX_read aM_read m_X3_read m_X1_copyFrom
  dsimp only [wl_bnd]
  have hb := read_2 (by_ := s.xbytes) (now := r.mnow) (an := r.manew) (vals := r.mvalues) (kinds := s.T1.kinds) (tempers := s.T1.tempers) h.xm s.xstart s.xsort s.xnumber
  rw [show r.mbytesLong = s.xlength from h.xl, show r.mbytes = s.xbytes from h.xb]
  generalize m_X0_readInto s.xlength s.xstart s.xsort s.xnumber s.xbytes s.T1.kinds s.T1.tempers = z at hb ⊢
  generalize m_X4_read s.xlength r.mnow s.xbytes r.manew r.mvalues = q at hb ⊢
  obtain ⟨e1, ⟨c1, c2⟩ | ⟨c1, c2, c3, c4, c5, an, c6, c7⟩⟩ := hb
  · rw [if_pos c1]
    refine ⟨e1, ?_, h.rk, h.r2, h.r3, h.fa, h.fb, h.f0, h.f1, h.f2, h.xl, h.xm, h.xb⟩
    show RT s.T0 q.2.2.2.2.2.1
    rw [c2]
    exact h.rt
  · rw [if_neg c1]
    refine ⟨e1, ?_, h.rk, h.r2, h.r3, h.fa, h.fb, h.f0, h.f1, h.f2, h.xl, h.xm, h.xb⟩
    have o := c6.out (now' := q.2.2.2.2.2.1) (ki := va_cpy z.2.2.2.2.2.2.2.2.2.2.2.2.2.1 s.T0.kinds 0 0 7) (te := va_cpy z.2.2.2.2.2.2.2.2.2.2.2.2.2.2 s.T0.tempers 0 0 7) (no := va_cpy s.T1.notes s.T0.notes 0 0 30) (pa := va_cpy s.T1.past s.T0.past 0 0 88) c7 (fun i hi => cpy0 _ _ 7 i hi) (fun i hi => cpy0 _ _ 7 i hi)
    rw [← c2] at o
    have e : RT (Tn.mk z.2.2.2.2.2.1 z.2.2.2.2.2.2.1 z.2.2.2.2.2.2.2.1 z.2.2.2.2.2.2.2.2.1 z.2.2.2.2.2.2.2.2.2.1 z.2.2.2.2.2.2.2.2.2.2.1 z.2.2.2.2.2.2.2.2.2.2.2.1 z.2.2.2.2.2.2.2.2.2.2.2.2.1 (va_cpy z.2.2.2.2.2.2.2.2.2.2.2.2.2.1 s.T0.kinds 0 0 7) (va_cpy z.2.2.2.2.2.2.2.2.2.2.2.2.2.2 s.T0.tempers 0 0 7) (va_cpy s.T1.notes s.T0.notes 0 0 30) (va_cpy s.T1.past s.T0.past 0 0 88)) q.2.2.2.2.2.1 := by
      rw [c3, c4, c5]
      rw [c2] at o ⊢
      exact o
    exact e
