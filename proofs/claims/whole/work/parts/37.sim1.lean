/-! SIMULATION 1: refusals; town, one, type, clear, forget, status, part -/
theorem RR.bad {s : SX} {r : SM} (h : RR s r) : RR (SX.mk s.fabove s.fbelow (s.rbad + nI 1) s.rno s.rfull s.keptz s.wkind s.wtemper s.wcounts s.wday s.wlisted s.wfollowed s.xlength s.xstart s.xbehind s.xsort s.xnumber s.xbytes s.T0 s.T1 s.T2 s.T3) (SM.mk r.mabove r.mbelow r.mlisted r.mfollowing r.mdayThen r.mbytesLong r.mtokenAt r.mtokenLong r.mtoken r.mvalue r.mnow r.mkept r.misKept (upd r.mrefused 0 (r.mrefused 0 + nI 1)) r.mtempers r.mhis r.mtheirs r.mmanyBy r.mbytes r.manew r.mvalues) :=
  ⟨h.rt, h.rk, h.r2, h.r3, h.fa, h.fb, (by show upd r.mrefused 0 (r.mrefused 0 + nI 1) 0 = s.rbad + nI 1; rw [pk_us, h.f0]), (by show upd r.mrefused 0 (r.mrefused 0 + nI 1) 1 = s.rno; rw [pk_un (by decide)]; exact h.f1), (by show upd r.mrefused 0 (r.mrefused 0 + nI 1) 2 = s.rfull; rw [pk_un (by decide)]; exact h.f2), h.xl, h.xm, h.xb⟩
theorem RR.no {s : SX} {r : SM} (h : RR s r) : RR (SX.mk s.fabove s.fbelow s.rbad (s.rno + nI 1) s.rfull s.keptz s.wkind s.wtemper s.wcounts s.wday s.wlisted s.wfollowed s.xlength s.xstart s.xbehind s.xsort s.xnumber s.xbytes s.T0 s.T1 s.T2 s.T3) (SM.mk r.mabove r.mbelow r.mlisted r.mfollowing r.mdayThen r.mbytesLong r.mtokenAt r.mtokenLong r.mtoken r.mvalue r.mnow r.mkept r.misKept (upd r.mrefused 1 (r.mrefused 1 + nI 1)) r.mtempers r.mhis r.mtheirs r.mmanyBy r.mbytes r.manew r.mvalues) :=
  ⟨h.rt, h.rk, h.r2, h.r3, h.fa, h.fb, (by show upd r.mrefused 1 (r.mrefused 1 + nI 1) 0 = s.rbad; rw [pk_un (by decide)]; exact h.f0), (by show upd r.mrefused 1 (r.mrefused 1 + nI 1) 1 = s.rno + nI 1; rw [pk_us, h.f1]), (by show upd r.mrefused 1 (r.mrefused 1 + nI 1) 2 = s.rfull; rw [pk_un (by decide)]; exact h.f2), h.xl, h.xm, h.xb⟩
theorem RR.full {s : SX} {r : SM} (h : RR s r) : RR (SX.mk s.fabove s.fbelow s.rbad s.rno (s.rfull + nI 1) s.keptz s.wkind s.wtemper s.wcounts s.wday s.wlisted s.wfollowed s.xlength s.xstart s.xbehind s.xsort s.xnumber s.xbytes s.T0 s.T1 s.T2 s.T3) (SM.mk r.mabove r.mbelow r.mlisted r.mfollowing r.mdayThen r.mbytesLong r.mtokenAt r.mtokenLong r.mtoken r.mvalue r.mnow r.mkept r.misKept (upd r.mrefused 2 (r.mrefused 2 + nI 1)) r.mtempers r.mhis r.mtheirs r.mmanyBy r.mbytes r.manew r.mvalues) :=
  ⟨h.rt, h.rk, h.r2, h.r3, h.fa, h.fb, (by show upd r.mrefused 2 (r.mrefused 2 + nI 1) 0 = s.rbad; rw [pk_un (by decide)]; exact h.f0), (by show upd r.mrefused 2 (r.mrefused 2 + nI 1) 1 = s.rno; rw [pk_un (by decide)]; exact h.f1), (by show upd r.mrefused 2 (r.mrefused 2 + nI 1) 2 = s.rfull + nI 1; rw [pk_us, h.f2]), h.xl, h.xm, h.xb⟩
theorem win {v : Int32} {a b : Nat} (ha : a < 2 ^ 31) (hb : b < 2 ^ 31) : m_X3_isWithin v (nI a) (nI b) = m_X4_in v.toInt64 (lN a) (lN b) := within_in ha hb
theorem sim_clear {s : SX} {r : SM} (h : RR s r) : (aX_clear s).1 = (aM_clear s r).1 ∧ RR (uX_clear s (aX_clear s)) (uM_clear r (aM_clear s r)) := by
  refine ⟨?_, h.rt, h.rk, h.r2, h.r3, h.fa, h.fb, h.f0, h.f1, h.f2, rfl, Nat.zero_le _, h.xb⟩
  show nI s.xlength = nI r.mbytesLong
  rw [h.xl]
theorem sim_type {s : SX} {r : SM} (h : RR s r) (c : Int32) : (aX_type s c).1 = (aM_type s r c).1 ∧ RR (uX_type s (aX_type s c)) (uM_type r (aM_type s r c)) := by
  unfold aX_type aM_type m_X3_type m_X4_type wl_bnd
  rw [win (by decide) (by decide)]
  by_cases h1 : m_X4_in c.toInt64 (lN 0) (lN 127) = true
  · simp only [if_pos h1]
    have hl := h.xl
    have hm := h.xm
    by_cases h2 : s.xlength < 150
    · have h3 : ¬ r.mbytesLong = 150 := by omega
      simp only [if_pos h2, if_neg h3, m_X0_add, if_neg (show ¬ 150 ≤ s.xlength by omega)]
      refine ⟨by rw [hl], h.rt, h.rk, h.r2, h.r3, h.fa, h.fb, h.f0, h.f1, h.f2, ?_, h2, ?_⟩
      · show r.mbytesLong + 1 = s.xlength + 1
        omega
      · show upd r.mbytes r.mbytesLong (nI (cl c)) = upd s.xbytes s.xlength (nI (cl c))
        rw [hl, h.xb]
    · have h3 : r.mbytesLong = 150 := by omega
      simp only [if_neg h2, if_pos h3]
      exact ⟨rfl, h.full⟩
  · simp only [if_neg h1]
    exact ⟨rfl, h.bad⟩
