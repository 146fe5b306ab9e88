/-! SIMULATION 2: town, one, forget, status, part -/
theorem Sm.up {a b : Nat} {x : Int32} (h : Sm a x) (hab : a ≤ b) : Sm b x := by
  obtain ⟨n, hn, e⟩ := h
  exact ⟨n, by omega, e⟩
theorem Sm.upP {P : Nat} {x : Int32} (h : Sm (2 ^ P) x) (hP : P ≤ 7) : Sm 128 x := h.up (Nat.pow_le_pow_right (by decide) hP)
theorem RT.begin {T : Tn} {now : Nat → Int32} {c : Int32} (hc : ∃ n, 1 ≤ n ∧ n ≤ 5 ∧ c = nI n) : RT (Tn.mk c 0 (nI 0) (nI 0) (nI 0) (nI 0) 0 0 T.kinds T.tempers T.notes T.past) (m_X4_begin now c) := by
  have e : ∀ i, i ≠ 1 → i < 52 → m_X4_begin now c i = nI 0 := fun i h1 h2 => by rw [begin_at, if_neg h1, if_pos h2]
  refine ⟨Nat.zero_le _, Nat.zero_le _, Nat.zero_le _, e 0 (by decide) (by decide), ?_, e 2 (by decide) (by decide), e 3 (by decide) (by decide), fun p hp => absurd hp (Nat.not_lt_zero _), fun p hp => absurd hp (Nat.not_lt_zero _), ⟨e 18 (by decide) (by decide), 0, Nat.two_pow_pos _, rfl⟩, ⟨e 19 (by decide) (by decide), 0, Nat.two_pow_pos _, rfl⟩, e 20 (by decide) (by decide), e 21 (by decide) (by decide), fun p hp => absurd hp (Nat.not_lt_zero _), fun p hp => absurd hp (Nat.not_lt_zero _), fun p hp => absurd hp (Nat.not_lt_zero _), hc⟩
  show m_X4_begin now c 1 = c
  rw [begin_at, if_pos rfl]
theorem sim_town {s : SX} {r : SM} (h : RR s r) (counts : Int32) : (aX_town s counts).1 = (aM_town s r counts).1 ∧ RR (uX_town s (aX_town s counts)) (uM_town r (aM_town s r counts)) := by
  unfold aX_town aM_town m_X3_town m_X4_town wl_bnd
  rw [win (by decide) (by decide)]
  by_cases h1 : m_X4_in counts.toInt64 (lN 1) (lN 5) = true
  · simp only [if_pos h1]
    obtain ⟨c1, c2, c3⟩ := in_spec (by decide) (by decide) h1
    have hb := RT.begin (T := s.T0) (now := r.mnow) (c := counts) ⟨cl counts, c2, c3, c1⟩
    generalize m_X4_begin r.mnow counts = w at hb ⊢
    exact ⟨by trivial, hb, h.rk, h.r2, h.r3, h.fa, h.fb, h.f0, h.f1, h.f2, h.xl, h.xm, h.xb⟩
  · simp only [if_neg h1]
    exact ⟨rfl, h.bad⟩
theorem in_Sm {x : Int32} {b : Nat} (hb : b < 2 ^ 31) (h : m_X4_in x.toInt64 (lN 0) (lN b) = true) : Sm (b + 1) x := by
  obtain ⟨h1, h2, h3⟩ := in_spec (by decide) hb h
  exact ⟨cl x, by omega, h1⟩
theorem RT.one {T : Tn} {now : Nat → Int32} (h : RT T now) {k te : Int32} (h7 : T.people < 7) (hk : Sm 6 k) (ht : Sm 31 te) : RT (Tn.mk T.counts (T.people + 1) T.day T.listed T.followed T.struck T.noted 0 (upd T.kinds T.people k) (upd T.tempers T.people te) T.notes T.past) (upd (m_X4_layOne now k te T.people) 3 (nI 0)) := by
  have e : ∀ i, i ≠ 3 → i ≠ 0 → i ≠ 11 + T.people → i ≠ 4 + T.people → upd (m_X4_layOne now k te T.people) 3 (nI 0) i = now i := fun i h1 h2 h3 h4 => by
    rw [pk_un h1, m_X4_layOne, pk_un h2, pk_un h3, pk_un h4]
  refine ⟨h7, h.hn, Nat.zero_le _, ?_, ?_, ?_, pk_us, ?_, ?_, ?_, ?_, ?_, ?_, ?_, h.em, fun p hp => absurd hp (Nat.not_lt_zero _), h.ec⟩
  · show upd (m_X4_layOne now k te T.people) 3 (nI 0) 0 = _
    rw [pk_un (by decide), m_X4_layOne, pk_us]
  · exact (e 1 (by decide) (by decide) (by omega) (by omega)).trans h.e1
  · exact (e 2 (by decide) (by decide) (by omega) (by omega)).trans h.e2
  · intro p hp
    have hp' : p < T.people + 1 := hp
    show upd (m_X4_layOne now k te T.people) 3 (nI 0) (4 + p) = upd T.kinds T.people k p ∧ Sm 6 (upd T.kinds T.people k p)
    by_cases hx : p = T.people
    · subst hx
      rw [pk_un (by omega), m_X4_layOne, pk_un (by omega), pk_un (by omega), pk_us, pk_us]
      exact ⟨rfl, hk⟩
    · rw [e (4 + p) (by omega) (by omega) (by omega) (by omega), pk_un hx]
      exact h.ek p (by omega)
  · intro p hp
    have hp' : p < T.people + 1 := hp
    show upd (m_X4_layOne now k te T.people) 3 (nI 0) (11 + p) = upd T.tempers T.people te p ∧ Sm 100 (upd T.tempers T.people te p)
    by_cases hx : p = T.people
    · subst hx
      rw [pk_un (by omega), m_X4_layOne, pk_un (by omega), pk_us, pk_us]
      obtain ⟨n, hn, en⟩ := ht
      exact ⟨rfl, n, by omega, en⟩
    · rw [e (11 + p) (by omega) (by omega) (by omega) (by omega), pk_un hx]
      exact h.et p (by omega)
  · exact ⟨(e 18 (by decide) (by decide) (by omega) (by omega)).trans h.el.1, h.el.2.up (Nat.pow_le_pow_right (by decide) (Nat.le_succ _))⟩
  · exact ⟨(e 19 (by decide) (by decide) (by omega) (by omega)).trans h.ef.1, h.ef.2.up (Nat.pow_le_pow_right (by decide) (Nat.le_succ _))⟩
  · exact (e 20 (by decide) (by decide) (by omega) (by omega)).trans h.es
  · exact (e 21 (by decide) (by decide) (by omega) (by omega)).trans h.ed
  · intro i hi
    exact (e (22 + i) (by omega) (by omega) (by omega) (by omega)).trans (h.en i hi)
theorem sim_one {s : SX} {r : SM} (h : RR s r) (kind : Int32) (temper : Int32) : (aX_one s kind temper).1 = (aM_one s r kind temper).1 ∧ RR (uX_one s (aX_one s kind temper)) (uM_one r (aM_one s r kind temper)) := by
  unfold aX_one aM_one m_X3_one m_X4_one wl_bnd
  rw [win (by decide) (by decide), win (by decide) (by decide)]
  by_cases h1 : m_X4_in kind.toInt64 (lN 0) (lN 5) = true
  · simp only [if_pos h1]
    by_cases h2 : m_X4_in temper.toInt64 (lN 0) (lN 30) = true
    · simp only [if_pos h2]
      have hp := h.rt.hp
      by_cases h3 : s.T0.people < 7
      · simp only [if_pos h3, if_neg (show ¬ s.T0.people = 7 by omega), m_X1_addOne]
        exact ⟨by trivial, h.rt.one h3 (in_Sm (by decide) h1) (in_Sm (by decide) h2), h.rk, h.r2, h.r3, h.fa, h.fb, h.f0, h.f1, h.f2, h.xl, h.xm, h.xb⟩
      · simp only [if_neg h3, if_pos (show s.T0.people = 7 by omega)]
        exact ⟨rfl, h.full⟩
    · simp only [if_neg h2]
      exact ⟨rfl, h.bad⟩
  · simp only [if_neg h1]
    exact ⟨rfl, h.bad⟩
theorem sim_forget {s : SX} {r : SM} (h : RR s r) : (aX_forget s).1 = (aM_forget s r).1 ∧ RR (uX_forget s (aX_forget s)) (uM_forget r (aM_forget s r)) := by
  have t := h.rt
  have e : ∀ i, i ≠ 2 → upd r.mnow 2 (nI 0) i = r.mnow i := fun i hi => pk_un hi
  refine ⟨rfl, ⟨t.hp, Nat.zero_le _, t.hu, (e 0 (by decide)).trans t.e0, (e 1 (by decide)).trans t.e1, (by show upd r.mnow 2 (nI 0) 2 = nI 0; exact pk_us), (e 3 (by decide)).trans t.e3, fun p hp => by
    show upd r.mnow 2 (nI 0) (4 + p) = _ ∧ _; rw [e _ (by omega)]; exact t.ek p hp, fun p hp => by
    show upd r.mnow 2 (nI 0) (11 + p) = _ ∧ _; rw [e _ (by omega)]; exact t.et p hp, ⟨(e 18 (by decide)).trans t.el.1, t.el.2⟩, ⟨(e 19 (by decide)).trans t.ef.1, t.ef.2⟩, (e 20 (by decide)).trans t.es, (e 21 (by decide)).trans t.ed, fun i hi => absurd hi (Nat.not_lt_zero _), fun i hi => absurd hi (Nat.not_lt_zero _), fun j hj => ?_, t.ec⟩, h.rk, h.r2, h.r3, h.fa, h.fb, h.f0, h.f1, h.f2, h.xl, h.xm, h.xb⟩
  have g := t.ep j hj
  have e2 : (fun q => upd r.mnow 2 (nI 0) (52 + 11 * j + q)) = (fun q => r.mnow (52 + 11 * j + q)) := funext (fun q => e _ (by omega))
  show RP s.T0.people (fun q => s.T0.past (j * 11 + q)) (fun q => upd r.mnow 2 (nI 0) (52 + 11 * j + q))
  rw [e2]
  exact g
