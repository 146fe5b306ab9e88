/-! SIMULATION 5: list, follow, undo -/
theorem with_val : ∀ n, n < 128 → ∀ p, p < 7 → ∀ b : Bool, m_X3_withBit (nI n) p (wl_b b) = nI (cond b (n ||| 2 ^ p) (n ^^^ (n &&& 2 ^ p))) := by decide +kernel
theorem in_01 {x : Int32} (h : m_X4_in x.toInt64 (lN 0) (lN 1) = true) : x = nI 0 ∨ x = nI 1 := by
  obtain ⟨h1, h2, h3⟩ := in_spec (by decide) (by decide) h
  have h4 : cl x = 0 ∨ cl x = 1 := by omega
  rcases h4 with g | g <;> rw [g] at h1
  · exact Or.inl h1
  · exact Or.inr h1
theorem P128 {P n : Nat} (hn : n < 2 ^ P) (hP : P ≤ 7) : n < 128 := Nat.lt_of_lt_of_le hn (Nat.pow_le_pow_right (by decide) hP)
theorem wit_Sm {x is : Int32} {P p : Nat} (hx : Sm (2 ^ P) x) (hP : P ≤ 7) (hp : p < P) (hi : m_X4_in is.toInt64 (lN 0) (lN 1) = true) : Sm (2 ^ P) (m_X3_withBit x p is) := by
  obtain ⟨n, hn, rfl⟩ := hx
  have h7 : n < 128 := P128 hn hP
  have h2 : 2 ^ p < 2 ^ P := Nat.pow_lt_pow_right (by decide) hp
  have key : ∀ b : Bool, Sm (2 ^ P) (m_X3_withBit (nI n) p (wl_b b)) := fun b => by
    rw [with_val n h7 p (by omega) b]
    refine ⟨_, ?_, rfl⟩
    cases b
    · exact Nat.xor_lt_two_pow hn (Nat.lt_of_le_of_lt Nat.and_le_left hn)
    · exact Nat.or_lt_two_pow hn h2
  rcases in_01 hi with h | h
  · rw [h]; exact key false
  · rw [h]; exact key true
theorem turn_eq {now : Nat → Int32} {which p : Nat} {is : Int32} {U : Nat} (hU : U ≤ 8) (hw : which < 52) (h3 : which ≠ 3) : m_X4_turn now which p is U = (m_X3_bitOf (now which) p, upd (m_X4_keep now U) which (m_X3_withBit (now which) p is)) := by
  have e := keep_at hU now hw h3
  unfold m_X4_turn m_X3_bitOf m_X3_withBit wl_bnd
  by_cases h : is = nI 1
  · simp only [if_pos h, e]
  · simp only [if_neg h, e]
theorem RT.put {T : Tn} {now now' : Nat → Int32} (h : RT T now) {te : Nat → Int32} {l f s d : Int32} (e : ∀ i, (i < 11 ∨ 22 ≤ i) → now' i = now i) (et : ∀ p, p < T.people → now' (11 + p) = te p ∧ Sm 100 (te p)) (el : now' 18 = l ∧ Sm (2 ^ T.people) l) (ef : now' 19 = f ∧ Sm (2 ^ T.people) f) (es : now' 20 = s) (ed : now' 21 = d) : RT (Tn.mk T.counts T.people d l f s T.noted T.undoable T.kinds te T.notes T.past) now' := by
  have hp := h.hp
  refine ⟨h.hp, h.hn, h.hu, (e 0 (by decide)).trans h.e0, (e 1 (by decide)).trans h.e1, (e 2 (by decide)).trans h.e2, (e 3 (by decide)).trans h.e3, fun p hp2 => ?_, et, el, ef, es, ed, fun i hi => (e (22 + i) (by omega)).trans (h.en i hi), h.em, fun j hj => (h.ep j hj).same hp (fun _ _ => rfl) (fun q hq => e _ (by omega)), h.ec⟩
  have hp3 : p < T.people := hp2
  show now' (4 + p) = T.kinds p ∧ _
  rw [e (4 + p) (by omega)]
  exact h.ek p hp3
theorem sim_list {s : SX} {r : SM} (h : RR s r) (p : Int32) (is : Int32) : (aX_list s p is).1 = (aM_list s r p is).1 ∧ RR (uX_list s (aX_list s p is)) (uM_list r (aM_list s r p is)) := by
  unfold aX_list aM_list m_X3_list m_X4_list wl_bnd
  have t := h.rt
  have hp7 := t.hp
  rw [isThere_isOne hp7, win (by decide) (by decide)]
  by_cases h1 : m_X4_isOne p s.T0.people = true
  · simp only [if_pos h1]
    by_cases h2 : m_X4_in is.toInt64 (lN 0) (lN 1) = true
    · simp only [if_pos h2]
      obtain ⟨g1, g2⟩ := isOne_spec hp7 h1
      rw [turn_eq t.hu (by decide) (by decide)]
      have k := t.keep
      generalize m_X4_keep r.mnow s.T0.undoable = w at k ⊢
      have hl := t.el
      have e18 : r.mnow 18 = s.T0.listed := hl.1
      rw [e18]
      refine ⟨rfl, ?_, h.rk, h.r2, h.r3, h.fa, h.fb, h.f0, h.f1, h.f2, h.xl, h.xm, h.xb⟩
      have u0 : upd w 18 (m_X3_withBit s.T0.listed (cl p) is) 18 = m_X3_withBit s.T0.listed (cl p) is := pk_us
      have u : ∀ i, i ≠ 18 → upd w 18 (m_X3_withBit s.T0.listed (cl p) is) i = w i := fun i hi => pk_un hi
      refine k.put (fun i hi => u i (by omega)) (fun q hq => ?_) ⟨u0, wit_Sm hl.2 hp7 g2 h2⟩ ⟨(u 19 (by decide)).trans k.ef.1, k.ef.2⟩ ((u 20 (by decide)).trans k.es) ((u 21 (by decide)).trans k.ed)
      have hq2 : q < s.T0.people := hq
      exact ⟨(u (11 + q) (by omega)).trans (k.et q hq).1, (k.et q hq).2⟩
    · simp only [if_neg h2]
      exact ⟨rfl, h.bad⟩
  · simp only [if_neg h1]
    exact ⟨rfl, h.bad⟩
theorem sim_follow {s : SX} {r : SM} (h : RR s r) (p : Int32) (is : Int32) : (aX_follow s p is).1 = (aM_follow s r p is).1 ∧ RR (uX_follow s (aX_follow s p is)) (uM_follow r (aM_follow s r p is)) := by
  unfold aX_follow aM_follow m_X3_follow m_X4_follow wl_bnd
  have t := h.rt
  have hp7 := t.hp
  rw [isThere_isOne hp7, win (by decide) (by decide)]
  by_cases h1 : m_X4_isOne p s.T0.people = true
  · simp only [if_pos h1]
    by_cases h2 : m_X4_in is.toInt64 (lN 0) (lN 1) = true
    · simp only [if_pos h2]
      obtain ⟨g1, g2⟩ := isOne_spec hp7 h1
      rw [turn_eq t.hu (by decide) (by decide)]
      have k := t.keep
      generalize m_X4_keep r.mnow s.T0.undoable = w at k ⊢
      have hl := t.ef
      have e18 : r.mnow 19 = s.T0.followed := hl.1
      rw [e18]
      refine ⟨rfl, ?_, h.rk, h.r2, h.r3, h.fa, h.fb, h.f0, h.f1, h.f2, h.xl, h.xm, h.xb⟩
      have u0 : upd w 19 (m_X3_withBit s.T0.followed (cl p) is) 19 = m_X3_withBit s.T0.followed (cl p) is := pk_us
      have u : ∀ i, i ≠ 19 → upd w 19 (m_X3_withBit s.T0.followed (cl p) is) i = w i := fun i hi => pk_un hi
      refine k.put (fun i hi => u i (by omega)) (fun q hq => ?_) ⟨(u 18 (by decide)).trans k.el.1, k.el.2⟩ ⟨u0, wit_Sm hl.2 hp7 g2 h2⟩ ((u 20 (by decide)).trans k.es) ((u 21 (by decide)).trans k.ed)
      have hq2 : q < s.T0.people := hq
      exact ⟨(u (11 + q) (by omega)).trans (k.et q hq).1, (k.et q hq).2⟩
    · simp only [if_neg h2]
      exact ⟨rfl, h.bad⟩
  · simp only [if_neg h1]
    exact ⟨rfl, h.bad⟩
theorem sim_undo {s : SX} {r : SM} (h : RR s r) : (aX_undo s).1 = (aM_undo s r).1 ∧ RR (uX_undo s (aX_undo s)) (uM_undo r (aM_undo s r)) := by
  unfold aX_undo aM_undo m_X3_undo m_X4_undo m_X1_takePast wl_bnd
  have t := h.rt
  have hp7 := t.hp
  have hu := t.hu
  by_cases h1 : s.T0.undoable = 0
  · simp only [if_pos h1, if_neg (show ¬ 0 < s.T0.undoable by omega)]
    exact ⟨rfl, h.no⟩
  · have h2 : 0 < s.T0.undoable := by omega
    simp only [if_neg h1, if_pos h2]
    generalize hw : wl_iter (m_X4_undo_l26 s.T0.undoable) 11 0 (upd r.mnow 3 (nI (s.T0.undoable - 1))) = w
    have ew : ∀ i, w i = if 11 ≤ i ∧ i < 22 then r.mnow (52 + 11 * (s.T0.undoable - 1) + (i - 11)) else upd r.mnow 3 (nI (s.T0.undoable - 1)) i := fun i => by
      rw [← hw, show wl_iter (m_X4_undo_l26 s.T0.undoable) 11 0 (upd r.mnow 3 (nI (s.T0.undoable - 1))) = wl_iter (fun k v => upd v (11 + k) (v ((52 + 11 * (s.T0.undoable - 1)) + k))) 11 0 (upd r.mnow 3 (nI (s.T0.undoable - 1))) from rfl, mv_at (by omega)]
      by_cases h5 : 11 ≤ i ∧ i < 22
      · rw [if_pos h5, if_pos h5, pk_un (by omega)]
      · rw [if_neg h5, if_neg h5]
    have ep := t.ep (s.T0.undoable - 1) (by omega)
    have e11 : ∀ q, q < 11 → w (11 + q) = r.mnow (52 + 11 * (s.T0.undoable - 1) + q) := fun q hq => by
      rw [ew, if_pos (by omega)]
      exact congrArg r.mnow (by omega)
    have eo : ∀ i, (i < 11 ∨ 22 ≤ i) → i ≠ 3 → w i = r.mnow i := fun i hi h3 => by
      rw [ew, if_neg (by omega), pk_un h3]
    have i7 : (s.T0.undoable - 1) * 11 + 7 + 1 = (s.T0.undoable - 1) * 11 + 8 := by omega
    have i8 : (s.T0.undoable - 1) * 11 + 7 + 2 = (s.T0.undoable - 1) * 11 + 9 := by omega
    have i9 : (s.T0.undoable - 1) * 11 + 7 + 3 = (s.T0.undoable - 1) * 11 + 10 := by omega
    rw [i7, i8, i9]
    have e21 : w 21 = s.T0.past ((s.T0.undoable - 1) * 11 + 10) := (e11 10 (by decide)).trans ep.d
    refine ⟨e21.symm, ?_, h.rk, h.r2, h.r3, h.fa, h.fb, h.f0, h.f1, h.f2, h.xl, h.xm, h.xb⟩
    have hu1 : s.T0.undoable - 1 ≤ 8 := by omega
    refine ⟨hp7, t.hn, hu1, (eo 0 (by decide) (by decide)).trans t.e0, (eo 1 (by decide) (by decide)).trans t.e1, (eo 2 (by decide) (by decide)).trans t.e2, ?_, fun p hp2 => ?_, fun p hp2 => ?_, ⟨(e11 7 (by decide)).trans ep.l.1, ep.l.2⟩, ⟨(e11 8 (by decide)).trans ep.f.1, ep.f.2⟩, (e11 9 (by decide)).trans ep.s, e21, fun i hi => (eo (22 + i) (by omega) (by omega)).trans (t.en i hi), t.em, fun j hj => ?_, t.ec⟩
    · show w 3 = nI (s.T0.undoable - 1)
      rw [ew, if_neg (by decide), pk_us]
    · have hp3 : p < s.T0.people := hp2
      show w (4 + p) = s.T0.kinds p ∧ _
      rw [eo (4 + p) (by omega) (by omega)]
      exact t.ek p hp3
    · have hp3 : p < s.T0.people := hp2
      have g := ep.t p hp3
      have e : va_cpy s.T0.past s.T0.tempers ((s.T0.undoable - 1) * 11) 0 7 p = s.T0.past ((s.T0.undoable - 1) * 11 + p) := by
        unfold va_cpy
        rw [if_pos (by omega)]
        exact congrArg s.T0.past (by omega)
      show w (11 + p) = va_cpy s.T0.past s.T0.tempers ((s.T0.undoable - 1) * 11) 0 7 p ∧ Sm 100 (va_cpy s.T0.past s.T0.tempers ((s.T0.undoable - 1) * 11) 0 7 p)
      rw [e, e11 p (by omega)]
      exact g
    · have hj3 : j < s.T0.undoable - 1 := hj
      exact (t.ep j (by omega)).same hp7 (fun _ _ => rfl) (fun q hq => eo _ (by omega) (by omega))
