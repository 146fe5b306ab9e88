/-! SIMULATION 7: of, then, when -/
theorem sim_of {s : SX} {r : SM} (h : RR s r) (p : Int32) (what : Int32) : (aX_of s p what).1 = (aM_of s r p what).1 ∧ RR (uX_of s (aX_of s p what)) (uM_of r (aM_of s r p what)) := by
  unfold aX_of aM_of m_X3_of m_X4_of m_X3_actToday wl_bnd
  have t := h.rt
  have hp7 := t.hp
  rw [isThere_isOne hp7, win (by decide) (by decide)]
  by_cases h1 : m_X4_isOne p s.T0.people = true
  · simp only [if_pos h1]
    by_cases h2 : m_X4_in what.toInt64 (lN 0) (lN 4) = true
    · simp only [if_pos h2]
      obtain ⟨g1, g2⟩ := isOne_spec hp7 h1
      have w := RW.start t g2 r.mtempers
      have ek := t.ek _ g2
      by_cases c0 : what = nI 0
      · simp only [if_pos c0]
        exact ⟨ek.1.symm, h⟩
      · simp only [if_neg c0]
        by_cases c1 : what = nI 1
        · simp only [if_pos c1]
          exact ⟨w.2.1.symm, h⟩
        · simp only [if_neg c1]
          by_cases c2 : what = nI 2
          · simp only [if_pos c2]
            refine ⟨?_, h⟩
            show m_X3_bitOf s.T0.listed (cl p) = m_X3_bitOf (r.mnow 18) (cl p)
            rw [show r.mnow 18 = s.T0.listed from t.el.1]
          · simp only [if_neg c2]
            by_cases c3 : what = nI 3
            · simp only [if_pos c3]
              refine ⟨?_, h⟩
              show m_X3_bitOf s.T0.followed (cl p) = m_X3_bitOf (r.mnow 19) (cl p)
              rw [show r.mnow 19 = s.T0.followed from t.ef.1]
            · simp only [if_neg c3]
              rw [startWalk_eq]
              exact ⟨(w.act (by omega) ek).symm, h⟩
    · simp only [if_neg h2]
      exact ⟨rfl, h.bad⟩
  · simp only [if_neg h1]
    exact ⟨rfl, h.bad⟩
theorem sim_then {s : SX} {r : SM} (h : RR s r) (p : Int32) (m : Int32) (what : Int32) : (aX_then s p m what).1 = (aM_then s r p m what).1 ∧ RR (uX_then s (aX_then s p m what)) (uM_then r (aM_then s r p m what)) := by
  unfold aX_then aM_then m_X3_then m_X4_then wl_bnd
  have t := h.rt
  have hp7 := t.hp
  rw [isThere_isOne hp7, win (by decide) (by decide), win (by decide) (by decide)]
  by_cases h1 : m_X4_isOne p s.T0.people = true
  · simp only [if_pos h1]
    by_cases h2 : m_X4_in m.toInt64 (lN 0) (lN 60) = true
    · simp only [if_pos h2]
      by_cases h3 : m_X4_in what.toInt64 (lN 0) (lN 1) = true
      · simp only [if_pos h3]
        obtain ⟨g1, g2⟩ := isOne_spec hp7 h1
        have w := RW.start t g2 r.mtempers
        have ek := t.ek _ g2
        rw [startWalk_eq]
        have it := iter2 (m_X3_then_l47 (s.T0.kinds (cl p), s.T0.tempers (cl p), s.T0.counts, s.T0.day, m_X4_has s.T0.listed (cl p), m_X4_has s.T0.followed (cl p))) (m_X4_then_l44 r.mnow s.T0.people) (fun _ v w => RW (cl p) v.1 v.2.1 v.2.2.1 v.2.2.2 w.1 w.2.1 w.2.2.1 w.2.2.2) (cl m) 0 (s.T0.tempers (cl p), s.T0.day, m_X4_has s.T0.listed (cl p), m_X4_has s.T0.followed (cl p)) _ w (fun j v w _ _ hw => (hw.step g2 hp7 ek t.e1).1)
        by_cases c0 : what = 0
        · simp only [if_pos c0]
          exact ⟨(it.act (by omega) ek).symm, h⟩
        · simp only [if_neg c0]
          exact ⟨it.2.1.symm, h⟩
      · simp only [if_neg h3]
        exact ⟨rfl, h.bad⟩
    · simp only [if_neg h2]
      exact ⟨rfl, h.bad⟩
  · simp only [if_neg h1]
    exact ⟨rfl, h.bad⟩
theorem when_2 {T : Tn} {now : Nat → Int32} (t : RT T now) {q : Int32} (hp : cl q < T.people) (rb : Int32) (ref te : Nat → Int32) :
    (wl_run (m_X3_when_l27 rb (T.kinds (cl q), T.tempers (cl q), T.counts, T.day, m_X4_has T.listed (cl q), m_X4_has T.followed (cl q))) default 61 (T.tempers (cl q), T.day, m_X4_has T.listed (cl q), m_X4_has T.followed (cl q), 1)).1 = (wl_run (m_X4_when_l21 now ref q T.people) default 61 ((m_X4_layHand now te T.people).1, (m_X4_layHand now te T.people).2.1, (m_X4_layHand now te T.people).2.2.1, (m_X4_layHand now te T.people).2.2.2, 1)).1 ∧
    (wl_run (m_X3_when_l27 rb (T.kinds (cl q), T.tempers (cl q), T.counts, T.day, m_X4_has T.listed (cl q), m_X4_has T.followed (cl q))) default 61 (T.tempers (cl q), T.day, m_X4_has T.listed (cl q), m_X4_has T.followed (cl q), 1)).2.1 = rb ∧ (wl_run (m_X4_when_l21 now ref q T.people) default 61 ((m_X4_layHand now te T.people).1, (m_X4_layHand now te T.people).2.1, (m_X4_layHand now te T.people).2.2.1, (m_X4_layHand now te T.people).2.2.2, 1)).2.2.2.2.1 = ref := by
  refine run2 _ _ _ _ (fun (v : Int32 × Int32 × Bool × Bool × Nat) (w : Int32 × Int32 × Int32 × (Nat → Int32) × Nat) => RW (cl q) v.1 v.2.1 v.2.2.1 v.2.2.2.1 w.1 w.2.1 w.2.2.1 w.2.2.2.1 ∧ v.2.2.2.2 = w.2.2.2.2) (fun v => 61 - v.2.2.2.2) (fun (z : Int32 × Int32 × Int32 × Int32 × Int32 × Int32 × Bool × Bool) (y : Int32 × Int32 × Int32 × Int32 × (Nat → Int32) × (Nat → Int32)) => z.1 = y.1 ∧ z.2.1 = rb ∧ y.2.2.2.2.1 = ref) (fun v w hvw => ?_) 61 61 _ _ (show 61 - 1 < 61 by decide) (show 61 - 1 < 61 by decide) ⟨RW.start t hp te, rfl⟩
  obtain ⟨h1, h2⟩ := hvw
  by_cases hc : 60 < v.2.2.2.2
  · exact Or.inr ⟨_, _, if_pos hc, if_pos (by rw [← h2]; exact hc), rfl, rfl, rfl⟩
  · have st := h1.step hp t.hp (t.ek (cl q) hp) t.e1
    have hc2 : ¬ 60 < w.2.2.2.2 := by rw [← h2]; exact hc
    by_cases hz : (m_X2_goBy (T.kinds (cl q)) v.1 T.counts v.2.1 v.2.2.1 v.2.2.2.1).1 = true
    · refine Or.inr ⟨_, _, (if_neg hc).trans (if_pos hz), (if_neg hc2).trans (if_pos (st.2.trans hz)), ?_, rfl, rfl⟩
      show nI v.2.2.2.2 = nI w.2.2.2.2
      rw [h2]
    · refine Or.inl ⟨_, _, (if_neg hc).trans (if_neg hz), (if_neg hc2).trans (if_neg (fun g => hz (st.2.symm.trans g))), ⟨st.1, congrArg (· + 1) h2⟩, ?_⟩
      show 61 - (v.2.2.2.2 + 1) < 61 - v.2.2.2.2
      omega
theorem sim_when {s : SX} {r : SM} (h : RR s r) (p : Int32) : (aX_when s p).1 = (aM_when s r p).1 ∧ RR (uX_when s (aX_when s p)) (uM_when r (aM_when s r p)) := by
  unfold aX_when aM_when m_X3_when m_X4_when wl_bnd
  have t := h.rt
  have hp7 := t.hp
  rw [isThere_isOne hp7]
  by_cases h1 : m_X4_isOne p s.T0.people = true
  · simp only [if_pos h1]
    obtain ⟨g1, g2⟩ := isOne_spec hp7 h1
    rw [startWalk_eq]
    obtain ⟨b1, b2, b3⟩ := when_2 t g2 s.rbad r.mrefused r.mtempers
    exact ⟨b1, h.rt, h.rk, h.r2, h.r3, h.fa, h.fb, (congrFun b3 0).trans (h.f0.trans b2.symm), (congrFun b3 1).trans h.f1, (congrFun b3 2).trans h.f2, h.xl, h.xm, h.xb⟩
  · simp only [if_neg h1]
    exact ⟨rfl, h.bad⟩
