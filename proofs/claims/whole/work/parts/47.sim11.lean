/-! SIMULATION 11: roster, count, digest, note, image, from -/
theorem bits_Sm {x : Int32} (h : Sm 128 x) : m_X4_bits x = m_J6_bitCount_0f7a4 x := by
  obtain ⟨n, hn, rfl⟩ := h
  exact bits_eq n (by omega)
theorem sim_roster {s : SX} {r : SM} (h : RR s r) (n : Int32) (d : Int32) : (aX_roster s n d).1 = (aM_roster s r n d).1 ∧ RR (uX_roster s (aX_roster s n d)) (uM_roster r (aM_roster s r n d)) := by
  unfold aX_roster aM_roster m_X3_roster m_X4_roster wl_bnd
  have t := h.rt
  rw [win (by decide) (by decide), win (by decide) (by decide)]
  by_cases h1 : m_X4_in n.toInt64 (lN 1) (lN 9) = true
  · simp only [if_pos h1]
    by_cases h2 : m_X4_in d.toInt64 (lN 0) (lN 9) = true
    · simp only [if_pos h2]
      by_cases h3 : cl d ≤ cl n
      · simp only [if_pos h3]
        rw [show r.mnow 18 = s.T0.listed from t.el.1, bits_Sm (t.el.2.upP t.hp)]
        exact ⟨rfl, h⟩
      · simp only [if_neg h3]
        exact ⟨by trivial, h⟩
    · simp only [if_neg h2]
      exact ⟨rfl, h.bad⟩
  · simp only [if_neg h1]
    exact ⟨rfl, h.bad⟩
theorem many_eq {s : SX} {r : SM} (h : RR s r) (what : Int32) : m_X3_howMany s.T0.people s.T0.day s.T0.listed s.T0.followed s.T0.struck s.T0.noted s.T0.undoable s.xlength what = m_X4_counted r.mbytesLong r.mnow what s.T0.people := by
  have t := h.rt
  unfold m_X3_howMany m_X4_counted
  dsimp only [wl_bnd]
  rw [show r.mnow 18 = s.T0.listed from t.el.1, show r.mnow 19 = s.T0.followed from t.ef.1, bits_Sm (t.el.2.upP t.hp), bits_Sm (t.ef.2.upP t.hp), show r.mnow 21 = s.T0.day from t.ed, show r.mnow 20 = s.T0.struck from t.es, t.e2, t.e3, h.xl]
theorem sim_count {s : SX} {r : SM} (h : RR s r) (what : Int32) : (aX_count s what).1 = (aM_count s r what).1 ∧ RR (uX_count s (aX_count s what)) (uM_count r (aM_count s r what)) := by
  unfold aX_count aM_count m_X3_count m_X4_count wl_bnd
  rw [win (by decide) (by decide)]
  by_cases h1 : m_X4_in what.toInt64 (lN 0) (lN 7) = true
  · simp only [if_pos h1]
    exact ⟨many_eq h what, h⟩
  · simp only [if_neg h1]
    exact ⟨rfl, h.bad⟩
theorem sim_digest {s : SX} {r : SM} (h : RR s r) : (aX_digest s) = (aM_digest s r) ∧ RR (uX_digest s (aX_digest s)) (uM_digest r (aM_digest s r)) := by
  refine ⟨?_, h⟩
  have t := h.rt
  unfold aX_digest aM_digest m_X3_digest m_X4_digest m_X4_sums
  dsimp only [wl_bnd]
  have a1 := iter2 (m_X3_digest_l6 s.T0.people s.T0.day s.T0.listed s.T0.followed s.T0.struck s.T0.noted s.T0.undoable s.xlength) (m_X4_digest_l6 r.mbytesLong r.mnow s.T0.people) (fun _ v w => v = w) 8 0 (lN 1213) (lN 1213) rfl (fun j v w _ _ hv => by
    unfold m_X3_digest_l6 m_X4_digest_l6
    dsimp only [wl_bnd]
    rw [many_eq h, hv])
  rw [a1, show r.mnow 1 = s.T0.counts from t.e1]
  generalize wl_iter (m_X4_digest_l6 r.mbytesLong r.mnow s.T0.people) 8 0 (lN 1213) = z
  have a2 := iter2 (m_X3_digest_l48 s.T0.listed s.T0.followed s.T0.kinds s.T0.tempers) (m_X4_digest_l47 r.mnow) (fun _ v w => v = w) s.T0.people 0 (lN 31 * z + s.T0.counts.toInt64) (lN 31 * z + s.T0.counts.toInt64) rfl (fun j v w _ hj hv => by
    have hj2 : j < s.T0.people := by omega
    unfold m_X3_digest_l48 m_X4_digest_l47 m_X3_bitOf
    dsimp only [wl_bnd]
    rw [(t.ek j hj2).1, (t.et j hj2).1, show r.mnow 18 = s.T0.listed from t.el.1, show r.mnow 19 = s.T0.followed from t.ef.1, hv])
  rw [a2]
  generalize wl_iter (m_X4_digest_l47 r.mnow) s.T0.people 0 (lN 31 * z + s.T0.counts.toInt64) = y
  have a3 := iter2 (m_X3_digest_l139 s.T0.notes) (m_X4_sums_l6 r.mnow 22) (fun _ v w => v = w) (s.T0.noted * 5) 0 y y rfl (fun j v w _ hj hv => by
    unfold m_X3_digest_l139 m_X4_sums_l6
    rw [t.en j (by omega), hv])
  rw [a3, Nat.mul_comm s.T0.noted 5, h.fa, h.fb]
theorem sim_note {s : SX} {r : SM} (h : RR s r) (p : Int32) (d : Int32) (followed : Int32) (t : Int32) (act : Int32) : (aX_note s p d followed t act).1 = (aM_note s r p d followed t act).1 ∧ RR (uX_note s (aX_note s p d followed t act)) (uM_note r (aM_note s r p d followed t act)) := by
  unfold aX_note aM_note m_X3_note m_X4_note m_X1_addNote wl_bnd
  have q := h.rt
  have hp7 := q.hp
  have hn6 := q.hn
  rw [isThere_isOne hp7, win (by decide) (by decide), win (by decide) (by decide), win (by decide) (by decide), win (by decide) (by decide)]
  by_cases h1 : m_X4_isOne p s.T0.people = true
  · simp only [if_pos h1]
    by_cases h2 : m_X4_in d.toInt64 (lN 0) (lN 99) = true
    · simp only [if_pos h2]
      by_cases h3 : m_X4_in followed.toInt64 (lN 0) (lN 1) = true
      · simp only [if_pos h3]
        by_cases h4 : m_X4_in t.toInt64 (lN 0) (lN 99) = true
        · simp only [if_pos h4]
          by_cases h5 : m_X4_in act.toInt64 (lN 0) (lN 5) = true
          · simp only [if_pos h5]
            by_cases h6 : s.T0.noted < 6
            · simp only [if_pos h6, if_neg (show ¬ s.T0.noted = 6 by omega)]
              have hN : s.T0.noted < 6 := h6
              generalize hw : upd (upd (upd (upd (upd r.mnow (22 + 5 * s.T0.noted) p) (22 + 5 * s.T0.noted + 1) d) (22 + 5 * s.T0.noted + 2) followed) (22 + 5 * s.T0.noted + 3) t) (22 + 5 * s.T0.noted + 4) act = w
              have w2 : w 2 = nI s.T0.noted := by
                rw [← hw, pk_un (by omega), pk_un (by omega), pk_un (by omega), pk_un (by omega), pk_un (by omega)]
                exact q.e2
              have eo : ∀ i, (i < 22 + 5 * s.T0.noted ∨ 22 + 5 * s.T0.noted + 4 < i) → i ≠ 2 → upd w 2 (w 2 + nI 1) i = r.mnow i := fun i hi h2 => by
                rw [pk_un h2, ← hw, pk_un (by omega), pk_un (by omega), pk_un (by omega), pk_un (by omega), pk_un (by omega)]
              have e22 : upd w 2 (w 2 + nI 1) 2 = nI (s.T0.noted + 1) := by rw [pk_us, w2, nI_add]
              generalize hx : upd (upd (upd (upd (upd s.T0.notes (s.T0.noted * 5) p) (s.T0.noted * 5 + 1) d) (s.T0.noted * 5 + 2) followed) (s.T0.noted * 5 + 3) t) (s.T0.noted * 5 + 4) act = x
              have xo : ∀ i, i < 5 * s.T0.noted → x i = s.T0.notes i := fun i hi => by
                rw [← hx, pk_un (by omega), pk_un (by omega), pk_un (by omega), pk_un (by omega), pk_un (by omega)]
              have x3 : x (s.T0.noted * 5 + 3) = t := by
                rw [← hx, pk_un (by omega), pk_us]
              have xn : ∀ i, 5 * s.T0.noted ≤ i → i < 5 * s.T0.noted + 5 → upd w 2 (w 2 + nI 1) (22 + i) = x i := fun i h1 h2 => by
                rw [pk_un (by omega), ← hw, ← hx]
                have hc : i = 5 * s.T0.noted ∨ i = 5 * s.T0.noted + 1 ∨ i = 5 * s.T0.noted + 2 ∨ i = 5 * s.T0.noted + 3 ∨ i = 5 * s.T0.noted + 4 := by omega
                rw [show s.T0.noted * 5 = 5 * s.T0.noted from Nat.mul_comm _ _]
                rcases hc with g | g | g | g | g
                · rw [g, pk_un (by omega), pk_un (by omega), pk_un (by omega), pk_un (by omega), pk_us, pk_un (by omega), pk_un (by omega), pk_un (by omega), pk_un (by omega), pk_us]
                · rw [g, show 22 + (5 * s.T0.noted + 1) = 22 + 5 * s.T0.noted + 1 by omega, pk_un (by omega), pk_un (by omega), pk_un (by omega), pk_us, pk_un (by omega), pk_un (by omega), pk_un (by omega), pk_us]
                · rw [g, show 22 + (5 * s.T0.noted + 2) = 22 + 5 * s.T0.noted + 2 by omega, pk_un (by omega), pk_un (by omega), pk_us, pk_un (by omega), pk_un (by omega), pk_us]
                · rw [g, show 22 + (5 * s.T0.noted + 3) = 22 + 5 * s.T0.noted + 3 by omega, pk_un (by omega), pk_us, pk_un (by omega), pk_us]
                · rw [g, show 22 + (5 * s.T0.noted + 4) = 22 + 5 * s.T0.noted + 4 by omega, pk_us, pk_us]
              have hN1 : s.T0.noted + 1 ≤ 6 := h6
              refine ⟨?_, ⟨hp7, hN1, q.hu, (eo 0 (by omega) (by decide)).trans q.e0, (eo 1 (by omega) (by decide)).trans q.e1, e22, (eo 3 (by omega) (by decide)).trans q.e3, fun p hp => ?_, fun p hp => ?_, ⟨(eo 18 (by omega) (by decide)).trans q.el.1, q.el.2⟩, ⟨(eo 19 (by omega) (by decide)).trans q.ef.1, q.ef.2⟩, (eo 20 (by omega) (by decide)).trans q.es, (eo 21 (by omega) (by decide)).trans q.ed, fun i hi => ?_, fun j hj => ?_, fun j hj => ?_, q.ec⟩, h.rk, h.r2, h.r3, h.fa, h.fb, h.f0, h.f1, h.f2, h.xl, h.xm, h.xb⟩
              · show nI (s.T0.noted + 1) = w 2 + nI 1
                rw [w2, nI_add]
              · have hp3 : p < s.T0.people := hp
                show upd w 2 (w 2 + nI 1) (4 + p) = s.T0.kinds p ∧ _
                rw [eo (4 + p) (by omega) (by omega)]
                exact q.ek p hp3
              · have hp3 : p < s.T0.people := hp
                show upd w 2 (w 2 + nI 1) (11 + p) = s.T0.tempers p ∧ _
                rw [eo (11 + p) (by omega) (by omega)]
                exact q.et p hp3
              · have hi2 : i < 5 * (s.T0.noted + 1) := hi
                show upd w 2 (w 2 + nI 1) (22 + i) = x i
                by_cases hi3 : i < 5 * s.T0.noted
                · rw [eo (22 + i) (by omega) (by omega), xo i hi3]
                  exact q.en i hi3
                · exact xn i (by omega) (by omega)
              · have hj2 : j < s.T0.noted + 1 := hj
                show Sm 100 (x (j * 5 + 3))
                by_cases hj3 : j < s.T0.noted
                · rw [xo _ (by omega)]
                  exact q.em j hj3
                · rw [show j = s.T0.noted by omega, x3]
                  exact in_Sm (by decide) h4
              · have hj2 : j < s.T0.undoable := hj
                exact (q.ep j hj2).same hp7 (fun _ _ => rfl) (fun i hi => eo _ (by omega) (by omega))
            · simp only [if_neg h6, if_pos (show s.T0.noted = 6 by omega)]
              exact ⟨rfl, h.full⟩
          · simp only [if_neg h5]
            exact ⟨rfl, h.bad⟩
        · simp only [if_neg h4]
          exact ⟨rfl, h.bad⟩
      · simp only [if_neg h3]
        exact ⟨rfl, h.bad⟩
    · simp only [if_neg h2]
      exact ⟨rfl, h.bad⟩
  · simp only [if_neg h1]
    exact ⟨rfl, h.bad⟩
/-- a copy of the town -/
theorem RT.copy {T : Tn} {now now' : Nat → Int32} (h : RT T now) (e : ∀ i, i < 140 → now' i = now i) {ki te no pa : Nat → Int32} (eK : ∀ i, i < 7 → ki i = T.kinds i) (eT : ∀ i, i < 7 → te i = T.tempers i) (eN : ∀ i, i < 30 → no i = T.notes i) (eP : ∀ i, i < 88 → pa i = T.past i) : RT (Tn.mk T.counts T.people T.day T.listed T.followed T.struck T.noted T.undoable ki te no pa) now' := by
  have hp := h.hp
  have hn := h.hn
  have hu := h.hu
  refine ⟨hp, hn, hu, (e 0 (by decide)).trans h.e0, (e 1 (by decide)).trans h.e1, (e 2 (by decide)).trans h.e2, (e 3 (by decide)).trans h.e3, fun p hp2 => ?_, fun p hp2 => ?_, ⟨(e 18 (by decide)).trans h.el.1, h.el.2⟩, ⟨(e 19 (by decide)).trans h.ef.1, h.ef.2⟩, (e 20 (by decide)).trans h.es, (e 21 (by decide)).trans h.ed, fun i hi => ?_, fun j hj => ?_, fun j hj => ?_, h.ec⟩
  · have hp3 : p < T.people := hp2
    show now' (4 + p) = ki p ∧ Sm 6 (ki p)
    rw [eK p (by omega), e (4 + p) (by omega)]
    exact h.ek p hp3
  · have hp3 : p < T.people := hp2
    show now' (11 + p) = te p ∧ Sm 100 (te p)
    rw [eT p (by omega), e (11 + p) (by omega)]
    exact h.et p hp3
  · have hi2 : i < 5 * T.noted := hi
    show now' (22 + i) = no i
    rw [eN i (by omega), e (22 + i) (by omega)]
    exact h.en i hi2
  · have hj2 : j < T.noted := hj
    show Sm 100 (no (j * 5 + 3))
    rw [eN _ (by omega)]
    exact h.em j hj2
  · have hj2 : j < T.undoable := hj
    exact (h.ep j hj2).same hp (fun q hq => eP _ (by omega)) (fun q hq => e _ (by omega))
theorem cpy0 (f g : Nat → Int32) (n i : Nat) (h : i < n) : va_cpy f g 0 0 n i = f i := by
  unfold va_cpy
  rw [if_pos (by omega)]
  exact congrArg f (by omega)
theorem img_at (now mk : Nat → Int32) (i : Int32) (k : Nat) : wl_iter (m_X4_image_l19 now i) 140 0 mk k = if 140 * cl i ≤ k ∧ k < 140 * cl i + 140 then now (k - 140 * cl i) else mk k := by
  have g := iter_inv (m_X4_image_l19 now i) (fun n w => ∀ k, w k = if 140 * cl i ≤ k ∧ k < 140 * cl i + n then now (k - 140 * cl i) else mk k) 140 0 mk (fun k => by rw [if_neg (by omega)]) (fun j w h1 h2 hI k => by
    show upd w (140 * cl i + j) (now j) k = _
    by_cases hk : k = 140 * cl i + j
    · rw [hk, pk_us, if_pos (by omega)]
      exact congrArg now (by omega)
    · rw [pk_un hk, hI]
      by_cases h3 : 140 * cl i ≤ k ∧ k < 140 * cl i + j
      · rw [if_pos h3, if_pos (by omega)]
      · rw [if_neg h3, if_neg (by omega)])
  exact g k
theorem from_at (mk now : Nat → Int32) (i : Int32) (k : Nat) : wl_iter (m_X4_from_l33 mk i) 140 0 now k = if k < 140 then mk (140 * cl i + k) else now k := by
  have g := iter_inv (m_X4_from_l33 mk i) (fun n w => ∀ k, w k = if k < n then mk (140 * cl i + k) else now k) 140 0 now (fun k => by rw [if_neg (Nat.not_lt_zero _)]) (fun j w h1 h2 hI k => by
    show upd w j (mk (140 * cl i + j)) k = _
    by_cases hk : k = j
    · rw [hk, pk_us, if_pos (by omega)]
    · rw [pk_un hk, hI]
      by_cases h3 : k < j
      · rw [if_pos h3, if_pos (by omega)]
      · rw [if_neg h3, if_neg (by omega)])
  exact g k
theorem sim_image {s : SX} {r : SM} (h : RR s r) (i : Int32) : (aX_image s i).1 = (aM_image s r i).1 ∧ RR (uX_image s (aX_image s i)) (uM_image r (aM_image s r i)) := by
  unfold aX_image aM_image m_X3_image m_X4_image m_X1_copyFrom wl_bnd
  have t := h.rt
  rw [win (by decide) (by decide)]
  by_cases h1 : m_X4_in i.toInt64 (lN 0) (lN 1) = true
  · simp only [if_pos h1]
    obtain ⟨g1, g2, g3⟩ := in_spec (by decide) (by decide) h1
    have im := img_at r.mnow r.mkept i
    generalize wl_iter (m_X4_image_l19 r.mnow i) 140 0 r.mkept = w at im ⊢
    have hk := h.rk
    have hc : cl i = 0 ∨ cl i = 1 := by omega
    rcases hc with c | c
    · have R := t.copy (now' := fun k => w k) (fun k hk => by
        show w k = r.mnow k
        rw [im, c, if_pos (by omega)]
        exact congrArg r.mnow (by omega)) (fun k hk => cpy0 s.T0.kinds s.T2.kinds 7 k hk) (fun k hk => cpy0 s.T0.tempers s.T2.tempers 7 k hk) (fun k hk => cpy0 s.T0.notes s.T2.notes 30 k hk) (fun k hk => cpy0 s.T0.past s.T2.past 88 k hk)
      simp only [if_pos c]
      rw [c]
      refine ⟨by trivial, t, ⟨?_, ?_⟩, fun _ => R, fun hz => ?_, h.fa, h.fb, h.f0, h.f1, h.f2, h.xl, h.xm, h.xb⟩
      · show upd r.misKept 0 (wl_b true) 0 = upd s.keptz 0 (wl_b true) 0
        rw [pk_us, pk_us]
      · show upd r.misKept 0 (wl_b true) 1 = upd s.keptz 0 (wl_b true) 1
        rw [pk_un (by decide), pk_un (by decide)]
        exact hk.2
      · have hz2 : ¬ upd s.keptz 0 (wl_b true) 1 = 0 := hz
        rw [pk_un (by decide)] at hz2
        have e : (fun k => w (140 + k)) = (fun k => r.mkept (140 + k)) := funext (fun k => by rw [im, c, if_neg (by omega)])
        show RT s.T3 (fun k => w (140 + k))
        rw [e]
        exact h.r3 hz2
    · have R := t.copy (now' := fun k => w (140 + k)) (fun k hk => by
        show w (140 + k) = r.mnow k
        rw [im, c, if_pos (by omega)]
        exact congrArg r.mnow (by omega)) (fun k hk => cpy0 s.T0.kinds s.T3.kinds 7 k hk) (fun k hk => cpy0 s.T0.tempers s.T3.tempers 7 k hk) (fun k hk => cpy0 s.T0.notes s.T3.notes 30 k hk) (fun k hk => cpy0 s.T0.past s.T3.past 88 k hk)
      simp only [if_neg (show ¬ cl i = 0 by omega)]
      rw [c]
      refine ⟨by trivial, t, ⟨?_, ?_⟩, fun hz => ?_, fun _ => R, h.fa, h.fb, h.f0, h.f1, h.f2, h.xl, h.xm, h.xb⟩
      · show upd r.misKept 1 (wl_b true) 0 = upd s.keptz 1 (wl_b true) 0
        rw [pk_un (by decide), pk_un (by decide)]
        exact hk.1
      · show upd r.misKept 1 (wl_b true) 1 = upd s.keptz 1 (wl_b true) 1
        rw [pk_us, pk_us]
      · have hz2 : ¬ upd s.keptz 1 (wl_b true) 0 = 0 := hz
        rw [pk_un (by decide)] at hz2
        refine RT.copy (h.r2 hz2) (fun k hk => ?_) (fun _ _ => rfl) (fun _ _ => rfl) (fun _ _ => rfl) (fun _ _ => rfl)
        show w k = r.mkept k
        rw [im, c, if_neg (by omega)]
  · simp only [if_neg h1]
    exact ⟨rfl, h.bad⟩
theorem sim_from {s : SX} {r : SM} (h : RR s r) (i : Int32) : (aX_from s i).1 = (aM_from s r i).1 ∧ RR (uX_from s (aX_from s i)) (uM_from r (aM_from s r i)) := by
  unfold aX_from aM_from m_X3_from m_X4_from m_X1_copyFrom wl_bnd
  have t := h.rt
  rw [win (by decide) (by decide)]
  by_cases h1 : m_X4_in i.toInt64 (lN 0) (lN 1) = true
  · simp only [if_pos h1]
    obtain ⟨g1, g2, g3⟩ := in_spec (by decide) (by decide) h1
    have im := from_at r.mkept r.mnow i
    generalize wl_iter (m_X4_from_l33 r.mkept i) 140 0 r.mnow = w at im ⊢
    have hk := h.rk
    have hc : cl i = 0 ∨ cl i = 1 := by omega
    rcases hc with c | c
    · rw [c]
      rw [c] at im
      by_cases hz : s.keptz 0 = 0
      · simp only [if_pos hz, if_pos (hk.1.trans hz)]
        exact ⟨rfl, h.no⟩
      · simp only [if_neg hz, if_neg (fun g => hz (hk.1.symm.trans g)), if_pos (show (0 : Nat) = 0 from rfl)]
        have R := (h.r2 hz).copy (now' := w) (fun k hk => by
          rw [im, if_pos hk]
          exact congrArg r.mkept (by omega)) (fun k hk => cpy0 s.T2.kinds s.T0.kinds 7 k hk) (fun k hk => cpy0 s.T2.tempers s.T0.tempers 7 k hk) (fun k hk => cpy0 s.T2.notes s.T0.notes 30 k hk) (fun k hk => cpy0 s.T2.past s.T0.past 88 k hk)
        exact ⟨by trivial, R, h.rk, h.r2, h.r3, h.fa, h.fb, h.f0, h.f1, h.f2, h.xl, h.xm, h.xb⟩
    · rw [c]
      rw [c] at im
      by_cases hz : s.keptz 1 = 0
      · simp only [if_pos hz, if_pos (hk.2.trans hz)]
        exact ⟨rfl, h.no⟩
      · simp only [if_neg hz, if_neg (fun g => hz (hk.2.symm.trans g)), if_neg (show ¬ (1 : Nat) = 0 by decide)]
        have R := (h.r3 hz).copy (now' := w) (fun k hk => by
          rw [im, if_pos hk]) (fun k hk => cpy0 s.T3.kinds s.T0.kinds 7 k hk) (fun k hk => cpy0 s.T3.tempers s.T0.tempers 7 k hk) (fun k hk => cpy0 s.T3.notes s.T0.notes 30 k hk) (fun k hk => cpy0 s.T3.past s.T0.past 88 k hk)
        exact ⟨by trivial, R, h.rk, h.r2, h.r3, h.fa, h.fb, h.f0, h.f1, h.f2, h.xl, h.xm, h.xb⟩
  · simp only [if_neg h1]
    exact ⟨rfl, h.bad⟩
