/-! SIMULATION 10: day, years -/
theorem goBy_town {P n m : Nat} (hP : P ≤ 7) (c d L F st : Int32) (kinds tempers : Nat → Int32) (wk wt wc wd : Int32) (wl wf : Bool) :
    (m_X1_goBy c P d L F st kinds tempers wk wt wc wd wl wf).1 = nI (sb (fun k => (m_X2_goBy (kinds k) (tempers k) c d (m_X4_has L k) (m_X4_has F k)).1) P) ∧ (∀ i, i < P → (m_X1_goBy c P d L F st kinds tempers wk wt wc wd wl wf).2.2.2.2.2.1 i = (m_X2_goBy (kinds i) (tempers i) c d (m_X4_has L i) (m_X4_has F i)).2.1) := by
  have g := iter_inv (m_X1_goBy_l4 c d L F kinds) (fun k v => k ≤ P → v.2.2.2.2.2.2.2 = nI (sb (fun k => (m_X2_goBy (kinds k) (tempers k) c d (m_X4_has L k) (m_X4_has F k)).1) k) ∧ (∀ i, v.1 i = if i < k then (m_X2_goBy (kinds i) (tempers i) c d (m_X4_has L i) (m_X4_has F i)).2.1 else tempers i)) P 0 (tempers, wk, wt, wc, wd, wl, wf, nI 0) (fun _ => ⟨rfl, fun i => by rw [if_neg (Nat.not_lt_zero _)]⟩) (fun j v h1 h2 hI hj => by
    obtain ⟨i1, i2⟩ := hI (by omega)
    have ej : v.1 j = tempers j := by rw [i2, if_neg (by omega)]
    unfold m_X1_goBy_l4
    dsimp only [wl_bnd]
    rw [startWalk_eq, ej]
    refine ⟨?_, fun i => ?_⟩
    · show m_X3_withBit v.2.2.2.2.2.2.2 j (wl_b (if (m_X2_goBy (kinds j) (tempers j) c d (m_X4_has L j) (m_X4_has F j)).1 = true then true else false)) = _
      rw [tf_id, i1, with_bit j (by omega) _ (sb_lt _ j)]
      rfl
    · show upd v.1 j (m_X2_goBy (kinds j) (tempers j) c d (m_X4_has L j) (m_X4_has F j)).2.1 i = _
      by_cases hi : i = j
      · subst hi
        rw [pk_us, if_pos (by omega)]
      · rw [pk_un hi, i2]
        by_cases h3 : i < j
        · rw [if_pos h3, if_pos (by omega)]
        · rw [if_neg h3, if_neg (by omega)])
  rw [Nat.zero_add] at g
  obtain ⟨g1, g2⟩ := g (Nat.le_refl _)
  refine ⟨g1, fun i hi => ?_⟩
  have := g2 i
  rw [if_pos hi] at this
  exact this
theorem minus_sb {s P : Nat} {x : Int32} (hs : s < 2 ^ P) (hP : P ≤ 7) {b : Nat → Bool} (hx : x = nI (sb b P)) : Sm (2 ^ P) (nI s &&& (x ^^^ (-1))) := by
  rw [hx, diff_bits s (P128 hs hP) _ (P128 (sb_lt _ _) hP)]
  exact ⟨_, minus_lt _ hs, rfl⟩
/-- a day of the town on both sides -/
theorem town_2 {P : Nat} (hP : P ≤ 7) {now te kinds tempers : Nat → Int32} {c d L F st : Int32} (ek : ∀ p, p < P → now (4 + p) = kinds p ∧ Sm 6 (kinds p)) (hc : now 1 = c) (hL : Sm (2 ^ P) L) (hF : Sm (2 ^ P) F) (et : ∀ p, p < P → te p = tempers p ∧ Sm 100 (tempers p)) (wk wt wc wd : Int32) (wl wf : Bool) :
    (m_X1_goBy c P d L F st kinds tempers wk wt wc wd wl wf).1 = (m_X4_goDay L F d now te P).1 ∧ Sm 128 (m_X4_goDay L F d now te P).1 ∧ (m_X1_goBy c P d L F st kinds tempers wk wt wc wd wl wf).2.1 = (m_X4_goDay L F d now te P).2.2.2.1 ∧ ((m_X1_goBy c P d L F st kinds tempers wk wt wc wd wl wf).2.2.1 = (m_X4_goDay L F d now te P).2.1 ∧ Sm (2 ^ P) (m_X4_goDay L F d now te P).2.1) ∧ ((m_X1_goBy c P d L F st kinds tempers wk wt wc wd wl wf).2.2.2.1 = (m_X4_goDay L F d now te P).2.2.1 ∧ Sm (2 ^ P) (m_X4_goDay L F d now te P).2.2.1) ∧ (m_X1_goBy c P d L F st kinds tempers wk wt wc wd wl wf).2.2.2.2.1 = st + m_X4_bits (m_X4_goDay L F d now te P).1 ∧ (∀ p, p < P → (m_X4_goDay L F d now te P).2.2.2.2 p = (m_X1_goBy c P d L F st kinds tempers wk wt wc wd wl wf).2.2.2.2.2.1 p ∧ Sm 100 ((m_X1_goBy c P d L F st kinds tempers wk wt wc wd wl wf).2.2.2.2.2.1 p)) := by
  obtain ⟨n, hn, rfl⟩ := hL
  obtain ⟨m, hm, rfl⟩ := hF
  have n7 := P128 hn hP
  have m7 := P128 hm hP
  obtain ⟨x1, x2⟩ := goBy_town (n := n) (m := m) hP c d (nI n) (nI m) st kinds tempers wk wt wc wd wl wf
  have w : ∀ p, p < P → RW p (tempers p) d (m_X4_has (nI n) p) (m_X4_has (nI m) p) (nI n) (nI m) d te := fun p hp => ⟨rfl, (et p hp).1, (et p hp).2, ⟨n, n7, rfl, (has_tb n (by omega) p (by omega)).symm⟩, ⟨m, m7, rfl, (has_tb m (by omega) p (by omega)).symm⟩⟩
  have st2 := fun p (hp : p < P) => (w p hp).step hp hP (ek p hp) hc
  have eS : sb (gS n m d now te) P = sb (fun k => (m_X2_goBy (kinds k) (tempers k) c d (m_X4_has (nI n) k) (m_X4_has (nI m) k)).1) P := sb_congr P (fun k hk => by
    have g := (st2 k hk).2
    rw [goDay_val n7 m7 hP] at g
    rw [← g, ← sb_bit (gS n m d now te) P k hk]
    exact (has_tb _ (Nat.lt_trans (P128 (sb_lt (gS n m d now te) P) hP) (by decide)) k (by omega)).symm)
  have e1 : (m_X1_goBy c P d (nI n) (nI m) st kinds tempers wk wt wc wd wl wf).1 = (m_X4_goDay (nI n) (nI m) d now te P).1 := by
    rw [x1, goDay_val n7 m7 hP, eS]
  have e2 : (m_X4_goDay (nI n) (nI m) d now te P).1 = nI (sb (gS n m d now te) P) := by rw [goDay_val n7 m7 hP]
  have e3 : Sm 128 (m_X4_goDay (nI n) (nI m) d now te P).1 := ⟨_, P128 (sb_lt _ _) hP, e2⟩
  refine ⟨e1, e3, ?_, ⟨?_, ?_⟩, ⟨?_, ?_⟩, ?_, fun p hp => ?_⟩
  · rw [goDay_val n7 m7 hP]; rfl
  · show nI n &&& ((m_X1_goBy c P d (nI n) (nI m) st kinds tempers wk wt wc wd wl wf).1 ^^^ (-1)) = _
    rw [e1]; rfl
  · exact minus_sb hn hP e2
  · show nI m &&& ((m_X1_goBy c P d (nI n) (nI m) st kinds tempers wk wt wc wd wl wf).1 ^^^ (-1)) = _
    rw [e1]; rfl
  · exact minus_sb hm hP e2
  · show st + m_J6_bitCount_0f7a4 (m_X1_goBy c P d (nI n) (nI m) st kinds tempers wk wt wc wd wl wf).1 = _
    rw [e1, e2, bits_eq _ (Nat.lt_trans (P128 (sb_lt _ _) hP) (by decide))]
  · rw [x2 p hp]
    exact ⟨(st2 p hp).1.2.1, (st2 p hp).1.2.2.1⟩
theorem dayT_at {P : Nat} (hP : P ≤ 7) (z8 : Int32 × Int32 × Int32 × Int32 × (Nat → Int32)) (v : Nat → Int32) (i : Nat) : wl_iter (m_X4_day_l50 z8) P 0 v i = if 11 ≤ i ∧ i < 11 + P then z8.2.2.2.2 (i - 11) else v i := by
  have g := iter_inv (m_X4_day_l50 z8) (fun k w => ∀ i, w i = if 11 ≤ i ∧ i < 11 + k then z8.2.2.2.2 (i - 11) else v i) P 0 v (fun i => by rw [if_neg (by omega)]) (fun j w h1 h2 hI i => by
    show upd w (11 + j) (z8.2.2.2.2 j) i = _
    by_cases hi : i = 11 + j
    · rw [hi, pk_us, if_pos (by omega)]
      exact congrArg z8.2.2.2.2 (by omega)
    · rw [pk_un hi, hI]
      by_cases h3 : 11 ≤ i ∧ i < 11 + j
      · rw [if_pos h3, if_pos (by omega)]
      · rw [if_neg h3, if_neg (by omega)])
  rw [Nat.zero_add] at g
  exact g i
theorem day_step {T : Tn} {now mt : Nat → Int32} {acc : Int32} (t : RT T now) (wk wt wc wd : Int32) (wl wf : Bool) (a b e : Int32) :
    RT (Tn.mk T.counts T.people (m_X3_day_l19 T.counts T.people T.kinds 0 (T.day, T.listed, T.followed, T.struck, T.undoable, T.tempers, T.past, wk, wt, wc, wd, wl, wf, acc)).1 (m_X3_day_l19 T.counts T.people T.kinds 0 (T.day, T.listed, T.followed, T.struck, T.undoable, T.tempers, T.past, wk, wt, wc, wd, wl, wf, acc)).2.1 (m_X3_day_l19 T.counts T.people T.kinds 0 (T.day, T.listed, T.followed, T.struck, T.undoable, T.tempers, T.past, wk, wt, wc, wd, wl, wf, acc)).2.2.1 (m_X3_day_l19 T.counts T.people T.kinds 0 (T.day, T.listed, T.followed, T.struck, T.undoable, T.tempers, T.past, wk, wt, wc, wd, wl, wf, acc)).2.2.2.1 T.noted (m_X3_day_l19 T.counts T.people T.kinds 0 (T.day, T.listed, T.followed, T.struck, T.undoable, T.tempers, T.past, wk, wt, wc, wd, wl, wf, acc)).2.2.2.2.1 T.kinds (m_X3_day_l19 T.counts T.people T.kinds 0 (T.day, T.listed, T.followed, T.struck, T.undoable, T.tempers, T.past, wk, wt, wc, wd, wl, wf, acc)).2.2.2.2.2.1 T.notes (m_X3_day_l19 T.counts T.people T.kinds 0 (T.day, T.listed, T.followed, T.struck, T.undoable, T.tempers, T.past, wk, wt, wc, wd, wl, wf, acc)).2.2.2.2.2.2.1) (m_X4_day_l23 T.people 0 (a, b, e, now, mt, acc)).2.2.2.1 ∧ (m_X3_day_l19 T.counts T.people T.kinds 0 (T.day, T.listed, T.followed, T.struck, T.undoable, T.tempers, T.past, wk, wt, wc, wd, wl, wf, acc)).2.2.2.2.2.2.2.2.2.2.2.2.2 = (m_X4_day_l23 T.people 0 (a, b, e, now, mt, acc)).2.2.2.2.2 := by
  have k := t.keep
  have h7 := t.hp
  have u8 := t.hu
  unfold m_X3_day_l19 m_X4_day_l23
  dsimp only [wl_bnd]
  have e3 : cl (now 3) = T.undoable := by rw [t.e3]; exact nI_clamp (by omega)
  rw [e3]
  generalize hw : m_X4_keep now T.undoable = w at k ⊢
  have e18 : w 18 = T.listed := k.el.1
  have e19 : w 19 = T.followed := k.ef.1
  have e20 : w 20 = T.struck := k.es
  have e21 : w 21 = T.day := k.ed
  have et : ∀ p, p < T.people → (m_X4_layHand w mt T.people).2.2.2 p = T.tempers p ∧ Sm 100 (T.tempers p) := fun p hp => by
    rw [hand_at, if_pos hp]
    exact k.et p hp
  have hL : Sm (2 ^ T.people) T.listed := t.el.2
  have hF : Sm (2 ^ T.people) T.followed := t.ef.2
  have tw := town_2 h7 (d := T.day) (st := T.struck) (fun p hp => k.ek p hp) k.e1 hL hF et wk wt wc wd wl wf
  have eh : m_X4_goDay (m_X4_layHand w mt T.people).1 (m_X4_layHand w mt T.people).2.1 (m_X4_layHand w mt T.people).2.2.1 w (m_X4_layHand w mt T.people).2.2.2 T.people = m_X4_goDay T.listed T.followed T.day w (m_X4_layHand w mt T.people).2.2.2 T.people := by
    rw [show (m_X4_layHand w mt T.people).1 = T.listed from e18, show (m_X4_layHand w mt T.people).2.1 = T.followed from e19, show (m_X4_layHand w mt T.people).2.2.1 = T.day from e21]
  rw [eh]
  generalize m_X4_goDay T.listed T.followed T.day w (m_X4_layHand w mt T.people).2.2.2 T.people = M at tw ⊢
  have tw2 : (m_X1_goBy T.counts T.people T.day T.listed T.followed T.struck T.kinds T.tempers wk wt wc wd wl wf).1 = M.1 ∧ Sm 128 M.1 ∧ (m_X1_goBy T.counts T.people T.day T.listed T.followed T.struck T.kinds T.tempers wk wt wc wd wl wf).2.1 = M.2.2.2.1 ∧ ((m_X1_goBy T.counts T.people T.day T.listed T.followed T.struck T.kinds T.tempers wk wt wc wd wl wf).2.2.1 = M.2.1 ∧ Sm (2 ^ T.people) M.2.1) ∧ ((m_X1_goBy T.counts T.people T.day T.listed T.followed T.struck T.kinds T.tempers wk wt wc wd wl wf).2.2.2.1 = M.2.2.1 ∧ Sm (2 ^ T.people) M.2.2.1) ∧ (m_X1_goBy T.counts T.people T.day T.listed T.followed T.struck T.kinds T.tempers wk wt wc wd wl wf).2.2.2.2.1 = T.struck + m_X4_bits M.1 ∧ (∀ p, p < T.people → M.2.2.2.2 p = (m_X1_goBy T.counts T.people T.day T.listed T.followed T.struck T.kinds T.tempers wk wt wc wd wl wf).2.2.2.2.2.1 p ∧ Sm 100 ((m_X1_goBy T.counts T.people T.day T.listed T.followed T.struck T.kinds T.tempers wk wt wc wd wl wf).2.2.2.2.2.1 p)) := tw
  clear tw
  generalize hX : m_X1_goBy T.counts T.people T.day T.listed T.followed T.struck T.kinds T.tempers wk wt wc wd wl wf = X at tw2 ⊢
  have hd : X.2.1 = T.day + nI 1 := by rw [← hX]; rfl
  obtain ⟨y1, y2, y3, ⟨y4, y4'⟩, ⟨y5, y5'⟩, y6, y7⟩ := tw2
  refine ⟨?_, by show acc ||| X.1 = acc ||| M.1; rw [y1]⟩
  generalize hW : wl_iter (m_X4_day_l50 M) T.people 0 w = V
  have eV : ∀ i, V i = if 11 ≤ i ∧ i < 11 + T.people then M.2.2.2.2 (i - 11) else w i := fun i => by rw [← hW]; exact dayT_at h7 M w i
  have v20 : V 20 = T.struck := by rw [eV, if_neg (by omega)]; exact e20
  have v21 : V 21 = T.day := by rw [eV, if_neg (by omega)]; exact e21
  refine k.put (fun i hi => ?_) (fun p hp => ?_) ⟨?_, ?_⟩ ⟨?_, ?_⟩ ?_ ?_
  · show upd (upd (upd (upd V 18 M.2.1) 19 M.2.2.1) 20 (V 20 + m_X4_bits M.1)) 21 (V 21 + nI 1) i = w i
    rw [pk_un (by omega), pk_un (by omega), pk_un (by omega), pk_un (by omega), eV, if_neg (by omega)]
  · have hp2 : p < T.people := hp
    show upd (upd (upd (upd V 18 M.2.1) 19 M.2.2.1) 20 (V 20 + m_X4_bits M.1)) 21 (V 21 + nI 1) (11 + p) = X.2.2.2.2.2.1 p ∧ Sm 100 (X.2.2.2.2.2.1 p)
    rw [pk_un (by omega), pk_un (by omega), pk_un (by omega), pk_un (by omega), eV, if_pos (by omega), show 11 + p - 11 = p by omega]
    exact y7 p hp2
  · show upd (upd (upd (upd V 18 M.2.1) 19 M.2.2.1) 20 (V 20 + m_X4_bits M.1)) 21 (V 21 + nI 1) 18 = X.2.2.1
    rw [pk_un (by decide), pk_un (by decide), pk_un (by decide), pk_us, y4]
  · show Sm (2 ^ T.people) X.2.2.1
    rw [y4]; exact y4'
  · show upd (upd (upd (upd V 18 M.2.1) 19 M.2.2.1) 20 (V 20 + m_X4_bits M.1)) 21 (V 21 + nI 1) 19 = X.2.2.2.1
    rw [pk_un (by decide), pk_un (by decide), pk_us, y5]
  · show Sm (2 ^ T.people) X.2.2.2.1
    rw [y5]; exact y5'
  · show upd (upd (upd (upd V 18 M.2.1) 19 M.2.2.1) 20 (V 20 + m_X4_bits M.1)) 21 (V 21 + nI 1) 20 = X.2.2.2.2.1
    rw [pk_un (by decide), pk_us, y6, v20]
  · show upd (upd (upd (upd V 18 M.2.1) 19 M.2.2.1) 20 (V 20 + m_X4_bits M.1)) 21 (V 21 + nI 1) 21 = X.2.1
    rw [pk_us, v21, hd]
theorem sim_day {s : SX} {r : SM} (h : RR s r) (n : Int32) : (aX_day s n).1 = (aM_day s r n).1 ∧ RR (uX_day s (aX_day s n)) (uM_day r (aM_day s r n)) := by
  unfold aX_day aM_day m_X3_day m_X4_day wl_bnd
  have t := h.rt
  rw [win (by decide) (by decide)]
  by_cases h1 : m_X4_in n.toInt64 (lN 1) (lN 60) = true
  · simp only [if_pos h1]
    have it := iter2 (m_X3_day_l19 s.T0.counts s.T0.people s.T0.kinds) (m_X4_day_l23 s.T0.people) (fun _ v w => RT (Tn.mk s.T0.counts s.T0.people v.1 v.2.1 v.2.2.1 v.2.2.2.1 s.T0.noted v.2.2.2.2.1 s.T0.kinds v.2.2.2.2.2.1 s.T0.notes v.2.2.2.2.2.2.1) w.2.2.2.1 ∧ v.2.2.2.2.2.2.2.2.2.2.2.2.2 = w.2.2.2.2.2) (cl n) 0 (s.T0.day, s.T0.listed, s.T0.followed, s.T0.struck, s.T0.undoable, s.T0.tempers, s.T0.past, s.wkind, s.wtemper, s.wcounts, s.wday, s.wlisted, s.wfollowed, nI 0) (r.mlisted, r.mfollowing, r.mdayThen, r.mnow, r.mtempers, nI 0) ⟨t, rfl⟩ (fun j v w _ _ hvw => by
      obtain ⟨i1, i2⟩ := hvw
      obtain ⟨v1, v2, v3, v4, v5, v6, v7, v8, v9, v10, v11, v12, v13, v14⟩ := v
      obtain ⟨w1, w2, w3, w4, w5, w6⟩ := w
      have e : v14 = w6 := i2
      subst e
      exact day_step i1 v8 v9 v10 v11 v12 v13 w1 w2 w3)
    generalize wl_iter (m_X3_day_l19 s.T0.counts s.T0.people s.T0.kinds) (cl n) 0 (s.T0.day, s.T0.listed, s.T0.followed, s.T0.struck, s.T0.undoable, s.T0.tempers, s.T0.past, s.wkind, s.wtemper, s.wcounts, s.wday, s.wlisted, s.wfollowed, nI 0) = X at it ⊢
    generalize wl_iter (m_X4_day_l23 s.T0.people) (cl n) 0 (r.mlisted, r.mfollowing, r.mdayThen, r.mnow, r.mtempers, nI 0) = M at it ⊢
    exact ⟨it.2, it.1, h.rk, h.r2, h.r3, h.fa, h.fb, h.f0, h.f1, h.f2, h.xl, h.xm, h.xb⟩
  · simp only [if_neg h1]
    exact ⟨rfl, h.bad⟩
