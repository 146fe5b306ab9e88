/-! SIMULATION 4: the past: list, follow, undo -/
theorem mv_at {d e n : Nat} (hd : d < e ∨ e + n ≤ d) (v : Nat → Int32) (i : Nat) : wl_iter (fun k w => upd w (d + k) (w (e + k))) n 0 v i = if d ≤ i ∧ i < d + n then v (e + (i - d)) else v i := by
  have g := iter_inv (fun k w => upd w (d + k) (w (e + k))) (fun k w => k ≤ n → ∀ i, w i = if d ≤ i ∧ i < d + k then v (e + (i - d)) else v i) n 0 v (fun _ i => by rw [if_neg (by omega)]) (fun j w h1 h2 hI hj i => by
    have hI := hI (by omega)
    show upd w (d + j) (w (e + j)) i = _
    by_cases hi : i = d + j
    · subst hi
      rw [pk_us, if_pos (by omega), hI, if_neg (by omega)]
      exact congrArg v (by omega)
    · rw [pk_un hi, hI]
      by_cases h3 : d ≤ i ∧ i < d + j
      · rw [if_pos h3, if_pos (by omega)]
      · rw [if_neg h3, if_neg (by omega)])
  have g2 := g (by omega) i
  rw [Nat.zero_add] at g2
  exact g2
theorem keep_low {U j q : Nat} (now : Nat → Int32) (hj : j < (if U = 8 then 7 else U)) (hU : U ≤ 8) (hq : q < 11) : m_X4_keep now U (52 + 11 * j + q) = now (52 + 11 * (if U = 8 then j + 1 else j) + q) := by
  unfold m_X4_keep wl_bnd
  show upd _ 3 _ _ = _
  rw [pk_un (by omega)]
  have e := mv_at (d := 52 + (11 * (if U = 8 then 7 else U))) (e := 11) (n := 11) (by omega)
  rw [show wl_iter (m_X4_keep_l53 U) 11 0 = wl_iter (fun k w => upd w ((52 + (11 * (if U = 8 then 7 else U))) + k) (w (11 + k))) 11 0 from rfl, e, if_neg (by omega)]
  by_cases h8 : U = 8
  · rw [if_pos h8, if_pos h8]
    rw [if_pos h8] at hj
    show upd (wl_iter m_X4_keep_l13 77 0 now) 3 _ _ = _
    rw [pk_un (by omega), show wl_iter m_X4_keep_l13 77 0 now = wl_iter (fun k w => upd w (52 + k) (w (63 + k))) 77 0 now from rfl, mv_at (by omega), if_pos (by omega)]
    exact congrArg now (by omega)
  · rw [if_neg h8, if_neg h8]
theorem keep_top {U q : Nat} (now : Nat → Int32) (hU : U ≤ 8) (hq : q < 11) : m_X4_keep now U (52 + 11 * (if U = 8 then 7 else U) + q) = now (11 + q) := by
  unfold m_X4_keep wl_bnd
  show upd _ 3 _ _ = _
  rw [pk_un (by omega)]
  have e := mv_at (d := 52 + (11 * (if U = 8 then 7 else U))) (e := 11) (n := 11) (by omega)
  rw [show wl_iter (m_X4_keep_l53 U) 11 0 = wl_iter (fun k w => upd w ((52 + (11 * (if U = 8 then 7 else U))) + k) (w (11 + k))) 11 0 from rfl, e, if_pos (by omega)]
  have e2 : 11 + (52 + 11 * (if U = 8 then 7 else U) + q - (52 + 11 * (if U = 8 then 7 else U))) = 11 + q := by omega
  rw [e2]
  by_cases h8 : U = 8
  · rw [if_pos h8]
    show upd (wl_iter m_X4_keep_l13 77 0 now) 3 _ _ = _
    rw [pk_un (by omega), show wl_iter m_X4_keep_l13 77 0 now = wl_iter (fun k w => upd w (52 + k) (w (63 + k))) 77 0 now from rfl, mv_at (by omega), if_neg (by omega)]
  · rw [if_neg h8]
/-- the class's row of today -/
theorem kp_top {T : Tn} {u : Nat} (pa : Nat → Int32) {q : Nat} (hq : q < 11) : (upd (upd (upd (upd (va_cpy T.tempers pa 0 (u * 11) 7) ((u * 11) + 7) T.listed) (((u * 11) + 7) + 1) T.followed) (((u * 11) + 7) + 2) T.struck) (((u * 11) + 7) + 3) T.day) (u * 11 + q) = if q < 7 then T.tempers q else if q = 7 then T.listed else if q = 8 then T.followed else if q = 9 then T.struck else T.day := by
  by_cases h7 : q < 7
  · rw [if_pos h7, pk_un (by omega), pk_un (by omega), pk_un (by omega), pk_un (by omega)]
    unfold va_cpy
    rw [if_pos (by omega)]
    exact congrArg T.tempers (by omega)
  · rw [if_neg h7]
    have h : q = 7 ∨ q = 8 ∨ q = 9 ∨ q = 10 := by omega
    rcases h with h | h | h | h
    · subst h; rw [if_pos rfl, pk_un (by omega), pk_un (by omega), pk_un (by omega), pk_us]
    · subst h; rw [if_neg (by decide), if_pos rfl, pk_un (by omega), pk_un (by omega)]; exact pk_us
    · subst h; rw [if_neg (by decide), if_neg (by decide), if_pos rfl, pk_un (by omega)]; exact pk_us
    · subst h; rw [if_neg (by decide), if_neg (by decide), if_neg (by decide)]; exact pk_us
theorem kp_low {T : Tn} {u j : Nat} (pa : Nat → Int32) {q : Nat} (hj : j < u) (hq : q < 11) : (upd (upd (upd (upd (va_cpy T.tempers pa 0 (u * 11) 7) ((u * 11) + 7) T.listed) (((u * 11) + 7) + 1) T.followed) (((u * 11) + 7) + 2) T.struck) (((u * 11) + 7) + 3) T.day) (j * 11 + q) = pa (j * 11 + q) := by
  rw [pk_un (by omega), pk_un (by omega), pk_un (by omega), pk_un (by omega)]
  unfold va_cpy
  rw [if_neg (by omega)]
theorem keepPast_1 {T : Tn} (hu : T.undoable ≤ 8) : (m_X1_keepPast T.day T.listed T.followed T.struck T.undoable T.tempers T.past).1 = (if T.undoable = 8 then 7 else T.undoable) + 1 := by
  unfold m_X1_keepPast wl_bnd
  by_cases h : T.undoable < 8
  · rw [if_pos h, if_neg (by omega)]
  · rw [if_neg h, if_pos (by omega)]
theorem keepPast_top {T : Tn} (hu : T.undoable ≤ 8) {q : Nat} (hq : q < 11) : (m_X1_keepPast T.day T.listed T.followed T.struck T.undoable T.tempers T.past).2 ((if T.undoable = 8 then 7 else T.undoable) * 11 + q) = if q < 7 then T.tempers q else if q = 7 then T.listed else if q = 8 then T.followed else if q = 9 then T.struck else T.day := by
  unfold m_X1_keepPast wl_bnd
  by_cases h : T.undoable < 8
  · rw [if_pos h, if_neg (by omega)]
    exact kp_top (T := T) T.past hq
  · rw [if_neg h, if_pos (by omega)]
    exact kp_top (T := T) (va_cpy T.past T.past 11 0 77) hq
theorem keepPast_low {T : Tn} (hu : T.undoable ≤ 8) {j q : Nat} (hj : j < (if T.undoable = 8 then 7 else T.undoable)) (hq : q < 11) : (m_X1_keepPast T.day T.listed T.followed T.struck T.undoable T.tempers T.past).2 (j * 11 + q) = T.past ((if T.undoable = 8 then j + 1 else j) * 11 + q) := by
  unfold m_X1_keepPast wl_bnd
  by_cases h : T.undoable < 8
  · rw [if_neg (by omega)] at hj
    rw [if_pos h, if_neg (by omega)]
    exact kp_low (T := T) T.past hj hq
  · rw [if_pos (by omega)] at hj
    rw [if_neg h, if_pos (by omega)]
    refine (kp_low (T := T) (va_cpy T.past T.past 11 0 77) hj hq).trans ?_
    unfold va_cpy
    rw [if_pos (by omega)]
    exact congrArg T.past (by omega)
theorem RP.same {P : Nat} {row row' now now' : Nat → Int32} (h : RP P row now) (hP : P ≤ 7) (h1 : ∀ q, q < 11 → row' q = row q) (h2 : ∀ q, q < 11 → now' q = now q) : RP P row' now' := by
  refine ⟨fun p hp => ?_, ?_, ?_, ?_, ?_⟩
  · rw [h1 p (by omega), h2 p (by omega)]; exact h.t p hp
  · rw [h1 7 (by decide), h2 7 (by decide)]; exact h.l
  · rw [h1 8 (by decide), h2 8 (by decide)]; exact h.f
  · rw [h1 9 (by decide), h2 9 (by decide)]; exact h.s
  · rw [h1 10 (by decide), h2 10 (by decide)]; exact h.d
def rowC (T : Tn) (q : Nat) : Int32 := if q < 7 then T.tempers q else if q = 7 then T.listed else if q = 8 then T.followed else if q = 9 then T.struck else T.day
theorem RP.today {T : Tn} {now : Nat → Int32} (h : RT T now) : RP T.people (rowC T) (fun q => now (11 + q)) := by
  have hp := h.hp
  refine ⟨fun p hp2 => ?_, h.el, h.ef, h.es, h.ed⟩
  have e : rowC T p = T.tempers p := if_pos (by omega)
  rw [e]
  exact h.et p hp2
theorem RT.keep {T : Tn} {now : Nat → Int32} (h : RT T now) : RT (Tn.mk T.counts T.people T.day T.listed T.followed T.struck T.noted (m_X1_keepPast T.day T.listed T.followed T.struck T.undoable T.tempers T.past).1 T.kinds T.tempers T.notes (m_X1_keepPast T.day T.listed T.followed T.struck T.undoable T.tempers T.past).2) (m_X4_keep now T.undoable) := by
  have hu := h.hu
  have hp := h.hp
  have hn := h.hn
  have e : ∀ i, i < 52 → i ≠ 3 → m_X4_keep now T.undoable i = now i := fun i h1 h2 => keep_at hu now h1 h2
  have k1 := keepPast_1 (T := T) hu
  refine ⟨hp, hn, ?_, (e 0 (by decide) (by decide)).trans h.e0, (e 1 (by decide) (by decide)).trans h.e1, (e 2 (by decide) (by decide)).trans h.e2, ?_, fun p hp2 => ?_, fun p hp2 => ?_, ⟨(e 18 (by decide) (by decide)).trans h.el.1, h.el.2⟩, ⟨(e 19 (by decide) (by decide)).trans h.ef.1, h.ef.2⟩, (e 20 (by decide) (by decide)).trans h.es, (e 21 (by decide) (by decide)).trans h.ed, fun i hi => ?_, h.em, fun j hj => ?_, h.ec⟩
  · show (m_X1_keepPast T.day T.listed T.followed T.struck T.undoable T.tempers T.past).1 ≤ 8
    rw [k1]; split <;> omega
  · show m_X4_keep now T.undoable 3 = nI (m_X1_keepPast T.day T.listed T.followed T.struck T.undoable T.tempers T.past).1
    rw [k1]; exact keep_3 now
  · have hp3 : p < T.people := hp2
    show m_X4_keep now T.undoable (4 + p) = T.kinds p ∧ _
    rw [e (4 + p) (by omega) (by omega)]; exact h.ek p hp2
  · have hp3 : p < T.people := hp2
    show m_X4_keep now T.undoable (11 + p) = T.tempers p ∧ _
    rw [e (11 + p) (by omega) (by omega)]; exact h.et p hp2
  · have hi2 : i < 5 * T.noted := hi
    exact (e (22 + i) (by omega) (by omega)).trans (h.en i hi2)
  · have hj2 : j < (if T.undoable = 8 then 7 else T.undoable) + 1 := by rw [← k1]; exact hj
    show RP T.people (fun q => (m_X1_keepPast T.day T.listed T.followed T.struck T.undoable T.tempers T.past).2 (j * 11 + q)) (fun q => m_X4_keep now T.undoable (52 + 11 * j + q))
    by_cases hx : j = (if T.undoable = 8 then 7 else T.undoable)
    · exact (RP.today h).same hp (fun q hq => by
        show (m_X1_keepPast T.day T.listed T.followed T.struck T.undoable T.tempers T.past).2 (j * 11 + q) = rowC T q
        rw [hx]; exact keepPast_top (T := T) hu hq) (fun q hq => by
        show m_X4_keep now T.undoable (52 + 11 * j + q) = now (11 + q)
        rw [hx]; exact keep_top now hu hq)
    · have hj3 : j < (if T.undoable = 8 then 7 else T.undoable) := by omega
      have hj4 : (if T.undoable = 8 then j + 1 else j) < T.undoable := by split <;> split at hj3 <;> omega
      exact (h.ep _ hj4).same hp (fun q hq => keepPast_low (T := T) hu hj3 hq) (fun q hq => keep_low now hj3 hu hq)
