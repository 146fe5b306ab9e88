/-! SIMULATION 15: read: numbers, words, items -/
theorem as_i (a b c : Int32) : a + b - c = a + (b - c) := by
  rw [Int32.sub_eq_add_neg, Int32.sub_eq_add_neg, Int32.add_assoc]
theorem num_1 (by_ : Nat → Int32) (z : Nat) : wl_run (m_X4_lookAt_l218 by_ z 2 1) default 3 (nI 0, 0) = (nI 10 * nI 0 + by_ (z + 0)) - nI 48 := rfl
theorem num_2 (by_ : Nat → Int32) (z : Nat) : wl_run (m_X4_lookAt_l218 by_ z 2 2) default 3 (nI 0, 0) = (nI 10 * ((nI 10 * nI 0 + by_ (z + 0)) - nI 48) + by_ (z + 1)) - nI 48 := rfl
theorem num_eq {L b : Nat} {by_ : Nat → Int32} (h : b ≤ L) (hL : L ≤ 150) (ht : (m_X4_lookAt L by_ b).2.2.1 = nI 2) : wl_iter (m_X0_takesNumber_l24 by_) (m_X4_lookAt L by_ b).2.1 (m_X4_lookAt L by_ b).1 (nI 0) = (m_X4_lookAt L by_ b).2.2.2 := by
  obtain ⟨h1, h2⟩ := look5_ok (by_ := by_) h hL
  unfold m_X4_lookAt at ht ⊢
  dsimp only [wl_bnd] at ht ⊢
  generalize wl_run (m_X4_lookAt_l5 L by_) default 151 b = z1 at h1 h2 ht ⊢
  by_cases h3 : z1 = L
  · rw [if_pos h3] at ht
    exact absurd (show nI 0 = nI 2 from ht) (by decide)
  · rw [if_neg h3] at ht ⊢
    have ek : (if m_X4_isSmall (by_ z1) = true then 1 else if m_X4_isFigure (by_ z1) = true then 2 else if by_ z1 = nI 59 then 3 else 4) = kd (by_ z1) := rfl
    rw [ek] at ht ⊢
    have k1 := kd_le (by_ z1)
    by_cases h6 : kd (by_ z1) = 2
    · rw [if_pos h6] at ht ⊢
      have g1 := (look136_ok (by_ := by_) (z6 := kd (by_ z1)) (g := (if 3 ≤ kd (by_ z1) then false else true)) (show z1 < L by omega) hL).1
      generalize wl_run (m_X4_lookAt_l136 L by_ z1 (kd (by_ z1))) default 301 (1, if 3 ≤ kd (by_ z1) then false else true) = t at g1 ht ⊢
      by_cases h7 : t ≤ 2
      · rw [if_pos h7, h6]
        have h8 : t = 1 ∨ t = 2 := by omega
        rcases h8 with h8 | h8
        · subst h8
          show nI 10 * nI 0 + (by_ z1 - nI 48) = wl_run (m_X4_lookAt_l218 by_ z1 2 1) default 3 (nI 0, 0)
          rw [num_1, as_i]
          rfl
        · subst h8
          show nI 10 * (nI 10 * nI 0 + (by_ z1 - nI 48)) + (by_ (z1 + 1) - nI 48) = wl_run (m_X4_lookAt_l218 by_ z1 2 2) default 3 (nI 0, 0)
          rw [num_2, as_i, as_i]
          rfl
      · rw [if_neg h7] at ht
        exact absurd (show nI 4 = nI 2 from ht) (by decide)
    · rw [if_neg h6] at ht
      exact absurd (nI_inj5 _ _ (by omega) (by decide) ht) h6
theorem takesNumber_eq {L b : Nat} {n0 least most : Int32} {by_ : Nat → Int32} (h : b ≤ L) (hL : L ≤ 150) : m_X0_takesNumber L b n0 by_ least most = (if (m_X4_lookAt L by_ b).2.2.1 = nI 2 then (m_X3_isWithin (m_X4_lookAt L by_ b).2.2.2 least most, (m_X4_lookAt L by_ b).1, (m_X4_lookAt L by_ b).1 + (m_X4_lookAt L by_ b).2.1, (m_X4_lookAt L by_ b).2.2.1, (m_X4_lookAt L by_ b).2.2.2) else (false, (m_X4_lookAt L by_ b).1, (m_X4_lookAt L by_ b).1 + (m_X4_lookAt L by_ b).2.1, (m_X4_lookAt L by_ b).2.2.1, n0)) := by
  have nv := num_eq (by_ := by_) h hL
  unfold m_X0_takesNumber
  dsimp only [wl_bnd]
  rw [takeToken_eq h hL]
  dsimp only
  by_cases g : (m_X4_lookAt L by_ b).2.2.1 = nI 2
  · rw [if_pos g, if_pos g, show (m_X4_lookAt L by_ b).1 + (m_X4_lookAt L by_ b).2.1 - (m_X4_lookAt L by_ b).1 = (m_X4_lookAt L by_ b).2.1 by omega, nv g]
  · rw [if_neg g, if_neg g]
theorem takesStop_eq {L b : Nat} {by_ : Nat → Int32} (h : b ≤ L) (hL : L ≤ 150) : m_X0_takesStop L b by_ = (if (m_X4_lookAt L by_ b).2.2.1 = nI 3 then (true, (m_X4_lookAt L by_ b).1, (m_X4_lookAt L by_ b).1 + (m_X4_lookAt L by_ b).2.1, (m_X4_lookAt L by_ b).2.2.1) else (false, (m_X4_lookAt L by_ b).1, (m_X4_lookAt L by_ b).1 + (m_X4_lookAt L by_ b).2.1, (m_X4_lookAt L by_ b).2.2.1)) := by
  unfold m_X0_takesStop
  dsimp only [wl_bnd]
  rw [takeToken_eq h hL]
theorem takes_eq {L ta lg : Nat} {tok val low high : Int32} {by_ vals : Nat → Int32} {k : Nat} : m_X4_takes L ta lg tok val by_ vals k low high = (if tok = nI 2 then (if m_X4_in val.toInt64 low.toInt64 high.toInt64 = true then (true, (m_X4_lookAt L by_ (ta + lg)).1, (m_X4_lookAt L by_ (ta + lg)).2.1, (m_X4_lookAt L by_ (ta + lg)).2.2.1, (m_X4_lookAt L by_ (ta + lg)).2.2.2, upd vals k val) else (false, ta, lg, tok, val, vals)) else (false, ta, lg, tok, val, vals)) := rfl
theorem goBehind_eq {L ta lg : Nat} {by_ : Nat → Int32} : m_X4_goBehind L ta lg by_ = m_X4_lookAt L by_ (ta + lg) := rfl
/-! words -/
def csp (ca cb cd ce cf cg : Int32) (j : Nat) : Int32 := if j = 0 then ca else if j = 1 then cb else if j = 2 then cd else if j = 3 then ce else if j = 4 then cf else cg
theorem spells_iff {ta lg : Nat} {tok ca cb cd ce cf cg : Int32} {by_ : Nat → Int32} {size : Nat} (hs : size ≤ 6) : m_X4_spells ta lg tok by_ size ca cb cd ce cf cg = true ↔ tok = nI 1 ∧ lg = size ∧ ∀ j, j < size → by_ (ta + j) = csp ca cb cd ce cf cg j := by
  have step : ∀ v : Bool × Nat, m_X4_spells_l26 ta by_ size ca cb cd ce cf cg v = (if size ≤ v.2 then .inr v.1 else if v.1 = true then (if by_ (ta + v.2) = csp ca cb cd ce cf cg v.2 then .inl (true, v.2 + 1) else .inl (false, v.2 + 1)) else .inr v.1) := fun v => by
    unfold m_X4_spells_l26 csp
    by_cases c0 : v.2 = 0
    · simp only [if_pos c0]
    · by_cases c1 : v.2 = 1
      · simp only [if_neg c0, if_pos c1]
      · by_cases c2 : v.2 = 2
        · simp only [if_neg c0, if_neg c1, if_pos c2]
        · by_cases c3 : v.2 = 3
          · simp only [if_neg c0, if_neg c1, if_neg c2, if_pos c3]
          · by_cases c4 : v.2 = 4
            · simp only [if_neg c0, if_neg c1, if_neg c2, if_neg c3, if_pos c4]
            · simp only [if_neg c0, if_neg c1, if_neg c2, if_neg c3, if_neg c4]
  have run : ∀ b : Bool, wl_run (m_X4_spells_l26 ta by_ size ca cb cd ce cf cg) default (size + 1) (b, 0) = true ↔ b = true ∧ ∀ j, j < size → by_ (ta + j) = csp ca cb cd ce cf cg j := fun b => by
    refine run_inv (m_X4_spells_l26 ta by_ size ca cb cd ce cf cg) default (fun v => v.2 ≤ size ∧ (v.1 = true ↔ b = true ∧ ∀ j, j < v.2 → by_ (ta + j) = csp ca cb cd ce cf cg j)) (fun v => size - v.2) (fun r => r = true ↔ b = true ∧ ∀ j, j < size → by_ (ta + j) = csp ca cb cd ce cf cg j) ?_ (size + 1) (b, 0) (by show size - 0 < size + 1; omega) ⟨Nat.zero_le _, fun q => ⟨q, fun j hj => absurd hj (Nat.not_lt_zero _)⟩, fun q => q.1⟩
    rintro ⟨v1, v2⟩ ⟨i1, i2⟩
    have i1 : v2 ≤ size := i1
    have i2 : v1 = true ↔ b = true ∧ ∀ j, j < v2 → by_ (ta + j) = csp ca cb cd ce cf cg j := i2
    rw [step]
    by_cases c1 : size ≤ v2
    · rw [if_pos c1]
      refine ⟨fun v' q => (by cases q), fun r q => ?_⟩
      cases q
      have e : v2 = size := by omega
      rw [e] at i2
      exact i2
    · rw [if_neg c1]
      by_cases c2 : v1 = true
      · rw [if_pos c2]
        have i3 := i2.mp c2
        by_cases c3 : by_ (ta + v2) = csp ca cb cd ce cf cg v2
        · rw [if_pos c3]
          refine ⟨fun v' q => ?_, fun r q => (by cases q)⟩
          cases q
          refine ⟨⟨by show v2 + 1 ≤ size; omega, fun _ => ⟨i3.1, fun j hj => ?_⟩, fun _ => rfl⟩, by show size - (v2 + 1) < size - v2; omega⟩
          have hj : j < v2 + 1 := hj
          by_cases hx : j = v2
          · rw [hx]; exact c3
          · exact i3.2 j (by omega)
        · rw [if_neg c3]
          refine ⟨fun v' q => ?_, fun r q => (by cases q)⟩
          cases q
          exact ⟨⟨by show v2 + 1 ≤ size; omega, fun q => absurd (show false = true from q) (by decide), fun q => absurd (q.2 v2 (Nat.lt_succ_self v2)) c3⟩, by show size - (v2 + 1) < size - v2; omega⟩
      · rw [if_neg c2]
        refine ⟨fun v' q => (by cases q), fun r q => ?_⟩
        cases q
        exact ⟨fun q => absurd q c2, fun q => absurd (i2.mpr ⟨q.1, fun j hj => q.2 j (by omega)⟩) c2⟩
  unfold m_X4_spells
  dsimp only [wl_bnd]
  rw [run]
  by_cases c1 : tok = nI 1
  · rw [if_pos c1]
    by_cases c2 : lg = size
    · rw [if_pos c2]
      exact ⟨fun q => ⟨c1, c2, q.2⟩, fun q => ⟨rfl, q.2.2⟩⟩
    · rw [if_neg c2]
      exact ⟨fun q => absurd q.1 (by decide), fun q => absurd q.2.1 c2⟩
  · rw [if_neg c1]
    exact ⟨fun q => absurd q.1 (by decide), fun q => absurd q.1 c1⟩
theorem isWord_iff {ta lg : Nat} {tok : Int32} {by_ : Nat → Int32} {i : Nat} (hi : wl_ln i ≤ 6) : m_X0_isWord ta (ta + lg) tok by_ i = true ↔ tok = nI 1 ∧ lg = wl_ln i ∧ ∀ j, j < wl_ln i → by_ (ta + j) = nI (wl_ch i j) := by
  have run : wl_run (m_X0_isWord_l28 ta by_ i) default 7 0 = true ↔ ∀ j, j < wl_ln i → by_ (ta + j) = nI (wl_ch i j) := by
    refine run_inv (m_X0_isWord_l28 ta by_ i) default (fun v => v ≤ wl_ln i ∧ ∀ j, j < v → by_ (ta + j) = nI (wl_ch i j)) (fun v => wl_ln i - v) (fun r => r = true ↔ ∀ j, j < wl_ln i → by_ (ta + j) = nI (wl_ch i j)) ?_ 7 0 (by omega) ⟨Nat.zero_le _, fun j hj => absurd hj (Nat.not_lt_zero _)⟩
    rintro v ⟨i1, i2⟩
    unfold m_X0_isWord_l28
    by_cases c1 : wl_ln i ≤ v
    · rw [if_pos c1]
      refine ⟨fun v' q => (by cases q), fun r q => ?_⟩
      cases q
      exact ⟨fun _ j hj => i2 j (by omega), fun _ => rfl⟩
    · rw [if_neg c1]
      by_cases c3 : by_ (ta + v) = nI (wl_ch i v)
      · rw [if_pos c3]
        refine ⟨fun v' q => ?_, fun r q => (by cases q)⟩
        cases q
        refine ⟨⟨by omega, fun j hj => ?_⟩, by omega⟩
        by_cases hx : j = v
        · rw [hx]; exact c3
        · exact i2 j (by omega)
      · rw [if_neg c3]
        refine ⟨fun v' q => (by cases q), fun r q => ?_⟩
        cases q
        exact ⟨fun q => absurd q (by decide), fun q => absurd (q v (by omega)) c3⟩
  unfold m_X0_isWord
  rw [show ta + lg - ta = lg by omega]
  by_cases c1 : tok = nI 1
  · rw [if_pos c1]
    by_cases c2 : lg = wl_ln i
    · rw [if_pos c2, run]
      exact ⟨fun q => ⟨c1, c2, q⟩, fun q => q.2.2⟩
    · rw [if_neg c2]
      exact ⟨fun q => absurd q (by decide), fun q => absurd q.2.1 c2⟩
  · rw [if_neg c1]
    exact ⟨fun q => absurd q (by decide), fun q => absurd q.1 c1⟩
theorem ln_v : wl_ln 0 = 4 ∧ wl_ln 1 = 3 ∧ wl_ln 2 = 4 ∧ wl_ln 3 = 6 := by decide
theorem ch_0 : ∀ j, j < 4 → nI (wl_ch 0 j) = csp (nI 116) (nI 111) (nI 119) (nI 110) (nI 0) (nI 0) j := by decide +kernel
theorem ch_1 : ∀ j, j < 3 → nI (wl_ch 1 j) = csp (nI 111) (nI 110) (nI 101) (nI 0) (nI 0) (nI 0) j := by decide +kernel
theorem ch_2 : ∀ j, j < 4 → nI (wl_ch 2 j) = csp (nI 108) (nI 105) (nI 115) (nI 116) (nI 0) (nI 0) j := by decide +kernel
theorem ch_3 : ∀ j, j < 6 → nI (wl_ch 3 j) = csp (nI 102) (nI 111) (nI 108) (nI 108) (nI 111) (nI 119) j := by decide +kernel
theorem word_eq {ta lg : Nat} {tok ca cb cd ce cf cg : Int32} {by_ : Nat → Int32} {i size : Nat} (hl : wl_ln i = size) (hs : size ≤ 6) (hc : ∀ j, j < size → nI (wl_ch i j) = csp ca cb cd ce cf cg j) : m_X0_isWord ta (ta + lg) tok by_ i = m_X4_spells ta lg tok by_ size ca cb cd ce cf cg := by
  refine two_ite ?_
  rw [isWord_iff (by omega), spells_iff hs, hl]
  exact ⟨fun q => ⟨q.1, q.2.1, fun j hj => (q.2.2 j hj).trans (hc j hj)⟩, fun q => ⟨q.1, q.2.1, fun j hj => (q.2.2 j hj).trans (hc j hj).symm⟩⟩
theorem w_0 {ta lg : Nat} {tok : Int32} {by_ : Nat → Int32} : m_X0_isWord ta (ta + lg) tok by_ 0 = m_X4_spells ta lg tok by_ 4 (nI 116) (nI 111) (nI 119) (nI 110) (nI 0) (nI 0) := word_eq ln_v.1 (by decide) ch_0
theorem w_1 {ta lg : Nat} {tok : Int32} {by_ : Nat → Int32} : m_X0_isWord ta (ta + lg) tok by_ 1 = m_X4_spells ta lg tok by_ 3 (nI 111) (nI 110) (nI 101) (nI 0) (nI 0) (nI 0) := word_eq ln_v.2.1 (by decide) ch_1
theorem w_2 {ta lg : Nat} {tok : Int32} {by_ : Nat → Int32} : m_X0_isWord ta (ta + lg) tok by_ 2 = m_X4_spells ta lg tok by_ 4 (nI 108) (nI 105) (nI 115) (nI 116) (nI 0) (nI 0) := word_eq ln_v.2.2.1 (by decide) ch_2
theorem w_3 {ta lg : Nat} {tok : Int32} {by_ : Nat → Int32} : m_X0_isWord ta (ta + lg) tok by_ 3 = m_X4_spells ta lg tok by_ 6 (nI 102) (nI 111) (nI 108) (nI 108) (nI 111) (nI 119) := word_eq ln_v.2.2.2 (by decide) ch_3
/-- the word town is no other word -/
theorem w_not {ta lg : Nat} {tok : Int32} {by_ : Nat → Int32} (h : m_X4_spells ta lg tok by_ 4 (nI 116) (nI 111) (nI 119) (nI 110) (nI 0) (nI 0) = true) : m_X4_spells ta lg tok by_ 3 (nI 111) (nI 110) (nI 101) (nI 0) (nI 0) (nI 0) = false ∧ m_X4_spells ta lg tok by_ 4 (nI 108) (nI 105) (nI 115) (nI 116) (nI 0) (nI 0) = false ∧ m_X4_spells ta lg tok by_ 6 (nI 102) (nI 111) (nI 108) (nI 108) (nI 111) (nI 119) = false := by
  obtain ⟨h1, h2, h3⟩ := (spells_iff (by decide)).mp h
  refine ⟨Bool.eq_false_iff.mpr (fun q => ?_), Bool.eq_false_iff.mpr (fun q => ?_), Bool.eq_false_iff.mpr (fun q => ?_)⟩
  · have q2 := ((spells_iff (by decide)).mp q).2.1
    omega
  · have q3 := ((spells_iff (by decide)).mp q).2.2 0 (by decide)
    rw [h3 0 (by decide)] at q3
    exact absurd q3 (by decide +kernel)
  · have q2 := ((spells_iff (by decide)).mp q).2.1
    omega
