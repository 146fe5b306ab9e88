/-! SIMULATION 14: years -/
def nx (q : Nat) : Nat := (q * 1103515245 + 12345) % 2147483648
theorem nx_lt (q : Nat) : nx q < 2147483648 := Nat.mod_lt _ (by decide)
theorem lcg_1 {q : Nat} (hq : q < 2147483648) : ((lN q * lN 1103515245) + lN 12345) - ((lN q * lN 1103515245) + lN 12345) / lN 2147483648 * lN 2147483648 = lN (nx q) := by
  rw [lN_mul, lN_add]
  exact pk_lRem (by omega) (by decide) (by decide)
theorem lcg_2 {y : Nat} (hy : y < 2147483648) : lN y / lN 65536 - lN y / lN 65536 / lN 2 * lN 2 = lN (y / 65536 % 2) := by
  rw [pk_lDiv (by omega) (by decide) (by decide)]
  exact pk_lRem (by omega) (by decide) (by decide)
theorem or_val : ∀ s, s < 128 → ∀ k, k < 7 → (nI s ||| (nI 1 <<< (nI k &&& 31))) = nI (s ||| 2 ^ k) ∧ (nI s ||| nI 0) = nI s := by decide +kernel
theorem bits_2 {P : Nat} (hP : P ≤ 7) {F : Int32} (hF : Sm (2 ^ P) F) {x : Int64} {q : Nat} (hq : q < 2147483648) (hx : x = lN q) :
    (wl_iter m_X3_years_l54 P 0 (F, x)).1 = (wl_iter m_X4_years_l58 P 0 (nI 0, x)).1 ∧ Sm (2 ^ P) (wl_iter m_X4_years_l58 P 0 (nI 0, x)).1 ∧ (wl_iter m_X3_years_l54 P 0 (F, x)).2 = (wl_iter m_X4_years_l58 P 0 (nI 0, x)).2 ∧ ∃ q', q' < 2147483648 ∧ (wl_iter m_X4_years_l58 P 0 (nI 0, x)).2 = lN q' := by
  obtain ⟨m, hm, em⟩ := hF
  have it := iter2 m_X3_years_l54 m_X4_years_l58 (fun k v w => k ≤ P → v.2 = w.2 ∧ (∃ q, q < 2147483648 ∧ w.2 = lN q) ∧ ∃ a s, a < 2 ^ P ∧ s < 2 ^ k ∧ v.1 = nI a ∧ w.1 = nI s ∧ ∀ i, i < k → a.testBit i = s.testBit i) P 0 (F, x) (nI 0, x) (fun _ => ⟨rfl, ⟨q, hq, hx⟩, m, 0, hm, by decide, em, rfl, fun i hi => absurd hi (Nat.not_lt_zero _)⟩) (fun k v w _ hk hI hk1 => by
    obtain ⟨e, ⟨q, hq, eq⟩, a, s, ha, hs, ea, es, hb⟩ := hI (by omega)
    have hkP : k < P := by omega
    have a7 := P128 ha hP
    have s7 : s < 128 := P128 hs (by omega)
    have p2 : 2 ^ k < 2 ^ P := Nat.pow_lt_pow_right (by decide) hkP
    have p3 : 2 ^ k < 2 ^ (k + 1) := Nat.pow_lt_pow_right (by decide) (Nat.lt_succ_self k)
    unfold m_X3_years_l54 m_X4_years_l58
    dsimp only [wl_bnd]
    rw [e, eq, lcg_1 hq, lcg_2 (nx_lt q), lN_i, ea, es]
    have hbit : nx q / 65536 % 2 = 0 ∨ nx q / 65536 % 2 = 1 := by omega
    obtain ⟨o1, o2⟩ := or_val s s7 k (by omega)
    have sk : s.testBit k = false := Nat.testBit_lt_two_pow hs
    rcases hbit with g | g
    · rw [g, if_neg (show ¬ lN 0 = lN 1 by decide +kernel), show nI 0 = wl_b false from rfl, with_val a a7 k (by omega) false]
      refine ⟨rfl, ⟨_, nx_lt q, rfl⟩, a ^^^ (a &&& 2 ^ k), s, minus_lt _ ha, Nat.lt_trans hs p3, rfl, o2, fun i hi => ?_⟩
      rw [minus_bit]
      by_cases hx : i = k
      · rw [hx, Nat.testBit_two_pow_self, sk, Bool.not_true, Bool.and_false]
      · rw [Nat.testBit_two_pow_of_ne (Ne.symm hx), Bool.not_false, Bool.and_true]
        exact hb i (by omega)
    · rw [g, if_pos rfl, show nI 1 = wl_b true from rfl, with_val a a7 k (by omega) true]
      refine ⟨rfl, ⟨_, nx_lt q, rfl⟩, a ||| 2 ^ k, s ||| 2 ^ k, Nat.or_lt_two_pow ha p2, Nat.or_lt_two_pow (Nat.lt_trans hs p3) p3, rfl, o1, fun i hi => ?_⟩
      rw [Nat.testBit_or, Nat.testBit_or]
      by_cases hx : i = k
      · rw [hx, Nat.testBit_two_pow_self, Bool.or_true, Bool.or_true]
      · rw [hb i (by omega)])
  rw [Nat.zero_add] at it
  obtain ⟨e, hq', a, s, ha, hs, ea, es, hb⟩ := it (Nat.le_refl _)
  have eas : a = s := by
    refine Nat.eq_of_testBit_eq (fun k => ?_)
    by_cases hk : k < P
    · exact hb k hk
    · have h2 : 2 ^ P ≤ 2 ^ k := Nat.pow_le_pow_right (by decide) (by omega)
      rw [Nat.testBit_lt_two_pow (Nat.lt_of_lt_of_le ha h2), Nat.testBit_lt_two_pow (Nat.lt_of_lt_of_le hs h2)]
  exact ⟨by rw [ea, es, eas], ⟨s, hs, es⟩, e, hq'⟩
theorem sim_years {s : SX} {r : SM} (h : RR s r) (seed : Int32) (n : Int32) : (aX_years s seed n).1 = (aM_years s r seed n).1 ∧ RR (uX_years s (aX_years s seed n)) (uM_years r (aM_years s r seed n)) := by
  unfold aX_years aM_years m_X3_years m_X4_years m_X1_copyFrom wl_bnd
  have t := h.rt
  have hp7 := t.hp
  rw [show (999999 : Int32) = nI 999999 by decide +kernel, win (by decide) (by decide), win (by decide) (by decide)]
  by_cases h1 : m_X4_in seed.toInt64 (lN 0) (lN 999999) = true
  · simp only [if_pos h1]
    by_cases h2 : m_X4_in n.toInt64 (lN 0) (lN 60) = true
    · simp only [if_pos h2]
      obtain ⟨s1, s2, s3⟩ := in_spec (by decide) (by decide) h1
      have es : seed.toInt64 = lN (cl seed) := by
        have e1 : (nI (cl seed)).toInt64 = lN (cl seed) := nI_l (by omega)
        rw [← s1] at e1
        exact e1
      have eK : ∀ p, p < s.T0.people → r.mnow (4 + p) = va_cpy s.T0.kinds s.T1.kinds 0 0 7 p ∧ Sm 6 (va_cpy s.T0.kinds s.T1.kinds 0 0 7 p) := fun p hp => by
        rw [cpy0 _ _ _ _ (by omega)]
        exact t.ek p hp
      have it := iter2 (m_X3_years_l45 (s.T0.counts, s.T0.people, s.T0.day, s.T0.listed, s.T0.followed, s.T0.struck, s.T0.noted, s.T0.undoable, va_cpy s.T0.kinds s.T1.kinds 0 0 7, va_cpy s.T0.tempers s.T1.tempers 0 0 7, va_cpy s.T0.notes s.T1.notes 0 0 30, va_cpy s.T0.past s.T1.past 0 0 88)) (m_X4_years_l44 r.mnow s.T0.people) (fun _ v w => v.1 = w.2.2.1 ∧ (v.2.1 = w.1 ∧ Sm (2 ^ s.T0.people) w.1) ∧ Sm (2 ^ s.T0.people) v.2.2.1 ∧ (∀ p, p < s.T0.people → w.2.2.2.1 p = v.2.2.2.2.1 p ∧ Sm 100 (v.2.2.2.2.1 p)) ∧ (v.2.2.2.2.2.2.2.2.2.2.2.1 = w.2.2.2.2.1 ∧ ∃ q, q < 2147483648 ∧ w.2.2.2.2.1 = lN q) ∧ v.2.2.2.2.2.2.2.2.2.2.2.2 = w.2.2.2.2.2) (cl n) 0 (s.T0.day, s.T0.listed, s.T0.followed, s.T0.struck, va_cpy s.T0.tempers s.T1.tempers 0 0 7, s.wkind, s.wtemper, s.wcounts, s.wday, s.wlisted, s.wfollowed, seed.toInt64, nI 0) ((m_X4_layHand r.mnow r.mtempers s.T0.people).1, (m_X4_layHand r.mnow r.mtempers s.T0.people).2.1, (m_X4_layHand r.mnow r.mtempers s.T0.people).2.2.1, (m_X4_layHand r.mnow r.mtempers s.T0.people).2.2.2, seed.toInt64, nI 0)
        ⟨t.ed.symm, ⟨t.el.1.symm, by show Sm (2 ^ s.T0.people) (r.mnow 18); rw [t.el.1]; exact t.el.2⟩, t.ef.2, fun p hp => by
          show (m_X4_layHand r.mnow r.mtempers s.T0.people).2.2.2 p = va_cpy s.T0.tempers s.T1.tempers 0 0 7 p ∧ Sm 100 (va_cpy s.T0.tempers s.T1.tempers 0 0 7 p)
          rw [cpy0 _ _ _ _ (by omega), hand_at, if_pos hp]
          exact t.et p hp, ⟨rfl, cl seed, by omega, es⟩, rfl⟩ (fun j v w _ _ hI => by
        obtain ⟨v1, v2, v3, v4, v5, v6, v7, v8, v9, v10, v11, v12, v13⟩ := v
        obtain ⟨w1, w2, w3, w4, w5, w6⟩ := w
        obtain ⟨i1, ⟨i2, i3⟩, i4, i5, ⟨i6, q, hq, i7⟩, i8⟩ := hI
        have i1 : v1 = w3 := i1
        have i2 : v2 = w1 := i2
        have i6 : v12 = w5 := i6
        have i8 : v13 = w6 := i8
        subst i1 i2 i6 i8
        obtain ⟨b1, b2, b3, q', hq', b4⟩ := bits_2 hp7 (F := v3) i4 hq i7
        unfold m_X3_years_l45 m_X4_years_l44
        dsimp only [wl_bnd]
        rw [b1]
        have tw := town_2 hp7 (now := r.mnow) (te := w4) (kinds := va_cpy s.T0.kinds s.T1.kinds 0 0 7) (tempers := v5) (c := s.T0.counts) (d := v1) (L := v2) (F := (wl_iter m_X4_years_l58 s.T0.people 0 (nI 0, v12)).1) (st := v4) eK t.e1 i3 b2 i5 v6 v7 v8 v9 v10 v11
        obtain ⟨y1, y2, y3, ⟨y4, y4'⟩, ⟨y5, y5'⟩, y6, y7⟩ := tw
        refine ⟨y3, ⟨y4, y4'⟩, ?_, y7, ⟨b3, q', hq', b4⟩, ?_⟩
        · show Sm (2 ^ s.T0.people) (m_X1_goBy s.T0.counts s.T0.people v1 v2 (wl_iter m_X4_years_l58 s.T0.people 0 (nI 0, v12)).1 v4 (va_cpy s.T0.kinds s.T1.kinds 0 0 7) v5 v6 v7 v8 v9 v10 v11).2.2.2.1
          rw [y5]
          exact y5'
        · show v13 + m_J6_bitCount_0f7a4 (m_X1_goBy s.T0.counts s.T0.people v1 v2 (wl_iter m_X4_years_l58 s.T0.people 0 (nI 0, v12)).1 v4 (va_cpy s.T0.kinds s.T1.kinds 0 0 7) v5 v6 v7 v8 v9 v10 v11).1 = v13 + m_X4_bits _
          rw [y1, bits_Sm y2])
      exact ⟨it.2.2.2.2.2, h⟩
    · simp only [if_neg h2]
      exact ⟨rfl, h.bad⟩
  · simp only [if_neg h1]
    exact ⟨rfl, h.bad⟩
