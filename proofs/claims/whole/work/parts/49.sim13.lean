/-! SIMULATION 13: is, look -/
theorem kinds_2 {T : Tn} {now : Nat → Int32} (t : RT T now) (p : Int32) : m_X1_kindsByNotes T.noted T.notes p = m_X4_kindsOf now p T.noted ∧ Sm 64 (m_X4_kindsOf now p T.noted) := by
  have it := iter2 (m_X1_kindsByNotes_l4 T.noted T.notes p) (m_X4_kindsOf_l4 now p T.noted) (fun k v w => k ≤ 6 → v = w ∧ ∃ x, x < 2 ^ k ∧ w = nI x) 6 0 (nI 0) (nI 0) (fun _ => ⟨rfl, 0, by decide, rfl⟩) (fun j v w _ _ hI hj => by
    obtain ⟨e, x, hx, ex⟩ := hI (by omega)
    subst e
    have il := iter2 (m_X1_kindsByNotes_l16 T.notes p j) (m_X4_kindsOf_l16 now p j) (fun _ v w => v = w) T.noted 0 true true rfl (fun i a b _ hi hab => by
      have hi2 : i < T.noted := by omega
      have e : ∀ q, q < 5 → now (22 + 5 * i + q) = T.notes (i * 5 + q) := fun q hq => by
        rw [show 22 + 5 * i + q = 22 + (i * 5 + q) by omega]
        exact t.en _ (by omega)
      have e0 : now (22 + 5 * i) = T.notes (i * 5) := e 0 (by decide)
      have em := t.em i hi2
      subst hab
      unfold m_X1_kindsByNotes_l16 m_X4_kindsOf_l16 m_X1_isNoteSo
      dsimp only [wl_bnd]
      rw [e0, e 1 (by decide), e 2 (by decide), e 3 (by decide), e 4 (by decide), act_eq ⟨j, by omega, rfl⟩ em, tf_id])
    unfold m_X1_kindsByNotes_l4 m_X4_kindsOf_l4
    dsimp only [wl_bnd]
    rw [il, tf_id, ex]
    generalize wl_iter (m_X4_kindsOf_l16 now p j) T.noted 0 true = b
    have o := or_bit j (by omega) x hx b
    have hlt : x + cond b (2 ^ j) 0 < 2 ^ (j + 1) := by
      rw [Nat.pow_succ]
      cases b
      · show x + 0 < _; omega
      · show x + 2 ^ j < _; omega
    rw [with_bit j (by omega) x hx b]
    cases b
    · exact ⟨o.symm, _, hlt, o⟩
    · exact ⟨o.symm, _, hlt, o⟩)
  obtain ⟨i1, x, hx, ex⟩ := it (by decide)
  exact ⟨i1, x, hx, ex⟩
theorem sim_is {s : SX} {r : SM} (h : RR s r) (p : Int32) : (aX_is s p).1 = (aM_is s r p).1 ∧ RR (uX_is s (aX_is s p)) (uM_is r (aM_is s r p)) := by
  unfold aX_is aM_is m_X3_is m_X4_is wl_bnd
  have t := h.rt
  rw [isThere_isOne t.hp]
  by_cases h1 : m_X4_isOne p s.T0.people = true
  · simp only [if_pos h1]
    exact ⟨(kinds_2 t p).1, h⟩
  · simp only [if_neg h1]
    exact ⟨rfl, h.bad⟩
/-- of so many so many do that -/
def cntU (S : Nat) (a : Nat → Nat) : Nat → Nat → Nat
  | 0, _ => 0
  | u + 1, x => if S.testBit u = true then (if a u = x then cntU S a u x + 1 else cntU S a u x) else cntU S a u x
theorem cnt_le (S : Nat) (a : Nat → Nat) (x : Nat) : ∀ u, cntU S a u x ≤ u := by
  intro u
  induction u with
  | zero => exact Nat.le_refl _
  | succ u ih =>
    unfold cntU
    split
    · split <;> omega
    · omega
theorem cnt_ex (S : Nat) (a : Nat → Nat) (x : Nat) : ∀ u, 0 < cntU S a u x → ∃ j, j < u ∧ a j = x := by
  intro u
  induction u with
  | zero => intro h; exact absurd h (Nat.lt_irrefl _)
  | succ u ih =>
    intro h
    by_cases hx : a u = x
    · exact ⟨u, Nat.lt_succ_self u, hx⟩
    · have e : cntU S a (u + 1) x = cntU S a u x := by
        show (if S.testBit u = true then (if a u = x then cntU S a u x + 1 else cntU S a u x) else cntU S a u x) = _
        rw [if_neg hx]
        split <;> rfl
      rw [e] at h
      obtain ⟨j, h1, h2⟩ := ih h
      exact ⟨j, by omega, h2⟩
theorem act_fn (d : Int32) (f : Bool) {τ : Nat} (hτ : τ ≤ 99) : ∃ a : Nat → Nat, ∀ k, k < 6 → a k ≤ 5 ∧ m_X3_actOf (nI k) d f (nI τ) = nI (a k) ∧ m_X4_actAs (nI k) (nI τ) d f = nI (a k) := by
  refine ⟨fun k => cl (m_X4_actAs (nI k) (nI τ) d f), fun k hk => ?_⟩
  obtain ⟨j, h1, h2⟩ := actAs_rng (kd := nI k) (day := d) (f := f) hτ
  have e : cl (m_X4_actAs (nI k) (nI τ) d f) = j := by rw [h2]; exact nI_clamp (by omega)
  show cl (m_X4_actAs (nI k) (nI τ) d f) ≤ 5 ∧ _ = nI (cl (m_X4_actAs (nI k) (nI τ) d f)) ∧ _ = nI (cl (m_X4_actAs (nI k) (nI τ) d f))
  rw [e]
  exact ⟨h1, (actOf_eq hk hτ d f).trans h2, h2⟩
theorem most_X {S τ : Nat} (hS : S < 64) (d : Int32) (f : Bool) {a : Nat → Nat} (ha : ∀ k, k < 6 → a k ≤ 5 ∧ m_X3_actOf (nI k) d f (nI τ) = nI (a k)) : ∃ b, b ≤ 6 ∧ m_X3_mostAlike (nI S) d f (nI τ) = nI b ∧ (∀ j, j < 6 → cntU S a 6 (a j) ≤ b) ∧ (b = 0 ∨ ∃ j, j < 6 ∧ cntU S a 6 (a j) = b) := by
  unfold m_X3_mostAlike
  dsimp only [wl_bnd]
  have g := iter_inv (m_X3_mostAlike_l6 (nI S) d f (nI τ)) (fun k v => k ≤ 6 → ∃ b, b ≤ 6 ∧ v = nI b ∧ (∀ j, j < k → cntU S a 6 (a j) ≤ b) ∧ (b = 0 ∨ ∃ j, j < k ∧ cntU S a 6 (a j) = b)) 6 0 (nI 0) (fun _ => ⟨0, by decide, rfl, fun j hj => absurd hj (Nat.not_lt_zero _), Or.inl rfl⟩) (fun k v _ _ hI hk => by
    obtain ⟨b, b1, b2, b3, b4⟩ := hI (by omega)
    obtain ⟨ka, kb⟩ := ha k (by omega)
    have gi := iter_inv (m_X3_mostAlike_l29 (nI S) d f (nI τ) (nI (a k))) (fun u v => u ≤ 6 → v = cntU S a u (a k)) 6 0 0 (fun _ => rfl) (fun u v _ _ hv hu => by
      have hv := hv (by omega)
      obtain ⟨ua, ub⟩ := ha u (by omega)
      show (if m_X3_bitOf (nI S) u = nI 1 then (if m_X3_actOf (nI u) d f (nI τ) = nI (a k) then v + 1 else v) else v) = (if S.testBit u = true then (if a u = a k then cntU S a u (a k) + 1 else cntU S a u (a k)) else cntU S a u (a k))
      rw [← has_tb S (by omega) u (by omega), has_bit, ub, hv]
      have en : nI (a u) = nI (a k) ↔ a u = a k := nI_eq (by omega) (by omega)
      by_cases q1 : m_X3_bitOf (nI S) u = nI 1
      · rw [if_pos q1, if_pos (decide_eq_true q1)]
        by_cases q2 : a u = a k
        · rw [if_pos q2, if_pos (en.mpr q2)]
        · rw [if_neg q2, if_neg (fun q => q2 (en.mp q))]
      · rw [if_neg q1, if_neg (by rw [decide_eq_false q1]; decide)])
    have gi : wl_iter (m_X3_mostAlike_l29 (nI S) d f (nI τ) (nI (a k))) 6 0 0 = cntU S a 6 (a k) := gi (by decide)
    unfold m_X3_mostAlike_l6
    dsimp only [wl_bnd]
    rw [kb, gi, b2]
    have c6 := cnt_le S a (a k) 6
    have lt : nI b < nI (cntU S a 6 (a k)) ↔ b < cntU S a 6 (a k) := nI_ltI (by omega) (by omega)
    by_cases q : b < cntU S a 6 (a k)
    · rw [if_pos (lt.mpr q)]
      exact ⟨_, c6, rfl, fun j hj => by
        by_cases hx : j = k
        · rw [hx]; exact Nat.le_refl _
        · exact Nat.le_of_lt (Nat.lt_of_le_of_lt (b3 j (by omega)) q), Or.inr ⟨k, Nat.lt_succ_self k, rfl⟩⟩
    · rw [if_neg (fun w => q (lt.mp w))]
      refine ⟨b, b1, rfl, fun j hj => ?_, ?_⟩
      · by_cases hx : j = k
        · rw [hx]; omega
        · exact b3 j (by omega)
      · rcases b4 with q4 | ⟨j, j1, j2⟩
        · exact Or.inl q4
        · exact Or.inr ⟨j, by omega, j2⟩)
  exact g (by decide)
theorem zero_6 (M : Nat → Int32) (x : Nat) (hx : x < 6) : wl_iter m_X4_look_l60 6 0 M x = nI 0 := by
  have g := iter_inv m_X4_look_l60 (fun k v => ∀ x, x < k → v x = nI 0) 6 0 M (fun x hx => absurd hx (Nat.not_lt_zero _)) (fun j v _ _ hI x hx => by
    show upd v j (nI 0) x = nI 0
    by_cases h : x = j
    · rw [h, pk_us]
    · rw [pk_un h]; exact hI x (by omega))
  exact g x hx
theorem most_M {S i : Nat} (hS : S < 64) {t : Int32} {v8 : (Nat → Int32) × Int32 × Int32 × Nat} (hi : v8.2.2.2 = i) {a : Nat → Nat} (ha : ∀ k, k < 6 → a k ≤ 5 ∧ m_X4_actAs (nI k) (nI (cl t)) (nI (i % 6)) (if i ≤ 5 then false else true) = nI (a k)) (M : Nat → Int32) (hM : ∀ x, x < 6 → M x = nI 0) : ∃ b, b ≤ 6 ∧ (wl_iter (m_X4_look_l84 t v8 (nI S)) 6 0 (M, nI 0)).2 = nI b ∧ (∀ x, x ≤ 5 → cntU S a 6 x ≤ b) ∧ (b = 0 ∨ ∃ x, x ≤ 5 ∧ cntU S a 6 x = b) := by
  have g := iter_inv (m_X4_look_l84 t v8 (nI S)) (fun u v => u ≤ 6 → (∀ x, x ≤ 5 → v.1 x = nI (cntU S a u x)) ∧ ∃ b, b ≤ u ∧ v.2 = nI b ∧ (∀ x, x ≤ 5 → cntU S a u x ≤ b) ∧ (b = 0 ∨ ∃ x, x ≤ 5 ∧ cntU S a u x = b)) 6 0 (M, nI 0) (fun _ => ⟨fun x hx => hM x (by omega), 0, Nat.le_refl _, rfl, fun x _ => Nat.le_refl _, Or.inl rfl⟩) (fun u v _ _ hI hu => by
    obtain ⟨i1, b, b1, b2, b3, b4⟩ := hI (by omega)
    obtain ⟨ua, ub⟩ := ha u (by omega)
    have cu : ∀ x, cntU S a (u + 1) x = (if S.testBit u = true then (if a u = x then cntU S a u x + 1 else cntU S a u x) else cntU S a u x) := fun _ => rfl
    have c6 := cnt_le S a (a u) u
    unfold m_X4_look_l84
    dsimp only [wl_bnd]
    rw [has_tb S (by omega) u (by omega), hi, ub, show cl (nI (a u)) = a u from nI_clamp (by omega), i1 (a u) ua, nI_add, b2]
    by_cases q1 : S.testBit u = true
    · rw [if_pos q1]
      have le : nI (cntU S a u (a u) + 1) ≤ nI b ↔ cntU S a u (a u) + 1 ≤ b := nI_leI (by omega) (by omega)
      have at1 : ∀ x, x ≤ 5 → upd v.1 (a u) (nI (cntU S a u (a u) + 1)) x = nI (cntU S a (u + 1) x) := fun x hx => by
        rw [cu, if_pos q1]
        by_cases h : x = a u
        · rw [h, pk_us, if_pos rfl]
        · rw [pk_un h, if_neg (fun w => h w.symm)]; exact i1 x hx
      by_cases q2 : cntU S a u (a u) + 1 ≤ b
      · rw [if_pos (le.mpr q2)]
        refine ⟨at1, b, by omega, rfl, fun x hx => ?_, ?_⟩
        · rw [cu, if_pos q1]
          by_cases h : a u = x
          · rw [if_pos h, ← h]; exact q2
          · rw [if_neg h]; exact b3 x hx
        · rcases b4 with q4 | ⟨x, x1, x2⟩
          · omega
          · refine Or.inr ⟨x, x1, ?_⟩
            rw [cu, if_pos q1, if_neg (fun w => by rw [w] at q2; omega)]
            exact x2
      · rw [if_neg (fun w => q2 (le.mp w))]
        refine ⟨at1, cntU S a u (a u) + 1, by omega, rfl, fun x hx => ?_, Or.inr ⟨a u, ua, ?_⟩⟩
        · rw [cu, if_pos q1]
          have := b3 x hx
          by_cases h : a u = x
          · rw [if_pos h, ← h]; exact Nat.le_refl _
          · rw [if_neg h]; omega
        · rw [cu, if_pos q1, if_pos rfl]
    · rw [if_neg q1]
      refine ⟨fun x hx => ?_, b, by omega, rfl, fun x hx => ?_, ?_⟩
      · rw [cu, if_neg q1]; exact i1 x hx
      · rw [cu, if_neg q1]; exact b3 x hx
      · rcases b4 with q4 | ⟨x, x1, x2⟩
        · exact Or.inl q4
        · refine Or.inr ⟨x, x1, ?_⟩
          rw [cu, if_neg q1]; exact x2)
  exact (g (by decide)).2
theorem many_2 {S i : Nat} (hS : S < 64) {t : Int32} (ht : cl t ≤ 99) {v8 : (Nat → Int32) × Int32 × Int32 × Nat} (hi : v8.2.2.2 = i) (M : Nat → Int32) (hM : ∀ x, x < 6 → M x = nI 0) : ∃ b, b ≤ 6 ∧ m_X3_mostAlike (nI S) (nI (i % 6)) (if i < 6 then false else true) (nI (cl t)) = nI b ∧ (wl_iter (m_X4_look_l84 t v8 (nI S)) 6 0 (M, nI 0)).2 = nI b := by
  have ef : (if i < 6 then false else true) = (if i ≤ 5 then false else true) := by
    by_cases h : i < 6
    · rw [if_pos h, if_pos (by omega)]
    · rw [if_neg h, if_neg (by omega)]
  rw [ef]
  obtain ⟨a, ha⟩ := act_fn (nI (i % 6)) (if i ≤ 5 then false else true) ht
  obtain ⟨b, b1, b2, b3, b4⟩ := most_X hS (nI (i % 6)) (if i ≤ 5 then false else true) (τ := cl t) (a := a) (fun k hk => ⟨(ha k hk).1, (ha k hk).2.1⟩)
  obtain ⟨c, c1, c2, c3, c4⟩ := most_M hS (t := t) hi (a := a) (fun k hk => ⟨(ha k hk).1, (ha k hk).2.2⟩) M hM
  have e : b = c := by
    have h1 : b ≤ c := by
      rcases b4 with q | ⟨j, j1, j2⟩
      · omega
      · rw [← j2]; exact c3 (a j) (ha j j1).1
    have h2 : c ≤ b := by
      rcases c4 with q | ⟨x, x1, x2⟩
      · omega
      · by_cases hz : c = 0
        · omega
        · obtain ⟨j, j1, j2⟩ := cnt_ex S a x 6 (by omega)
          rw [← x2, ← j2]
          exact b3 j j1
    omega
  exact ⟨b, b1, b2, by rw [e]; exact c2⟩
theorem nI_po : ∀ S, S < 64 → ¬ S = 0 → ¬ nI S ≤ 0 := by decide +kernel
theorem big_1 : ∀ b, b < 7 → ¬ (1000000 : Int32) ≤ nI b ∧ ¬ nI 7 ≤ nI b := by decide +kernel
theorem look_2 {S : Nat} (hS : S < 64) (h0 : ¬ S = 0) {t : Int32} (ht : cl t ≤ 99) : ∀ (n i fuel : Nat) (v : Nat × Int32) (w : (Nat → Int32) × Int32 × Int32 × Nat), i + n = 12 → w.2.2.2 = i → n < fuel → ((v.2 = w.2.2.1 ∧ w.2.1 = nI v.1) ∨ (i = 0 ∧ v.2 = nI 7 ∧ w.2.2.1 = 1000000)) → (wl_run (m_X4_look_l43 t (nI S)) default fuel w).2 = nI (wl_iter (m_X3_look_l48 t (nI S)) n i v).1 := by
  intro n
  induction n with
  | zero =>
    intro i fuel v w hin hi hf hR
    cases fuel with
    | zero => exact absurd hf (Nat.not_lt_zero _)
    | succ fuel =>
      have e : m_X4_look_l43 t (nI S) w = .inr (w.1, w.2.1) := if_pos (by omega)
      rw [wl_run, e]
      rcases hR with ⟨_, q⟩ | ⟨q, _⟩
      · exact q
      · omega
  | succ n ih =>
    intro i fuel v w hin hi hf hR
    cases fuel with
    | zero => exact absurd hf (Nat.not_lt_zero _)
    | succ fuel =>
      obtain ⟨b, b1, b2, b3⟩ := many_2 hS ht (v8 := w) hi (wl_iter m_X4_look_l60 6 0 w.1) (fun x hx => zero_6 w.1 x hx)
      have ew : m_X4_look_l43 t (nI S) w = (if w.2.2.1 ≤ nI b then (Sum.inl ((wl_iter (m_X4_look_l84 t w (nI S)) 6 0 (wl_iter m_X4_look_l60 6 0 w.1, nI 0)).1, (if w.2.2.1 ≤ nI b then w.2.1 else nI w.2.2.2), w.2.2.1, w.2.2.2 + 1)) else (Sum.inl ((wl_iter (m_X4_look_l84 t w (nI S)) 6 0 (wl_iter m_X4_look_l60 6 0 w.1, nI 0)).1, (if w.2.2.1 ≤ nI b then w.2.1 else nI w.2.2.2), nI b, w.2.2.2 + 1))) := by
        rw [← b3]
        exact (if_neg (by omega)).trans (if_neg (nI_po S hS h0))
      have ev : m_X3_look_l48 t (nI S) i v = (if v.2 ≤ nI b then (v.1, v.2) else (i, nI b)) := by
        rw [← b2]
        rfl
      rw [wl_run, ew, show wl_iter (m_X3_look_l48 t (nI S)) (n + 1) i v = wl_iter (m_X3_look_l48 t (nI S)) n (i + 1) (m_X3_look_l48 t (nI S) i v) from rfl, ev]
      rcases hR with ⟨q1, q2⟩ | ⟨q0, q1, q2⟩
      · rw [q1]
        by_cases hb : w.2.2.1 ≤ nI b
        · simp only [if_pos hb]
          exact ih (i + 1) fuel _ _ (by omega) (by show w.2.2.2 + 1 = i + 1; rw [hi]) (by omega) (Or.inl ⟨rfl, q2⟩)
        · simp only [if_neg hb]
          exact ih (i + 1) fuel _ _ (by omega) (by show w.2.2.2 + 1 = i + 1; rw [hi]) (by omega) (Or.inl ⟨rfl, congrArg nI hi⟩)
      · obtain ⟨g1, g2⟩ := big_1 b (by omega)
        rw [q1, q2]
        simp only [if_neg g1, if_neg g2]
        exact ih (i + 1) fuel _ _ (by omega) (by show w.2.2.2 + 1 = i + 1; rw [hi]) (by omega) (Or.inl ⟨rfl, congrArg nI hi⟩)
theorem sim_look {s : SX} {r : SM} (h : RR s r) (p : Int32) (t : Int32) : (aX_look s p t).1 = (aM_look s r p t).1 ∧ RR (uX_look s (aX_look s p t)) (uM_look r (aM_look s r p t)) := by
  unfold aX_look aM_look m_X3_look m_X4_look wl_bnd
  have q := h.rt
  rw [isThere_isOne q.hp, win (by decide) (by decide)]
  by_cases h1 : m_X4_isOne p s.T0.people = true
  · simp only [if_pos h1]
    by_cases h2 : m_X4_in t.toInt64 (lN 0) (lN 99) = true
    · simp only [if_pos h2]
      obtain ⟨t1, t2, t3⟩ := in_spec (by decide) (by decide) h2
      obtain ⟨k1, S, hS, k2⟩ := kinds_2 q p
      rw [k1, k2]
      by_cases hz : nI S = 0
      · simp only [if_pos hz]
        have e : wl_run (m_X4_look_l43 t (nI S)) default 13 (r.mmanyBy, -1, 1000000, 0) = (r.mmanyBy, -1) := by
          have e1 : m_X4_look_l43 t (nI S) (r.mmanyBy, -1, 1000000, 0) = .inr (r.mmanyBy, -1) := (if_neg (show ¬ 12 ≤ 0 by decide)).trans (if_pos (by rw [hz]; decide))
          rw [wl_run, e1]
        rw [e]
        exact ⟨rfl, h⟩
      · simp only [if_neg hz]
        have h0 : ¬ S = 0 := fun g => hz (by rw [g]; exact wl_zero.symm)
        have l2 := look_2 hS h0 t3 12 0 13 (0, nI 7) (r.mmanyBy, -1, 1000000, 0) rfl rfl (by decide) (Or.inr ⟨rfl, rfl, rfl⟩)
        exact ⟨l2.symm, h⟩
    · simp only [if_neg h2]
      exact ⟨rfl, h.bad⟩
  · simp only [if_neg h1]
    exact ⟨rfl, h.bad⟩
