/-! SIMULATION 12: readings, source, rests -/
theorem sb_eqn {b : Nat → Bool} {P n : Nat} (hn : n < 2 ^ P) : sb b P = n ↔ ∀ k, k < P → b k = n.testBit k := by
  constructor
  · intro h k hk
    rw [← h, sb_bit b P k hk]
  · intro h
    refine Nat.eq_of_testBit_eq (fun k => ?_)
    by_cases hk : k < P
    · rw [sb_bit b P k hk, h k hk]
    · rw [Nat.testBit_lt_two_pow (Nat.lt_of_lt_of_le (sb_lt b P) (Nat.pow_le_pow_right (by decide) (by omega))), Nat.testBit_lt_two_pow (Nat.lt_of_lt_of_le hn (Nat.pow_le_pow_right (by decide) (by omega)))]
/-- all of them are as they should -/
theorem all_iff {f : Nat → Bool → Bool} {e : Nat → Prop} {P : Nat} (h0 : ∀ k, k < P → f k false = false) (h1 : ∀ k, k < P → (f k true = true ↔ e k)) : wl_iter f P 0 true = true ↔ ∀ k, k < P → e k := by
  have g := iter_inv f (fun k v => k ≤ P → (v = true ↔ ∀ j, j < k → e j)) P 0 true (fun _ => ⟨fun _ j hj => absurd hj (Nat.not_lt_zero _), fun _ => rfl⟩) (fun j v _ _ hI hj => by
    have hI := hI (by omega)
    cases v
    · rw [h0 j (by omega)]
      constructor
      · intro g; exact absurd g (by decide)
      · intro g; exact absurd (hI.mpr (fun i hi => g i (by omega))) (by decide)
    · rw [h1 j (by omega)]
      constructor
      · intro g i hi
        by_cases hx : i = j
        · rw [hx]; exact g
        · exact hI.mp rfl i (by omega)
      · intro g; exact g j (by omega))
  rw [Nat.zero_add] at g
  exact g (Nat.le_refl _)
theorem beq_ite (x y : Bool) : ((if x = y then true else false) = true) ↔ x = y := by cases x <;> cases y <;> decide
theorem two_ite {a b : Bool} (h : a = true ↔ b = true) : a = b := by
  cases a <;> cases b
  · rfl
  · exact absurd (h.mpr rfl) (by decide)
  · exact absurd (h.mp rfl) (by decide)
  · rfl
theorem sim_readings {s : SX} {r : SM} (h : RR s r) : (aX_readings s).1 = (aM_readings s r).1 ∧ RR (uX_readings s (aX_readings s)) (uM_readings r (aM_readings s r)) := by
  refine ⟨?_, h⟩
  have t := h.rt
  have hp7 := t.hp
  obtain ⟨n, hn, en⟩ := t.el.2
  have n7 := P128 hn hp7
  unfold aX_readings aM_readings m_X3_readings m_X4_readings
  dsimp only [wl_bnd]
  have it := iter2 (m_X3_readings_l4 s.T0.counts s.T0.people s.T0.day s.T0.listed s.T0.followed s.T0.kinds s.T0.tempers) (m_X4_readings_l8 r.mnow s.T0.people (m_X4_layHand r.mnow r.mtempers s.T0.people)) (fun k v w => k ≤ 6 → v.2.2.2.2.2.2 = w ∧ ∃ x, x < 2 ^ k ∧ w = nI x) 5 1 (s.wkind, s.wtemper, s.wcounts, s.wday, s.wlisted, s.wfollowed, nI 0) (nI 0) (fun _ => ⟨rfl, 0, by decide, rfl⟩) (fun j v w h1 h2 hI hj => by
    obtain ⟨e, x, hx, ex⟩ := hI (by omega)
    have gi := iter_inv (m_X3_readings_l14 s.T0.counts s.T0.day s.T0.listed s.T0.followed s.T0.kinds s.T0.tempers j) (fun k u => k ≤ s.T0.people → u.2.2.2.2.2.2 = nI (sb (fun k => (if m_X2_actOfDay (s.T0.kinds k) (s.T0.tempers k) s.T0.day (m_X4_has s.T0.followed k) < nI j then false else true)) k)) s.T0.people 0 (v.1, v.2.1, v.2.2.1, v.2.2.2.1, v.2.2.2.2.1, v.2.2.2.2.2.1, nI 0) (fun _ => rfl) (fun i u _ _ hu hi => by
      show m_X3_withBit u.2.2.2.2.2.2 i (wl_b (if (m_X3_actToday s.T0.counts s.T0.day s.T0.listed s.T0.followed s.T0.kinds s.T0.tempers i).1 < nI j then false else true)) = _
      unfold m_X3_actToday
      dsimp only [wl_bnd]
      rw [startWalk_eq, hu (by omega), with_bit i (by omega) _ (sb_lt _ i)]
      rfl)
    rw [Nat.zero_add] at gi
    have gi := gi (Nat.le_refl _)
    have ga := all_iff (f := m_X4_readings_l19 r.mnow j (m_X4_layHand r.mnow r.mtempers s.T0.people)) (e := fun k => (if m_X2_actOfDay (s.T0.kinds k) (s.T0.tempers k) s.T0.day (m_X4_has s.T0.followed k) < nI j then false else true) = n.testBit k) (P := s.T0.people) (fun k _ => rfl) (fun k hk => by
      have st := RW.start t hk r.mtempers
      have ac := st.act (by omega) (t.ek k hk)
      show ((if (if m_X4_actOf (m_X4_layHand r.mnow r.mtempers s.T0.people).2.1 (m_X4_layHand r.mnow r.mtempers s.T0.people).2.2.1 r.mnow (m_X4_layHand r.mnow r.mtempers s.T0.people).2.2.2 k < nI j then false else true) = m_X4_has (r.mnow 18) k then true else false) = true) ↔ _
      rw [ac, show r.mnow 18 = s.T0.listed from t.el.1, en, has_tb n (by omega) k (by omega)]
      exact beq_ite _ _)
    have eb : (if (wl_iter (m_X3_readings_l14 s.T0.counts s.T0.day s.T0.listed s.T0.followed s.T0.kinds s.T0.tempers j) s.T0.people 0 (v.1, v.2.1, v.2.2.1, v.2.2.2.1, v.2.2.2.2.1, v.2.2.2.2.2.1, nI 0)).2.2.2.2.2.2 = s.T0.listed then true else false) = wl_iter (m_X4_readings_l19 r.mnow j (m_X4_layHand r.mnow r.mtempers s.T0.people)) s.T0.people 0 true := by
      refine two_ite ?_
      rw [ga, ← sb_eqn hn, gi, en]
      constructor
      · intro g
        by_cases hz : nI (sb (fun k => (if m_X2_actOfDay (s.T0.kinds k) (s.T0.tempers k) s.T0.day (m_X4_has s.T0.followed k) < nI j then false else true)) s.T0.people) = nI n
        · exact nI_inj (Nat.lt_trans (P128 (sb_lt _ _) hp7) (by decide)) (Nat.lt_trans n7 (by decide)) hz
        · rw [if_neg hz] at g
          exact absurd g (by decide)
      · intro g
        rw [g, if_pos rfl]
    unfold m_X3_readings_l4 m_X4_readings_l8
    dsimp only [wl_bnd]
    rw [eb, e, ex]
    generalize wl_iter (m_X4_readings_l19 r.mnow j (m_X4_layHand r.mnow r.mtempers s.T0.people)) s.T0.people 0 true = b
    have o := or_bit j (by omega) x hx b
    rw [with_bit j (by omega) x hx b]
    have hlt : x + cond b (2 ^ j) 0 < 2 ^ (j + 1) := by
      rw [Nat.pow_succ]
      cases b
      · show x + 0 < _; omega
      · show x + 2 ^ j < _; omega
    cases b
    · exact ⟨o.symm, _, hlt, o⟩
    · exact ⟨o.symm, _, hlt, o⟩)
  exact (it (by decide)).1
theorem temp_src {s : SX} {r : SM} (h : RR s r) : nI (m_X3_tempersOfSource s.T0.people s.T0.listed s.T0.tempers) = m_X4_manySources r.mnow s.T0.people := by
  have t := h.rt
  have hp7 := t.hp
  obtain ⟨n, hn, en⟩ := t.el.2
  have n7 := P128 hn hp7
  unfold m_X3_tempersOfSource m_X4_manySources
  dsimp only [wl_bnd]
  refine congrArg nI ?_
  refine iter2 (m_X3_tempersOfSource_l4 s.T0.people s.T0.listed s.T0.tempers) (m_X4_manySources_l4 r.mnow s.T0.people) (fun _ v w => v = w) 101 0 0 0 rfl (fun j v w _ _ hv => ?_)
  have gi := iter_bits (m_X3_tempersOfSource_l15 s.T0.tempers j) (fun k => (if s.T0.tempers k < nI j then false else true)) (P := s.T0.people) (fun k x hk hx => by
    unfold m_X3_tempersOfSource_l15
    dsimp only [wl_bnd]
    rw [with_bit k (by omega) x hx])
  have ga := all_iff (f := m_X4_manySources_l15 r.mnow j) (e := fun k => (if s.T0.tempers k < nI j then false else true) = n.testBit k) (P := s.T0.people) (fun k _ => rfl) (fun k hk => by
    show ((if (if r.mnow (11 + k) < nI j then false else true) = m_X4_has (r.mnow 18) k then true else false) = true) ↔ _
    rw [(t.et k hk).1, show r.mnow 18 = s.T0.listed from t.el.1, en, has_tb n (by omega) k (by omega)]
    exact beq_ite _ _)
  unfold m_X3_tempersOfSource_l4 m_X4_manySources_l4
  dsimp only [wl_bnd]
  rw [gi, hv, en]
  have key : nI (sb (fun k => (if s.T0.tempers k < nI j then false else true)) s.T0.people) = nI n ↔ wl_iter (m_X4_manySources_l15 r.mnow j) s.T0.people 0 true = true := by
    rw [ga, ← sb_eqn hn]
    exact nI_eq (Nat.lt_trans (P128 (sb_lt _ _) hp7) (by decide)) (Nat.lt_trans n7 (by decide))
  by_cases hz : nI (sb (fun k => (if s.T0.tempers k < nI j then false else true)) s.T0.people) = nI n
  · rw [if_pos hz, if_pos (key.mp hz)]
  · rw [if_neg hz, if_neg (fun g => hz (key.mpr g))]
    rfl
theorem run_all {f : Nat → Nat ⊕ Nat} {e : Nat → Bool} {N : Nat} (hN : ∀ v, N ≤ v → f v = .inr 1) (hs : ∀ v, v < N → f v = if e v = true then .inl (v + 1) else .inr 0) : ∀ (m k fuel : Nat), k + m = N → m < fuel → wl_run f default fuel k = if wl_iter (fun j v => (if v = true then e j else false)) m k true = true then 1 else 0 := by
  have z : ∀ m k, wl_iter (fun j v => (if v = true then e j else false)) m k false = false := fun m k => iter_inv (fun j v => (if v = true then e j else false)) (fun _ v => v = false) m k false rfl (fun j v _ _ hv => by rw [hv]; rfl)
  intro m
  induction m with
  | zero =>
    intro k fuel hk hf
    cases fuel with
    | zero => exact absurd hf (Nat.not_lt_zero _)
    | succ fuel =>
      rw [wl_run, hN k (by omega)]
      rfl
  | succ m ih =>
    intro k fuel hk hf
    cases fuel with
    | zero => exact absurd hf (Nat.not_lt_zero _)
    | succ fuel =>
      rw [wl_run, hs k (by omega), wl_iter]
      by_cases he : e k = true
      · rw [if_pos he]
        show wl_run f default fuel (k + 1) = if wl_iter (fun j v => (if v = true then e j else false)) m (k + 1) (e k) = true then 1 else 0
        rw [he]
        exact ih (k + 1) fuel (by omega) (by omega)
      · rw [if_neg he]
        show 0 = if wl_iter (fun j v => (if v = true then e j else false)) m (k + 1) (e k) = true then 1 else 0
        rw [Bool.eq_false_iff.mpr he, z]
        rfl
theorem and_sb {b : Nat → Bool} {P n : Nat} : (sb b P &&& n = 0 ↔ ∀ k, k < P → b k = true → n.testBit k = false) ∧ (sb b P &&& n = sb b P ↔ ∀ k, k < P → b k = true → n.testBit k = true) := by
  have hz : ∀ k, ¬ k < P → (sb b P).testBit k = false := fun k hk => Nat.testBit_lt_two_pow (Nat.lt_of_lt_of_le (sb_lt b P) (Nat.pow_le_pow_right (by decide) (by omega)))
  refine ⟨⟨fun g k hk hb => ?_, fun g => ?_⟩, ⟨fun g k hk hb => ?_, fun g => ?_⟩⟩
  · have e : (sb b P &&& n).testBit k = false := by rw [g, Nat.zero_testBit]
    rw [Nat.testBit_and, sb_bit b P k hk, hb] at e
    exact e
  · refine Nat.eq_of_testBit_eq (fun k => ?_)
    rw [Nat.testBit_and, Nat.zero_testBit]
    by_cases hk : k < P
    · rw [sb_bit b P k hk]
      cases hb : b k
      · rfl
      · rw [g k hk hb]; rfl
    · rw [hz k hk]; rfl
  · have e : (sb b P &&& n).testBit k = (sb b P).testBit k := by rw [g]
    rw [Nat.testBit_and, sb_bit b P k hk, hb] at e
    exact e
  · refine Nat.eq_of_testBit_eq (fun k => ?_)
    rw [Nat.testBit_and]
    by_cases hk : k < P
    · rw [sb_bit b P k hk]
      cases hb : b k
      · rfl
      · rw [g k hk hb]; rfl
    · rw [hz k hk]; rfl
theorem even_in {s : SX} {r : SM} (h : RR s r) {n : Nat} (n7 : n < 128) (en : s.T0.listed = nI n) (j : Nat) : ((wl_iter (m_X4_areKindsEven_l18 r.mnow j) s.T0.people 0 (true, true)).1 = true ↔ ∀ k, k < s.T0.people → s.T0.kinds k = nI j → n.testBit k = true) ∧ ((wl_iter (m_X4_areKindsEven_l18 r.mnow j) s.T0.people 0 (true, true)).2 = true ↔ ∀ k, k < s.T0.people → s.T0.kinds k = nI j → n.testBit k = false) := by
  have t := h.rt
  have hp7 := t.hp
  have g := iter_inv (m_X4_areKindsEven_l18 r.mnow j) (fun q v => q ≤ s.T0.people → (v.1 = true ↔ ∀ k, k < q → s.T0.kinds k = nI j → n.testBit k = true) ∧ (v.2 = true ↔ ∀ k, k < q → s.T0.kinds k = nI j → n.testBit k = false)) s.T0.people 0 (true, true) (fun _ => ⟨⟨fun _ k hk => absurd hk (Nat.not_lt_zero _), fun _ => rfl⟩, ⟨fun _ k hk => absurd hk (Nat.not_lt_zero _), fun _ => rfl⟩⟩) (fun q v _ _ hI hq => by
    obtain ⟨i1, i2⟩ := hI (by omega)
    have eK := (t.ek q (by omega)).1
    have eh : m_X4_has (r.mnow 18) q = n.testBit q := by rw [show r.mnow 18 = s.T0.listed from t.el.1, en, has_tb n (by omega) q (by omega)]
    have ext : ∀ (b : Bool), (∀ k, k < q + 1 → s.T0.kinds k = nI j → n.testBit k = b) ↔ (∀ k, k < q → s.T0.kinds k = nI j → n.testBit k = b) ∧ (s.T0.kinds q = nI j → n.testBit q = b) := fun b => ⟨fun g => ⟨fun k hk => g k (by omega), g q (by omega)⟩, fun g k hk => by
      by_cases hx : k = q
      · rw [hx]; exact g.2
      · exact g.1 k (by omega)⟩
    rw [ext true, ext false, ← i1, ← i2]
    obtain ⟨v1, v2⟩ := v
    unfold m_X4_areKindsEven_l18 m_X4_kindOf
    dsimp only [wl_bnd]
    rw [eK, eh]
    by_cases hk : s.T0.kinds q = nI j
    · simp only [if_pos hk, hk]
      cases v1 <;> cases v2 <;> cases n.testBit q <;> decide
    · simp only [if_neg hk, hk]
      cases v1 <;> cases v2 <;> cases n.testBit q <;> decide)
  rw [Nat.zero_add] at g
  exact g (Nat.le_refl _)
theorem kind_src {s : SX} {r : SM} (h : RR s r) : nI (m_X3_kindsOfSource s.T0.people s.T0.listed s.T0.kinds) = (if m_X4_areKindsEven r.mnow s.T0.people = true then nI 1 else nI 0) := by
  have t := h.rt
  have hp7 := t.hp
  obtain ⟨n, hn, en⟩ := t.el.2
  have n7 := P128 hn hp7
  have st : ∀ v, v < 6 → m_X3_kindsOfSource_l2 s.T0.people s.T0.listed s.T0.kinds v = if (if (wl_iter (m_X4_areKindsEven_l18 r.mnow v) s.T0.people 0 (true, true)).1 = true then true else (if (wl_iter (m_X4_areKindsEven_l18 r.mnow v) s.T0.people 0 (true, true)).2 = true then true else false)) = true then .inl (v + 1) else .inr 0 := fun v hv => by
    have gi := iter_bits (m_X3_kindsOfSource_l12 s.T0.kinds v) (fun k => (if s.T0.kinds k = nI v then true else false)) (P := s.T0.people) (fun k x hk hx => by
      unfold m_X3_kindsOfSource_l12
      dsimp only [wl_bnd]
      rw [with_bit k (by omega) x hx])
    obtain ⟨e1, e2⟩ := even_in h n7 en v
    have hS : sb (fun k => (if s.T0.kinds k = nI v then true else false)) s.T0.people < 128 := P128 (sb_lt _ _) hp7
    obtain ⟨a1, a2⟩ := and_sb (b := fun k => (if s.T0.kinds k = nI v then true else false)) (P := s.T0.people) (n := n)
    have tk : ∀ k, ((if s.T0.kinds k = nI v then true else false) = true) ↔ s.T0.kinds k = nI v := fun k => by
      by_cases hk : s.T0.kinds k = nI v
      · rw [if_pos hk]; exact ⟨fun _ => hk, fun _ => rfl⟩
      · rw [if_neg hk]; exact ⟨fun g => absurd g (by decide), fun g => absurd g hk⟩
    have c1 : sb (fun k => (if s.T0.kinds k = nI v then true else false)) s.T0.people &&& n = 0 ↔ (wl_iter (m_X4_areKindsEven_l18 r.mnow v) s.T0.people 0 (true, true)).2 = true := by
      rw [a1, e2]
      exact ⟨fun g k hk hb => g k hk ((tk k).mpr hb), fun g k hk hb => g k hk ((tk k).mp hb)⟩
    have c2 : sb (fun k => (if s.T0.kinds k = nI v then true else false)) s.T0.people &&& n = sb (fun k => (if s.T0.kinds k = nI v then true else false)) s.T0.people ↔ (wl_iter (m_X4_areKindsEven_l18 r.mnow v) s.T0.people 0 (true, true)).1 = true := by
      rw [a2, e1]
      exact ⟨fun g k hk hb => g k hk ((tk k).mpr hb), fun g k hk hb => g k hk ((tk k).mp hb)⟩
    have hA : sb (fun k => (if s.T0.kinds k = nI v then true else false)) s.T0.people &&& n < 128 := Nat.lt_of_le_of_lt Nat.and_le_left hS
    unfold m_X3_kindsOfSource_l2
    dsimp only [wl_bnd]
    rw [if_neg (show ¬ 6 ≤ v by omega), gi, en, and_N _ hS n n7]
    have d1 : nI (sb (fun k => (if s.T0.kinds k = nI v then true else false)) s.T0.people &&& n) = 0 ↔ _ := (nI_z _ (by omega)).trans c1
    have d2 : nI (sb (fun k => (if s.T0.kinds k = nI v then true else false)) s.T0.people &&& n) = nI (sb (fun k => (if s.T0.kinds k = nI v then true else false)) s.T0.people) ↔ _ := (nI_eq (by omega) (by omega)).trans c2
    by_cases b2 : (wl_iter (m_X4_areKindsEven_l18 r.mnow v) s.T0.people 0 (true, true)).2 = true
    · rw [if_pos (d1.mpr b2), if_pos b2]
      by_cases b1 : (wl_iter (m_X4_areKindsEven_l18 r.mnow v) s.T0.people 0 (true, true)).1 = true
      · rw [if_pos b1]; rfl
      · rw [if_neg b1]; rfl
    · rw [if_neg (fun g => b2 (d1.mp g)), if_neg b2]
      by_cases b1 : (wl_iter (m_X4_areKindsEven_l18 r.mnow v) s.T0.people 0 (true, true)).1 = true
      · rw [if_pos (d2.mpr b1), if_pos b1]; rfl
      · rw [if_neg (fun g => b1 (d2.mp g)), if_neg b1]; rfl
  have ra := run_all (f := m_X3_kindsOfSource_l2 s.T0.people s.T0.listed s.T0.kinds) (N := 6) (e := fun v => (if (wl_iter (m_X4_areKindsEven_l18 r.mnow v) s.T0.people 0 (true, true)).1 = true then true else (if (wl_iter (m_X4_areKindsEven_l18 r.mnow v) s.T0.people 0 (true, true)).2 = true then true else false))) (fun v hv => if_pos hv) st 6 0 7 rfl (by decide)
  unfold m_X3_kindsOfSource m_X4_areKindsEven
  dsimp only [wl_bnd]
  rw [ra]
  have e : wl_iter (m_X4_areKindsEven_l4 r.mnow s.T0.people) 6 0 true = wl_iter (fun j v => (if v = true then (if (wl_iter (m_X4_areKindsEven_l18 r.mnow j) s.T0.people 0 (true, true)).1 = true then true else (if (wl_iter (m_X4_areKindsEven_l18 r.mnow j) s.T0.people 0 (true, true)).2 = true then true else false)) else false)) 6 0 true := rfl
  rw [← e]
  cases wl_iter (m_X4_areKindsEven_l4 r.mnow s.T0.people) 6 0 true <;> rfl
theorem sim_source {s : SX} {r : SM} (h : RR s r) (what : Int32) : (aX_source s what).1 = (aM_source s r what).1 ∧ RR (uX_source s (aX_source s what)) (uM_source r (aM_source s r what)) := by
  unfold aX_source aM_source m_X3_source m_X4_source wl_bnd
  rw [win (by decide) (by decide)]
  by_cases h1 : m_X4_in what.toInt64 (lN 0) (lN 1) = true
  · simp only [if_pos h1]
    rcases in_01 h1 with c | c
    · have c0 : what = 0 := c.trans wl_zero.symm
      simp only [if_pos c0]
      exact ⟨temp_src h, h⟩
    · have c0 : ¬ what = 0 := by rw [c]; decide +kernel
      simp only [if_neg c0, if_pos c]
      have k := kind_src h
      by_cases hz : m_X4_areKindsEven r.mnow s.T0.people = true
      · rw [if_pos hz] at k
        simp only [if_pos hz]
        exact ⟨k, h⟩
      · rw [if_neg hz] at k
        simp only [if_neg hz]
        exact ⟨k, h⟩
  · have n0 : ¬ what = 0 := fun q => h1 (by rw [q, wl_zero]; exact in_lit (by decide) (by decide))
    have n1 : ¬ what = nI 1 := fun q => h1 (by rw [q]; exact in_lit (by decide) (by decide))
    simp only [if_neg h1, if_neg n0, if_neg n1]
    exact ⟨rfl, h.bad⟩
/-! rests -/
def hisN (a : Bool) (k : Nat) : Nat := if k ≤ 1 then (if k = 0 then (if a = true then 2 else 0) else 0) else 1
def theirsN (b : Bool) (k : Nat) : Int32 := if 2 ≤ k then (if k = 2 then (if b = true then (-1) else nI 1) else nI 1) else nI 0
theorem rests_at (a b : Bool) (x y : Nat → Int32) (i : Nat) (hi : i < 4) : (wl_iter (m_X4_rests_l93 a b) 4 0 (x, y)).1 i = nI (hisN a i) ∧ (wl_iter (m_X4_rests_l93 a b) 4 0 (x, y)).2 i = theirsN b i := by
  have g := iter_inv (m_X4_rests_l93 a b) (fun k v => k ≤ 4 → ∀ i, i < k → v.1 i = nI (hisN a i) ∧ v.2 i = theirsN b i) 4 0 (x, y) (fun _ i hi => absurd hi (Nat.not_lt_zero _)) (fun j v _ _ hI hj i hi => by
    have hI := hI (by omega)
    have e1 : (m_X4_rests_l93 a b j v).1 = upd v.1 j (nI (hisN a j)) := by
      unfold m_X4_rests_l93 hisN
      dsimp only [wl_bnd]
      by_cases h2 : 2 ≤ j
      · rw [if_pos h2]
        by_cases h3 : j = 2
        · rw [if_pos h3]
          cases b <;> rfl
        · rw [if_neg h3]
      · rw [if_neg h2]
    have e2 : (m_X4_rests_l93 a b j v).2 = upd v.2 j (theirsN b j) := by
      unfold m_X4_rests_l93 theirsN
      dsimp only [wl_bnd]
      by_cases h2 : 2 ≤ j
      · rw [if_pos h2, if_pos h2]
        by_cases h3 : j = 2
        · rw [if_pos h3, if_pos h3]
          cases b <;> rfl
        · rw [if_neg h3, if_neg h3]
      · rw [if_neg h2, if_neg h2]
    rw [e1, e2]
    by_cases hx : i = j
    · rw [hx, pk_us, pk_us]; exact ⟨rfl, rfl⟩
    · rw [pk_un hx, pk_un hx]; exact hI i (by omega))
  rw [Nat.zero_add] at g
  exact g (by decide) i hi
theorem pays_1 {c : Int32} (hc : ∃ n, 1 ≤ n ∧ n ≤ 5 ∧ c = nI n) (d : Int32) (kinds tempers : Nat → Int32) (p : Nat) : ∀ k, k < 4 → m_X3_paysOne c d kinds tempers p k = nI (hisN (if m_X3_actOf (kinds p) d true (tempers p) < c then false else true) k) := by
  intro k hk
  obtain ⟨n, h1, h2, rfl⟩ := hc
  have hz : nI 0 < nI n := by
    have : ∀ n, n < 6 → 1 ≤ n → nI 0 < nI n := by decide +kernel
    exact this n (by omega) h1
  have hk4 : k = 0 ∨ k = 1 ∨ k = 2 ∨ k = 3 := by omega
  unfold m_X3_paysOne m_X3_isItIn
  dsimp only [wl_bnd]
  rcases hk4 with g | g | g | g
  · subst g
    have e : m_X3_isFollowedIn 0 = true := rfl
    rw [e]
    show (if (if m_X3_actOf (kinds p) d true (tempers p) < nI n then false else true) = true then nI 2 else nI 0) = _
    cases (if m_X3_actOf (kinds p) d true (tempers p) < nI n then false else true) <;> rfl
  · subst g
    show (if (if nI 0 < nI n then false else true) = true then nI 2 else nI 0) = _
    rw [if_pos hz]
    rfl
  · subst g; rfl
  · subst g; rfl
theorem pays_2 {c : Int32} (hc : ∃ n, 1 ≤ n ∧ n ≤ 5 ∧ c = nI n) (d : Int32) (kinds tempers : Nat → Int32) (p : Nat) : ∀ k, k < 4 → m_X3_paysFollower c d kinds tempers p k = theirsN (if m_X3_actOf (kinds p) d false (tempers p) < c then false else true) k := by
  intro k hk
  obtain ⟨n, h1, h2, rfl⟩ := hc
  have hz : nI 0 < nI n := by
    have : ∀ n, n < 6 → 1 ≤ n → nI 0 < nI n := by decide +kernel
    exact this n (by omega) h1
  have hk4 : k = 0 ∨ k = 1 ∨ k = 2 ∨ k = 3 := by omega
  unfold m_X3_paysFollower m_X3_isItIn
  dsimp only [wl_bnd]
  rcases hk4 with g | g | g | g
  · subst g; rfl
  · subst g; rfl
  · subst g
    have e : m_X3_isFollowedIn 2 = false := rfl
    rw [e]
    show (if (if m_X3_actOf (kinds p) d false (tempers p) < nI n then false else true) = true then (-1) else nI 1) = _
    cases (if m_X3_actOf (kinds p) d false (tempers p) < nI n then false else true) <;> rfl
  · subst g
    show (if (if nI 0 < nI n then false else true) = true then (-1) else nI 1) = _
    rw [if_pos hz]
    rfl
theorem sim_rests {s : SX} {r : SM} (h : RR s r) (p : Int32) : (aX_rests s p).1 = (aM_rests s r p).1 ∧ RR (uX_rests s (aX_rests s p)) (uM_rests r (aM_rests s r p)) := by
  unfold aX_rests aM_rests m_X3_rests m_X4_rests wl_bnd
  have t := h.rt
  have hp7 := t.hp
  rw [isThere_isOne hp7]
  by_cases h1 : m_X4_isOne p s.T0.people = true
  · simp only [if_pos h1]
    obtain ⟨g1, g2⟩ := isOne_spec hp7 h1
    obtain ⟨k1, k2⟩ := t.ek _ g2
    obtain ⟨t1, t2⟩ := t.et _ g2
    refine ⟨?_, h⟩
    have aF : ∀ f, m_X4_actAs (m_X4_kindOf r.mnow (cl p)) (r.mnow (11 + cl p)) (r.mnow 21) f = m_X3_actOf (s.T0.kinds (cl p)) s.T0.day f (s.T0.tempers (cl p)) := fun f => by
      unfold m_X4_kindOf
      rw [k1, t1, show r.mnow 21 = s.T0.day from t.ed, act_eq k2 t2]
    rw [aF, aF, show r.mnow 1 = s.T0.counts from t.e1]
    have p1 := pays_1 t.ec s.T0.day s.T0.kinds s.T0.tempers (cl p)
    have p2 := pays_2 t.ec s.T0.day s.T0.kinds s.T0.tempers (cl p)
    have ra := rests_at (if m_X3_actOf (s.T0.kinds (cl p)) s.T0.day true (s.T0.tempers (cl p)) < s.T0.counts then false else true) (if m_X3_actOf (s.T0.kinds (cl p)) s.T0.day false (s.T0.tempers (cl p)) < s.T0.counts then false else true) r.mhis r.mtheirs
    generalize wl_iter (m_X4_rests_l93 (if m_X3_actOf (s.T0.kinds (cl p)) s.T0.day true (s.T0.tempers (cl p)) < s.T0.counts then false else true) (if m_X3_actOf (s.T0.kinds (cl p)) s.T0.day false (s.T0.tempers (cl p)) < s.T0.counts then false else true)) 4 0 (r.mhis, r.mtheirs) = z at ra ⊢
    have it := iter2 (m_X3_rests_l17 s.T0.counts s.T0.day s.T0.kinds s.T0.tempers p) (m_X4_rests_l175 z) (fun k v w => k ≤ 4 → v = w ∧ ∃ x, x < 2 ^ k ∧ w = nI x) 4 0 (nI 0) (nI 0) (fun _ => ⟨rfl, 0, by decide, rfl⟩) (fun j v w _ _ hI hj => by
      obtain ⟨e, x, hx, ex⟩ := hI (by omega)
      subst e
      unfold m_X3_rests_l17 m_X4_rests_l175
      dsimp only [wl_bnd]
      rw [p1 _ (wl_x1 j (by omega)), p1 j (by omega), p2 _ (wl_x2 j (by omega)), p2 j (by omega), (ra _ (wl_x1 j (by omega))).1, (ra j (by omega)).1, (ra _ (wl_x2 j (by omega))).2, (ra j (by omega)).2, ex]
      have fin : ∀ b : Bool, m_X3_withBit (nI x) j (wl_b b) = (if b = true then (nI x ||| (nI 1 <<< (nI j &&& 31))) else (nI x ||| nI 0)) ∧ ∃ y, y < 2 ^ (j + 1) ∧ (if b = true then (nI x ||| (nI 1 <<< (nI j &&& 31))) else (nI x ||| nI 0)) = nI y := fun b => by
        have o := or_bit j (by omega) x hx b
        have hlt : x + cond b (2 ^ j) 0 < 2 ^ (j + 1) := by
          rw [Nat.pow_succ]
          cases b
          · show x + 0 < _; omega
          · show x + 2 ^ j < _; omega
        rw [with_bit j (by omega) x hx b]
        cases b
        · exact ⟨o.symm, _, hlt, o⟩
        · exact ⟨o.symm, _, hlt, o⟩
      have same : ∀ (a b c d : Int32), (if (if a < b then false else true) = true then (if (if c < d then false else true) = true then true else false) else false) = (if a < b then false else if c < d then false else true) := fun a b c d => by
        by_cases q1 : a < b
        · rw [if_pos q1, if_pos q1]; rfl
        · rw [if_neg q1, if_neg q1]
          by_cases q2 : c < d
          · rw [if_pos q2]; rfl
          · rw [if_neg q2]; rfl
      rw [same]
      exact fin _)
    exact (it (by decide)).1
  · simp only [if_neg h1]
    exact ⟨rfl, h.bad⟩
