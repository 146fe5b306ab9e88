/-! SIMULATION 6: one by one: a day of the class's walk beside a day of the reference's town -/
theorem and_N : ∀ s, s < 128 → ∀ t, t < 128 → (nI s &&& nI t) = nI (s &&& t) := by decide +kernel
theorem shl_N : ∀ p, p < 9 → nI 1 <<< (nI p &&& 31) = nI (2 ^ p) := by decide +kernel
theorem has_and {n m k : Nat} (hn : n < 128) (hm : m < 128) (hk : k < 7) : m_X4_has (nI n &&& nI m) k = (n.testBit k && m.testBit k) := by
  have h : n &&& m ≤ n := Nat.and_le_left
  rw [and_N n hn m hm, has_tb _ (by omega) k (by omega), Nat.testBit_and]
theorem minus_bit (s t k : Nat) : (s ^^^ (s &&& t)).testBit k = (s.testBit k && !t.testBit k) := by
  rw [Nat.testBit_xor, Nat.testBit_and]
  cases s.testBit k <;> cases t.testBit k <;> rfl
theorem minus_lt {s P : Nat} (t : Nat) (hs : s < 2 ^ P) : s ^^^ (s &&& t) < 2 ^ P := Nat.xor_lt_two_pow hs (Nat.lt_of_le_of_lt Nat.and_le_left hs)
theorem iter_bits (f : Nat → Int32 → Int32) (b : Nat → Bool) {P : Nat} (hf : ∀ k s, k < P → s < 2 ^ k → f k (nI s) = nI (s + cond (b k) (2 ^ k) 0)) : wl_iter f P 0 (nI 0) = nI (sb b P) := by
  have g := iter_inv f (fun k v => k ≤ P → v = nI (sb b k)) P 0 (nI 0) (fun _ => rfl) (fun j v h1 h2 hI hj => by
    rw [hI (by omega), hf j _ (by omega) (sb_lt b j)]
    rfl)
  rw [Nat.zero_add] at g
  exact g (Nat.le_refl _)
/-- is that one struck, as the reference has it -/
def gS (n m : Nat) (d : Int32) (now te : Nat → Int32) (k : Nat) : Bool := n.testBit k && m.testBit k && m_X4_doesIt (nI m) d now te k
theorem goDay_bits {n m P : Nat} (hn : n < 128) (hm : m < 128) (hP : P ≤ 7) (d : Int32) (now te : Nat → Int32) : wl_iter (m_X4_goDay_l4 (nI n) (nI m) d now te) P 0 (nI 0) = nI (sb (gS n m d now te) P) := by
  refine iter_bits _ _ (fun k s hk hs => ?_)
  unfold m_X4_goDay_l4 gS
  dsimp only [wl_bnd]
  rw [has_and hn hm (by omega)]
  have o := or_bit k (by omega) s hs
  cases n.testBit k && m.testBit k
  · exact o false
  · cases m_X4_doesIt (nI m) d now te k
    · exact o false
    · exact o true
theorem goDay_temp {m P : Nat} (hm : m < 128) (hP : P ≤ 7) (now te : Nat → Int32) (i : Nat) : wl_iter (m_X4_goDay_l54 (nI m) now) P 0 te i = if i < P then m_X4_temperBehind (now (4 + i)) (te i) (m.testBit i) else te i := by
  have g := iter_inv (m_X4_goDay_l54 (nI m) now) (fun k v => k ≤ P → ∀ i, v i = if i < k then m_X4_temperBehind (now (4 + i)) (te i) (m.testBit i) else te i) P 0 te (fun _ i => by rw [if_neg (Nat.not_lt_zero _)]) (fun j v h1 h2 hI hj i => by
    have hI := hI (by omega)
    show upd v j (m_X4_temperBehind (now (4 + j)) (v j) (m_X4_has (nI m) j)) i = _
    rw [has_tb m (by omega) j (by omega)]
    by_cases hi : i = j
    · subst hi
      rw [pk_us, if_pos (by omega), hI, if_neg (by omega)]
    · rw [pk_un hi, hI]
      by_cases h3 : i < j
      · rw [if_pos h3, if_pos (by omega)]
      · rw [if_neg h3, if_neg (by omega)])
  rw [Nat.zero_add] at g
  exact g (Nat.le_refl _) i
theorem goDay_val {n m P : Nat} (hn : n < 128) (hm : m < 128) (hP : P ≤ 7) (d : Int32) (now te : Nat → Int32) : m_X4_goDay (nI n) (nI m) d now te P = (nI (sb (gS n m d now te) P), nI (n ^^^ (n &&& sb (gS n m d now te) P)), nI (m ^^^ (m &&& sb (gS n m d now te) P)), d + nI 1, wl_iter (m_X4_goDay_l54 (nI m) now) P 0 te) := by
  have S128 : sb (gS n m d now te) P < 128 := P128 (sb_lt _ _) hP
  unfold m_X4_goDay
  dsimp only [wl_bnd]
  rw [goDay_bits hn hm hP, diff_bits n hn _ S128, diff_bits m hm _ S128]
/-- is that one struck, as the class has it -/
def pst (k τ c d : Int32) (l f : Bool) : Bool := l && f && m_X2_doesIt k τ c d f
theorem goBy_X (k τ c d : Int32) (l f : Bool) : m_X2_goBy k τ c d l f = (pst k τ c d l f, clampX (if f = true then τ + m_X3_moreOf k else τ - nI 1), d + nI 1, l && !pst k τ c d l f, f && !pst k τ c d l f) := by
  unfold m_X2_goBy pst
  dsimp only [wl_bnd]
  cases l
  · cases f <;> rfl
  · cases f
    · rfl
    · cases m_X2_doesIt k τ c d true <;> rfl
theorem act_eq {k τ : Int32} (hk : Sm 6 k) (hτ : Sm 100 τ) (d : Int32) (f : Bool) : m_X3_actOf k d f τ = m_X4_actAs k τ d f := by
  obtain ⟨a, ha, rfl⟩ := hk
  obtain ⟨b, hb, rfl⟩ := hτ
  exact actOf_eq ha (by omega) d f
theorem doesIt_eq {k τ : Int32} (hk : Sm 6 k) (hτ : Sm 100 τ) {m p : Nat} (hm : m < 128) (hp : p < 7) (d : Int32) {now te : Nat → Int32} (h1 : now (4 + p) = k) (h2 : te p = τ) : m_X4_doesIt (nI m) d now te p = m_X2_doesIt k τ (now 1) d (m.testBit p) := by
  unfold m_X4_doesIt m_X4_actOf m_X4_kindOf m_X2_doesIt
  dsimp only [wl_bnd]
  rw [has_tb m (by omega) p (by omega), h1, h2, act_eq hk hτ]
theorem temper_eq {k : Int32} (τ : Int32) (hk : Sm 6 k) (f : Bool) : clampX (if f = true then τ + m_X3_moreOf k else τ - nI 1) = m_X4_temperBehind k τ f := by
  obtain ⟨a, ha, rfl⟩ := hk
  rw [temperBehind_eq, clamp_eq, moreOf_eq a ha]
theorem temper_Sm {k τ : Int32} (hk : Sm 6 k) (hτ : Sm 100 τ) (f : Bool) : Sm 100 (m_X4_temperBehind k τ f) := by
  obtain ⟨a, ha, rfl⟩ := hk
  obtain ⟨b, hb, rfl⟩ := hτ
  exact temperBehind_rng ha hb f
/-- one and the same, on both sides -/
def RW (p : Nat) (τ d : Int32) (l f : Bool) (L F d' : Int32) (te : Nat → Int32) : Prop := d' = d ∧ te p = τ ∧ Sm 100 τ ∧ (∃ n, n < 128 ∧ L = nI n ∧ n.testBit p = l) ∧ (∃ n, n < 128 ∧ F = nI n ∧ n.testBit p = f)
theorem RW.step {p P : Nat} {k c τ d d' L F : Int32} {l f : Bool} {now te : Nat → Int32} (h : RW p τ d l f L F d' te) (hp : p < P) (hP : P ≤ 7) (hk : now (4 + p) = k ∧ Sm 6 k) (hc : now 1 = c) :
    RW p (m_X2_goBy k τ c d l f).2.1 (m_X2_goBy k τ c d l f).2.2.1 (m_X2_goBy k τ c d l f).2.2.2.1 (m_X2_goBy k τ c d l f).2.2.2.2 (m_X4_goDay L F d' now te P).2.1 (m_X4_goDay L F d' now te P).2.2.1 (m_X4_goDay L F d' now te P).2.2.2.1 (m_X4_goDay L F d' now te P).2.2.2.2 ∧ m_X4_has (m_X4_goDay L F d' now te P).1 p = (m_X2_goBy k τ c d l f).1 := by
  obtain ⟨h1, h2, h3, ⟨n, hn, h4, hl⟩, ⟨m, hm, h5, hf⟩⟩ := h
  subst h1 h4 h5 hc
  have S128 : sb (gS n m d' now te) P < 128 := P128 (sb_lt _ _) hP
  have eb : (sb (gS n m d' now te) P).testBit p = pst k τ (now 1) d' l f := by
    rw [sb_bit _ P p hp, gS, doesIt_eq hk.2 h3 hm (by omega) d' hk.1 h2, hl, hf]
    rfl
  rw [goDay_val hn hm hP, goBy_X]
  refine ⟨⟨rfl, ?_, ?_, ⟨_, minus_lt (P := 7) _ hn, rfl, ?_⟩, ⟨_, minus_lt (P := 7) _ hm, rfl, ?_⟩⟩, ?_⟩
  · show wl_iter (m_X4_goDay_l54 (nI m) now) P 0 te p = _
    rw [goDay_temp hm hP, if_pos hp, hk.1, h2, hf]
    exact (temper_eq τ hk.2 f).symm
  · show Sm 100 (clampX _)
    rw [temper_eq τ hk.2]
    exact temper_Sm hk.2 h3 f
  · rw [minus_bit, eb, hl]
  · rw [minus_bit, eb, hf]
  · show m_X4_has (nI (sb (gS n m d' now te) P)) p = _
    rw [has_tb _ (by omega) p (by omega), eb]
theorem RW.does {p : Nat} {k c τ d d' L F : Int32} {l f : Bool} {now te : Nat → Int32} (h : RW p τ d l f L F d' te) (hp : p < 7) (hk : now (4 + p) = k ∧ Sm 6 k) (hc : now 1 = c) : m_X4_doesIt F d' now te p = m_X2_doesIt k τ c d f := by
  obtain ⟨h1, h2, h3, ⟨n, hn, h4, hl⟩, ⟨m, hm, h5, hf⟩⟩ := h
  subst h1 h4 h5 hc
  rw [doesIt_eq hk.2 h3 hm hp d' hk.1 h2, hf]
theorem RW.act {p : Nat} {k τ d d' L F : Int32} {l f : Bool} {now te : Nat → Int32} (h : RW p τ d l f L F d' te) (hp : p < 7) (hk : now (4 + p) = k ∧ Sm 6 k) : m_X4_actOf F d' now te p = m_X2_actOfDay k τ d f := by
  obtain ⟨h1, h2, h3, ⟨n, hn, h4, hl⟩, ⟨m, hm, h5, hf⟩⟩ := h
  subst h1 h4 h5
  unfold m_X4_actOf m_X4_kindOf m_X2_actOfDay
  dsimp only [wl_bnd]
  rw [has_tb m (by omega) p (by omega), hk.1, h2, hf, act_eq hk.2 h3]
theorem startWalk_eq (c d L F : Int32) (kinds tempers : Nat → Int32) (p : Nat) : m_X1_startWalk c d L F kinds tempers p = (kinds p, tempers p, c, d, m_X4_has L p, m_X4_has F p) := by
  unfold m_X1_startWalk
  dsimp only [wl_bnd]
  rw [has_bit, has_bit]
  by_cases h1 : m_X3_bitOf L p = nI 1
  · by_cases h2 : m_X3_bitOf F p = nI 1
    · rw [if_pos h1, if_pos h2, decide_eq_true h1, decide_eq_true h2]
    · rw [if_pos h1, if_neg h2, decide_eq_true h1, decide_eq_false h2]
  · by_cases h2 : m_X3_bitOf F p = nI 1
    · rw [if_neg h1, if_pos h2, decide_eq_false h1, decide_eq_true h2]
    · rw [if_neg h1, if_neg h2, decide_eq_false h1, decide_eq_false h2]
theorem hand_at (now te : Nat → Int32) (P i : Nat) : (m_X4_layHand now te P).2.2.2 i = if i < P then now (11 + i) else te i := by
  have g := iter_inv (m_X4_layHand_l2 now) (fun k v => ∀ i, v i = if i < k then now (11 + i) else te i) P 0 te (fun i => by rw [if_neg (Nat.not_lt_zero _)]) (fun j v h1 h2 hI i => by
    show upd v j (now (11 + j)) i = _
    by_cases hi : i = j
    · subst hi
      rw [pk_us, if_pos (by omega)]
    · rw [pk_un hi, hI]
      by_cases h3 : i < j
      · rw [if_pos h3, if_pos (by omega)]
      · rw [if_neg h3, if_neg (by omega)])
  rw [Nat.zero_add] at g
  exact g i
theorem RW.start {T : Tn} {now : Nat → Int32} (h : RT T now) {p : Nat} (hp : p < T.people) (te : Nat → Int32) : RW p (T.tempers p) T.day (m_X4_has T.listed p) (m_X4_has T.followed p) (m_X4_layHand now te T.people).1 (m_X4_layHand now te T.people).2.1 (m_X4_layHand now te T.people).2.2.1 (m_X4_layHand now te T.people).2.2.2 := by
  have h7 := h.hp
  obtain ⟨n, hn, en⟩ := h.el.2
  obtain ⟨m, hm, em⟩ := h.ef.2
  have n1 := P128 hn h7
  have m1 := P128 hm h7
  refine ⟨h.ed, ?_, (h.et p hp).2, ⟨n, n1, h.el.1.trans en, ?_⟩, ⟨m, m1, h.ef.1.trans em, ?_⟩⟩
  · rw [hand_at, if_pos hp]
    exact (h.et p hp).1
  · rw [en, has_tb n (by omega) p (by omega)]
  · rw [em, has_tb m (by omega) p (by omega)]
