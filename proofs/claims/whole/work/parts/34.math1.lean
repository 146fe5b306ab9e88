/-! MATH: bits, acts, tempers; two loops side by side -/
theorem iter_inv {σ : Type} (f : Nat → σ → σ) (I : Nat → σ → Prop) : ∀ (n k : Nat) (v : σ), I k v → (∀ j v, k ≤ j → j < k + n → I j v → I (j + 1) (f j v)) → I (k + n) (wl_iter f n k v) := by
  intro n
  induction n with
  | zero => intro k v h _; exact h
  | succ n ih =>
    intro k v h hs
    have e : k + (n + 1) = k + 1 + n := by omega
    rw [wl_iter, e]
    exact ih (k + 1) (f k v) (hs k v (Nat.le_refl _) (by omega) h) (fun j w h1 h2 => hs j w (by omega) (by omega))
theorem iter2 {σ τ : Type} (f : Nat → σ → σ) (g : Nat → τ → τ) (R : Nat → σ → τ → Prop) : ∀ (n k : Nat) (v : σ) (w : τ), R k v w → (∀ j v w, k ≤ j → j < k + n → R j v w → R (j + 1) (f j v) (g j w)) → R (k + n) (wl_iter f n k v) (wl_iter g n k w) := by
  intro n
  induction n with
  | zero => intro k v w h _; exact h
  | succ n ih =>
    intro k v w h hs
    have e : k + (n + 1) = k + 1 + n := by omega
    rw [wl_iter, wl_iter, e]
    exact ih (k + 1) (f k v) (g k w) (hs k v w (Nat.le_refl _) (by omega) h) (fun j v w h1 h2 => hs j v w (by omega) (by omega))
/-- two loops in lockstep -/
theorem run2 {σ τ ρ π : Type} (f : σ → σ ⊕ ρ) (g : τ → τ ⊕ π) (d : ρ) (e : π) (R : σ → τ → Prop) (μ : σ → Nat) (B : ρ → π → Prop)
    (step : ∀ v w, R v w → (∃ v' w', f v = .inl v' ∧ g w = .inl w' ∧ R v' w' ∧ μ v' < μ v) ∨ (∃ r q, f v = .inr r ∧ g w = .inr q ∧ B r q)) :
    ∀ (n m : Nat) (v : σ) (w : τ), μ v < n → μ v < m → R v w → B (wl_run f d n v) (wl_run g e m w) := by
  intro n
  induction n with
  | zero => intro m v w hv; exact absurd hv (Nat.not_lt_zero _)
  | succ n ih =>
    intro m v w hv hm hR
    cases m with
    | zero => exact absurd hm (Nat.not_lt_zero _)
    | succ m =>
      rcases step v w hR with ⟨v', w', h1, h2, h3, h4⟩ | ⟨r, q, h1, h2, h3⟩
      · rw [wl_run, wl_run, h1, h2]
        exact ih m v' w' (by omega) (by omega) h3
      · rw [wl_run, wl_run, h1, h2]
        exact h3
theorem nI_inj {a b : Nat} (ha : a < 2 ^ 31) (hb : b < 2 ^ 31) (h : nI a = nI b) : a = b := (nI_eq ha hb).mp h
/-! acts -/
theorem act_core : ∀ k, k < 6 → ∀ j, j < 17 → ∀ f b c : Bool,
    (if nI k = nI 0 then (if nI 5 < nI j then nI 5 else nI j) else nI 0) = (if nI k = nI 0 then (if nI j ≤ nI 5 then nI j else nI 5) else nI 0) := by decide +kernel
theorem actOf_eq {k τ : Nat} (hk : k < 6) (hτ : τ ≤ 99) (day : Int32) (f : Bool) : m_X3_actOf (nI k) day f (nI τ) = m_X4_actAs (nI k) (nI τ) day f := by
  unfold m_X3_actOf m_X4_actAs wl_bnd
  have hq : nI τ / nI 6 = nI (τ / 6) := pk_div (by omega) (by decide) (by decide)
  have hj : τ / 6 < 17 := by omega
  simp only [hq]
  generalize τ / 6 = j at hj ⊢
  by_cases h3 : day - day / nI 3 * nI 3 = 0 <;> by_cases h2 : day - day / nI 2 * nI 2 = 0
  · simp only [if_pos h3, if_pos h2]
    revert k j f
    decide +kernel
  · simp only [if_pos h3, if_neg h2]
    revert k j f
    decide +kernel
  · simp only [if_neg h3, if_pos h2]
    revert k j f
    decide +kernel
  · simp only [if_neg h3, if_neg h2]
    revert k j f
    decide +kernel
theorem moreOf_eq : ∀ k, k < 6 → m_X3_moreOf (nI k) = m_X4_moreAs (nI k) := by decide +kernel
theorem moreAs_rng : ∀ k, k < 6 → ∃ m, m < 5 ∧ m_X4_moreAs (nI k) = nI m := by decide +kernel
def clampX (T : Int32) : Int32 := if (nI 0) < (if (nI 99) < T then (nI 99) else T) then (if (nI 99) < T then (nI 99) else T) else (nI 0)
def clampM (T : Int32) : Int32 := if 0 ≤ T then (if T ≤ (nI 99) then T else (nI 99)) else (nI 0)
theorem clamp_eq (T : Int32) : clampX T = clampM T := by
  unfold clampX clampM
  have e0 : (nI 0).toInt = 0 := by decide +kernel
  have e9 : (nI 99).toInt = 99 := by decide +kernel
  have z : (0 : Int32).toInt = 0 := by decide +kernel
  by_cases h : nI 99 < T
  · have h' := Int32.lt_iff_toInt_lt.mp h
    rw [e9] at h'
    rw [if_pos h, if_pos (show nI 0 < nI 99 by decide +kernel), if_pos (Int32.le_iff_toInt_le.mpr (by rw [z]; omega)), if_neg (fun q => by have := Int32.le_iff_toInt_le.mp q; rw [e9] at this; omega)]
  · have h' : ¬ (99 : Int) < T.toInt := fun q => h (Int32.lt_iff_toInt_lt.mpr (by rw [e9]; exact q))
    rw [if_neg h]
    by_cases h0 : 0 ≤ T
    · have h0' := Int32.le_iff_toInt_le.mp h0
      rw [z] at h0'
      rw [if_pos h0, if_pos (show T ≤ nI 99 from Int32.le_iff_toInt_le.mpr (by rw [e9]; omega))]
      by_cases h1 : nI 0 < T
      · rw [if_pos h1]
      · rw [if_neg h1]
        have h1' : ¬ (0 : Int) < T.toInt := fun q => h1 (Int32.lt_iff_toInt_lt.mpr (by rw [e0]; exact q))
        exact Int32.toInt_inj.mp (by rw [e0]; omega)
    · have h0' : ¬ (0 : Int) ≤ T.toInt := fun q => h0 (Int32.le_iff_toInt_le.mpr (by rw [z]; exact q))
      rw [if_neg h0, if_neg (fun q => by have := Int32.lt_iff_toInt_lt.mp q; rw [e0] at this; omega)]
theorem clampM_up : ∀ T, T < 104 → ∃ τ, τ < 100 ∧ clampM (nI T) = nI τ := by decide +kernel
theorem clampM_dn : ∀ T, T < 100 → ∃ τ, τ < 100 ∧ clampM (nI T - nI 1) = nI τ := by decide +kernel
theorem temperBehind_eq (kind t : Int32) (f : Bool) : m_X4_temperBehind kind t f = clampM (if f = true then t + m_X4_moreAs kind else t - nI 1) := rfl
theorem temperBehind_rng {k τ : Nat} (hk : k < 6) (hτ : τ < 100) (f : Bool) : ∃ τ', τ' < 100 ∧ m_X4_temperBehind (nI k) (nI τ) f = nI τ' := by
  rw [temperBehind_eq]
  cases f
  · exact clampM_dn τ hτ
  · obtain ⟨m, hm, e⟩ := moreAs_rng k hk
    rw [if_pos rfl, e, nI_add]
    exact clampM_up (τ + m) (by omega)
/-! bits -/
theorem has_tb : ∀ s, s < 512 → ∀ k, k < 9 → m_X4_has (nI s) k = s.testBit k := by decide +kernel
theorem has_bit (s : Int32) (k : Nat) : m_X4_has s k = decide (m_X3_bitOf s k = nI 1) := by
  unfold m_X4_has m_X3_bitOf
  by_cases h : s >>> (nI k &&& 31) &&& nI 1 = nI 1
  · rw [if_pos h]; exact (decide_eq_true h).symm
  · rw [if_neg h]; exact (decide_eq_false h).symm
theorem bit_01 : ∀ s, s < 512 → ∀ k, k < 9 → m_X3_bitOf (nI s) k = wl_b (s.testBit k) := by decide +kernel
theorem or_bit : ∀ k, k < 9 → ∀ s, s < 2 ^ k → ∀ b : Bool, (nI s ||| (if b = true then nI 1 <<< (nI k &&& 31) else nI 0)) = nI (s + cond b (2 ^ k) 0) := by decide +kernel
theorem with_bit : ∀ k, k < 9 → ∀ s, s < 2 ^ k → ∀ b : Bool, m_X3_withBit (nI s) k (wl_b b) = nI (s + cond b (2 ^ k) 0) := by decide +kernel
theorem diff_bits : ∀ s, s < 128 → ∀ t, t < 128 → (nI s &&& (nI t ^^^ (-1))) = nI (s ^^^ (s &&& t)) := by decide +kernel
theorem bits_eq : ∀ s, s < 512 → m_X4_bits (nI s) = m_J6_bitCount_0f7a4 (nI s) := by decide +kernel
/-- a set of what is so -/
def sb (b : Nat → Bool) : Nat → Nat
  | 0 => 0
  | k + 1 => sb b k + cond (b k) (2 ^ k) 0
theorem sb_lt (b : Nat → Bool) : ∀ k, sb b k < 2 ^ k := by
  intro k
  induction k with
  | zero => exact Nat.one_pos
  | succ k ih =>
    rw [sb, Nat.pow_succ]
    cases b k
    · show sb b k + 0 < _; omega
    · show sb b k + 2 ^ k < _; omega
theorem sb_bit (b : Nat → Bool) : ∀ n k, k < n → (sb b n).testBit k = b k := by
  intro n
  induction n with
  | zero => intro k hk; exact absurd hk (Nat.not_lt_zero _)
  | succ n ih =>
    intro k hk
    have hl := sb_lt b n
    rw [sb]
    by_cases h : k = n
    · subst h
      cases hb : b k
      · show (sb b k + 0).testBit k = false
        exact Nat.testBit_lt_two_pow hl
      · show (sb b k + 2 ^ k).testBit k = true
        rw [Nat.add_comm, Nat.testBit_two_pow_add_eq, Nat.testBit_lt_two_pow hl]; rfl
    · have hk' : k < n := by omega
      cases hb : b n
      · show (sb b n + 0).testBit k = b k
        exact ih k hk'
      · show (sb b n + 2 ^ n).testBit k = b k
        rw [Nat.add_comm, Nat.testBit_two_pow_add_gt hk']
        exact ih k hk'
theorem sb_congr {b c : Nat → Bool} : ∀ n, (∀ k, k < n → b k = c k) → sb b n = sb c n := by
  intro n
  induction n with
  | zero => intro _; rfl
  | succ n ih =>
    intro h
    rw [sb, sb, ih (fun k hk => h k (by omega)), h n (by omega)]
