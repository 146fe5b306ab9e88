/-! SIMULATION 9: off, odds -/
def RO (p : Nat) (τ d : Int32) (l : Bool) (L d' : Int32) (te : Nat → Int32) : Prop := d' = d ∧ te p = τ ∧ Sm 100 τ ∧ ∃ n, n < 128 ∧ L = nI n ∧ n.testBit p = l ∧ ∀ k, k ≠ p → n.testBit k = false
theorem RO.step {p P : Nat} {k c τ d d' L : Int32} {l : Bool} {now te : Nat → Int32} (h : RO p τ d l L d' te) (hp : p < P) (hP : P ≤ 7) (hk : now (4 + p) = k ∧ Sm 6 k) (hc : now 1 = c) (b : Bool) :
    RO p (m_X2_goBy k τ c d l b).2.1 (m_X2_goBy k τ c d l b).2.2.1 (m_X2_goBy k τ c d l b).2.2.2.1 (m_X4_goDay L (if b = true then nI 1 <<< (nI p &&& 31) else nI 0) d' now te P).2.1 (m_X4_goDay L (if b = true then nI 1 <<< (nI p &&& 31) else nI 0) d' now te P).2.2.2.1 (m_X4_goDay L (if b = true then nI 1 <<< (nI p &&& 31) else nI 0) d' now te P).2.2.2.2 ∧ ((m_X4_goDay L (if b = true then nI 1 <<< (nI p &&& 31) else nI 0) d' now te P).1 = 0 ↔ (m_X2_goBy k τ c d l b).1 = false) := by
  obtain ⟨h1, h2, h3, n, hn, h4, hl, ho⟩ := h
  have p2 : 2 ^ p < 128 := P128 (P := 7) (Nat.pow_lt_pow_right (by decide) (by omega)) (by decide)
  obtain ⟨m, hm, em, hf⟩ : ∃ m, m < 128 ∧ (if b = true then nI 1 <<< (nI p &&& 31) else nI 0) = nI m ∧ m.testBit p = b := by
    cases b
    · exact ⟨0, by decide, rfl, Nat.zero_testBit p⟩
    · exact ⟨2 ^ p, p2, shl_N p (by omega), Nat.testBit_two_pow_self⟩
  rw [em]
  have rw1 : RW p τ d l b L (nI m) d' te := ⟨h1, h2, h3, ⟨n, hn, h4, hl⟩, ⟨m, hm, rfl, hf⟩⟩
  have st := rw1.step hp hP hk hc
  subst h4
  have S128 : sb (gS n m d' now te) P < 128 := P128 (sb_lt _ _) hP
  rw [goDay_val hn hm hP] at st ⊢
  obtain ⟨⟨s1, s2, s3, ⟨n', hn', s4, s5⟩, s6⟩, s7⟩ := st
  have hS : ∀ k, k ≠ p → (sb (gS n m d' now te) P).testBit k = false := fun k hk => by
    by_cases hkP : k < P
    · rw [sb_bit _ P k hkP, gS, ho k hk]
      rfl
    · exact Nat.testBit_lt_two_pow (Nat.lt_of_lt_of_le (sb_lt _ P) (Nat.pow_le_pow_right (by decide) (by omega)))
  have s7' : (sb (gS n m d' now te) P).testBit p = (m_X2_goBy k τ c d l b).1 := by
    rw [← s7]
    exact (has_tb _ (by omega) p (by omega)).symm
  refine ⟨⟨s1, s2, s3, n ^^^ (n &&& sb (gS n m d' now te) P), minus_lt (P := 7) _ hn, rfl, ?_, fun k hk => ?_⟩, ?_⟩
  · have e : n' = n ^^^ (n &&& sb (gS n m d' now te) P) := nI_inj (by omega) (Nat.lt_trans (minus_lt (P := 7) _ hn) (by decide)) s4.symm
    rw [← e]
    exact s5
  · rw [minus_bit, ho k hk]
    rfl
  · show nI (sb (gS n m d' now te) P) = 0 ↔ _
    rw [nI_z _ (by omega), ← s7']
    constructor
    · intro g
      rw [g]
      exact Nat.zero_testBit p
    · intro g
      refine Nat.eq_of_testBit_eq (fun k => ?_)
      rw [Nat.zero_testBit]
      by_cases hk : k = p
      · rw [hk]; exact g
      · exact hS k hk
theorem iS_acc (now : Nat → Int32) (p : Nat) (days : Int32) (P : Nat) (n k : Nat) (v : Int32 × Int32 × Int32 × (Nat → Int32) × Bool) (h : v.2.2.2.2 = true) : (wl_iter (m_X4_isStruck_l17 now p days P) n k v).2.2.2.2 = true :=
  iter_inv (m_X4_isStruck_l17 now p days P) (fun _ v => v.2.2.2.2 = true) n k v h (fun j v _ _ hv => by
    show (if v.2.2.2.2 = true then (v.1, _, v.2.2.1, v.2.2.2.1, true) else _).2.2.2.2 = true
    rw [if_pos hv])
theorem struck_2 {now : Nat → Int32} {p P m : Nat} {days : Int32} {k c : Int32} (hp : p < P) (hP : P ≤ 7) (hk : now (4 + p) = k ∧ Sm 6 k) (hc : now 1 = c) (t0 d0 : Int32) (l0 f0 : Bool) : ∀ (n i fuel : Nat) (v : Int32 × Int32 × Bool × Bool × Nat) (w : Int32 × Int32 × Int32 × (Nat → Int32) × Bool), m = i + n → v.2.2.2.2 = i → RO p v.1 v.2.1 v.2.2.1 w.1 w.2.2.1 w.2.2.2.1 → w.2.2.2.2 = false → n < fuel → (wl_run (m_X3_isStruckBy_l15 m days (k, t0, c, d0, l0, f0)) default fuel v).1 = (wl_iter (m_X4_isStruck_l17 now p days P) n i w).2.2.2.2 := by
  intro n
  induction n with
  | zero =>
    intro i fuel v w hm hi hR ha hf
    cases fuel with
    | zero => exact absurd hf (Nat.not_lt_zero _)
    | succ fuel =>
      have e : m_X3_isStruckBy_l15 m days (k, t0, c, d0, l0, f0) v = .inr (false, k, v.1, c, v.2.1, v.2.2.1, v.2.2.2.1) := if_pos (by omega)
      rw [wl_run, e]
      exact ha.symm
  | succ n ih =>
    intro i fuel v w hm hi hR ha hf
    cases fuel with
    | zero => exact absurd hf (Nat.not_lt_zero _)
    | succ fuel =>
      have hn : ¬ m ≤ v.2.2.2.2 := by omega
      have eb : (if m_X3_bitOf days v.2.2.2.2 = nI 1 then true else false) = m_X4_has days i := by
        rw [hi, has_bit]
        by_cases g : m_X3_bitOf days i = nI 1
        · rw [if_pos g]; exact (decide_eq_true g).symm
        · rw [if_neg g]; exact (decide_eq_false g).symm
      have st := hR.step hp hP hk hc (m_X4_has days i)
      have ew : m_X4_isStruck_l17 now p days P i w = (if (m_X4_goDay w.1 (if m_X4_has days i = true then nI 1 <<< (nI p &&& 31) else nI 0) w.2.2.1 now w.2.2.2.1 P).1 = 0 then ((m_X4_goDay w.1 (if m_X4_has days i = true then nI 1 <<< (nI p &&& 31) else nI 0) w.2.2.1 now w.2.2.2.1 P).2.1, (m_X4_goDay w.1 (if m_X4_has days i = true then nI 1 <<< (nI p &&& 31) else nI 0) w.2.2.1 now w.2.2.2.1 P).2.2.1, (m_X4_goDay w.1 (if m_X4_has days i = true then nI 1 <<< (nI p &&& 31) else nI 0) w.2.2.1 now w.2.2.2.1 P).2.2.2.1, (m_X4_goDay w.1 (if m_X4_has days i = true then nI 1 <<< (nI p &&& 31) else nI 0) w.2.2.1 now w.2.2.2.1 P).2.2.2.2, false) else ((m_X4_goDay w.1 (if m_X4_has days i = true then nI 1 <<< (nI p &&& 31) else nI 0) w.2.2.1 now w.2.2.2.1 P).2.1, (m_X4_goDay w.1 (if m_X4_has days i = true then nI 1 <<< (nI p &&& 31) else nI 0) w.2.2.1 now w.2.2.2.1 P).2.2.1, (m_X4_goDay w.1 (if m_X4_has days i = true then nI 1 <<< (nI p &&& 31) else nI 0) w.2.2.1 now w.2.2.2.1 P).2.2.2.1, (m_X4_goDay w.1 (if m_X4_has days i = true then nI 1 <<< (nI p &&& 31) else nI 0) w.2.2.1 now w.2.2.2.1 P).2.2.2.2, true)) := if_neg (by rw [ha]; decide)
      have ev : m_X3_isStruckBy_l15 m days (k, t0, c, d0, l0, f0) v = (if (m_X2_goBy k v.1 c v.2.1 v.2.2.1 (m_X4_has days i)).1 = true then .inr (true, k, (m_X2_goBy k v.1 c v.2.1 v.2.2.1 (m_X4_has days i)).2.1, c, (m_X2_goBy k v.1 c v.2.1 v.2.2.1 (m_X4_has days i)).2.2.1, (m_X2_goBy k v.1 c v.2.1 v.2.2.1 (m_X4_has days i)).2.2.2.1, (m_X2_goBy k v.1 c v.2.1 v.2.2.1 (m_X4_has days i)).2.2.2.2) else .inl ((m_X2_goBy k v.1 c v.2.1 v.2.2.1 (m_X4_has days i)).2.1, (m_X2_goBy k v.1 c v.2.1 v.2.2.1 (m_X4_has days i)).2.2.1, (m_X2_goBy k v.1 c v.2.1 v.2.2.1 (m_X4_has days i)).2.2.2.1, (m_X2_goBy k v.1 c v.2.1 v.2.2.1 (m_X4_has days i)).2.2.2.2, v.2.2.2.2 + 1)) := by
        rw [← eb]
        exact if_neg hn
      by_cases hz : (m_X2_goBy k v.1 c v.2.1 v.2.2.1 (m_X4_has days i)).1 = true
      · rw [wl_run, ev, if_pos hz, wl_iter]
        refine (iS_acc now p days P n (i + 1) _ ?_).symm
        rw [ew, if_neg (fun g => by have := st.2.mp g; rw [hz] at this; exact absurd this (by decide))]
      · rw [wl_run, ev, if_neg hz, wl_iter, ew, if_pos (st.2.mpr (Bool.eq_false_iff.mpr hz))]
        exact ih (i + 1) fuel _ _ (by omega) (by show v.2.2.2.2 + 1 = i + 1; rw [hi]) st.1 rfl (by omega)
theorem isStruck_eq {T : Tn} {now : Nat → Int32} (t : RT T now) {p : Nat} (hp : p < T.people) (hl : m_X4_has T.listed p = true) (n : Nat) (days : Int32) (te : Nat → Int32) : (m_X4_isStruck now te p n days T.people).1 = (m_X3_isStruckBy T.counts T.day T.listed T.followed T.kinds T.tempers p n days).1 := by
  have h7 := t.hp
  have st := RW.start t hp te
  unfold m_X4_isStruck m_X3_isStruckBy
  dsimp only [wl_bnd]
  rw [startWalk_eq]
  refine (struck_2 (m := n) hp h7 (t.ek p hp) t.e1 _ _ _ _ n 0 (n + 1) _ _ (Nat.zero_add n).symm rfl ?_ rfl (Nat.lt_succ_self n)).symm
  exact ⟨st.1, st.2.1, st.2.2.1, 2 ^ p, P128 (P := 7) (Nat.pow_lt_pow_right (by decide) (by omega)) (by decide), shl_N p (by omega), Nat.testBit_two_pow_self.trans hl.symm, fun k hk => Nat.testBit_two_pow_of_ne (Ne.symm hk)⟩
theorem bit_has {x : Int32} {p : Nat} (hx : Sm 128 x) (hp : p < 7) : (m_X3_bitOf x p = 0 ∧ m_X4_has x p = false) ∨ (m_X3_bitOf x p = nI 1 ∧ m_X4_has x p = true) := by
  obtain ⟨n, hn, rfl⟩ := hx
  rw [bit_01 n (by omega) p (by omega), has_tb n (by omega) p (by omega)]
  cases n.testBit p
  · exact Or.inl ⟨by decide +kernel, rfl⟩
  · exact Or.inr ⟨rfl, rfl⟩
theorem fewest_2 {T : Tn} {now : Nat → Int32} (t : RT T now) {q n : Int32} (hp : cl q < T.people) (hl : m_X4_has T.listed (cl q) = true) (hn : cl n ≤ 8) (wk wt wc wd : Int32) (wl wf : Bool) (a b c : Int32) (te : Nat → Int32) :
    (m_X3_fewestDays T.counts T.day T.listed T.followed T.kinds T.tempers wk wt wc wd wl wf (cl q) (cl n)).1 = (wl_iter (m_X4_off_l62 now q n T.people) (2 ^ cl n) 0 (a, b, c, te, -1)).2.2.2.2 ∧ ((m_X3_fewestDays T.counts T.day T.listed T.followed T.kinds T.tempers wk wt wc wd wl wf (cl q) (cl n)).1 = -1 ∨ Sm 512 (m_X3_fewestDays T.counts T.day T.listed T.followed T.kinds T.tempers wk wt wc wd wl wf (cl q) (cl n)).1) := by
  have P2 : 2 ^ cl n ≤ 256 := Nat.pow_le_pow_right (n := 2) (by decide) hn
  have it := iter2 (m_X3_fewestDays_l5 T.counts T.day T.listed T.followed T.kinds T.tempers (cl q) (cl n)) (m_X4_off_l62 now q n T.people) (fun k v w => k ≤ 256 → v.2.2.2.2.2.2 = w.2.2.2.2 ∧ (v.2.2.2.2.2.2 = -1 ∨ Sm 512 v.2.2.2.2.2.2)) (2 ^ cl n) 0 (wk, wt, wc, wd, wl, wf, -1) (a, b, c, te, -1) (fun _ => ⟨rfl, Or.inl rfl⟩) (fun j v w h1 h2 hI hj => by
    obtain ⟨e, hb⟩ := hI (by omega)
    have eS := isStruck_eq t hp hl (cl n) (nI j) w.2.2.2.1
    have eq : (if v.2.2.2.2.2.2 = (-1) then true else (if m_J6_bitCount_0f7a4 v.2.2.2.2.2.2 ≤ m_J6_bitCount_0f7a4 (nI j) then false else true)) = (if w.2.2.2.2 = (-1) then true else (if m_X4_bits w.2.2.2.2 ≤ m_X4_bits (nI j) then false else true)) := by
      rw [← e]
      rcases hb with g | ⟨x, hx, g⟩
      · rw [if_pos g, if_pos g]
      · rw [g, bits_eq x hx, bits_eq j (by omega)]
    unfold m_X3_fewestDays_l5 m_X4_off_l62
    dsimp only [wl_bnd]
    rw [eq]
    by_cases hg : (if w.2.2.2.2 = (-1) then true else (if m_X4_bits w.2.2.2.2 ≤ m_X4_bits (nI j) then false else true)) = true
    · simp only [if_pos hg]
      rw [eS]
      by_cases hz : (m_X3_isStruckBy T.counts T.day T.listed T.followed T.kinds T.tempers (cl q) (cl n) (nI j)).1 = true
      · simp only [if_pos hz]
        exact ⟨by trivial, Or.inr ⟨j, by omega, rfl⟩⟩
      · simp only [if_neg hz]
        exact ⟨e, hb⟩
    · simp only [if_neg hg]
      exact ⟨e, hb⟩)
  rw [Nat.zero_add] at it
  exact it P2
theorem sim_off {s : SX} {r : SM} (h : RR s r) (p : Int32) (n : Int32) (what : Int32) : (aX_off s p n what).1 = (aM_off s r p n what).1 ∧ RR (uX_off s (aX_off s p n what)) (uM_off r (aM_off s r p n what)) := by
  unfold aX_off aM_off m_X3_off m_X4_off wl_bnd
  have t := h.rt
  have hp7 := t.hp
  rw [isThere_isOne hp7, win (by decide) (by decide), win (by decide) (by decide)]
  by_cases h1 : m_X4_isOne p s.T0.people = true
  · simp only [if_pos h1]
    by_cases h2 : m_X4_in n.toInt64 (lN 1) (lN 8) = true
    · simp only [if_pos h2]
      by_cases h3 : m_X4_in what.toInt64 (lN 0) (lN 1) = true
      · simp only [if_pos h3]
        obtain ⟨g1, g2⟩ := isOne_spec hp7 h1
        obtain ⟨n1, n2, n3⟩ := in_spec (by decide) (by decide) h2
        rw [show r.mnow 18 = s.T0.listed from t.el.1]
        rcases bit_has (t.el.2.upP hp7) (show cl p < 7 by omega) with ⟨b1, b2⟩ | ⟨b1, b2⟩
        · simp only [if_pos b1, b2, if_neg Bool.false_ne_true]
          exact ⟨rfl, h.no⟩
        · have b3 : ¬ m_X3_bitOf s.T0.listed (cl p) = 0 := by rw [b1]; decide +kernel
          simp only [if_neg b3, if_pos b2]
          obtain ⟨f1, f2⟩ := fewest_2 t g2 b2 n3 s.wkind s.wtemper s.wcounts s.wday s.wlisted s.wfollowed r.mlisted r.mfollowing r.mdayThen r.mtempers
          generalize m_X3_fewestDays s.T0.counts s.T0.day s.T0.listed s.T0.followed s.T0.kinds s.T0.tempers s.wkind s.wtemper s.wcounts s.wday s.wlisted s.wfollowed (cl p) (cl n) = x at f1 f2 ⊢
          generalize wl_iter (m_X4_off_l62 r.mnow p n s.T0.people) (2 ^ cl n) 0 (r.mlisted, r.mfollowing, r.mdayThen, r.mtempers, -1) = y at f1 ⊢
          rcases in_01 h3 with c | c
          · have c0 : what = 0 := c.trans wl_zero.symm
            have c1 : ¬ what = nI 1 := by rw [c]; decide +kernel
            simp only [if_neg c1, if_pos c0]
            rw [← f1]
            by_cases hm : x.1 = -1
            · simp only [if_pos hm]
              exact ⟨by trivial, h⟩
            · simp only [if_neg hm]
              rcases f2 with f2 | ⟨v, hv, f2⟩
              · exact absurd f2 hm
              · rw [f2, bits_eq v hv]
                exact ⟨rfl, h⟩
          · have c0 : ¬ what = 0 := by rw [c]; decide +kernel
            simp only [if_pos c, if_neg c0]
            exact ⟨f1, h⟩
      · simp only [if_neg h3]
        exact ⟨rfl, h.bad⟩
    · simp only [if_neg h2]
      exact ⟨rfl, h.bad⟩
  · simp only [if_neg h1]
    exact ⟨rfl, h.bad⟩
/-! odds: what the weights sum up to; the common divisor -/
def sumW (W : Nat → Nat) : Nat → Nat
  | 0 => 0
  | k + 1 => sumW W k + W k
def wgt (n c k : Nat) : Nat := wl_iter (fun i w => if k.testBit i = true then w * c else w * (10 - c)) n 0 1
theorem sum_wgt : ∀ n, n < 9 → ∀ c, c < 11 → sumW (wgt n c) (2 ^ n) = 10 ^ n := by decide +kernel
theorem tens : ∀ n, n < 9 → wl_iter m_X4_odds_l156 n 0 1 = 10 ^ n := by decide +kernel
theorem wgt_M {c : Int32} {k n : Nat} (hk : k < 512) (hn : n ≤ 8) : wl_iter (m_X4_odds_l81 c k) n 0 1 = wgt n (cl c) k :=
  iter2 (m_X4_odds_l81 c k) (fun i w => if k.testBit i = true then w * cl c else w * (10 - cl c)) (fun _ v w => v = w) n 0 1 1 rfl (fun j v w h1 h2 hv => by
    show (if m_X4_has (nI k) j = true then v * cl c else v * (10 - cl c)) = _
    rw [has_tb k hk j (by omega), hv])
theorem wgt_X {c : Int32} {k n : Nat} (hk : k < 512) (hn : n ≤ 8) : wl_iter (m_X3_odds_l75 c k) n 0 1 = wgt n (cl c) k :=
  iter2 (m_X3_odds_l75 c k) (fun i w => if k.testBit i = true then w * cl c else w * (10 - cl c)) (fun _ v w => v = w) n 0 1 1 rfl (fun j v w h1 h2 hv => by
    show (if m_X3_bitOf (nI k) j = nI 1 then v * cl c else v * (10 - cl c)) = _
    rw [← has_tb k hk j (by omega), has_bit, hv]
    by_cases g : m_X3_bitOf (nI k) j = nI 1
    · rw [if_pos g, if_pos (decide_eq_true g)]
    · rw [if_neg g, if_neg (by rw [decide_eq_false g]; decide)])
theorem gcd_st {a b : Nat} : Nat.gcd a b = Nat.gcd b (a % b) := by
  rw [Nat.gcd_comm a b, Nat.gcd_rec b a, Nat.gcd_comm]
theorem gcd_M : ∀ (fuel a b : Nat), b < fuel → wl_run m_X4_fraction_l6 default fuel (a, b) = Nat.gcd a b := by
  intro fuel
  induction fuel with
  | zero => intro a b h; exact absurd h (Nat.not_lt_zero _)
  | succ fuel ih =>
    intro a b h
    by_cases hb : b = 0
    · have e : m_X4_fraction_l6 (a, b) = .inr a := if_pos hb
      rw [wl_run, e, hb]
      exact (Nat.gcd_zero_right a).symm
    · have e : m_X4_fraction_l6 (a, b) = .inl (b, a % b) := if_neg hb
      have hm : a % b < b := Nat.mod_lt a (by omega)
      rw [wl_run, e]
      show wl_run m_X4_fraction_l6 default fuel (b, a % b) = _
      rw [ih b (a % b) (by omega)]
      exact gcd_st.symm
theorem gcd_X : ∀ (j fuel cnt a b : Nat), b < 2 ^ j → cnt + 2 * j ≤ 199 → 2 * j + 1 ≤ fuel → wl_run m_X3_setFraction_l9 default fuel (a, b, cnt) = Nat.gcd a b := by
  have z : ∀ (fuel cnt a : Nat), cnt ≤ 199 → 1 ≤ fuel → wl_run m_X3_setFraction_l9 default fuel (a, 0, cnt) = Nat.gcd a 0 := fun fuel cnt a hc hf => by
    cases fuel with
    | zero => exact absurd hf (by decide)
    | succ fuel =>
      have e : m_X3_setFraction_l9 (a, 0, cnt) = .inr a := (if_neg (show ¬ 200 ≤ cnt by omega)).trans (if_pos rfl)
      rw [wl_run, e]
      exact (Nat.gcd_zero_right a).symm
  have st : ∀ (fuel cnt a b : Nat), cnt ≤ 199 → ¬ b = 0 → wl_run m_X3_setFraction_l9 default (fuel + 1) (a, b, cnt) = wl_run m_X3_setFraction_l9 default fuel (b, a % b, cnt + 1) := fun fuel cnt a b hc hb => by
    have e : m_X3_setFraction_l9 (a, b, cnt) = .inl (b, a % b, cnt + 1) := (if_neg (show ¬ 200 ≤ cnt by omega)).trans (if_neg hb)
    rw [wl_run, e]
  intro j
  induction j with
  | zero =>
    intro fuel cnt a b hb hc hf
    have hb0 : b = 0 := by
      have : b < 1 := hb
      omega
    subst hb0
    exact z fuel cnt a (by omega) (by omega)
  | succ j ih =>
    intro fuel cnt a b hb hc hf
    by_cases hb0 : b = 0
    · subst hb0
      exact z fuel cnt a (by omega) (by omega)
    · obtain ⟨f2, rfl⟩ : ∃ f2, fuel = f2 + 1 + 1 := ⟨fuel - 2, by omega⟩
      have hm : a % b < b := Nat.mod_lt a (by omega)
      rw [st (f2 + 1) cnt a b (by omega) hb0, gcd_st]
      by_cases hr : a % b < 2 ^ j
      · exact ih (f2 + 1) (cnt + 1) b (a % b) hr (by omega) (by omega)
      · have hr0 : ¬ a % b = 0 := fun g => hr (by rw [g]; exact Nat.two_pow_pos j)
        rw [st f2 (cnt + 1) b (a % b) (by omega) hr0, gcd_st]
        refine ih f2 (cnt + 1 + 1) (a % b) (b % (a % b)) ?_ (by omega) (by omega)
        rw [Nat.pow_succ] at hb
        have h1 : b % (a % b) = (b - a % b) % (a % b) := Nat.mod_eq_sub_mod (by omega)
        have h2 : (b - a % b) % (a % b) ≤ b - a % b := Nat.mod_le _ _
        omega
theorem odds_2 {T : Tn} {now : Nat → Int32} (t : RT T now) {q n c : Int32} (hp : cl q < T.people) (hl : m_X4_has T.listed (cl q) = true) (hn : cl n ≤ 8) (wk wt wc wd : Int32) (wl wf : Bool) (a b e : Int32) (te : Nat → Int32) :
    (wl_iter (m_X3_odds_l61 T.counts T.day T.listed T.followed T.kinds T.tempers q n c) (2 ^ cl n) 0 (wk, wt, wc, wd, wl, wf, 0, 0)).2.2.2.2.2.2.1 = (wl_iter (m_X4_odds_l67 now q n c T.people) (2 ^ cl n) 0 (a, b, e, te, 0)).2.2.2.2 ∧ (wl_iter (m_X3_odds_l61 T.counts T.day T.listed T.followed T.kinds T.tempers q n c) (2 ^ cl n) 0 (wk, wt, wc, wd, wl, wf, 0, 0)).2.2.2.2.2.2.2 = sumW (wgt (cl n) (cl c)) (2 ^ cl n) := by
  have P2 : 2 ^ cl n ≤ 256 := Nat.pow_le_pow_right (n := 2) (by decide) hn
  have it := iter2 (m_X3_odds_l61 T.counts T.day T.listed T.followed T.kinds T.tempers q n c) (m_X4_odds_l67 now q n c T.people) (fun k v w => k ≤ 256 → v.2.2.2.2.2.2.1 = w.2.2.2.2 ∧ v.2.2.2.2.2.2.2 = sumW (wgt (cl n) (cl c)) k) (2 ^ cl n) 0 (wk, wt, wc, wd, wl, wf, 0, 0) (a, b, e, te, 0) (fun _ => ⟨rfl, rfl⟩) (fun j v w h1 h2 hI hj => by
    obtain ⟨i1, i2⟩ := hI (by omega)
    have eS := isStruck_eq t hp hl (cl n) (nI j) w.2.2.2.1
    unfold m_X3_odds_l61 m_X4_odds_l67
    dsimp only [wl_bnd]
    rw [wgt_M (c := c) (k := j) (by omega) hn, wgt_X (c := c) (k := j) (by omega) hn, sumW, ← i2, ← i1]
    by_cases hz : wgt (cl n) (cl c) j ≤ 0
    · have hz0 : wgt (cl n) (cl c) j = 0 := by omega
      simp only [if_pos hz]
      by_cases hs : (m_X3_isStruckBy T.counts T.day T.listed T.followed T.kinds T.tempers (cl q) (cl n) (nI j)).1 = true
      · simp only [if_pos hs]
        exact ⟨by first | trivial | rw [hz0], by first | trivial | rfl⟩
      · simp only [if_neg hs]
        exact ⟨by first | trivial | rfl, by first | trivial | rfl⟩
    · simp only [if_neg hz]
      rw [eS]
      by_cases hs : (m_X3_isStruckBy T.counts T.day T.listed T.followed T.kinds T.tempers (cl q) (cl n) (nI j)).1 = true
      · simp only [if_pos hs]
        exact ⟨by trivial, by trivial⟩
      · simp only [if_neg hs]
        exact ⟨by trivial, by trivial⟩)
  rw [Nat.zero_add] at it
  exact it P2
theorem sim_odds {s : SX} {r : SM} (h : RR s r) (p : Int32) (n : Int32) (c : Int32) : (aX_odds s p n c).1 = (aM_odds s r p n c).1 ∧ RR (uX_odds s (aX_odds s p n c)) (uM_odds r (aM_odds s r p n c)) := by
  unfold aX_odds aM_odds m_X3_odds m_X4_odds wl_bnd
  have t := h.rt
  have hp7 := t.hp
  rw [isThere_isOne hp7, win (by decide) (by decide), win (by decide) (by decide)]
  by_cases h1 : m_X4_isOne p s.T0.people = true
  · simp only [if_pos h1]
    by_cases h2 : m_X4_in n.toInt64 (lN 0) (lN 8) = true
    · simp only [if_pos h2]
      by_cases h3 : m_X4_in c.toInt64 (lN 0) (lN 10) = true
      · simp only [if_pos h3]
        obtain ⟨g1, g2⟩ := isOne_spec hp7 h1
        obtain ⟨n1, n2, n3⟩ := in_spec (by decide) (by decide) h2
        obtain ⟨c1, c2, c3⟩ := in_spec (by decide) (by decide) h3
        rw [show r.mnow 18 = s.T0.listed from t.el.1]
        rcases bit_has (t.el.2.upP hp7) (show cl p < 7 by omega) with ⟨b1, b2⟩ | ⟨b1, b2⟩
        · simp only [if_pos b1, b2, if_neg Bool.false_ne_true]
          exact ⟨rfl, h.no⟩
        · have b3 : ¬ m_X3_bitOf s.T0.listed (cl p) = 0 := by rw [b1]; decide +kernel
          simp only [if_neg b3, if_pos b2]
          obtain ⟨f1, f2⟩ := odds_2 (c := c) t g2 b2 n3 s.wkind s.wtemper s.wcounts s.wday s.wlisted s.wfollowed r.mlisted r.mfollowing r.mdayThen r.mtempers
          rw [sum_wgt _ (by omega) _ (by omega)] at f2
          generalize wl_iter (m_X3_odds_l61 s.T0.counts s.T0.day s.T0.listed s.T0.followed s.T0.kinds s.T0.tempers p n c) (2 ^ cl n) 0 (s.wkind, s.wtemper, s.wcounts, s.wday, s.wlisted, s.wfollowed, 0, 0) = x at f1 f2 ⊢
          generalize wl_iter (m_X4_odds_l67 r.mnow p n c s.T0.people) (2 ^ cl n) 0 (r.mlisted, r.mfollowing, r.mdayThen, r.mtempers, 0) = y at f1 ⊢
          rw [tens _ (show cl n < 9 by omega), f1, f2]
          have pw : 10 ^ cl n ≤ 10 ^ 8 := Nat.pow_le_pow_right (by decide) n3
          have hg : 0 < Nat.gcd y.2.2.2.2 (10 ^ cl n) := Nat.gcd_pos_of_pos_right _ (Nat.pow_pos (by decide))
          have eX : m_X3_setFraction s.fabove s.fbelow y.2.2.2.2 (10 ^ cl n) = (lN (y.2.2.2.2 / Nat.gcd y.2.2.2.2 (10 ^ cl n)), lN (10 ^ cl n / Nat.gcd y.2.2.2.2 (10 ^ cl n))) := by
            unfold m_X3_setFraction
            dsimp only [wl_bnd]
            rw [gcd_X 27 201 0 _ _ (Nat.lt_of_le_of_lt pw (by decide)) (by decide) (by decide), if_neg (by omega)]
          have eM : m_X4_fraction y.2.2.2.2 (10 ^ cl n) = (lN (y.2.2.2.2 / Nat.gcd y.2.2.2.2 (10 ^ cl n)), lN (10 ^ cl n / Nat.gcd y.2.2.2.2 (10 ^ cl n))) := by
            unfold m_X4_fraction
            dsimp only [wl_bnd]
            rw [gcd_M _ _ _ (Nat.lt_succ_self _)]
          rw [eX, eM]
          exact ⟨by trivial, h.rt, h.rk, h.r2, h.r3, rfl, rfl, h.f0, h.f1, h.f2, h.xl, h.xm, h.xb⟩
      · simp only [if_neg h3]
        exact ⟨rfl, h.bad⟩
    · simp only [if_neg h2]
      exact ⟨rfl, h.bad⟩
  · simp only [if_neg h1]
    exact ⟨rfl, h.bad⟩
