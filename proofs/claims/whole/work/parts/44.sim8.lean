/-! SIMULATION 8: lack, comesTrue -/
theorem dII_acc (now : Nat → Int32) (p P : Nat) (n k : Nat) (v : Int32 × Int32 × Int32 × (Nat → Int32) × Bool) (h : v.2.2.2.2 = true) : (wl_iter (m_X4_doesItIn_l30 now p P) n k v).2.2.2.2 = true :=
  iter_inv (m_X4_doesItIn_l30 now p P) (fun _ v => v.2.2.2.2 = true) n k v h (fun j v _ _ hv => if_pos hv)
theorem would_2 {now : Nat → Int32} {p P m : Nat} {k c : Int32} (hp : p < P) (hP : P ≤ 7) (hk : now (4 + p) = k ∧ Sm 6 k) (hc : now 1 = c) (t0 d0 : Int32) (l0 f0 : Bool) : ∀ (n i j fuel : Nat) (v : Int32 × Int32 × Bool × Bool × Nat) (w : Int32 × Int32 × Int32 × (Nat → Int32) × Bool), m = i + n → v.2.2.2.2 = i → RW p v.1 v.2.1 v.2.2.1 v.2.2.2.1 w.1 w.2.1 w.2.2.1 w.2.2.2.1 → w.2.2.2.2 = false → n < fuel → (wl_run (m_X3_wouldDoIt_l31 m (k, t0, c, d0, l0, f0)) default fuel v).1 = (wl_iter (m_X4_doesItIn_l30 now p P) n j w).2.2.2.2 := by
  intro n
  induction n with
  | zero =>
    intro i j fuel v w hm hi hR ha hf
    cases fuel with
    | zero => exact absurd hf (Nat.not_lt_zero _)
    | succ fuel =>
      have e : m_X3_wouldDoIt_l31 m (k, t0, c, d0, l0, f0) v = .inr (false, k, v.1, c, v.2.1, v.2.2.1, v.2.2.2.1) := if_pos (by omega)
      rw [wl_run, e]
      exact ha.symm
  | succ n ih =>
    intro i j fuel v w hm hi hR ha hf
    cases fuel with
    | zero => exact absurd hf (Nat.not_lt_zero _)
    | succ fuel =>
      have hn : ¬ m ≤ v.2.2.2.2 := by omega
      have hd := hR.does (by omega) hk hc
      have st := (hR.step hp hP hk hc).1
      by_cases hz : m_X2_doesIt k v.1 c v.2.1 v.2.2.2.1 = true
      · have e : m_X3_wouldDoIt_l31 m (k, t0, c, d0, l0, f0) v = .inr (true, k, v.1, c, v.2.1, v.2.2.1, v.2.2.2.1) := (if_neg hn).trans (if_pos hz)
        rw [wl_run, e, wl_iter]
        refine (dII_acc now p P n (j + 1) _ ?_).symm
        exact (if_neg (by rw [ha]; decide)).trans (if_pos (hd.trans hz))
      · have e : m_X3_wouldDoIt_l31 m (k, t0, c, d0, l0, f0) v = .inl ((m_X2_goBy k v.1 c v.2.1 v.2.2.1 v.2.2.2.1).2.1, (m_X2_goBy k v.1 c v.2.1 v.2.2.1 v.2.2.2.1).2.2.1, (m_X2_goBy k v.1 c v.2.1 v.2.2.1 v.2.2.2.1).2.2.2.1, (m_X2_goBy k v.1 c v.2.1 v.2.2.1 v.2.2.2.1).2.2.2.2, v.2.2.2.2 + 1) := (if_neg hn).trans (if_neg hz)
        rw [wl_run, e, wl_iter]
        refine ih (i + 1) (j + 1) fuel _ _ (by omega) (by show v.2.2.2.2 + 1 = i + 1; rw [hi]) st ?_ (by omega)
        exact (if_neg (by rw [ha]; decide)).trans (if_neg (fun g => hz (hd.symm.trans g)))
theorem doesItIn_eq {T : Tn} {now : Nat → Int32} (t : RT T now) {p : Nat} (hp : p < T.people) (m : Nat) (f : Bool) (te : Nat → Int32) : (m_X4_doesItIn now te p m f T.people).1 = (m_X3_wouldDoIt T.counts T.day T.listed T.followed T.kinds T.tempers p m f).1 := by
  have h7 := t.hp
  have st := RW.start t hp te
  unfold m_X4_doesItIn m_X3_wouldDoIt
  dsimp only [wl_bnd]
  rw [startWalk_eq]
  refine (would_2 (m := m) hp h7 (t.ek p hp) t.e1 _ _ _ _ m 0 0 (m + 1) _ _ (Nat.zero_add m).symm rfl ?_ rfl (Nat.lt_succ_self m)).symm
  refine ⟨st.1, st.2.1, st.2.2.1, ⟨0, by decide, rfl, Nat.zero_testBit p⟩, ?_⟩
  cases f
  · exact ⟨0, by decide, rfl, Nat.zero_testBit p⟩
  · exact ⟨2 ^ p, P128 (P := 7) (Nat.pow_lt_pow_right (by decide) (by omega)) (by decide), shl_N p (by omega), Nat.testBit_two_pow_self⟩
theorem tf_id (x : Bool) : (if x = true then true else false) = x := by cases x <;> rfl
theorem who_eq {P : Nat} (hP : P ≤ 7) (c d L F : Int32) (kinds tempers : Nat → Int32) (wk wt wc wd : Int32) (wl wf : Bool) (m : Nat) (f : Bool) : (m_X3_whoDoIt c P d L F kinds tempers wk wt wc wd wl wf m f).1 = nI (sb (fun k => (m_X3_wouldDoIt c d L F kinds tempers k m f).1) P) := by
  have g := iter_inv (m_X3_whoDoIt_l5 c d L F kinds tempers m f) (fun k v => k ≤ P → v.2.2.2.2.2.2 = nI (sb (fun k => (m_X3_wouldDoIt c d L F kinds tempers k m f).1) k)) P 0 (wk, wt, wc, wd, wl, wf, nI 0) (fun _ => rfl) (fun j v h1 h2 hI hj => by
    show m_X3_withBit v.2.2.2.2.2.2 j (wl_b (if (m_X3_wouldDoIt c d L F kinds tempers j m f).1 = true then true else false)) = _
    rw [tf_id, hI (by omega), with_bit j (by omega) _ (sb_lt _ j)]
    rfl)
  rw [Nat.zero_add] at g
  exact g (Nat.le_refl _)
theorem sb_minus (a b : Nat → Bool) (P : Nat) : sb a P ^^^ (sb a P &&& sb b P) = sb (fun k => a k && !b k) P := by
  refine Nat.eq_of_testBit_eq (fun k => ?_)
  rw [minus_bit]
  by_cases hk : k < P
  · rw [sb_bit _ P k hk, sb_bit _ P k hk, sb_bit _ P k hk]
  · have hl : ∀ b : Nat → Bool, (sb b P).testBit k = false := fun b => Nat.testBit_lt_two_pow (Nat.lt_of_lt_of_le (sb_lt b P) (Nat.pow_le_pow_right (by decide) (by omega)))
    rw [hl, hl, hl] <;> rfl
theorem sim_lack {s : SX} {r : SM} (h : RR s r) : (aX_lack s).1 = (aM_lack s r).1 ∧ RR (uX_lack s (aX_lack s)) (uM_lack r (aM_lack s r)) := by
  have t := h.rt
  have hp7 := t.hp
  refine ⟨?_, h⟩
  have x : (aX_lack s).1 = nI (sb (fun k => (m_X3_wouldDoIt s.T0.counts s.T0.day s.T0.listed s.T0.followed s.T0.kinds s.T0.tempers k 30 true).1 && !(m_X3_wouldDoIt s.T0.counts s.T0.day s.T0.listed s.T0.followed s.T0.kinds s.T0.tempers k 30 false).1) s.T0.people) := by
    unfold aX_lack m_X3_lack
    dsimp only [wl_bnd]
    rw [who_eq hp7, who_eq hp7, diff_bits _ (P128 (sb_lt _ _) hp7) _ (P128 (sb_lt _ _) hp7), sb_minus]
  rw [x]
  unfold aM_lack m_X4_lack wl_bnd
  have g := iter_inv (m_X4_lack_l4 r.mnow s.T0.people) (fun k v => k ≤ s.T0.people → v.2.2.2.2 = nI (sb (fun k => (m_X3_wouldDoIt s.T0.counts s.T0.day s.T0.listed s.T0.followed s.T0.kinds s.T0.tempers k 30 true).1 && !(m_X3_wouldDoIt s.T0.counts s.T0.day s.T0.listed s.T0.followed s.T0.kinds s.T0.tempers k 30 false).1) k)) s.T0.people 0 (r.mlisted, r.mfollowing, r.mdayThen, r.mtempers, nI 0) (fun _ => rfl) (fun j v h1 h2 hI hj => by
    have hI := hI (by omega)
    have o := or_bit j (by omega) _ (sb_lt (fun k => (m_X3_wouldDoIt s.T0.counts s.T0.day s.T0.listed s.T0.followed s.T0.kinds s.T0.tempers k 30 true).1 && !(m_X3_wouldDoIt s.T0.counts s.T0.day s.T0.listed s.T0.followed s.T0.kinds s.T0.tempers k 30 false).1) j)
    have e1 := doesItIn_eq t (p := j) (by omega) 30 true v.2.2.2.1
    have e2 := doesItIn_eq t (p := j) (by omega) 30 false (m_X4_doesItIn r.mnow v.2.2.2.1 j 30 true s.T0.people).2.2.2.2
    rw [← hI] at o
    rw [sb]
    unfold m_X4_lack_l4
    dsimp only [wl_bnd]
    rw [e1]
    cases (m_X3_wouldDoIt s.T0.counts s.T0.day s.T0.listed s.T0.followed s.T0.kinds s.T0.tempers j 30 true).1
    · exact o false
    · rw [e2]
      cases (m_X3_wouldDoIt s.T0.counts s.T0.day s.T0.listed s.T0.followed s.T0.kinds s.T0.tempers j 30 false).1
      · exact o true
      · exact o false)
  rw [Nat.zero_add] at g
  exact (g (Nat.le_refl _)).symm
theorem nI_m1 : ∀ k, k < 256 → ¬ nI k = -1 := by decide +kernel
theorem nI_z : ∀ k, k < 256 → (nI k = 0 ↔ k = 0) := by decide +kernel
theorem count_step {A B : Int32} {k c : Nat} {v : Int32 × Int32} (hk : k < 128) (hc : c ≤ k) (h1 : v.1 = nI c) (h2 : v.2 = -1 ↔ c = 0) :
    (if (nI k &&& (A ^^^ (-1))) = 0 then (if (B &&& ((nI k) ^^^ (-1))) = 0 then (if v.2 = (-1) then ((v.1 + Int32.ofInt 1), (nI k)) else ((v.1 + Int32.ofInt 1), v.2)) else (v.1, v.2)) else (v.1, v.2)) = (if (if ((nI k) &&& (A ^^^ (-1))) = 0 then (if (B &&& ((nI k) ^^^ (-1))) = 0 then true else false) else false) = true then ((v.1 + (nI 1)), (if (if ((nI k) &&& (A ^^^ (-1))) = 0 then (if (B &&& ((nI k) ^^^ (-1))) = 0 then true else false) else false) = true then (if v.1 = 0 then (nI k) else v.2) else v.2)) else ((v.1 + (nI 0)), (if (if ((nI k) &&& (A ^^^ (-1))) = 0 then (if (B &&& ((nI k) ^^^ (-1))) = 0 then true else false) else false) = true then (if v.1 = 0 then (nI k) else v.2) else v.2)))
    ∧ ∃ c', c' ≤ k + 1 ∧ (if (nI k &&& (A ^^^ (-1))) = 0 then (if (B &&& ((nI k) ^^^ (-1))) = 0 then (if v.2 = (-1) then ((v.1 + Int32.ofInt 1), (nI k)) else ((v.1 + Int32.ofInt 1), v.2)) else (v.1, v.2)) else (v.1, v.2)).1 = nI c' ∧ ((if (nI k &&& (A ^^^ (-1))) = 0 then (if (B &&& ((nI k) ^^^ (-1))) = 0 then (if v.2 = (-1) then ((v.1 + Int32.ofInt 1), (nI k)) else ((v.1 + Int32.ofInt 1), v.2)) else (v.1, v.2)) else (v.1, v.2)).2 = -1 ↔ c' = 0) := by
  have z0 : v.1 + nI 0 = v.1 := by rw [h1, nI_add]; rfl
  have one : Int32.ofInt 1 = nI 1 := by decide +kernel
  have a1 : v.1 + nI 1 = nI (c + 1) := by rw [h1, nI_add]
  have v0 : v.1 = 0 ↔ c = 0 := by rw [h1]; exact nI_z c (by omega)
  rw [one, z0]
  by_cases hA : (nI k &&& (A ^^^ (-1))) = 0
  · by_cases hB : (B &&& ((nI k) ^^^ (-1))) = 0
    · simp only [if_pos hA, if_pos hB]
      by_cases h3 : c = 0
      · rw [if_pos (h2.mpr h3), if_pos (v0.mpr h3)]
        exact ⟨rfl, c + 1, by omega, a1, fun g => absurd g (nI_m1 k (by omega)), fun g => absurd g (by omega)⟩
      · rw [if_neg (fun g => h3 (h2.mp g)), if_neg (fun g => h3 (v0.mp g))]
        exact ⟨rfl, c + 1, by omega, a1, fun g => absurd (h2.mp g) h3, fun g => absurd g (by omega)⟩
    · simp only [if_pos hA, if_neg hB]
      exact ⟨rfl, c, by omega, h1, h2⟩
  · simp only [if_neg hA]
    exact ⟨rfl, c, by omega, h1, h2⟩
theorem sim_comesTrue {s : SX} {r : SM} (h : RR s r) (m : Int32) (what : Int32) : (aX_comesTrue s m what).1 = (aM_comesTrue s r m what).1 ∧ RR (uX_comesTrue s (aX_comesTrue s m what)) (uM_comesTrue r (aM_comesTrue s r m what)) := by
  unfold aX_comesTrue aM_comesTrue m_X3_comesTrue m_X4_comesTrue wl_bnd
  have t := h.rt
  have hp7 := t.hp
  rw [win (by decide) (by decide), win (by decide) (by decide)]
  by_cases h1 : m_X4_in m.toInt64 (lN 1) (lN 30) = true
  · simp only [if_pos h1]
    by_cases h2 : m_X4_in what.toInt64 (lN 0) (lN 1) = true
    · simp only [if_pos h2]
      have gA := iter_inv (m_X4_comesTrue_l37 r.mnow m s.T0.people) (fun k v => k ≤ s.T0.people → v.2.2.2.2.1 = nI (sb (fun k => (m_X3_wouldDoIt s.T0.counts s.T0.day s.T0.listed s.T0.followed s.T0.kinds s.T0.tempers k (cl m) true).1) k) ∧ v.2.2.2.2.2 = nI (sb (fun k => (m_X3_wouldDoIt s.T0.counts s.T0.day s.T0.listed s.T0.followed s.T0.kinds s.T0.tempers k (cl m) false).1) k)) s.T0.people 0 (r.mlisted, r.mfollowing, r.mdayThen, r.mtempers, nI 0, nI 0) (fun _ => ⟨rfl, rfl⟩) (fun j v h1 h2 hI hj => by
        obtain ⟨hA, hB⟩ := hI (by omega)
        have oA := or_bit j (by omega) _ (sb_lt (fun k => (m_X3_wouldDoIt s.T0.counts s.T0.day s.T0.listed s.T0.followed s.T0.kinds s.T0.tempers k (cl m) true).1) j)
        have oB := or_bit j (by omega) _ (sb_lt (fun k => (m_X3_wouldDoIt s.T0.counts s.T0.day s.T0.listed s.T0.followed s.T0.kinds s.T0.tempers k (cl m) false).1) j)
        have e1 := doesItIn_eq t (p := j) (by omega) (cl m) true v.2.2.2.1
        have e2 := doesItIn_eq t (p := j) (by omega) (cl m) false (m_X4_doesItIn r.mnow v.2.2.2.1 j (cl m) true s.T0.people).2.2.2.2
        rw [← hA] at oA
        rw [← hB] at oB
        rw [sb, sb]
        unfold m_X4_comesTrue_l37
        dsimp only [wl_bnd]
        rw [e1, e2]
        cases (m_X3_wouldDoIt s.T0.counts s.T0.day s.T0.listed s.T0.followed s.T0.kinds s.T0.tempers j (cl m) true).1
        · cases (m_X3_wouldDoIt s.T0.counts s.T0.day s.T0.listed s.T0.followed s.T0.kinds s.T0.tempers j (cl m) false).1
          · exact ⟨oA false, oB false⟩
          · exact ⟨oA false, oB true⟩
        · cases (m_X3_wouldDoIt s.T0.counts s.T0.day s.T0.listed s.T0.followed s.T0.kinds s.T0.tempers j (cl m) false).1
          · exact ⟨oA true, oB false⟩
          · exact ⟨oA true, oB true⟩)
      rw [Nat.zero_add] at gA
      obtain ⟨hA, hB⟩ := gA (Nat.le_refl _)
      generalize wl_iter (m_X4_comesTrue_l37 r.mnow m s.T0.people) s.T0.people 0 (r.mlisted, r.mfollowing, r.mdayThen, r.mtempers, nI 0, nI 0) = z at hA hB ⊢
      have e7 := who_eq hp7 s.T0.counts s.T0.day s.T0.listed s.T0.followed s.T0.kinds s.T0.tempers s.wkind s.wtemper s.wcounts s.wday s.wlisted s.wfollowed (cl m) true
      generalize m_X3_whoDoIt s.T0.counts s.T0.people s.T0.day s.T0.listed s.T0.followed s.T0.kinds s.T0.tempers s.wkind s.wtemper s.wcounts s.wday s.wlisted s.wfollowed (cl m) true = z7 at e7 ⊢
      have e8 := who_eq hp7 s.T0.counts s.T0.day s.T0.listed s.T0.followed s.T0.kinds s.T0.tempers z7.2.1 z7.2.2.1 z7.2.2.2.1 z7.2.2.2.2.1 z7.2.2.2.2.2.1 z7.2.2.2.2.2.2 (cl m) false
      generalize m_X3_whoDoIt s.T0.counts s.T0.people s.T0.day s.T0.listed s.T0.followed s.T0.kinds s.T0.tempers z7.2.1 z7.2.2.1 z7.2.2.2.1 z7.2.2.2.2.1 z7.2.2.2.2.2.1 z7.2.2.2.2.2.2 (cl m) false = z8 at e8 ⊢
      have k7 : z7.1 = z.2.2.2.2.1 := e7.trans hA.symm
      have k8 : z8.1 = z.2.2.2.2.2 := e8.trans hB.symm
      have P2 : 2 ^ s.T0.people ≤ 128 := Nat.pow_le_pow_right (n := 2) (by decide) hp7
      have it := iter2 (m_X3_comesTrue_l48 z7 z8) (m_X4_comesTrue_l107 z) (fun k v w => k ≤ 128 → v = w ∧ ∃ c, c ≤ k ∧ v.1 = nI c ∧ (v.2 = -1 ↔ c = 0)) (2 ^ s.T0.people) 0 (nI 0, -1) (nI 0, -1) (fun _ => ⟨rfl, 0, Nat.le_refl _, rfl, fun _ => rfl, fun _ => rfl⟩) (fun j v w h1 h2 hI hj => by
        obtain ⟨e, c, hc, g1, g2⟩ := hI (by omega)
        subst e
        have cs := count_step (A := z.2.2.2.2.1) (B := z.2.2.2.2.2) (k := j) (by omega) hc g1 g2
        unfold m_X3_comesTrue_l48 m_X4_comesTrue_l107
        dsimp only [wl_bnd]
        rw [k7, k8]
        exact cs)
      rw [Nat.zero_add] at it
      have e := (it P2).1
      rw [e]
      by_cases c0 : what = 0
      · simp only [if_pos c0]
        exact ⟨by trivial, h⟩
      · simp only [if_neg c0]
        exact ⟨by trivial, h⟩
    · simp only [if_neg h2]
      exact ⟨rfl, h.bad⟩
  · simp only [if_neg h1]
    exact ⟨rfl, h.bad⟩
