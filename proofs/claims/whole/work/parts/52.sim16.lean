/-! SIMULATION 16: read: items, the whole text -/
/-- a new town, as it is read -/
def FT (ct : Int32) (P : Nat) (li fo : Int32) (kinds tempers an : Nat → Int32) : Prop := RT (Tn.mk ct P (nI 0) li fo (nI 0) 0 0 kinds tempers (fun _ => nI 0) (fun _ => nI 0)) an
theorem FT.out {ct : Int32} {P : Nat} {li fo : Int32} {kinds tempers an : Nat → Int32} (h : FT ct P li fo kinds tempers an) {now' ki te no pa : Nat → Int32} (e : ∀ i, i < 52 → now' i = an i) (eK : ∀ i, i < 7 → ki i = kinds i) (eT : ∀ i, i < 7 → te i = tempers i) : RT (Tn.mk ct P (nI 0) li fo (nI 0) 0 0 ki te no pa) now' := by
  have hr : RT (Tn.mk ct P (nI 0) li fo (nI 0) 0 0 kinds tempers (fun _ => nI 0) (fun _ => nI 0)) an := h
  have hp : P ≤ 7 := hr.hp
  refine ⟨hp, Nat.zero_le _, Nat.zero_le _, (e 0 (by decide)).trans (hr.e0), (e 1 (by decide)).trans (hr.e1), (e 2 (by decide)).trans (hr.e2), (e 3 (by decide)).trans (hr.e3), fun p hp2 => ?_, fun p hp2 => ?_, ⟨(e 18 (by decide)).trans (hr.el).1, (hr.el).2⟩, ⟨(e 19 (by decide)).trans (hr.ef).1, (hr.ef).2⟩, (e 20 (by decide)).trans (hr.es), (e 21 (by decide)).trans (hr.ed), fun i hi => absurd hi (Nat.not_lt_zero _), fun j hj => absurd hj (Nat.not_lt_zero _), fun j hj => absurd hj (Nat.not_lt_zero _), hr.ec⟩
  · have hp3 : p < P := hp2
    show now' (4 + p) = ki p ∧ Sm 6 (ki p)
    rw [eK p (by omega), e (4 + p) (by omega)]
    exact hr.ek p hp3
  · have hp3 : p < P := hp2
    show now' (11 + p) = te p ∧ Sm 100 (te p)
    rw [eT p (by omega), e (11 + p) (by omega)]
    exact hr.et p hp3
def IT (L b : Nat) (zX : Bool × Nat × Nat × Int32 × Int32 × Int32 × Nat × Int32 × Int32 × Nat × (Nat → Int32) × (Nat → Int32)) (zM : Bool × Nat × Nat × Int32 × Int32 × (Nat → Int32) × (Nat → Int32)) : Prop :=
  (zX.1 = true ∧ zM.1 = true ∧ zM.2.2.2.1 = nI 3 ∧ zX.2.2.1 = zM.2.1 + zM.2.2.1 ∧ b < zX.2.2.1 ∧ zX.2.2.1 ≤ L ∧ zX.2.2.2.2.2.2.2.2.2.1 = 0 ∧ FT zX.2.2.2.2.2.1 zX.2.2.2.2.2.2.1 zX.2.2.2.2.2.2.2.1 zX.2.2.2.2.2.2.2.2.1 zX.2.2.2.2.2.2.2.2.2.2.1 zX.2.2.2.2.2.2.2.2.2.2.2 zM.2.2.2.2.2.1) ∨ (zX.1 = false ∧ ¬ (zM.1 = true ∧ zM.2.2.2.1 = nI 3) ∧ zX.2.1 = zM.2.1 ∧ zX.2.1 ≤ L)
theorem n3_0 : ¬ nI 3 = nI 0 := by decide +kernel
theorem upd_id {f : Nat → Int32} {i : Nat} {x : Int32} (h : f i = x) : upd f i x = f := funext (fun k => by
  by_cases hk : k = i
  · rw [hk, pk_us, h]
  · rw [pk_un hk])
theorem one_2 {L ta lg P : Nat} {tok val n0 ct li fo : Int32} {by_ kinds tempers an vals : Nat → Int32} (hL : L ≤ 150) (hT : TK L ta lg tok) (hF : FT ct P li fo kinds tempers an) :
    IT L (ta + lg) ((m_X0_takesOne L ta (ta + lg) tok n0 by_ P 0 kinds tempers).1, (m_X0_takesOne L ta (ta + lg) tok n0 by_ P 0 kinds tempers).2.1, (m_X0_takesOne L ta (ta + lg) tok n0 by_ P 0 kinds tempers).2.2.1, (m_X0_takesOne L ta (ta + lg) tok n0 by_ P 0 kinds tempers).2.2.2.1, (m_X0_takesOne L ta (ta + lg) tok n0 by_ P 0 kinds tempers).2.2.2.2.1, ct, (m_X0_takesOne L ta (ta + lg) tok n0 by_ P 0 kinds tempers).2.2.2.2.2.1, li, fo, (m_X0_takesOne L ta (ta + lg) tok n0 by_ P 0 kinds tempers).2.2.2.2.2.2.1, (m_X0_takesOne L ta (ta + lg) tok n0 by_ P 0 kinds tempers).2.2.2.2.2.2.2.1, (m_X0_takesOne L ta (ta + lg) tok n0 by_ P 0 kinds tempers).2.2.2.2.2.2.2.2) (m_X4_takesOne L ta lg tok val by_ an vals P) := by
  have hp : P ≤ 7 := RT.hp hF
  have i0 : (nI 0).toInt64 = lN 0 := nI_l (by decide)
  have i5 : (nI 5).toInt64 = lN 5 := nI_l (by decide)
  have i30 : (nI 30).toInt64 = lN 30 := nI_l (by decide)
  unfold m_X0_takesOne m_X4_takesOne
  dsimp only [wl_bnd]
  by_cases h7 : P = 7
  · simp only [if_pos h7, if_pos (show 7 ≤ P by omega)]
    exact Or.inr ⟨rfl, fun q => absurd (show false = true from q.1) (by decide), rfl, by have := hT.1; show ta ≤ L; omega⟩
  · simp only [if_neg h7, if_neg (show ¬ 7 ≤ P by omega)]
    rw [takesNumber_eq hT.1 hL, goBehind_eq, takes_eq, i0, i5]
    obtain ⟨g1, g2⟩ := lookAt_ok (by_ := by_) hT.1 hL
    generalize m_X4_lookAt L by_ (ta + lg) = x1 at g1 g2 ⊢
    by_cases c1 : x1.2.2.1 = nI 2
    · simp only [if_pos c1]
      rw [win (by decide) (by decide)]
      by_cases c2 : m_X4_in x1.2.2.2.toInt64 (lN 0) (lN 5) = true
      · simp only [if_pos c2]
        rw [takesNumber_eq g2.1 hL, takes_eq, i0, i30]
        obtain ⟨g3, g4⟩ := lookAt_ok (by_ := by_) g2.1 hL
        generalize m_X4_lookAt L by_ (x1.1 + x1.2.1) = x2 at g3 g4 ⊢
        by_cases d1 : x2.2.2.1 = nI 2
        · simp only [if_pos d1]
          rw [win (by decide) (by decide)]
          by_cases d2 : m_X4_in x2.2.2.2.toInt64 (lN 0) (lN 30) = true
          · simp only [if_pos d2]
            have e0 : upd (upd vals 0 x1.2.2.2) 1 x2.2.2.2 0 = x1.2.2.2 := by rw [pk_un (by decide), pk_us]
            have e1 : upd (upd vals 0 x1.2.2.2) 1 x2.2.2.2 1 = x2.2.2.2 := pk_us
            rw [e0, e1, takesStop_eq g4.1 hL]
            obtain ⟨g5, g6⟩ := lookAt_ok (by_ := by_) g4.1 hL
            generalize m_X4_lookAt L by_ (x2.1 + x2.2.1) = x3 at g5 g6 ⊢
            unfold m_X1_addOne
            simp only [if_pos (show P < 7 by omega)]
            by_cases f1 : x3.2.2.1 = nI 3
            · simp only [if_pos f1]
              have l3 := g6.2 (fun q => n3_0 (f1.symm.trans q))
              have g61 := g6.1
              have hO := RT.one hF (show P < 7 by omega) (in_Sm (by decide) c2) (in_Sm (by decide) d2)
              have e3 : m_X4_layOne an x1.2.2.2 x2.2.2.2 P 3 = nI 0 := by
                unfold m_X4_layOne
                rw [pk_un (by decide), pk_un (by omega), pk_un (by omega)]
                exact RT.e3 hF
              rw [show (Tn.mk ct P (nI 0) li fo (nI 0) 0 0 kinds tempers (fun _ => nI 0) (fun _ => nI 0)).people = P from rfl, upd_id e3] at hO
              exact Or.inl ⟨rfl, rfl, f1, rfl, by show ta + lg < x3.1 + x3.2.1; omega, g61, rfl, hO⟩
            · simp only [if_neg f1]
              exact Or.inr ⟨rfl, fun q => f1 q.2, rfl, by have := g6.1; show x3.1 ≤ L; omega⟩
          · simp only [if_neg d2]
            exact Or.inr ⟨by first | rfl | exact Bool.eq_false_iff.mpr d2, fun q => absurd (show false = true from q.1) (by decide), rfl, by have := g4.1; show x2.1 ≤ L; omega⟩
        · simp only [if_neg d1]
          exact Or.inr ⟨rfl, fun q => absurd (show false = true from q.1) (by decide), rfl, by have := g4.1; show x2.1 ≤ L; omega⟩
      · simp only [if_neg c2]
        exact Or.inr ⟨by first | rfl | exact Bool.eq_false_iff.mpr c2, fun q => absurd (show false = true from q.1) (by decide), rfl, by have := g2.1; show x1.1 ≤ L; omega⟩
    · simp only [if_neg c1]
      exact Or.inr ⟨rfl, fun q => absurd (show false = true from q.1) (by decide), rfl, by have := g2.1; show x1.1 ≤ L; omega⟩
theorem rngP {P : Nat} (hP : P ≤ 7) (v : Int32) : m_X3_isWithin v (nI 0) (nI P - nI 1) = m_X4_in v.toInt64 (nI 0).toInt64 (nI P - nI 1).toInt64 := by
  rw [show (nI 0).toInt64 = lN 0 from nI_l (by decide)]
  exact isThere_isOne hP
theorem rngS {P : Nat} (hP : P ≤ 7) {v : Int32} (h : m_X4_in v.toInt64 (nI 0).toInt64 (nI P - nI 1).toInt64 = true) : v = nI (cl v) ∧ cl v < P := by
  rw [show (nI 0).toInt64 = lN 0 from nI_l (by decide)] at h
  exact isOne_spec hP h
/-- the shape of list and follow -/
def sh (L b : Nat) (n0 : Int32) (by_ : Nat → Int32) (P : Nat) (li : Int32) : Bool × Nat × Nat × Int32 × Int32 × Int32 := m_X0_takesListed L b n0 by_ P li
theorem bit_cls {L ta lg P which : Nat} {tok n0 li : Int32} {by_ an vals : Nat → Int32} (hL : L ≤ 150) (hT : TK L ta lg tok) (hp : P ≤ 7) (he : an which = li) (hl : Sm (2 ^ P) li) :
    (∃ m, (m_X0_takesListed L (ta + lg) n0 by_ P li).1 = true ∧ (m_X4_takesBit L ta lg by_ an vals which P).1 = true ∧ (m_X4_takesBit L ta lg by_ an vals which P).2.2.2.1 = nI 3 ∧ (m_X0_takesListed L (ta + lg) n0 by_ P li).2.2.1 = (m_X4_takesBit L ta lg by_ an vals which P).2.1 + (m_X4_takesBit L ta lg by_ an vals which P).2.2.1 ∧ ta + lg < (m_X0_takesListed L (ta + lg) n0 by_ P li).2.2.1 ∧ (m_X0_takesListed L (ta + lg) n0 by_ P li).2.2.1 ≤ L ∧ (m_X0_takesListed L (ta + lg) n0 by_ P li).2.2.2.2.2 = m ∧ Sm (2 ^ P) m ∧ (m_X4_takesBit L ta lg by_ an vals which P).2.2.2.2.2.1 = upd an which m) ∨ ((m_X0_takesListed L (ta + lg) n0 by_ P li).1 = false ∧ ¬ ((m_X4_takesBit L ta lg by_ an vals which P).1 = true ∧ (m_X4_takesBit L ta lg by_ an vals which P).2.2.2.1 = nI 3) ∧ (m_X0_takesListed L (ta + lg) n0 by_ P li).2.1 = (m_X4_takesBit L ta lg by_ an vals which P).2.1 ∧ (m_X0_takesListed L (ta + lg) n0 by_ P li).2.1 ≤ L) := by
  unfold m_X0_takesListed m_X4_takesBit
  dsimp only [wl_bnd]
  rw [takesNumber_eq hT.1 hL, goBehind_eq, takes_eq]
  obtain ⟨g1, g2⟩ := lookAt_ok (by_ := by_) hT.1 hL
  generalize m_X4_lookAt L by_ (ta + lg) = x1 at g1 g2 ⊢
  by_cases c1 : x1.2.2.1 = nI 2
  · simp only [if_pos c1]
    rw [rngP hp]
    by_cases c2 : m_X4_in x1.2.2.2.toInt64 (nI 0).toInt64 (nI P - nI 1).toInt64 = true
    · simp only [if_pos c2]
      obtain ⟨v1, v2⟩ := rngS hp c2
      rw [takesStop_eq g2.1 hL]
      obtain ⟨g5, g6⟩ := lookAt_ok (by_ := by_) g2.1 hL
      generalize m_X4_lookAt L by_ (x1.1 + x1.2.1) = x3 at g5 g6 ⊢
      have ew : an which ||| (nI 1 <<< (upd vals 0 x1.2.2.2 0 &&& 31)) = m_X3_withBit li (cl x1.2.2.2) (nI 1) := by
        unfold m_X3_withBit
        rw [if_pos rfl, pk_us, he, ← v1]
      by_cases f1 : x3.2.2.1 = nI 3
      · simp only [if_pos f1]
        have l3 := g6.2 (fun q => n3_0 (f1.symm.trans q))
        have g61 := g6.1
        exact Or.inl ⟨_, by trivial, by trivial, f1, rfl, by omega, g61, rfl, wit_Sm hl hp v2 (in_lit (by decide) (by decide)), congrArg (upd an which) ew⟩
      · simp only [if_neg f1]
        exact Or.inr ⟨by trivial, fun q => f1 q.2, rfl, by have := g6.1; omega⟩
    · simp only [if_neg c2]
      exact Or.inr ⟨by first | trivial | exact Bool.eq_false_iff.mpr c2, fun q => absurd (show false = true from q.1) (by decide), rfl, by have := g2.1; show x1.1 ≤ L; omega⟩
  · simp only [if_neg c1]
    exact Or.inr ⟨by first | trivial | rfl, fun q => absurd (show false = true from q.1) (by decide), rfl, by have := g2.1; show x1.1 ≤ L; omega⟩
theorem foll_eq {L b P : Nat} {n0 li : Int32} {by_ : Nat → Int32} : m_X0_takesFollowed L b n0 by_ P li = m_X0_takesListed L b n0 by_ P li := rfl
theorem item_2 {L ta lg P : Nat} {tok val n0 ct li fo : Int32} {by_ kinds tempers an vals : Nat → Int32} (hL : L ≤ 150) (hT : TK L ta lg tok) (hF : FT ct P li fo kinds tempers an) :
    IT L (ta + lg) (m_X0_takesItem L ta (ta + lg) tok n0 by_ ct P li fo 0 kinds tempers false) (m_X4_takesItem L ta lg tok val by_ an vals P) := by
  have hp : P ≤ 7 := RT.hp hF
  unfold m_X0_takesItem m_X4_takesItem
  dsimp only [wl_bnd]
  rw [w_0, w_1, w_2, w_3]
  by_cases t0 : m_X4_spells ta lg tok by_ 4 (nI 116) (nI 111) (nI 119) (nI 110) (nI 0) (nI 0) = true
  · obtain ⟨k1, k2, k3⟩ := w_not t0
    rw [t0, k1, k2, k3]
    exact Or.inr ⟨rfl, fun q => absurd (show false = true from q.1) (by decide), rfl, by have := hT.1; show ta ≤ L; omega⟩
  · rw [Bool.eq_false_iff.mpr t0]
    simp only [if_pos (show false = false from rfl), if_neg Bool.false_ne_true]
    by_cases t1 : m_X4_spells ta lg tok by_ 3 (nI 111) (nI 110) (nI 101) (nI 0) (nI 0) (nI 0) = true
    · simp only [if_pos t1]
      exact one_2 hL hT hF
    · simp only [if_neg t1]
      by_cases t2 : m_X4_spells ta lg tok by_ 4 (nI 108) (nI 105) (nI 115) (nI 116) (nI 0) (nI 0) = true
      · simp only [if_pos t2]
        rcases bit_cls (which := 18) (n0 := n0) (by_ := by_) (an := an) (vals := vals) hL hT hp (RT.el hF).1 (RT.el hF).2 with ⟨m, a1, a2, a3, a4, a5, a6, a7, a8, a9⟩ | ⟨a1, a2, a3, a4⟩
        · have u : ∀ i, i ≠ 18 → upd an 18 m i = an i := fun i hi => pk_un hi
          refine Or.inl ⟨a1, a2, a3, a4, a5, a6, rfl, ?_⟩
          show FT ct P (m_X0_takesListed L (ta + lg) n0 by_ P li).2.2.2.2.2 fo kinds tempers (m_X4_takesBit L ta lg by_ an vals 18 P).2.2.2.2.2.1
          rw [a7, a9]
          exact RT.put hF (fun i hi => u i (by omega)) (fun p hp2 => ⟨(u (11 + p) (by have hp3 : p < P := hp2; omega)).trans (RT.et hF p hp2).1, (RT.et hF p hp2).2⟩) ⟨pk_us, a8⟩ ⟨(u 19 (by decide)).trans (RT.ef hF).1, (RT.ef hF).2⟩ ((u 20 (by decide)).trans (RT.es hF)) ((u 21 (by decide)).trans (RT.ed hF))
        · exact Or.inr ⟨a1, a2, a3, a4⟩
      · simp only [if_neg t2]
        by_cases t3 : m_X4_spells ta lg tok by_ 6 (nI 102) (nI 111) (nI 108) (nI 108) (nI 111) (nI 119) = true
        · simp only [if_pos t3]
          rw [foll_eq]
          rcases bit_cls (which := 19) (n0 := n0) (by_ := by_) (an := an) (vals := vals) hL hT hp (RT.ef hF).1 (RT.ef hF).2 with ⟨m, a1, a2, a3, a4, a5, a6, a7, a8, a9⟩ | ⟨a1, a2, a3, a4⟩
          · have u : ∀ i, i ≠ 19 → upd an 19 m i = an i := fun i hi => pk_un hi
            simp only [if_pos a1, if_pos a2]
            refine Or.inl ⟨rfl, rfl, a3, a4, a5, a6, rfl, ?_⟩
            show FT ct P li (m_X0_takesListed L (ta + lg) n0 by_ P fo).2.2.2.2.2 kinds tempers (m_X4_takesBit L ta lg by_ an vals 19 P).2.2.2.2.2.1
            rw [a7, a9]
            exact RT.put hF (fun i hi => u i (by omega)) (fun p hp2 => ⟨(u (11 + p) (by have hp3 : p < P := hp2; omega)).trans (RT.et hF p hp2).1, (RT.et hF p hp2).2⟩) ⟨(u 18 (by decide)).trans (RT.el hF).1, (RT.el hF).2⟩ ⟨pk_us, a8⟩ ((u 20 (by decide)).trans (RT.es hF)) ((u 21 (by decide)).trans (RT.ed hF))
          · simp only [if_neg (Bool.eq_false_iff.mp a1)]
            by_cases b1 : (m_X4_takesBit L ta lg by_ an vals 19 P).1 = true
            · simp only [if_pos b1]
              exact Or.inr ⟨rfl, fun q => a2 ⟨b1, q.2⟩, a3, a4⟩
            · simp only [if_neg b1]
              exact Or.inr ⟨rfl, fun q => absurd (show false = true from q.1) (by decide), a3, a4⟩
        · simp only [if_neg t3]
          exact Or.inr ⟨rfl, fun q => absurd (show false = true from q.1) (by decide), rfl, by have := hT.1; show ta ≤ L; omega⟩
theorem first_2 {L ta lg : Nat} {tok val n0 : Int32} {by_ kinds tempers an vals : Nat → Int32} (hL : L ≤ 150) (hT : TK L ta lg tok) :
    IT L (ta + lg) (m_X0_takesItem L ta (ta + lg) tok n0 by_ (nI 3) 0 (nI 0) (nI 0) 0 kinds tempers true) (m_X4_takesTown L ta lg tok val by_ an vals) := by
  have i1 : (nI 1).toInt64 = lN 1 := nI_l (by decide)
  have i5 : (nI 5).toInt64 = lN 5 := nI_l (by decide)
  unfold m_X0_takesItem m_X4_takesTown m_X0_takesTown
  dsimp only [wl_bnd]
  rw [w_0]
  by_cases t0 : m_X4_spells ta lg tok by_ 4 (nI 116) (nI 111) (nI 119) (nI 110) (nI 0) (nI 0) = true
  · rw [t0]
    simp only [if_pos (show true = true from rfl)]
    rw [takesNumber_eq hT.1 hL, goBehind_eq, takes_eq, i1, i5]
    obtain ⟨g1, g2⟩ := lookAt_ok (by_ := by_) hT.1 hL
    generalize m_X4_lookAt L by_ (ta + lg) = x1 at g1 g2 ⊢
    by_cases c1 : x1.2.2.1 = nI 2
    · simp only [if_pos c1]
      rw [win (by decide) (by decide)]
      by_cases c2 : m_X4_in x1.2.2.2.toInt64 (lN 1) (lN 5) = true
      · simp only [if_pos c2]
        obtain ⟨v1, v2, v3⟩ := in_spec (by decide) (by decide) c2
        rw [takesStop_eq g2.1 hL]
        obtain ⟨g5, g6⟩ := lookAt_ok (by_ := by_) g2.1 hL
        generalize m_X4_lookAt L by_ (x1.1 + x1.2.1) = x3 at g5 g6 ⊢
        have eu : upd vals 0 x1.2.2.2 0 = x1.2.2.2 := pk_us
        rw [eu]
        by_cases f1 : x3.2.2.1 = nI 3
        · simp only [if_pos f1]
          have l3 := g6.2 (fun q => n3_0 (f1.symm.trans q))
          have g61 := g6.1
          have hB : FT x1.2.2.2 0 (nI 0) (nI 0) kinds tempers (m_X4_begin an x1.2.2.2) := RT.begin (T := Tn.mk (nI 0) 0 (nI 0) (nI 0) (nI 0) (nI 0) 0 0 kinds tempers (fun _ => nI 0) (fun _ => nI 0)) ⟨cl x1.2.2.2, v2, v3, v1⟩
          exact Or.inl ⟨rfl, rfl, f1, rfl, by show ta + lg < x3.1 + x3.2.1; omega, g61, rfl, hB⟩
        · simp only [if_neg f1]
          exact Or.inr ⟨rfl, fun q => f1 q.2, rfl, by have := g6.1; show x3.1 ≤ L; omega⟩
      · simp only [if_neg c2]
        exact Or.inr ⟨by first | rfl | exact Bool.eq_false_iff.mpr c2, fun q => absurd (show false = true from q.1) (by decide), rfl, by have := g2.1; show x1.1 ≤ L; omega⟩
    · simp only [if_neg c1]
      exact Or.inr ⟨rfl, fun q => absurd (show false = true from q.1) (by decide), rfl, by have := g2.1; show x1.1 ≤ L; omega⟩
  · rw [Bool.eq_false_iff.mpr t0]
    exact Or.inr ⟨rfl, fun q => absurd (show false = true from q.1) (by decide), rfl, by have := hT.1; show ta ≤ L; omega⟩
theorem neg_s : ∀ s, s < 151 → ((-10) - nI s : Int32) < 0 := by decide +kernel
theorem pos_s : ∀ s, s < 151 → ¬ nI s < 0 := by decide +kernel
def BR (now : Nat → Int32) (r : Int32 × Nat × Nat × Int32 × Int32 × Int32 × Nat × Int32 × Int32 × Int32 × Int32 × Nat × Nat × (Nat → Int32) × (Nat → Int32)) (q : Int32 × Nat × Nat × Int32 × Int32 × (Nat → Int32) × (Nat → Int32) × (Nat → Int32)) : Prop :=
  r.1 = q.1 ∧ ((r.1 < 0 ∧ q.2.2.2.2.2.1 = now) ∨ (¬ r.1 < 0 ∧ r.2.2.2.2.2.2.2.1 = nI 0 ∧ r.2.2.2.2.2.2.2.2.2.2.1 = nI 0 ∧ r.2.2.2.2.2.2.2.2.2.2.2.1 = 0 ∧ r.2.2.2.2.2.2.2.2.2.2.2.2.1 = 0 ∧ ∃ an, FT r.2.2.2.2.2.1 r.2.2.2.2.2.2.1 r.2.2.2.2.2.2.2.2.1 r.2.2.2.2.2.2.2.2.2.1 r.2.2.2.2.2.2.2.2.2.2.2.2.2.1 r.2.2.2.2.2.2.2.2.2.2.2.2.2.2 an ∧ ∀ i, i < 52 → q.2.2.2.2.2.1 i = an i))
theorem cp52 (v5 : Nat × Nat × Int32 × Int32 × (Nat → Int32) × (Nat → Int32) × Nat) (now : Nat → Int32) (i : Nat) (hi : i < 52) : wl_iter (m_X4_read_l68 v5) 52 0 now i = v5.2.2.2.2.1 i := by
  have g := iter_inv (m_X4_read_l68 v5) (fun k w => ∀ i, i < k → w i = v5.2.2.2.2.1 i) 52 0 now (fun i hi => absurd hi (Nat.not_lt_zero _)) (fun j w _ _ hI i hi => by
    show upd w j (v5.2.2.2.2.1 j) i = _
    by_cases h : i = j
    · rw [h, pk_us]
    · rw [pk_un h]; exact hI i (by omega))
  exact g i hi
