/-! SIMULATION 3: status, part, count, digest, roster -/
theorem in_two {x : Int32} (h : m_X4_in x.toInt64 (lN 0) (lN 2) = true) : x = nI 0 ∨ x = nI 1 ∨ x = nI 2 := by
  obtain ⟨h1, h2, h3⟩ := in_spec (by decide) (by decide) h
  have h4 : cl x = 0 ∨ cl x = 1 ∨ cl x = 2 := by omega
  rcases h4 with g | g | g <;> rw [g] at h1
  · exact Or.inl h1
  · exact Or.inr (Or.inl h1)
  · exact Or.inr (Or.inr h1)
theorem in_lit {b n : Nat} (hb : b < 2 ^ 31) (hn : n ≤ b) : m_X4_in (nI n).toInt64 (lN 0) (lN b) = true := by
  have e : (nI n).toInt = (n : Int) := nI_toInt (by omega)
  exact (in_iff (by decide) hb).mpr ⟨by rw [e]; omega, by rw [e]; omega⟩
theorem sim_status {s : SX} {r : SM} (h : RR s r) (what : Int32) : (aX_status s what).1 = (aM_status s r what).1 ∧ RR (uX_status s (aX_status s what)) (uM_status r (aM_status s r what)) := by
  unfold aX_status aM_status m_X3_status m_X4_status wl_bnd
  by_cases h1 : m_X4_in what.toInt64 (lN 0) (lN 2) = true
  · simp only [if_pos h1]
    have c0 : cl (nI 0) = 0 := nI_clamp (by decide)
    have c1 : cl (nI 1) = 1 := nI_clamp (by decide)
    have c2 : cl (nI 2) = 2 := nI_clamp (by decide)
    rcases in_two h1 with g | g | g
    · subst g; rw [if_pos rfl, c0]; exact ⟨h.f0.symm, h⟩
    · subst g; rw [if_neg (by decide), if_pos rfl, c1]; exact ⟨h.f1.symm, h⟩
    · subst g; rw [if_neg (by decide), if_neg (by decide), if_pos rfl, c2]; exact ⟨h.f2.symm, h⟩
  · have n0 : ¬ what = nI 0 := fun q => h1 (by rw [q]; exact in_lit (by decide) (by decide))
    have n1 : ¬ what = nI 1 := fun q => h1 (by rw [q]; exact in_lit (by decide) (by decide))
    have n2 : ¬ what = nI 2 := fun q => h1 (by rw [q]; exact in_lit (by decide) (by decide))
    simp only [if_neg n0, if_neg n1, if_neg n2, if_neg h1]
    exact ⟨rfl, h.bad⟩
theorem sim_part {s : SX} {r : SM} (h : RR s r) (what : Int32) : (aX_part s what).1 = (aM_part s r what).1 ∧ RR (uX_part s (aX_part s what)) (uM_part r (aM_part s r what)) := by
  unfold aX_part aM_part m_X3_part m_X4_part wl_bnd
  rw [win (by decide) (by decide)]
  by_cases h1 : m_X4_in what.toInt64 (lN 0) (lN 1) = true
  · simp only [if_pos h1]
    by_cases h2 : what = 0
    · simp only [if_pos h2]; exact ⟨h.fa.symm, h⟩
    · obtain ⟨g1, g2, g3⟩ := in_spec (by decide) (by decide) h1
      have h3 : what = nI 1 := by
        have h4 : cl what = 0 ∨ cl what = 1 := by omega
        rcases h4 with g | g <;> rw [g] at g1
        · exact absurd (g1.trans wl_zero.symm) h2
        · exact g1
      simp only [if_neg h2, if_pos h3]
      exact ⟨h.fb.symm, h⟩
  · have n0 : ¬ what = 0 := fun q => h1 (by rw [q, wl_zero]; exact in_lit (by decide) (by decide))
    have n1 : ¬ what = nI 1 := fun q => h1 (by rw [q]; exact in_lit (by decide) (by decide))
    simp only [if_neg h1, if_neg n0, if_neg n1]
    exact ⟨rfl, h.bad⟩
