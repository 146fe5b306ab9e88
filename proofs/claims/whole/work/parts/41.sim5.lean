/-! SIMULATION 5: list, follow, undo -/
theorem with_Sm : ∀ n, n < 128 → ∀ p, p < 7 → ∀ b : Bool, ∃ m, m < 128 ∧ m_X3_withBit (nI n) p (wl_b b) = nI m := by decide +kernel
theorem in_01 {x : Int32} (h : m_X4_in x.toInt64 (lN 0) (lN 1) = true) : x = nI 0 ∨ x = nI 1 := by
  obtain ⟨h1, h2, h3⟩ := in_spec (by decide) (by decide) h
  have h4 : cl x = 0 ∨ cl x = 1 := by omega
  rcases h4 with g | g <;> rw [g] at h1
  · exact Or.inl h1
  · exact Or.inr h1
theorem wit_Sm {x is : Int32} {p : Nat} (hx : Sm 128 x) (hp : p < 7) (hi : m_X4_in is.toInt64 (lN 0) (lN 1) = true) : Sm 128 (m_X3_withBit x p is) := by
  obtain ⟨n, hn, rfl⟩ := hx
  rcases in_01 hi with h | h
  · obtain ⟨m, h1, h2⟩ := with_Sm n hn p hp false
    exact ⟨m, h1, by rw [h]; exact h2⟩
  · obtain ⟨m, h1, h2⟩ := with_Sm n hn p hp true
    exact ⟨m, h1, by rw [h]; exact h2⟩
