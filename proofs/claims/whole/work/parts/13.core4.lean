section WLR2
variable {p : Program} {l : Launch} {e : Env} {R : Room} {s : State} {m : MethodId} {args : Array Value} {below : List Frame} {meth : Method} {c : Code} {H : Heap} {locs : List Loc} {cells slots : Nat} {Q : State → Prop}
variable {cc : ByteArray} {pc : Nat} {ls : Array Slot} {rest : List Value} {off : Int} {tgt : Nat}
theorem wl_d_eq (hx : p.tables.exec = Jvm.exec) (hb : c.code = cc) {x y : Nat} (hX : x < 2 ^ 63) (hY : y < 2 ^ 63) (hdg : decode cc pc = .ok (.ifCond .eq off, 3)) (ht : (pc : Int) + off = (tgt : Int)) (kt : x = y → W p l e R s m args below meth c H locs cells slots Q (F0 m tgt ls rest)) (kf : ¬ x = y → W p l e R s m args below meth c H locs cells slots Q (F0 m (pc + 3) ls rest)) : W p l e R s m args below meth c H locs cells slots Q (F0 m pc ls (.int (lg_cmp (lN x) (lN y)) :: rest)) :=
  wl_c_eq hx hb hdg ht (fun h => kt ((pk_lEQ hX hY).mp h)) (fun h => kf (fun q => h ((pk_lEQ hX hY).mpr q)))
theorem wl_d_ne (hx : p.tables.exec = Jvm.exec) (hb : c.code = cc) {x y : Nat} (hX : x < 2 ^ 63) (hY : y < 2 ^ 63) (hdg : decode cc pc = .ok (.ifCond .ne off, 3)) (ht : (pc : Int) + off = (tgt : Int)) (kt : ¬ x = y → W p l e R s m args below meth c H locs cells slots Q (F0 m tgt ls rest)) (kf : x = y → W p l e R s m args below meth c H locs cells slots Q (F0 m (pc + 3) ls rest)) : W p l e R s m args below meth c H locs cells slots Q (F0 m pc ls (.int (lg_cmp (lN x) (lN y)) :: rest)) :=
  wl_c_ne hx hb hdg ht (fun h => kt (fun q => h ((pk_lEQ hX hY).mpr q))) (fun h => kf ((pk_lEQ hX hY).mp h))
theorem wl_d_le (hx : p.tables.exec = Jvm.exec) (hb : c.code = cc) {x y : Nat} (hX : x < 2 ^ 63) (hY : y < 2 ^ 63) (hdg : decode cc pc = .ok (.ifCond .le off, 3)) (ht : (pc : Int) + off = (tgt : Int)) (kt : x ≤ y → W p l e R s m args below meth c H locs cells slots Q (F0 m tgt ls rest)) (kf : ¬ x ≤ y → W p l e R s m args below meth c H locs cells slots Q (F0 m (pc + 3) ls rest)) : W p l e R s m args below meth c H locs cells slots Q (F0 m pc ls (.int (lg_cmp (lN x) (lN y)) :: rest)) :=
  wl_c_le hx hb hdg ht (fun h => kt ((pk_lLE hX hY).mp h)) (fun h => kf (fun q => h ((pk_lLE hX hY).mpr q)))
theorem wl_d_gt (hx : p.tables.exec = Jvm.exec) (hb : c.code = cc) {x y : Nat} (hX : x < 2 ^ 63) (hY : y < 2 ^ 63) (hdg : decode cc pc = .ok (.ifCond .gt off, 3)) (ht : (pc : Int) + off = (tgt : Int)) (kt : y < x → W p l e R s m args below meth c H locs cells slots Q (F0 m tgt ls rest)) (kf : ¬ y < x → W p l e R s m args below meth c H locs cells slots Q (F0 m (pc + 3) ls rest)) : W p l e R s m args below meth c H locs cells slots Q (F0 m pc ls (.int (lg_cmp (lN x) (lN y)) :: rest)) :=
  wl_c_gt hx hb hdg ht (fun h => kt ((pk_lLT hY hX).mp h)) (fun h => kf (fun q => h ((pk_lLT hY hX).mpr q)))
end WLR2
/-! ranges -/
theorem wl_cl {x : Int32} (h : 0 ≤ x.toInt) : x = nI (cl x) ∧ ((cl x : Nat) : Int) = x.toInt := by
  have hc : (cl x : Nat) = x.toInt.toNat := rfl
  have hx := Int32.toInt_lt x
  refine ⟨Int32.toInt_inj.mp ?_, by omega⟩
  rw [nI_toInt (by omega)]
  omega
theorem in_iff {x : Int32} {a b : Nat} (ha : a < 2 ^ 31) (hb : b < 2 ^ 31) : m_X4_in x.toInt64 (lN a) (lN b) = true ↔ (a : Int) ≤ x.toInt ∧ x.toInt ≤ (b : Int) := by
  unfold m_X4_in
  have e1 : x.toInt64 < lN a ↔ x.toInt < (a : Int) := by rw [Int64.lt_iff_toInt_lt, Int32.toInt_toInt64, lN_toInt ha]
  have e2 : lN b < x.toInt64 ↔ (b : Int) < x.toInt := by rw [Int64.lt_iff_toInt_lt, Int32.toInt_toInt64, lN_toInt hb]
  by_cases h1 : x.toInt64 < lN a
  · rw [if_pos h1]
    have g := e1.mp h1
    simp
    omega
  · rw [if_neg h1]
    have g : ¬ x.toInt < (a : Int) := fun q => h1 (e1.mpr q)
    by_cases h2 : lN b < x.toInt64
    · rw [if_pos h2]
      have g2 := e2.mp h2
      simp
      omega
    · rw [if_neg h2]
      have g2 : ¬ (b : Int) < x.toInt := fun q => h2 (e2.mpr q)
      simp
      omega
theorem in_spec {x : Int32} {a b : Nat} (ha : a < 2 ^ 31) (hb : b < 2 ^ 31) (h : m_X4_in x.toInt64 (lN a) (lN b) = true) : x = nI (cl x) ∧ a ≤ cl x ∧ cl x ≤ b := by
  obtain ⟨h1, h2⟩ := (in_iff ha hb).mp h
  obtain ⟨g1, g2⟩ := wl_cl (x := x) (by omega)
  exact ⟨g1, by omega, by omega⟩
theorem within_iff {x : Int32} {a b : Nat} (ha : a < 2 ^ 31) (hb : b < 2 ^ 31) : m_X3_isWithin x (nI a) (nI b) = true ↔ (a : Int) ≤ x.toInt ∧ x.toInt ≤ (b : Int) := by
  unfold m_X3_isWithin
  have e1 : x < nI a ↔ x.toInt < (a : Int) := by rw [Int32.lt_iff_toInt_lt, nI_toInt ha]
  have e2 : nI b < x ↔ (b : Int) < x.toInt := by rw [Int32.lt_iff_toInt_lt, nI_toInt hb]
  by_cases h1 : x < nI a
  · rw [if_pos h1]
    have g := e1.mp h1
    simp
    omega
  · rw [if_neg h1]
    have g : ¬ x.toInt < (a : Int) := fun q => h1 (e1.mpr q)
    by_cases h2 : nI b < x
    · rw [if_pos h2]
      have g2 := e2.mp h2
      simp
      omega
    · rw [if_neg h2]
      have g2 : ¬ (b : Int) < x.toInt := fun q => h2 (e2.mpr q)
      simp
      omega
theorem within_spec {x : Int32} {a b : Nat} (ha : a < 2 ^ 31) (hb : b < 2 ^ 31) (h : m_X3_isWithin x (nI a) (nI b) = true) : x = nI (cl x) ∧ a ≤ cl x ∧ cl x ≤ b := by
  obtain ⟨h1, h2⟩ := (within_iff ha hb).mp h
  obtain ⟨g1, g2⟩ := wl_cl (x := x) (by omega)
  exact ⟨g1, by omega, by omega⟩
theorem within_in {x : Int32} {a b : Nat} (ha : a < 2 ^ 31) (hb : b < 2 ^ 31) : m_X3_isWithin x (nI a) (nI b) = m_X4_in x.toInt64 (lN a) (lN b) := by
  rw [Bool.eq_iff_iff, within_iff ha hb, in_iff ha hb]
theorem wl_pm1 {P : Nat} (h : P ≤ 7) : (nI P - nI 1).toInt = (P : Int) - 1 := pk_sub_toInt (by omega) (by omega)
