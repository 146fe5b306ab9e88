section WLR2
variable {p : Program} {l : Launch} {e : Env} {R : Room} {s : State} {m : MethodId} {args : Array Value} {below : List Frame} {meth : Method} {c : Code} {H : Heap} {locs : List Loc} {cells slots : Nat} {Q : State → Prop}
variable {cc : ByteArray} {pc : Nat} {ls : Array Slot} {rest : List Value} {off : Int} {tgt : Nat}
theorem wl_d_eq (hx : p.tables.exec = Jvm.exec) (hb : c.code = cc) {x y : Nat} (hX : x < 2 ^ 63) (hY : y < 2 ^ 63) (hdg : decode cc pc = .ok (.ifCond .eq off, 3)) (ht : (pc : Int) + off = (tgt : Int)) (kt : x = y → W p l e R s m args below meth c H locs cells slots Q (F0 m tgt ls rest)) (kf : ¬ x = y → W p l e R s m args below meth c H locs cells slots Q (F0 m (pc + 3) ls rest)) : W p l e R s m args below meth c H locs cells slots Q (F0 m pc ls (.int (lg_cmp (lN x) (lN y)) :: rest)) :=
  wl_c_eq hx hb hdg ht (fun h => kt ((pk_lEQ hX hY).mp h)) (fun h => kf (fun q => h ((pk_lEQ hX hY).mpr q)))
theorem wl_d_ne (hx : p.tables.exec = Jvm.exec) (hb : c.code = cc) {x y : Nat} (hX : x < 2 ^ 63) (hY : y < 2 ^ 63) (hdg : decode cc pc = .ok (.ifCond .ne off, 3)) (ht : (pc : Int) + off = (tgt : Int)) (kt : ¬ x = y → W p l e R s m args below meth c H locs cells slots Q (F0 m tgt ls rest)) (kf : x = y → W p l e R s m args below meth c H locs cells slots Q (F0 m (pc + 3) ls rest)) : W p l e R s m args below meth c H locs cells slots Q (F0 m pc ls (.int (lg_cmp (lN x) (lN y)) :: rest)) :=
  wl_c_ne hx hb hdg ht (fun h => kt (fun q => h ((pk_lEQ hX hY).mpr q))) (fun h => kf ((pk_lEQ hX hY).mp h))
theorem wl_d_le (hx : p.tables.exec = Jvm.exec) (hb : c.code = cc) {x y : Nat} (hX : x < 2 ^ 63) (hY : y < 2 ^ 63) (hdg : decode cc pc = .ok (.ifCond .le off, 3)) (ht : (pc : Int) + off = (tgt : Int)) (kt : x ≤ y → W p l e R s m args below meth c H locs cells slots Q (F0 m tgt ls rest)) (kf : ¬ x ≤ y → W p l e R s m args below meth c H locs cells slots Q (F0 m (pc + 3) ls rest)) : W p l e R s m args below meth c H locs cells slots Q (F0 m pc ls (.int (lg_cmp (lN x) (lN y)) :: rest)) :=
  wl_c_le hx hb hdg ht (fun h => kt ((pk_lLE hX hY).mp h)) (fun h => kf (fun q => h ((pk_lLE hX hY).mpr q)))
theorem wl_d_gt (hx : p.tables.exec = Jvm.exec) (hb : c.code = cc) {x y : Nat} (hX : x < 2 ^ 63) (hY : y < 2 ^ 63) (hdg : decode cc pc = .ok (.ifCond .gt off, 3)) (ht : (pc : Int) + off = (tgt : Int)) (kt : y < x → W p l e R s m args below meth c H locs cells slots Q (F0 m tgt ls rest)) (kf : ¬ y < x → W p l e R s m args below meth c H locs cells slots Q (F0 m (pc + 3) ls rest)) : W p l e R s m args below meth c H locs cells slots Q (F0 m pc ls (.int (lg_cmp (lN x) (lN y)) :: rest)) :=
  wl_c_gt hx hb hdg ht (fun h => kt ((pk_lLT hY hX).mp h)) (fun h => kf (fun q => h ((pk_lLT hY hX).mpr q)))
theorem wl_JP {τ : Type} (u : τ) (j : Nat) (st : τ → List Value) (nL : Nat) (lv : τ → List (Nat × Value)) (D : va_G) (A : Nat → Prop) (H0 : Heap) (wld : τ → va_W) (B : τ → Prop) {g : JFrame}
    (J : ∀ z : τ, u = z → B z → ∀ (ls : Array Slot) (H : Heap) (locs : List Loc), va_P D vwCl (wld z) H → va_D A (wld z) → va_S A H0 H locs → lv_has ls nL (lv z) → W p l e R s m args below meth c H locs cells slots Q (F0 m j ls (st z)))
    (kk : (∀ z : τ, u = z → B z → ∀ (ls : Array Slot) (H : Heap) (locs : List Loc), va_P D vwCl (wld z) H → va_D A (wld z) → va_S A H0 H locs → lv_has ls nL (lv z) → W p l e R s m args below meth c H locs cells slots Q (F0 m j ls (st z))) → W p l e R s m args below meth c H locs cells slots Q g) : W p l e R s m args below meth c H locs cells slots Q g := kk J
end WLR2
/-! ranges -/
theorem wl_cl {x : Int32} (h : 0 ≤ x.toInt) : x = nI (cl x) ∧ ((cl x : Nat) : Int) = x.toInt := by
  have hc : (cl x : Nat) = x.toInt.toNat := rfl
  have hx := Int32.toInt_lt x
  refine ⟨Int32.toInt_inj.mp ?_, by omega⟩
  rw [nI_toInt (by omega)]
  omega
theorem in_iff {x : Int32} {a b : Nat} (ha : a < 2 ^ 31) (hb : b < 2 ^ 31) : m_X4_in x.toInt64 (lN a) (lN b) = true ↔ (a : Int) ≤ x.toInt ∧ x.toInt ≤ (b : Int) := by
  unfold m_X4_in
  have e1 : x.toInt64 < lN a ↔ x.toInt < (a : Int) := by rw [Int64.lt_iff_toInt_lt, Int32.toInt_toInt64, lN_toInt ha]
  have e2 : lN b < x.toInt64 ↔ (b : Int) < x.toInt := by rw [Int64.lt_iff_toInt_lt, Int32.toInt_toInt64, lN_toInt hb]
  by_cases h1 : x.toInt64 < lN a
  · rw [if_pos h1]
    have g := e1.mp h1
    simp
    omega
  · rw [if_neg h1]
    have g : ¬ x.toInt < (a : Int) := fun q => h1 (e1.mpr q)
    by_cases h2 : lN b < x.toInt64
    · rw [if_pos h2]
      have g2 := e2.mp h2
      simp
      omega
    · rw [if_neg h2]
      have g2 : ¬ (b : Int) < x.toInt := fun q => h2 (e2.mpr q)
      simp
      omega
theorem in_spec {x : Int32} {a b : Nat} (ha : a < 2 ^ 31) (hb : b < 2 ^ 31) (h : m_X4_in x.toInt64 (lN a) (lN b) = true) : x = nI (cl x) ∧ a ≤ cl x ∧ cl x ≤ b := by
  obtain ⟨h1, h2⟩ := (in_iff ha hb).mp h
  obtain ⟨g1, g2⟩ := wl_cl (x := x) (by omega)
  exact ⟨g1, by omega, by omega⟩
theorem within_iff {x : Int32} {a b : Nat} (ha : a < 2 ^ 31) (hb : b < 2 ^ 31) : m_X3_isWithin x (nI a) (nI b) = true ↔ (a : Int) ≤ x.toInt ∧ x.toInt ≤ (b : Int) := by
  unfold m_X3_isWithin
  have e1 : x < nI a ↔ x.toInt < (a : Int) := by rw [Int32.lt_iff_toInt_lt, nI_toInt ha]
  have e2 : nI b < x ↔ (b : Int) < x.toInt := by rw [Int32.lt_iff_toInt_lt, nI_toInt hb]
  by_cases h1 : x < nI a
  · rw [if_pos h1]
    have g := e1.mp h1
    simp
    omega
  · rw [if_neg h1]
    have g : ¬ x.toInt < (a : Int) := fun q => h1 (e1.mpr q)
    by_cases h2 : nI b < x
    · rw [if_pos h2]
      have g2 := e2.mp h2
      simp
      omega
    · rw [if_neg h2]
      have g2 : ¬ (b : Int) < x.toInt := fun q => h2 (e2.mpr q)
      simp
      omega
theorem within_spec {x : Int32} {a b : Nat} (ha : a < 2 ^ 31) (hb : b < 2 ^ 31) (h : m_X3_isWithin x (nI a) (nI b) = true) : x = nI (cl x) ∧ a ≤ cl x ∧ cl x ≤ b := by
  obtain ⟨h1, h2⟩ := (within_iff ha hb).mp h
  obtain ⟨g1, g2⟩ := wl_cl (x := x) (by omega)
  exact ⟨g1, by omega, by omega⟩
theorem within_in {x : Int32} {a b : Nat} (ha : a < 2 ^ 31) (hb : b < 2 ^ 31) : m_X3_isWithin x (nI a) (nI b) = m_X4_in x.toInt64 (lN a) (lN b) := by
  rw [Bool.eq_iff_iff, within_iff ha hb, in_iff ha hb]
theorem wl_pm1 {P : Nat} (h : P ≤ 7) : (nI P - nI 1).toInt = (P : Int) - 1 := pk_sub_toInt (by omega) (by omega)
theorem wl_selfcl {x : Int32} {w b : Nat} (h : x = nI w) (hw : w ≤ b) (hb : b < 2 ^ 31) : x = nI (cl x) ∧ cl x ≤ b := by
  have e : cl x = w := by rw [h]; exact nI_clamp (by omega)
  rw [e]
  exact ⟨h, hw⟩
theorem wl_x1 : ∀ k, k < 4 → k ^^^ 1 < 4 := by decide
theorem wl_x2 : ∀ k, k < 4 → k ^^^ 2 < 4 := by decide
theorem wl_shr1 {x : Int32} (h : 0 < x) : cl (x >>> (nI 1 &&& 31)) = cl x / 2 := by
  obtain ⟨j, hj, rfl⟩ := nI_of (x := x) (by rw [Int32.lt_iff_toInt_lt] at h ⊢; omega)
  rw [pk_shrN hj (nI 1 &&& 31) 1 (by decide +kernel)]
  show (nI _).toNatClampNeg = (nI j).toNatClampNeg / 2
  rw [nI_clamp (by omega), nI_clamp hj]
def wl_sz (n : Nat) : Nat := if n = 0 then 0 else Nat.log2 n + 1
theorem wl_sz_half {n : Nat} (h : 0 < n) : wl_sz (n / 2) < wl_sz n := by
  unfold wl_sz
  rw [if_neg (show ¬ n = 0 by omega)]
  by_cases h2 : n / 2 = 0
  · rw [if_pos h2]; omega
  · rw [if_neg h2]
    have : Nat.log2 n = Nat.log2 (n / 2) + 1 := by
      rw [Nat.log2_def n, if_pos (show 2 ≤ n by omega)]
    omega
theorem wl_sz_lt {n : Nat} (h : n < 2 ^ 31) : wl_sz n < 32 := by
  unfold wl_sz
  split
  · omega
  · rename_i h0
    have := (Nat.log2_lt h0).mpr h
    omega
theorem wl_pos {x : Int32} (h : 0 < x) : 0 < cl x := by
  obtain ⟨j, hj, rfl⟩ := nI_of (x := x) (by rw [Int32.lt_iff_toInt_lt] at h ⊢; omega)
  show 0 < (nI j).toNatClampNeg
  rw [nI_clamp hj]
  rw [Int32.lt_iff_toInt_lt, nI_toInt hj] at h
  have : (0 : Int32).toInt = 0 := by decide
  omega
theorem wl_cl_lt (x : Int32) : cl x < 2 ^ 31 := by
  have h := Int32.toInt_lt x
  have : cl x = x.toInt.toNat := rfl
  omega
