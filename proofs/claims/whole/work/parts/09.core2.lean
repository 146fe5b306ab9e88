/-! CORE 2: joins, loops, calls by the kind of the answer -/
theorem wl_bx {α β : Type} {X : β} {v : α} {k : α → β} (h : X = wl_bnd v k) : ∃ u : α, u = v ∧ ∀ z : α, u = z → X = k z := ⟨v, rfl, fun z hz => by rw [h, hz]; rfl⟩
section WLL
variable {p : Program} {l : Launch} {e : Env} {R : Room} {s : State} {m : MethodId} {args : Array Value} {below : List Frame} {meth : Method} {c : Code} {H : Heap} {locs : List Loc} {cells slots : Nat} {Q : State → Prop}
variable {ls : Array Slot} {D : va_G} {A : Nat → Prop} {H0 : Heap}
/-- a join: what lies behind it, once for all values -/
theorem wl_J {τ : Type} (u : τ) (j : Nat) (st : τ → List Value) (nL : Nat) (lv : τ → List (Nat × Value)) (D : va_G) (A : Nat → Prop) (H0 : Heap) (wld : τ → va_W) {g : JFrame}
    (J : ∀ z : τ, u = z → ∀ (ls : Array Slot) (H : Heap) (locs : List Loc), va_P D vwCl (wld z) H → va_D A (wld z) → va_S A H0 H locs → lv_has ls nL (lv z) → W p l e R s m args below meth c H locs cells slots Q (F0 m j ls (st z)))
    (kk : (∀ z : τ, u = z → ∀ (ls : Array Slot) (H : Heap) (locs : List Loc), va_P D vwCl (wld z) H → va_D A (wld z) → va_S A H0 H locs → lv_has ls nL (lv z) → W p l e R s m args below meth c H locs cells slots Q (F0 m j ls (st z))) → W p l e R s m args below meth c H locs cells slots Q g) : W p l e R s m args below meth c H locs cells slots Q g := kk J
/-- a counting loop, k from k0 to B -/
theorem wl_for {σ : Type} (f : Nat → σ → σ) (n0 k0 B : Nat) (v0 : σ) (h : Nat) (nL : Nat) (lv : Nat → σ → List (Nat × Value)) (wld : Nat → σ → va_W) (I : Nat → σ → Prop) (hn0 : n0 + k0 = B) (hI0 : I k0 v0)
    (exit : ∀ v : σ, wl_iter f n0 k0 v0 = v → I B v → ∀ (ls : Array Slot) (H : Heap) (locs : List Loc), va_P D vwCl (wld B v) H → va_D A (wld B v) → va_S A H0 H locs → lv_has ls nL (lv B v) → W p l e R s m args below meth c H locs cells slots Q (F0 m h ls []))
    (step : ∀ (k : Nat) (v : σ), k0 ≤ k → k < B → I k v → (∀ v' : σ, f k v = v' → I (k + 1) v' → ∀ (ls : Array Slot) (H : Heap) (locs : List Loc), va_P D vwCl (wld (k + 1) v') H → va_D A (wld (k + 1) v') → va_S A H0 H locs → lv_has ls nL (lv (k + 1) v') → W p l e R s m args below meth c H locs cells slots Q (F0 m h ls [])) →
      ∀ (ls : Array Slot) (H : Heap) (locs : List Loc), va_P D vwCl (wld k v) H → va_D A (wld k v) → va_S A H0 H locs → lv_has ls nL (lv k v) → W p l e R s m args below meth c H locs cells slots Q (F0 m h ls []))
    (hP : va_P D vwCl (wld k0 v0) H) (hD : va_D A (wld k0 v0)) (hS : va_S A H0 H locs) (hl : lv_has ls nL (lv k0 v0)) : W p l e R s m args below meth c H locs cells slots Q (F0 m h ls []) := by
  have key : ∀ (n k : Nat) (v : σ), n + k = B → k0 ≤ k → wl_iter f n k v = wl_iter f n0 k0 v0 → I k v → ∀ (ls : Array Slot) (H : Heap) (locs : List Loc), va_P D vwCl (wld k v) H → va_D A (wld k v) → va_S A H0 H locs → lv_has ls nL (lv k v) → W p l e R s m args below meth c H locs cells slots Q (F0 m h ls []) := by
    intro n
    induction n with
    | zero =>
      intro k v hk _ he hI
      have hkB : k = B := by omega
      subst hkB
      exact exit v he.symm hI
    | succ n ih =>
      intro k v hk h0 he hI
      refine step k v h0 (by omega) hI (fun v' hv' hI' => ?_)
      subst hv'
      exact ih (k + 1) (f k v) (by omega) (by omega) he hI'
  exact key n0 k0 v0 hn0 (Nat.le_refl _) rfl hI0 ls H locs hP hD hS hl
/-- any loop, by a measure -/
theorem wl_while {σ ρ : Type} (f : σ → σ ⊕ ρ) (d : ρ) (n0 : Nat) (v0 : σ) (h : Nat) (nL : Nat) (lv : σ → List (Nat × Value)) (wld : σ → va_W) (I : σ → Prop) (μ : σ → Nat) (hI0 : I v0) (hμ : μ v0 < n0)
    (step : ∀ v : σ, I v → (∀ r : ρ, f v = .inr r → wl_run f d n0 v0 = r) → (∀ v' : σ, f v = .inl v' → I v' → μ v' < μ v → ∀ (ls : Array Slot) (H : Heap) (locs : List Loc), va_P D vwCl (wld v') H → va_D A (wld v') → va_S A H0 H locs → lv_has ls nL (lv v') → W p l e R s m args below meth c H locs cells slots Q (F0 m h ls [])) →
      ∀ (ls : Array Slot) (H : Heap) (locs : List Loc), va_P D vwCl (wld v) H → va_D A (wld v) → va_S A H0 H locs → lv_has ls nL (lv v) → W p l e R s m args below meth c H locs cells slots Q (F0 m h ls []))
    (hP : va_P D vwCl (wld v0) H) (hD : va_D A (wld v0)) (hS : va_S A H0 H locs) (hl : lv_has ls nL (lv v0)) : W p l e R s m args below meth c H locs cells slots Q (F0 m h ls []) := by
  have key : ∀ (n : Nat) (v : σ), μ v < n → wl_run f d n v = wl_run f d n0 v0 → I v → ∀ (ls : Array Slot) (H : Heap) (locs : List Loc), va_P D vwCl (wld v) H → va_D A (wld v) → va_S A H0 H locs → lv_has ls nL (lv v) → W p l e R s m args below meth c H locs cells slots Q (F0 m h ls []) := by
    intro n
    induction n with
    | zero => intro v hv; exact absurd hv (Nat.not_lt_zero _)
    | succ n ih =>
      intro v hv he hI
      exact step v hI (fun r hr => wl_run_r he hr) (fun v' h1 h2 h3 => ih v' (by omega) (wl_run_l he h1) h2)
  exact key n0 v0 hμ rfl hI0 ls H locs hP hD hS hl
end WLL
section WLK
variable {p : Program} {l : Launch} {e : Env} {R : Room} {s : State} {m : MethodId} {args : Array Value} {below : List Frame} {meth : Method} {c : Code} {H : Heap} {locs : List Loc} {cells slots : Nat} {Q : State → Prop}
variable {cc : ByteArray} {nL pc : Nat} {own : String} {D : va_G} {E : Nat → ClassId} {ls : Array Slot} {rest st0 : List Value} {A : Nat → Prop} {H0 : Heap} {w : va_W}
theorem wl_callVi {τ : Type} {G : τ → Int32} {Wo : τ → va_W} {x0 : τ} {y : MethodName} {bytes : ByteArray} {maxL n index : Nat} {ret : Option FieldType} {rm : Room} {b ci T1 : Nat} {As : List Value} {fs : List Value} {T : u_T} (hC : wl_Cx p s m args c cc nL own D E) (hM : wl_Met l D E y bytes maxL ret rm (.ref b :: As) w (fun z => some (.int (G z))) Wo x0)
    (lk : wl_lkV own index y bytes maxL ret n) (hn : As.length = n) (hR : wl_rm rm R maxL) (hP : va_P D vwCl w H) (hD : va_D A w) (hS : va_S A H0 H locs) (hA : ∀ q : Nat, H0.size ≤ q → A q) (q0 : Nat) (hrec : w[q0]? = some (b, .inr (ci, fs))) (hcl : vwCl[ci]? = some (y.cls, T, T1)) (hsize : ls.size = nL)
    (hst : st0 = As.reverse ++ .ref b :: rest) (hW : (rest.map fun v => v.category).sum ≤ 8) (hdg : decode cc pc = .ok (.invokevirtual index, 3)) (hcs : cells ≤ R.cells ∧ slots ≤ R.slots)
    (kk : ∀ z : τ, z = x0 → ∀ (H1 : Heap) (locs1 : List Loc), va_P D vwCl (Wo z) H1 → va_D A (Wo z) → va_S A H0 H1 locs1 → W p l e R s m args below meth c H1 locs1 cells slots Q (F0 m (pc + 3) ls (.int (G z) :: rest))) : W p l e R s m args below meth c H locs cells slots Q (F0 m pc ls st0) := wl_callV hC hM lk hn hR hP hD hS hA q0 hrec hcl hsize hst hW hdg hcs kk
theorem wl_callVl {τ : Type} {G : τ → Int64} {Wo : τ → va_W} {x0 : τ} {y : MethodName} {bytes : ByteArray} {maxL n index : Nat} {ret : Option FieldType} {rm : Room} {b ci T1 : Nat} {As : List Value} {fs : List Value} {T : u_T} (hC : wl_Cx p s m args c cc nL own D E) (hM : wl_Met l D E y bytes maxL ret rm (.ref b :: As) w (fun z => some (.long (G z))) Wo x0)
    (lk : wl_lkV own index y bytes maxL ret n) (hn : As.length = n) (hR : wl_rm rm R maxL) (hP : va_P D vwCl w H) (hD : va_D A w) (hS : va_S A H0 H locs) (hA : ∀ q : Nat, H0.size ≤ q → A q) (q0 : Nat) (hrec : w[q0]? = some (b, .inr (ci, fs))) (hcl : vwCl[ci]? = some (y.cls, T, T1)) (hsize : ls.size = nL)
    (hst : st0 = As.reverse ++ .ref b :: rest) (hW : (rest.map fun v => v.category).sum ≤ 8) (hdg : decode cc pc = .ok (.invokevirtual index, 3)) (hcs : cells ≤ R.cells ∧ slots ≤ R.slots)
    (kk : ∀ z : τ, z = x0 → ∀ (H1 : Heap) (locs1 : List Loc), va_P D vwCl (Wo z) H1 → va_D A (Wo z) → va_S A H0 H1 locs1 → W p l e R s m args below meth c H1 locs1 cells slots Q (F0 m (pc + 3) ls (.long (G z) :: rest))) : W p l e R s m args below meth c H locs cells slots Q (F0 m pc ls st0) := wl_callV hC hM lk hn hR hP hD hS hA q0 hrec hcl hsize hst hW hdg hcs kk
theorem wl_callVv {τ : Type} {Wo : τ → va_W} {x0 : τ} {y : MethodName} {bytes : ByteArray} {maxL n index : Nat} {ret : Option FieldType} {rm : Room} {b ci T1 : Nat} {As : List Value} {fs : List Value} {T : u_T} (hC : wl_Cx p s m args c cc nL own D E) (hM : wl_Met l D E y bytes maxL ret rm (.ref b :: As) w (fun _ => none) Wo x0)
    (lk : wl_lkV own index y bytes maxL ret n) (hn : As.length = n) (hR : wl_rm rm R maxL) (hP : va_P D vwCl w H) (hD : va_D A w) (hS : va_S A H0 H locs) (hA : ∀ q : Nat, H0.size ≤ q → A q) (q0 : Nat) (hrec : w[q0]? = some (b, .inr (ci, fs))) (hcl : vwCl[ci]? = some (y.cls, T, T1)) (hsize : ls.size = nL)
    (hst : st0 = As.reverse ++ .ref b :: rest) (hW : (rest.map fun v => v.category).sum ≤ 8) (hdg : decode cc pc = .ok (.invokevirtual index, 3)) (hcs : cells ≤ R.cells ∧ slots ≤ R.slots)
    (kk : ∀ z : τ, z = x0 → ∀ (H1 : Heap) (locs1 : List Loc), va_P D vwCl (Wo z) H1 → va_D A (Wo z) → va_S A H0 H1 locs1 → W p l e R s m args below meth c H1 locs1 cells slots Q (F0 m (pc + 3) ls (rest))) : W p l e R s m args below meth c H locs cells slots Q (F0 m pc ls st0) := wl_callV hC hM lk hn hR hP hD hS hA q0 hrec hcl hsize hst hW hdg hcs kk
theorem wl_callSi {τ : Type} {G : τ → Int32} {Wo : τ → va_W} {x0 : τ} {y : MethodName} {bytes : ByteArray} {maxL n index : Nat} {ret : Option FieldType} {rm : Room} {As : List Value} (hC : wl_Cx p s m args c cc nL own D E) (hM : wl_Met l D E y bytes maxL ret rm As w (fun z => some (.int (G z))) Wo x0)
    (lk : wl_lkS own index y bytes maxL ret n) (hn : As.length = n) (hR : wl_rm rm R maxL) (hP : va_P D vwCl w H) (hD : va_D A w) (hS : va_S A H0 H locs) (hA : ∀ q : Nat, H0.size ≤ q → A q) (hsize : ls.size = nL)
    (hst : st0 = As.reverse ++ rest) (hW : (rest.map fun v => v.category).sum ≤ 8) (hdg : decode cc pc = .ok (.invokestatic index, 3)) (hcs : cells ≤ R.cells ∧ slots ≤ R.slots)
    (kk : ∀ z : τ, z = x0 → ∀ (H1 : Heap) (locs1 : List Loc), va_P D vwCl (Wo z) H1 → va_D A (Wo z) → va_S A H0 H1 locs1 → W p l e R s m args below meth c H1 locs1 cells slots Q (F0 m (pc + 3) ls (.int (G z) :: rest))) : W p l e R s m args below meth c H locs cells slots Q (F0 m pc ls st0) := wl_callS hC hM lk hn hR hP hD hS hA hsize hst hW hdg hcs kk
theorem wl_callSl {τ : Type} {G : τ → Int64} {Wo : τ → va_W} {x0 : τ} {y : MethodName} {bytes : ByteArray} {maxL n index : Nat} {ret : Option FieldType} {rm : Room} {As : List Value} (hC : wl_Cx p s m args c cc nL own D E) (hM : wl_Met l D E y bytes maxL ret rm As w (fun z => some (.long (G z))) Wo x0)
    (lk : wl_lkS own index y bytes maxL ret n) (hn : As.length = n) (hR : wl_rm rm R maxL) (hP : va_P D vwCl w H) (hD : va_D A w) (hS : va_S A H0 H locs) (hA : ∀ q : Nat, H0.size ≤ q → A q) (hsize : ls.size = nL)
    (hst : st0 = As.reverse ++ rest) (hW : (rest.map fun v => v.category).sum ≤ 8) (hdg : decode cc pc = .ok (.invokestatic index, 3)) (hcs : cells ≤ R.cells ∧ slots ≤ R.slots)
    (kk : ∀ z : τ, z = x0 → ∀ (H1 : Heap) (locs1 : List Loc), va_P D vwCl (Wo z) H1 → va_D A (Wo z) → va_S A H0 H1 locs1 → W p l e R s m args below meth c H1 locs1 cells slots Q (F0 m (pc + 3) ls (.long (G z) :: rest))) : W p l e R s m args below meth c H locs cells slots Q (F0 m pc ls st0) := wl_callS hC hM lk hn hR hP hD hS hA hsize hst hW hdg hcs kk
theorem wl_callSv {τ : Type} {Wo : τ → va_W} {x0 : τ} {y : MethodName} {bytes : ByteArray} {maxL n index : Nat} {ret : Option FieldType} {rm : Room} {As : List Value} (hC : wl_Cx p s m args c cc nL own D E) (hM : wl_Met l D E y bytes maxL ret rm As w (fun _ => none) Wo x0)
    (lk : wl_lkS own index y bytes maxL ret n) (hn : As.length = n) (hR : wl_rm rm R maxL) (hP : va_P D vwCl w H) (hD : va_D A w) (hS : va_S A H0 H locs) (hA : ∀ q : Nat, H0.size ≤ q → A q) (hsize : ls.size = nL)
    (hst : st0 = As.reverse ++ rest) (hW : (rest.map fun v => v.category).sum ≤ 8) (hdg : decode cc pc = .ok (.invokestatic index, 3)) (hcs : cells ≤ R.cells ∧ slots ≤ R.slots)
    (kk : ∀ z : τ, z = x0 → ∀ (H1 : Heap) (locs1 : List Loc), va_P D vwCl (Wo z) H1 → va_D A (Wo z) → va_S A H0 H1 locs1 → W p l e R s m args below meth c H1 locs1 cells slots Q (F0 m (pc + 3) ls (rest))) : W p l e R s m args below meth c H locs cells slots Q (F0 m pc ls st0) := wl_callS hC hM lk hn hR hP hD hS hA hsize hst hW hdg hcs kk
theorem wl_callPi {τ : Type} {G : τ → Int32} {x0 : τ} {y : MethodName} {bytes : ByteArray} {maxL n index : Nat} {ret : Option FieldType} {rm : Room} {As : List Value} (hC : wl_Cx p s m args c cc nL own D E) (hM : wl_Met l D E y bytes maxL ret rm As [] (fun z => some (.int (G z))) (fun _ => []) x0)
    (lk : wl_lkS own index y bytes maxL ret n) (hn : As.length = n) (hR : wl_rm rm R maxL) (hP : va_P D vwCl w H) (hS : va_S A H0 H locs) (hA : ∀ q : Nat, H0.size ≤ q → A q) (hsize : ls.size = nL)
    (hst : st0 = As.reverse ++ rest) (hW : (rest.map fun v => v.category).sum ≤ 8) (hdg : decode cc pc = .ok (.invokestatic index, 3)) (hcs : cells ≤ R.cells ∧ slots ≤ R.slots)
    (kk : ∀ z : τ, z = x0 → ∀ (H1 : Heap) (locs1 : List Loc), va_P D vwCl w H1 → va_S A H0 H1 locs1 → W p l e R s m args below meth c H1 locs1 cells slots Q (F0 m (pc + 3) ls (.int (G z) :: rest))) : W p l e R s m args below meth c H locs cells slots Q (F0 m pc ls st0) := wl_callP hC hM lk hn hR hP hS hA hsize hst hW hdg hcs kk
theorem wl_callPl {τ : Type} {G : τ → Int64} {x0 : τ} {y : MethodName} {bytes : ByteArray} {maxL n index : Nat} {ret : Option FieldType} {rm : Room} {As : List Value} (hC : wl_Cx p s m args c cc nL own D E) (hM : wl_Met l D E y bytes maxL ret rm As [] (fun z => some (.long (G z))) (fun _ => []) x0)
    (lk : wl_lkS own index y bytes maxL ret n) (hn : As.length = n) (hR : wl_rm rm R maxL) (hP : va_P D vwCl w H) (hS : va_S A H0 H locs) (hA : ∀ q : Nat, H0.size ≤ q → A q) (hsize : ls.size = nL)
    (hst : st0 = As.reverse ++ rest) (hW : (rest.map fun v => v.category).sum ≤ 8) (hdg : decode cc pc = .ok (.invokestatic index, 3)) (hcs : cells ≤ R.cells ∧ slots ≤ R.slots)
    (kk : ∀ z : τ, z = x0 → ∀ (H1 : Heap) (locs1 : List Loc), va_P D vwCl w H1 → va_S A H0 H1 locs1 → W p l e R s m args below meth c H1 locs1 cells slots Q (F0 m (pc + 3) ls (.long (G z) :: rest))) : W p l e R s m args below meth c H locs cells slots Q (F0 m pc ls st0) := wl_callP hC hM lk hn hR hP hS hA hsize hst hW hdg hcs kk
theorem wl_callPv {τ : Type} {x0 : τ} {y : MethodName} {bytes : ByteArray} {maxL n index : Nat} {ret : Option FieldType} {rm : Room} {As : List Value} (hC : wl_Cx p s m args c cc nL own D E) (hM : wl_Met l D E y bytes maxL ret rm As [] (fun _ => none) (fun _ => []) x0)
    (lk : wl_lkS own index y bytes maxL ret n) (hn : As.length = n) (hR : wl_rm rm R maxL) (hP : va_P D vwCl w H) (hS : va_S A H0 H locs) (hA : ∀ q : Nat, H0.size ≤ q → A q) (hsize : ls.size = nL)
    (hst : st0 = As.reverse ++ rest) (hW : (rest.map fun v => v.category).sum ≤ 8) (hdg : decode cc pc = .ok (.invokestatic index, 3)) (hcs : cells ≤ R.cells ∧ slots ≤ R.slots)
    (kk : ∀ z : τ, z = x0 → ∀ (H1 : Heap) (locs1 : List Loc), va_P D vwCl w H1 → va_S A H0 H1 locs1 → W p l e R s m args below meth c H1 locs1 cells slots Q (F0 m (pc + 3) ls (rest))) : W p l e R s m args below meth c H locs cells slots Q (F0 m pc ls st0) := wl_callP hC hM lk hn hR hP hS hA hsize hst hW hdg hcs kk
theorem wl_callNi {τ : Type} {G : τ → Int32} {x0 : τ} {y : MethodName} {host : String} {bytes : ByteArray} {maxL n index : Nat} {ret : Option FieldType} {rm : Room} {As : List Value} (hC : wl_Cx p s m args c cc nL own D E) (hM : wl_Met l D E y bytes maxL ret rm As [] (fun z => some (.int (G z))) (fun _ => []) x0)
    (lk : wl_lkN own index y host bytes maxL ret n) (hn : As.length = n) (hR : wl_rm rm R maxL) (hP : va_P D vwCl w H) (hS : va_S A H0 H locs) (hA : ∀ q : Nat, H0.size ≤ q → A q) (hsize : ls.size = nL)
    (hst : st0 = As.reverse ++ rest) (hW : (rest.map fun v => v.category).sum ≤ 8) (hdg : decode cc pc = .ok (.invokestatic index, 3)) (hcs : cells ≤ R.cells ∧ slots ≤ R.slots)
    (kk : ∀ z : τ, z = x0 → ∀ (H1 : Heap) (locs1 : List Loc), va_P D vwCl w H1 → va_S A H0 H1 locs1 → W p l e R s m args below meth c H1 locs1 cells slots Q (F0 m (pc + 3) ls (.int (G z) :: rest))) : W p l e R s m args below meth c H locs cells slots Q (F0 m pc ls st0) := wl_callN hC hM lk hn hR hP hS hA hsize hst hW hdg hcs kk
theorem wl_callNl {τ : Type} {G : τ → Int64} {x0 : τ} {y : MethodName} {host : String} {bytes : ByteArray} {maxL n index : Nat} {ret : Option FieldType} {rm : Room} {As : List Value} (hC : wl_Cx p s m args c cc nL own D E) (hM : wl_Met l D E y bytes maxL ret rm As [] (fun z => some (.long (G z))) (fun _ => []) x0)
    (lk : wl_lkN own index y host bytes maxL ret n) (hn : As.length = n) (hR : wl_rm rm R maxL) (hP : va_P D vwCl w H) (hS : va_S A H0 H locs) (hA : ∀ q : Nat, H0.size ≤ q → A q) (hsize : ls.size = nL)
    (hst : st0 = As.reverse ++ rest) (hW : (rest.map fun v => v.category).sum ≤ 8) (hdg : decode cc pc = .ok (.invokestatic index, 3)) (hcs : cells ≤ R.cells ∧ slots ≤ R.slots)
    (kk : ∀ z : τ, z = x0 → ∀ (H1 : Heap) (locs1 : List Loc), va_P D vwCl w H1 → va_S A H0 H1 locs1 → W p l e R s m args below meth c H1 locs1 cells slots Q (F0 m (pc + 3) ls (.long (G z) :: rest))) : W p l e R s m args below meth c H locs cells slots Q (F0 m pc ls st0) := wl_callN hC hM lk hn hR hP hS hA hsize hst hW hdg hcs kk
theorem wl_callNv {τ : Type} {x0 : τ} {y : MethodName} {host : String} {bytes : ByteArray} {maxL n index : Nat} {ret : Option FieldType} {rm : Room} {As : List Value} (hC : wl_Cx p s m args c cc nL own D E) (hM : wl_Met l D E y bytes maxL ret rm As [] (fun _ => none) (fun _ => []) x0)
    (lk : wl_lkN own index y host bytes maxL ret n) (hn : As.length = n) (hR : wl_rm rm R maxL) (hP : va_P D vwCl w H) (hS : va_S A H0 H locs) (hA : ∀ q : Nat, H0.size ≤ q → A q) (hsize : ls.size = nL)
    (hst : st0 = As.reverse ++ rest) (hW : (rest.map fun v => v.category).sum ≤ 8) (hdg : decode cc pc = .ok (.invokestatic index, 3)) (hcs : cells ≤ R.cells ∧ slots ≤ R.slots)
    (kk : ∀ z : τ, z = x0 → ∀ (H1 : Heap) (locs1 : List Loc), va_P D vwCl w H1 → va_S A H0 H1 locs1 → W p l e R s m args below meth c H1 locs1 cells slots Q (F0 m (pc + 3) ls (rest))) : W p l e R s m args below meth c H locs cells slots Q (F0 m pc ls st0) := wl_callN hC hM lk hn hR hP hS hA hsize hst hW hdg hcs kk
end WLK
