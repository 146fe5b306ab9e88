/-! CORE: the words of all methods as one list; contracts that are functions; calls; the frame rule; rows for small numbers -/
def wAll : List Cond := lw_tbl.filter goodWord
theorem wAll_good : ∀ w ∈ wAll, goodWord w = true := fun _ h => (List.mem_filter.mp h).2
theorem wAll_tbl : ∀ w ∈ wAll, w ∈ lw_tbl := fun _ h => (List.mem_filter.mp h).1
/-- private methods and constructors that a nest mate calls -/
def wl_nest : List (String × Nat × MethodName × String) := [(RX3, 11, yX1_init, "WantedLater"), (RX3, 29, yX2_init, "WantedLater"), (RX3, 36, yX0_init, "WantedLater"), (RX0, 97, yX3_isWithin, "WantedLater"), (RX0, 90, yX3_withBit, "WantedLater"), (RX1, 77, yX3_bitOf, "WantedLater"), (RX2, 25, yX3_actOf, "WantedLater"), (RX2, 39, yX3_moreOf, "WantedLater"), (RX1, 63, yX3_withBit, "WantedLater"), (RX1, 55, yX3_actOf, "WantedLater")]
def wl_N (U : State) : Prop := ∀ q ∈ wl_nest, va_Nw (.methodLinkNest q.1 q.2.1 q.2.2.1 q.2.2.2) U
theorem wl_N.vm {u U : State} (h : u.vm = U.vm) (hN : wl_N u) : wl_N U := fun q hq => va_Nw.same rfl h (hN q hq)
theorem wl_N.warm {s U : State} (hW : s.WarmedH U.vm) (hN : wl_N s) : wl_N U := fun q hq => va_Nw.warmM hW (hN q hq)
abbrev wl_tys (E : Nat → ClassId) : List (ClassId × FieldType) := [(E 0, .int), (E 1, .boolean), (E 2, .byte), (E 3, .object "WantedLater$Town")]
def wl_Pc (D : va_G) (E : Nat → ClassId) (av : List Value) (w : va_W) (sz : Nat) : Array Value → State → Prop := va_Pc av (fun U => U.heap.size = sz ∧ va_P D vwCl w U.heap ∧ va_K D vwCl (wl_tys E) U ∧ wl_N U ∧ va_D (fun _ => True) w)
theorem wl_Pc.blind {D : va_G} {E : Nat → ClassId} {av : List Value} {w : va_W} {sz : Nat} : FrameBlind (wl_Pc D E av w sz) := by
  intro a U g mk q
  obtain ⟨q0, q1, qP, qK, qN, qD⟩ := q
  exact ⟨q0, q1, qP, va_K.moved (u := U) (U := U.calling g mk a) (Vm.Alike.refl U.vm) qK, wl_N.vm rfl qN, qD⟩
def wl_Q {τ : Type} (D : va_G) (E : Nat → ClassId) (F : τ → Option Value) (Wo : τ → va_W) (x : τ) (A : Nat → Prop) : Array Value → State → Outcome → State → Prop := fun _ st o t => (o = .returned (F x) ∧ va_P D vwCl (Wo x) t.heap ∧ va_K D vwCl (wl_tys E) t ∧ va_D A (Wo x)) ∧ va_F A st t
/-- a contract: from the world w the method answers F x0 and leaves the world Wo x0 -/
def wl_Met {τ : Type} (l : Launch) (D : va_G) (E : Nat → ClassId) (y : MethodName) (cc : ByteArray) (maxL : Nat) (ret : Option FieldType) (rm : Room) (av : List Value) (w : va_W) (F : τ → Option Value) (Wo : τ → va_W) (x0 : τ) : Prop :=
  ∀ sz : Nat, Met l y (Cond.code y cc maxL ret :: wAll) rm (wl_Pc D E av w sz) (wl_Q D E F Wo x0 (va_A w sz)) 0 0 (va_A w sz)
/-- what holds all along a body -/
def wl_Cx (p : Program) (s : State) (m : MethodId) (args : Array Value) (c : Code) (cc : ByteArray) (nL : Nat) (own : String) (D : va_G) (E : Nat → ClassId) : Prop :=
  p.tables.exec = Jvm.exec ∧ c.code = cc ∧ c.maxLocals = nL ∧ s.vm.findClass own = some m.cls ∧ (∀ w ∈ wAll, w.before args s = true) ∧ va_K D vwCl (wl_tys E) s ∧ wl_N s
theorem wl_enter {τ : Type} {l : Launch} {D : va_G} {E : Nat → ClassId} {y : MethodName} {cc : ByteArray} {maxL : Nat} {ret : Option FieldType} {rm : Room} {own : String} {av : List Value} {w : va_W} {F : τ → Option Value} {Wo : τ → va_W} {x0 : τ}
    (hy : plainName y.cls = true) (hown : y.cls = own) (hav : (lg_sl av).length ≤ maxL)
    (body : ∀ (p : Program) (e : Env) (s : State) (m : MethodId) (below : List Frame) (meth : Method) (c : Code) (A : Nat → Prop),
      wl_Cx p s m av.toArray c cc maxL own D E → meth.sig.returnType = ret → meth.locks = false → (∀ q : Nat, s.heap.size ≤ q → A q) → ∀ (H : Heap) (locs : List Loc), va_P D vwCl w H → va_D A w → va_S A s.heap H locs → ∀ ls : Array Slot, lv_has ls maxL (lv_args 0 av) →
      W p l e rm s m av.toArray below meth c H locs 0 0 (MQ below (wl_Q D E F Wo x0 A) av.toArray s 0 0 A) (F0 m 0 ls [])) :
    wl_Met l D E y cc maxL ret rm av w F Wo x0 := by
  intro sz
  refine Met.ofW (cc := cc) (maxL := maxL) (ret := ret) hy rfl ?_
  intro p e s m args below meth c s₁ B hml hv
  obtain ⟨rfl, hsz, hP, hK, hN, hD0⟩ := hv
  have hts := atoms_spec (ws := Cond.code y cc maxL ret :: wAll) B.pre
  have hfc : s.vm.findClass own = some m.cls := hown ▸ findClass_of_methodNamed B.named
  subst hsz
  rw [lg_entry_eq]
  exact body p e s m below meth c (va_A w s.heap.size) ⟨B.exec, B.bytes, hml, hfc, fun w h => hts w (List.mem_cons_of_mem _ h), hK, hN⟩ B.returns B.notSynchronized (fun q h => Or.inr h) s.heap [] hP (hD0.self) va_S.rf _ (lv_entry av hav)
/-- the links of a call -/
def wl_lkV (own : String) (index : Nat) (y : MethodName) (bytes : ByteArray) (maxL : Nat) (ret : Option FieldType) (n : Nat) : Prop :=
  Cond.methodLink own index y ∈ wAll ∧ Cond.instanceMethod y ∈ wAll ∧ Cond.selects y.cls y y ∈ wAll ∧ Cond.initialized y.cls ∈ wAll ∧ Cond.code y bytes maxL ret ∈ wAll ∧ y.cls ≠ "java/lang/invoke/MethodHandle" ∧ y.cls ≠ "java/lang/invoke/VarHandle" ∧ (parseMethodDescriptor y.desc).map (fun d => d.parameters.length) = some n
def wl_lkS (own : String) (index : Nat) (y : MethodName) (bytes : ByteArray) (maxL : Nat) (ret : Option FieldType) (n : Nat) : Prop :=
  Cond.methodLink own index y ∈ wAll ∧ Cond.static y ∈ wAll ∧ Cond.initialized y.cls ∈ wAll ∧ Cond.code y bytes maxL ret ∈ wAll ∧ y.cls ≠ "java/lang/invoke/MethodHandle" ∧ y.cls ≠ "java/lang/invoke/VarHandle" ∧ (parseMethodDescriptor y.desc).map (fun d => d.parameters.length) = some n
def wl_lkN (own : String) (index : Nat) (y : MethodName) (host : String) (bytes : ByteArray) (maxL : Nat) (ret : Option FieldType) (n : Nat) : Prop :=
  (own, index, y, host) ∈ wl_nest ∧ Cond.static y ∈ wAll ∧ Cond.initialized y.cls ∈ wAll ∧ Cond.code y bytes maxL ret ∈ wAll ∧ y.cls ≠ "java/lang/invoke/MethodHandle" ∧ y.cls ≠ "java/lang/invoke/VarHandle" ∧ (parseMethodDescriptor y.desc).map (fun d => d.parameters.length) = some n
def wl_rm (rm R : Room) (maxL : Nat) : Prop := rm.cells = 0 ∧ rm.slots = 0 ∧ rm.frames + 1 ≤ R.frames ∧ 8 + (maxL + 11) + rm.locals ≤ R.locals
theorem wl_gd {y : MethodName} {bytes : ByteArray} {maxL : Nat} {ret : Option FieldType} (hc : Cond.code y bytes maxL ret ∈ wAll) : GoodIn wAll (Cond.code y bytes maxL ret :: wAll) := by
  intro w hw
  have h : w ∈ wAll := (List.mem_cons.mp hw).elim (fun h => h ▸ hc) id
  exact ⟨h, good_of_word (wAll_good w h)⟩
section WLC
variable {p : Program} {l : Launch} {e : Env} {R : Room} {s : State} {m : MethodId} {args : Array Value} {below : List Frame} {meth : Method} {c : Code} {H : Heap} {locs : List Loc} {cells slots : Nat} {Q : State → Prop}
variable {cc : ByteArray} {nL pc : Nat} {own : String} {D : va_G} {E : Nat → ClassId} {ls : Array Slot} {rest st0 : List Value} {A : Nat → Prop} {H0 : Heap} {w : va_W}
/-- behind a call on the world w -/
theorem wl_call {τ : Type} {F : τ → Option Value} {Wo : τ → va_W} {x0 : τ} {a : Array Value} (hr : va_Run p l e R s m args below meth c H locs cells slots 0 0 (F0 m pc ls st0) rest (wl_Q D E F Wo x0 (va_A w H.size) a) (va_A w H.size)) (hD : va_D A w) (hS : va_S A H0 H locs) (hA : ∀ q : Nat, H0.size ≤ q → A q)
    (kk : ∀ z : τ, z = x0 → ∀ (H1 : Heap) (locs1 : List Loc), (∀ q : Nat, q < H.size → ¬ va_A w H.size q → H1[q]? = H[q]?) → va_P D vwCl (Wo z) H1 → va_D A (Wo z) → va_S A H0 H1 locs1 → W p l e R s m args below meth c H1 locs1 cells slots Q (F0 m (pc + 3) ls ((F z).toList ++ rest))) : W p l e R s m args below meth c H locs cells slots Q (F0 m pc ls st0) := by
  have hF : ∀ q, va_A w H.size q → A q := by
    intro q h
    rcases h with ⟨k, e, h⟩ | h
    · exact hD.2 k (q, e) h
    · exact hA q (Nat.le_trans hS.1 h)
  intro T hT X
  obtain ⟨v, st₀, t, T', L, h0, X', hL, e1, e2, ⟨⟨hv, hp, hk, hd⟩, hz, hkk⟩, st⟩ := hr T hT X
  cases hv
  rw [h0] at hz hkk
  have hP1 : va_P D vwCl (Wo x0) T'.heap := by rw [e1]; exact hp
  have hD1 : va_D A (Wo x0) := hd.weaken (fun _ _ _ h => hF _ h)
  have hS1 : va_S A H0 T'.heap (locs ++ L) := ⟨Nat.le_trans hS.1 (by rw [e1]; exact hz), fun q h1 h2 => by rw [e1, hkk q (Nat.lt_of_lt_of_le h1 hS.1) (fun z => h2 (hF q z))]; exact hS.2.1 q h1 h2, fun q hq => by
      rcases List.mem_append.mp hq with h | h
      · exact hS.2.2 q h
      · exact hF _ (hL q h)⟩
  obtain ⟨t2, a1, b1⟩ := kk x0 rfl T'.heap (locs ++ L) (fun q h1 h2 => by rw [e1]; exact hkk q h1 h2) hP1 hD1 hS1 T' rfl X'
  exact ⟨t2, st t2 a1, b1⟩
theorem wl_pre {av : List Value} (hC : wl_Cx p s m args c cc nL own D E) (hP : va_P D vwCl w H) (hD : va_D A w) : PreS s H (wl_Pc D E av w H.size) av :=
  ⟨wl_Pc.blind, fun U hU hW => ⟨rfl, by rw [hU], by rw [hU]; exact hP, va_K.moved hW.alike hC.2.2.2.2.2.1, wl_N.warm hW hC.2.2.2.2.2.2, hD.weaken (fun _ _ _ _ => trivial)⟩⟩
/-- an object's method, on the whole world -/
theorem wl_callV {τ : Type} {F : τ → Option Value} {Wo : τ → va_W} {x0 : τ} {y : MethodName} {bytes : ByteArray} {maxL n index : Nat} {ret : Option FieldType} {rm : Room} {b ci T1 : Nat} {As : List Value} {fs : List Value} {T : u_T} (hC : wl_Cx p s m args c cc nL own D E) (hM : wl_Met l D E y bytes maxL ret rm (.ref b :: As) w F Wo x0)
    (lk : wl_lkV own index y bytes maxL ret n) (hn : As.length = n) (hR : wl_rm rm R maxL) (hP : va_P D vwCl w H) (hD : va_D A w) (hS : va_S A H0 H locs) (hA : ∀ q : Nat, H0.size ≤ q → A q) (q0 : Nat) (hrec : w[q0]? = some (b, .inr (ci, fs))) (hcl : vwCl[ci]? = some (y.cls, T, T1)) (hsize : ls.size = nL)
    (hst : st0 = As.reverse ++ .ref b :: rest) (hW : (rest.map fun v => v.category).sum ≤ 8) (hdg : decode cc pc = .ok (.invokevirtual index, 3)) (hcs : cells ≤ R.cells ∧ slots ≤ R.slots)
    (kk : ∀ z : τ, z = x0 → ∀ (H1 : Heap) (locs1 : List Loc), va_P D vwCl (Wo z) H1 → va_D A (Wo z) → va_S A H0 H1 locs1 → W p l e R s m args below meth c H1 locs1 cells slots Q (F0 m (pc + 3) ls ((F z).toList ++ rest))) : W p l e R s m args below meth c H locs cells slots Q (F0 m pc ls st0) := by
  obtain ⟨hx, hb, hml, ho, hts, hK, hN⟩ := id hC
  obtain ⟨l1, l2, l3, l4, l5, l6, l7, l8⟩ := lk
  obtain ⟨r1, r2, r3, r4⟩ := hR
  have hp := wl_pre (av := .ref b :: As) hC hP hD
  refine wl_call (va_runV ⟨hx, hb, hml, ho, hts⟩ (hM H.size) ⟨callB_of n hts (wl_gd l5) rfl r1 r2 (hts _ l4) (hts _ l1) ⟨l6, l7, l8⟩ ⟨r3, r4⟩, hts _ l2, hts _ l3⟩ ⟨hp.1, va_recv hK hP hcl hrec, hp.2⟩ rfl hn hsize hst (by show 2 * 0 + _ ≤ 8; omega) hdg ⟨hcs.1, hcs.2⟩) hD hS hA (fun z hz H1 locs1 _ => kk z hz H1 locs1)
/-- a class's method, on the whole world -/
theorem wl_callS {τ : Type} {F : τ → Option Value} {Wo : τ → va_W} {x0 : τ} {y : MethodName} {bytes : ByteArray} {maxL n index : Nat} {ret : Option FieldType} {rm : Room} {As : List Value} (hC : wl_Cx p s m args c cc nL own D E) (hM : wl_Met l D E y bytes maxL ret rm As w F Wo x0)
    (lk : wl_lkS own index y bytes maxL ret n) (hn : As.length = n) (hR : wl_rm rm R maxL) (hP : va_P D vwCl w H) (hD : va_D A w) (hS : va_S A H0 H locs) (hA : ∀ q : Nat, H0.size ≤ q → A q) (hsize : ls.size = nL)
    (hst : st0 = As.reverse ++ rest) (hW : (rest.map fun v => v.category).sum ≤ 8) (hdg : decode cc pc = .ok (.invokestatic index, 3)) (hcs : cells ≤ R.cells ∧ slots ≤ R.slots)
    (kk : ∀ z : τ, z = x0 → ∀ (H1 : Heap) (locs1 : List Loc), va_P D vwCl (Wo z) H1 → va_D A (Wo z) → va_S A H0 H1 locs1 → W p l e R s m args below meth c H1 locs1 cells slots Q (F0 m (pc + 3) ls ((F z).toList ++ rest))) : W p l e R s m args below meth c H locs cells slots Q (F0 m pc ls st0) := by
  obtain ⟨hx, hb, hml, ho, hts, hK, hN⟩ := id hC
  obtain ⟨l1, l2, l4, l5, l6, l7, l8⟩ := lk
  obtain ⟨r1, r2, r3, r4⟩ := hR
  exact wl_call (va_runS ⟨hx, hb, hml, ho, hts⟩ (hM H.size) ⟨callB_of n hts (wl_gd l5) rfl r1 r2 (hts _ l4) (hts _ l1) ⟨l6, l7, l8⟩ ⟨r3, r4⟩, hts _ l2⟩ (wl_pre hC hP hD) rfl hn hsize hst (by show 2 * 0 + _ ≤ 8; omega) hdg ⟨hcs.1, hcs.2⟩) hD hS hA (fun z hz H1 locs1 _ => kk z hz H1 locs1)
theorem wl_nil {A : Nat → Prop} : va_D A [] := ⟨fun i j p q h => by simp at h, fun k q h => by simp at h⟩
theorem wl_nilP {H : Heap} : va_P D vwCl [] H := fun k q h => by simp at h
/-- a pure method: the world stays -/
theorem wl_pureE {τ : Type} {F : τ → Option Value} {x0 : τ} {a : Array Value} (hr : va_Run p l e R s m args below meth c H locs cells slots 0 0 (F0 m pc ls st0) rest (wl_Q D E F (fun _ => []) x0 (va_A [] H.size) a) (va_A [] H.size)) (hP : va_P D vwCl w H) (hS : va_S A H0 H locs) (hA : ∀ q : Nat, H0.size ≤ q → A q)
    (kk : ∀ z : τ, z = x0 → ∀ (H1 : Heap) (locs1 : List Loc), va_P D vwCl w H1 → va_S A H0 H1 locs1 → W p l e R s m args below meth c H1 locs1 cells slots Q (F0 m (pc + 3) ls ((F z).toList ++ rest))) : W p l e R s m args below meth c H locs cells slots Q (F0 m pc ls st0) := by
  refine wl_call hr wl_nil hS hA (fun z hz H1 locs1 hk _ _ hS1 => kk z hz H1 locs1 (hP.kept (fun k q hq => hk q.1 (hP k q hq).lt (fun h => ?_))) hS1)
  rcases h with ⟨k2, e2, h2⟩ | h2
  · simp at h2
  · exact absurd (hP k q hq).lt (Nat.not_lt.mpr h2)
theorem wl_callP {τ : Type} {F : τ → Option Value} {x0 : τ} {y : MethodName} {bytes : ByteArray} {maxL n index : Nat} {ret : Option FieldType} {rm : Room} {As : List Value} (hC : wl_Cx p s m args c cc nL own D E) (hM : wl_Met l D E y bytes maxL ret rm As [] F (fun _ => []) x0)
    (lk : wl_lkS own index y bytes maxL ret n) (hn : As.length = n) (hR : wl_rm rm R maxL) (hP : va_P D vwCl w H) (hS : va_S A H0 H locs) (hA : ∀ q : Nat, H0.size ≤ q → A q) (hsize : ls.size = nL)
    (hst : st0 = As.reverse ++ rest) (hW : (rest.map fun v => v.category).sum ≤ 8) (hdg : decode cc pc = .ok (.invokestatic index, 3)) (hcs : cells ≤ R.cells ∧ slots ≤ R.slots)
    (kk : ∀ z : τ, z = x0 → ∀ (H1 : Heap) (locs1 : List Loc), va_P D vwCl w H1 → va_S A H0 H1 locs1 → W p l e R s m args below meth c H1 locs1 cells slots Q (F0 m (pc + 3) ls ((F z).toList ++ rest))) : W p l e R s m args below meth c H locs cells slots Q (F0 m pc ls st0) := by
  obtain ⟨hx, hb, hml, ho, hts, hK, hN⟩ := id hC
  obtain ⟨l1, l2, l4, l5, l6, l7, l8⟩ := lk
  obtain ⟨r1, r2, r3, r4⟩ := hR
  exact wl_pureE (va_runS ⟨hx, hb, hml, ho, hts⟩ (hM H.size) ⟨callB_of n hts (wl_gd l5) rfl r1 r2 (hts _ l4) (hts _ l1) ⟨l6, l7, l8⟩ ⟨r3, r4⟩, hts _ l2⟩ (wl_pre (A := A) hC wl_nilP wl_nil) rfl hn hsize hst (by show 2 * 0 + _ ≤ 8; omega) hdg ⟨hcs.1, hcs.2⟩) hP hS hA kk
theorem wl_callN {τ : Type} {F : τ → Option Value} {x0 : τ} {y : MethodName} {host : String} {bytes : ByteArray} {maxL n index : Nat} {ret : Option FieldType} {rm : Room} {As : List Value} (hC : wl_Cx p s m args c cc nL own D E) (hM : wl_Met l D E y bytes maxL ret rm As [] F (fun _ => []) x0)
    (lk : wl_lkN own index y host bytes maxL ret n) (hn : As.length = n) (hR : wl_rm rm R maxL) (hP : va_P D vwCl w H) (hS : va_S A H0 H locs) (hA : ∀ q : Nat, H0.size ≤ q → A q) (hsize : ls.size = nL)
    (hst : st0 = As.reverse ++ rest) (hW : (rest.map fun v => v.category).sum ≤ 8) (hdg : decode cc pc = .ok (.invokestatic index, 3)) (hcs : cells ≤ R.cells ∧ slots ≤ R.slots)
    (kk : ∀ z : τ, z = x0 → ∀ (H1 : Heap) (locs1 : List Loc), va_P D vwCl w H1 → va_S A H0 H1 locs1 → W p l e R s m args below meth c H1 locs1 cells slots Q (F0 m (pc + 3) ls ((F z).toList ++ rest))) : W p l e R s m args below meth c H locs cells slots Q (F0 m pc ls st0) := by
  obtain ⟨hx, hb, hml, ho, hts, hK, hN⟩ := id hC
  obtain ⟨l1, l2, l4, l5, l6, l7, l8⟩ := lk
  obtain ⟨r1, r2, r3, r4⟩ := hR
  exact wl_pureE (va_runSN ⟨hx, hb, hml, ho, hts⟩ (hM H.size) ⟨va_cnB (host := host) (own := own) n hts (wl_gd l5) rfl r1 r2 (hN _ l1) (hts _ l4) ⟨l6, l7, l8⟩ ⟨r3, r4⟩, hts _ l2, trivial⟩ (wl_pre (A := A) hC wl_nilP wl_nil) rfl hn hsize hst (by show 2 * 0 + _ ≤ 8; omega) hdg ⟨hcs.1, hcs.2⟩) hP hS hA kk
/-- ends -/
theorem wl_fin {τ : Type} {F : τ → Option Value} {Wo : τ → va_W} {x0 x1 : τ} {rv : Option Value} (hC : wl_Cx p s m args c cc nL own D E) (hm : x0 = x1) (hF : F x1 = rv) (hP : va_P D vwCl (Wo x1) H) (hD : va_D A (Wo x1)) (hS : va_S A s.heap H locs) (t : State) (ht : t.heap = H) (hW : s.WarmedH t.vm) : wl_Q D E F Wo x0 A args s (.returned rv) t := by
  subst hm; subst hF
  exact ⟨⟨rfl, by rw [ht]; exact hP, va_K.moved hW.alike hC.2.2.2.2.2.1, hD⟩, hS.F ht⟩
theorem wl_iret {τ : Type} {F : τ → Option Value} {Wo : τ → va_W} {x0 x1 : τ} {v : Int32} (hC : wl_Cx p s m args c cc nL own D E) (hr : meth.sig.returnType = some .int) (hlk : meth.locks = false) (hm : x0 = x1) (hF : F x1 = some (.int v)) (hP : va_P D vwCl (Wo x1) H) (hD : va_D A (Wo x1)) (hS : va_S A s.heap H locs) (hdg : decode cc pc = .ok (.ireturn, 1)) :
    W p l e R s m args below meth c H locs 0 0 (MQ below (wl_Q D E F Wo x0 A) args s 0 0 A) (F0 m pc ls [.int v]) :=
  W.iret hC.1 hC.2.1 hr (fun t ht hW => wl_fin hC hm hF hP hD hS t ht hW) hS.2.2 hdg hlk
theorem wl_lret {τ : Type} {F : τ → Option Value} {Wo : τ → va_W} {x0 x1 : τ} {v : Int64} (hC : wl_Cx p s m args c cc nL own D E) (hr : meth.sig.returnType = some .long) (hlk : meth.locks = false) (hm : x0 = x1) (hF : F x1 = some (.long v)) (hP : va_P D vwCl (Wo x1) H) (hD : va_D A (Wo x1)) (hS : va_S A s.heap H locs) (hdg : decode cc pc = .ok (.lreturn, 1)) :
    W p l e R s m args below meth c H locs 0 0 (MQ below (wl_Q D E F Wo x0 A) args s 0 0 A) (F0 m pc ls [.long v]) :=
  W.lret hC.1 hC.2.1 hr (fun t ht hW => wl_fin hC hm hF hP hD hS t ht hW) hS.2.2 hdg hlk
theorem wl_vret {τ : Type} {F : τ → Option Value} {Wo : τ → va_W} {x0 x1 : τ} (hC : wl_Cx p s m args c cc nL own D E) (hr : meth.sig.returnType = none) (hlk : meth.locks = false) (hm : x0 = x1) (hF : F x1 = none) (hP : va_P D vwCl (Wo x1) H) (hD : va_D A (Wo x1)) (hS : va_S A s.heap H locs) (hdg : decode cc pc = .ok (.return_, 1)) :
    W p l e R s m args below meth c H locs 0 0 (MQ below (wl_Q D E F Wo x0 A) args s 0 0 A) (F0 m pc ls []) :=
  W.vret hC.1 hC.2.1 hr (fun t ht hW => wl_fin hC hm hF hP hD hS t ht hW) hS.2.2 hdg hlk
end WLC
/-- THE FRAME RULE for contracts: a part of a larger world -/
theorem wl_mapfm {ws wc : va_W} {is : List Nat} (h : is.map (fun i => ws[i]?) = wc.map some) : is.filterMap (fun i => ws[i]?) = wc := by
  induction is generalizing wc with
  | nil => cases wc with
    | nil => rfl
    | cons a l => simp at h
  | cons i is ih => cases wc with
    | nil => simp at h
    | cons a l =>
      rw [List.map_cons, List.map_cons, List.cons.injEq] at h
      rw [List.filterMap_cons, h.1]
      show a :: _ = _
      rw [ih h.2]
theorem wl_lift {τ : Type} {l : Launch} {D : va_G} {E : Nat → ClassId} {y : MethodName} {cc : ByteArray} {maxL : Nat} {ret : Option FieldType} {rm : Room} {av : List Value} {w w' wr : va_W} {F : τ → Option Value} {Wo Wo' : τ → va_W} {x0 : τ} (h : wl_Met l D E y cc maxL ret rm av w F Wo x0)
    (isC isR perm : List Nat) (hC : isC.map (fun i => w'[i]?) = w.map some) (hR : isR.map (fun i => w'[i]?) = wr.map some) (hnC : va_nd isC = true) (hnR : va_nd isR = true) (hdis : ∀ i ∈ isR, i ∉ isC) (hnp : va_nd perm = true) (hperm : ∀ z, perm.map (fun i => (wr ++ Wo z)[i]?) = (Wo' z).map some) : wl_Met l D E y cc maxL ret rm av w' F Wo' x0 := by
  intro sz
  have sub : ∀ q, va_A w sz q → va_A w' sz q := by
    intro q hq
    rcases hq with ⟨k, e, hk⟩ | hq
    · have h1 : (isC.map (fun i => w'[i]?))[k]? = some (some (q, e)) := by rw [hC, List.getElem?_map, hk]; rfl
      rw [List.getElem?_map] at h1
      cases hi : isC[k]? with
      | none => rw [hi] at h1; cases h1
      | some i => rw [hi] at h1; exact Or.inl ⟨i, e, Option.some.inj h1⟩
    · exact Or.inr hq
  refine MetFree.mono (h sz) ?_ (fun _ _ _ _ _ h => h) ?_
  · rintro a s ⟨h0, h1, hP, hK, hN, hD⟩
    exact ⟨h0, h1, hP.sub isC (wl_mapfm hC), hK, hN, hD.sub isC hnC hC⟩
  · rintro a s o t ⟨h0, h1, hP, hK, hN, hD⟩ ⟨⟨⟨ho, hP1, hK1, hD1⟩, hF⟩, L, hL1, hL2⟩
    subst h1
    have hDs : va_D (va_A w' s.heap.size) w' := hD.self
    obtain ⟨hP2, hD2⟩ := va_join (wr := wr) (w1 := Wo x0) hP hDs isC isR hC hR hnR hdis hF.2 sub hP1 hD1
    exact ⟨⟨⟨ho, hP2.sub perm (wl_mapfm (hperm x0)), hK1, hD2.sub perm hnp (hperm x0)⟩, hF.1, fun q h3 h4 => hF.2 q h3 (fun z => h4 (sub q z))⟩, L, hL1, fun q hq => sub _ (hL2 q hq)⟩
/-! functions: a let, loops -/
def wl_bnd {α β : Type} (v : α) (k : α → β) : β := k v
theorem wl_bz {α β : Type} {X : β} {v z : α} {k : α → β} (h : X = wl_bnd v k) (hz : z = v) : X = k z := by rw [h, hz]; rfl
def wl_iter {σ : Type} (f : Nat → σ → σ) : Nat → Nat → σ → σ
  | 0, _, v => v
  | n + 1, k, v => wl_iter f n (k + 1) (f k v)
def wl_run {σ ρ : Type} (f : σ → σ ⊕ ρ) (d : ρ) : Nat → σ → ρ
  | 0, _ => d
  | n + 1, v => match f v with
    | .inl v' => wl_run f d n v'
    | .inr r => r
theorem wl_run_l {σ ρ : Type} {f : σ → σ ⊕ ρ} {d R : ρ} {n : Nat} {v v' : σ} (h : wl_run f d (n + 1) v = R) (e : f v = .inl v') : wl_run f d n v' = R := by rw [← h, wl_run, e]
theorem wl_run_r {σ ρ : Type} {f : σ → σ ⊕ ρ} {d R r : ρ} {n : Nat} {v : σ} (h : wl_run f d (n + 1) v = R) (e : f v = .inr r) : R = r := by rw [← h, wl_run, e]
/-! rows for small numbers and booleans -/
abbrev cl (x : Int32) : Nat := x.toNatClampNeg
def wl_b (b : Bool) : Int32 := nI (cond b 1 0)
theorem wl_b_nar (b : Bool) : narrow .boolean (.int (wl_b b)) = .int (wl_b b) := by cases b <;> decide +kernel
theorem wl_b_vnar (b : Bool) : vp_nar .boolean (wl_b b) = wl_b b := by cases b <;> decide +kernel
theorem wl_b_fit (b : Bool) : fits .boolean (.int (wl_b b)) = true := by cases b <;> decide +kernel
theorem wl_b_0 (b : Bool) : (wl_b b = 0) ↔ ¬ b = true := by cases b <;> decide +kernel
theorem wl_b_eq (a b : Bool) : (wl_b a = wl_b b) ↔ a = b := by cases a <;> cases b <;> decide +kernel
theorem wl_inc (k n : Nat) : nI k + Int32.ofInt (n : Int) = nI (k + n) := by
  rw [← nI_add]
  exact congrArg (nI k + ·) (by first | exact Int32.ofInt_natCast n | exact Int32.ofInt_eq_ofNat | (show Int32.ofInt (n : Int) = Int32.ofNat n; exact Int32.toBitVec_inj.mp (BitVec.ofInt_natCast 32 n)) | (show Int32.ofInt (n : Int) = Int32.ofNat n; apply Int32.toBitVec_inj.mp; simp [Int32.ofInt, Int32.ofNat]))
theorem wl_zero : (0 : Int32) = nI 0 := by decide +kernel
section WLR
variable {p : Program} {l : Launch} {e : Env} {R : Room} {s : State} {m : MethodId} {args : Array Value} {below : List Frame} {meth : Method} {c : Code} {H : Heap} {locs : List Loc} {cells slots : Nat} {Q : State → Prop}
variable {cc : ByteArray} {pc : Nat} {ls : Array Slot} {rest : List Value} {off : Int} {tgt : Nat}
theorem wl_re {x y : Int32} (h : x = y) (k : W p l e R s m args below meth c H locs cells slots Q (F0 m pc ls (.int y :: rest))) : W p l e R s m args below meth c H locs cells slots Q (F0 m pc ls (.int x :: rest)) := h ▸ k
theorem wl_reL {x y : Int64} (h : x = y) (k : W p l e R s m args below meth c H locs cells slots Q (F0 m pc ls (.long y :: rest))) : W p l e R s m args below meth c H locs cells slots Q (F0 m pc ls (.long x :: rest)) := h ▸ k
theorem wl_icmp_eq_n (hx : p.tables.exec = Jvm.exec) (hb : c.code = cc) {a b : Nat} (ha : a < 2 ^ 31) (hb2 : b < 2 ^ 31) (hdg : decode cc pc = .ok (.if_icmp .eq off, 3)) (ht : (pc : Int) + off = (tgt : Int)) (kt : a = b → W p l e R s m args below meth c H locs cells slots Q (F0 m tgt ls rest)) (kf : ¬ a = b → W p l e R s m args below meth c H locs cells slots Q (F0 m (pc + 3) ls rest)) : W p l e R s m args below meth c H locs cells slots Q (F0 m pc ls (.int (nI b) :: .int (nI a) :: rest)) :=
  lv_icmp_eq hx hb hdg ht (fun h => kt ((nI_eq ha hb2).mp h)) (fun h => kf (fun q => h ((nI_eq ha hb2).mpr q)))
theorem wl_icmp_ne_n (hx : p.tables.exec = Jvm.exec) (hb : c.code = cc) {a b : Nat} (ha : a < 2 ^ 31) (hb2 : b < 2 ^ 31) (hdg : decode cc pc = .ok (.if_icmp .ne off, 3)) (ht : (pc : Int) + off = (tgt : Int)) (kt : ¬ a = b → W p l e R s m args below meth c H locs cells slots Q (F0 m tgt ls rest)) (kf : a = b → W p l e R s m args below meth c H locs cells slots Q (F0 m (pc + 3) ls rest)) : W p l e R s m args below meth c H locs cells slots Q (F0 m pc ls (.int (nI b) :: .int (nI a) :: rest)) :=
  lv_icmp_ne hx hb hdg ht (fun h => kt (fun q => h ((nI_eq ha hb2).mpr q))) (fun h => kf ((nI_eq ha hb2).mp h))
theorem wl_icmp_lt_n (hx : p.tables.exec = Jvm.exec) (hb : c.code = cc) {a b : Nat} (ha : a < 2 ^ 31) (hb2 : b < 2 ^ 31) (hdg : decode cc pc = .ok (.if_icmp .lt off, 3)) (ht : (pc : Int) + off = (tgt : Int)) (kt : a < b → W p l e R s m args below meth c H locs cells slots Q (F0 m tgt ls rest)) (kf : ¬ a < b → W p l e R s m args below meth c H locs cells slots Q (F0 m (pc + 3) ls rest)) : W p l e R s m args below meth c H locs cells slots Q (F0 m pc ls (.int (nI b) :: .int (nI a) :: rest)) :=
  lv_icmp_lt hx hb hdg ht (fun h => kt ((nI_ltI ha hb2).mp h)) (fun h => kf (fun q => h ((nI_ltI ha hb2).mpr q)))
theorem wl_icmp_ge_n (hx : p.tables.exec = Jvm.exec) (hb : c.code = cc) {a b : Nat} (ha : a < 2 ^ 31) (hb2 : b < 2 ^ 31) (hdg : decode cc pc = .ok (.if_icmp .ge off, 3)) (ht : (pc : Int) + off = (tgt : Int)) (kt : b ≤ a → W p l e R s m args below meth c H locs cells slots Q (F0 m tgt ls rest)) (kf : ¬ b ≤ a → W p l e R s m args below meth c H locs cells slots Q (F0 m (pc + 3) ls rest)) : W p l e R s m args below meth c H locs cells slots Q (F0 m pc ls (.int (nI b) :: .int (nI a) :: rest)) :=
  lv_icmp_ge hx hb hdg ht (fun h => kt ((nI_leI hb2 ha).mp h)) (fun h => kf (fun q => h ((nI_leI hb2 ha).mpr q)))
theorem wl_icmp_gt_n (hx : p.tables.exec = Jvm.exec) (hb : c.code = cc) {a b : Nat} (ha : a < 2 ^ 31) (hb2 : b < 2 ^ 31) (hdg : decode cc pc = .ok (.if_icmp .gt off, 3)) (ht : (pc : Int) + off = (tgt : Int)) (kt : b < a → W p l e R s m args below meth c H locs cells slots Q (F0 m tgt ls rest)) (kf : ¬ b < a → W p l e R s m args below meth c H locs cells slots Q (F0 m (pc + 3) ls rest)) : W p l e R s m args below meth c H locs cells slots Q (F0 m pc ls (.int (nI b) :: .int (nI a) :: rest)) :=
  lv_icmp_gt hx hb hdg ht (fun h => kt ((nI_ltI hb2 ha).mp h)) (fun h => kf (fun q => h ((nI_ltI hb2 ha).mpr q)))
theorem wl_icmp_le_n (hx : p.tables.exec = Jvm.exec) (hb : c.code = cc) {a b : Nat} (ha : a < 2 ^ 31) (hb2 : b < 2 ^ 31) (hdg : decode cc pc = .ok (.if_icmp .le off, 3)) (ht : (pc : Int) + off = (tgt : Int)) (kt : a ≤ b → W p l e R s m args below meth c H locs cells slots Q (F0 m tgt ls rest)) (kf : ¬ a ≤ b → W p l e R s m args below meth c H locs cells slots Q (F0 m (pc + 3) ls rest)) : W p l e R s m args below meth c H locs cells slots Q (F0 m pc ls (.int (nI b) :: .int (nI a) :: rest)) :=
  lv_icmp_le hx hb hdg ht (fun h => kt ((nI_leI ha hb2).mp h)) (fun h => kf (fun q => h ((nI_leI ha hb2).mpr q)))
theorem wl_if_eq_n (hx : p.tables.exec = Jvm.exec) (hb : c.code = cc) {a : Nat} (ha : a < 2 ^ 31) (hdg : decode cc pc = .ok (.ifCond .eq off, 3)) (ht : (pc : Int) + off = (tgt : Int)) (kt : a = 0 → W p l e R s m args below meth c H locs cells slots Q (F0 m tgt ls rest)) (kf : ¬ a = 0 → W p l e R s m args below meth c H locs cells slots Q (F0 m (pc + 3) ls rest)) : W p l e R s m args below meth c H locs cells slots Q (F0 m pc ls (.int (nI a) :: rest)) :=
  lv_if_eq hx hb hdg ht (fun h => kt ((nI_eq ha (by decide)).mp (by rw [h]; exact wl_zero))) (fun h => kf (fun q => h (by rw [q]; exact wl_zero.symm)))
theorem wl_if_ne_n (hx : p.tables.exec = Jvm.exec) (hb : c.code = cc) {a : Nat} (ha : a < 2 ^ 31) (hdg : decode cc pc = .ok (.ifCond .ne off, 3)) (ht : (pc : Int) + off = (tgt : Int)) (kt : ¬ a = 0 → W p l e R s m args below meth c H locs cells slots Q (F0 m tgt ls rest)) (kf : a = 0 → W p l e R s m args below meth c H locs cells slots Q (F0 m (pc + 3) ls rest)) : W p l e R s m args below meth c H locs cells slots Q (F0 m pc ls (.int (nI a) :: rest)) :=
  lv_if_ne hx hb hdg ht (fun h => kt (fun q => h (by rw [q]; exact wl_zero.symm))) (fun h => kf ((nI_eq ha (by decide)).mp (by rw [h]; exact wl_zero)))
theorem wl_if_gt_n (hx : p.tables.exec = Jvm.exec) (hb : c.code = cc) {a : Nat} (ha : a < 2 ^ 31) (hdg : decode cc pc = .ok (.ifCond .gt off, 3)) (ht : (pc : Int) + off = (tgt : Int)) (kt : 0 < a → W p l e R s m args below meth c H locs cells slots Q (F0 m tgt ls rest)) (kf : ¬ 0 < a → W p l e R s m args below meth c H locs cells slots Q (F0 m (pc + 3) ls rest)) : W p l e R s m args below meth c H locs cells slots Q (F0 m pc ls (.int (nI a) :: rest)) :=
  lv_if_gt hx hb hdg ht (fun h => kt ((nI_ltI (by decide) ha).mp (by rw [← wl_zero]; exact h))) (fun h => kf (fun q => h (by rw [wl_zero]; exact (nI_ltI (by decide) ha).mpr q)))
theorem wl_if_le_n (hx : p.tables.exec = Jvm.exec) (hb : c.code = cc) {a : Nat} (ha : a < 2 ^ 31) (hdg : decode cc pc = .ok (.ifCond .le off, 3)) (ht : (pc : Int) + off = (tgt : Int)) (kt : ¬ 0 < a → W p l e R s m args below meth c H locs cells slots Q (F0 m tgt ls rest)) (kf : 0 < a → W p l e R s m args below meth c H locs cells slots Q (F0 m (pc + 3) ls rest)) : W p l e R s m args below meth c H locs cells slots Q (F0 m pc ls (.int (nI a) :: rest)) :=
  lv_if_le hx hb hdg ht (fun h => kt (fun q => (nI_nle q ha) h)) (fun h => kf (Nat.pos_of_ne_zero (fun q => h (by rw [q, ← wl_zero]; decide))))
theorem wl_if_lt_n (hx : p.tables.exec = Jvm.exec) (hb : c.code = cc) {a : Nat} (ha : a < 2 ^ 31) (hdg : decode cc pc = .ok (.ifCond .lt off, 3)) (ht : (pc : Int) + off = (tgt : Int)) (kf : W p l e R s m args below meth c H locs cells slots Q (F0 m (pc + 3) ls rest)) : W p l e R s m args below meth c H locs cells slots Q (F0 m pc ls (.int (nI a) :: rest)) :=
  lv_if_lt hx hb hdg ht (fun h => absurd h (nI_pos ha)) (fun _ => kf)
theorem wl_if_eq_b (hx : p.tables.exec = Jvm.exec) (hb : c.code = cc) {z : Bool} (hdg : decode cc pc = .ok (.ifCond .eq off, 3)) (ht : (pc : Int) + off = (tgt : Int)) (kt : ¬ z = true → W p l e R s m args below meth c H locs cells slots Q (F0 m tgt ls rest)) (kf : z = true → W p l e R s m args below meth c H locs cells slots Q (F0 m (pc + 3) ls rest)) : W p l e R s m args below meth c H locs cells slots Q (F0 m pc ls (.int (wl_b z) :: rest)) :=
  lv_if_eq hx hb hdg ht (fun h => kt ((wl_b_0 z).mp h)) (fun h => kf (by cases z; exact absurd ((wl_b_0 false).mpr (by decide)) h; rfl))
theorem wl_if_ne_b (hx : p.tables.exec = Jvm.exec) (hb : c.code = cc) {z : Bool} (hdg : decode cc pc = .ok (.ifCond .ne off, 3)) (ht : (pc : Int) + off = (tgt : Int)) (kt : z = true → W p l e R s m args below meth c H locs cells slots Q (F0 m tgt ls rest)) (kf : ¬ z = true → W p l e R s m args below meth c H locs cells slots Q (F0 m (pc + 3) ls rest)) : W p l e R s m args below meth c H locs cells slots Q (F0 m pc ls (.int (wl_b z) :: rest)) :=
  lv_if_ne hx hb hdg ht (fun h => kt (by cases z; exact absurd ((wl_b_0 false).mpr (by decide)) h; rfl)) (fun h => kf ((wl_b_0 z).mp h))
theorem wl_icmp_ne_b (hx : p.tables.exec = Jvm.exec) (hb : c.code = cc) {y z : Bool} (hdg : decode cc pc = .ok (.if_icmp .ne off, 3)) (ht : (pc : Int) + off = (tgt : Int)) (kt : ¬ y = z → W p l e R s m args below meth c H locs cells slots Q (F0 m tgt ls rest)) (kf : y = z → W p l e R s m args below meth c H locs cells slots Q (F0 m (pc + 3) ls rest)) : W p l e R s m args below meth c H locs cells slots Q (F0 m pc ls (.int (wl_b z) :: .int (wl_b y) :: rest)) :=
  lv_icmp_ne hx hb hdg ht (fun h => kt (fun q => h (by rw [q]))) (fun h => kf ((wl_b_eq y z).mp h))
theorem wl_icmp_eq_b (hx : p.tables.exec = Jvm.exec) (hb : c.code = cc) {y z : Bool} (hdg : decode cc pc = .ok (.if_icmp .eq off, 3)) (ht : (pc : Int) + off = (tgt : Int)) (kt : y = z → W p l e R s m args below meth c H locs cells slots Q (F0 m tgt ls rest)) (kf : ¬ y = z → W p l e R s m args below meth c H locs cells slots Q (F0 m (pc + 3) ls rest)) : W p l e R s m args below meth c H locs cells slots Q (F0 m pc ls (.int (wl_b z) :: .int (wl_b y) :: rest)) :=
  lv_icmp_eq hx hb hdg ht (fun h => kt ((wl_b_eq y z).mp h)) (fun h => kf (fun q => h (by rw [q])))
theorem wl_c_lt (hx : p.tables.exec = Jvm.exec) (hb : c.code = cc) {x y : Int64} (hdg : decode cc pc = .ok (.ifCond .lt off, 3)) (ht : (pc : Int) + off = (tgt : Int)) (kt : x < y → W p l e R s m args below meth c H locs cells slots Q (F0 m tgt ls rest)) (kf : ¬ x < y → W p l e R s m args below meth c H locs cells slots Q (F0 m (pc + 3) ls rest)) : W p l e R s m args below meth c H locs cells slots Q (F0 m pc ls (.int (lg_cmp x y) :: rest)) :=
  lv_if_lt hx hb hdg ht (fun h => kt ((lg_cmp_lt x y).mp h)) (fun h => kf (fun q => h ((lg_cmp_lt x y).mpr q)))
theorem wl_c_ge (hx : p.tables.exec = Jvm.exec) (hb : c.code = cc) {x y : Int64} (hdg : decode cc pc = .ok (.ifCond .ge off, 3)) (ht : (pc : Int) + off = (tgt : Int)) (kt : y ≤ x → W p l e R s m args below meth c H locs cells slots Q (F0 m tgt ls rest)) (kf : ¬ y ≤ x → W p l e R s m args below meth c H locs cells slots Q (F0 m (pc + 3) ls rest)) : W p l e R s m args below meth c H locs cells slots Q (F0 m pc ls (.int (lg_cmp x y) :: rest)) :=
  lv_if_ge hx hb hdg ht (fun h => kt ((lg_cmp_ge x y).mp h)) (fun h => kf (fun q => h ((lg_cmp_ge x y).mpr q)))
theorem wl_c_gt (hx : p.tables.exec = Jvm.exec) (hb : c.code = cc) {x y : Int64} (hdg : decode cc pc = .ok (.ifCond .gt off, 3)) (ht : (pc : Int) + off = (tgt : Int)) (kt : y < x → W p l e R s m args below meth c H locs cells slots Q (F0 m tgt ls rest)) (kf : ¬ y < x → W p l e R s m args below meth c H locs cells slots Q (F0 m (pc + 3) ls rest)) : W p l e R s m args below meth c H locs cells slots Q (F0 m pc ls (.int (lg_cmp x y) :: rest)) :=
  lv_if_gt hx hb hdg ht (fun h => kt ((lg_cmp_gt x y).mp h)) (fun h => kf (fun q => h ((lg_cmp_gt x y).mpr q)))
theorem wl_c_le (hx : p.tables.exec = Jvm.exec) (hb : c.code = cc) {x y : Int64} (hdg : decode cc pc = .ok (.ifCond .le off, 3)) (ht : (pc : Int) + off = (tgt : Int)) (kt : x ≤ y → W p l e R s m args below meth c H locs cells slots Q (F0 m tgt ls rest)) (kf : ¬ x ≤ y → W p l e R s m args below meth c H locs cells slots Q (F0 m (pc + 3) ls rest)) : W p l e R s m args below meth c H locs cells slots Q (F0 m pc ls (.int (lg_cmp x y) :: rest)) :=
  lv_if_le hx hb hdg ht (fun h => kt ((lg_cmp_le x y).mp h)) (fun h => kf (fun q => h ((lg_cmp_le x y).mpr q)))
theorem wl_c_eq (hx : p.tables.exec = Jvm.exec) (hb : c.code = cc) {x y : Int64} (hdg : decode cc pc = .ok (.ifCond .eq off, 3)) (ht : (pc : Int) + off = (tgt : Int)) (kt : x = y → W p l e R s m args below meth c H locs cells slots Q (F0 m tgt ls rest)) (kf : ¬ x = y → W p l e R s m args below meth c H locs cells slots Q (F0 m (pc + 3) ls rest)) : W p l e R s m args below meth c H locs cells slots Q (F0 m pc ls (.int (lg_cmp x y) :: rest)) :=
  lv_if_eq hx hb hdg ht (fun h => kt ((lg_cmp_eq x y).mp h)) (fun h => kf (fun q => h ((lg_cmp_eq x y).mpr q)))
theorem wl_c_ne (hx : p.tables.exec = Jvm.exec) (hb : c.code = cc) {x y : Int64} (hdg : decode cc pc = .ok (.ifCond .ne off, 3)) (ht : (pc : Int) + off = (tgt : Int)) (kt : ¬ x = y → W p l e R s m args below meth c H locs cells slots Q (F0 m tgt ls rest)) (kf : x = y → W p l e R s m args below meth c H locs cells slots Q (F0 m (pc + 3) ls rest)) : W p l e R s m args below meth c H locs cells slots Q (F0 m pc ls (.int (lg_cmp x y) :: rest)) :=
  lv_if_ne hx hb hdg ht (fun h => kt (fun q => h ((lg_cmp_eq x y).mpr q))) (fun h => kf ((lg_cmp_eq x y).mp h))
end WLR
theorem wl_zret {p : Program} {l : Launch} {e : Env} {R : Room} {s : State} {m : MethodId} {args : Array Value} {below : List Frame} {meth : Method} {c : Code} {H : Heap} {locs : List Loc} {cc : ByteArray} {nL pc : Nat} {own : String} {D : va_G} {E : Nat → ClassId} {ls : Array Slot} {A : Nat → Prop}
    {τ : Type} {F : τ → Option Value} {Wo : τ → va_W} {x0 x1 : τ} {v : Bool} (hC : wl_Cx p s m args c cc nL own D E) (hr : meth.sig.returnType = some .boolean) (hlk : meth.locks = false) (hm : x0 = x1) (hF : F x1 = some (.int (wl_b v))) (hP : va_P D vwCl (Wo x1) H) (hD : va_D A (Wo x1)) (hS : va_S A s.heap H locs) (hdg : decode cc pc = .ok (.ireturn, 1)) :
    W p l e R s m args below meth c H locs 0 0 (MQ below (wl_Q D E F Wo x0 A) args s 0 0 A) (F0 m pc ls [.int (wl_b v)]) :=
  W.zret hC.1 hC.2.1 hr (wl_b_nar v) (fun t ht hW => wl_fin hC hm hF hP hD hS t ht hW) hS.2.2 hdg hlk
