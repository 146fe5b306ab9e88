/-! CONSTRUCTORS: rows that make cells -/
theorem wl_RA_inj {U : State} {c1 c2 : ClassId} {ty : FieldType} (h1 : va_RA U c1 ty) (h2 : va_RA U c2 ty) : c1 = c2 := by
  cases ty with
  | object C =>
    obtain ⟨_, _, _, _, _, f1⟩ := h1
    obtain ⟨_, _, _, _, _, f2⟩ := h2
    exact Option.some.inj (f1.symm.trans f2)
  | _ =>
    have e1 : U.vm.findClass _ = some c1 := h1
    have e2 : U.vm.findClass _ = some c2 := h2
    exact Option.some.inj (e1.symm.trans e2)
def wl_Qn (D : va_G) (E : Nat → ClassId) (Wn : (Nat → Nat) → va_W) (b : Nat) (A : Nat → Prop) : Array Value → State → Outcome → State → Prop := fun _ st o t => (o = .returned none ∧ ∃ a : Nat → Nat, a 0 = b ∧ va_P D vwCl (Wn a) t.heap ∧ va_K D vwCl (wl_tys E) t ∧ va_D A (Wn a)) ∧ va_F A st t
def wl_PcX (ex : Bool) (D : va_G) (E : Nat → ClassId) (av : List Value) (w : va_W) (sz : Nat) : Array Value → State → Prop := fun v U => wl_Pc D E av w sz v U ∧ (ex = true → va_AO "WantedLater$Town" U)
theorem wl_PcX.blind {ex : Bool} {D : va_G} {E : Nat → ClassId} {av : List Value} {w : va_W} {sz : Nat} : FrameBlind (wl_PcX ex D E av w sz) := by
  intro a U g mk q
  exact ⟨wl_Pc.blind a U g mk q.1, fun h => va_AO.moved (u := U) (U := U.calling g mk a) (Vm.Alike.refl U.vm) (q.2 h)⟩
def wl_New (ex : Bool) (l : Launch) (D : va_G) (E : Nat → ClassId) (y : MethodName) (cc : ByteArray) (maxL : Nat) (rm : Room) (b : Nat) (w : va_W) (Wn : (Nat → Nat) → va_W) (mc ms : Nat) : Prop :=
  ∀ sz : Nat, Met l y (Cond.code y cc maxL none :: wAll) rm (wl_PcX ex D E [.ref b] w sz) (wl_Qn D E Wn b (va_A w sz)) mc ms (va_A w sz)
theorem wl_enterN {ex : Bool} {l : Launch} {D : va_G} {E : Nat → ClassId} {y : MethodName} {cc : ByteArray} {maxL : Nat} {rm : Room} {own : String} {b mc ms : Nat} {w : va_W} {Wn : (Nat → Nat) → va_W}
    (hy : plainName y.cls = true) (hown : y.cls = own) (hnm : y.name = "<init>") (hav : (lg_sl [.ref b]).length ≤ maxL)
    (body : ∀ (p : Program) (e : Env) (s : State) (m : MethodId) (below : List Frame) (meth : Method) (c : Code) (A : Nat → Prop),
      wl_Cx p s m [Value.ref b].toArray c cc maxL own D E → meth.sig.returnType = none → meth.locks = false → meth.name = "<init>" → (ex = true → va_AO "WantedLater$Town" s) → (∀ q : Nat, s.heap.size ≤ q → A q) → ∀ (H : Heap) (locs : List Loc), va_P D vwCl w H → va_D A w → va_S A s.heap H locs → ∀ ls : Array Slot, lv_has ls maxL (lv_args 0 [.ref b]) →
      W p l e rm s m [Value.ref b].toArray below meth c H locs 0 0 (MQ below (wl_Qn D E Wn b A) [Value.ref b].toArray s mc ms A) (F0 m 0 ls [])) :
    wl_New ex l D E y cc maxL rm b w Wn mc ms := by
  intro sz
  refine Met.ofW (cc := cc) (maxL := maxL) (ret := none) hy rfl ?_
  intro p e s m args below meth c s₁ B hml hv
  obtain ⟨⟨rfl, hsz, hP, hK, hN, hD0⟩, hao⟩ := hv
  have hts := atoms_spec (ws := Cond.code y cc maxL none :: wAll) B.pre
  have hfc : s.vm.findClass own = some m.cls := hown ▸ findClass_of_methodNamed B.named
  have hin : meth.name = "<init>" := hnm ▸ (name_of_methodNamed B.named B.method).1
  subst hsz
  rw [lg_entry_eq]
  exact body p e s m below meth c (va_A w s.heap.size) ⟨B.exec, B.bytes, hml, hfc, fun w h => hts w (List.mem_cons_of_mem _ h), hK, hN⟩ B.returns B.notSynchronized hin hao (fun q h => Or.inr h) s.heap [] hP (hD0.self) va_S.rf _ (lv_entry [.ref b] hav)
def wl_rmN (rm R : Room) (maxL mc ms : Nat) : Prop := rm.cells = mc ∧ rm.slots = ms ∧ rm.frames + 1 ≤ R.frames ∧ 8 + (maxL + 11) + rm.locals ≤ R.locals
section WLN
variable {p : Program} {l : Launch} {e : Env} {R : Room} {s : State} {m : MethodId} {args : Array Value} {below : List Frame} {meth : Method} {c : Code} {H : Heap} {locs : List Loc} {cells slots : Nat} {Q : State → Prop}
variable {cc : ByteArray} {nL pc : Nat} {own : String} {D : va_G} {E : Nat → ClassId} {ls : Array Slot} {rest st0 : List Value} {A : Nat → Prop} {H0 : Heap} {w : va_W}
theorem wl_newa {atype : ArrayType} (hC : wl_Cx p s m args c cc nL own D E) {ty : FieldType} (hty : newarray.typeOf atype = ty) (harr : Cond.arrayClass ty ∈ wAll) (t0 : Nat) {eA : ClassId} (ht : (wl_tys E)[t0]? = some (eA, ty)) (hP : va_P D vwCl w H) (hD : va_D A w) (hS : va_S A H0 H locs) (hA : ∀ q : Nat, H0.size ≤ q → A q)
    (N' : Nat) {a0 : vp_A} (ha : ∀ cA : ClassId, vp_cell cA a0 = arrV cA N' (fun _ => defaultValue ty)) (hN : N' < 2000) (hbytes : N' * componentBytes ty ≤ 536870912) (hcells : cells + 1 ≤ R.cells) (hslots : slots + N' ≤ R.slots) (hdg : decode cc pc = .ok (.newarray atype, 2))
    (kk : ∀ (q : Nat) (H1 : Heap), va_P D vwCl (w ++ [(q, .inl (eA, a0))]) H1 → va_D A (w ++ [(q, .inl (eA, a0))]) → va_S A H0 H1 locs → W p l e R s m args below meth c H1 locs (cells + 1) (slots + N') Q (F0 m (pc + 2) ls (.ref q :: rest))) : W p l e R s m args below meth c H locs cells slots Q (F0 m pc ls (.int (nI N') :: rest)) := by
  have hK := hC.2.2.2.2.2.1
  refine va_newa hC.1 hC.2.1 (hty ▸ hC.2.2.2.2.1 _ harr) hty hK hP hD hS hA (N' := N') ha (nI_pos (by omega)) (nI_clamp (by omega)) hbytes hcells hslots hdg (fun q cA H1 hK1 hP1 hD1 hS1 => ?_)
  have e : cA = eA := wl_RA_inj (hK1.2 4 (cA, ty) rfl).2 (hK.2 t0 _ ht).2
  subst e
  exact kk q H1 hP1 hD1 hS1
theorem wl_newq {index : Nat} (hC : wl_Cx p s m args c cc nL own D E) (hcl : Cond.classLink own index "WantedLater$Town" ∈ wAll) (hov : va_AO "WantedLater$Town" s) (hP : va_P D vwCl w H) (hD : va_D A w) (hS : va_S A H0 H locs) (hA : ∀ q : Nat, H0.size ≤ q → A q) (hcells : cells + 1 ≤ R.cells) (hslots : slots + 2 ≤ R.slots) (hdg : decode cc pc = .ok (.anewarray index, 3))
    (kk : ∀ (q : Nat) (H1 : Heap), va_P D vwCl (w ++ [(q, .inl (E 3, 2, .inr (.inr (.inr (.inr (fun _ => none))))))]) H1 → va_D A (w ++ [(q, .inl (E 3, 2, .inr (.inr (.inr (.inr (fun _ => none))))))]) → va_S A H0 H1 locs → W p l e R s m args below meth c H1 locs (cells + 1) (slots + 2) Q (F0 m (pc + 3) ls (.ref q :: rest))) : W p l e R s m args below meth c H locs cells slots Q (F0 m pc ls (.int (nI 2) :: rest)) := by
  have hK := hC.2.2.2.2.2.1
  refine va_newq hC.1 hC.2.1 hC.2.2.2.1 (hC.2.2.2.2.1 _ hcl) hov hK hP hD hS hA (N' := 2) (nI_pos (by omega)) (nI_clamp (by omega)) (by decide) hcells hslots hdg (fun q cA H1 hK1 hP1 hD1 hS1 => ?_)
  have e : cA = E 3 := wl_RA_inj (hK1.2 4 (cA, .object "WantedLater$Town") rfl).2 (hK.2 3 _ rfl).2
  subst e
  exact kk q H1 hP1 hD1 hS1
theorem wl_astq (hC : wl_Cx p s m args c cc nL own D E) (hP : va_P D vwCl w H) (hD : va_D A w) (hS : va_S A H0 H locs) (q0 qk : Nat) {v a : Nat} {vs : List Value} {f : Nat → Option Nat} (ha : w[q0]? = some (a, .inl (E 3, 2, .inr (.inr (.inr (.inr f)))))) (hv : w[qk]? = some (v, .inr (1, vs))) (j : Nat) (hj : j < 2) (hdg : decode cc pc = .ok (.aastore, 1))
    (kk : ∀ (H1 : Heap) (locs1 : List Loc), va_P D vwCl (w.set q0 (a, .inl (E 3, 2, .inr (.inr (.inr (.inr (va_up f j (some v)))))))) H1 → va_D A (w.set q0 (a, .inl (E 3, 2, .inr (.inr (.inr (.inr (va_up f j (some v)))))))) → va_S A H0 H1 locs1 → W p l e R s m args below meth c H1 locs1 cells slots Q (F0 m (pc + 1) ls rest)) : W p l e R s m args below meth c H locs cells slots Q (F0 m pc ls (.ref v :: .int (nI j) :: .ref a :: rest)) :=
  va_astq (r := (RX1, TX1, 12)) hC.1 hC.2.1 hC.2.2.2.2.2.1 hP hD hS q0 3 qk 1 ha rfl hv rfl (vp_in_nI hj (by omega)) hdg (fun H1 locs1 h1 h2 h3 => kk H1 locs1 (by rw [nI_clamp (show j < 2 ^ 31 by omega)] at h1; exact h1) (by rw [nI_clamp (show j < 2 ^ 31 by omega)] at h2; exact h2) h3)
theorem wl_preX {ex : Bool} {av : List Value} (hao : ex = true → va_AO "WantedLater$Town" s) (hC : wl_Cx p s m args c cc nL own D E) (hP : va_P D vwCl w H) (hD : va_D A w) : PreS s H (wl_PcX ex D E av w H.size) av :=
  ⟨wl_PcX.blind, fun U hU hW => ⟨(wl_pre (av := av) hC hP hD).2 U hU hW, fun h => va_AO.moved hW.alike (hao h)⟩⟩
/-- behind a constructor's call -/
theorem wl_callC {mc ms b : Nat} {wc wr : va_W} {Wn : (Nat → Nat) → va_W} {a : Array Value} (hr : va_Run p l e R s m args below meth c H locs cells slots mc ms (F0 m pc ls st0) rest (wl_Qn D E Wn b (va_A wc H.size) a) (va_A wc H.size)) (hP : va_P D vwCl w H) (hD : va_D A w) (hS : va_S A H0 H locs) (hA : ∀ q : Nat, H0.size ≤ q → A q)
    (isC isR : List Nat) (hCC : isC.map (fun i => w[i]?) = wc.map some) (hRR : isR.map (fun i => w[i]?) = wr.map some) (hn : va_nd isR = true) (hdis : ∀ i ∈ isR, i ∉ isC)
    (kk : ∀ a1 : Nat → Nat, a1 0 = b → ∀ (H1 : Heap) (locs1 : List Loc), va_P D vwCl (wr ++ Wn a1) H1 → va_D A (wr ++ Wn a1) → va_S A H0 H1 locs1 → W p l e R s m args below meth c H1 locs1 (cells + mc) (slots + ms) Q (F0 m (pc + 3) ls rest)) : W p l e R s m args below meth c H locs cells slots Q (F0 m pc ls st0) := by
  have hF : ∀ q, va_A wc H.size q → A q := va_free hD hS hA isC hCC
  intro T hT X
  obtain ⟨v, st₀, t, T', L, h0, X', hL, e1, e2, ⟨⟨hv, a1, ha1, hp, hk, hd⟩, hz, hkk⟩, st⟩ := hr T hT X
  cases hv
  rw [h0] at hz hkk
  have hP1 : va_P D vwCl (Wn a1) T'.heap := by rw [e1]; exact hp
  obtain ⟨hP2, hD2⟩ := va_join hP hD isC isR hCC hRR hn hdis (fun q h1 h2 => by rw [e1]; exact hkk q h1 h2) hF hP1 hd
  have hS1 : va_S A H0 T'.heap (locs ++ L) := ⟨Nat.le_trans hS.1 (by rw [e1]; exact hz), fun q h1 h2 => by rw [e1, hkk q (Nat.lt_of_lt_of_le h1 hS.1) (fun z => h2 (hF q z))]; exact hS.2.1 q h1 h2, fun q hq => by
      rcases List.mem_append.mp hq with h | h
      · exact hS.2.2 q h
      · exact hF _ (hL q h)⟩
  obtain ⟨t2, x1, y1⟩ := kk a1 ha1 T'.heap (locs ++ L) hP2 hD2 hS1 T' rfl X'
  exact ⟨t2, st t2 x1, y1⟩
theorem wl_callCN {y : MethodName} {host : String} {bytes : ByteArray} {maxL index mc ms b : Nat} {rm : Room} {wc wr : va_W} {Wn : (Nat → Nat) → va_W} (hC : wl_Cx p s m args c cc nL own D E) {ex : Bool} (hao : ex = true → va_AO "WantedLater$Town" s) (hM : wl_New ex l D E y bytes maxL rm b wc Wn mc ms)
    (l1 : (own, index, y, host) ∈ wl_nest) (l2 : Cond.instanceMethod y ∈ wAll) (l4 : Cond.initialized y.cls ∈ wAll) (l5 : Cond.code y bytes maxL none ∈ wAll) (hy1 : y.name = "<init>") (hd : y.cls ≠ "java/lang/invoke/MethodHandle" ∧ y.cls ≠ "java/lang/invoke/VarHandle" ∧ (parseMethodDescriptor y.desc).map (fun d => d.parameters.length) = some 0)
    (hR : wl_rmN rm R maxL mc ms) (hP : va_P D vwCl w H) (hD : va_D A w) (hS : va_S A H0 H locs) (hA : ∀ q : Nat, H0.size ≤ q → A q) (isC isR : List Nat) (hCC : isC.map (fun i => w[i]?) = wc.map some) (hRR : isR.map (fun i => w[i]?) = wr.map some) (hnC : va_nd isC = true) (hn : va_nd isR = true) (hdis : ∀ i ∈ isR, i ∉ isC)
    (hsize : ls.size = nL) (hW : (rest.map fun v => v.category).sum ≤ 8) (hdg : decode cc pc = .ok (.invokespecial index, 3)) (hcs : cells + mc ≤ R.cells ∧ slots + ms ≤ R.slots)
    (kk : ∀ a1 : Nat → Nat, a1 0 = b → ∀ (H1 : Heap) (locs1 : List Loc), va_P D vwCl (wr ++ Wn a1) H1 → va_D A (wr ++ Wn a1) → va_S A H0 H1 locs1 → W p l e R s m args below meth c H1 locs1 (cells + mc) (slots + ms) Q (F0 m (pc + 3) ls rest)) : W p l e R s m args below meth c H locs cells slots Q (F0 m pc ls (.ref b :: rest)) := by
  obtain ⟨hx, hb, hml, ho, hts, hK, hN⟩ := id hC
  obtain ⟨r1, r2, r3, r4⟩ := hR
  exact wl_callC (va_runIN (As := []) ⟨hx, hb, hml, ho, hts⟩ (hM H.size) ⟨va_cnB (host := host) (own := own) 0 hts (wl_gd l5) rfl r1 r2 (hN _ l1) (hts _ l4) hd ⟨r3, r4⟩, hy1, hts _ l2⟩ (wl_preX (A := A) hao hC (hP.sub isC (wl_mapfm hCC)) (hD.sub isC hnC hCC)) rfl rfl hsize rfl (by show 2 * 0 + _ ≤ 8; omega) hdg ⟨hcs.1, hcs.2⟩) hP hD hS hA isC isR hCC hRR hn hdis kk
theorem wl_callCI {y : MethodName} {bytes : ByteArray} {maxL index mc ms b : Nat} {rm : Room} {wc wr : va_W} {Wn : (Nat → Nat) → va_W} (hC : wl_Cx p s m args c cc nL own D E) {ex : Bool} (hao : ex = true → va_AO "WantedLater$Town" s) (hM : wl_New ex l D E y bytes maxL rm b wc Wn mc ms)
    (l1 : Cond.methodLink own index y ∈ wAll) (l2 : Cond.instanceMethod y ∈ wAll) (l4 : Cond.initialized y.cls ∈ wAll) (l5 : Cond.code y bytes maxL none ∈ wAll) (hy1 : y.name = "<init>") (hd : y.cls ≠ "java/lang/invoke/MethodHandle" ∧ y.cls ≠ "java/lang/invoke/VarHandle" ∧ (parseMethodDescriptor y.desc).map (fun d => d.parameters.length) = some 0)
    (hR : wl_rmN rm R maxL mc ms) (hP : va_P D vwCl w H) (hD : va_D A w) (hS : va_S A H0 H locs) (hA : ∀ q : Nat, H0.size ≤ q → A q) (isC isR : List Nat) (hCC : isC.map (fun i => w[i]?) = wc.map some) (hRR : isR.map (fun i => w[i]?) = wr.map some) (hnC : va_nd isC = true) (hn : va_nd isR = true) (hdis : ∀ i ∈ isR, i ∉ isC)
    (hsize : ls.size = nL) (hW : (rest.map fun v => v.category).sum ≤ 8) (hdg : decode cc pc = .ok (.invokespecial index, 3)) (hcs : cells + mc ≤ R.cells ∧ slots + ms ≤ R.slots)
    (kk : ∀ a1 : Nat → Nat, a1 0 = b → ∀ (H1 : Heap) (locs1 : List Loc), va_P D vwCl (wr ++ Wn a1) H1 → va_D A (wr ++ Wn a1) → va_S A H0 H1 locs1 → W p l e R s m args below meth c H1 locs1 (cells + mc) (slots + ms) Q (F0 m (pc + 3) ls rest)) : W p l e R s m args below meth c H locs cells slots Q (F0 m pc ls (.ref b :: rest)) := by
  obtain ⟨hx, hb, hml, ho, hts, hK, hN⟩ := id hC
  obtain ⟨r1, r2, r3, r4⟩ := hR
  exact wl_callC (va_runI (As := []) ⟨hx, hb, hml, ho, hts⟩ (hM H.size) ⟨callB_of 0 hts (wl_gd l5) rfl r1 r2 (hts _ l4) (hts _ l1) hd ⟨r3, r4⟩, hy1, hts _ l2⟩ (wl_preX (A := A) hao hC (hP.sub isC (wl_mapfm hCC)) (hD.sub isC hnC hCC)) rfl rfl hsize rfl (by show 2 * 0 + _ ≤ 8; omega) hdg ⟨hcs.1, hcs.2⟩) hP hD hS hA isC isR hCC hRR hn hdis kk
theorem wl_vretN {mc ms b : Nat} {Wn : (Nat → Nat) → va_W} (hC : wl_Cx p s m args c cc nL own D E) (hr : meth.sig.returnType = none) (hlk : meth.locks = false) (a : Nat → Nat) (ha : a 0 = b) (hP : va_P D vwCl (Wn a) H) (hD : va_D A (Wn a)) (hS : va_S A s.heap H locs) (hdg : decode cc pc = .ok (.return_, 1)) :
    W p l e R s m args below meth c H locs mc ms (MQ below (wl_Qn D E Wn b A) args s mc ms A) (F0 m pc ls []) :=
  W.vret hC.1 hC.2.1 hr (fun t ht hW => ⟨⟨rfl, a, ha, by rw [ht]; exact hP, va_K.moved hW.alike hC.2.2.2.2.2.1, hD⟩, hS.F ht⟩) hS.2.2 hdg hlk
end WLN
/-- the array classes at the start -/
theorem wl_arr {args : Array Value} {s : State} {ty : FieldType} (hp : ∀ C, ty ≠ .object C) (h : (Cond.arrayClass ty).before args s = true) : ∃ cA, ArrOfT s cA ty ∧ va_RA s cA ty := by
  obtain ⟨cA, kA, comp, h1, h2, h3⟩ := Cond.arrayClass_spec h
  refine ⟨cA, fun n z => ⟨(fun k h => (by cases h)), kA, h2, comp, h3⟩, ?_⟩
  cases ty with
  | object C => exact absurd rfl (hp C)
  | _ => exact h1
theorem wl_arrO {args : Array Value} {s : State} {C : String} (h : (Cond.arrayOver (.object C)).before args s = true) : ∃ cA, ArrOfT s cA (.object C) ∧ va_RA s cA (.object C) := by
  obtain ⟨comp, cA, kA, h1, h2, h3, h4, h5⟩ := Cond.arrayOver_spec h
  exact ⟨cA, fun n z => ⟨(fun k h => (by cases h)), kA, h3, comp, h4⟩, kA, comp, h3, h4, h1, h5⟩
