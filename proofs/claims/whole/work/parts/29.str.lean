/-! STRINGS: the constants' facts as an environment of contracts; the JDK's methods on them -/
def wl_sl : List Nat := [4, 3, 4, 6]
def wl_sb : List (List Int32) := [[116, 111, 119, 110], [111, 110, 101], [108, 105, 115, 116], [102, 111, 108, 108, 111, 119]]
def wl_sk : List Nat := [41, 51, 56, 61]
def wl_sx : List String := ["town", "one", "list", "follow"]
def wl_ln (i : Nat) : Nat := wl_sl.getD i 0
def wl_ch (i j : Nat) : Nat := cl ((wl_sb.getD i []).getD j 0)
/-- what holds of the four constants, of the two static fields -/
def wl_st (K V : Nat → Nat) (fz : Nat) (A : Nat → Prop) (U : State) (H : Heap) : Prop :=
  vk_S 4 wl_sl wl_sb K V A U H ∧ va_Z "java/lang/String" "COMPACT_STRINGS" "Z" (.int 1) A U H ∧ va_Zq "jdk/internal/util/Preconditions" "SIOOBE_FORMATTER" "Ljava/util/function/BiFunction;" A U H ∧ ∀ i, i < 4 → vk_R RX0 (wl_sk.getD i 0) (wl_sx.getD i "") (K i) U
theorem wl_st.moved {K V : Nat → Nat} {fz : Nat} {A : Nat → Prop} {u U : State} {H : Heap} (hvm : u.vm.Alike U.vm) (hR : ∀ (own tx : String) (k a : Nat), vk_R own k tx a u → vk_R own k tx a U) (h : wl_st K V fz A u H) : wl_st K V fz A U H :=
  ⟨h.1.moved hvm, h.2.1.moved hvm, h.2.2.1.moved hvm, fun i hi => hR _ _ _ _ (h.2.2.2 i hi)⟩
theorem wl_st.kept {K V : Nat → Nat} {fz : Nat} {A : Nat → Prop} {U : State} {H H1 : Heap} (h : wl_st K V fz A U H) (hq : ∀ a : Nat, a < H.size → ¬ A a → H1[a]? = H[a]?) : wl_st K V fz A U H1 :=
  ⟨h.1.kept hq, h.2.1.kept hq, h.2.2.1.kept hq, h.2.2.2⟩
theorem wl_st.narrow {K V : Nat → Nat} {fz : Nat} {A B : Nat → Prop} {U : State} {H : Heap} (h : wl_st K V fz A U H) (hAB : ∀ q, B q → A q) : wl_st K V fz B U H :=
  ⟨h.1.narrow hAB, h.2.1.narrow hAB, h.2.2.1.narrow hAB, h.2.2.2⟩
def wl_PcS (D : va_G) (E : Nat → ClassId) (K V : Nat → Nat) (fz : Nat) (av : List Value) (w : va_W) (sz : Nat) : Array Value → State → Prop := va_Pc av (fun U => (U.heap.size = sz ∧ va_P D vwCl w U.heap ∧ va_K D vwCl (wl_tys E) U ∧ wl_N U ∧ va_D (fun _ => True) w) ∧ wl_st K V fz (va_A w sz) U U.heap)
theorem wl_PcS.blind {D : va_G} {E : Nat → ClassId} {K V : Nat → Nat} {fz : Nat} {av : List Value} {w : va_W} {sz : Nat} : FrameBlind (wl_PcS D E K V fz av w sz) := by
  intro a U g mk q
  obtain ⟨q0, ⟨q1, qP, qK, qN, qD⟩, qE⟩ := q
  exact ⟨q0, ⟨q1, qP, va_K.moved (u := U) (U := U.calling g mk a) (Vm.Alike.refl U.vm) qK, wl_N.vm rfl qN, qD⟩, wl_st.moved (u := U) (U := U.calling g mk a) (Vm.Alike.refl U.vm) (fun _ _ _ _ hh => vk_R.same (u := U) (U := U.calling g mk a) rfl hh) qE⟩
/-- a contract that leans on the constants -/
def wl_MetS {τ : Type} (l : Launch) (D : va_G) (E : Nat → ClassId) (K V : Nat → Nat) (fz : Nat) (y : MethodName) (cc : ByteArray) (maxL : Nat) (ret : Option FieldType) (rm : Room) (av : List Value) (w : va_W) (F : τ → Option Value) (Wo : τ → va_W) (x0 : τ) : Prop :=
  ∀ sz : Nat, Met l y (Cond.code y cc maxL ret :: wAll) rm (wl_PcS D E K V fz av w sz) (wl_Q D E F Wo x0 (va_A w sz)) 0 0 (va_A w sz)
theorem wl_enterS {τ : Type} {l : Launch} {D : va_G} {E : Nat → ClassId} {K V : Nat → Nat} {fz : Nat} {y : MethodName} {cc : ByteArray} {maxL : Nat} {ret : Option FieldType} {rm : Room} {own : String} {av : List Value} {w : va_W} {F : τ → Option Value} {Wo : τ → va_W} {x0 : τ}
    (hy : plainName y.cls = true) (hown : y.cls = own) (hav : (lg_sl av).length ≤ maxL)
    (body : ∀ (p : Program) (e : Env) (s : State) (m : MethodId) (below : List Frame) (meth : Method) (c : Code) (A : Nat → Prop),
      wl_Cx p s m av.toArray c cc maxL own D E → wl_st K V fz A s s.heap → meth.sig.returnType = ret → meth.locks = false → (∀ q : Nat, s.heap.size ≤ q → A q) → ∀ (H : Heap) (locs : List Loc), va_P D vwCl w H → va_D A w → va_S A s.heap H locs → ∀ ls : Array Slot, lv_has ls maxL (lv_args 0 av) →
      W p l e rm s m av.toArray below meth c H locs 0 0 (MQ below (wl_Q D E F Wo x0 A) av.toArray s 0 0 A) (F0 m 0 ls [])) :
    wl_MetS l D E K V fz y cc maxL ret rm av w F Wo x0 := by
  intro sz
  refine Met.ofW (cc := cc) (maxL := maxL) (ret := ret) hy rfl ?_
  intro p e s m args below meth c s₁ B hml hv
  obtain ⟨rfl, ⟨hsz, hP, hK, hN, hD0⟩, hE⟩ := hv
  have hts := atoms_spec (ws := Cond.code y cc maxL ret :: wAll) B.pre
  have hfc : s.vm.findClass own = some m.cls := hown ▸ findClass_of_methodNamed B.named
  subst hsz
  rw [lg_entry_eq]
  exact body p e s m below meth c (va_A w s.heap.size) ⟨B.exec, B.bytes, hml, hfc, fun w h => hts w (List.mem_cons_of_mem _ h), hK, hN⟩ hE B.returns B.notSynchronized (fun q h => Or.inr h) s.heap [] hP (hD0.self) va_S.rf _ (lv_entry av hav)
section WLS
variable {p : Program} {l : Launch} {e : Env} {R : Room} {s : State} {m : MethodId} {args : Array Value} {below : List Frame} {meth : Method} {c : Code} {H : Heap} {locs : List Loc} {cells slots : Nat} {Q : State → Prop}
variable {cc : ByteArray} {nL pc : Nat} {own : String} {D : va_G} {E : Nat → ClassId} {K V : Nat → Nat} {fz : Nat} {ls : Array Slot} {rest st0 : List Value} {A : Nat → Prop} {w w0 : va_W}
theorem wl_preS {av : List Value} (hC : wl_Cx p s m args c cc nL own D E) (hE : wl_st K V fz A s s.heap) (hP : va_P D vwCl w H) (hD : va_D A w) (hS : va_S A s.heap H locs) (hA : ∀ q : Nat, s.heap.size ≤ q → A q) : PreS s H (wl_PcS D E K V fz av w H.size) av := by
  have hF : ∀ q, va_A w H.size q → A q := by
    intro q h
    rcases h with ⟨k, e, h⟩ | h
    · exact hD.2 k (q, e) h
    · exact hA q (Nat.le_trans hS.1 h)
  exact ⟨wl_PcS.blind, fun U hU hW => ⟨rfl, ⟨by rw [hU], by rw [hU]; exact hP, va_K.moved hW.alike hC.2.2.2.2.2.1, wl_N.warm hW hC.2.2.2.2.2.2, hD.weaken (fun _ _ _ _ => trivial)⟩, by rw [hU]; exact wl_st.moved hW.alike (fun _ _ _ _ hh => vk_R.warm hW hh) ((hE.kept hS.2.1).narrow hF)⟩⟩
/-- an object's method that leans on the constants -/
theorem wl_callVS {τ : Type} {F : τ → Option Value} {Wo : τ → va_W} {x0 : τ} {y : MethodName} {bytes : ByteArray} {maxL n index : Nat} {ret : Option FieldType} {rm : Room} {b ci T1 : Nat} {As : List Value} {fs : List Value} {T : u_T} (hC : wl_Cx p s m args c cc nL own D E) (hE : wl_st K V fz A s s.heap) (hM : wl_MetS l D E K V fz y bytes maxL ret rm (.ref b :: As) w F Wo x0)
    (lk : wl_lkV own index y bytes maxL ret n) (hn : As.length = n) (hR : wl_rm rm R maxL) (hP : va_P D vwCl w H) (hD : va_D A w) (hS : va_S A s.heap H locs) (hA : ∀ q : Nat, s.heap.size ≤ q → A q) (q0 : Nat) (hrec : w[q0]? = some (b, .inr (ci, fs))) (hcl : vwCl[ci]? = some (y.cls, T, T1)) (hsize : ls.size = nL)
    (hst : st0 = As.reverse ++ .ref b :: rest) (hW : (rest.map fun v => v.category).sum ≤ 8) (hdg : decode cc pc = .ok (.invokevirtual index, 3)) (hcs : cells ≤ R.cells ∧ slots ≤ R.slots)
    (kk : ∀ z : τ, z = x0 → ∀ (H1 : Heap) (locs1 : List Loc), va_P D vwCl (Wo z) H1 → va_D A (Wo z) → va_S A s.heap H1 locs1 → W p l e R s m args below meth c H1 locs1 cells slots Q (F0 m (pc + 3) ls ((F z).toList ++ rest))) : W p l e R s m args below meth c H locs cells slots Q (F0 m pc ls st0) := by
  obtain ⟨hx, hb, hml, ho, hts, hK, hN⟩ := id hC
  obtain ⟨l1, l2, l3, l4, l5, l6, l7, l8⟩ := lk
  obtain ⟨r1, r2, r3, r4⟩ := hR
  have hp := wl_preS (av := .ref b :: As) hC hE hP hD hS hA
  refine wl_call (va_runV ⟨hx, hb, hml, ho, hts⟩ (hM H.size) ⟨callB_of n hts (wl_gd l5) rfl r1 r2 (hts _ l4) (hts _ l1) ⟨l6, l7, l8⟩ ⟨r3, r4⟩, hts _ l2, hts _ l3⟩ ⟨hp.1, va_recv hK hP hcl hrec, hp.2⟩ rfl hn hsize hst (by show 2 * 0 + _ ≤ 8; omega) hdg ⟨hcs.1, hcs.2⟩) hD hS hA (fun z hz H1 locs1 _ => kk z hz H1 locs1)
/-- a constant's own method -/
theorem wl_callK {τ : Type} {F : τ → Option Value} {x0 : τ} {y : MethodName} {bytes : ByteArray} {maxL n index i : Nat} {ret : Option FieldType} {rm : Room} {As : List Value} (hC : wl_Cx p s m args c cc nL own D E) (hE : wl_st K V fz A s s.heap) (hi : i < 4) (hM : wl_MetS l D E K V fz y bytes maxL ret rm (.ref (K i) :: As) [] F (fun _ => []) x0)
    (lk : wl_lkV own index y bytes maxL ret n) (hy : "java/lang/String" = y.cls) (hn : As.length = n) (hR : wl_rm rm R maxL) (hP : va_P D vwCl w H) (hS : va_S A s.heap H locs) (hA : ∀ q : Nat, s.heap.size ≤ q → A q) (hsize : ls.size = nL)
    (hst : st0 = As.reverse ++ .ref (K i) :: rest) (hW : (rest.map fun v => v.category).sum ≤ 8) (hdg : decode cc pc = .ok (.invokevirtual index, 3)) (hcs : cells ≤ R.cells ∧ slots ≤ R.slots)
    (kk : ∀ z : τ, z = x0 → ∀ (H1 : Heap) (locs1 : List Loc), va_P D vwCl w H1 → va_S A s.heap H1 locs1 → W p l e R s m args below meth c H1 locs1 cells slots Q (F0 m (pc + 3) ls ((F z).toList ++ rest))) : W p l e R s m args below meth c H locs cells slots Q (F0 m pc ls st0) := by
  obtain ⟨hx, hb, hml, ho, hts, hK, hN⟩ := id hC
  obtain ⟨l1, l2, l3, l4, l5, l6, l7, l8⟩ := lk
  obtain ⟨r1, r2, r3, r4⟩ := hR
  have hp := wl_preS (av := .ref (K i) :: As) hC hE (wl_nilP (H := H)) wl_nil hS hA
  exact wl_pureE (va_runV ⟨hx, hb, hml, ho, hts⟩ (hM H.size) ⟨callB_of n hts (wl_gd l5) rfl r1 r2 (hts _ l4) (hts _ l1) ⟨l6, l7, l8⟩ ⟨r3, r4⟩, hts _ l2, hts _ l3⟩ ⟨hp.1, hy ▸ vk_recv hE.1 hi hS, hp.2⟩ rfl hn hsize hst (by show 2 * 0 + _ ≤ 8; omega) hdg ⟨hcs.1, hcs.2⟩) hP hS hA kk
/-- a class's method that leans on the constants, the world staying -/
theorem wl_callPS {τ : Type} {F : τ → Option Value} {x0 : τ} {y : MethodName} {bytes : ByteArray} {maxL n index : Nat} {ret : Option FieldType} {rm : Room} {As : List Value} (hC : wl_Cx p s m args c cc nL own D E) (hE : wl_st K V fz A s s.heap) (hM : wl_MetS l D E K V fz y bytes maxL ret rm As [] F (fun _ => []) x0)
    (lk : wl_lkS own index y bytes maxL ret n) (hn : As.length = n) (hR : wl_rm rm R maxL) (hP : va_P D vwCl w H) (hS : va_S A s.heap H locs) (hA : ∀ q : Nat, s.heap.size ≤ q → A q) (hsize : ls.size = nL)
    (hst : st0 = As.reverse ++ rest) (hW : (rest.map fun v => v.category).sum ≤ 8) (hdg : decode cc pc = .ok (.invokestatic index, 3)) (hcs : cells ≤ R.cells ∧ slots ≤ R.slots)
    (kk : ∀ z : τ, z = x0 → ∀ (H1 : Heap) (locs1 : List Loc), va_P D vwCl w H1 → va_S A s.heap H1 locs1 → W p l e R s m args below meth c H1 locs1 cells slots Q (F0 m (pc + 3) ls ((F z).toList ++ rest))) : W p l e R s m args below meth c H locs cells slots Q (F0 m pc ls st0) := by
  obtain ⟨hx, hb, hml, ho, hts, hK, hN⟩ := id hC
  obtain ⟨l1, l2, l4, l5, l6, l7, l8⟩ := lk
  obtain ⟨r1, r2, r3, r4⟩ := hR
  exact wl_pureE (va_runS ⟨hx, hb, hml, ho, hts⟩ (hM H.size) ⟨callB_of n hts (wl_gd l5) rfl r1 r2 (hts _ l4) (hts _ l1) ⟨l6, l7, l8⟩ ⟨r3, r4⟩, hts _ l2⟩ (wl_preS hC hE (wl_nilP (H := H)) wl_nil hS hA) rfl hn hsize hst (by show 2 * 0 + _ ≤ 8; omega) hdg ⟨hcs.1, hcs.2⟩) hP hS hA kk
end WLS
theorem wl_ln_lt : ∀ i, i < 4 → wl_sl.getD i 0 ≤ 6 := by decide
theorem wl_ln_shr : ∀ i, i < 4 → nI (wl_sl.getD i 0) >>> ((0 : Int32) &&& 31) = nI (wl_sl.getD i 0) := by decide +kernel
theorem wl_ch_c : ∀ i, i < 4 → ∀ j, j < 6 → (((wl_sb.getD i []).getD j 0 &&& nI 255).toUInt32 % 65536).toInt32 = nI (wl_ch i j) := by decide +kernel
theorem wl_ch_n : ∀ i, i < 4 → ∀ j, j < 6 → narrow .char (.int (nI (wl_ch i j))) = .int (nI (wl_ch i j)) := by decide +kernel
section WLJ
variable {l : Launch} {D : va_G} {E : Nat → ClassId} {K V : Nat → Nat} {fz : Nat}
theorem c_coder {i : Nat} (hi : i < 4) : wl_MetS (τ := Unit) l D E K V fz yJ0_coder_7d493 cJ0_coder_7d493 1 (some .byte) ({ frames := 0, cells := 0, slots := 0, locals := 0 } : Room) [.ref (K i)] [] (fun _ => some (.int 0)) (fun _ => []) () := by
  refine wl_enterS (own := RJ0) (by decide +kernel) rfl (Nat.le_of_ble_eq_true rfl) ?_
  intro p0 e0 s0 m0 bl0 mt0 c0 A hC hE hr hlk hA H locs hP hD hS ls hl
  have hx := hC.1
  have hb := hC.2.1
  have hl : lv_has ls 1 [(0, .ref (K i))] := hl
  refine va_gets hx hb (C := RJ0) (n := "COMPACT_STRINGS") (d := "Z") hE.2.1 hS hC.2.2.2.1 (hC.2.2.2.2.1 _ mw_35) (fun _ h => h) dJ0_coder_7d493_0 ?_
  refine wl_re (show (1 : Int32) = nI 1 by decide +kernel) ?_
  refine wl_if_eq_n hx hb (by decide) dJ0_coder_7d493_3 rfl (fun h => absurd h (by decide)) (fun _ => ?_)
  refine lv_aload_n hx hb dJ0_coder_7d493_6 rfl (lv_at hl 0 rfl) ?_
  refine vk_getf hx hb (o := RJ0) (n := "coder") (d := "B") (hE.1.1 i hi).2.1 hS hC.2.2.2.1 (hC.2.2.2.2.1 _ mw_36) (fun _ h => h) dJ0_coder_7d493_7 ?_
  refine lv_goto hx hb dJ0_coder_7d493_10 rfl ?_
  exact W.zret hC.1 hC.2.1 hr (by decide +kernel) (fun t ht hW => wl_fin (x1 := ()) hC rfl rfl hP hD hS t ht hW) hS.2.2 dJ0_coder_7d493_14 hlk
theorem c_length {i : Nat} (hi : i < 4) : wl_MetS (τ := Unit) l D E K V fz yJ0_length_8abf5 cJ0_length_8abf5 1 (some .int) ({ frames := 1, cells := 0, slots := 0, locals := 20 } : Room) [.ref (K i)] [] (fun _ => some (.int (nI (wl_ln i)))) (fun _ => []) () := by
  refine wl_enterS (own := RJ0) (by decide +kernel) rfl (Nat.le_of_ble_eq_true rfl) ?_
  intro p0 e0 s0 m0 bl0 mt0 c0 A hC hE hr hlk hA H locs hP hD hS ls hl
  have hx := hC.1
  have hb := hC.2.1
  have hl : lv_has ls 1 [(0, .ref (K i))] := hl
  refine lv_aload_n hx hb dJ0_length_8abf5_0 rfl (lv_at hl 0 rfl) ?_
  refine vk_getf hx hb (o := RJ0) (n := "value") (d := "[B") (hE.1.1 i hi).2.2.1 hS hC.2.2.2.1 (hC.2.2.2.2.1 _ mw_30) (fun _ h => h) dJ0_length_8abf5_1 ?_
  refine va_tlen (v := nI (wl_sl.getD i 0)) hx hb (hE.1.1 i hi).2.2.2 hS rfl dJ0_length_8abf5_4 ?_
  refine lv_aload_n hx hb dJ0_length_8abf5_5 rfl (lv_at hl 0 rfl) ?_
  refine wl_callK hC hE hi (c_coder hi) lk_RJ0_335 rfl (As := []) rfl ⟨rfl, rfl, (Nat.le_of_ble_eq_true rfl), (Nat.le_of_ble_eq_true rfl)⟩ hP hS hA hl.1 rfl (Nat.le_of_ble_eq_true rfl) dJ0_length_8abf5_6 ⟨Nat.zero_le _, Nat.zero_le _⟩ (fun z _ H locs hP hS => ?_)
  refine lv_ishr hx hb dJ0_length_8abf5_9 ?_
  refine wl_re (wl_ln_shr i hi) ?_
  exact wl_iret (x1 := ()) hC hr hlk rfl rfl hP hD hS dJ0_length_8abf5_10
theorem c_isLatin1 {i : Nat} (hi : i < 4) : wl_MetS (τ := Unit) l D E K V fz yJ0_isLatin1_aae02 cJ0_isLatin1_aae02 1 (some .boolean) ({ frames := 0, cells := 0, slots := 0, locals := 0 } : Room) [.ref (K i)] [] (fun _ => some (.int (wl_b true))) (fun _ => []) () := by
  refine wl_enterS (own := RJ0) (by decide +kernel) rfl (Nat.le_of_ble_eq_true rfl) ?_
  intro p0 e0 s0 m0 bl0 mt0 c0 A hC hE hr hlk hA H locs hP hD hS ls hl
  have hx := hC.1
  have hb := hC.2.1
  have hl : lv_has ls 1 [(0, .ref (K i))] := hl
  refine va_gets hx hb (C := RJ0) (n := "COMPACT_STRINGS") (d := "Z") hE.2.1 hS hC.2.2.2.1 (hC.2.2.2.2.1 _ mw_35) (fun _ h => h) dJ0_isLatin1_aae02_0 ?_
  refine wl_re (show (1 : Int32) = nI 1 by decide +kernel) ?_
  refine wl_if_eq_n hx hb (by decide) dJ0_isLatin1_aae02_3 rfl (fun h => absurd h (by decide)) (fun _ => ?_)
  refine lv_aload_n hx hb dJ0_isLatin1_aae02_6 rfl (lv_at hl 0 rfl) ?_
  refine vk_getf hx hb (o := RJ0) (n := "coder") (d := "B") (hE.1.1 i hi).2.1 hS hC.2.2.2.1 (hC.2.2.2.2.1 _ mw_36) (fun _ h => h) dJ0_isLatin1_aae02_7 ?_
  refine wl_re wl_zero ?_
  refine wl_if_ne_n hx hb (by decide) dJ0_isLatin1_aae02_10 rfl (fun h => absurd rfl h) (fun _ => ?_)
  refine lv_iconst (v := nI 1) hx hb dJ0_isLatin1_aae02_13 (by decide +kernel) ?_
  refine lv_goto hx hb dJ0_isLatin1_aae02_14 rfl ?_
  exact wl_zret (v := true) (x1 := ()) hC hr hlk rfl rfl hP hD hS dJ0_isLatin1_aae02_18
theorem c_checkI {j n : Nat} (hj : j < n) (hn : n < 2 ^ 31) : wl_Met (τ := Unit) l D E yJ3_checkIndex_8e157 cJ3_checkIndex_8e157 3 (some .int) ({ frames := 0, cells := 0, slots := 0, locals := 0 } : Room) [.int (nI j), .int (nI n), .ref fz] [] (fun _ => some (.int (nI j))) (fun _ => []) () := by
  refine wl_enter (own := RJ3) (by decide +kernel) rfl (Nat.le_of_ble_eq_true rfl) ?_
  intro p0 e0 s0 m0 bl0 mt0 c0 A hC hr hlk hA H locs hP hD hS ls hl
  have hx := hC.1
  have hb := hC.2.1
  have hl : lv_has ls 3 [(0, .int (nI j)), (1, .int (nI n)), (2, .ref fz)] := hl
  refine lv_iload_n hx hb dJ3_checkIndex_8e157_0 rfl (lv_at hl 0 rfl) ?_
  refine wl_if_lt_n hx hb (by omega) dJ3_checkIndex_8e157_1 (tgt := 9) rfl ?_
  refine lv_iload_n hx hb dJ3_checkIndex_8e157_4 rfl (lv_at hl 0 rfl) ?_
  refine lv_iload_n hx hb dJ3_checkIndex_8e157_5 rfl (lv_at hl 1 rfl) ?_
  refine wl_icmp_lt_n hx hb (by omega) (by omega) dJ3_checkIndex_8e157_6 rfl (fun _ => ?_) (fun h => absurd hj h)
  refine lv_iload_n hx hb dJ3_checkIndex_8e157_16 rfl (lv_at hl 0 rfl) ?_
  exact wl_iret (x1 := ()) hC hr hlk rfl rfl hP hD hS dJ3_checkIndex_8e157_17
theorem c_checkIN {j n : Nat} (hj : j < n) (hn : n < 2 ^ 31) : wl_Met (τ := Unit) l D E yJ3_checkIndex_8e157 cJ3_checkIndex_8e157 3 (some .int) ({ frames := 0, cells := 0, slots := 0, locals := 0 } : Room) [.int (nI j), .int (nI n), .null] [] (fun _ => some (.int (nI j))) (fun _ => []) () := by
  refine wl_enter (own := RJ3) (by decide +kernel) rfl (Nat.le_of_ble_eq_true rfl) ?_
  intro p0 e0 s0 m0 bl0 mt0 c0 A hC hr hlk hA H locs hP hD hS ls hl
  have hx := hC.1
  have hb := hC.2.1
  have hl : lv_has ls 3 [(0, .int (nI j)), (1, .int (nI n)), (2, .null)] := hl
  refine lv_iload_n hx hb dJ3_checkIndex_8e157_0 rfl (lv_at hl 0 rfl) ?_
  refine wl_if_lt_n hx hb (by omega) dJ3_checkIndex_8e157_1 (tgt := 9) rfl ?_
  refine lv_iload_n hx hb dJ3_checkIndex_8e157_4 rfl (lv_at hl 0 rfl) ?_
  refine lv_iload_n hx hb dJ3_checkIndex_8e157_5 rfl (lv_at hl 1 rfl) ?_
  refine wl_icmp_lt_n hx hb (by omega) (by omega) dJ3_checkIndex_8e157_6 rfl (fun _ => ?_) (fun h => absurd hj h)
  refine lv_iload_n hx hb dJ3_checkIndex_8e157_16 rfl (lv_at hl 0 rfl) ?_
  exact wl_iret (x1 := ()) hC hr hlk rfl rfl hP hD hS dJ3_checkIndex_8e157_17
theorem c_checkS {j n : Nat} (hj : j < n) (hn : n < 2 ^ 31) : wl_MetS (τ := Unit) l D E K V fz yJ0_checkIndex_df160 cJ0_checkIndex_df160 2 none ({ frames := 1, cells := 0, slots := 0, locals := 22 } : Room) [.int (nI j), .int (nI n)] [] (fun _ => none) (fun _ => []) () := by
  refine wl_enterS (own := RJ0) (by decide +kernel) rfl (Nat.le_of_ble_eq_true rfl) ?_
  intro p0 e0 s0 m0 bl0 mt0 c0 A hC hE hr hlk hA H locs hP hD hS ls hl
  have hx := hC.1
  have hb := hC.2.1
  have hl : lv_has ls 2 [(0, .int (nI j)), (1, .int (nI n))] := hl
  refine lv_iload_n hx hb dJ0_checkIndex_df160_0 rfl (lv_at hl 0 rfl) ?_
  refine lv_iload_n hx hb dJ0_checkIndex_df160_1 rfl (lv_at hl 1 rfl) ?_
  rcases hE.2.2.1 with hz | ⟨t, hz⟩
  · refine va_gets hx hb (C := RJ3) (n := "SIOOBE_FORMATTER") (d := "Ljava/util/function/BiFunction;") hz hS hC.2.2.2.1 (hC.2.2.2.2.1 _ mw_52) (fun _ h => h) dJ0_checkIndex_df160_2 ?_
    refine wl_callP hC (c_checkIN hj hn) lk_RJ0_1059 (As := [.int (nI j), .int (nI n), .null]) rfl ⟨rfl, rfl, (Nat.le_of_ble_eq_true rfl), (Nat.le_of_ble_eq_true rfl)⟩ hP hS hA hl.1 rfl (Nat.le_of_ble_eq_true rfl) dJ0_checkIndex_df160_5 ⟨Nat.zero_le _, Nat.zero_le _⟩ (fun z _ H locs hP hS => ?_)
    refine lv_pop hx hb dJ0_checkIndex_df160_8 rfl ?_
    exact wl_vret (x1 := ()) hC hr hlk rfl rfl hP hD hS dJ0_checkIndex_df160_9
  · refine va_gets hx hb (C := RJ3) (n := "SIOOBE_FORMATTER") (d := "Ljava/util/function/BiFunction;") hz hS hC.2.2.2.1 (hC.2.2.2.2.1 _ mw_52) (fun _ h => h) dJ0_checkIndex_df160_2 ?_
    refine wl_callP hC (c_checkI (fz := t) hj hn) lk_RJ0_1059 (As := [.int (nI j), .int (nI n), .ref t]) rfl ⟨rfl, rfl, (Nat.le_of_ble_eq_true rfl), (Nat.le_of_ble_eq_true rfl)⟩ hP hS hA hl.1 rfl (Nat.le_of_ble_eq_true rfl) dJ0_checkIndex_df160_5 ⟨Nat.zero_le _, Nat.zero_le _⟩ (fun z _ H locs hP hS => ?_)
    refine lv_pop hx hb dJ0_checkIndex_df160_8 rfl ?_
    exact wl_vret (x1 := ()) hC hr hlk rfl rfl hP hD hS dJ0_checkIndex_df160_9
theorem c_charL {i j : Nat} (hi : i < 4) (hj : j < wl_ln i) : wl_MetS (τ := Unit) l D E K V fz yJ1_charAt_3b067 cJ1_charAt_3b067 2 (some .char) ({ frames := 2, cells := 0, slots := 0, locals := 43 } : Room) [.ref (V i), .int (nI j)] [] (fun _ => some (.int (nI (wl_ch i j)))) (fun _ => []) () := by
  refine wl_enterS (own := RJ1) (by decide +kernel) rfl (Nat.le_of_ble_eq_true rfl) ?_
  intro p0 e0 s0 m0 bl0 mt0 c0 A hC hE hr hlk hA H locs hP hD hS ls hl
  have hx := hC.1
  have hb := hC.2.1
  have h6 : wl_ln i ≤ 6 := wl_ln_lt i hi
  have hl : lv_has ls 2 [(0, .ref (V i)), (1, .int (nI j))] := hl
  refine lv_iload_n hx hb dJ1_charAt_3b067_0 rfl (lv_at hl 1 rfl) ?_
  refine lv_aload_n hx hb dJ1_charAt_3b067_1 rfl (lv_at hl 0 rfl) ?_
  refine va_tlen (v := nI (wl_ln i)) hx hb (hE.1.1 i hi).2.2.2 hS rfl dJ1_charAt_3b067_2 ?_
  refine wl_callPS hC hE (c_checkS hj (by omega)) lk_RJ1_9 (As := [.int (nI j), .int (nI (wl_ln i))]) rfl ⟨rfl, rfl, (Nat.le_of_ble_eq_true rfl), (Nat.le_of_ble_eq_true rfl)⟩ hP hS hA hl.1 rfl (Nat.le_of_ble_eq_true rfl) dJ1_charAt_3b067_3 ⟨Nat.zero_le _, Nat.zero_le _⟩ (fun z _ H locs hP hS => ?_)
  refine lv_aload_n hx hb dJ1_charAt_3b067_6 rfl (lv_at hl 0 rfl) ?_
  refine lv_iload_n hx hb dJ1_charAt_3b067_7 rfl (lv_at hl 1 rfl) ?_
  refine va_tb hx hb (v := .int ((wl_sb.getD i []).getD j 0)) (hE.1.1 i hi).2.2.2 hS (vp_in_nI hj (by show wl_ln i < 2 ^ 31; omega)) (by rw [nI_clamp (by omega)]) dJ1_charAt_3b067_8 ?_
  refine lv_sipush (v := nI 255) hx hb dJ1_charAt_3b067_9 (by decide +kernel) ?_
  refine lv_iand hx hb dJ1_charAt_3b067_12 ?_
  refine lv_i2c hx hb dJ1_charAt_3b067_13 (wl_ch_c i hi j (by omega)) ?_
  exact W.zret hC.1 hC.2.1 hr (wl_ch_n i hi j (by omega)) (fun t ht hW => wl_fin (x1 := ()) hC rfl rfl hP hD hS t ht hW) hS.2.2 dJ1_charAt_3b067_14 hlk
theorem c_charAt {i j : Nat} (hi : i < 4) (hj : j < wl_ln i) : wl_MetS (τ := Unit) l D E K V fz yJ0_charAt_5068e cJ0_charAt_5068e 2 (some .char) ({ frames := 3, cells := 0, slots := 0, locals := 64 } : Room) [.ref (K i), .int (nI j)] [] (fun _ => some (.int (nI (wl_ch i j)))) (fun _ => []) () := by
  refine wl_enterS (own := RJ0) (by decide +kernel) rfl (Nat.le_of_ble_eq_true rfl) ?_
  intro p0 e0 s0 m0 bl0 mt0 c0 A hC hE hr hlk hA H locs hP hD hS ls hl
  have hx := hC.1
  have hb := hC.2.1
  have h6 : wl_ln i ≤ 6 := wl_ln_lt i hi
  have hl : lv_has ls 2 [(0, .ref (K i)), (1, .int (nI j))] := hl
  refine lv_aload_n hx hb dJ0_charAt_5068e_0 rfl (lv_at hl 0 rfl) ?_
  refine wl_callK hC hE hi (c_isLatin1 hi) lk_RJ0_492 rfl (As := []) rfl ⟨rfl, rfl, (Nat.le_of_ble_eq_true rfl), (Nat.le_of_ble_eq_true rfl)⟩ hP hS hA hl.1 rfl (Nat.le_of_ble_eq_true rfl) dJ0_charAt_5068e_1 ⟨Nat.zero_le _, Nat.zero_le _⟩ (fun z _ H locs hP hS => ?_)
  refine wl_if_eq_b hx hb dJ0_charAt_5068e_4 rfl (fun h => absurd rfl h) (fun _ => ?_)
  refine lv_aload_n hx hb dJ0_charAt_5068e_7 rfl (lv_at hl 0 rfl) ?_
  refine vk_getf hx hb (o := RJ0) (n := "value") (d := "[B") (hE.1.1 i hi).2.2.1 hS hC.2.2.2.1 (hC.2.2.2.2.1 _ mw_30) (fun _ h => h) dJ0_charAt_5068e_8 ?_
  refine lv_iload_n hx hb dJ0_charAt_5068e_11 rfl (lv_at hl 1 rfl) ?_
  refine wl_callPS hC hE (c_charL hi hj) lk_RJ0_495 (As := [.ref (V i), .int (nI j)]) rfl ⟨rfl, rfl, (Nat.le_of_ble_eq_true rfl), (Nat.le_of_ble_eq_true rfl)⟩ hP hS hA hl.1 rfl (Nat.le_of_ble_eq_true rfl) dJ0_charAt_5068e_12 ⟨Nat.zero_le _, Nat.zero_le _⟩ (fun z _ H locs hP hS => ?_)
  exact W.zret hC.1 hC.2.1 hr (wl_ch_n i hi j (by omega)) (fun t ht hW => wl_fin (x1 := ()) hC rfl rfl hP hD hS t ht hW) hS.2.2 dJ0_charAt_5068e_15 hlk
end WLJ
theorem wl_liftS {τ : Type} {l : Launch} {D : va_G} {E : Nat → ClassId} {K V : Nat → Nat} {fz : Nat} {y : MethodName} {cc : ByteArray} {maxL : Nat} {ret : Option FieldType} {rm : Room} {av : List Value} {w w' wr : va_W} {F : τ → Option Value} {Wo Wo' : τ → va_W} {x0 : τ} (h : wl_MetS l D E K V fz y cc maxL ret rm av w F Wo x0)
    (isC isR perm : List Nat) (hC : isC.map (fun i => w'[i]?) = w.map some) (hR : isR.map (fun i => w'[i]?) = wr.map some) (hnC : va_nd isC = true) (hnR : va_nd isR = true) (hdis : ∀ i ∈ isR, i ∉ isC) (hnp : va_nd perm = true) (hperm : ∀ z, perm.map (fun i => (wr ++ Wo z)[i]?) = (Wo' z).map some) : wl_MetS l D E K V fz y cc maxL ret rm av w' F Wo' x0 := by
  intro sz
  have sub : ∀ q, va_A w sz q → va_A w' sz q := by
    intro q hq
    rcases hq with ⟨k, e, hk⟩ | hq
    · have h1 : (isC.map (fun i => w'[i]?))[k]? = some (some (q, e)) := by rw [hC, List.getElem?_map, hk]; rfl
      rw [List.getElem?_map] at h1
      cases hi : isC[k]? with
      | none => rw [hi] at h1; cases h1
      | some i => rw [hi] at h1; exact Or.inl ⟨i, e, Option.some.inj h1⟩
    · exact Or.inr hq
  refine MetFree.mono (h sz) ?_ (fun _ _ _ _ _ h => h) ?_
  · rintro a s ⟨h0, ⟨h1, hP, hK, hN, hD⟩, hE⟩
    exact ⟨h0, ⟨h1, hP.sub isC (wl_mapfm hC), hK, hN, hD.sub isC hnC hC⟩, hE.narrow sub⟩
  · rintro a s o t ⟨h0, ⟨h1, hP, hK, hN, hD⟩, hE⟩ ⟨⟨⟨ho, hP1, hK1, hD1⟩, hF⟩, L, hL1, hL2⟩
    subst h1
    have hDs : va_D (va_A w' s.heap.size) w' := hD.self
    obtain ⟨hP2, hD2⟩ := va_join (wr := wr) (w1 := Wo x0) hP hDs isC isR hC hR hnR hdis hF.2 sub hP1 hD1
    exact ⟨⟨⟨ho, hP2.sub perm (wl_mapfm (hperm x0)), hK1, hD2.sub perm hnp (hperm x0)⟩, hF.1, fun q h3 h4 => hF.2 q h3 (fun z => h4 (sub q z))⟩, L, hL1, fun q hq => sub _ (hL2 q hq)⟩
section WLS2
variable {p : Program} {l : Launch} {e : Env} {R : Room} {s : State} {m : MethodId} {args : Array Value} {below : List Frame} {meth : Method} {c : Code} {H : Heap} {locs : List Loc} {cells slots : Nat} {Q : State → Prop}
variable {cc : ByteArray} {nL pc : Nat} {own : String} {D : va_G} {E : Nat → ClassId} {K V : Nat → Nat} {fz : Nat} {ls : Array Slot} {rest st0 : List Value} {A : Nat → Prop} {w w0 : va_W}
theorem wl_callVSi {τ : Type} {G : τ → Int32} {Wo : τ → va_W} {x0 : τ} {y : MethodName} {bytes : ByteArray} {maxL n index : Nat} {ret : Option FieldType} {rm : Room} {b ci T1 : Nat} {As : List Value} {fs : List Value} {T : u_T} (hC : wl_Cx p s m args c cc nL own D E) (hE : wl_st K V fz A s s.heap) (hM : wl_MetS l D E K V fz y bytes maxL ret rm (.ref b :: As) w (fun z => some (.int (G z))) Wo x0)
    (lk : wl_lkV own index y bytes maxL ret n) (hn : As.length = n) (hR : wl_rm rm R maxL) (hP : va_P D vwCl w H) (hD : va_D A w) (hS : va_S A s.heap H locs) (hA : ∀ q : Nat, s.heap.size ≤ q → A q) (q0 : Nat) (hrec : w[q0]? = some (b, .inr (ci, fs))) (hcl : vwCl[ci]? = some (y.cls, T, T1)) (hsize : ls.size = nL)
    (hst : st0 = As.reverse ++ .ref b :: rest) (hW : (rest.map fun v => v.category).sum ≤ 8) (hdg : decode cc pc = .ok (.invokevirtual index, 3)) (hcs : cells ≤ R.cells ∧ slots ≤ R.slots)
    (kk : ∀ z : τ, z = x0 → ∀ (H1 : Heap) (locs1 : List Loc), va_P D vwCl (Wo z) H1 → va_D A (Wo z) → va_S A s.heap H1 locs1 → W p l e R s m args below meth c H1 locs1 cells slots Q (F0 m (pc + 3) ls (.int (G z) :: rest))) : W p l e R s m args below meth c H locs cells slots Q (F0 m pc ls st0) := wl_callVS hC hE hM lk hn hR hP hD hS hA q0 hrec hcl hsize hst hW hdg hcs kk
theorem wl_callVSv {τ : Type} {Wo : τ → va_W} {x0 : τ} {y : MethodName} {bytes : ByteArray} {maxL n index : Nat} {ret : Option FieldType} {rm : Room} {b ci T1 : Nat} {As : List Value} {fs : List Value} {T : u_T} (hC : wl_Cx p s m args c cc nL own D E) (hE : wl_st K V fz A s s.heap) (hM : wl_MetS l D E K V fz y bytes maxL ret rm (.ref b :: As) w (fun _ => none) Wo x0)
    (lk : wl_lkV own index y bytes maxL ret n) (hn : As.length = n) (hR : wl_rm rm R maxL) (hP : va_P D vwCl w H) (hD : va_D A w) (hS : va_S A s.heap H locs) (hA : ∀ q : Nat, s.heap.size ≤ q → A q) (q0 : Nat) (hrec : w[q0]? = some (b, .inr (ci, fs))) (hcl : vwCl[ci]? = some (y.cls, T, T1)) (hsize : ls.size = nL)
    (hst : st0 = As.reverse ++ .ref b :: rest) (hW : (rest.map fun v => v.category).sum ≤ 8) (hdg : decode cc pc = .ok (.invokevirtual index, 3)) (hcs : cells ≤ R.cells ∧ slots ≤ R.slots)
    (kk : ∀ z : τ, z = x0 → ∀ (H1 : Heap) (locs1 : List Loc), va_P D vwCl (Wo z) H1 → va_D A (Wo z) → va_S A s.heap H1 locs1 → W p l e R s m args below meth c H1 locs1 cells slots Q (F0 m (pc + 3) ls (rest))) : W p l e R s m args below meth c H locs cells slots Q (F0 m pc ls st0) := wl_callVS hC hE hM lk hn hR hP hD hS hA q0 hrec hcl hsize hst hW hdg hcs kk
end WLS2
