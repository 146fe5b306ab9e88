/-! LAW 2: each call of the law, on both sides -/
def lw_C (p : Program) (s : State) (m : MethodId) (c : Code) (b L : Nat) (xs : Nat → Int32) (D : va_G) (E : Nat → ClassId) (K V : Nat → Nat) (fz : Nat) : Prop := wl_Cx p s m #[Value.ref b] c cL_law 4 RL D E ∧ wl_st K V fz (fun q : Nat => s.heap.size ≤ q) s s.heap ∧ va_X b L xs s s.heap ∧ b < s.heap.size
theorem and31 (x : Int32) : ∃ n, n < 32 ∧ x &&& nI 31 = nI n := by
  refine ⟨(x &&& nI 31).toBitVec.toNat, ?_, ?_⟩
  · show (x.toBitVec &&& (nI 31).toBitVec).toNat < 32
    rw [BitVec.toNat_and]
    exact Nat.lt_of_le_of_lt Nat.and_le_right (by decide)
  · refine Int32.toBitVec_inj.mp (BitVec.eq_of_toNat_eq ?_)
    show _ = (BitVec.ofNat 32 _).toNat
    rw [BitVec.toNat_ofNat, Nat.mod_eq_of_lt (BitVec.isLt _)]
set_option maxHeartbeats 4000000 in
set_option maxRecDepth 100000 in
theorem law_town {p : Program} {l : Launch} {e : Env} {s : State} {m : MethodId} {below : List Frame} {meth : Method} {c : Code} {b L : Nat} {xs : Nat → Int32} {D : va_G} {E : Nat → ClassId} {K V : Nat → Nat} {fz : Nat} {Q : State → Prop} {a a2 : Nat → Nat} (hC0 : lw_C p s m c b L xs D E K V fz) (hL : L ≤ 384) {u : SX} {r : SM} (hR : RR u r) {i : Nat} (hi : i + 6 ≤ L) {H : Heap} {locs : List Loc} (hP : va_P D vwCl (wSX E a u ++ wSM E a2 r) H) (hD : va_D (fun q : Nat => s.heap.size ≤ q) (wSX E a u ++ wSM E a2 r)) (hS : va_S (fun q : Nat => s.heap.size ≤ q) s.heap H locs) {ls : Array Slot} (hl : lv_has ls 4 [(0, .ref b), (1, .ref (a 0)), (2, .ref (a2 0)), (3, .int (nI i))]) (kk : ∀ (u : SX) (r : SM), RR u r → ∀ (H : Heap) (locs : List Loc), va_P D vwCl (wSX E a u ++ wSM E a2 r) H → va_D (fun q : Nat => s.heap.size ≤ q) (wSX E a u ++ wSM E a2 r) → va_S (fun q : Nat => s.heap.size ≤ q) s.heap H locs → W p l e room_1 s m #[Value.ref b] below meth c H locs 38 1424 Q (F0 m 997 ls [])) : W p l e room_1 s m #[Value.ref b] below meth c H locs 38 1424 Q (F0 m 172 ls []) := by
  obtain ⟨hC, hE, hX, hbl⟩ := hC0
  have hx := hC.1
  have hb := hC.2.1
  have hA : ∀ q : Nat, s.heap.size ≤ q → (fun q : Nat => s.heap.size ≤ q) q := fun _ h => h
  have hbA : ¬ (fun q : Nat => s.heap.size ≤ q) b := Nat.not_le.mpr hbl
  refine lv_aload_n hx hb dL_law_172 rfl (lv_at hl 1 rfl) ?_
  refine lv_aload_n hx hb dL_law_173 rfl (lv_at hl 0 rfl) ?_
  refine lv_iload_n hx hb dL_law_174 rfl (lv_at hl 3 rfl) ?_
  refine lv_iconst (v := nI 1) hx hb dL_law_175 (by decide +kernel) ?_
  refine lv_iadd hx hb dL_law_176 ?_
  refine wl_re (show nI i + nI 1 = nI (i + 1) from nI_add i 1) ?_
  refine va_sld hx hb hX hbl hbA hS (vp_in_nI (show i + 1 < L by omega) (by omega)) dL_law_177 ?_
  refine wl_callVi hC (wl_LX (q_X_town hR)) lk_RL_13 rfl ⟨rfl, rfl, Nat.le_of_ble_eq_true rfl, Nat.le_of_ble_eq_true rfl⟩ hP hD hS hA 0 rfl (T1 := 11) rfl hl.1 rfl (Nat.le_of_ble_eq_true rfl) dL_law_178 ⟨Nat.le_of_ble_eq_true rfl, Nat.le_of_ble_eq_true rfl⟩ (fun z hz H locs hP hD hS => ?_)
  refine lv_aload_n hx hb dL_law_181 rfl (lv_at hl 2 rfl) ?_
  refine lv_aload_n hx hb dL_law_182 rfl (lv_at hl 0 rfl) ?_
  refine lv_iload_n hx hb dL_law_183 rfl (lv_at hl 3 rfl) ?_
  refine lv_iconst (v := nI 1) hx hb dL_law_184 (by decide +kernel) ?_
  refine lv_iadd hx hb dL_law_185 ?_
  refine wl_re (show nI i + nI 1 = nI (i + 1) from nI_add i 1) ?_
  refine va_sld hx hb hX hbl hbA hS (vp_in_nI (show i + 1 < L by omega) (by omega)) dL_law_186 ?_
  refine wl_callVi hC (wl_LM (q_M_town hR)) lk_RL_17 rfl ⟨rfl, rfl, Nat.le_of_ble_eq_true rfl, Nat.le_of_ble_eq_true rfl⟩ hP hD hS hA 26 rfl (T1 := 21) rfl hl.1 rfl (Nat.le_of_ble_eq_true rfl) dL_law_187 ⟨Nat.le_of_ble_eq_true rfl, Nat.le_of_ble_eq_true rfl⟩ (fun y hy H locs hP hD hS => ?_)
  subst hz hy
  obtain ⟨e1, hR2⟩ := sim_town hR (xs (cl (nI (i + 1))))
  refine lv_icmp_eq (tgt := 997) hx hb dL_law_190 (by decide) (fun _ => ?_) (fun ce => absurd e1 ce)
  exact kk _ _ hR2 H locs hP hD hS
set_option maxHeartbeats 4000000 in
set_option maxRecDepth 100000 in
theorem law_one {p : Program} {l : Launch} {e : Env} {s : State} {m : MethodId} {below : List Frame} {meth : Method} {c : Code} {b L : Nat} {xs : Nat → Int32} {D : va_G} {E : Nat → ClassId} {K V : Nat → Nat} {fz : Nat} {Q : State → Prop} {a a2 : Nat → Nat} (hC0 : lw_C p s m c b L xs D E K V fz) (hL : L ≤ 384) {u : SX} {r : SM} (hR : RR u r) {i : Nat} (hi : i + 6 ≤ L) {H : Heap} {locs : List Loc} (hP : va_P D vwCl (wSX E a u ++ wSM E a2 r) H) (hD : va_D (fun q : Nat => s.heap.size ≤ q) (wSX E a u ++ wSM E a2 r)) (hS : va_S (fun q : Nat => s.heap.size ≤ q) s.heap H locs) {ls : Array Slot} (hl : lv_has ls 4 [(0, .ref b), (1, .ref (a 0)), (2, .ref (a2 0)), (3, .int (nI i))]) (kk : ∀ (u : SX) (r : SM), RR u r → ∀ (H : Heap) (locs : List Loc), va_P D vwCl (wSX E a u ++ wSM E a2 r) H → va_D (fun q : Nat => s.heap.size ≤ q) (wSX E a u ++ wSM E a2 r) → va_S (fun q : Nat => s.heap.size ≤ q) s.heap H locs → W p l e room_1 s m #[Value.ref b] below meth c H locs 38 1424 Q (F0 m 997 ls [])) : W p l e room_1 s m #[Value.ref b] below meth c H locs 38 1424 Q (F0 m 195 ls []) := by
  obtain ⟨hC, hE, hX, hbl⟩ := hC0
  have hx := hC.1
  have hb := hC.2.1
  have hA : ∀ q : Nat, s.heap.size ≤ q → (fun q : Nat => s.heap.size ≤ q) q := fun _ h => h
  have hbA : ¬ (fun q : Nat => s.heap.size ≤ q) b := Nat.not_le.mpr hbl
  refine lv_aload_n hx hb dL_law_195 rfl (lv_at hl 1 rfl) ?_
  refine lv_aload_n hx hb dL_law_196 rfl (lv_at hl 0 rfl) ?_
  refine lv_iload_n hx hb dL_law_197 rfl (lv_at hl 3 rfl) ?_
  refine lv_iconst (v := nI 1) hx hb dL_law_198 (by decide +kernel) ?_
  refine lv_iadd hx hb dL_law_199 ?_
  refine wl_re (show nI i + nI 1 = nI (i + 1) from nI_add i 1) ?_
  refine va_sld hx hb hX hbl hbA hS (vp_in_nI (show i + 1 < L by omega) (by omega)) dL_law_200 ?_
  refine lv_aload_n hx hb dL_law_201 rfl (lv_at hl 0 rfl) ?_
  refine lv_iload_n hx hb dL_law_202 rfl (lv_at hl 3 rfl) ?_
  refine lv_iconst (v := nI 2) hx hb dL_law_203 (by decide +kernel) ?_
  refine lv_iadd hx hb dL_law_204 ?_
  refine wl_re (show nI i + nI 2 = nI (i + 2) from nI_add i 2) ?_
  refine va_sld hx hb hX hbl hbA hS (vp_in_nI (show i + 2 < L by omega) (by omega)) dL_law_205 ?_
  refine wl_callVi hC (wl_LX (q_X_one hR)) lk_RL_18 rfl ⟨rfl, rfl, Nat.le_of_ble_eq_true rfl, Nat.le_of_ble_eq_true rfl⟩ hP hD hS hA 0 rfl (T1 := 11) rfl hl.1 rfl (Nat.le_of_ble_eq_true rfl) dL_law_206 ⟨Nat.le_of_ble_eq_true rfl, Nat.le_of_ble_eq_true rfl⟩ (fun z hz H locs hP hD hS => ?_)
  refine lv_aload_n hx hb dL_law_209 rfl (lv_at hl 2 rfl) ?_
  refine lv_aload_n hx hb dL_law_210 rfl (lv_at hl 0 rfl) ?_
  refine lv_iload_n hx hb dL_law_211 rfl (lv_at hl 3 rfl) ?_
  refine lv_iconst (v := nI 1) hx hb dL_law_212 (by decide +kernel) ?_
  refine lv_iadd hx hb dL_law_213 ?_
  refine wl_re (show nI i + nI 1 = nI (i + 1) from nI_add i 1) ?_
  refine va_sld hx hb hX hbl hbA hS (vp_in_nI (show i + 1 < L by omega) (by omega)) dL_law_214 ?_
  refine lv_aload_n hx hb dL_law_215 rfl (lv_at hl 0 rfl) ?_
  refine lv_iload_n hx hb dL_law_216 rfl (lv_at hl 3 rfl) ?_
  refine lv_iconst (v := nI 2) hx hb dL_law_217 (by decide +kernel) ?_
  refine lv_iadd hx hb dL_law_218 ?_
  refine wl_re (show nI i + nI 2 = nI (i + 2) from nI_add i 2) ?_
  refine va_sld hx hb hX hbl hbA hS (vp_in_nI (show i + 2 < L by omega) (by omega)) dL_law_219 ?_
  refine wl_callVi hC (wl_LM (q_M_one hR)) lk_RL_22 rfl ⟨rfl, rfl, Nat.le_of_ble_eq_true rfl, Nat.le_of_ble_eq_true rfl⟩ hP hD hS hA 26 rfl (T1 := 21) rfl hl.1 rfl (Nat.le_of_ble_eq_true rfl) dL_law_220 ⟨Nat.le_of_ble_eq_true rfl, Nat.le_of_ble_eq_true rfl⟩ (fun y hy H locs hP hD hS => ?_)
  subst hz hy
  obtain ⟨e1, hR2⟩ := sim_one hR (xs (cl (nI (i + 1)))) (xs (cl (nI (i + 2))))
  refine lv_icmp_eq (tgt := 997) hx hb dL_law_223 (by decide) (fun _ => ?_) (fun ce => absurd e1 ce)
  exact kk _ _ hR2 H locs hP hD hS
set_option maxHeartbeats 4000000 in
set_option maxRecDepth 100000 in
theorem law_type {p : Program} {l : Launch} {e : Env} {s : State} {m : MethodId} {below : List Frame} {meth : Method} {c : Code} {b L : Nat} {xs : Nat → Int32} {D : va_G} {E : Nat → ClassId} {K V : Nat → Nat} {fz : Nat} {Q : State → Prop} {a a2 : Nat → Nat} (hC0 : lw_C p s m c b L xs D E K V fz) (hL : L ≤ 384) {u : SX} {r : SM} (hR : RR u r) {i : Nat} (hi : i + 6 ≤ L) {H : Heap} {locs : List Loc} (hP : va_P D vwCl (wSX E a u ++ wSM E a2 r) H) (hD : va_D (fun q : Nat => s.heap.size ≤ q) (wSX E a u ++ wSM E a2 r)) (hS : va_S (fun q : Nat => s.heap.size ≤ q) s.heap H locs) {ls : Array Slot} (hl : lv_has ls 4 [(0, .ref b), (1, .ref (a 0)), (2, .ref (a2 0)), (3, .int (nI i))]) (kk : ∀ (u : SX) (r : SM), RR u r → ∀ (H : Heap) (locs : List Loc), va_P D vwCl (wSX E a u ++ wSM E a2 r) H → va_D (fun q : Nat => s.heap.size ≤ q) (wSX E a u ++ wSM E a2 r) → va_S (fun q : Nat => s.heap.size ≤ q) s.heap H locs → W p l e room_1 s m #[Value.ref b] below meth c H locs 38 1424 Q (F0 m 997 ls [])) : W p l e room_1 s m #[Value.ref b] below meth c H locs 38 1424 Q (F0 m 228 ls []) := by
  obtain ⟨hC, hE, hX, hbl⟩ := hC0
  have hx := hC.1
  have hb := hC.2.1
  have hA : ∀ q : Nat, s.heap.size ≤ q → (fun q : Nat => s.heap.size ≤ q) q := fun _ h => h
  have hbA : ¬ (fun q : Nat => s.heap.size ≤ q) b := Nat.not_le.mpr hbl
  refine lv_aload_n hx hb dL_law_228 rfl (lv_at hl 1 rfl) ?_
  refine lv_aload_n hx hb dL_law_229 rfl (lv_at hl 0 rfl) ?_
  refine lv_iload_n hx hb dL_law_230 rfl (lv_at hl 3 rfl) ?_
  refine lv_iconst (v := nI 1) hx hb dL_law_231 (by decide +kernel) ?_
  refine lv_iadd hx hb dL_law_232 ?_
  refine wl_re (show nI i + nI 1 = nI (i + 1) from nI_add i 1) ?_
  refine va_sld hx hb hX hbl hbA hS (vp_in_nI (show i + 1 < L by omega) (by omega)) dL_law_233 ?_
  refine wl_callVi hC (wl_LX (q_X_type hR)) lk_RL_23 rfl ⟨rfl, rfl, Nat.le_of_ble_eq_true rfl, Nat.le_of_ble_eq_true rfl⟩ hP hD hS hA 0 rfl (T1 := 11) rfl hl.1 rfl (Nat.le_of_ble_eq_true rfl) dL_law_234 ⟨Nat.le_of_ble_eq_true rfl, Nat.le_of_ble_eq_true rfl⟩ (fun z hz H locs hP hD hS => ?_)
  refine lv_aload_n hx hb dL_law_237 rfl (lv_at hl 2 rfl) ?_
  refine lv_aload_n hx hb dL_law_238 rfl (lv_at hl 0 rfl) ?_
  refine lv_iload_n hx hb dL_law_239 rfl (lv_at hl 3 rfl) ?_
  refine lv_iconst (v := nI 1) hx hb dL_law_240 (by decide +kernel) ?_
  refine lv_iadd hx hb dL_law_241 ?_
  refine wl_re (show nI i + nI 1 = nI (i + 1) from nI_add i 1) ?_
  refine va_sld hx hb hX hbl hbA hS (vp_in_nI (show i + 1 < L by omega) (by omega)) dL_law_242 ?_
  refine wl_callVi hC (wl_LM (q_M_type hR)) lk_RL_26 rfl ⟨rfl, rfl, Nat.le_of_ble_eq_true rfl, Nat.le_of_ble_eq_true rfl⟩ hP hD hS hA 26 rfl (T1 := 21) rfl hl.1 rfl (Nat.le_of_ble_eq_true rfl) dL_law_243 ⟨Nat.le_of_ble_eq_true rfl, Nat.le_of_ble_eq_true rfl⟩ (fun y hy H locs hP hD hS => ?_)
  subst hz hy
  obtain ⟨e1, hR2⟩ := sim_type hR (xs (cl (nI (i + 1))))
  refine lv_icmp_eq (tgt := 997) hx hb dL_law_246 (by decide) (fun _ => ?_) (fun ce => absurd e1 ce)
  exact kk _ _ hR2 H locs hP hD hS
set_option maxHeartbeats 4000000 in
set_option maxRecDepth 100000 in
theorem law_clear {p : Program} {l : Launch} {e : Env} {s : State} {m : MethodId} {below : List Frame} {meth : Method} {c : Code} {b L : Nat} {xs : Nat → Int32} {D : va_G} {E : Nat → ClassId} {K V : Nat → Nat} {fz : Nat} {Q : State → Prop} {a a2 : Nat → Nat} (hC0 : lw_C p s m c b L xs D E K V fz) (hL : L ≤ 384) {u : SX} {r : SM} (hR : RR u r) {i : Nat} (hi : i + 6 ≤ L) {H : Heap} {locs : List Loc} (hP : va_P D vwCl (wSX E a u ++ wSM E a2 r) H) (hD : va_D (fun q : Nat => s.heap.size ≤ q) (wSX E a u ++ wSM E a2 r)) (hS : va_S (fun q : Nat => s.heap.size ≤ q) s.heap H locs) {ls : Array Slot} (hl : lv_has ls 4 [(0, .ref b), (1, .ref (a 0)), (2, .ref (a2 0)), (3, .int (nI i))]) (kk : ∀ (u : SX) (r : SM), RR u r → ∀ (H : Heap) (locs : List Loc), va_P D vwCl (wSX E a u ++ wSM E a2 r) H → va_D (fun q : Nat => s.heap.size ≤ q) (wSX E a u ++ wSM E a2 r) → va_S (fun q : Nat => s.heap.size ≤ q) s.heap H locs → W p l e room_1 s m #[Value.ref b] below meth c H locs 38 1424 Q (F0 m 997 ls [])) : W p l e room_1 s m #[Value.ref b] below meth c H locs 38 1424 Q (F0 m 251 ls []) := by
  obtain ⟨hC, hE, hX, hbl⟩ := hC0
  have hx := hC.1
  have hb := hC.2.1
  have hA : ∀ q : Nat, s.heap.size ≤ q → (fun q : Nat => s.heap.size ≤ q) q := fun _ h => h
  have hbA : ¬ (fun q : Nat => s.heap.size ≤ q) b := Nat.not_le.mpr hbl
  refine lv_aload_n hx hb dL_law_251 rfl (lv_at hl 1 rfl) ?_
  refine wl_callVi hC (wl_LX (q_X_clear hR)) lk_RL_27 rfl ⟨rfl, rfl, Nat.le_of_ble_eq_true rfl, Nat.le_of_ble_eq_true rfl⟩ hP hD hS hA 0 rfl (T1 := 11) rfl hl.1 rfl (Nat.le_of_ble_eq_true rfl) dL_law_252 ⟨Nat.le_of_ble_eq_true rfl, Nat.le_of_ble_eq_true rfl⟩ (fun z hz H locs hP hD hS => ?_)
  refine lv_aload_n hx hb dL_law_255 rfl (lv_at hl 2 rfl) ?_
  refine wl_callVi hC (wl_LM (q_M_clear hR)) lk_RL_31 rfl ⟨rfl, rfl, Nat.le_of_ble_eq_true rfl, Nat.le_of_ble_eq_true rfl⟩ hP hD hS hA 26 rfl (T1 := 21) rfl hl.1 rfl (Nat.le_of_ble_eq_true rfl) dL_law_256 ⟨Nat.le_of_ble_eq_true rfl, Nat.le_of_ble_eq_true rfl⟩ (fun y hy H locs hP hD hS => ?_)
  subst hz hy
  obtain ⟨e1, hR2⟩ := sim_clear hR
  refine lv_icmp_eq (tgt := 997) hx hb dL_law_259 (by decide) (fun _ => ?_) (fun ce => absurd e1 ce)
  exact kk _ _ hR2 H locs hP hD hS
set_option maxHeartbeats 4000000 in
set_option maxRecDepth 100000 in
theorem law_read {p : Program} {l : Launch} {e : Env} {s : State} {m : MethodId} {below : List Frame} {meth : Method} {c : Code} {b L : Nat} {xs : Nat → Int32} {D : va_G} {E : Nat → ClassId} {K V : Nat → Nat} {fz : Nat} {Q : State → Prop} {a a2 : Nat → Nat} (hC0 : lw_C p s m c b L xs D E K V fz) (hL : L ≤ 384) {u : SX} {r : SM} (hR : RR u r) {i : Nat} (hi : i + 6 ≤ L) {H : Heap} {locs : List Loc} (hP : va_P D vwCl (wSX E a u ++ wSM E a2 r) H) (hD : va_D (fun q : Nat => s.heap.size ≤ q) (wSX E a u ++ wSM E a2 r)) (hS : va_S (fun q : Nat => s.heap.size ≤ q) s.heap H locs) {ls : Array Slot} (hl : lv_has ls 4 [(0, .ref b), (1, .ref (a 0)), (2, .ref (a2 0)), (3, .int (nI i))]) (kk : ∀ (u : SX) (r : SM), RR u r → ∀ (H : Heap) (locs : List Loc), va_P D vwCl (wSX E a u ++ wSM E a2 r) H → va_D (fun q : Nat => s.heap.size ≤ q) (wSX E a u ++ wSM E a2 r) → va_S (fun q : Nat => s.heap.size ≤ q) s.heap H locs → W p l e room_1 s m #[Value.ref b] below meth c H locs 38 1424 Q (F0 m 997 ls [])) : W p l e room_1 s m #[Value.ref b] below meth c H locs 38 1424 Q (F0 m 264 ls []) := by
  obtain ⟨hC, hE, hX, hbl⟩ := hC0
  have hx := hC.1
  have hb := hC.2.1
  have hA : ∀ q : Nat, s.heap.size ≤ q → (fun q : Nat => s.heap.size ≤ q) q := fun _ h => h
  have hbA : ¬ (fun q : Nat => s.heap.size ≤ q) b := Nat.not_le.mpr hbl
  refine lv_aload_n hx hb dL_law_264 rfl (lv_at hl 1 rfl) ?_
  refine wl_callVSi hC hE (wl_LXS (q_X_read hR)) lk_RL_32 rfl ⟨rfl, rfl, Nat.le_of_ble_eq_true rfl, Nat.le_of_ble_eq_true rfl⟩ hP hD hS hA 0 rfl (T1 := 11) rfl hl.1 rfl (Nat.le_of_ble_eq_true rfl) dL_law_265 ⟨Nat.le_of_ble_eq_true rfl, Nat.le_of_ble_eq_true rfl⟩ (fun z hz H locs hP hD hS => ?_)
  refine lv_aload_n hx hb dL_law_268 rfl (lv_at hl 2 rfl) ?_
  refine wl_callVi hC (wl_LM (q_M_read hR)) lk_RL_35 rfl ⟨rfl, rfl, Nat.le_of_ble_eq_true rfl, Nat.le_of_ble_eq_true rfl⟩ hP hD hS hA 26 rfl (T1 := 21) rfl hl.1 rfl (Nat.le_of_ble_eq_true rfl) dL_law_269 ⟨Nat.le_of_ble_eq_true rfl, Nat.le_of_ble_eq_true rfl⟩ (fun y hy H locs hP hD hS => ?_)
  subst hz hy
  obtain ⟨e1, hR2⟩ := sim_read hR
  refine lv_icmp_eq (tgt := 997) hx hb dL_law_272 (by decide) (fun _ => ?_) (fun ce => absurd e1 ce)
  exact kk _ _ hR2 H locs hP hD hS
set_option maxHeartbeats 4000000 in
set_option maxRecDepth 100000 in
theorem law_list {p : Program} {l : Launch} {e : Env} {s : State} {m : MethodId} {below : List Frame} {meth : Method} {c : Code} {b L : Nat} {xs : Nat → Int32} {D : va_G} {E : Nat → ClassId} {K V : Nat → Nat} {fz : Nat} {Q : State → Prop} {a a2 : Nat → Nat} (hC0 : lw_C p s m c b L xs D E K V fz) (hL : L ≤ 384) {u : SX} {r : SM} (hR : RR u r) {i : Nat} (hi : i + 6 ≤ L) {H : Heap} {locs : List Loc} (hP : va_P D vwCl (wSX E a u ++ wSM E a2 r) H) (hD : va_D (fun q : Nat => s.heap.size ≤ q) (wSX E a u ++ wSM E a2 r)) (hS : va_S (fun q : Nat => s.heap.size ≤ q) s.heap H locs) {ls : Array Slot} (hl : lv_has ls 4 [(0, .ref b), (1, .ref (a 0)), (2, .ref (a2 0)), (3, .int (nI i))]) (kk : ∀ (u : SX) (r : SM), RR u r → ∀ (H : Heap) (locs : List Loc), va_P D vwCl (wSX E a u ++ wSM E a2 r) H → va_D (fun q : Nat => s.heap.size ≤ q) (wSX E a u ++ wSM E a2 r) → va_S (fun q : Nat => s.heap.size ≤ q) s.heap H locs → W p l e room_1 s m #[Value.ref b] below meth c H locs 38 1424 Q (F0 m 997 ls [])) : W p l e room_1 s m #[Value.ref b] below meth c H locs 38 1424 Q (F0 m 277 ls []) := by
  obtain ⟨hC, hE, hX, hbl⟩ := hC0
  have hx := hC.1
  have hb := hC.2.1
  have hA : ∀ q : Nat, s.heap.size ≤ q → (fun q : Nat => s.heap.size ≤ q) q := fun _ h => h
  have hbA : ¬ (fun q : Nat => s.heap.size ≤ q) b := Nat.not_le.mpr hbl
  refine lv_aload_n hx hb dL_law_277 rfl (lv_at hl 1 rfl) ?_
  refine lv_aload_n hx hb dL_law_278 rfl (lv_at hl 0 rfl) ?_
  refine lv_iload_n hx hb dL_law_279 rfl (lv_at hl 3 rfl) ?_
  refine lv_iconst (v := nI 1) hx hb dL_law_280 (by decide +kernel) ?_
  refine lv_iadd hx hb dL_law_281 ?_
  refine wl_re (show nI i + nI 1 = nI (i + 1) from nI_add i 1) ?_
  refine va_sld hx hb hX hbl hbA hS (vp_in_nI (show i + 1 < L by omega) (by omega)) dL_law_282 ?_
  refine lv_aload_n hx hb dL_law_283 rfl (lv_at hl 0 rfl) ?_
  refine lv_iload_n hx hb dL_law_284 rfl (lv_at hl 3 rfl) ?_
  refine lv_iconst (v := nI 2) hx hb dL_law_285 (by decide +kernel) ?_
  refine lv_iadd hx hb dL_law_286 ?_
  refine wl_re (show nI i + nI 2 = nI (i + 2) from nI_add i 2) ?_
  refine va_sld hx hb hX hbl hbA hS (vp_in_nI (show i + 2 < L by omega) (by omega)) dL_law_287 ?_
  refine wl_callVi hC (wl_LX (q_X_list hR)) lk_RL_36 rfl ⟨rfl, rfl, Nat.le_of_ble_eq_true rfl, Nat.le_of_ble_eq_true rfl⟩ hP hD hS hA 0 rfl (T1 := 11) rfl hl.1 rfl (Nat.le_of_ble_eq_true rfl) dL_law_288 ⟨Nat.le_of_ble_eq_true rfl, Nat.le_of_ble_eq_true rfl⟩ (fun z hz H locs hP hD hS => ?_)
  refine lv_aload_n hx hb dL_law_291 rfl (lv_at hl 2 rfl) ?_
  refine lv_aload_n hx hb dL_law_292 rfl (lv_at hl 0 rfl) ?_
  refine lv_iload_n hx hb dL_law_293 rfl (lv_at hl 3 rfl) ?_
  refine lv_iconst (v := nI 1) hx hb dL_law_294 (by decide +kernel) ?_
  refine lv_iadd hx hb dL_law_295 ?_
  refine wl_re (show nI i + nI 1 = nI (i + 1) from nI_add i 1) ?_
  refine va_sld hx hb hX hbl hbA hS (vp_in_nI (show i + 1 < L by omega) (by omega)) dL_law_296 ?_
  refine lv_aload_n hx hb dL_law_297 rfl (lv_at hl 0 rfl) ?_
  refine lv_iload_n hx hb dL_law_298 rfl (lv_at hl 3 rfl) ?_
  refine lv_iconst (v := nI 2) hx hb dL_law_299 (by decide +kernel) ?_
  refine lv_iadd hx hb dL_law_300 ?_
  refine wl_re (show nI i + nI 2 = nI (i + 2) from nI_add i 2) ?_
  refine va_sld hx hb hX hbl hbA hS (vp_in_nI (show i + 2 < L by omega) (by omega)) dL_law_301 ?_
  refine wl_callVi hC (wl_LM (q_M_list hR)) lk_RL_39 rfl ⟨rfl, rfl, Nat.le_of_ble_eq_true rfl, Nat.le_of_ble_eq_true rfl⟩ hP hD hS hA 26 rfl (T1 := 21) rfl hl.1 rfl (Nat.le_of_ble_eq_true rfl) dL_law_302 ⟨Nat.le_of_ble_eq_true rfl, Nat.le_of_ble_eq_true rfl⟩ (fun y hy H locs hP hD hS => ?_)
  subst hz hy
  obtain ⟨e1, hR2⟩ := sim_list hR (xs (cl (nI (i + 1)))) (xs (cl (nI (i + 2))))
  refine lv_icmp_eq (tgt := 997) hx hb dL_law_305 (by decide) (fun _ => ?_) (fun ce => absurd e1 ce)
  exact kk _ _ hR2 H locs hP hD hS
set_option maxHeartbeats 4000000 in
set_option maxRecDepth 100000 in
theorem law_follow {p : Program} {l : Launch} {e : Env} {s : State} {m : MethodId} {below : List Frame} {meth : Method} {c : Code} {b L : Nat} {xs : Nat → Int32} {D : va_G} {E : Nat → ClassId} {K V : Nat → Nat} {fz : Nat} {Q : State → Prop} {a a2 : Nat → Nat} (hC0 : lw_C p s m c b L xs D E K V fz) (hL : L ≤ 384) {u : SX} {r : SM} (hR : RR u r) {i : Nat} (hi : i + 6 ≤ L) {H : Heap} {locs : List Loc} (hP : va_P D vwCl (wSX E a u ++ wSM E a2 r) H) (hD : va_D (fun q : Nat => s.heap.size ≤ q) (wSX E a u ++ wSM E a2 r)) (hS : va_S (fun q : Nat => s.heap.size ≤ q) s.heap H locs) {ls : Array Slot} (hl : lv_has ls 4 [(0, .ref b), (1, .ref (a 0)), (2, .ref (a2 0)), (3, .int (nI i))]) (kk : ∀ (u : SX) (r : SM), RR u r → ∀ (H : Heap) (locs : List Loc), va_P D vwCl (wSX E a u ++ wSM E a2 r) H → va_D (fun q : Nat => s.heap.size ≤ q) (wSX E a u ++ wSM E a2 r) → va_S (fun q : Nat => s.heap.size ≤ q) s.heap H locs → W p l e room_1 s m #[Value.ref b] below meth c H locs 38 1424 Q (F0 m 997 ls [])) : W p l e room_1 s m #[Value.ref b] below meth c H locs 38 1424 Q (F0 m 310 ls []) := by
  obtain ⟨hC, hE, hX, hbl⟩ := hC0
  have hx := hC.1
  have hb := hC.2.1
  have hA : ∀ q : Nat, s.heap.size ≤ q → (fun q : Nat => s.heap.size ≤ q) q := fun _ h => h
  have hbA : ¬ (fun q : Nat => s.heap.size ≤ q) b := Nat.not_le.mpr hbl
  refine lv_aload_n hx hb dL_law_310 rfl (lv_at hl 1 rfl) ?_
  refine lv_aload_n hx hb dL_law_311 rfl (lv_at hl 0 rfl) ?_
  refine lv_iload_n hx hb dL_law_312 rfl (lv_at hl 3 rfl) ?_
  refine lv_iconst (v := nI 1) hx hb dL_law_313 (by decide +kernel) ?_
  refine lv_iadd hx hb dL_law_314 ?_
  refine wl_re (show nI i + nI 1 = nI (i + 1) from nI_add i 1) ?_
  refine va_sld hx hb hX hbl hbA hS (vp_in_nI (show i + 1 < L by omega) (by omega)) dL_law_315 ?_
  refine lv_aload_n hx hb dL_law_316 rfl (lv_at hl 0 rfl) ?_
  refine lv_iload_n hx hb dL_law_317 rfl (lv_at hl 3 rfl) ?_
  refine lv_iconst (v := nI 2) hx hb dL_law_318 (by decide +kernel) ?_
  refine lv_iadd hx hb dL_law_319 ?_
  refine wl_re (show nI i + nI 2 = nI (i + 2) from nI_add i 2) ?_
  refine va_sld hx hb hX hbl hbA hS (vp_in_nI (show i + 2 < L by omega) (by omega)) dL_law_320 ?_
  refine wl_callVi hC (wl_LX (q_X_follow hR)) lk_RL_40 rfl ⟨rfl, rfl, Nat.le_of_ble_eq_true rfl, Nat.le_of_ble_eq_true rfl⟩ hP hD hS hA 0 rfl (T1 := 11) rfl hl.1 rfl (Nat.le_of_ble_eq_true rfl) dL_law_321 ⟨Nat.le_of_ble_eq_true rfl, Nat.le_of_ble_eq_true rfl⟩ (fun z hz H locs hP hD hS => ?_)
  refine lv_aload_n hx hb dL_law_324 rfl (lv_at hl 2 rfl) ?_
  refine lv_aload_n hx hb dL_law_325 rfl (lv_at hl 0 rfl) ?_
  refine lv_iload_n hx hb dL_law_326 rfl (lv_at hl 3 rfl) ?_
  refine lv_iconst (v := nI 1) hx hb dL_law_327 (by decide +kernel) ?_
  refine lv_iadd hx hb dL_law_328 ?_
  refine wl_re (show nI i + nI 1 = nI (i + 1) from nI_add i 1) ?_
  refine va_sld hx hb hX hbl hbA hS (vp_in_nI (show i + 1 < L by omega) (by omega)) dL_law_329 ?_
  refine lv_aload_n hx hb dL_law_330 rfl (lv_at hl 0 rfl) ?_
  refine lv_iload_n hx hb dL_law_331 rfl (lv_at hl 3 rfl) ?_
  refine lv_iconst (v := nI 2) hx hb dL_law_332 (by decide +kernel) ?_
  refine lv_iadd hx hb dL_law_333 ?_
  refine wl_re (show nI i + nI 2 = nI (i + 2) from nI_add i 2) ?_
  refine va_sld hx hb hX hbl hbA hS (vp_in_nI (show i + 2 < L by omega) (by omega)) dL_law_334 ?_
  refine wl_callVi hC (wl_LM (q_M_follow hR)) lk_RL_43 rfl ⟨rfl, rfl, Nat.le_of_ble_eq_true rfl, Nat.le_of_ble_eq_true rfl⟩ hP hD hS hA 26 rfl (T1 := 21) rfl hl.1 rfl (Nat.le_of_ble_eq_true rfl) dL_law_335 ⟨Nat.le_of_ble_eq_true rfl, Nat.le_of_ble_eq_true rfl⟩ (fun y hy H locs hP hD hS => ?_)
  subst hz hy
  obtain ⟨e1, hR2⟩ := sim_follow hR (xs (cl (nI (i + 1)))) (xs (cl (nI (i + 2))))
  refine lv_icmp_eq (tgt := 997) hx hb dL_law_338 (by decide) (fun _ => ?_) (fun ce => absurd e1 ce)
  exact kk _ _ hR2 H locs hP hD hS
set_option maxHeartbeats 4000000 in
set_option maxRecDepth 100000 in
theorem law_day {p : Program} {l : Launch} {e : Env} {s : State} {m : MethodId} {below : List Frame} {meth : Method} {c : Code} {b L : Nat} {xs : Nat → Int32} {D : va_G} {E : Nat → ClassId} {K V : Nat → Nat} {fz : Nat} {Q : State → Prop} {a a2 : Nat → Nat} (hC0 : lw_C p s m c b L xs D E K V fz) (hL : L ≤ 384) {u : SX} {r : SM} (hR : RR u r) {i : Nat} (hi : i + 6 ≤ L) {H : Heap} {locs : List Loc} (hP : va_P D vwCl (wSX E a u ++ wSM E a2 r) H) (hD : va_D (fun q : Nat => s.heap.size ≤ q) (wSX E a u ++ wSM E a2 r)) (hS : va_S (fun q : Nat => s.heap.size ≤ q) s.heap H locs) {ls : Array Slot} (hl : lv_has ls 4 [(0, .ref b), (1, .ref (a 0)), (2, .ref (a2 0)), (3, .int (nI i))]) (kk : ∀ (u : SX) (r : SM), RR u r → ∀ (H : Heap) (locs : List Loc), va_P D vwCl (wSX E a u ++ wSM E a2 r) H → va_D (fun q : Nat => s.heap.size ≤ q) (wSX E a u ++ wSM E a2 r) → va_S (fun q : Nat => s.heap.size ≤ q) s.heap H locs → W p l e room_1 s m #[Value.ref b] below meth c H locs 38 1424 Q (F0 m 997 ls [])) : W p l e room_1 s m #[Value.ref b] below meth c H locs 38 1424 Q (F0 m 343 ls []) := by
  obtain ⟨hC, hE, hX, hbl⟩ := hC0
  have hx := hC.1
  have hb := hC.2.1
  have hA : ∀ q : Nat, s.heap.size ≤ q → (fun q : Nat => s.heap.size ≤ q) q := fun _ h => h
  have hbA : ¬ (fun q : Nat => s.heap.size ≤ q) b := Nat.not_le.mpr hbl
  refine lv_aload_n hx hb dL_law_343 rfl (lv_at hl 1 rfl) ?_
  refine lv_aload_n hx hb dL_law_344 rfl (lv_at hl 0 rfl) ?_
  refine lv_iload_n hx hb dL_law_345 rfl (lv_at hl 3 rfl) ?_
  refine lv_iconst (v := nI 1) hx hb dL_law_346 (by decide +kernel) ?_
  refine lv_iadd hx hb dL_law_347 ?_
  refine wl_re (show nI i + nI 1 = nI (i + 1) from nI_add i 1) ?_
  refine va_sld hx hb hX hbl hbA hS (vp_in_nI (show i + 1 < L by omega) (by omega)) dL_law_348 ?_
  refine wl_callVi hC (wl_LX (q_X_day hR)) lk_RL_44 rfl ⟨rfl, rfl, Nat.le_of_ble_eq_true rfl, Nat.le_of_ble_eq_true rfl⟩ hP hD hS hA 0 rfl (T1 := 11) rfl hl.1 rfl (Nat.le_of_ble_eq_true rfl) dL_law_349 ⟨Nat.le_of_ble_eq_true rfl, Nat.le_of_ble_eq_true rfl⟩ (fun z hz H locs hP hD hS => ?_)
  refine lv_aload_n hx hb dL_law_352 rfl (lv_at hl 2 rfl) ?_
  refine lv_aload_n hx hb dL_law_353 rfl (lv_at hl 0 rfl) ?_
  refine lv_iload_n hx hb dL_law_354 rfl (lv_at hl 3 rfl) ?_
  refine lv_iconst (v := nI 1) hx hb dL_law_355 (by decide +kernel) ?_
  refine lv_iadd hx hb dL_law_356 ?_
  refine wl_re (show nI i + nI 1 = nI (i + 1) from nI_add i 1) ?_
  refine va_sld hx hb hX hbl hbA hS (vp_in_nI (show i + 1 < L by omega) (by omega)) dL_law_357 ?_
  refine wl_callVi hC (wl_LM (q_M_day hR)) lk_RL_47 rfl ⟨rfl, rfl, Nat.le_of_ble_eq_true rfl, Nat.le_of_ble_eq_true rfl⟩ hP hD hS hA 26 rfl (T1 := 21) rfl hl.1 rfl (Nat.le_of_ble_eq_true rfl) dL_law_358 ⟨Nat.le_of_ble_eq_true rfl, Nat.le_of_ble_eq_true rfl⟩ (fun y hy H locs hP hD hS => ?_)
  subst hz hy
  obtain ⟨e1, hR2⟩ := sim_day hR (xs (cl (nI (i + 1))))
  refine lv_icmp_eq (tgt := 997) hx hb dL_law_361 (by decide) (fun _ => ?_) (fun ce => absurd e1 ce)
  exact kk _ _ hR2 H locs hP hD hS
set_option maxHeartbeats 4000000 in
set_option maxRecDepth 100000 in
theorem law_undo {p : Program} {l : Launch} {e : Env} {s : State} {m : MethodId} {below : List Frame} {meth : Method} {c : Code} {b L : Nat} {xs : Nat → Int32} {D : va_G} {E : Nat → ClassId} {K V : Nat → Nat} {fz : Nat} {Q : State → Prop} {a a2 : Nat → Nat} (hC0 : lw_C p s m c b L xs D E K V fz) (hL : L ≤ 384) {u : SX} {r : SM} (hR : RR u r) {i : Nat} (hi : i + 6 ≤ L) {H : Heap} {locs : List Loc} (hP : va_P D vwCl (wSX E a u ++ wSM E a2 r) H) (hD : va_D (fun q : Nat => s.heap.size ≤ q) (wSX E a u ++ wSM E a2 r)) (hS : va_S (fun q : Nat => s.heap.size ≤ q) s.heap H locs) {ls : Array Slot} (hl : lv_has ls 4 [(0, .ref b), (1, .ref (a 0)), (2, .ref (a2 0)), (3, .int (nI i))]) (kk : ∀ (u : SX) (r : SM), RR u r → ∀ (H : Heap) (locs : List Loc), va_P D vwCl (wSX E a u ++ wSM E a2 r) H → va_D (fun q : Nat => s.heap.size ≤ q) (wSX E a u ++ wSM E a2 r) → va_S (fun q : Nat => s.heap.size ≤ q) s.heap H locs → W p l e room_1 s m #[Value.ref b] below meth c H locs 38 1424 Q (F0 m 997 ls [])) : W p l e room_1 s m #[Value.ref b] below meth c H locs 38 1424 Q (F0 m 366 ls []) := by
  obtain ⟨hC, hE, hX, hbl⟩ := hC0
  have hx := hC.1
  have hb := hC.2.1
  have hA : ∀ q : Nat, s.heap.size ≤ q → (fun q : Nat => s.heap.size ≤ q) q := fun _ h => h
  have hbA : ¬ (fun q : Nat => s.heap.size ≤ q) b := Nat.not_le.mpr hbl
  refine lv_aload_n hx hb dL_law_366 rfl (lv_at hl 1 rfl) ?_
  refine wl_callVi hC (wl_LX (q_X_undo hR)) lk_RL_48 rfl ⟨rfl, rfl, Nat.le_of_ble_eq_true rfl, Nat.le_of_ble_eq_true rfl⟩ hP hD hS hA 0 rfl (T1 := 11) rfl hl.1 rfl (Nat.le_of_ble_eq_true rfl) dL_law_367 ⟨Nat.le_of_ble_eq_true rfl, Nat.le_of_ble_eq_true rfl⟩ (fun z hz H locs hP hD hS => ?_)
  refine lv_aload_n hx hb dL_law_370 rfl (lv_at hl 2 rfl) ?_
  refine wl_callVi hC (wl_LM (q_M_undo hR)) lk_RL_51 rfl ⟨rfl, rfl, Nat.le_of_ble_eq_true rfl, Nat.le_of_ble_eq_true rfl⟩ hP hD hS hA 26 rfl (T1 := 21) rfl hl.1 rfl (Nat.le_of_ble_eq_true rfl) dL_law_371 ⟨Nat.le_of_ble_eq_true rfl, Nat.le_of_ble_eq_true rfl⟩ (fun y hy H locs hP hD hS => ?_)
  subst hz hy
  obtain ⟨e1, hR2⟩ := sim_undo hR
  refine lv_icmp_eq (tgt := 997) hx hb dL_law_374 (by decide) (fun _ => ?_) (fun ce => absurd e1 ce)
  exact kk _ _ hR2 H locs hP hD hS
set_option maxHeartbeats 4000000 in
set_option maxRecDepth 100000 in
theorem law_of {p : Program} {l : Launch} {e : Env} {s : State} {m : MethodId} {below : List Frame} {meth : Method} {c : Code} {b L : Nat} {xs : Nat → Int32} {D : va_G} {E : Nat → ClassId} {K V : Nat → Nat} {fz : Nat} {Q : State → Prop} {a a2 : Nat → Nat} (hC0 : lw_C p s m c b L xs D E K V fz) (hL : L ≤ 384) {u : SX} {r : SM} (hR : RR u r) {i : Nat} (hi : i + 6 ≤ L) {H : Heap} {locs : List Loc} (hP : va_P D vwCl (wSX E a u ++ wSM E a2 r) H) (hD : va_D (fun q : Nat => s.heap.size ≤ q) (wSX E a u ++ wSM E a2 r)) (hS : va_S (fun q : Nat => s.heap.size ≤ q) s.heap H locs) {ls : Array Slot} (hl : lv_has ls 4 [(0, .ref b), (1, .ref (a 0)), (2, .ref (a2 0)), (3, .int (nI i))]) (kk : ∀ (u : SX) (r : SM), RR u r → ∀ (H : Heap) (locs : List Loc), va_P D vwCl (wSX E a u ++ wSM E a2 r) H → va_D (fun q : Nat => s.heap.size ≤ q) (wSX E a u ++ wSM E a2 r) → va_S (fun q : Nat => s.heap.size ≤ q) s.heap H locs → W p l e room_1 s m #[Value.ref b] below meth c H locs 38 1424 Q (F0 m 997 ls [])) : W p l e room_1 s m #[Value.ref b] below meth c H locs 38 1424 Q (F0 m 379 ls []) := by
  obtain ⟨hC, hE, hX, hbl⟩ := hC0
  have hx := hC.1
  have hb := hC.2.1
  have hA : ∀ q : Nat, s.heap.size ≤ q → (fun q : Nat => s.heap.size ≤ q) q := fun _ h => h
  have hbA : ¬ (fun q : Nat => s.heap.size ≤ q) b := Nat.not_le.mpr hbl
  refine lv_aload_n hx hb dL_law_379 rfl (lv_at hl 1 rfl) ?_
  refine lv_aload_n hx hb dL_law_380 rfl (lv_at hl 0 rfl) ?_
  refine lv_iload_n hx hb dL_law_381 rfl (lv_at hl 3 rfl) ?_
  refine lv_iconst (v := nI 1) hx hb dL_law_382 (by decide +kernel) ?_
  refine lv_iadd hx hb dL_law_383 ?_
  refine wl_re (show nI i + nI 1 = nI (i + 1) from nI_add i 1) ?_
  refine va_sld hx hb hX hbl hbA hS (vp_in_nI (show i + 1 < L by omega) (by omega)) dL_law_384 ?_
  refine lv_aload_n hx hb dL_law_385 rfl (lv_at hl 0 rfl) ?_
  refine lv_iload_n hx hb dL_law_386 rfl (lv_at hl 3 rfl) ?_
  refine lv_iconst (v := nI 2) hx hb dL_law_387 (by decide +kernel) ?_
  refine lv_iadd hx hb dL_law_388 ?_
  refine wl_re (show nI i + nI 2 = nI (i + 2) from nI_add i 2) ?_
  refine va_sld hx hb hX hbl hbA hS (vp_in_nI (show i + 2 < L by omega) (by omega)) dL_law_389 ?_
  refine wl_callVi hC (wl_LX (q_X_of hR)) lk_RL_52 rfl ⟨rfl, rfl, Nat.le_of_ble_eq_true rfl, Nat.le_of_ble_eq_true rfl⟩ hP hD hS hA 0 rfl (T1 := 11) rfl hl.1 rfl (Nat.le_of_ble_eq_true rfl) dL_law_390 ⟨Nat.le_of_ble_eq_true rfl, Nat.le_of_ble_eq_true rfl⟩ (fun z hz H locs hP hD hS => ?_)
  refine lv_aload_n hx hb dL_law_393 rfl (lv_at hl 2 rfl) ?_
  refine lv_aload_n hx hb dL_law_394 rfl (lv_at hl 0 rfl) ?_
  refine lv_iload_n hx hb dL_law_395 rfl (lv_at hl 3 rfl) ?_
  refine lv_iconst (v := nI 1) hx hb dL_law_396 (by decide +kernel) ?_
  refine lv_iadd hx hb dL_law_397 ?_
  refine wl_re (show nI i + nI 1 = nI (i + 1) from nI_add i 1) ?_
  refine va_sld hx hb hX hbl hbA hS (vp_in_nI (show i + 1 < L by omega) (by omega)) dL_law_398 ?_
  refine lv_aload_n hx hb dL_law_399 rfl (lv_at hl 0 rfl) ?_
  refine lv_iload_n hx hb dL_law_400 rfl (lv_at hl 3 rfl) ?_
  refine lv_iconst (v := nI 2) hx hb dL_law_401 (by decide +kernel) ?_
  refine lv_iadd hx hb dL_law_402 ?_
  refine wl_re (show nI i + nI 2 = nI (i + 2) from nI_add i 2) ?_
  refine va_sld hx hb hX hbl hbA hS (vp_in_nI (show i + 2 < L by omega) (by omega)) dL_law_403 ?_
  refine wl_callVi hC (wl_LM (q_M_of hR)) lk_RL_55 rfl ⟨rfl, rfl, Nat.le_of_ble_eq_true rfl, Nat.le_of_ble_eq_true rfl⟩ hP hD hS hA 26 rfl (T1 := 21) rfl hl.1 rfl (Nat.le_of_ble_eq_true rfl) dL_law_404 ⟨Nat.le_of_ble_eq_true rfl, Nat.le_of_ble_eq_true rfl⟩ (fun y hy H locs hP hD hS => ?_)
  subst hz hy
  obtain ⟨e1, hR2⟩ := sim_of hR (xs (cl (nI (i + 1)))) (xs (cl (nI (i + 2))))
  refine lv_icmp_eq (tgt := 997) hx hb dL_law_407 (by decide) (fun _ => ?_) (fun ce => absurd e1 ce)
  exact kk _ _ hR2 H locs hP hD hS
set_option maxHeartbeats 4000000 in
set_option maxRecDepth 100000 in
theorem law_then {p : Program} {l : Launch} {e : Env} {s : State} {m : MethodId} {below : List Frame} {meth : Method} {c : Code} {b L : Nat} {xs : Nat → Int32} {D : va_G} {E : Nat → ClassId} {K V : Nat → Nat} {fz : Nat} {Q : State → Prop} {a a2 : Nat → Nat} (hC0 : lw_C p s m c b L xs D E K V fz) (hL : L ≤ 384) {u : SX} {r : SM} (hR : RR u r) {i : Nat} (hi : i + 6 ≤ L) {H : Heap} {locs : List Loc} (hP : va_P D vwCl (wSX E a u ++ wSM E a2 r) H) (hD : va_D (fun q : Nat => s.heap.size ≤ q) (wSX E a u ++ wSM E a2 r)) (hS : va_S (fun q : Nat => s.heap.size ≤ q) s.heap H locs) {ls : Array Slot} (hl : lv_has ls 4 [(0, .ref b), (1, .ref (a 0)), (2, .ref (a2 0)), (3, .int (nI i))]) (kk : ∀ (u : SX) (r : SM), RR u r → ∀ (H : Heap) (locs : List Loc), va_P D vwCl (wSX E a u ++ wSM E a2 r) H → va_D (fun q : Nat => s.heap.size ≤ q) (wSX E a u ++ wSM E a2 r) → va_S (fun q : Nat => s.heap.size ≤ q) s.heap H locs → W p l e room_1 s m #[Value.ref b] below meth c H locs 38 1424 Q (F0 m 997 ls [])) : W p l e room_1 s m #[Value.ref b] below meth c H locs 38 1424 Q (F0 m 412 ls []) := by
  obtain ⟨hC, hE, hX, hbl⟩ := hC0
  have hx := hC.1
  have hb := hC.2.1
  have hA : ∀ q : Nat, s.heap.size ≤ q → (fun q : Nat => s.heap.size ≤ q) q := fun _ h => h
  have hbA : ¬ (fun q : Nat => s.heap.size ≤ q) b := Nat.not_le.mpr hbl
  refine lv_aload_n hx hb dL_law_412 rfl (lv_at hl 1 rfl) ?_
  refine lv_aload_n hx hb dL_law_413 rfl (lv_at hl 0 rfl) ?_
  refine lv_iload_n hx hb dL_law_414 rfl (lv_at hl 3 rfl) ?_
  refine lv_iconst (v := nI 1) hx hb dL_law_415 (by decide +kernel) ?_
  refine lv_iadd hx hb dL_law_416 ?_
  refine wl_re (show nI i + nI 1 = nI (i + 1) from nI_add i 1) ?_
  refine va_sld hx hb hX hbl hbA hS (vp_in_nI (show i + 1 < L by omega) (by omega)) dL_law_417 ?_
  refine lv_aload_n hx hb dL_law_418 rfl (lv_at hl 0 rfl) ?_
  refine lv_iload_n hx hb dL_law_419 rfl (lv_at hl 3 rfl) ?_
  refine lv_iconst (v := nI 2) hx hb dL_law_420 (by decide +kernel) ?_
  refine lv_iadd hx hb dL_law_421 ?_
  refine wl_re (show nI i + nI 2 = nI (i + 2) from nI_add i 2) ?_
  refine va_sld hx hb hX hbl hbA hS (vp_in_nI (show i + 2 < L by omega) (by omega)) dL_law_422 ?_
  refine lv_aload_n hx hb dL_law_423 rfl (lv_at hl 0 rfl) ?_
  refine lv_iload_n hx hb dL_law_424 rfl (lv_at hl 3 rfl) ?_
  refine lv_iconst (v := nI 3) hx hb dL_law_425 (by decide +kernel) ?_
  refine lv_iadd hx hb dL_law_426 ?_
  refine wl_re (show nI i + nI 3 = nI (i + 3) from nI_add i 3) ?_
  refine va_sld hx hb hX hbl hbA hS (vp_in_nI (show i + 3 < L by omega) (by omega)) dL_law_427 ?_
  refine wl_callVi hC (wl_LX (q_X_then hR)) lk_RL_56 rfl ⟨rfl, rfl, Nat.le_of_ble_eq_true rfl, Nat.le_of_ble_eq_true rfl⟩ hP hD hS hA 0 rfl (T1 := 11) rfl hl.1 rfl (Nat.le_of_ble_eq_true rfl) dL_law_428 ⟨Nat.le_of_ble_eq_true rfl, Nat.le_of_ble_eq_true rfl⟩ (fun z hz H locs hP hD hS => ?_)
  refine lv_aload_n hx hb dL_law_431 rfl (lv_at hl 2 rfl) ?_
  refine lv_aload_n hx hb dL_law_432 rfl (lv_at hl 0 rfl) ?_
  refine lv_iload_n hx hb dL_law_433 rfl (lv_at hl 3 rfl) ?_
  refine lv_iconst (v := nI 1) hx hb dL_law_434 (by decide +kernel) ?_
  refine lv_iadd hx hb dL_law_435 ?_
  refine wl_re (show nI i + nI 1 = nI (i + 1) from nI_add i 1) ?_
  refine va_sld hx hb hX hbl hbA hS (vp_in_nI (show i + 1 < L by omega) (by omega)) dL_law_436 ?_
  refine lv_aload_n hx hb dL_law_437 rfl (lv_at hl 0 rfl) ?_
  refine lv_iload_n hx hb dL_law_438 rfl (lv_at hl 3 rfl) ?_
  refine lv_iconst (v := nI 2) hx hb dL_law_439 (by decide +kernel) ?_
  refine lv_iadd hx hb dL_law_440 ?_
  refine wl_re (show nI i + nI 2 = nI (i + 2) from nI_add i 2) ?_
  refine va_sld hx hb hX hbl hbA hS (vp_in_nI (show i + 2 < L by omega) (by omega)) dL_law_441 ?_
  refine lv_aload_n hx hb dL_law_442 rfl (lv_at hl 0 rfl) ?_
  refine lv_iload_n hx hb dL_law_443 rfl (lv_at hl 3 rfl) ?_
  refine lv_iconst (v := nI 3) hx hb dL_law_444 (by decide +kernel) ?_
  refine lv_iadd hx hb dL_law_445 ?_
  refine wl_re (show nI i + nI 3 = nI (i + 3) from nI_add i 3) ?_
  refine va_sld hx hb hX hbl hbA hS (vp_in_nI (show i + 3 < L by omega) (by omega)) dL_law_446 ?_
  refine wl_callVi hC (wl_LM (q_M_then hR)) lk_RL_60 rfl ⟨rfl, rfl, Nat.le_of_ble_eq_true rfl, Nat.le_of_ble_eq_true rfl⟩ hP hD hS hA 26 rfl (T1 := 21) rfl hl.1 rfl (Nat.le_of_ble_eq_true rfl) dL_law_447 ⟨Nat.le_of_ble_eq_true rfl, Nat.le_of_ble_eq_true rfl⟩ (fun y hy H locs hP hD hS => ?_)
  subst hz hy
  obtain ⟨e1, hR2⟩ := sim_then hR (xs (cl (nI (i + 1)))) (xs (cl (nI (i + 2)))) (xs (cl (nI (i + 3))))
  refine lv_icmp_eq (tgt := 997) hx hb dL_law_450 (by decide) (fun _ => ?_) (fun ce => absurd e1 ce)
  exact kk _ _ hR2 H locs hP hD hS
set_option maxHeartbeats 4000000 in
set_option maxRecDepth 100000 in
theorem law_when {p : Program} {l : Launch} {e : Env} {s : State} {m : MethodId} {below : List Frame} {meth : Method} {c : Code} {b L : Nat} {xs : Nat → Int32} {D : va_G} {E : Nat → ClassId} {K V : Nat → Nat} {fz : Nat} {Q : State → Prop} {a a2 : Nat → Nat} (hC0 : lw_C p s m c b L xs D E K V fz) (hL : L ≤ 384) {u : SX} {r : SM} (hR : RR u r) {i : Nat} (hi : i + 6 ≤ L) {H : Heap} {locs : List Loc} (hP : va_P D vwCl (wSX E a u ++ wSM E a2 r) H) (hD : va_D (fun q : Nat => s.heap.size ≤ q) (wSX E a u ++ wSM E a2 r)) (hS : va_S (fun q : Nat => s.heap.size ≤ q) s.heap H locs) {ls : Array Slot} (hl : lv_has ls 4 [(0, .ref b), (1, .ref (a 0)), (2, .ref (a2 0)), (3, .int (nI i))]) (kk : ∀ (u : SX) (r : SM), RR u r → ∀ (H : Heap) (locs : List Loc), va_P D vwCl (wSX E a u ++ wSM E a2 r) H → va_D (fun q : Nat => s.heap.size ≤ q) (wSX E a u ++ wSM E a2 r) → va_S (fun q : Nat => s.heap.size ≤ q) s.heap H locs → W p l e room_1 s m #[Value.ref b] below meth c H locs 38 1424 Q (F0 m 997 ls [])) : W p l e room_1 s m #[Value.ref b] below meth c H locs 38 1424 Q (F0 m 455 ls []) := by
  obtain ⟨hC, hE, hX, hbl⟩ := hC0
  have hx := hC.1
  have hb := hC.2.1
  have hA : ∀ q : Nat, s.heap.size ≤ q → (fun q : Nat => s.heap.size ≤ q) q := fun _ h => h
  have hbA : ¬ (fun q : Nat => s.heap.size ≤ q) b := Nat.not_le.mpr hbl
  refine lv_aload_n hx hb dL_law_455 rfl (lv_at hl 1 rfl) ?_
  refine lv_aload_n hx hb dL_law_456 rfl (lv_at hl 0 rfl) ?_
  refine lv_iload_n hx hb dL_law_457 rfl (lv_at hl 3 rfl) ?_
  refine lv_iconst (v := nI 1) hx hb dL_law_458 (by decide +kernel) ?_
  refine lv_iadd hx hb dL_law_459 ?_
  refine wl_re (show nI i + nI 1 = nI (i + 1) from nI_add i 1) ?_
  refine va_sld hx hb hX hbl hbA hS (vp_in_nI (show i + 1 < L by omega) (by omega)) dL_law_460 ?_
  refine wl_callVi hC (wl_LX (q_X_when hR)) lk_RL_61 rfl ⟨rfl, rfl, Nat.le_of_ble_eq_true rfl, Nat.le_of_ble_eq_true rfl⟩ hP hD hS hA 0 rfl (T1 := 11) rfl hl.1 rfl (Nat.le_of_ble_eq_true rfl) dL_law_461 ⟨Nat.le_of_ble_eq_true rfl, Nat.le_of_ble_eq_true rfl⟩ (fun z hz H locs hP hD hS => ?_)
  refine lv_aload_n hx hb dL_law_464 rfl (lv_at hl 2 rfl) ?_
  refine lv_aload_n hx hb dL_law_465 rfl (lv_at hl 0 rfl) ?_
  refine lv_iload_n hx hb dL_law_466 rfl (lv_at hl 3 rfl) ?_
  refine lv_iconst (v := nI 1) hx hb dL_law_467 (by decide +kernel) ?_
  refine lv_iadd hx hb dL_law_468 ?_
  refine wl_re (show nI i + nI 1 = nI (i + 1) from nI_add i 1) ?_
  refine va_sld hx hb hX hbl hbA hS (vp_in_nI (show i + 1 < L by omega) (by omega)) dL_law_469 ?_
  refine wl_callVi hC (wl_LM (q_M_when hR)) lk_RL_64 rfl ⟨rfl, rfl, Nat.le_of_ble_eq_true rfl, Nat.le_of_ble_eq_true rfl⟩ hP hD hS hA 26 rfl (T1 := 21) rfl hl.1 rfl (Nat.le_of_ble_eq_true rfl) dL_law_470 ⟨Nat.le_of_ble_eq_true rfl, Nat.le_of_ble_eq_true rfl⟩ (fun y hy H locs hP hD hS => ?_)
  subst hz hy
  obtain ⟨e1, hR2⟩ := sim_when hR (xs (cl (nI (i + 1))))
  refine lv_icmp_eq (tgt := 997) hx hb dL_law_473 (by decide) (fun _ => ?_) (fun ce => absurd e1 ce)
  exact kk _ _ hR2 H locs hP hD hS
set_option maxHeartbeats 4000000 in
set_option maxRecDepth 100000 in
theorem law_lack {p : Program} {l : Launch} {e : Env} {s : State} {m : MethodId} {below : List Frame} {meth : Method} {c : Code} {b L : Nat} {xs : Nat → Int32} {D : va_G} {E : Nat → ClassId} {K V : Nat → Nat} {fz : Nat} {Q : State → Prop} {a a2 : Nat → Nat} (hC0 : lw_C p s m c b L xs D E K V fz) (hL : L ≤ 384) {u : SX} {r : SM} (hR : RR u r) {i : Nat} (hi : i + 6 ≤ L) {H : Heap} {locs : List Loc} (hP : va_P D vwCl (wSX E a u ++ wSM E a2 r) H) (hD : va_D (fun q : Nat => s.heap.size ≤ q) (wSX E a u ++ wSM E a2 r)) (hS : va_S (fun q : Nat => s.heap.size ≤ q) s.heap H locs) {ls : Array Slot} (hl : lv_has ls 4 [(0, .ref b), (1, .ref (a 0)), (2, .ref (a2 0)), (3, .int (nI i))]) (kk : ∀ (u : SX) (r : SM), RR u r → ∀ (H : Heap) (locs : List Loc), va_P D vwCl (wSX E a u ++ wSM E a2 r) H → va_D (fun q : Nat => s.heap.size ≤ q) (wSX E a u ++ wSM E a2 r) → va_S (fun q : Nat => s.heap.size ≤ q) s.heap H locs → W p l e room_1 s m #[Value.ref b] below meth c H locs 38 1424 Q (F0 m 997 ls [])) : W p l e room_1 s m #[Value.ref b] below meth c H locs 38 1424 Q (F0 m 478 ls []) := by
  obtain ⟨hC, hE, hX, hbl⟩ := hC0
  have hx := hC.1
  have hb := hC.2.1
  have hA : ∀ q : Nat, s.heap.size ≤ q → (fun q : Nat => s.heap.size ≤ q) q := fun _ h => h
  have hbA : ¬ (fun q : Nat => s.heap.size ≤ q) b := Nat.not_le.mpr hbl
  refine lv_aload_n hx hb dL_law_478 rfl (lv_at hl 1 rfl) ?_
  refine wl_callVi hC (wl_LX (q_X_lack hR)) lk_RL_65 rfl ⟨rfl, rfl, Nat.le_of_ble_eq_true rfl, Nat.le_of_ble_eq_true rfl⟩ hP hD hS hA 0 rfl (T1 := 11) rfl hl.1 rfl (Nat.le_of_ble_eq_true rfl) dL_law_479 ⟨Nat.le_of_ble_eq_true rfl, Nat.le_of_ble_eq_true rfl⟩ (fun z hz H locs hP hD hS => ?_)
  refine lv_aload_n hx hb dL_law_482 rfl (lv_at hl 2 rfl) ?_
  refine wl_callVi hC (wl_LM (q_M_lack hR)) lk_RL_68 rfl ⟨rfl, rfl, Nat.le_of_ble_eq_true rfl, Nat.le_of_ble_eq_true rfl⟩ hP hD hS hA 26 rfl (T1 := 21) rfl hl.1 rfl (Nat.le_of_ble_eq_true rfl) dL_law_483 ⟨Nat.le_of_ble_eq_true rfl, Nat.le_of_ble_eq_true rfl⟩ (fun y hy H locs hP hD hS => ?_)
  subst hz hy
  obtain ⟨e1, hR2⟩ := sim_lack hR
  refine lv_icmp_eq (tgt := 997) hx hb dL_law_486 (by decide) (fun _ => ?_) (fun ce => absurd e1 ce)
  exact kk _ _ hR2 H locs hP hD hS
set_option maxHeartbeats 4000000 in
set_option maxRecDepth 100000 in
theorem law_comesTrue {p : Program} {l : Launch} {e : Env} {s : State} {m : MethodId} {below : List Frame} {meth : Method} {c : Code} {b L : Nat} {xs : Nat → Int32} {D : va_G} {E : Nat → ClassId} {K V : Nat → Nat} {fz : Nat} {Q : State → Prop} {a a2 : Nat → Nat} (hC0 : lw_C p s m c b L xs D E K V fz) (hL : L ≤ 384) {u : SX} {r : SM} (hR : RR u r) {i : Nat} (hi : i + 6 ≤ L) {H : Heap} {locs : List Loc} (hP : va_P D vwCl (wSX E a u ++ wSM E a2 r) H) (hD : va_D (fun q : Nat => s.heap.size ≤ q) (wSX E a u ++ wSM E a2 r)) (hS : va_S (fun q : Nat => s.heap.size ≤ q) s.heap H locs) {ls : Array Slot} (hl : lv_has ls 4 [(0, .ref b), (1, .ref (a 0)), (2, .ref (a2 0)), (3, .int (nI i))]) (kk : ∀ (u : SX) (r : SM), RR u r → ∀ (H : Heap) (locs : List Loc), va_P D vwCl (wSX E a u ++ wSM E a2 r) H → va_D (fun q : Nat => s.heap.size ≤ q) (wSX E a u ++ wSM E a2 r) → va_S (fun q : Nat => s.heap.size ≤ q) s.heap H locs → W p l e room_1 s m #[Value.ref b] below meth c H locs 38 1424 Q (F0 m 997 ls [])) : W p l e room_1 s m #[Value.ref b] below meth c H locs 38 1424 Q (F0 m 491 ls []) := by
  obtain ⟨hC, hE, hX, hbl⟩ := hC0
  have hx := hC.1
  have hb := hC.2.1
  have hA : ∀ q : Nat, s.heap.size ≤ q → (fun q : Nat => s.heap.size ≤ q) q := fun _ h => h
  have hbA : ¬ (fun q : Nat => s.heap.size ≤ q) b := Nat.not_le.mpr hbl
  refine lv_aload_n hx hb dL_law_491 rfl (lv_at hl 1 rfl) ?_
  refine lv_aload_n hx hb dL_law_492 rfl (lv_at hl 0 rfl) ?_
  refine lv_iload_n hx hb dL_law_493 rfl (lv_at hl 3 rfl) ?_
  refine lv_iconst (v := nI 1) hx hb dL_law_494 (by decide +kernel) ?_
  refine lv_iadd hx hb dL_law_495 ?_
  refine wl_re (show nI i + nI 1 = nI (i + 1) from nI_add i 1) ?_
  refine va_sld hx hb hX hbl hbA hS (vp_in_nI (show i + 1 < L by omega) (by omega)) dL_law_496 ?_
  refine lv_aload_n hx hb dL_law_497 rfl (lv_at hl 0 rfl) ?_
  refine lv_iload_n hx hb dL_law_498 rfl (lv_at hl 3 rfl) ?_
  refine lv_iconst (v := nI 2) hx hb dL_law_499 (by decide +kernel) ?_
  refine lv_iadd hx hb dL_law_500 ?_
  refine wl_re (show nI i + nI 2 = nI (i + 2) from nI_add i 2) ?_
  refine va_sld hx hb hX hbl hbA hS (vp_in_nI (show i + 2 < L by omega) (by omega)) dL_law_501 ?_
  refine wl_callVi hC (wl_LX (q_X_comesTrue hR)) lk_RL_69 rfl ⟨rfl, rfl, Nat.le_of_ble_eq_true rfl, Nat.le_of_ble_eq_true rfl⟩ hP hD hS hA 0 rfl (T1 := 11) rfl hl.1 rfl (Nat.le_of_ble_eq_true rfl) dL_law_502 ⟨Nat.le_of_ble_eq_true rfl, Nat.le_of_ble_eq_true rfl⟩ (fun z hz H locs hP hD hS => ?_)
  refine lv_aload_n hx hb dL_law_505 rfl (lv_at hl 2 rfl) ?_
  refine lv_aload_n hx hb dL_law_506 rfl (lv_at hl 0 rfl) ?_
  refine lv_iload_n hx hb dL_law_507 rfl (lv_at hl 3 rfl) ?_
  refine lv_iconst (v := nI 1) hx hb dL_law_508 (by decide +kernel) ?_
  refine lv_iadd hx hb dL_law_509 ?_
  refine wl_re (show nI i + nI 1 = nI (i + 1) from nI_add i 1) ?_
  refine va_sld hx hb hX hbl hbA hS (vp_in_nI (show i + 1 < L by omega) (by omega)) dL_law_510 ?_
  refine lv_aload_n hx hb dL_law_511 rfl (lv_at hl 0 rfl) ?_
  refine lv_iload_n hx hb dL_law_512 rfl (lv_at hl 3 rfl) ?_
  refine lv_iconst (v := nI 2) hx hb dL_law_513 (by decide +kernel) ?_
  refine lv_iadd hx hb dL_law_514 ?_
  refine wl_re (show nI i + nI 2 = nI (i + 2) from nI_add i 2) ?_
  refine va_sld hx hb hX hbl hbA hS (vp_in_nI (show i + 2 < L by omega) (by omega)) dL_law_515 ?_
  refine wl_callVi hC (wl_LM (q_M_comesTrue hR)) lk_RL_72 rfl ⟨rfl, rfl, Nat.le_of_ble_eq_true rfl, Nat.le_of_ble_eq_true rfl⟩ hP hD hS hA 26 rfl (T1 := 21) rfl hl.1 rfl (Nat.le_of_ble_eq_true rfl) dL_law_516 ⟨Nat.le_of_ble_eq_true rfl, Nat.le_of_ble_eq_true rfl⟩ (fun y hy H locs hP hD hS => ?_)
  subst hz hy
  obtain ⟨e1, hR2⟩ := sim_comesTrue hR (xs (cl (nI (i + 1)))) (xs (cl (nI (i + 2))))
  refine lv_icmp_eq (tgt := 997) hx hb dL_law_519 (by decide) (fun _ => ?_) (fun ce => absurd e1 ce)
  exact kk _ _ hR2 H locs hP hD hS
set_option maxHeartbeats 4000000 in
set_option maxRecDepth 100000 in
theorem law_readings {p : Program} {l : Launch} {e : Env} {s : State} {m : MethodId} {below : List Frame} {meth : Method} {c : Code} {b L : Nat} {xs : Nat → Int32} {D : va_G} {E : Nat → ClassId} {K V : Nat → Nat} {fz : Nat} {Q : State → Prop} {a a2 : Nat → Nat} (hC0 : lw_C p s m c b L xs D E K V fz) (hL : L ≤ 384) {u : SX} {r : SM} (hR : RR u r) {i : Nat} (hi : i + 6 ≤ L) {H : Heap} {locs : List Loc} (hP : va_P D vwCl (wSX E a u ++ wSM E a2 r) H) (hD : va_D (fun q : Nat => s.heap.size ≤ q) (wSX E a u ++ wSM E a2 r)) (hS : va_S (fun q : Nat => s.heap.size ≤ q) s.heap H locs) {ls : Array Slot} (hl : lv_has ls 4 [(0, .ref b), (1, .ref (a 0)), (2, .ref (a2 0)), (3, .int (nI i))]) (kk : ∀ (u : SX) (r : SM), RR u r → ∀ (H : Heap) (locs : List Loc), va_P D vwCl (wSX E a u ++ wSM E a2 r) H → va_D (fun q : Nat => s.heap.size ≤ q) (wSX E a u ++ wSM E a2 r) → va_S (fun q : Nat => s.heap.size ≤ q) s.heap H locs → W p l e room_1 s m #[Value.ref b] below meth c H locs 38 1424 Q (F0 m 997 ls [])) : W p l e room_1 s m #[Value.ref b] below meth c H locs 38 1424 Q (F0 m 524 ls []) := by
  obtain ⟨hC, hE, hX, hbl⟩ := hC0
  have hx := hC.1
  have hb := hC.2.1
  have hA : ∀ q : Nat, s.heap.size ≤ q → (fun q : Nat => s.heap.size ≤ q) q := fun _ h => h
  have hbA : ¬ (fun q : Nat => s.heap.size ≤ q) b := Nat.not_le.mpr hbl
  refine lv_aload_n hx hb dL_law_524 rfl (lv_at hl 1 rfl) ?_
  refine wl_callVi hC (wl_LX (q_X_readings hR)) lk_RL_73 rfl ⟨rfl, rfl, Nat.le_of_ble_eq_true rfl, Nat.le_of_ble_eq_true rfl⟩ hP hD hS hA 0 rfl (T1 := 11) rfl hl.1 rfl (Nat.le_of_ble_eq_true rfl) dL_law_525 ⟨Nat.le_of_ble_eq_true rfl, Nat.le_of_ble_eq_true rfl⟩ (fun z hz H locs hP hD hS => ?_)
  refine lv_aload_n hx hb dL_law_528 rfl (lv_at hl 2 rfl) ?_
  refine wl_callVi hC (wl_LM (q_M_readings hR)) lk_RL_76 rfl ⟨rfl, rfl, Nat.le_of_ble_eq_true rfl, Nat.le_of_ble_eq_true rfl⟩ hP hD hS hA 26 rfl (T1 := 21) rfl hl.1 rfl (Nat.le_of_ble_eq_true rfl) dL_law_529 ⟨Nat.le_of_ble_eq_true rfl, Nat.le_of_ble_eq_true rfl⟩ (fun y hy H locs hP hD hS => ?_)
  subst hz hy
  obtain ⟨e1, hR2⟩ := sim_readings hR
  refine lv_icmp_eq (tgt := 997) hx hb dL_law_532 (by decide) (fun _ => ?_) (fun ce => absurd e1 ce)
  exact kk _ _ hR2 H locs hP hD hS
set_option maxHeartbeats 4000000 in
set_option maxRecDepth 100000 in
theorem law_roster {p : Program} {l : Launch} {e : Env} {s : State} {m : MethodId} {below : List Frame} {meth : Method} {c : Code} {b L : Nat} {xs : Nat → Int32} {D : va_G} {E : Nat → ClassId} {K V : Nat → Nat} {fz : Nat} {Q : State → Prop} {a a2 : Nat → Nat} (hC0 : lw_C p s m c b L xs D E K V fz) (hL : L ≤ 384) {u : SX} {r : SM} (hR : RR u r) {i : Nat} (hi : i + 6 ≤ L) {H : Heap} {locs : List Loc} (hP : va_P D vwCl (wSX E a u ++ wSM E a2 r) H) (hD : va_D (fun q : Nat => s.heap.size ≤ q) (wSX E a u ++ wSM E a2 r)) (hS : va_S (fun q : Nat => s.heap.size ≤ q) s.heap H locs) {ls : Array Slot} (hl : lv_has ls 4 [(0, .ref b), (1, .ref (a 0)), (2, .ref (a2 0)), (3, .int (nI i))]) (kk : ∀ (u : SX) (r : SM), RR u r → ∀ (H : Heap) (locs : List Loc), va_P D vwCl (wSX E a u ++ wSM E a2 r) H → va_D (fun q : Nat => s.heap.size ≤ q) (wSX E a u ++ wSM E a2 r) → va_S (fun q : Nat => s.heap.size ≤ q) s.heap H locs → W p l e room_1 s m #[Value.ref b] below meth c H locs 38 1424 Q (F0 m 997 ls [])) : W p l e room_1 s m #[Value.ref b] below meth c H locs 38 1424 Q (F0 m 537 ls []) := by
  obtain ⟨hC, hE, hX, hbl⟩ := hC0
  have hx := hC.1
  have hb := hC.2.1
  have hA : ∀ q : Nat, s.heap.size ≤ q → (fun q : Nat => s.heap.size ≤ q) q := fun _ h => h
  have hbA : ¬ (fun q : Nat => s.heap.size ≤ q) b := Nat.not_le.mpr hbl
  refine lv_aload_n hx hb dL_law_537 rfl (lv_at hl 1 rfl) ?_
  refine lv_aload_n hx hb dL_law_538 rfl (lv_at hl 0 rfl) ?_
  refine lv_iload_n hx hb dL_law_539 rfl (lv_at hl 3 rfl) ?_
  refine lv_iconst (v := nI 1) hx hb dL_law_540 (by decide +kernel) ?_
  refine lv_iadd hx hb dL_law_541 ?_
  refine wl_re (show nI i + nI 1 = nI (i + 1) from nI_add i 1) ?_
  refine va_sld hx hb hX hbl hbA hS (vp_in_nI (show i + 1 < L by omega) (by omega)) dL_law_542 ?_
  refine lv_aload_n hx hb dL_law_543 rfl (lv_at hl 0 rfl) ?_
  refine lv_iload_n hx hb dL_law_544 rfl (lv_at hl 3 rfl) ?_
  refine lv_iconst (v := nI 2) hx hb dL_law_545 (by decide +kernel) ?_
  refine lv_iadd hx hb dL_law_546 ?_
  refine wl_re (show nI i + nI 2 = nI (i + 2) from nI_add i 2) ?_
  refine va_sld hx hb hX hbl hbA hS (vp_in_nI (show i + 2 < L by omega) (by omega)) dL_law_547 ?_
  refine wl_callVi hC (wl_LX (q_X_roster hR)) lk_RL_77 rfl ⟨rfl, rfl, Nat.le_of_ble_eq_true rfl, Nat.le_of_ble_eq_true rfl⟩ hP hD hS hA 0 rfl (T1 := 11) rfl hl.1 rfl (Nat.le_of_ble_eq_true rfl) dL_law_548 ⟨Nat.le_of_ble_eq_true rfl, Nat.le_of_ble_eq_true rfl⟩ (fun z hz H locs hP hD hS => ?_)
  refine lv_aload_n hx hb dL_law_551 rfl (lv_at hl 2 rfl) ?_
  refine lv_aload_n hx hb dL_law_552 rfl (lv_at hl 0 rfl) ?_
  refine lv_iload_n hx hb dL_law_553 rfl (lv_at hl 3 rfl) ?_
  refine lv_iconst (v := nI 1) hx hb dL_law_554 (by decide +kernel) ?_
  refine lv_iadd hx hb dL_law_555 ?_
  refine wl_re (show nI i + nI 1 = nI (i + 1) from nI_add i 1) ?_
  refine va_sld hx hb hX hbl hbA hS (vp_in_nI (show i + 1 < L by omega) (by omega)) dL_law_556 ?_
  refine lv_aload_n hx hb dL_law_557 rfl (lv_at hl 0 rfl) ?_
  refine lv_iload_n hx hb dL_law_558 rfl (lv_at hl 3 rfl) ?_
  refine lv_iconst (v := nI 2) hx hb dL_law_559 (by decide +kernel) ?_
  refine lv_iadd hx hb dL_law_560 ?_
  refine wl_re (show nI i + nI 2 = nI (i + 2) from nI_add i 2) ?_
  refine va_sld hx hb hX hbl hbA hS (vp_in_nI (show i + 2 < L by omega) (by omega)) dL_law_561 ?_
  refine wl_callVi hC (wl_LM (q_M_roster hR)) lk_RL_80 rfl ⟨rfl, rfl, Nat.le_of_ble_eq_true rfl, Nat.le_of_ble_eq_true rfl⟩ hP hD hS hA 26 rfl (T1 := 21) rfl hl.1 rfl (Nat.le_of_ble_eq_true rfl) dL_law_562 ⟨Nat.le_of_ble_eq_true rfl, Nat.le_of_ble_eq_true rfl⟩ (fun y hy H locs hP hD hS => ?_)
  subst hz hy
  obtain ⟨e1, hR2⟩ := sim_roster hR (xs (cl (nI (i + 1)))) (xs (cl (nI (i + 2))))
  refine lv_icmp_eq (tgt := 997) hx hb dL_law_565 (by decide) (fun _ => ?_) (fun ce => absurd e1 ce)
  exact kk _ _ hR2 H locs hP hD hS
set_option maxHeartbeats 4000000 in
set_option maxRecDepth 100000 in
theorem law_off {p : Program} {l : Launch} {e : Env} {s : State} {m : MethodId} {below : List Frame} {meth : Method} {c : Code} {b L : Nat} {xs : Nat → Int32} {D : va_G} {E : Nat → ClassId} {K V : Nat → Nat} {fz : Nat} {Q : State → Prop} {a a2 : Nat → Nat} (hC0 : lw_C p s m c b L xs D E K V fz) (hL : L ≤ 384) {u : SX} {r : SM} (hR : RR u r) {i : Nat} (hi : i + 6 ≤ L) {H : Heap} {locs : List Loc} (hP : va_P D vwCl (wSX E a u ++ wSM E a2 r) H) (hD : va_D (fun q : Nat => s.heap.size ≤ q) (wSX E a u ++ wSM E a2 r)) (hS : va_S (fun q : Nat => s.heap.size ≤ q) s.heap H locs) {ls : Array Slot} (hl : lv_has ls 4 [(0, .ref b), (1, .ref (a 0)), (2, .ref (a2 0)), (3, .int (nI i))]) (kk : ∀ (u : SX) (r : SM), RR u r → ∀ (H : Heap) (locs : List Loc), va_P D vwCl (wSX E a u ++ wSM E a2 r) H → va_D (fun q : Nat => s.heap.size ≤ q) (wSX E a u ++ wSM E a2 r) → va_S (fun q : Nat => s.heap.size ≤ q) s.heap H locs → W p l e room_1 s m #[Value.ref b] below meth c H locs 38 1424 Q (F0 m 997 ls [])) : W p l e room_1 s m #[Value.ref b] below meth c H locs 38 1424 Q (F0 m 570 ls []) := by
  obtain ⟨hC, hE, hX, hbl⟩ := hC0
  have hx := hC.1
  have hb := hC.2.1
  have hA : ∀ q : Nat, s.heap.size ≤ q → (fun q : Nat => s.heap.size ≤ q) q := fun _ h => h
  have hbA : ¬ (fun q : Nat => s.heap.size ≤ q) b := Nat.not_le.mpr hbl
  refine lv_aload_n hx hb dL_law_570 rfl (lv_at hl 1 rfl) ?_
  refine lv_aload_n hx hb dL_law_571 rfl (lv_at hl 0 rfl) ?_
  refine lv_iload_n hx hb dL_law_572 rfl (lv_at hl 3 rfl) ?_
  refine lv_iconst (v := nI 1) hx hb dL_law_573 (by decide +kernel) ?_
  refine lv_iadd hx hb dL_law_574 ?_
  refine wl_re (show nI i + nI 1 = nI (i + 1) from nI_add i 1) ?_
  refine va_sld hx hb hX hbl hbA hS (vp_in_nI (show i + 1 < L by omega) (by omega)) dL_law_575 ?_
  refine lv_aload_n hx hb dL_law_576 rfl (lv_at hl 0 rfl) ?_
  refine lv_iload_n hx hb dL_law_577 rfl (lv_at hl 3 rfl) ?_
  refine lv_iconst (v := nI 2) hx hb dL_law_578 (by decide +kernel) ?_
  refine lv_iadd hx hb dL_law_579 ?_
  refine wl_re (show nI i + nI 2 = nI (i + 2) from nI_add i 2) ?_
  refine va_sld hx hb hX hbl hbA hS (vp_in_nI (show i + 2 < L by omega) (by omega)) dL_law_580 ?_
  refine lv_aload_n hx hb dL_law_581 rfl (lv_at hl 0 rfl) ?_
  refine lv_iload_n hx hb dL_law_582 rfl (lv_at hl 3 rfl) ?_
  refine lv_iconst (v := nI 3) hx hb dL_law_583 (by decide +kernel) ?_
  refine lv_iadd hx hb dL_law_584 ?_
  refine wl_re (show nI i + nI 3 = nI (i + 3) from nI_add i 3) ?_
  refine va_sld hx hb hX hbl hbA hS (vp_in_nI (show i + 3 < L by omega) (by omega)) dL_law_585 ?_
  refine wl_callVi hC (wl_LX (q_X_off hR)) lk_RL_81 rfl ⟨rfl, rfl, Nat.le_of_ble_eq_true rfl, Nat.le_of_ble_eq_true rfl⟩ hP hD hS hA 0 rfl (T1 := 11) rfl hl.1 rfl (Nat.le_of_ble_eq_true rfl) dL_law_586 ⟨Nat.le_of_ble_eq_true rfl, Nat.le_of_ble_eq_true rfl⟩ (fun z hz H locs hP hD hS => ?_)
  refine lv_aload_n hx hb dL_law_589 rfl (lv_at hl 2 rfl) ?_
  refine lv_aload_n hx hb dL_law_590 rfl (lv_at hl 0 rfl) ?_
  refine lv_iload_n hx hb dL_law_591 rfl (lv_at hl 3 rfl) ?_
  refine lv_iconst (v := nI 1) hx hb dL_law_592 (by decide +kernel) ?_
  refine lv_iadd hx hb dL_law_593 ?_
  refine wl_re (show nI i + nI 1 = nI (i + 1) from nI_add i 1) ?_
  refine va_sld hx hb hX hbl hbA hS (vp_in_nI (show i + 1 < L by omega) (by omega)) dL_law_594 ?_
  refine lv_aload_n hx hb dL_law_595 rfl (lv_at hl 0 rfl) ?_
  refine lv_iload_n hx hb dL_law_596 rfl (lv_at hl 3 rfl) ?_
  refine lv_iconst (v := nI 2) hx hb dL_law_597 (by decide +kernel) ?_
  refine lv_iadd hx hb dL_law_598 ?_
  refine wl_re (show nI i + nI 2 = nI (i + 2) from nI_add i 2) ?_
  refine va_sld hx hb hX hbl hbA hS (vp_in_nI (show i + 2 < L by omega) (by omega)) dL_law_599 ?_
  refine lv_aload_n hx hb dL_law_600 rfl (lv_at hl 0 rfl) ?_
  refine lv_iload_n hx hb dL_law_601 rfl (lv_at hl 3 rfl) ?_
  refine lv_iconst (v := nI 3) hx hb dL_law_602 (by decide +kernel) ?_
  refine lv_iadd hx hb dL_law_603 ?_
  refine wl_re (show nI i + nI 3 = nI (i + 3) from nI_add i 3) ?_
  refine va_sld hx hb hX hbl hbA hS (vp_in_nI (show i + 3 < L by omega) (by omega)) dL_law_604 ?_
  refine wl_callVi hC (wl_LM (q_M_off hR)) lk_RL_84 rfl ⟨rfl, rfl, Nat.le_of_ble_eq_true rfl, Nat.le_of_ble_eq_true rfl⟩ hP hD hS hA 26 rfl (T1 := 21) rfl hl.1 rfl (Nat.le_of_ble_eq_true rfl) dL_law_605 ⟨Nat.le_of_ble_eq_true rfl, Nat.le_of_ble_eq_true rfl⟩ (fun y hy H locs hP hD hS => ?_)
  subst hz hy
  obtain ⟨e1, hR2⟩ := sim_off hR (xs (cl (nI (i + 1)))) (xs (cl (nI (i + 2)))) (xs (cl (nI (i + 3))))
  refine lv_icmp_eq (tgt := 997) hx hb dL_law_608 (by decide) (fun _ => ?_) (fun ce => absurd e1 ce)
  exact kk _ _ hR2 H locs hP hD hS
set_option maxHeartbeats 4000000 in
set_option maxRecDepth 100000 in
theorem law_rests {p : Program} {l : Launch} {e : Env} {s : State} {m : MethodId} {below : List Frame} {meth : Method} {c : Code} {b L : Nat} {xs : Nat → Int32} {D : va_G} {E : Nat → ClassId} {K V : Nat → Nat} {fz : Nat} {Q : State → Prop} {a a2 : Nat → Nat} (hC0 : lw_C p s m c b L xs D E K V fz) (hL : L ≤ 384) {u : SX} {r : SM} (hR : RR u r) {i : Nat} (hi : i + 6 ≤ L) {H : Heap} {locs : List Loc} (hP : va_P D vwCl (wSX E a u ++ wSM E a2 r) H) (hD : va_D (fun q : Nat => s.heap.size ≤ q) (wSX E a u ++ wSM E a2 r)) (hS : va_S (fun q : Nat => s.heap.size ≤ q) s.heap H locs) {ls : Array Slot} (hl : lv_has ls 4 [(0, .ref b), (1, .ref (a 0)), (2, .ref (a2 0)), (3, .int (nI i))]) (kk : ∀ (u : SX) (r : SM), RR u r → ∀ (H : Heap) (locs : List Loc), va_P D vwCl (wSX E a u ++ wSM E a2 r) H → va_D (fun q : Nat => s.heap.size ≤ q) (wSX E a u ++ wSM E a2 r) → va_S (fun q : Nat => s.heap.size ≤ q) s.heap H locs → W p l e room_1 s m #[Value.ref b] below meth c H locs 38 1424 Q (F0 m 997 ls [])) : W p l e room_1 s m #[Value.ref b] below meth c H locs 38 1424 Q (F0 m 613 ls []) := by
  obtain ⟨hC, hE, hX, hbl⟩ := hC0
  have hx := hC.1
  have hb := hC.2.1
  have hA : ∀ q : Nat, s.heap.size ≤ q → (fun q : Nat => s.heap.size ≤ q) q := fun _ h => h
  have hbA : ¬ (fun q : Nat => s.heap.size ≤ q) b := Nat.not_le.mpr hbl
  refine lv_aload_n hx hb dL_law_613 rfl (lv_at hl 1 rfl) ?_
  refine lv_aload_n hx hb dL_law_614 rfl (lv_at hl 0 rfl) ?_
  refine lv_iload_n hx hb dL_law_615 rfl (lv_at hl 3 rfl) ?_
  refine lv_iconst (v := nI 1) hx hb dL_law_616 (by decide +kernel) ?_
  refine lv_iadd hx hb dL_law_617 ?_
  refine wl_re (show nI i + nI 1 = nI (i + 1) from nI_add i 1) ?_
  refine va_sld hx hb hX hbl hbA hS (vp_in_nI (show i + 1 < L by omega) (by omega)) dL_law_618 ?_
  refine wl_callVi hC (wl_LX (q_X_rests hR)) lk_RL_85 rfl ⟨rfl, rfl, Nat.le_of_ble_eq_true rfl, Nat.le_of_ble_eq_true rfl⟩ hP hD hS hA 0 rfl (T1 := 11) rfl hl.1 rfl (Nat.le_of_ble_eq_true rfl) dL_law_619 ⟨Nat.le_of_ble_eq_true rfl, Nat.le_of_ble_eq_true rfl⟩ (fun z hz H locs hP hD hS => ?_)
  refine lv_aload_n hx hb dL_law_622 rfl (lv_at hl 2 rfl) ?_
  refine lv_aload_n hx hb dL_law_623 rfl (lv_at hl 0 rfl) ?_
  refine lv_iload_n hx hb dL_law_624 rfl (lv_at hl 3 rfl) ?_
  refine lv_iconst (v := nI 1) hx hb dL_law_625 (by decide +kernel) ?_
  refine lv_iadd hx hb dL_law_626 ?_
  refine wl_re (show nI i + nI 1 = nI (i + 1) from nI_add i 1) ?_
  refine va_sld hx hb hX hbl hbA hS (vp_in_nI (show i + 1 < L by omega) (by omega)) dL_law_627 ?_
  refine wl_callVi hC (wl_LM (q_M_rests hR)) lk_RL_88 rfl ⟨rfl, rfl, Nat.le_of_ble_eq_true rfl, Nat.le_of_ble_eq_true rfl⟩ hP hD hS hA 26 rfl (T1 := 21) rfl hl.1 rfl (Nat.le_of_ble_eq_true rfl) dL_law_628 ⟨Nat.le_of_ble_eq_true rfl, Nat.le_of_ble_eq_true rfl⟩ (fun y hy H locs hP hD hS => ?_)
  subst hz hy
  obtain ⟨e1, hR2⟩ := sim_rests hR (xs (cl (nI (i + 1))))
  refine lv_icmp_eq (tgt := 997) hx hb dL_law_631 (by decide) (fun _ => ?_) (fun ce => absurd e1 ce)
  exact kk _ _ hR2 H locs hP hD hS
set_option maxHeartbeats 4000000 in
set_option maxRecDepth 100000 in
theorem law_note {p : Program} {l : Launch} {e : Env} {s : State} {m : MethodId} {below : List Frame} {meth : Method} {c : Code} {b L : Nat} {xs : Nat → Int32} {D : va_G} {E : Nat → ClassId} {K V : Nat → Nat} {fz : Nat} {Q : State → Prop} {a a2 : Nat → Nat} (hC0 : lw_C p s m c b L xs D E K V fz) (hL : L ≤ 384) {u : SX} {r : SM} (hR : RR u r) {i : Nat} (hi : i + 6 ≤ L) {H : Heap} {locs : List Loc} (hP : va_P D vwCl (wSX E a u ++ wSM E a2 r) H) (hD : va_D (fun q : Nat => s.heap.size ≤ q) (wSX E a u ++ wSM E a2 r)) (hS : va_S (fun q : Nat => s.heap.size ≤ q) s.heap H locs) {ls : Array Slot} (hl : lv_has ls 4 [(0, .ref b), (1, .ref (a 0)), (2, .ref (a2 0)), (3, .int (nI i))]) (kk : ∀ (u : SX) (r : SM), RR u r → ∀ (H : Heap) (locs : List Loc), va_P D vwCl (wSX E a u ++ wSM E a2 r) H → va_D (fun q : Nat => s.heap.size ≤ q) (wSX E a u ++ wSM E a2 r) → va_S (fun q : Nat => s.heap.size ≤ q) s.heap H locs → W p l e room_1 s m #[Value.ref b] below meth c H locs 38 1424 Q (F0 m 997 ls [])) : W p l e room_1 s m #[Value.ref b] below meth c H locs 38 1424 Q (F0 m 636 ls []) := by
  obtain ⟨hC, hE, hX, hbl⟩ := hC0
  have hx := hC.1
  have hb := hC.2.1
  have hA : ∀ q : Nat, s.heap.size ≤ q → (fun q : Nat => s.heap.size ≤ q) q := fun _ h => h
  have hbA : ¬ (fun q : Nat => s.heap.size ≤ q) b := Nat.not_le.mpr hbl
  refine lv_aload_n hx hb dL_law_636 rfl (lv_at hl 1 rfl) ?_
  refine lv_aload_n hx hb dL_law_637 rfl (lv_at hl 0 rfl) ?_
  refine lv_iload_n hx hb dL_law_638 rfl (lv_at hl 3 rfl) ?_
  refine lv_iconst (v := nI 1) hx hb dL_law_639 (by decide +kernel) ?_
  refine lv_iadd hx hb dL_law_640 ?_
  refine wl_re (show nI i + nI 1 = nI (i + 1) from nI_add i 1) ?_
  refine va_sld hx hb hX hbl hbA hS (vp_in_nI (show i + 1 < L by omega) (by omega)) dL_law_641 ?_
  refine lv_aload_n hx hb dL_law_642 rfl (lv_at hl 0 rfl) ?_
  refine lv_iload_n hx hb dL_law_643 rfl (lv_at hl 3 rfl) ?_
  refine lv_iconst (v := nI 2) hx hb dL_law_644 (by decide +kernel) ?_
  refine lv_iadd hx hb dL_law_645 ?_
  refine wl_re (show nI i + nI 2 = nI (i + 2) from nI_add i 2) ?_
  refine va_sld hx hb hX hbl hbA hS (vp_in_nI (show i + 2 < L by omega) (by omega)) dL_law_646 ?_
  refine lv_aload_n hx hb dL_law_647 rfl (lv_at hl 0 rfl) ?_
  refine lv_iload_n hx hb dL_law_648 rfl (lv_at hl 3 rfl) ?_
  refine lv_iconst (v := nI 3) hx hb dL_law_649 (by decide +kernel) ?_
  refine lv_iadd hx hb dL_law_650 ?_
  refine wl_re (show nI i + nI 3 = nI (i + 3) from nI_add i 3) ?_
  refine va_sld hx hb hX hbl hbA hS (vp_in_nI (show i + 3 < L by omega) (by omega)) dL_law_651 ?_
  refine lv_aload_n hx hb dL_law_652 rfl (lv_at hl 0 rfl) ?_
  refine lv_iload_n hx hb dL_law_653 rfl (lv_at hl 3 rfl) ?_
  refine lv_iconst (v := nI 4) hx hb dL_law_654 (by decide +kernel) ?_
  refine lv_iadd hx hb dL_law_655 ?_
  refine wl_re (show nI i + nI 4 = nI (i + 4) from nI_add i 4) ?_
  refine va_sld hx hb hX hbl hbA hS (vp_in_nI (show i + 4 < L by omega) (by omega)) dL_law_656 ?_
  refine lv_aload_n hx hb dL_law_657 rfl (lv_at hl 0 rfl) ?_
  refine lv_iload_n hx hb dL_law_658 rfl (lv_at hl 3 rfl) ?_
  refine lv_iconst (v := nI 5) hx hb dL_law_659 (by decide +kernel) ?_
  refine lv_iadd hx hb dL_law_660 ?_
  refine wl_re (show nI i + nI 5 = nI (i + 5) from nI_add i 5) ?_
  refine va_sld hx hb hX hbl hbA hS (vp_in_nI (show i + 5 < L by omega) (by omega)) dL_law_661 ?_
  refine wl_callVi hC (wl_LX (q_X_note hR)) lk_RL_89 rfl ⟨rfl, rfl, Nat.le_of_ble_eq_true rfl, Nat.le_of_ble_eq_true rfl⟩ hP hD hS hA 0 rfl (T1 := 11) rfl hl.1 rfl (Nat.le_of_ble_eq_true rfl) dL_law_662 ⟨Nat.le_of_ble_eq_true rfl, Nat.le_of_ble_eq_true rfl⟩ (fun z hz H locs hP hD hS => ?_)
  refine lv_aload_n hx hb dL_law_665 rfl (lv_at hl 2 rfl) ?_
  refine lv_aload_n hx hb dL_law_666 rfl (lv_at hl 0 rfl) ?_
  refine lv_iload_n hx hb dL_law_667 rfl (lv_at hl 3 rfl) ?_
  refine lv_iconst (v := nI 1) hx hb dL_law_668 (by decide +kernel) ?_
  refine lv_iadd hx hb dL_law_669 ?_
  refine wl_re (show nI i + nI 1 = nI (i + 1) from nI_add i 1) ?_
  refine va_sld hx hb hX hbl hbA hS (vp_in_nI (show i + 1 < L by omega) (by omega)) dL_law_670 ?_
  refine lv_aload_n hx hb dL_law_671 rfl (lv_at hl 0 rfl) ?_
  refine lv_iload_n hx hb dL_law_672 rfl (lv_at hl 3 rfl) ?_
  refine lv_iconst (v := nI 2) hx hb dL_law_673 (by decide +kernel) ?_
  refine lv_iadd hx hb dL_law_674 ?_
  refine wl_re (show nI i + nI 2 = nI (i + 2) from nI_add i 2) ?_
  refine va_sld hx hb hX hbl hbA hS (vp_in_nI (show i + 2 < L by omega) (by omega)) dL_law_675 ?_
  refine lv_aload_n hx hb dL_law_676 rfl (lv_at hl 0 rfl) ?_
  refine lv_iload_n hx hb dL_law_677 rfl (lv_at hl 3 rfl) ?_
  refine lv_iconst (v := nI 3) hx hb dL_law_678 (by decide +kernel) ?_
  refine lv_iadd hx hb dL_law_679 ?_
  refine wl_re (show nI i + nI 3 = nI (i + 3) from nI_add i 3) ?_
  refine va_sld hx hb hX hbl hbA hS (vp_in_nI (show i + 3 < L by omega) (by omega)) dL_law_680 ?_
  refine lv_aload_n hx hb dL_law_681 rfl (lv_at hl 0 rfl) ?_
  refine lv_iload_n hx hb dL_law_682 rfl (lv_at hl 3 rfl) ?_
  refine lv_iconst (v := nI 4) hx hb dL_law_683 (by decide +kernel) ?_
  refine lv_iadd hx hb dL_law_684 ?_
  refine wl_re (show nI i + nI 4 = nI (i + 4) from nI_add i 4) ?_
  refine va_sld hx hb hX hbl hbA hS (vp_in_nI (show i + 4 < L by omega) (by omega)) dL_law_685 ?_
  refine lv_aload_n hx hb dL_law_686 rfl (lv_at hl 0 rfl) ?_
  refine lv_iload_n hx hb dL_law_687 rfl (lv_at hl 3 rfl) ?_
  refine lv_iconst (v := nI 5) hx hb dL_law_688 (by decide +kernel) ?_
  refine lv_iadd hx hb dL_law_689 ?_
  refine wl_re (show nI i + nI 5 = nI (i + 5) from nI_add i 5) ?_
  refine va_sld hx hb hX hbl hbA hS (vp_in_nI (show i + 5 < L by omega) (by omega)) dL_law_690 ?_
  refine wl_callVi hC (wl_LM (q_M_note hR)) lk_RL_93 rfl ⟨rfl, rfl, Nat.le_of_ble_eq_true rfl, Nat.le_of_ble_eq_true rfl⟩ hP hD hS hA 26 rfl (T1 := 21) rfl hl.1 rfl (Nat.le_of_ble_eq_true rfl) dL_law_691 ⟨Nat.le_of_ble_eq_true rfl, Nat.le_of_ble_eq_true rfl⟩ (fun y hy H locs hP hD hS => ?_)
  subst hz hy
  obtain ⟨e1, hR2⟩ := sim_note hR (xs (cl (nI (i + 1)))) (xs (cl (nI (i + 2)))) (xs (cl (nI (i + 3)))) (xs (cl (nI (i + 4)))) (xs (cl (nI (i + 5))))
  refine lv_icmp_eq (tgt := 997) hx hb dL_law_694 (by decide) (fun _ => ?_) (fun ce => absurd e1 ce)
  exact kk _ _ hR2 H locs hP hD hS
set_option maxHeartbeats 4000000 in
set_option maxRecDepth 100000 in
theorem law_forget {p : Program} {l : Launch} {e : Env} {s : State} {m : MethodId} {below : List Frame} {meth : Method} {c : Code} {b L : Nat} {xs : Nat → Int32} {D : va_G} {E : Nat → ClassId} {K V : Nat → Nat} {fz : Nat} {Q : State → Prop} {a a2 : Nat → Nat} (hC0 : lw_C p s m c b L xs D E K V fz) (hL : L ≤ 384) {u : SX} {r : SM} (hR : RR u r) {i : Nat} (hi : i + 6 ≤ L) {H : Heap} {locs : List Loc} (hP : va_P D vwCl (wSX E a u ++ wSM E a2 r) H) (hD : va_D (fun q : Nat => s.heap.size ≤ q) (wSX E a u ++ wSM E a2 r)) (hS : va_S (fun q : Nat => s.heap.size ≤ q) s.heap H locs) {ls : Array Slot} (hl : lv_has ls 4 [(0, .ref b), (1, .ref (a 0)), (2, .ref (a2 0)), (3, .int (nI i))]) (kk : ∀ (u : SX) (r : SM), RR u r → ∀ (H : Heap) (locs : List Loc), va_P D vwCl (wSX E a u ++ wSM E a2 r) H → va_D (fun q : Nat => s.heap.size ≤ q) (wSX E a u ++ wSM E a2 r) → va_S (fun q : Nat => s.heap.size ≤ q) s.heap H locs → W p l e room_1 s m #[Value.ref b] below meth c H locs 38 1424 Q (F0 m 997 ls [])) : W p l e room_1 s m #[Value.ref b] below meth c H locs 38 1424 Q (F0 m 699 ls []) := by
  obtain ⟨hC, hE, hX, hbl⟩ := hC0
  have hx := hC.1
  have hb := hC.2.1
  have hA : ∀ q : Nat, s.heap.size ≤ q → (fun q : Nat => s.heap.size ≤ q) q := fun _ h => h
  have hbA : ¬ (fun q : Nat => s.heap.size ≤ q) b := Nat.not_le.mpr hbl
  refine lv_aload_n hx hb dL_law_699 rfl (lv_at hl 1 rfl) ?_
  refine wl_callVi hC (wl_LX (q_X_forget hR)) lk_RL_94 rfl ⟨rfl, rfl, Nat.le_of_ble_eq_true rfl, Nat.le_of_ble_eq_true rfl⟩ hP hD hS hA 0 rfl (T1 := 11) rfl hl.1 rfl (Nat.le_of_ble_eq_true rfl) dL_law_700 ⟨Nat.le_of_ble_eq_true rfl, Nat.le_of_ble_eq_true rfl⟩ (fun z hz H locs hP hD hS => ?_)
  refine lv_aload_n hx hb dL_law_703 rfl (lv_at hl 2 rfl) ?_
  refine wl_callVi hC (wl_LM (q_M_forget hR)) lk_RL_97 rfl ⟨rfl, rfl, Nat.le_of_ble_eq_true rfl, Nat.le_of_ble_eq_true rfl⟩ hP hD hS hA 26 rfl (T1 := 21) rfl hl.1 rfl (Nat.le_of_ble_eq_true rfl) dL_law_704 ⟨Nat.le_of_ble_eq_true rfl, Nat.le_of_ble_eq_true rfl⟩ (fun y hy H locs hP hD hS => ?_)
  subst hz hy
  obtain ⟨e1, hR2⟩ := sim_forget hR
  refine lv_icmp_eq (tgt := 997) hx hb dL_law_707 (by decide) (fun _ => ?_) (fun ce => absurd e1 ce)
  exact kk _ _ hR2 H locs hP hD hS
set_option maxHeartbeats 4000000 in
set_option maxRecDepth 100000 in
theorem law_is {p : Program} {l : Launch} {e : Env} {s : State} {m : MethodId} {below : List Frame} {meth : Method} {c : Code} {b L : Nat} {xs : Nat → Int32} {D : va_G} {E : Nat → ClassId} {K V : Nat → Nat} {fz : Nat} {Q : State → Prop} {a a2 : Nat → Nat} (hC0 : lw_C p s m c b L xs D E K V fz) (hL : L ≤ 384) {u : SX} {r : SM} (hR : RR u r) {i : Nat} (hi : i + 6 ≤ L) {H : Heap} {locs : List Loc} (hP : va_P D vwCl (wSX E a u ++ wSM E a2 r) H) (hD : va_D (fun q : Nat => s.heap.size ≤ q) (wSX E a u ++ wSM E a2 r)) (hS : va_S (fun q : Nat => s.heap.size ≤ q) s.heap H locs) {ls : Array Slot} (hl : lv_has ls 4 [(0, .ref b), (1, .ref (a 0)), (2, .ref (a2 0)), (3, .int (nI i))]) (kk : ∀ (u : SX) (r : SM), RR u r → ∀ (H : Heap) (locs : List Loc), va_P D vwCl (wSX E a u ++ wSM E a2 r) H → va_D (fun q : Nat => s.heap.size ≤ q) (wSX E a u ++ wSM E a2 r) → va_S (fun q : Nat => s.heap.size ≤ q) s.heap H locs → W p l e room_1 s m #[Value.ref b] below meth c H locs 38 1424 Q (F0 m 997 ls [])) : W p l e room_1 s m #[Value.ref b] below meth c H locs 38 1424 Q (F0 m 712 ls []) := by
  obtain ⟨hC, hE, hX, hbl⟩ := hC0
  have hx := hC.1
  have hb := hC.2.1
  have hA : ∀ q : Nat, s.heap.size ≤ q → (fun q : Nat => s.heap.size ≤ q) q := fun _ h => h
  have hbA : ¬ (fun q : Nat => s.heap.size ≤ q) b := Nat.not_le.mpr hbl
  refine lv_aload_n hx hb dL_law_712 rfl (lv_at hl 1 rfl) ?_
  refine lv_aload_n hx hb dL_law_713 rfl (lv_at hl 0 rfl) ?_
  refine lv_iload_n hx hb dL_law_714 rfl (lv_at hl 3 rfl) ?_
  refine lv_iconst (v := nI 1) hx hb dL_law_715 (by decide +kernel) ?_
  refine lv_iadd hx hb dL_law_716 ?_
  refine wl_re (show nI i + nI 1 = nI (i + 1) from nI_add i 1) ?_
  refine va_sld hx hb hX hbl hbA hS (vp_in_nI (show i + 1 < L by omega) (by omega)) dL_law_717 ?_
  refine wl_callVi hC (wl_LX (q_X_is hR)) lk_RL_98 rfl ⟨rfl, rfl, Nat.le_of_ble_eq_true rfl, Nat.le_of_ble_eq_true rfl⟩ hP hD hS hA 0 rfl (T1 := 11) rfl hl.1 rfl (Nat.le_of_ble_eq_true rfl) dL_law_718 ⟨Nat.le_of_ble_eq_true rfl, Nat.le_of_ble_eq_true rfl⟩ (fun z hz H locs hP hD hS => ?_)
  refine lv_aload_n hx hb dL_law_721 rfl (lv_at hl 2 rfl) ?_
  refine lv_aload_n hx hb dL_law_722 rfl (lv_at hl 0 rfl) ?_
  refine lv_iload_n hx hb dL_law_723 rfl (lv_at hl 3 rfl) ?_
  refine lv_iconst (v := nI 1) hx hb dL_law_724 (by decide +kernel) ?_
  refine lv_iadd hx hb dL_law_725 ?_
  refine wl_re (show nI i + nI 1 = nI (i + 1) from nI_add i 1) ?_
  refine va_sld hx hb hX hbl hbA hS (vp_in_nI (show i + 1 < L by omega) (by omega)) dL_law_726 ?_
  refine wl_callVi hC (wl_LM (q_M_is hR)) lk_RL_101 rfl ⟨rfl, rfl, Nat.le_of_ble_eq_true rfl, Nat.le_of_ble_eq_true rfl⟩ hP hD hS hA 26 rfl (T1 := 21) rfl hl.1 rfl (Nat.le_of_ble_eq_true rfl) dL_law_727 ⟨Nat.le_of_ble_eq_true rfl, Nat.le_of_ble_eq_true rfl⟩ (fun y hy H locs hP hD hS => ?_)
  subst hz hy
  obtain ⟨e1, hR2⟩ := sim_is hR (xs (cl (nI (i + 1))))
  refine lv_icmp_eq (tgt := 997) hx hb dL_law_730 (by decide) (fun _ => ?_) (fun ce => absurd e1 ce)
  exact kk _ _ hR2 H locs hP hD hS
set_option maxHeartbeats 4000000 in
set_option maxRecDepth 100000 in
theorem law_look {p : Program} {l : Launch} {e : Env} {s : State} {m : MethodId} {below : List Frame} {meth : Method} {c : Code} {b L : Nat} {xs : Nat → Int32} {D : va_G} {E : Nat → ClassId} {K V : Nat → Nat} {fz : Nat} {Q : State → Prop} {a a2 : Nat → Nat} (hC0 : lw_C p s m c b L xs D E K V fz) (hL : L ≤ 384) {u : SX} {r : SM} (hR : RR u r) {i : Nat} (hi : i + 6 ≤ L) {H : Heap} {locs : List Loc} (hP : va_P D vwCl (wSX E a u ++ wSM E a2 r) H) (hD : va_D (fun q : Nat => s.heap.size ≤ q) (wSX E a u ++ wSM E a2 r)) (hS : va_S (fun q : Nat => s.heap.size ≤ q) s.heap H locs) {ls : Array Slot} (hl : lv_has ls 4 [(0, .ref b), (1, .ref (a 0)), (2, .ref (a2 0)), (3, .int (nI i))]) (kk : ∀ (u : SX) (r : SM), RR u r → ∀ (H : Heap) (locs : List Loc), va_P D vwCl (wSX E a u ++ wSM E a2 r) H → va_D (fun q : Nat => s.heap.size ≤ q) (wSX E a u ++ wSM E a2 r) → va_S (fun q : Nat => s.heap.size ≤ q) s.heap H locs → W p l e room_1 s m #[Value.ref b] below meth c H locs 38 1424 Q (F0 m 997 ls [])) : W p l e room_1 s m #[Value.ref b] below meth c H locs 38 1424 Q (F0 m 735 ls []) := by
  obtain ⟨hC, hE, hX, hbl⟩ := hC0
  have hx := hC.1
  have hb := hC.2.1
  have hA : ∀ q : Nat, s.heap.size ≤ q → (fun q : Nat => s.heap.size ≤ q) q := fun _ h => h
  have hbA : ¬ (fun q : Nat => s.heap.size ≤ q) b := Nat.not_le.mpr hbl
  refine lv_aload_n hx hb dL_law_735 rfl (lv_at hl 1 rfl) ?_
  refine lv_aload_n hx hb dL_law_736 rfl (lv_at hl 0 rfl) ?_
  refine lv_iload_n hx hb dL_law_737 rfl (lv_at hl 3 rfl) ?_
  refine lv_iconst (v := nI 1) hx hb dL_law_738 (by decide +kernel) ?_
  refine lv_iadd hx hb dL_law_739 ?_
  refine wl_re (show nI i + nI 1 = nI (i + 1) from nI_add i 1) ?_
  refine va_sld hx hb hX hbl hbA hS (vp_in_nI (show i + 1 < L by omega) (by omega)) dL_law_740 ?_
  refine lv_aload_n hx hb dL_law_741 rfl (lv_at hl 0 rfl) ?_
  refine lv_iload_n hx hb dL_law_742 rfl (lv_at hl 3 rfl) ?_
  refine lv_iconst (v := nI 2) hx hb dL_law_743 (by decide +kernel) ?_
  refine lv_iadd hx hb dL_law_744 ?_
  refine wl_re (show nI i + nI 2 = nI (i + 2) from nI_add i 2) ?_
  refine va_sld hx hb hX hbl hbA hS (vp_in_nI (show i + 2 < L by omega) (by omega)) dL_law_745 ?_
  refine wl_callVi hC (wl_LX (q_X_look hR)) lk_RL_102 rfl ⟨rfl, rfl, Nat.le_of_ble_eq_true rfl, Nat.le_of_ble_eq_true rfl⟩ hP hD hS hA 0 rfl (T1 := 11) rfl hl.1 rfl (Nat.le_of_ble_eq_true rfl) dL_law_746 ⟨Nat.le_of_ble_eq_true rfl, Nat.le_of_ble_eq_true rfl⟩ (fun z hz H locs hP hD hS => ?_)
  refine lv_aload_n hx hb dL_law_749 rfl (lv_at hl 2 rfl) ?_
  refine lv_aload_n hx hb dL_law_750 rfl (lv_at hl 0 rfl) ?_
  refine lv_iload_n hx hb dL_law_751 rfl (lv_at hl 3 rfl) ?_
  refine lv_iconst (v := nI 1) hx hb dL_law_752 (by decide +kernel) ?_
  refine lv_iadd hx hb dL_law_753 ?_
  refine wl_re (show nI i + nI 1 = nI (i + 1) from nI_add i 1) ?_
  refine va_sld hx hb hX hbl hbA hS (vp_in_nI (show i + 1 < L by omega) (by omega)) dL_law_754 ?_
  refine lv_aload_n hx hb dL_law_755 rfl (lv_at hl 0 rfl) ?_
  refine lv_iload_n hx hb dL_law_756 rfl (lv_at hl 3 rfl) ?_
  refine lv_iconst (v := nI 2) hx hb dL_law_757 (by decide +kernel) ?_
  refine lv_iadd hx hb dL_law_758 ?_
  refine wl_re (show nI i + nI 2 = nI (i + 2) from nI_add i 2) ?_
  refine va_sld hx hb hX hbl hbA hS (vp_in_nI (show i + 2 < L by omega) (by omega)) dL_law_759 ?_
  refine wl_callVi hC (wl_LM (q_M_look hR)) lk_RL_105 rfl ⟨rfl, rfl, Nat.le_of_ble_eq_true rfl, Nat.le_of_ble_eq_true rfl⟩ hP hD hS hA 26 rfl (T1 := 21) rfl hl.1 rfl (Nat.le_of_ble_eq_true rfl) dL_law_760 ⟨Nat.le_of_ble_eq_true rfl, Nat.le_of_ble_eq_true rfl⟩ (fun y hy H locs hP hD hS => ?_)
  subst hz hy
  obtain ⟨e1, hR2⟩ := sim_look hR (xs (cl (nI (i + 1)))) (xs (cl (nI (i + 2))))
  refine lv_icmp_eq (tgt := 997) hx hb dL_law_763 (by decide) (fun _ => ?_) (fun ce => absurd e1 ce)
  exact kk _ _ hR2 H locs hP hD hS
set_option maxHeartbeats 4000000 in
set_option maxRecDepth 100000 in
theorem law_source {p : Program} {l : Launch} {e : Env} {s : State} {m : MethodId} {below : List Frame} {meth : Method} {c : Code} {b L : Nat} {xs : Nat → Int32} {D : va_G} {E : Nat → ClassId} {K V : Nat → Nat} {fz : Nat} {Q : State → Prop} {a a2 : Nat → Nat} (hC0 : lw_C p s m c b L xs D E K V fz) (hL : L ≤ 384) {u : SX} {r : SM} (hR : RR u r) {i : Nat} (hi : i + 6 ≤ L) {H : Heap} {locs : List Loc} (hP : va_P D vwCl (wSX E a u ++ wSM E a2 r) H) (hD : va_D (fun q : Nat => s.heap.size ≤ q) (wSX E a u ++ wSM E a2 r)) (hS : va_S (fun q : Nat => s.heap.size ≤ q) s.heap H locs) {ls : Array Slot} (hl : lv_has ls 4 [(0, .ref b), (1, .ref (a 0)), (2, .ref (a2 0)), (3, .int (nI i))]) (kk : ∀ (u : SX) (r : SM), RR u r → ∀ (H : Heap) (locs : List Loc), va_P D vwCl (wSX E a u ++ wSM E a2 r) H → va_D (fun q : Nat => s.heap.size ≤ q) (wSX E a u ++ wSM E a2 r) → va_S (fun q : Nat => s.heap.size ≤ q) s.heap H locs → W p l e room_1 s m #[Value.ref b] below meth c H locs 38 1424 Q (F0 m 997 ls [])) : W p l e room_1 s m #[Value.ref b] below meth c H locs 38 1424 Q (F0 m 768 ls []) := by
  obtain ⟨hC, hE, hX, hbl⟩ := hC0
  have hx := hC.1
  have hb := hC.2.1
  have hA : ∀ q : Nat, s.heap.size ≤ q → (fun q : Nat => s.heap.size ≤ q) q := fun _ h => h
  have hbA : ¬ (fun q : Nat => s.heap.size ≤ q) b := Nat.not_le.mpr hbl
  refine lv_aload_n hx hb dL_law_768 rfl (lv_at hl 1 rfl) ?_
  refine lv_aload_n hx hb dL_law_769 rfl (lv_at hl 0 rfl) ?_
  refine lv_iload_n hx hb dL_law_770 rfl (lv_at hl 3 rfl) ?_
  refine lv_iconst (v := nI 1) hx hb dL_law_771 (by decide +kernel) ?_
  refine lv_iadd hx hb dL_law_772 ?_
  refine wl_re (show nI i + nI 1 = nI (i + 1) from nI_add i 1) ?_
  refine va_sld hx hb hX hbl hbA hS (vp_in_nI (show i + 1 < L by omega) (by omega)) dL_law_773 ?_
  refine wl_callVi hC (wl_LX (q_X_source hR)) lk_RL_106 rfl ⟨rfl, rfl, Nat.le_of_ble_eq_true rfl, Nat.le_of_ble_eq_true rfl⟩ hP hD hS hA 0 rfl (T1 := 11) rfl hl.1 rfl (Nat.le_of_ble_eq_true rfl) dL_law_774 ⟨Nat.le_of_ble_eq_true rfl, Nat.le_of_ble_eq_true rfl⟩ (fun z hz H locs hP hD hS => ?_)
  refine lv_aload_n hx hb dL_law_777 rfl (lv_at hl 2 rfl) ?_
  refine lv_aload_n hx hb dL_law_778 rfl (lv_at hl 0 rfl) ?_
  refine lv_iload_n hx hb dL_law_779 rfl (lv_at hl 3 rfl) ?_
  refine lv_iconst (v := nI 1) hx hb dL_law_780 (by decide +kernel) ?_
  refine lv_iadd hx hb dL_law_781 ?_
  refine wl_re (show nI i + nI 1 = nI (i + 1) from nI_add i 1) ?_
  refine va_sld hx hb hX hbl hbA hS (vp_in_nI (show i + 1 < L by omega) (by omega)) dL_law_782 ?_
  refine wl_callVi hC (wl_LM (q_M_source hR)) lk_RL_109 rfl ⟨rfl, rfl, Nat.le_of_ble_eq_true rfl, Nat.le_of_ble_eq_true rfl⟩ hP hD hS hA 26 rfl (T1 := 21) rfl hl.1 rfl (Nat.le_of_ble_eq_true rfl) dL_law_783 ⟨Nat.le_of_ble_eq_true rfl, Nat.le_of_ble_eq_true rfl⟩ (fun y hy H locs hP hD hS => ?_)
  subst hz hy
  obtain ⟨e1, hR2⟩ := sim_source hR (xs (cl (nI (i + 1))))
  refine lv_icmp_eq (tgt := 997) hx hb dL_law_786 (by decide) (fun _ => ?_) (fun ce => absurd e1 ce)
  exact kk _ _ hR2 H locs hP hD hS
set_option maxHeartbeats 4000000 in
set_option maxRecDepth 100000 in
theorem law_odds {p : Program} {l : Launch} {e : Env} {s : State} {m : MethodId} {below : List Frame} {meth : Method} {c : Code} {b L : Nat} {xs : Nat → Int32} {D : va_G} {E : Nat → ClassId} {K V : Nat → Nat} {fz : Nat} {Q : State → Prop} {a a2 : Nat → Nat} (hC0 : lw_C p s m c b L xs D E K V fz) (hL : L ≤ 384) {u : SX} {r : SM} (hR : RR u r) {i : Nat} (hi : i + 6 ≤ L) {H : Heap} {locs : List Loc} (hP : va_P D vwCl (wSX E a u ++ wSM E a2 r) H) (hD : va_D (fun q : Nat => s.heap.size ≤ q) (wSX E a u ++ wSM E a2 r)) (hS : va_S (fun q : Nat => s.heap.size ≤ q) s.heap H locs) {ls : Array Slot} (hl : lv_has ls 4 [(0, .ref b), (1, .ref (a 0)), (2, .ref (a2 0)), (3, .int (nI i))]) (kk : ∀ (u : SX) (r : SM), RR u r → ∀ (H : Heap) (locs : List Loc), va_P D vwCl (wSX E a u ++ wSM E a2 r) H → va_D (fun q : Nat => s.heap.size ≤ q) (wSX E a u ++ wSM E a2 r) → va_S (fun q : Nat => s.heap.size ≤ q) s.heap H locs → W p l e room_1 s m #[Value.ref b] below meth c H locs 38 1424 Q (F0 m 997 ls [])) : W p l e room_1 s m #[Value.ref b] below meth c H locs 38 1424 Q (F0 m 791 ls []) := by
  obtain ⟨hC, hE, hX, hbl⟩ := hC0
  have hx := hC.1
  have hb := hC.2.1
  have hA : ∀ q : Nat, s.heap.size ≤ q → (fun q : Nat => s.heap.size ≤ q) q := fun _ h => h
  have hbA : ¬ (fun q : Nat => s.heap.size ≤ q) b := Nat.not_le.mpr hbl
  refine lv_aload_n hx hb dL_law_791 rfl (lv_at hl 1 rfl) ?_
  refine lv_aload_n hx hb dL_law_792 rfl (lv_at hl 0 rfl) ?_
  refine lv_iload_n hx hb dL_law_793 rfl (lv_at hl 3 rfl) ?_
  refine lv_iconst (v := nI 1) hx hb dL_law_794 (by decide +kernel) ?_
  refine lv_iadd hx hb dL_law_795 ?_
  refine wl_re (show nI i + nI 1 = nI (i + 1) from nI_add i 1) ?_
  refine va_sld hx hb hX hbl hbA hS (vp_in_nI (show i + 1 < L by omega) (by omega)) dL_law_796 ?_
  refine lv_aload_n hx hb dL_law_797 rfl (lv_at hl 0 rfl) ?_
  refine lv_iload_n hx hb dL_law_798 rfl (lv_at hl 3 rfl) ?_
  refine lv_iconst (v := nI 2) hx hb dL_law_799 (by decide +kernel) ?_
  refine lv_iadd hx hb dL_law_800 ?_
  refine wl_re (show nI i + nI 2 = nI (i + 2) from nI_add i 2) ?_
  refine va_sld hx hb hX hbl hbA hS (vp_in_nI (show i + 2 < L by omega) (by omega)) dL_law_801 ?_
  refine lv_aload_n hx hb dL_law_802 rfl (lv_at hl 0 rfl) ?_
  refine lv_iload_n hx hb dL_law_803 rfl (lv_at hl 3 rfl) ?_
  refine lv_iconst (v := nI 3) hx hb dL_law_804 (by decide +kernel) ?_
  refine lv_iadd hx hb dL_law_805 ?_
  refine wl_re (show nI i + nI 3 = nI (i + 3) from nI_add i 3) ?_
  refine va_sld hx hb hX hbl hbA hS (vp_in_nI (show i + 3 < L by omega) (by omega)) dL_law_806 ?_
  refine wl_callVi hC (wl_LX (q_X_odds hR)) lk_RL_110 rfl ⟨rfl, rfl, Nat.le_of_ble_eq_true rfl, Nat.le_of_ble_eq_true rfl⟩ hP hD hS hA 0 rfl (T1 := 11) rfl hl.1 rfl (Nat.le_of_ble_eq_true rfl) dL_law_807 ⟨Nat.le_of_ble_eq_true rfl, Nat.le_of_ble_eq_true rfl⟩ (fun z hz H locs hP hD hS => ?_)
  refine lv_aload_n hx hb dL_law_810 rfl (lv_at hl 2 rfl) ?_
  refine lv_aload_n hx hb dL_law_811 rfl (lv_at hl 0 rfl) ?_
  refine lv_iload_n hx hb dL_law_812 rfl (lv_at hl 3 rfl) ?_
  refine lv_iconst (v := nI 1) hx hb dL_law_813 (by decide +kernel) ?_
  refine lv_iadd hx hb dL_law_814 ?_
  refine wl_re (show nI i + nI 1 = nI (i + 1) from nI_add i 1) ?_
  refine va_sld hx hb hX hbl hbA hS (vp_in_nI (show i + 1 < L by omega) (by omega)) dL_law_815 ?_
  refine lv_aload_n hx hb dL_law_816 rfl (lv_at hl 0 rfl) ?_
  refine lv_iload_n hx hb dL_law_817 rfl (lv_at hl 3 rfl) ?_
  refine lv_iconst (v := nI 2) hx hb dL_law_818 (by decide +kernel) ?_
  refine lv_iadd hx hb dL_law_819 ?_
  refine wl_re (show nI i + nI 2 = nI (i + 2) from nI_add i 2) ?_
  refine va_sld hx hb hX hbl hbA hS (vp_in_nI (show i + 2 < L by omega) (by omega)) dL_law_820 ?_
  refine lv_aload_n hx hb dL_law_821 rfl (lv_at hl 0 rfl) ?_
  refine lv_iload_n hx hb dL_law_822 rfl (lv_at hl 3 rfl) ?_
  refine lv_iconst (v := nI 3) hx hb dL_law_823 (by decide +kernel) ?_
  refine lv_iadd hx hb dL_law_824 ?_
  refine wl_re (show nI i + nI 3 = nI (i + 3) from nI_add i 3) ?_
  refine va_sld hx hb hX hbl hbA hS (vp_in_nI (show i + 3 < L by omega) (by omega)) dL_law_825 ?_
  refine wl_callVi hC (wl_LM (q_M_odds hR)) lk_RL_113 rfl ⟨rfl, rfl, Nat.le_of_ble_eq_true rfl, Nat.le_of_ble_eq_true rfl⟩ hP hD hS hA 26 rfl (T1 := 21) rfl hl.1 rfl (Nat.le_of_ble_eq_true rfl) dL_law_826 ⟨Nat.le_of_ble_eq_true rfl, Nat.le_of_ble_eq_true rfl⟩ (fun y hy H locs hP hD hS => ?_)
  subst hz hy
  obtain ⟨e1, hR2⟩ := sim_odds hR (xs (cl (nI (i + 1)))) (xs (cl (nI (i + 2)))) (xs (cl (nI (i + 3))))
  refine lv_icmp_eq (tgt := 997) hx hb dL_law_829 (by decide) (fun _ => ?_) (fun ce => absurd e1 ce)
  exact kk _ _ hR2 H locs hP hD hS
set_option maxHeartbeats 4000000 in
set_option maxRecDepth 100000 in
theorem law_years {p : Program} {l : Launch} {e : Env} {s : State} {m : MethodId} {below : List Frame} {meth : Method} {c : Code} {b L : Nat} {xs : Nat → Int32} {D : va_G} {E : Nat → ClassId} {K V : Nat → Nat} {fz : Nat} {Q : State → Prop} {a a2 : Nat → Nat} (hC0 : lw_C p s m c b L xs D E K V fz) (hL : L ≤ 384) {u : SX} {r : SM} (hR : RR u r) {i : Nat} (hi : i + 6 ≤ L) {H : Heap} {locs : List Loc} (hP : va_P D vwCl (wSX E a u ++ wSM E a2 r) H) (hD : va_D (fun q : Nat => s.heap.size ≤ q) (wSX E a u ++ wSM E a2 r)) (hS : va_S (fun q : Nat => s.heap.size ≤ q) s.heap H locs) {ls : Array Slot} (hl : lv_has ls 4 [(0, .ref b), (1, .ref (a 0)), (2, .ref (a2 0)), (3, .int (nI i))]) (kk : ∀ (u : SX) (r : SM), RR u r → ∀ (H : Heap) (locs : List Loc), va_P D vwCl (wSX E a u ++ wSM E a2 r) H → va_D (fun q : Nat => s.heap.size ≤ q) (wSX E a u ++ wSM E a2 r) → va_S (fun q : Nat => s.heap.size ≤ q) s.heap H locs → W p l e room_1 s m #[Value.ref b] below meth c H locs 38 1424 Q (F0 m 997 ls [])) : W p l e room_1 s m #[Value.ref b] below meth c H locs 38 1424 Q (F0 m 834 ls []) := by
  obtain ⟨hC, hE, hX, hbl⟩ := hC0
  have hx := hC.1
  have hb := hC.2.1
  have hA : ∀ q : Nat, s.heap.size ≤ q → (fun q : Nat => s.heap.size ≤ q) q := fun _ h => h
  have hbA : ¬ (fun q : Nat => s.heap.size ≤ q) b := Nat.not_le.mpr hbl
  refine lv_aload_n hx hb dL_law_834 rfl (lv_at hl 1 rfl) ?_
  refine lv_aload_n hx hb dL_law_835 rfl (lv_at hl 0 rfl) ?_
  refine lv_iload_n hx hb dL_law_836 rfl (lv_at hl 3 rfl) ?_
  refine lv_iconst (v := nI 1) hx hb dL_law_837 (by decide +kernel) ?_
  refine lv_iadd hx hb dL_law_838 ?_
  refine wl_re (show nI i + nI 1 = nI (i + 1) from nI_add i 1) ?_
  refine va_sld hx hb hX hbl hbA hS (vp_in_nI (show i + 1 < L by omega) (by omega)) dL_law_839 ?_
  refine lv_aload_n hx hb dL_law_840 rfl (lv_at hl 0 rfl) ?_
  refine lv_iload_n hx hb dL_law_841 rfl (lv_at hl 3 rfl) ?_
  refine lv_iconst (v := nI 2) hx hb dL_law_842 (by decide +kernel) ?_
  refine lv_iadd hx hb dL_law_843 ?_
  refine wl_re (show nI i + nI 2 = nI (i + 2) from nI_add i 2) ?_
  refine va_sld hx hb hX hbl hbA hS (vp_in_nI (show i + 2 < L by omega) (by omega)) dL_law_844 ?_
  refine wl_callVi hC (wl_LX (q_X_years hR)) lk_RL_114 rfl ⟨rfl, rfl, Nat.le_of_ble_eq_true rfl, Nat.le_of_ble_eq_true rfl⟩ hP hD hS hA 0 rfl (T1 := 11) rfl hl.1 rfl (Nat.le_of_ble_eq_true rfl) dL_law_845 ⟨Nat.le_of_ble_eq_true rfl, Nat.le_of_ble_eq_true rfl⟩ (fun z hz H locs hP hD hS => ?_)
  refine lv_aload_n hx hb dL_law_848 rfl (lv_at hl 2 rfl) ?_
  refine lv_aload_n hx hb dL_law_849 rfl (lv_at hl 0 rfl) ?_
  refine lv_iload_n hx hb dL_law_850 rfl (lv_at hl 3 rfl) ?_
  refine lv_iconst (v := nI 1) hx hb dL_law_851 (by decide +kernel) ?_
  refine lv_iadd hx hb dL_law_852 ?_
  refine wl_re (show nI i + nI 1 = nI (i + 1) from nI_add i 1) ?_
  refine va_sld hx hb hX hbl hbA hS (vp_in_nI (show i + 1 < L by omega) (by omega)) dL_law_853 ?_
  refine lv_aload_n hx hb dL_law_854 rfl (lv_at hl 0 rfl) ?_
  refine lv_iload_n hx hb dL_law_855 rfl (lv_at hl 3 rfl) ?_
  refine lv_iconst (v := nI 2) hx hb dL_law_856 (by decide +kernel) ?_
  refine lv_iadd hx hb dL_law_857 ?_
  refine wl_re (show nI i + nI 2 = nI (i + 2) from nI_add i 2) ?_
  refine va_sld hx hb hX hbl hbA hS (vp_in_nI (show i + 2 < L by omega) (by omega)) dL_law_858 ?_
  refine wl_callVi hC (wl_LM (q_M_years hR)) lk_RL_117 rfl ⟨rfl, rfl, Nat.le_of_ble_eq_true rfl, Nat.le_of_ble_eq_true rfl⟩ hP hD hS hA 26 rfl (T1 := 21) rfl hl.1 rfl (Nat.le_of_ble_eq_true rfl) dL_law_859 ⟨Nat.le_of_ble_eq_true rfl, Nat.le_of_ble_eq_true rfl⟩ (fun y hy H locs hP hD hS => ?_)
  subst hz hy
  obtain ⟨e1, hR2⟩ := sim_years hR (xs (cl (nI (i + 1)))) (xs (cl (nI (i + 2))))
  refine lv_icmp_eq (tgt := 997) hx hb dL_law_862 (by decide) (fun _ => ?_) (fun ce => absurd e1 ce)
  exact kk _ _ hR2 H locs hP hD hS
set_option maxHeartbeats 4000000 in
set_option maxRecDepth 100000 in
theorem law_part {p : Program} {l : Launch} {e : Env} {s : State} {m : MethodId} {below : List Frame} {meth : Method} {c : Code} {b L : Nat} {xs : Nat → Int32} {D : va_G} {E : Nat → ClassId} {K V : Nat → Nat} {fz : Nat} {Q : State → Prop} {a a2 : Nat → Nat} (hC0 : lw_C p s m c b L xs D E K V fz) (hL : L ≤ 384) {u : SX} {r : SM} (hR : RR u r) {i : Nat} (hi : i + 6 ≤ L) {H : Heap} {locs : List Loc} (hP : va_P D vwCl (wSX E a u ++ wSM E a2 r) H) (hD : va_D (fun q : Nat => s.heap.size ≤ q) (wSX E a u ++ wSM E a2 r)) (hS : va_S (fun q : Nat => s.heap.size ≤ q) s.heap H locs) {ls : Array Slot} (hl : lv_has ls 4 [(0, .ref b), (1, .ref (a 0)), (2, .ref (a2 0)), (3, .int (nI i))]) (kk : ∀ (u : SX) (r : SM), RR u r → ∀ (H : Heap) (locs : List Loc), va_P D vwCl (wSX E a u ++ wSM E a2 r) H → va_D (fun q : Nat => s.heap.size ≤ q) (wSX E a u ++ wSM E a2 r) → va_S (fun q : Nat => s.heap.size ≤ q) s.heap H locs → W p l e room_1 s m #[Value.ref b] below meth c H locs 38 1424 Q (F0 m 997 ls [])) : W p l e room_1 s m #[Value.ref b] below meth c H locs 38 1424 Q (F0 m 867 ls []) := by
  obtain ⟨hC, hE, hX, hbl⟩ := hC0
  have hx := hC.1
  have hb := hC.2.1
  have hA : ∀ q : Nat, s.heap.size ≤ q → (fun q : Nat => s.heap.size ≤ q) q := fun _ h => h
  have hbA : ¬ (fun q : Nat => s.heap.size ≤ q) b := Nat.not_le.mpr hbl
  refine lv_aload_n hx hb dL_law_867 rfl (lv_at hl 1 rfl) ?_
  refine lv_aload_n hx hb dL_law_868 rfl (lv_at hl 0 rfl) ?_
  refine lv_iload_n hx hb dL_law_869 rfl (lv_at hl 3 rfl) ?_
  refine lv_iconst (v := nI 1) hx hb dL_law_870 (by decide +kernel) ?_
  refine lv_iadd hx hb dL_law_871 ?_
  refine wl_re (show nI i + nI 1 = nI (i + 1) from nI_add i 1) ?_
  refine va_sld hx hb hX hbl hbA hS (vp_in_nI (show i + 1 < L by omega) (by omega)) dL_law_872 ?_
  refine wl_callVl hC (wl_LX (q_X_part hR)) lk_RL_118 rfl ⟨rfl, rfl, Nat.le_of_ble_eq_true rfl, Nat.le_of_ble_eq_true rfl⟩ hP hD hS hA 0 rfl (T1 := 11) rfl hl.1 rfl (Nat.le_of_ble_eq_true rfl) dL_law_873 ⟨Nat.le_of_ble_eq_true rfl, Nat.le_of_ble_eq_true rfl⟩ (fun z hz H locs hP hD hS => ?_)
  refine lv_aload_n hx hb dL_law_876 rfl (lv_at hl 2 rfl) ?_
  refine lv_aload_n hx hb dL_law_877 rfl (lv_at hl 0 rfl) ?_
  refine lv_iload_n hx hb dL_law_878 rfl (lv_at hl 3 rfl) ?_
  refine lv_iconst (v := nI 1) hx hb dL_law_879 (by decide +kernel) ?_
  refine lv_iadd hx hb dL_law_880 ?_
  refine wl_re (show nI i + nI 1 = nI (i + 1) from nI_add i 1) ?_
  refine va_sld hx hb hX hbl hbA hS (vp_in_nI (show i + 1 < L by omega) (by omega)) dL_law_881 ?_
  refine wl_callVl hC (wl_LM (q_M_part hR)) lk_RL_122 rfl ⟨rfl, rfl, Nat.le_of_ble_eq_true rfl, Nat.le_of_ble_eq_true rfl⟩ hP hD hS hA 26 rfl (T1 := 21) rfl hl.1 rfl (Nat.le_of_ble_eq_true rfl) dL_law_882 ⟨Nat.le_of_ble_eq_true rfl, Nat.le_of_ble_eq_true rfl⟩ (fun y hy H locs hP hD hS => ?_)
  refine W.lcmp hx hb dL_law_885 ?_
  subst hz hy
  obtain ⟨e1, hR2⟩ := sim_part hR (xs (cl (nI (i + 1))))
  refine wl_c_eq (tgt := 997) hx hb dL_law_886 (by decide) (fun _ => ?_) (fun ce => absurd e1 ce)
  exact kk _ _ hR2 H locs hP hD hS
set_option maxHeartbeats 4000000 in
set_option maxRecDepth 100000 in
theorem law_image {p : Program} {l : Launch} {e : Env} {s : State} {m : MethodId} {below : List Frame} {meth : Method} {c : Code} {b L : Nat} {xs : Nat → Int32} {D : va_G} {E : Nat → ClassId} {K V : Nat → Nat} {fz : Nat} {Q : State → Prop} {a a2 : Nat → Nat} (hC0 : lw_C p s m c b L xs D E K V fz) (hL : L ≤ 384) {u : SX} {r : SM} (hR : RR u r) {i : Nat} (hi : i + 6 ≤ L) {H : Heap} {locs : List Loc} (hP : va_P D vwCl (wSX E a u ++ wSM E a2 r) H) (hD : va_D (fun q : Nat => s.heap.size ≤ q) (wSX E a u ++ wSM E a2 r)) (hS : va_S (fun q : Nat => s.heap.size ≤ q) s.heap H locs) {ls : Array Slot} (hl : lv_has ls 4 [(0, .ref b), (1, .ref (a 0)), (2, .ref (a2 0)), (3, .int (nI i))]) (kk : ∀ (u : SX) (r : SM), RR u r → ∀ (H : Heap) (locs : List Loc), va_P D vwCl (wSX E a u ++ wSM E a2 r) H → va_D (fun q : Nat => s.heap.size ≤ q) (wSX E a u ++ wSM E a2 r) → va_S (fun q : Nat => s.heap.size ≤ q) s.heap H locs → W p l e room_1 s m #[Value.ref b] below meth c H locs 38 1424 Q (F0 m 997 ls [])) : W p l e room_1 s m #[Value.ref b] below meth c H locs 38 1424 Q (F0 m 891 ls []) := by
  obtain ⟨hC, hE, hX, hbl⟩ := hC0
  have hx := hC.1
  have hb := hC.2.1
  have hA : ∀ q : Nat, s.heap.size ≤ q → (fun q : Nat => s.heap.size ≤ q) q := fun _ h => h
  have hbA : ¬ (fun q : Nat => s.heap.size ≤ q) b := Nat.not_le.mpr hbl
  refine lv_aload_n hx hb dL_law_891 rfl (lv_at hl 1 rfl) ?_
  refine lv_aload_n hx hb dL_law_892 rfl (lv_at hl 0 rfl) ?_
  refine lv_iload_n hx hb dL_law_893 rfl (lv_at hl 3 rfl) ?_
  refine lv_iconst (v := nI 1) hx hb dL_law_894 (by decide +kernel) ?_
  refine lv_iadd hx hb dL_law_895 ?_
  refine wl_re (show nI i + nI 1 = nI (i + 1) from nI_add i 1) ?_
  refine va_sld hx hb hX hbl hbA hS (vp_in_nI (show i + 1 < L by omega) (by omega)) dL_law_896 ?_
  refine wl_callVi hC (wl_LX (q_X_image hR)) lk_RL_123 rfl ⟨rfl, rfl, Nat.le_of_ble_eq_true rfl, Nat.le_of_ble_eq_true rfl⟩ hP hD hS hA 0 rfl (T1 := 11) rfl hl.1 rfl (Nat.le_of_ble_eq_true rfl) dL_law_897 ⟨Nat.le_of_ble_eq_true rfl, Nat.le_of_ble_eq_true rfl⟩ (fun z hz H locs hP hD hS => ?_)
  refine lv_aload_n hx hb dL_law_900 rfl (lv_at hl 2 rfl) ?_
  refine lv_aload_n hx hb dL_law_901 rfl (lv_at hl 0 rfl) ?_
  refine lv_iload_n hx hb dL_law_902 rfl (lv_at hl 3 rfl) ?_
  refine lv_iconst (v := nI 1) hx hb dL_law_903 (by decide +kernel) ?_
  refine lv_iadd hx hb dL_law_904 ?_
  refine wl_re (show nI i + nI 1 = nI (i + 1) from nI_add i 1) ?_
  refine va_sld hx hb hX hbl hbA hS (vp_in_nI (show i + 1 < L by omega) (by omega)) dL_law_905 ?_
  refine wl_callVi hC (wl_LM (q_M_image hR)) lk_RL_126 rfl ⟨rfl, rfl, Nat.le_of_ble_eq_true rfl, Nat.le_of_ble_eq_true rfl⟩ hP hD hS hA 26 rfl (T1 := 21) rfl hl.1 rfl (Nat.le_of_ble_eq_true rfl) dL_law_906 ⟨Nat.le_of_ble_eq_true rfl, Nat.le_of_ble_eq_true rfl⟩ (fun y hy H locs hP hD hS => ?_)
  subst hz hy
  obtain ⟨e1, hR2⟩ := sim_image hR (xs (cl (nI (i + 1))))
  refine lv_icmp_eq (tgt := 997) hx hb dL_law_909 (by decide) (fun _ => ?_) (fun ce => absurd e1 ce)
  exact kk _ _ hR2 H locs hP hD hS
set_option maxHeartbeats 4000000 in
set_option maxRecDepth 100000 in
theorem law_from {p : Program} {l : Launch} {e : Env} {s : State} {m : MethodId} {below : List Frame} {meth : Method} {c : Code} {b L : Nat} {xs : Nat → Int32} {D : va_G} {E : Nat → ClassId} {K V : Nat → Nat} {fz : Nat} {Q : State → Prop} {a a2 : Nat → Nat} (hC0 : lw_C p s m c b L xs D E K V fz) (hL : L ≤ 384) {u : SX} {r : SM} (hR : RR u r) {i : Nat} (hi : i + 6 ≤ L) {H : Heap} {locs : List Loc} (hP : va_P D vwCl (wSX E a u ++ wSM E a2 r) H) (hD : va_D (fun q : Nat => s.heap.size ≤ q) (wSX E a u ++ wSM E a2 r)) (hS : va_S (fun q : Nat => s.heap.size ≤ q) s.heap H locs) {ls : Array Slot} (hl : lv_has ls 4 [(0, .ref b), (1, .ref (a 0)), (2, .ref (a2 0)), (3, .int (nI i))]) (kk : ∀ (u : SX) (r : SM), RR u r → ∀ (H : Heap) (locs : List Loc), va_P D vwCl (wSX E a u ++ wSM E a2 r) H → va_D (fun q : Nat => s.heap.size ≤ q) (wSX E a u ++ wSM E a2 r) → va_S (fun q : Nat => s.heap.size ≤ q) s.heap H locs → W p l e room_1 s m #[Value.ref b] below meth c H locs 38 1424 Q (F0 m 997 ls [])) : W p l e room_1 s m #[Value.ref b] below meth c H locs 38 1424 Q (F0 m 914 ls []) := by
  obtain ⟨hC, hE, hX, hbl⟩ := hC0
  have hx := hC.1
  have hb := hC.2.1
  have hA : ∀ q : Nat, s.heap.size ≤ q → (fun q : Nat => s.heap.size ≤ q) q := fun _ h => h
  have hbA : ¬ (fun q : Nat => s.heap.size ≤ q) b := Nat.not_le.mpr hbl
  refine lv_aload_n hx hb dL_law_914 rfl (lv_at hl 1 rfl) ?_
  refine lv_aload_n hx hb dL_law_915 rfl (lv_at hl 0 rfl) ?_
  refine lv_iload_n hx hb dL_law_916 rfl (lv_at hl 3 rfl) ?_
  refine lv_iconst (v := nI 1) hx hb dL_law_917 (by decide +kernel) ?_
  refine lv_iadd hx hb dL_law_918 ?_
  refine wl_re (show nI i + nI 1 = nI (i + 1) from nI_add i 1) ?_
  refine va_sld hx hb hX hbl hbA hS (vp_in_nI (show i + 1 < L by omega) (by omega)) dL_law_919 ?_
  refine wl_callVi hC (wl_LX (q_X_from hR)) lk_RL_127 rfl ⟨rfl, rfl, Nat.le_of_ble_eq_true rfl, Nat.le_of_ble_eq_true rfl⟩ hP hD hS hA 0 rfl (T1 := 11) rfl hl.1 rfl (Nat.le_of_ble_eq_true rfl) dL_law_920 ⟨Nat.le_of_ble_eq_true rfl, Nat.le_of_ble_eq_true rfl⟩ (fun z hz H locs hP hD hS => ?_)
  refine lv_aload_n hx hb dL_law_923 rfl (lv_at hl 2 rfl) ?_
  refine lv_aload_n hx hb dL_law_924 rfl (lv_at hl 0 rfl) ?_
  refine lv_iload_n hx hb dL_law_925 rfl (lv_at hl 3 rfl) ?_
  refine lv_iconst (v := nI 1) hx hb dL_law_926 (by decide +kernel) ?_
  refine lv_iadd hx hb dL_law_927 ?_
  refine wl_re (show nI i + nI 1 = nI (i + 1) from nI_add i 1) ?_
  refine va_sld hx hb hX hbl hbA hS (vp_in_nI (show i + 1 < L by omega) (by omega)) dL_law_928 ?_
  refine wl_callVi hC (wl_LM (q_M_from hR)) lk_RL_130 rfl ⟨rfl, rfl, Nat.le_of_ble_eq_true rfl, Nat.le_of_ble_eq_true rfl⟩ hP hD hS hA 26 rfl (T1 := 21) rfl hl.1 rfl (Nat.le_of_ble_eq_true rfl) dL_law_929 ⟨Nat.le_of_ble_eq_true rfl, Nat.le_of_ble_eq_true rfl⟩ (fun y hy H locs hP hD hS => ?_)
  subst hz hy
  obtain ⟨e1, hR2⟩ := sim_from hR (xs (cl (nI (i + 1))))
  refine lv_icmp_eq (tgt := 997) hx hb dL_law_932 (by decide) (fun _ => ?_) (fun ce => absurd e1 ce)
  exact kk _ _ hR2 H locs hP hD hS
set_option maxHeartbeats 4000000 in
set_option maxRecDepth 100000 in
theorem law_status {p : Program} {l : Launch} {e : Env} {s : State} {m : MethodId} {below : List Frame} {meth : Method} {c : Code} {b L : Nat} {xs : Nat → Int32} {D : va_G} {E : Nat → ClassId} {K V : Nat → Nat} {fz : Nat} {Q : State → Prop} {a a2 : Nat → Nat} (hC0 : lw_C p s m c b L xs D E K V fz) (hL : L ≤ 384) {u : SX} {r : SM} (hR : RR u r) {i : Nat} (hi : i + 6 ≤ L) {H : Heap} {locs : List Loc} (hP : va_P D vwCl (wSX E a u ++ wSM E a2 r) H) (hD : va_D (fun q : Nat => s.heap.size ≤ q) (wSX E a u ++ wSM E a2 r)) (hS : va_S (fun q : Nat => s.heap.size ≤ q) s.heap H locs) {ls : Array Slot} (hl : lv_has ls 4 [(0, .ref b), (1, .ref (a 0)), (2, .ref (a2 0)), (3, .int (nI i))]) (kk : ∀ (u : SX) (r : SM), RR u r → ∀ (H : Heap) (locs : List Loc), va_P D vwCl (wSX E a u ++ wSM E a2 r) H → va_D (fun q : Nat => s.heap.size ≤ q) (wSX E a u ++ wSM E a2 r) → va_S (fun q : Nat => s.heap.size ≤ q) s.heap H locs → W p l e room_1 s m #[Value.ref b] below meth c H locs 38 1424 Q (F0 m 997 ls [])) : W p l e room_1 s m #[Value.ref b] below meth c H locs 38 1424 Q (F0 m 937 ls []) := by
  obtain ⟨hC, hE, hX, hbl⟩ := hC0
  have hx := hC.1
  have hb := hC.2.1
  have hA : ∀ q : Nat, s.heap.size ≤ q → (fun q : Nat => s.heap.size ≤ q) q := fun _ h => h
  have hbA : ¬ (fun q : Nat => s.heap.size ≤ q) b := Nat.not_le.mpr hbl
  refine lv_aload_n hx hb dL_law_937 rfl (lv_at hl 1 rfl) ?_
  refine lv_aload_n hx hb dL_law_938 rfl (lv_at hl 0 rfl) ?_
  refine lv_iload_n hx hb dL_law_939 rfl (lv_at hl 3 rfl) ?_
  refine lv_iconst (v := nI 1) hx hb dL_law_940 (by decide +kernel) ?_
  refine lv_iadd hx hb dL_law_941 ?_
  refine wl_re (show nI i + nI 1 = nI (i + 1) from nI_add i 1) ?_
  refine va_sld hx hb hX hbl hbA hS (vp_in_nI (show i + 1 < L by omega) (by omega)) dL_law_942 ?_
  refine wl_callVi hC (wl_LX (q_X_status hR)) lk_RL_131 rfl ⟨rfl, rfl, Nat.le_of_ble_eq_true rfl, Nat.le_of_ble_eq_true rfl⟩ hP hD hS hA 0 rfl (T1 := 11) rfl hl.1 rfl (Nat.le_of_ble_eq_true rfl) dL_law_943 ⟨Nat.le_of_ble_eq_true rfl, Nat.le_of_ble_eq_true rfl⟩ (fun z hz H locs hP hD hS => ?_)
  refine lv_aload_n hx hb dL_law_946 rfl (lv_at hl 2 rfl) ?_
  refine lv_aload_n hx hb dL_law_947 rfl (lv_at hl 0 rfl) ?_
  refine lv_iload_n hx hb dL_law_948 rfl (lv_at hl 3 rfl) ?_
  refine lv_iconst (v := nI 1) hx hb dL_law_949 (by decide +kernel) ?_
  refine lv_iadd hx hb dL_law_950 ?_
  refine wl_re (show nI i + nI 1 = nI (i + 1) from nI_add i 1) ?_
  refine va_sld hx hb hX hbl hbA hS (vp_in_nI (show i + 1 < L by omega) (by omega)) dL_law_951 ?_
  refine wl_callVi hC (wl_LM (q_M_status hR)) lk_RL_134 rfl ⟨rfl, rfl, Nat.le_of_ble_eq_true rfl, Nat.le_of_ble_eq_true rfl⟩ hP hD hS hA 26 rfl (T1 := 21) rfl hl.1 rfl (Nat.le_of_ble_eq_true rfl) dL_law_952 ⟨Nat.le_of_ble_eq_true rfl, Nat.le_of_ble_eq_true rfl⟩ (fun y hy H locs hP hD hS => ?_)
  subst hz hy
  obtain ⟨e1, hR2⟩ := sim_status hR (xs (cl (nI (i + 1))))
  refine lv_icmp_eq (tgt := 997) hx hb dL_law_955 (by decide) (fun _ => ?_) (fun ce => absurd e1 ce)
  exact kk _ _ hR2 H locs hP hD hS
set_option maxHeartbeats 4000000 in
set_option maxRecDepth 100000 in
theorem law_count {p : Program} {l : Launch} {e : Env} {s : State} {m : MethodId} {below : List Frame} {meth : Method} {c : Code} {b L : Nat} {xs : Nat → Int32} {D : va_G} {E : Nat → ClassId} {K V : Nat → Nat} {fz : Nat} {Q : State → Prop} {a a2 : Nat → Nat} (hC0 : lw_C p s m c b L xs D E K V fz) (hL : L ≤ 384) {u : SX} {r : SM} (hR : RR u r) {i : Nat} (hi : i + 6 ≤ L) {H : Heap} {locs : List Loc} (hP : va_P D vwCl (wSX E a u ++ wSM E a2 r) H) (hD : va_D (fun q : Nat => s.heap.size ≤ q) (wSX E a u ++ wSM E a2 r)) (hS : va_S (fun q : Nat => s.heap.size ≤ q) s.heap H locs) {ls : Array Slot} (hl : lv_has ls 4 [(0, .ref b), (1, .ref (a 0)), (2, .ref (a2 0)), (3, .int (nI i))]) (kk : ∀ (u : SX) (r : SM), RR u r → ∀ (H : Heap) (locs : List Loc), va_P D vwCl (wSX E a u ++ wSM E a2 r) H → va_D (fun q : Nat => s.heap.size ≤ q) (wSX E a u ++ wSM E a2 r) → va_S (fun q : Nat => s.heap.size ≤ q) s.heap H locs → W p l e room_1 s m #[Value.ref b] below meth c H locs 38 1424 Q (F0 m 997 ls [])) : W p l e room_1 s m #[Value.ref b] below meth c H locs 38 1424 Q (F0 m 960 ls []) := by
  obtain ⟨hC, hE, hX, hbl⟩ := hC0
  have hx := hC.1
  have hb := hC.2.1
  have hA : ∀ q : Nat, s.heap.size ≤ q → (fun q : Nat => s.heap.size ≤ q) q := fun _ h => h
  have hbA : ¬ (fun q : Nat => s.heap.size ≤ q) b := Nat.not_le.mpr hbl
  refine lv_aload_n hx hb dL_law_960 rfl (lv_at hl 1 rfl) ?_
  refine lv_aload_n hx hb dL_law_961 rfl (lv_at hl 0 rfl) ?_
  refine lv_iload_n hx hb dL_law_962 rfl (lv_at hl 3 rfl) ?_
  refine lv_iconst (v := nI 1) hx hb dL_law_963 (by decide +kernel) ?_
  refine lv_iadd hx hb dL_law_964 ?_
  refine wl_re (show nI i + nI 1 = nI (i + 1) from nI_add i 1) ?_
  refine va_sld hx hb hX hbl hbA hS (vp_in_nI (show i + 1 < L by omega) (by omega)) dL_law_965 ?_
  refine wl_callVi hC (wl_LX (q_X_count hR)) lk_RL_135 rfl ⟨rfl, rfl, Nat.le_of_ble_eq_true rfl, Nat.le_of_ble_eq_true rfl⟩ hP hD hS hA 0 rfl (T1 := 11) rfl hl.1 rfl (Nat.le_of_ble_eq_true rfl) dL_law_966 ⟨Nat.le_of_ble_eq_true rfl, Nat.le_of_ble_eq_true rfl⟩ (fun z hz H locs hP hD hS => ?_)
  refine lv_aload_n hx hb dL_law_969 rfl (lv_at hl 2 rfl) ?_
  refine lv_aload_n hx hb dL_law_970 rfl (lv_at hl 0 rfl) ?_
  refine lv_iload_n hx hb dL_law_971 rfl (lv_at hl 3 rfl) ?_
  refine lv_iconst (v := nI 1) hx hb dL_law_972 (by decide +kernel) ?_
  refine lv_iadd hx hb dL_law_973 ?_
  refine wl_re (show nI i + nI 1 = nI (i + 1) from nI_add i 1) ?_
  refine va_sld hx hb hX hbl hbA hS (vp_in_nI (show i + 1 < L by omega) (by omega)) dL_law_974 ?_
  refine wl_callVi hC (wl_LM (q_M_count hR)) lk_RL_138 rfl ⟨rfl, rfl, Nat.le_of_ble_eq_true rfl, Nat.le_of_ble_eq_true rfl⟩ hP hD hS hA 26 rfl (T1 := 21) rfl hl.1 rfl (Nat.le_of_ble_eq_true rfl) dL_law_975 ⟨Nat.le_of_ble_eq_true rfl, Nat.le_of_ble_eq_true rfl⟩ (fun y hy H locs hP hD hS => ?_)
  subst hz hy
  obtain ⟨e1, hR2⟩ := sim_count hR (xs (cl (nI (i + 1))))
  refine lv_icmp_eq (tgt := 997) hx hb dL_law_978 (by decide) (fun _ => ?_) (fun ce => absurd e1 ce)
  exact kk _ _ hR2 H locs hP hD hS
set_option maxHeartbeats 4000000 in
set_option maxRecDepth 100000 in
theorem law_digest {p : Program} {l : Launch} {e : Env} {s : State} {m : MethodId} {below : List Frame} {meth : Method} {c : Code} {b L : Nat} {xs : Nat → Int32} {D : va_G} {E : Nat → ClassId} {K V : Nat → Nat} {fz : Nat} {Q : State → Prop} {a a2 : Nat → Nat} (hC0 : lw_C p s m c b L xs D E K V fz) (hL : L ≤ 384) {u : SX} {r : SM} (hR : RR u r) {i : Nat} (hi : i + 6 ≤ L) {H : Heap} {locs : List Loc} (hP : va_P D vwCl (wSX E a u ++ wSM E a2 r) H) (hD : va_D (fun q : Nat => s.heap.size ≤ q) (wSX E a u ++ wSM E a2 r)) (hS : va_S (fun q : Nat => s.heap.size ≤ q) s.heap H locs) {ls : Array Slot} (hl : lv_has ls 4 [(0, .ref b), (1, .ref (a 0)), (2, .ref (a2 0)), (3, .int (nI i))]) (kk : ∀ (u : SX) (r : SM), RR u r → ∀ (H : Heap) (locs : List Loc), va_P D vwCl (wSX E a u ++ wSM E a2 r) H → va_D (fun q : Nat => s.heap.size ≤ q) (wSX E a u ++ wSM E a2 r) → va_S (fun q : Nat => s.heap.size ≤ q) s.heap H locs → W p l e room_1 s m #[Value.ref b] below meth c H locs 38 1424 Q (F0 m 997 ls [])) : W p l e room_1 s m #[Value.ref b] below meth c H locs 38 1424 Q (F0 m 983 ls []) := by
  obtain ⟨hC, hE, hX, hbl⟩ := hC0
  have hx := hC.1
  have hb := hC.2.1
  have hA : ∀ q : Nat, s.heap.size ≤ q → (fun q : Nat => s.heap.size ≤ q) q := fun _ h => h
  have hbA : ¬ (fun q : Nat => s.heap.size ≤ q) b := Nat.not_le.mpr hbl
  refine lv_aload_n hx hb dL_law_983 rfl (lv_at hl 1 rfl) ?_
  refine wl_callVl hC (wl_LX (q_X_digest hR)) lk_RL_139 rfl ⟨rfl, rfl, Nat.le_of_ble_eq_true rfl, Nat.le_of_ble_eq_true rfl⟩ hP hD hS hA 0 rfl (T1 := 11) rfl hl.1 rfl (Nat.le_of_ble_eq_true rfl) dL_law_984 ⟨Nat.le_of_ble_eq_true rfl, Nat.le_of_ble_eq_true rfl⟩ (fun z hz H locs hP hD hS => ?_)
  refine lv_aload_n hx hb dL_law_987 rfl (lv_at hl 2 rfl) ?_
  refine wl_callVl hC (wl_LM (q_M_digest hR)) lk_RL_143 rfl ⟨rfl, rfl, Nat.le_of_ble_eq_true rfl, Nat.le_of_ble_eq_true rfl⟩ hP hD hS hA 26 rfl (T1 := 21) rfl hl.1 rfl (Nat.le_of_ble_eq_true rfl) dL_law_988 ⟨Nat.le_of_ble_eq_true rfl, Nat.le_of_ble_eq_true rfl⟩ (fun y hy H locs hP hD hS => ?_)
  refine W.lcmp hx hb dL_law_991 ?_
  subst hz hy
  obtain ⟨e1, hR2⟩ := sim_digest hR
  refine wl_c_eq (tgt := 997) hx hb dL_law_992 (by decide) (fun _ => ?_) (fun ce => absurd e1 ce)
  exact kk _ _ hR2 H locs hP hD hS
