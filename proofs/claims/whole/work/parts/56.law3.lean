/-! THE CLAIM OUT OF ONE WALK OF THE LAW'S BODY. Your part is whole_start (and what it stands on); all else here is the same for every law, but numbers. -/
def R_law : String := "WantedLaterLaw"
def lw_P (b : Addr) (xs : List Int32) (args : Array Value) (s : State) : Prop := args = #[.ref b] ∧ s.IntsAt b xs ∧ xs.length ≤ 384 ∧ (Jvm.Cond.and given_1 narrow_1).before args s = true
def lw_Q (_ : Array Value) (s : State) (o : Outcome) (t : State) : Prop := o = .returned (some (.int 1)) ∧ Framed s o t [] 600000 7302250
def lw_Z (below : List Frame) (a : Array Value) (s : State) : State → Prop := fun t => ∃ o, t.status = .running ∧ Ended t below o ∧ lw_Q a s o t
/-- the law's own end, with 1 on the stack, nothing written that was there before, its room as the claim has it -/
theorem lw_ret {p : Program} {l : Launch} {e : Env} {s : State} {m : MethodId} {below : List Frame} {meth : Method} {c : Code} {b : Nat} (hx : p.tables.exec = Jvm.exec) (hb : c.code = code) (hr : meth.sig.returnType = ret) (hlocks : meth.locks = false) {pc : Nat} {H : Heap} {ls : Array Slot} (hdg : decode code pc = .ok (.ireturn, 1)) : W p l e room_1 s m #[Value.ref b] below meth c H [] 600000 7302250 (lw_Z below #[Value.ref b] s) (F0 m pc ls [.int 1]) := by
  intro T hT X
  obtain ⟨fs, hret, hrun, hended, hW, hframe⟩ := X.leave (v := some (.int 1)) (hlocks := hlocks) (fun h => by rw [hr] at h; cases h)
  have hmeth' : T.vm.method? m = some meth := X.method'
  refine ⟨T.setFrames fs, ?_, .returned (some (.int 1)), hrun, hended, rfl, ⟨_, rfl⟩, hW, hframe⟩
  jvm_step X.here [X.here.top, hx, hb, hdg, hmeth', hr, ret, narrow_b1]
  (try refine ⟨rfl, ?_⟩); (try refine ⟨rfl, ?_⟩)
  first | (intro acts; rw [hret _ acts rfl rfl rfl]) | rw [hret _ _ rfl rfl rfl]
  exact Steps.refl _
/-- what holds at the law's entry: the machine, the code, the tables' words (any of lw_tbl by 'hts w (by decide +kernel)'), the script of L ints xs at the cell b, what the Statement gives of the start (any of its parts by flat_of_before) -/
def lw_At (p : Program) (s : State) (m : MethodId) (meth : Method) (c : Code) (b L : Nat) (xs : Nat → Int32) : Prop :=
  p.tables.exec = Jvm.exec ∧ c.code = code ∧ meth.sig.returnType = ret ∧ c.maxLocals = 4 ∧ s.vm.findClass R_law = some m.cls ∧ (∀ w ∈ lw_tbl, w.before #[Value.ref b] s = true) ∧ va_X b L xs s s.heap ∧ b < s.heap.size ∧ meth.locks = false ∧ (Jvm.Cond.and given_1 narrow_1).before #[Value.ref b] s = true
set_option maxHeartbeats 4000000 in
set_option maxRecDepth 100000 in
theorem law_cond {p : Program} {l : Launch} {e : Env} {s : State} {m : MethodId} {below : List Frame} {meth : Method} {c : Code} {b L : Nat} {xs : Nat → Int32} {D : va_G} {E : Nat → ClassId} {K V : Nat → Nat} {fz : Nat} {Q : State → Prop} {a a2 : Nat → Nat} (hC0 : lw_C p s m c b L xs D E K V fz) (hL : L ≤ 384) {i : Nat} (hi : i ≤ 1000) {H : Heap} {locs : List Loc} (hS : va_S (fun q : Nat => s.heap.size ≤ q) s.heap H locs) {ls : Array Slot} (hl : lv_has ls 4 [(0, .ref b), (1, .ref (a 0)), (2, .ref (a2 0)), (3, .int (nI i))]) (kt : ¬ i + 6 ≤ L → W p l e room_1 s m #[Value.ref b] below meth c H locs 38 1424 Q (F0 m 1003 ls [])) (kf : i + 6 ≤ L → W p l e room_1 s m #[Value.ref b] below meth c H locs 38 1424 Q (F0 m 27 ls [])) : W p l e room_1 s m #[Value.ref b] below meth c H locs 38 1424 Q (F0 m 18 ls []) := by
  obtain ⟨hC, hE, hX, hbl⟩ := id hC0
  have hx := hC.1
  have hb := hC.2.1
  have hA : ∀ q : Nat, s.heap.size ≤ q → (fun q : Nat => s.heap.size ≤ q) q := fun _ h => h
  have hbA : ¬ (fun q : Nat => s.heap.size ≤ q) b := Nat.not_le.mpr hbl
  refine lv_iload_n hx hb dL_law_18 rfl (lv_at hl 3 rfl) ?_
  refine lv_aload_n hx hb dL_law_19 rfl (lv_at hl 0 rfl) ?_
  refine va_slen hx hb hX hbl hbA hS dL_law_20 ?_
  refine wl_re (show Int32.ofNat L = nI L from rfl) ?_
  refine lv_bipush (v := nI 6) hx hb dL_law_21 (by decide +kernel) ?_
  refine lv_isub hx hb dL_law_23 ?_
  have e : (nI L - nI 6).toInt = (L : Int) - (6 : Nat) := pk_sub_toInt (by omega) (by omega)
  have ei : (nI i).toInt = (i : Int) := nI_toInt (by omega)
  refine lv_icmp_gt (tgt := 1003) hx hb dL_law_24 (by decide) (fun cg => kt ?_) (fun cg => kf ?_)
  · have g := Int32.lt_iff_toInt_lt.mp cg
    rw [e, ei] at g
    omega
  · have g : ¬ ((L : Int) - (6 : Nat)) < (i : Int) := fun q => cg (Int32.lt_iff_toInt_lt.mpr (by rw [e, ei]; exact q))
    omega
set_option maxHeartbeats 4000000 in
set_option maxRecDepth 100000 in
theorem law_end {p : Program} {l : Launch} {e : Env} {s : State} {m : MethodId} {below : List Frame} {meth : Method} {c : Code} {b L : Nat} {xs : Nat → Int32} {D : va_G} {E : Nat → ClassId} {K V : Nat → Nat} {fz : Nat} (hC0 : lw_C p s m c b L xs D E K V fz) (hL : L ≤ 384) (hr : meth.sig.returnType = ret) (hlocks : meth.locks = false) {H : Heap} {locs : List Loc} (hS : va_S (fun q : Nat => s.heap.size ≤ q) s.heap H locs) {ls : Array Slot} : W p l e room_1 s m #[Value.ref b] below meth c H locs 38 1424 (lw_Z below #[Value.ref b] s) (F0 m 1003 ls []) := by
  obtain ⟨hC, hE, hX, hbl⟩ := id hC0
  have hx := hC.1
  have hb := hC.2.1
  have hA : ∀ q : Nat, s.heap.size ≤ q → (fun q : Nat => s.heap.size ≤ q) q := fun _ h => h
  have hbA : ¬ (fun q : Nat => s.heap.size ≤ q) b := Nat.not_le.mpr hbl
  refine lv_iconst (v := 1) hx hb dL_law_1003 (by decide) ?_
  refine va_forget (fun q hq => hS.2.2 q hq) ?_
  refine W.widen (k := 600000) (n := 7302250) (by decide) (by decide) ?_
  exact lw_ret hx hb hr hlocks dL_law_1004
set_option maxHeartbeats 4000000 in
set_option maxRecDepth 100000 in
theorem law_body {p : Program} {l : Launch} {e : Env} {s : State} {m : MethodId} {below : List Frame} {meth : Method} {c : Code} {b L : Nat} {xs : Nat → Int32} {D : va_G} {E : Nat → ClassId} {K V : Nat → Nat} {fz : Nat} {Q : State → Prop} {a a2 : Nat → Nat} (hC0 : lw_C p s m c b L xs D E K V fz) (hL : L ≤ 384) {u : SX} {r : SM} (hR : RR u r) {i : Nat} (hi : i + 6 ≤ L) {H : Heap} {locs : List Loc} (hP : va_P D vwCl (wSX E a u ++ wSM E a2 r) H) (hD : va_D (fun q : Nat => s.heap.size ≤ q) (wSX E a u ++ wSM E a2 r)) (hS : va_S (fun q : Nat => s.heap.size ≤ q) s.heap H locs) {ls : Array Slot} (hl : lv_has ls 4 [(0, .ref b), (1, .ref (a 0)), (2, .ref (a2 0)), (3, .int (nI i))]) (kk : ∀ (u : SX) (r : SM), RR u r → ∀ (H : Heap) (locs : List Loc), va_P D vwCl (wSX E a u ++ wSM E a2 r) H → va_D (fun q : Nat => s.heap.size ≤ q) (wSX E a u ++ wSM E a2 r) → va_S (fun q : Nat => s.heap.size ≤ q) s.heap H locs → W p l e room_1 s m #[Value.ref b] below meth c H locs 38 1424 Q (F0 m 997 ls [])) : W p l e room_1 s m #[Value.ref b] below meth c H locs 38 1424 Q (F0 m 27 ls []) := by
  obtain ⟨hC, hE, hX, hbl⟩ := id hC0
  have hx := hC.1
  have hb := hC.2.1
  have hA : ∀ q : Nat, s.heap.size ≤ q → (fun q : Nat => s.heap.size ≤ q) q := fun _ h => h
  have hbA : ¬ (fun q : Nat => s.heap.size ≤ q) b := Nat.not_le.mpr hbl
  refine lv_aload_n hx hb dL_law_27 rfl (lv_at hl 0 rfl) ?_
  refine lv_iload_n hx hb dL_law_28 rfl (lv_at hl 3 rfl) ?_
  refine va_sld hx hb hX hbl hbA hS (vp_in_nI (show i < L by omega) (by omega)) dL_law_29 ?_
  refine lv_bipush (v := nI 31) hx hb dL_law_30 (by decide +kernel) ?_
  refine lv_iand hx hb dL_law_32 ?_
  obtain ⟨n, hn, en⟩ := and31 (xs (nI i).toNatClampNeg)
  refine wl_re en ?_
  have hc : n = 0 ∨ n = 1 ∨ n = 2 ∨ n = 3 ∨ n = 4 ∨ n = 5 ∨ n = 6 ∨ n = 7 ∨ n = 8 ∨ n = 9 ∨ n = 10 ∨ n = 11 ∨ n = 12 ∨ n = 13 ∨ n = 14 ∨ n = 15 ∨ n = 16 ∨ n = 17 ∨ n = 18 ∨ n = 19 ∨ n = 20 ∨ n = 21 ∨ n = 22 ∨ n = 23 ∨ n = 24 ∨ n = 25 ∨ n = 26 ∨ n = 27 ∨ n = 28 ∨ n = 29 ∨ n = 30 ∨ n = 31 := by omega
  rcases hc with g | g | g | g | g | g | g | g | g | g | g | g | g | g | g | g | g | g | g | g | g | g | g | g | g | g | g | g | g | g | g | g
  · subst g
    refine lv_tableIn (tgt := 172) (off := 139) hx hb dL_law_33 (by decide +kernel) (by decide +kernel) (by decide +kernel) (by decide) ?_
    exact law_town hC0 hL hR hi hP hD hS hl kk
  · subst g
    refine lv_tableIn (tgt := 195) (off := 162) hx hb dL_law_33 (by decide +kernel) (by decide +kernel) (by decide +kernel) (by decide) ?_
    exact law_one hC0 hL hR hi hP hD hS hl kk
  · subst g
    refine lv_tableIn (tgt := 228) (off := 195) hx hb dL_law_33 (by decide +kernel) (by decide +kernel) (by decide +kernel) (by decide) ?_
    exact law_type hC0 hL hR hi hP hD hS hl kk
  · subst g
    refine lv_tableIn (tgt := 251) (off := 218) hx hb dL_law_33 (by decide +kernel) (by decide +kernel) (by decide +kernel) (by decide) ?_
    exact law_clear hC0 hL hR hi hP hD hS hl kk
  · subst g
    refine lv_tableIn (tgt := 264) (off := 231) hx hb dL_law_33 (by decide +kernel) (by decide +kernel) (by decide +kernel) (by decide) ?_
    exact law_read hC0 hL hR hi hP hD hS hl kk
  · subst g
    refine lv_tableIn (tgt := 277) (off := 244) hx hb dL_law_33 (by decide +kernel) (by decide +kernel) (by decide +kernel) (by decide) ?_
    exact law_list hC0 hL hR hi hP hD hS hl kk
  · subst g
    refine lv_tableIn (tgt := 310) (off := 277) hx hb dL_law_33 (by decide +kernel) (by decide +kernel) (by decide +kernel) (by decide) ?_
    exact law_follow hC0 hL hR hi hP hD hS hl kk
  · subst g
    refine lv_tableIn (tgt := 343) (off := 310) hx hb dL_law_33 (by decide +kernel) (by decide +kernel) (by decide +kernel) (by decide) ?_
    exact law_day hC0 hL hR hi hP hD hS hl kk
  · subst g
    refine lv_tableIn (tgt := 366) (off := 333) hx hb dL_law_33 (by decide +kernel) (by decide +kernel) (by decide +kernel) (by decide) ?_
    exact law_undo hC0 hL hR hi hP hD hS hl kk
  · subst g
    refine lv_tableIn (tgt := 379) (off := 346) hx hb dL_law_33 (by decide +kernel) (by decide +kernel) (by decide +kernel) (by decide) ?_
    exact law_of hC0 hL hR hi hP hD hS hl kk
  · subst g
    refine lv_tableIn (tgt := 412) (off := 379) hx hb dL_law_33 (by decide +kernel) (by decide +kernel) (by decide +kernel) (by decide) ?_
    exact law_then hC0 hL hR hi hP hD hS hl kk
  · subst g
    refine lv_tableIn (tgt := 455) (off := 422) hx hb dL_law_33 (by decide +kernel) (by decide +kernel) (by decide +kernel) (by decide) ?_
    exact law_when hC0 hL hR hi hP hD hS hl kk
  · subst g
    refine lv_tableIn (tgt := 478) (off := 445) hx hb dL_law_33 (by decide +kernel) (by decide +kernel) (by decide +kernel) (by decide) ?_
    exact law_lack hC0 hL hR hi hP hD hS hl kk
  · subst g
    refine lv_tableIn (tgt := 491) (off := 458) hx hb dL_law_33 (by decide +kernel) (by decide +kernel) (by decide +kernel) (by decide) ?_
    exact law_comesTrue hC0 hL hR hi hP hD hS hl kk
  · subst g
    refine lv_tableIn (tgt := 524) (off := 491) hx hb dL_law_33 (by decide +kernel) (by decide +kernel) (by decide +kernel) (by decide) ?_
    exact law_readings hC0 hL hR hi hP hD hS hl kk
  · subst g
    refine lv_tableIn (tgt := 537) (off := 504) hx hb dL_law_33 (by decide +kernel) (by decide +kernel) (by decide +kernel) (by decide) ?_
    exact law_roster hC0 hL hR hi hP hD hS hl kk
  · subst g
    refine lv_tableIn (tgt := 570) (off := 537) hx hb dL_law_33 (by decide +kernel) (by decide +kernel) (by decide +kernel) (by decide) ?_
    exact law_off hC0 hL hR hi hP hD hS hl kk
  · subst g
    refine lv_tableIn (tgt := 613) (off := 580) hx hb dL_law_33 (by decide +kernel) (by decide +kernel) (by decide +kernel) (by decide) ?_
    exact law_rests hC0 hL hR hi hP hD hS hl kk
  · subst g
    refine lv_tableIn (tgt := 636) (off := 603) hx hb dL_law_33 (by decide +kernel) (by decide +kernel) (by decide +kernel) (by decide) ?_
    exact law_note hC0 hL hR hi hP hD hS hl kk
  · subst g
    refine lv_tableIn (tgt := 699) (off := 666) hx hb dL_law_33 (by decide +kernel) (by decide +kernel) (by decide +kernel) (by decide) ?_
    exact law_forget hC0 hL hR hi hP hD hS hl kk
  · subst g
    refine lv_tableIn (tgt := 712) (off := 679) hx hb dL_law_33 (by decide +kernel) (by decide +kernel) (by decide +kernel) (by decide) ?_
    exact law_is hC0 hL hR hi hP hD hS hl kk
  · subst g
    refine lv_tableIn (tgt := 735) (off := 702) hx hb dL_law_33 (by decide +kernel) (by decide +kernel) (by decide +kernel) (by decide) ?_
    exact law_look hC0 hL hR hi hP hD hS hl kk
  · subst g
    refine lv_tableIn (tgt := 768) (off := 735) hx hb dL_law_33 (by decide +kernel) (by decide +kernel) (by decide +kernel) (by decide) ?_
    exact law_source hC0 hL hR hi hP hD hS hl kk
  · subst g
    refine lv_tableIn (tgt := 791) (off := 758) hx hb dL_law_33 (by decide +kernel) (by decide +kernel) (by decide +kernel) (by decide) ?_
    exact law_odds hC0 hL hR hi hP hD hS hl kk
  · subst g
    refine lv_tableIn (tgt := 834) (off := 801) hx hb dL_law_33 (by decide +kernel) (by decide +kernel) (by decide +kernel) (by decide) ?_
    exact law_years hC0 hL hR hi hP hD hS hl kk
  · subst g
    refine lv_tableIn (tgt := 867) (off := 834) hx hb dL_law_33 (by decide +kernel) (by decide +kernel) (by decide +kernel) (by decide) ?_
    exact law_part hC0 hL hR hi hP hD hS hl kk
  · subst g
    refine lv_tableIn (tgt := 891) (off := 858) hx hb dL_law_33 (by decide +kernel) (by decide +kernel) (by decide +kernel) (by decide) ?_
    exact law_image hC0 hL hR hi hP hD hS hl kk
  · subst g
    refine lv_tableIn (tgt := 914) (off := 881) hx hb dL_law_33 (by decide +kernel) (by decide +kernel) (by decide +kernel) (by decide) ?_
    exact law_from hC0 hL hR hi hP hD hS hl kk
  · subst g
    refine lv_tableIn (tgt := 937) (off := 904) hx hb dL_law_33 (by decide +kernel) (by decide +kernel) (by decide +kernel) (by decide) ?_
    exact law_status hC0 hL hR hi hP hD hS hl kk
  · subst g
    refine lv_tableIn (tgt := 960) (off := 927) hx hb dL_law_33 (by decide +kernel) (by decide +kernel) (by decide +kernel) (by decide) ?_
    exact law_count hC0 hL hR hi hP hD hS hl kk
  · subst g
    refine lv_tableIn (tgt := 983) (off := 950) hx hb dL_law_33 (by decide +kernel) (by decide +kernel) (by decide +kernel) (by decide) ?_
    exact law_digest hC0 hL hR hi hP hD hS hl kk
  · subst g
    refine lv_tableOut (tgt := 997) hx hb dL_law_33 (Or.inr (by decide +kernel)) (by decide) ?_
    exact kk u r hR H locs hP hD hS
set_option maxHeartbeats 4000000 in
set_option maxRecDepth 100000 in
theorem law_loop {p : Program} {l : Launch} {e : Env} {s : State} {m : MethodId} {below : List Frame} {meth : Method} {c : Code} {b L : Nat} {xs : Nat → Int32} {D : va_G} {E : Nat → ClassId} {K V : Nat → Nat} {fz : Nat} {a a2 : Nat → Nat} (hC0 : lw_C p s m c b L xs D E K V fz) (hL : L ≤ 384) (hr : meth.sig.returnType = ret) (hlocks : meth.locks = false) : ∀ (n i : Nat) (u : SX) (r : SM), RR u r → L + 1 ≤ i + n → i ≤ 1000 → ∀ (H : Heap) (locs : List Loc), va_P D vwCl (wSX E a u ++ wSM E a2 r) H → va_D (fun q : Nat => s.heap.size ≤ q) (wSX E a u ++ wSM E a2 r) → va_S (fun q : Nat => s.heap.size ≤ q) s.heap H locs → ∀ (ls : Array Slot), lv_has ls 4 [(0, .ref b), (1, .ref (a 0)), (2, .ref (a2 0)), (3, .int (nI i))] → W p l e room_1 s m #[Value.ref b] below meth c H locs 38 1424 (lw_Z below #[Value.ref b] s) (F0 m 18 ls []) := by
  obtain ⟨hC, hE, hX, hbl⟩ := id hC0
  have hx := hC.1
  have hb := hC.2.1
  have hA : ∀ q : Nat, s.heap.size ≤ q → (fun q : Nat => s.heap.size ≤ q) q := fun _ h => h
  have hbA : ¬ (fun q : Nat => s.heap.size ≤ q) b := Nat.not_le.mpr hbl
  intro n
  induction n with
  | zero =>
    intro i u r hR hin hi H locs hP hD hS ls hl
    exact law_cond hC0 hL hi hS hl (fun _ => law_end hC0 hL hr hlocks hS) (fun h => absurd h (by omega))
  | succ n ih =>
    intro i u r hR hin hi H locs hP hD hS ls hl
    refine law_cond hC0 hL hi hS hl (fun _ => law_end hC0 hL hr hlocks hS) (fun h => ?_)
    refine law_body hC0 hL hR h hP hD hS hl (fun u2 r2 hR2 H2 locs2 hP2 hD2 hS2 => ?_)
    refine lv_iinc (v := nI (i + 6)) (lv' := [(3, .int (nI (i + 6))), (0, .ref b), (1, .ref (a 0)), (2, .ref (a2 0))]) hx hb dL_law_997 hl (k := 3) rfl (wl_inc i 6) (by decide) rfl (fun ls hl => ?_)
    refine lv_goto (tgt := 18) hx hb dL_law_1000 (by decide) ?_
    exact ih (i + 6) u2 r2 hR2 (by omega) (by omega) H2 locs2 hP2 hD2 hS2 ls (lv_sub hl [1, 2, 3, 0] rfl)
def s_0 : SX := SX.mk (lN 0) (lN 1) (nI 0) (nI 0) (nI 0) (fun _ => nI 0) (nI 0) (nI 0) (nI 0) (nI 0) false false 0 0 0 (nI 0) (nI 0) (fun _ => nI 0) (Tn.mk (nI 3) 0 (nI 0) (nI 0) (nI 0) (nI 0) 0 0 (fun _ => nI 0) (fun _ => nI 0) (fun _ => nI 0) (fun _ => nI 0)) (Tn.mk (nI 3) 0 (nI 0) (nI 0) (nI 0) (nI 0) 0 0 (fun _ => nI 0) (fun _ => nI 0) (fun _ => nI 0) (fun _ => nI 0)) (Tn.mk (nI 3) 0 (nI 0) (nI 0) (nI 0) (nI 0) 0 0 (fun _ => nI 0) (fun _ => nI 0) (fun _ => nI 0) (fun _ => nI 0)) (Tn.mk (nI 3) 0 (nI 0) (nI 0) (nI 0) (nI 0) 0 0 (fun _ => nI 0) (fun _ => nI 0) (fun _ => nI 0) (fun _ => nI 0))
def r_0 : SM := SM.mk 0 (lN 1) (nI 0) (nI 0) (nI 0) 0 0 0 (nI 0) (nI 0) (m_X4_begin (fun _ => nI 0) (nI 3)) (fun _ => nI 0) (fun _ => nI 0) (fun _ => nI 0) (fun _ => nI 0) (fun _ => nI 0) (fun _ => nI 0) (fun _ => nI 0) (fun _ => nI 0) (fun _ => nI 0) (fun _ => nI 0)
theorem RT_0 : RT (Tn.mk (nI 3) 0 (nI 0) (nI 0) (nI 0) (nI 0) 0 0 (fun _ => nI 0) (fun _ => nI 0) (fun _ => nI 0) (fun _ => nI 0)) (m_X4_begin (fun _ => nI 0) (nI 3)) := RT.begin (T := (Tn.mk (nI 3) 0 (nI 0) (nI 0) (nI 0) (nI 0) 0 0 (fun _ => nI 0) (fun _ => nI 0) (fun _ => nI 0) (fun _ => nI 0))) ⟨3, by decide, by decide, rfl⟩
theorem k_0 : (fun _ : Nat => nI 0) 0 = 0 := by decide +kernel
theorem fa_0 : (0 : Int64) = lN 0 := by decide +kernel
set_option maxRecDepth 100000 in
theorem RR_0 : RR s_0 r_0 :=
  ⟨RT_0, ⟨rfl, rfl⟩, fun h => absurd k_0 h, fun h => absurd k_0 h, fa_0, rfl, rfl, rfl, rfl, rfl, Nat.zero_le _, rfl⟩
set_option maxHeartbeats 4000000 in
set_option maxRecDepth 100000 in
theorem law_st {s : State} {b : Nat} (hts : ∀ w ∈ lw_tbl, w.before #[Value.ref b] s = true) (hgv : (Jvm.Cond.and given_1 narrow_1).before #[Value.ref b] s = true) : ∃ (K V : Nat → Nat) (fz : Nat), wl_st K V fz (fun q : Nat => s.heap.size ≤ q) s s.heap := by
  have hg := flat_of_before _ hgv
  have htA : ∀ w ∈ wAll, w.before #[Value.ref b] s = true := fun w h => hts w (wAll_tbl w h)
  have hA : ∀ q : Nat, q < s.heap.size → ¬ (fun q : Nat => s.heap.size ≤ q) q := fun q h => Nat.not_le.mpr h
  have c4 : ∀ i : Nat, i < 4 → i = 0 ∨ i = 1 ∨ i = 2 ∨ i = 3 := fun i h => by omega
  obtain ⟨K, V, h1, h2⟩ := vk_Sof (args := #[Value.ref b]) (s := s) (N := 4) (tm := fun i => .string RX0 (wl_sk.getD i 0)) (len := wl_sl) (byt := wl_sb) (A := (fun q : Nat => s.heap.size ≤ q))
    (fun i hi => by rcases c4 i hi with rfl | rfl | rfl | rfl <;> decide)
    (fun i hi => by rcases c4 i hi with rfl | rfl | rfl | rfl <;> exact hg _ (by decide +kernel))
    (fun i hi => by rcases c4 i hi with rfl | rfl | rfl | rfl <;> exact hg _ (by decide +kernel))
    (fun i hi => by rcases c4 i hi with rfl | rfl | rfl | rfl <;> exact hg _ (by decide +kernel))
    (fun i hi => by rcases c4 i hi with rfl | rfl | rfl | rfl <;> exact hg _ (by decide +kernel))
    (fun i hi j hj => by
      rcases c4 i hi with rfl | rfl | rfl | rfl
      · have hj : j < 4 := hj
        rcases c4 j hj with rfl | rfl | rfl | rfl <;> exact hg _ (by decide +kernel)
      · have hj : j < 3 := hj
        rcases (show j = 0 ∨ j = 1 ∨ j = 2 by omega) with rfl | rfl | rfl <;> exact hg _ (by decide +kernel)
      · have hj : j < 4 := hj
        rcases c4 j hj with rfl | rfl | rfl | rfl <;> exact hg _ (by decide +kernel)
      · have hj : j < 6 := hj
        rcases (show j = 0 ∨ j = 1 ∨ j = 2 ∨ j = 3 ∨ j = 4 ∨ j = 5 by omega) with rfl | rfl | rfl | rfl | rfl | rfl <;> exact hg _ (by decide +kernel))
    (fun i j hi hj hij => by
      rcases c4 i hi with rfl | rfl | rfl | rfl <;> rcases c4 j hj with rfl | rfl | rfl | rfl <;> first | exact absurd rfl hij | exact Or.inl (hg _ (by decide +kernel)) | exact Or.inr (hg _ (by decide +kernel)))
    hA
  refine ⟨K, V, 0, h1, ?_, ?_, fun i hi => ?_⟩
  · exact va_Zof (hts (.laysStatic "java/lang/String" "COMPACT_STRINGS" "Z") (by decide +kernel)) (htA _ mw_28) (va_eqi (hg _ (by decide +kernel))) hA
  · exact va_Zqof (hts (.laysStatic "jdk/internal/util/Preconditions" "SIOOBE_FORMATTER" "Ljava/util/function/BiFunction;") (by decide +kernel)) (htA _ mw_55) (hg _ (by decide +kernel)) hA
  · exact vk_R.of (A := #[Value.ref b]) (by rcases c4 i hi with rfl | rfl | rfl | rfl <;> exact hts _ (by decide +kernel)) (h2 i hi)
set_option maxHeartbeats 4000000 in
set_option maxRecDepth 100000 in
theorem law_known {s : State} {b : Nat} (hts : ∀ w ∈ lw_tbl, w.before #[Value.ref b] s = true) : ∃ (D : va_G) (E : Nat → ClassId), va_K D vwCl (wl_tys E) s ∧ wl_N s ∧ va_AO "WantedLater$Town" s := by
  have htA : ∀ w ∈ wAll, w.before #[Value.ref b] s = true := fun w h => hts w (wAll_tbl w h)
  obtain ⟨c0, i0, k0⟩ := u_known (C := RX0) (T := TX0) (N := 6) (n := 6) htA mwF_0 (htA _ mw_211)
  obtain ⟨c1, i1, k1⟩ := u_known (C := RX1) (T := TX1) (N := 12) (n := 12) htA mwF_1 (htA _ mw_201)
  obtain ⟨c2, i2, k2⟩ := u_known (C := RX2) (T := TX2) (N := 6) (n := 6) htA mwF_2 (htA _ mw_208)
  obtain ⟨c3, i3, k3⟩ := u_known (C := RX3) (T := TX3) (N := 11) (n := 11) htA mwF_3 (htA _ mw_604)
  obtain ⟨c4, i4, k4⟩ := u_known (C := RX4) (T := TX4) (N := 21) (n := 21) htA mwF_4 (htA _ mw_606)
  obtain ⟨e0, a0, b0⟩ := wl_arr (ty := .int) (fun C h => by cases h) (htA _ mw_131)
  obtain ⟨e1, a1, b1⟩ := wl_arr (ty := .boolean) (fun C h => by cases h) (htA _ mw_205)
  obtain ⟨e2, a2, b2⟩ := wl_arr (ty := .byte) (fun C h => by cases h) (htA _ mw_3)
  obtain ⟨e3, a3, b3⟩ := wl_arrO (C := "WantedLater$Town") (hts (.arrayOver (.object "WantedLater$Town")) (by decide +kernel))
  refine ⟨(fun k => if k = 0 then c0 else if k = 1 then c1 else if k = 2 then c2 else if k = 3 then c3 else c4, fun k => if k = 0 then i0 else if k = 1 then i1 else if k = 2 then i2 else if k = 3 then i3 else i4), fun k => if k = 0 then e0 else if k = 1 then e1 else if k = 2 then e2 else e3, ⟨?_, ?_⟩, ?_, ?_⟩
  · intro k q hq
    match k, hq with
    | 0, hq => cases hq; exact k0
    | 1, hq => cases hq; exact k1
    | 2, hq => cases hq; exact k2
    | 3, hq => cases hq; exact k3
    | 4, hq => cases hq; exact k4
    | k + 5, hq => simp at hq
  · intro k q hq
    match k, hq with
    | 0, hq => cases hq; exact ⟨a0, b0⟩
    | 1, hq => cases hq; exact ⟨a1, b1⟩
    | 2, hq => cases hq; exact ⟨a2, b2⟩
    | 3, hq => cases hq; exact ⟨a3, b3⟩
    | k + 4, hq => simp at hq
  · have hm : ∀ q ∈ wl_nest, Cond.methodLinkNest q.1 q.2.1 q.2.2.1 q.2.2.2 ∈ lw_tbl := by decide +kernel
    exact fun q hq => va_Nw.of rfl (hts _ (hm q hq))
  · exact va_AO.of (hts (.arrayOver (.object "WantedLater$Town")) (by decide +kernel))
set_option maxHeartbeats 4000000 in
set_option maxRecDepth 100000 in
/-- THE LAW, from its entry -/
theorem whole_start {p : Program} {e : Env} {s : State} {m : MethodId} {below : List Frame} {meth : Method} {c : Code} (l : Launch) {b L : Nat} {xs : Nat → Int32} (hL : L ≤ 384) (C0 : lw_At p s m meth c b L xs) : W p l e room_1 s m #[Value.ref b] below meth c s.heap [] 0 0 (lw_Z below #[Value.ref b] s) (entryFrame m ([Value.ref b] : List Value).toArray 4) := by
  obtain ⟨hx, hb, hr, hml, hown, hts, hX, hbl, hlocks, hgv⟩ := id C0
  obtain ⟨D, E, hK, hN, hao⟩ := law_known hts
  obtain ⟨K, V, fz, hE⟩ := law_st hts hgv
  have htA : ∀ w ∈ wAll, w.before #[Value.ref b] s = true := fun w h => hts w (wAll_tbl w h)
  have hC : wl_Cx p s m #[Value.ref b] c cL_law 4 RL D E := ⟨hx, hb, hml, hown, htA, hK, hN⟩
  have hC0 : lw_C p s m c b L xs D E K V fz := ⟨hC, hE, hX, hbl⟩
  have hA : ∀ q : Nat, s.heap.size ≤ q → (fun q : Nat => s.heap.size ≤ q) q := fun _ h => h
  have hS : va_S (fun q : Nat => s.heap.size ≤ q) s.heap s.heap [] := va_S.rf
  have hP : va_P D vwCl [] s.heap := wl_nilP
  have hD : va_D (fun q : Nat => s.heap.size ≤ q) [] := wl_nil
  have hl := lv_entry ([.ref b]) (n := 4) (Nat.le_of_ble_eq_true rfl)
  rw [lg_entry_eq]
  generalize (lg_sl ([.ref b]) ++ List.replicate (4 - (lg_sl ([.ref b])).length) Slot.unset).toArray = ls at hl ⊢
  have hl : lv_has ls 4 [(0, .ref b)] := hl
  refine va_new (ci := 3) (fs := [.null, .null, .null, .null, .null, .null, .long 0, .long 0, .int (nI 0), .int (nI 0), .int (nI 0)]) (C := RX3) (T := TX3) (N := 11) hx hb htA mwF_3 tyX3 tyX3_ok hown (htA _ mw_603) (htA _ mw_604) (htA _ mw_81) hK hP hD hS hA rfl (fun j hj => by rcases (show j = 0 ∨ j = 1 ∨ j = 2 ∨ j = 3 ∨ j = 4 ∨ j = 5 ∨ j = 6 ∨ j = 7 ∨ j = 8 ∨ j = 9 ∨ j = 10 by omega) with rfl | rfl | rfl | rfl | rfl | rfl | rfl | rfl | rfl | rfl | rfl <;> rfl) (Nat.le_of_ble_eq_true rfl) (Nat.le_of_ble_eq_true rfl) dL_law_0 (fun q1 H hP hD hS => ?_)
  have hP : va_P D vwCl [(q1, .inr (3, [.null, .null, .null, .null, .null, .null, .long 0, .long 0, .int (nI 0), .int (nI 0), .int (nI 0)]))] H := hP
  have hD : va_D (fun q : Nat => s.heap.size ≤ q) [(q1, .inr (3, [.null, .null, .null, .null, .null, .null, .long 0, .long 0, .int (nI 0), .int (nI 0), .int (nI 0)]))] := hD
  refine lv_dup hx hb dL_law_3 rfl ?_
  refine wl_callCI hC (fun _ => hao) n_X3_init mw_607 mw_608 mw_81 mw_218 rfl ⟨by decide, by decide, by decide⟩ ⟨rfl, rfl, Nat.le_of_ble_eq_true rfl, Nat.le_of_ble_eq_true rfl⟩ hP hD hS hA [0] [] (wr := []) rfl rfl rfl rfl (by decide) hl.1 (Nat.le_of_ble_eq_true rfl) dL_law_4 ⟨Nat.le_of_ble_eq_true rfl, Nat.le_of_ble_eq_true rfl⟩ (fun a ha H locs hP hD hS => ?_)
  have hP : va_P D vwCl (wSX E a s_0) H := hP
  have hD : va_D (fun q : Nat => s.heap.size ≤ q) (wSX E a s_0) := hD
  refine lv_astore_n (lv' := [(1, .ref q1), (0, .ref b)]) hx hb dL_law_7 rfl hl (by decide) rfl (fun ls hl => ?_)
  refine va_new (ci := 4) (fs := [.null, .null, .null, .null, .long 0, .long 0, .null, .int (nI 0), .int (nI 0), .int (nI 0), .null, .null, .null, .null, .int (nI 0), .int (nI 0), .int (nI 0), .int (nI 0), .int (nI 0), .null, .null]) (C := RX4) (T := TX4) (N := 21) hx hb htA mwF_4 tyX4 tyX4_ok hown (htA _ mw_605) (htA _ mw_606) (htA _ mw_399) hK hP hD hS hA rfl (fun j hj => by rcases (show j = 0 ∨ j = 1 ∨ j = 2 ∨ j = 3 ∨ j = 4 ∨ j = 5 ∨ j = 6 ∨ j = 7 ∨ j = 8 ∨ j = 9 ∨ j = 10 ∨ j = 11 ∨ j = 12 ∨ j = 13 ∨ j = 14 ∨ j = 15 ∨ j = 16 ∨ j = 17 ∨ j = 18 ∨ j = 19 ∨ j = 20 by omega) with rfl | rfl | rfl | rfl | rfl | rfl | rfl | rfl | rfl | rfl | rfl | rfl | rfl | rfl | rfl | rfl | rfl | rfl | rfl | rfl | rfl <;> rfl) (Nat.le_of_ble_eq_true rfl) (Nat.le_of_ble_eq_true rfl) dL_law_8 (fun q2 H hP hD hS => ?_)
  refine lv_dup hx hb dL_law_11 rfl ?_
  refine wl_callCI hC (ex := false) (fun h => absurd h (by decide)) n_X4_init mw_609 mw_610 mw_399 mw_400 rfl ⟨by decide, by decide, by decide⟩ ⟨rfl, rfl, Nat.le_of_ble_eq_true rfl, Nat.le_of_ble_eq_true rfl⟩ hP hD hS hA [26] [0, 1, 2, 3, 4, 5, 6, 7, 8, 9, 10, 11, 12, 13, 14, 15, 16, 17, 18, 19, 20, 21, 22, 23, 24, 25] (wr := wSX E a s_0) rfl rfl rfl rfl (by decide) hl.1 (Nat.le_of_ble_eq_true rfl) dL_law_12 ⟨Nat.le_of_ble_eq_true rfl, Nat.le_of_ble_eq_true rfl⟩ (fun a2 ha2 H locs hP hD hS => ?_)
  have hP : va_P D vwCl (wSX E a s_0 ++ wSM E a2 r_0) H := hP
  have hD : va_D (fun q : Nat => s.heap.size ≤ q) (wSX E a s_0 ++ wSM E a2 r_0) := hD
  refine lv_astore_n (lv' := [(2, .ref q2), (1, .ref q1), (0, .ref b)]) hx hb dL_law_15 rfl hl (by decide) rfl (fun ls hl => ?_)
  refine lv_iconst (v := nI 0) hx hb dL_law_16 (by decide +kernel) ?_
  refine lv_istore_n (lv' := [(3, .int (nI 0)), (2, .ref q2), (1, .ref q1), (0, .ref b)]) hx hb dL_law_17 rfl hl (by decide) rfl (fun ls hl => ?_)
  refine W.widen (k := 38) (n := 1424) (by decide) (by decide) ?_
  refine law_loop hC0 hL hr hlocks (L + 1) 0 s_0 r_0 RR_0 (by omega) (by decide) H locs hP hD hS ls ?_
  rw [ha, ha2]
  exact lv_sub hl [3, 2, 1, 0] rfl
set_option maxHeartbeats 4000000 in
theorem lw_walk (l : Launch) (b : Addr) (xs : List Int32) : MetFree l x (headSpec (Jvm.Cond.code x code maxLocals ret :: tables_1) room_1) (lw_P b xs) (fun _ _ _ _ _ => True) lw_Q := by
  refine MetFree.of_bodyS (code := code) (maxLocals := maxLocals) (ret := ret) (by decide) ?_ ?_
  · intro args s m h hn
    obtain ⟨meth, c, h1, h2, h3, h4, h5, h6, -, -⟩ := Cond.code_spec hn (atoms_spec (ws := Jvm.Cond.code x code maxLocals ret :: tables_1) h _ List.mem_cons_self)
    exact ⟨meth, c, h1, h2, h3, h4, h5, h6⟩
  · intro p e s m args below meth c s₁ B hml0 hP _
    obtain ⟨rfl, hx, hbd, hgv⟩ := hP
    obtain ⟨scr, harrAt, hlist, hof, hsmall⟩ := hx
    obtain ⟨hcb, hkn, -, -⟩ := State.arrayAt?_spec harrAt
    have hown : s.vm.findClass R_law = some m.cls := findClass_of_methodNamed B.named
    have hts0 : ∀ c ∈ (Jvm.Cond.code x code maxLocals ret :: tables_1), c.before #[Value.ref b] s = true := atoms_spec (ws := Jvm.Cond.code x code maxLocals ret :: tables_1) B.pre
    have hts : ∀ w ∈ lw_tbl, w.before #[Value.ref b] s = true := k2_hts_sels lw_privs (fun w hw => hts0 w (List.mem_cons_of_mem _ hw)) lw_privs_ok
    have hml : c.maxLocals = 4 := B.maxLocals_eq (hts0 _ List.mem_cons_self)
    have X₀ : Stand p l e room_1 s m #[Value.ref b] below meth c s₁ [] 0 0 := Stand.of_body B
    have hh0 : s₁.heap = s.heap := by rw [B.state]; rfl
    have hsz : scr.slots.size = xs.length := by rw [← Array.length_toList, hlist, List.length_map]
    have hval : ∀ j : Nat, j < xs.length → scr.slots[j]? = some (.int (xs.getD j 0)) := fun j hj => by
      rw [← Array.getElem?_toList, hlist]
      simp [hj]
    have hbl : b < s.heap.size := (Array.getElem?_eq_some_iff.mp hcb).1
    have hX : va_X b xs.length (fun j => xs.getD j 0) s s.heap := ⟨scr, hcb, hof, hkn, hsz, hval⟩
    have K : W p l e room_1 s m #[Value.ref b] below meth c s₁.heap [] 0 0 (lw_Z below #[Value.ref b] s) (entryFrame m ([Value.ref b] : List Value).toArray 4) := by
      rw [hh0]
      exact whole_start l hbd ⟨B.exec, B.bytes, B.returns, hml, hown, hts, hX, hbl, B.notSynchronized, hgv⟩
    obtain ⟨t, a1, o, b1, b2, b3⟩ := K s₁ rfl X₀
    exact ⟨t, o, a1, b1, b2, b3⟩
theorem lw_pre_spec {args : Array Value} {s : State} (h : (Jvm.Cond.and given_1 narrow_1).before args s = true) (hr : rest_1_c.before args s = true) : ∃ (b : Addr) (xs : List Int32), lw_P b xs args s := by
  have hs := flat_of_before _ h
  have hq := flat_of_before _ hr
  have hc : (Cond.count 1).before args s = true := hs _ (by decide +kernel)
  have harr : (Cond.arrayOf (.arg 0) .int).before args s = true := hs _ (by decide +kernel)
  have hle : (Cond.le (.length (.arg 0)) (.int 384)).before args s = true := hs _ (by decide +kernel)
  have hlen : (Cond.isInt (.length (.arg 0))).before args s = true := hq _ (by decide +kernel)
  have hall : (Cond.all (.arg 0) (.isInt (.elem (.arg 0) (.index 0)))).before args s = true := hq _ (by decide +kernel)
  obtain ⟨b, xs, hb, hx⟩ := State.ints_of_pre rfl harr hlen hall
  have hsm : xs.length < 2 ^ 31 := hx.choose_spec.2.2.2
  have hev : (Term.length (.arg 0)).eval args s none [] s = some (.int xs.length.toInt32) := hx.length_eval hb
  have hv := Cond.le_ints hev (show (Term.int 384).eval args s none [] s = some (.int 384) from rfl)
  have hd : xs.length.toInt32 ≤ 384 := by
    simpa [Cond.before, Cond.holds, hv] using hle
  have hN : xs.length ≤ 384 := (Int32.ofNat_le_ofNat hsm (by decide)).mp (show Int32.ofNat xs.length ≤ Int32.ofNat 384 from hd)
  exact ⟨b, xs, Cond.one_arg hc (show args[0]? = some (.ref b) from hb), hx, hN, h⟩
theorem lw_comes (l : Launch) : Comes l x (Jvm.Cond.code x code maxLocals ret :: tables_1) room_1 (fun tb e args s => Calls_1 tb e args s ∧ rest_1 tb e args s ∧ Pre_1 tb e args s)
    (fun _ _ args s o t => lw_Q args s o t) := by
  intro p e ha hc hk s m args below hf hfit hheap happ hpre
  obtain ⟨b, xs, hP⟩ := lw_pre_spec hpre.2.2 hpre.2.1
  obtain ⟨k, o, h1, h2, h3, hQ⟩ := lw_walk l b xs p e ha hc hk s m args below hf ((Spec.applies_iff_loose hf).mp happ).1 hP trivial
  exact ⟨k, o, h1, h2, h3, hQ⟩
theorem lw_frame {s t : State} {o : Outcome} {args : Array Value} (h : Framed s o t [] 600000 7302250) :
    Framed s o t (fieldLocs frame_1_writes args s ++ arrayLocs frame_1_arrays args s ++ staticLocs frame_1_statics s) 600000 7302250 := h
theorem lw_limb (L : Cond) (hL : ∀ (args : Array Value) (s t : State), L.after args s (.returned (some (.int 1))) t = true) :
    ArmFor flags0 classFile x code maxLocals ret World_1 tables_1 room_1 Calls_1 rest_1 Pre_1
      (fun tb e a s o t => postC L tb e a s o t ∧ Framed s o t (fieldLocs frame_1_writes a s ++ arrayLocs frame_1_arrays a s ++ staticLocs frame_1_statics s) 600000 7302250) := by
  intro l _ _ _ p e ha hc hk s m args below hf hfit hheap happ hpre
  obtain ⟨k, o, h1, h2, h3, rfl, hF⟩ := lw_comes l p e ha hc hk s m args below hf hfit hheap happ hpre
  exact ⟨k, _, h1, h2, h3, hL args s _, lw_frame hF⟩
theorem i_vc : Claimed_1_1 ∧ Claimed_1_2 := ⟨lw_limb limb_1_1 (fun args s t => by simp [limb_1_1, Cond.after, Cond.holds, Cond.value]), lw_limb limb_1_2 (fun args s t => Cond.after_iff.mpr (by
  first | (rw [show limb_1_2 = Cond.eq .result (.int 1) from rfl, Cond.eq_ints (x := 1) (y := 1) rfl rfl]; simp; done) | (simp [limb_1_2, Cond.value, Term.eval]; done)))⟩
