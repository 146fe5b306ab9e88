/-! STATE: what the class holds, what the reference holds, how they belong together -/
abbrev Tn : Type := Int32 × Nat × Int32 × Int32 × Int32 × Int32 × Nat × Nat × (Nat → Int32) × (Nat → Int32) × (Nat → Int32) × (Nat → Int32)
abbrev Tn.counts (x : Tn) : Int32 := x.1
abbrev Tn.people (x : Tn) : Nat := x.2.1
abbrev Tn.day (x : Tn) : Int32 := x.2.2.1
abbrev Tn.listed (x : Tn) : Int32 := x.2.2.2.1
abbrev Tn.followed (x : Tn) : Int32 := x.2.2.2.2.1
abbrev Tn.struck (x : Tn) : Int32 := x.2.2.2.2.2.1
abbrev Tn.noted (x : Tn) : Nat := x.2.2.2.2.2.2.1
abbrev Tn.undoable (x : Tn) : Nat := x.2.2.2.2.2.2.2.1
abbrev Tn.kinds (x : Tn) : (Nat → Int32) := x.2.2.2.2.2.2.2.2.1
abbrev Tn.tempers (x : Tn) : (Nat → Int32) := x.2.2.2.2.2.2.2.2.2.1
abbrev Tn.notes (x : Tn) : (Nat → Int32) := x.2.2.2.2.2.2.2.2.2.2.1
abbrev Tn.past (x : Tn) : (Nat → Int32) := x.2.2.2.2.2.2.2.2.2.2.2
abbrev Tn.mk (counts : Int32) (people : Nat) (day : Int32) (listed : Int32) (followed : Int32) (struck : Int32) (noted : Nat) (undoable : Nat) (kinds : (Nat → Int32)) (tempers : (Nat → Int32)) (notes : (Nat → Int32)) (past : (Nat → Int32)) : Tn := (counts, people, day, listed, followed, struck, noted, undoable, kinds, tempers, notes, past)
abbrev SX : Type := Int64 × Int64 × Int32 × Int32 × Int32 × (Nat → Int32) × Int32 × Int32 × Int32 × Int32 × Bool × Bool × Nat × Nat × Nat × Int32 × Int32 × (Nat → Int32) × Tn × Tn × Tn × Tn
abbrev SX.fabove (x : SX) : Int64 := x.1
abbrev SX.fbelow (x : SX) : Int64 := x.2.1
abbrev SX.rbad (x : SX) : Int32 := x.2.2.1
abbrev SX.rno (x : SX) : Int32 := x.2.2.2.1
abbrev SX.rfull (x : SX) : Int32 := x.2.2.2.2.1
abbrev SX.keptz (x : SX) : (Nat → Int32) := x.2.2.2.2.2.1
abbrev SX.wkind (x : SX) : Int32 := x.2.2.2.2.2.2.1
abbrev SX.wtemper (x : SX) : Int32 := x.2.2.2.2.2.2.2.1
abbrev SX.wcounts (x : SX) : Int32 := x.2.2.2.2.2.2.2.2.1
abbrev SX.wday (x : SX) : Int32 := x.2.2.2.2.2.2.2.2.2.1
abbrev SX.wlisted (x : SX) : Bool := x.2.2.2.2.2.2.2.2.2.2.1
abbrev SX.wfollowed (x : SX) : Bool := x.2.2.2.2.2.2.2.2.2.2.2.1
abbrev SX.xlength (x : SX) : Nat := x.2.2.2.2.2.2.2.2.2.2.2.2.1
abbrev SX.xstart (x : SX) : Nat := x.2.2.2.2.2.2.2.2.2.2.2.2.2.1
abbrev SX.xbehind (x : SX) : Nat := x.2.2.2.2.2.2.2.2.2.2.2.2.2.2.1
abbrev SX.xsort (x : SX) : Int32 := x.2.2.2.2.2.2.2.2.2.2.2.2.2.2.2.1
abbrev SX.xnumber (x : SX) : Int32 := x.2.2.2.2.2.2.2.2.2.2.2.2.2.2.2.2.1
abbrev SX.xbytes (x : SX) : (Nat → Int32) := x.2.2.2.2.2.2.2.2.2.2.2.2.2.2.2.2.2.1
abbrev SX.T0 (x : SX) : Tn := x.2.2.2.2.2.2.2.2.2.2.2.2.2.2.2.2.2.2.1
abbrev SX.T1 (x : SX) : Tn := x.2.2.2.2.2.2.2.2.2.2.2.2.2.2.2.2.2.2.2.1
abbrev SX.T2 (x : SX) : Tn := x.2.2.2.2.2.2.2.2.2.2.2.2.2.2.2.2.2.2.2.2.1
abbrev SX.T3 (x : SX) : Tn := x.2.2.2.2.2.2.2.2.2.2.2.2.2.2.2.2.2.2.2.2.2
abbrev SX.mk (fabove : Int64) (fbelow : Int64) (rbad : Int32) (rno : Int32) (rfull : Int32) (keptz : (Nat → Int32)) (wkind : Int32) (wtemper : Int32) (wcounts : Int32) (wday : Int32) (wlisted : Bool) (wfollowed : Bool) (xlength : Nat) (xstart : Nat) (xbehind : Nat) (xsort : Int32) (xnumber : Int32) (xbytes : (Nat → Int32)) (T0 : Tn) (T1 : Tn) (T2 : Tn) (T3 : Tn) : SX := (fabove, fbelow, rbad, rno, rfull, keptz, wkind, wtemper, wcounts, wday, wlisted, wfollowed, xlength, xstart, xbehind, xsort, xnumber, xbytes, T0, T1, T2, T3)
abbrev SM : Type := Int64 × Int64 × Int32 × Int32 × Int32 × Nat × Nat × Nat × Int32 × Int32 × (Nat → Int32) × (Nat → Int32) × (Nat → Int32) × (Nat → Int32) × (Nat → Int32) × (Nat → Int32) × (Nat → Int32) × (Nat → Int32) × (Nat → Int32) × (Nat → Int32) × (Nat → Int32)
abbrev SM.mabove (x : SM) : Int64 := x.1
abbrev SM.mbelow (x : SM) : Int64 := x.2.1
abbrev SM.mlisted (x : SM) : Int32 := x.2.2.1
abbrev SM.mfollowing (x : SM) : Int32 := x.2.2.2.1
abbrev SM.mdayThen (x : SM) : Int32 := x.2.2.2.2.1
abbrev SM.mbytesLong (x : SM) : Nat := x.2.2.2.2.2.1
abbrev SM.mtokenAt (x : SM) : Nat := x.2.2.2.2.2.2.1
abbrev SM.mtokenLong (x : SM) : Nat := x.2.2.2.2.2.2.2.1
abbrev SM.mtoken (x : SM) : Int32 := x.2.2.2.2.2.2.2.2.1
abbrev SM.mvalue (x : SM) : Int32 := x.2.2.2.2.2.2.2.2.2.1
abbrev SM.mnow (x : SM) : (Nat → Int32) := x.2.2.2.2.2.2.2.2.2.2.1
abbrev SM.mkept (x : SM) : (Nat → Int32) := x.2.2.2.2.2.2.2.2.2.2.2.1
abbrev SM.misKept (x : SM) : (Nat → Int32) := x.2.2.2.2.2.2.2.2.2.2.2.2.1
abbrev SM.mrefused (x : SM) : (Nat → Int32) := x.2.2.2.2.2.2.2.2.2.2.2.2.2.1
abbrev SM.mtempers (x : SM) : (Nat → Int32) := x.2.2.2.2.2.2.2.2.2.2.2.2.2.2.1
abbrev SM.mhis (x : SM) : (Nat → Int32) := x.2.2.2.2.2.2.2.2.2.2.2.2.2.2.2.1
abbrev SM.mtheirs (x : SM) : (Nat → Int32) := x.2.2.2.2.2.2.2.2.2.2.2.2.2.2.2.2.1
abbrev SM.mmanyBy (x : SM) : (Nat → Int32) := x.2.2.2.2.2.2.2.2.2.2.2.2.2.2.2.2.2.1
abbrev SM.mbytes (x : SM) : (Nat → Int32) := x.2.2.2.2.2.2.2.2.2.2.2.2.2.2.2.2.2.2.1
abbrev SM.manew (x : SM) : (Nat → Int32) := x.2.2.2.2.2.2.2.2.2.2.2.2.2.2.2.2.2.2.2.1
abbrev SM.mvalues (x : SM) : (Nat → Int32) := x.2.2.2.2.2.2.2.2.2.2.2.2.2.2.2.2.2.2.2.2
abbrev SM.mk (mabove : Int64) (mbelow : Int64) (mlisted : Int32) (mfollowing : Int32) (mdayThen : Int32) (mbytesLong : Nat) (mtokenAt : Nat) (mtokenLong : Nat) (mtoken : Int32) (mvalue : Int32) (mnow : (Nat → Int32)) (mkept : (Nat → Int32)) (misKept : (Nat → Int32)) (mrefused : (Nat → Int32)) (mtempers : (Nat → Int32)) (mhis : (Nat → Int32)) (mtheirs : (Nat → Int32)) (mmanyBy : (Nat → Int32)) (mbytes : (Nat → Int32)) (manew : (Nat → Int32)) (mvalues : (Nat → Int32)) : SM := (mabove, mbelow, mlisted, mfollowing, mdayThen, mbytesLong, mtokenAt, mtokenLong, mtoken, mvalue, mnow, mkept, misKept, mrefused, mtempers, mhis, mtheirs, mmanyBy, mbytes, manew, mvalues)
def wSX (E : Nat → ClassId) (a : Nat → Nat) (s : SX) : va_W := wX E a s.fabove s.fbelow s.rbad s.rno s.rfull s.T0.counts s.T0.people s.T0.day s.T0.listed s.T0.followed s.T0.struck s.T0.noted s.T0.undoable s.T0.kinds s.T0.tempers s.T0.notes s.T0.past s.T1.counts s.T1.people s.T1.day s.T1.listed s.T1.followed s.T1.struck s.T1.noted s.T1.undoable s.T1.kinds s.T1.tempers s.T1.notes s.T1.past s.T2.counts s.T2.people s.T2.day s.T2.listed s.T2.followed s.T2.struck s.T2.noted s.T2.undoable s.T2.kinds s.T2.tempers s.T2.notes s.T2.past s.T3.counts s.T3.people s.T3.day s.T3.listed s.T3.followed s.T3.struck s.T3.noted s.T3.undoable s.T3.kinds s.T3.tempers s.T3.notes s.T3.past s.keptz s.wkind s.wtemper s.wcounts s.wday s.wlisted s.wfollowed s.xlength s.xstart s.xbehind s.xsort s.xnumber s.xbytes
def wSM (E : Nat → ClassId) (a : Nat → Nat) (t : SM) : va_W := wM E a t.mabove t.mbelow t.mlisted t.mfollowing t.mdayThen t.mbytesLong t.mtokenAt t.mtokenLong t.mtoken t.mvalue t.mnow t.mkept t.misKept t.mrefused t.mtempers t.mhis t.mtheirs t.mmanyBy t.mbytes t.manew t.mvalues
/-- a number of that set is kept small -/
def Sm (b : Nat) (x : Int32) : Prop := ∃ n, n < b ∧ x = nI n
abbrev RP (P : Nat) (row now : Nat → Int32) : Prop := (∀ p, p < P → now p = row p ∧ Sm 100 (row p)) ∧ (now 7 = row 7 ∧ Sm (2 ^ P) (row 7)) ∧ (now 8 = row 8 ∧ Sm (2 ^ P) (row 8)) ∧ (now 9 = row 9) ∧ (now 10 = row 10)
theorem RP.t {P : Nat} {row now : Nat → Int32} (h : RP P row now) : ∀ p, p < P → now p = row p ∧ Sm 100 (row p) := h.1
theorem RP.l {P : Nat} {row now : Nat → Int32} (h : RP P row now) : now 7 = row 7 ∧ Sm (2 ^ P) (row 7) := h.2.1
theorem RP.f {P : Nat} {row now : Nat → Int32} (h : RP P row now) : now 8 = row 8 ∧ Sm (2 ^ P) (row 8) := h.2.2.1
theorem RP.s {P : Nat} {row now : Nat → Int32} (h : RP P row now) : now 9 = row 9 := h.2.2.2.1
theorem RP.d {P : Nat} {row now : Nat → Int32} (h : RP P row now) : now 10 = row 10 := h.2.2.2.2
abbrev RT (T : Tn) (now : Nat → Int32) : Prop := (T.people ≤ 7) ∧ (T.noted ≤ 6) ∧ (T.undoable ≤ 8) ∧ (now 0 = nI T.people) ∧ (now 1 = T.counts) ∧ (now 2 = nI T.noted) ∧ (now 3 = nI T.undoable) ∧ (∀ p, p < T.people → now (4 + p) = T.kinds p ∧ Sm 6 (T.kinds p)) ∧ (∀ p, p < T.people → now (11 + p) = T.tempers p ∧ Sm 100 (T.tempers p)) ∧ (now 18 = T.listed ∧ Sm (2 ^ T.people) T.listed) ∧ (now 19 = T.followed ∧ Sm (2 ^ T.people) T.followed) ∧ (now 20 = T.struck) ∧ (now 21 = T.day) ∧ (∀ i, i < 5 * T.noted → now (22 + i) = T.notes i) ∧ (∀ j, j < T.noted → Sm 100 (T.notes (j * 5 + 3))) ∧ (∀ j, j < T.undoable → RP T.people (fun q => T.past (j * 11 + q)) (fun q => now (52 + 11 * j + q))) ∧ (∃ n, 1 ≤ n ∧ n ≤ 5 ∧ T.counts = nI n)
theorem RT.hp {T : Tn} {now : Nat → Int32} (h : RT T now) : T.people ≤ 7 := h.1
theorem RT.hn {T : Tn} {now : Nat → Int32} (h : RT T now) : T.noted ≤ 6 := h.2.1
theorem RT.hu {T : Tn} {now : Nat → Int32} (h : RT T now) : T.undoable ≤ 8 := h.2.2.1
theorem RT.e0 {T : Tn} {now : Nat → Int32} (h : RT T now) : now 0 = nI T.people := h.2.2.2.1
theorem RT.e1 {T : Tn} {now : Nat → Int32} (h : RT T now) : now 1 = T.counts := h.2.2.2.2.1
theorem RT.e2 {T : Tn} {now : Nat → Int32} (h : RT T now) : now 2 = nI T.noted := h.2.2.2.2.2.1
theorem RT.e3 {T : Tn} {now : Nat → Int32} (h : RT T now) : now 3 = nI T.undoable := h.2.2.2.2.2.2.1
theorem RT.ek {T : Tn} {now : Nat → Int32} (h : RT T now) : ∀ p, p < T.people → now (4 + p) = T.kinds p ∧ Sm 6 (T.kinds p) := h.2.2.2.2.2.2.2.1
theorem RT.et {T : Tn} {now : Nat → Int32} (h : RT T now) : ∀ p, p < T.people → now (11 + p) = T.tempers p ∧ Sm 100 (T.tempers p) := h.2.2.2.2.2.2.2.2.1
theorem RT.el {T : Tn} {now : Nat → Int32} (h : RT T now) : now 18 = T.listed ∧ Sm (2 ^ T.people) T.listed := h.2.2.2.2.2.2.2.2.2.1
theorem RT.ef {T : Tn} {now : Nat → Int32} (h : RT T now) : now 19 = T.followed ∧ Sm (2 ^ T.people) T.followed := h.2.2.2.2.2.2.2.2.2.2.1
theorem RT.es {T : Tn} {now : Nat → Int32} (h : RT T now) : now 20 = T.struck := h.2.2.2.2.2.2.2.2.2.2.2.1
theorem RT.ed {T : Tn} {now : Nat → Int32} (h : RT T now) : now 21 = T.day := h.2.2.2.2.2.2.2.2.2.2.2.2.1
theorem RT.en {T : Tn} {now : Nat → Int32} (h : RT T now) : ∀ i, i < 5 * T.noted → now (22 + i) = T.notes i := h.2.2.2.2.2.2.2.2.2.2.2.2.2.1
theorem RT.em {T : Tn} {now : Nat → Int32} (h : RT T now) : ∀ j, j < T.noted → Sm 100 (T.notes (j * 5 + 3)) := h.2.2.2.2.2.2.2.2.2.2.2.2.2.2.1
theorem RT.ep {T : Tn} {now : Nat → Int32} (h : RT T now) : ∀ j, j < T.undoable → RP T.people (fun q => T.past (j * 11 + q)) (fun q => now (52 + 11 * j + q)) := h.2.2.2.2.2.2.2.2.2.2.2.2.2.2.2.1
theorem RT.ec {T : Tn} {now : Nat → Int32} (h : RT T now) : ∃ n, 1 ≤ n ∧ n ≤ 5 ∧ T.counts = nI n := h.2.2.2.2.2.2.2.2.2.2.2.2.2.2.2.2
abbrev RR (s : SX) (t : SM) : Prop := (RT s.T0 t.mnow) ∧ (t.misKept 0 = s.keptz 0 ∧ t.misKept 1 = s.keptz 1) ∧ (¬ s.keptz 0 = 0 → RT s.T2 (fun k => t.mkept k)) ∧ (¬ s.keptz 1 = 0 → RT s.T3 (fun k => t.mkept (140 + k))) ∧ (t.mabove = s.fabove) ∧ (t.mbelow = s.fbelow) ∧ (t.mrefused 0 = s.rbad) ∧ (t.mrefused 1 = s.rno) ∧ (t.mrefused 2 = s.rfull) ∧ (t.mbytesLong = s.xlength) ∧ (s.xlength ≤ 150) ∧ (t.mbytes = s.xbytes)
theorem RR.rt {s : SX} {t : SM} (h : RR s t) : RT s.T0 t.mnow := h.1
theorem RR.rk {s : SX} {t : SM} (h : RR s t) : t.misKept 0 = s.keptz 0 ∧ t.misKept 1 = s.keptz 1 := h.2.1
theorem RR.r2 {s : SX} {t : SM} (h : RR s t) : ¬ s.keptz 0 = 0 → RT s.T2 (fun k => t.mkept k) := h.2.2.1
theorem RR.r3 {s : SX} {t : SM} (h : RR s t) : ¬ s.keptz 1 = 0 → RT s.T3 (fun k => t.mkept (140 + k)) := h.2.2.2.1
theorem RR.fa {s : SX} {t : SM} (h : RR s t) : t.mabove = s.fabove := h.2.2.2.2.1
theorem RR.fb {s : SX} {t : SM} (h : RR s t) : t.mbelow = s.fbelow := h.2.2.2.2.2.1
theorem RR.f0 {s : SX} {t : SM} (h : RR s t) : t.mrefused 0 = s.rbad := h.2.2.2.2.2.2.1
theorem RR.f1 {s : SX} {t : SM} (h : RR s t) : t.mrefused 1 = s.rno := h.2.2.2.2.2.2.2.1
theorem RR.f2 {s : SX} {t : SM} (h : RR s t) : t.mrefused 2 = s.rfull := h.2.2.2.2.2.2.2.2.1
theorem RR.xl {s : SX} {t : SM} (h : RR s t) : t.mbytesLong = s.xlength := h.2.2.2.2.2.2.2.2.2.1
theorem RR.xm {s : SX} {t : SM} (h : RR s t) : s.xlength ≤ 150 := h.2.2.2.2.2.2.2.2.2.2.1
theorem RR.xb {s : SX} {t : SM} (h : RR s t) : t.mbytes = s.xbytes := h.2.2.2.2.2.2.2.2.2.2.2
