/-! STATE: what the class holds, what the reference holds, how they belong together -/
structure Tn where
  counts : Int32
  people : Nat
  day : Int32
  listed : Int32
  followed : Int32
  struck : Int32
  noted : Nat
  undoable : Nat
  kinds : (Nat → Int32)
  tempers : (Nat → Int32)
  notes : (Nat → Int32)
  past : (Nat → Int32)
structure SX where
  fabove : Int64
  fbelow : Int64
  rbad : Int32
  rno : Int32
  rfull : Int32
  keptz : (Nat → Int32)
  wkind : Int32
  wtemper : Int32
  wcounts : Int32
  wday : Int32
  wlisted : Bool
  wfollowed : Bool
  xlength : Nat
  xstart : Nat
  xbehind : Nat
  xsort : Int32
  xnumber : Int32
  xbytes : (Nat → Int32)
  T0 : Tn
  T1 : Tn
  T2 : Tn
  T3 : Tn
structure SM where
  mabove : Int64
  mbelow : Int64
  mlisted : Int32
  mfollowing : Int32
  mdayThen : Int32
  mbytesLong : Nat
  mtokenAt : Nat
  mtokenLong : Nat
  mtoken : Int32
  mvalue : Int32
  mnow : (Nat → Int32)
  mkept : (Nat → Int32)
  misKept : (Nat → Int32)
  mrefused : (Nat → Int32)
  mtempers : (Nat → Int32)
  mhis : (Nat → Int32)
  mtheirs : (Nat → Int32)
  mmanyBy : (Nat → Int32)
  mbytes : (Nat → Int32)
  manew : (Nat → Int32)
  mvalues : (Nat → Int32)
def wSX (E : Nat → ClassId) (a : Nat → Nat) (s : SX) : va_W := wX E a s.fabove s.fbelow s.rbad s.rno s.rfull s.T0.counts s.T0.people s.T0.day s.T0.listed s.T0.followed s.T0.struck s.T0.noted s.T0.undoable s.T0.kinds s.T0.tempers s.T0.notes s.T0.past s.T1.counts s.T1.people s.T1.day s.T1.listed s.T1.followed s.T1.struck s.T1.noted s.T1.undoable s.T1.kinds s.T1.tempers s.T1.notes s.T1.past s.T2.counts s.T2.people s.T2.day s.T2.listed s.T2.followed s.T2.struck s.T2.noted s.T2.undoable s.T2.kinds s.T2.tempers s.T2.notes s.T2.past s.T3.counts s.T3.people s.T3.day s.T3.listed s.T3.followed s.T3.struck s.T3.noted s.T3.undoable s.T3.kinds s.T3.tempers s.T3.notes s.T3.past s.keptz s.wkind s.wtemper s.wcounts s.wday s.wlisted s.wfollowed s.xlength s.xstart s.xbehind s.xsort s.xnumber s.xbytes
def wSM (E : Nat → ClassId) (a : Nat → Nat) (t : SM) : va_W := wM E a t.mabove t.mbelow t.mlisted t.mfollowing t.mdayThen t.mbytesLong t.mtokenAt t.mtokenLong t.mtoken t.mvalue t.mnow t.mkept t.misKept t.mrefused t.mtempers t.mhis t.mtheirs t.mmanyBy t.mbytes t.manew t.mvalues
/-- a number of that set is kept small -/
def Sm (b : Nat) (x : Int32) : Prop := ∃ n, n < b ∧ x = nI n
/-- a past day's row: tempers, the two sets, the rest -/
structure RP (P : Nat) (row now : Nat → Int32) : Prop where
  t : ∀ p, p < P → now p = row p ∧ Sm 100 (row p)
  l : now 7 = row 7 ∧ Sm 128 (row 7)
  f : now 8 = row 8 ∧ Sm 128 (row 8)
  s : now 9 = row 9
  d : now 10 = row 10
structure RT (T : Tn) (now : Nat → Int32) : Prop where
  hp : T.people ≤ 7
  hn : T.noted ≤ 6
  hu : T.undoable ≤ 8
  e0 : now 0 = nI T.people
  e1 : now 1 = T.counts
  e2 : now 2 = nI T.noted
  e3 : now 3 = nI T.undoable
  ek : ∀ p, p < T.people → now (4 + p) = T.kinds p ∧ Sm 6 (T.kinds p)
  et : ∀ p, p < T.people → now (11 + p) = T.tempers p ∧ Sm 100 (T.tempers p)
  el : now 18 = T.listed ∧ Sm 128 T.listed
  ef : now 19 = T.followed ∧ Sm 128 T.followed
  es : now 20 = T.struck
  ed : now 21 = T.day
  en : ∀ i, i < 5 * T.noted → now (22 + i) = T.notes i
  em : ∀ j, j < T.noted → Sm 100 (T.notes (j * 5 + 3))
  ep : ∀ j, j < T.undoable → RP T.people (fun q => T.past (j * 11 + q)) (fun q => now (52 + 11 * j + q))
structure RR (s : SX) (t : SM) : Prop where
  rt : RT s.T0 t.mnow
  rk : t.misKept 0 = s.keptz 0 ∧ t.misKept 1 = s.keptz 1
  r2 : ¬ s.keptz 0 = 0 → RT s.T2 (fun k => t.mkept k)
  r3 : ¬ s.keptz 1 = 0 → RT s.T3 (fun k => t.mkept (140 + k))
  fa : t.mabove = s.fabove
  fb : t.mbelow = s.fbelow
  f0 : t.mrefused 0 = s.rbad
  f1 : t.mrefused 1 = s.rno
  f2 : t.mrefused 2 = s.rfull
  xl : t.mbytesLong = s.xlength
  xm : s.xlength ≤ 150
  xb : ∀ i, i < s.xlength → t.mbytes i = s.xbytes i
