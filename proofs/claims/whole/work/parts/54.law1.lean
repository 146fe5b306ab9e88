/-! LAW 1: the contracts over the two states; the world of both -/
set_option maxHeartbeats 4000000 in
set_option maxRecDepth 100000 in
theorem q_X_town {l : Launch} {D : va_G} {E : Nat → ClassId} {a : Nat → Nat} {u : SX} {r : SM} (h : RR u r) {counts : Int32} : wl_Met (τ := Int32 × Int32 × Int32 × Nat × Int32 × Int32 × Int32 × Int32 × Nat × Nat) l D E yX3_town cX3_town 3 (some .int) ({ frames := 1, cells := 0, slots := 0, locals := 22 } : Room) [.ref (a 0), .int counts] (wSX E a u) (fun z => some (.int z.1)) (fun z => wSX E a (uX_town u z)) (aX_town u counts) := c_X3_town 
set_option maxHeartbeats 4000000 in
set_option maxRecDepth 100000 in
theorem q_X_one {l : Launch} {D : va_G} {E : Nat → ClassId} {a : Nat → Nat} {u : SX} {r : SM} (h : RR u r) {kind temper : Int32} : wl_Met (τ := Int32 × Int32 × Int32 × Nat × Nat × (Nat → Int32) × (Nat → Int32)) l D E yX3_one cX3_one 3 (some .int) ({ frames := 1, cells := 0, slots := 0, locals := 22 } : Room) [.ref (a 0), .int kind, .int temper] (wSX E a u) (fun z => some (.int z.1)) (fun z => wSX E a (uX_one u z)) (aX_one u kind temper) := c_X3_one h.rt.hp
set_option maxHeartbeats 4000000 in
set_option maxRecDepth 100000 in
theorem q_X_type {l : Launch} {D : va_G} {E : Nat → ClassId} {a : Nat → Nat} {u : SX} {r : SM} (h : RR u r) {c : Int32} : wl_Met (τ := Int32 × Int32 × Int32 × Nat × (Nat → Int32)) l D E yX3_type cX3_type 2 (some .int) ({ frames := 1, cells := 0, slots := 0, locals := 22 } : Room) [.ref (a 0), .int c] (wSX E a u) (fun z => some (.int z.1)) (fun z => wSX E a (uX_type u z)) (aX_type u c) := c_X3_type h.xm
set_option maxHeartbeats 4000000 in
set_option maxRecDepth 100000 in
theorem q_X_clear {l : Launch} {D : va_G} {E : Nat → ClassId} {a : Nat → Nat} {u : SX} {r : SM} (h : RR u r) : wl_Met (τ := Int32 × Nat) l D E yX3_clear cX3_clear 2 (some .int) ({ frames := 0, cells := 0, slots := 0, locals := 0 } : Room) [.ref (a 0)] (wSX E a u) (fun z => some (.int z.1)) (fun z => wSX E a (uX_clear u z)) (aX_clear u ) := c_X3_clear 
set_option maxHeartbeats 4000000 in
set_option maxRecDepth 100000 in
theorem q_X_read {l : Launch} {D : va_G} {E : Nat → ClassId} {K V : Nat → Nat} {fz : Nat} {a : Nat → Nat} {u : SX} {r : SM} (h : RR u r) : wl_MetS (τ := Int32 × Int32 × Nat × Int32 × Int32 × Int32 × Int32 × Nat × Nat × (Nat → Int32) × (Nat → Int32) × (Nat → Int32) × (Nat → Int32) × Int32 × Nat × Int32 × Int32 × Int32 × Int32 × Nat × Nat × (Nat → Int32) × (Nat → Int32) × Nat × Nat × Int32 × Int32) l D E K V fz yX3_read cX3_read 2 (some .int) ({ frames := 7, cells := 0, slots := 0, locals := 151 } : Room) [.ref (a 0)] (wSX E a u) (fun z => some (.int z.1)) (fun z => wSX E a (uX_read u z)) (aX_read u ) := c_X3_read h.xm
set_option maxHeartbeats 4000000 in
set_option maxRecDepth 100000 in
theorem q_X_list {l : Launch} {D : va_G} {E : Nat → ClassId} {a : Nat → Nat} {u : SX} {r : SM} (h : RR u r) {p is : Int32} : wl_Met (τ := Int32 × Int32 × Int32 × Nat × (Nat → Int32)) l D E yX3_list cX3_list 4 (some .int) ({ frames := 2, cells := 0, slots := 0, locals := 61 } : Room) [.ref (a 0), .int p, .int is] (wSX E a u) (fun z => some (.int z.1)) (fun z => wSX E a (uX_list u z)) (aX_list u p is) := c_X3_list h.rt.hp h.rt.hu
set_option maxHeartbeats 4000000 in
set_option maxRecDepth 100000 in
theorem q_X_follow {l : Launch} {D : va_G} {E : Nat → ClassId} {a : Nat → Nat} {u : SX} {r : SM} (h : RR u r) {p is : Int32} : wl_Met (τ := Int32 × Int32 × Int32 × Nat × (Nat → Int32)) l D E yX3_follow cX3_follow 4 (some .int) ({ frames := 2, cells := 0, slots := 0, locals := 61 } : Room) [.ref (a 0), .int p, .int is] (wSX E a u) (fun z => some (.int z.1)) (fun z => wSX E a (uX_follow u z)) (aX_follow u p is) := c_X3_follow h.rt.hp h.rt.hu
set_option maxHeartbeats 4000000 in
set_option maxRecDepth 100000 in
theorem q_X_day {l : Launch} {D : va_G} {E : Nat → ClassId} {a : Nat → Nat} {u : SX} {r : SM} (h : RR u r) {n : Int32} : wl_Met (τ := Int32 × Int32 × Int32 × Int32 × Int32 × Int32 × Nat × (Nat → Int32) × (Nat → Int32) × Int32 × Int32 × Int32 × Int32 × Bool × Bool) l D E yX3_day cX3_day 4 (some .int) ({ frames := 5, cells := 0, slots := 0, locals := 115 } : Room) [.ref (a 0), .int n] (wSX E a u) (fun z => some (.int z.1)) (fun z => wSX E a (uX_day u z)) (aX_day u n) := c_X3_day h.rt.hp h.rt.hu
set_option maxHeartbeats 4000000 in
set_option maxRecDepth 100000 in
theorem q_X_undo {l : Launch} {D : va_G} {E : Nat → ClassId} {a : Nat → Nat} {u : SX} {r : SM} (h : RR u r) : wl_Met (τ := Int32 × Int32 × Int32 × Int32 × Int32 × Int32 × Nat × (Nat → Int32)) l D E yX3_undo cX3_undo 1 (some .int) ({ frames := 2, cells := 0, slots := 0, locals := 61 } : Room) [.ref (a 0)] (wSX E a u) (fun z => some (.int z.1)) (fun z => wSX E a (uX_undo u z)) (aX_undo u ) := c_X3_undo h.rt.hu
set_option maxHeartbeats 4000000 in
set_option maxRecDepth 100000 in
theorem q_X_of {l : Launch} {D : va_G} {E : Nat → ClassId} {a : Nat → Nat} {u : SX} {r : SM} (h : RR u r) {p what : Int32} : wl_Met (τ := Int32 × Int32 × Int32 × Int32 × Int32 × Int32 × Bool × Bool) l D E yX3_of cX3_of 3 (some .int) ({ frames := 4, cells := 0, slots := 0, locals := 91 } : Room) [.ref (a 0), .int p, .int what] (wSX E a u) (fun z => some (.int z.1)) (fun z => wSX E a (uX_of u z)) (aX_of u p what) := c_X3_of h.rt.hp
set_option maxHeartbeats 4000000 in
set_option maxRecDepth 100000 in
theorem q_X_then {l : Launch} {D : va_G} {E : Nat → ClassId} {a : Nat → Nat} {u : SX} {r : SM} (h : RR u r) {p m what : Int32} : wl_Met (τ := Int32 × Int32 × Int32 × Int32 × Int32 × Int32 × Bool × Bool) l D E yX3_then cX3_then 5 (some .int) ({ frames := 4, cells := 0, slots := 0, locals := 92 } : Room) [.ref (a 0), .int p, .int m, .int what] (wSX E a u) (fun z => some (.int z.1)) (fun z => wSX E a (uX_then u z)) (aX_then u p m what) := c_X3_then h.rt.hp
set_option maxHeartbeats 4000000 in
set_option maxRecDepth 100000 in
theorem q_X_when {l : Launch} {D : va_G} {E : Nat → ClassId} {a : Nat → Nat} {u : SX} {r : SM} (h : RR u r) {p : Int32} : wl_Met (τ := Int32 × Int32 × Int32 × Int32 × Int32 × Int32 × Bool × Bool) l D E yX3_when cX3_when 3 (some .int) ({ frames := 4, cells := 0, slots := 0, locals := 92 } : Room) [.ref (a 0), .int p] (wSX E a u) (fun z => some (.int z.1)) (fun z => wSX E a (uX_when u z)) (aX_when u p) := c_X3_when h.rt.hp
set_option maxHeartbeats 4000000 in
set_option maxRecDepth 100000 in
theorem q_X_lack {l : Launch} {D : va_G} {E : Nat → ClassId} {a : Nat → Nat} {u : SX} {r : SM} (h : RR u r) : wl_Met (τ := Int32 × Int32 × Int32 × Int32 × Int32 × Bool × Bool) l D E yX3_lack cX3_lack 1 (some .int) ({ frames := 6, cells := 0, slots := 0, locals := 140 } : Room) [.ref (a 0)] (wSX E a u) (fun z => some (.int z.1)) (fun z => wSX E a (uX_lack u z)) (aX_lack u ) := c_X3_lack h.rt.hp
set_option maxHeartbeats 4000000 in
set_option maxRecDepth 100000 in
theorem q_X_comesTrue {l : Launch} {D : va_G} {E : Nat → ClassId} {a : Nat → Nat} {u : SX} {r : SM} (h : RR u r) {m what : Int32} : wl_Met (τ := Int32 × Int32 × Int32 × Int32 × Int32 × Int32 × Bool × Bool) l D E yX3_comesTrue cX3_comesTrue 8 (some .int) ({ frames := 6, cells := 0, slots := 0, locals := 140 } : Room) [.ref (a 0), .int m, .int what] (wSX E a u) (fun z => some (.int z.1)) (fun z => wSX E a (uX_comesTrue u z)) (aX_comesTrue u m what) := c_X3_comesTrue h.rt.hp
set_option maxHeartbeats 4000000 in
set_option maxRecDepth 100000 in
theorem q_X_readings {l : Launch} {D : va_G} {E : Nat → ClassId} {a : Nat → Nat} {u : SX} {r : SM} (h : RR u r) : wl_Met (τ := Int32 × Int32 × Int32 × Int32 × Int32 × Bool × Bool) l D E yX3_readings cX3_readings 5 (some .int) ({ frames := 4, cells := 0, slots := 0, locals := 91 } : Room) [.ref (a 0)] (wSX E a u) (fun z => some (.int z.1)) (fun z => wSX E a (uX_readings u z)) (aX_readings u ) := c_X3_readings h.rt.hp
set_option maxHeartbeats 4000000 in
set_option maxRecDepth 100000 in
theorem q_X_roster {l : Launch} {D : va_G} {E : Nat → ClassId} {a : Nat → Nat} {u : SX} {r : SM} (h : RR u r) {n d : Int32} : wl_Met (τ := Int32 × Int32) l D E yX3_roster cX3_roster 3 (some .int) ({ frames := 1, cells := 0, slots := 0, locals := 22 } : Room) [.ref (a 0), .int n, .int d] (wSX E a u) (fun z => some (.int z.1)) (fun z => wSX E a (uX_roster u z)) (aX_roster u n d) := c_X3_roster 
set_option maxHeartbeats 4000000 in
set_option maxRecDepth 100000 in
theorem q_X_off {l : Launch} {D : va_G} {E : Nat → ClassId} {a : Nat → Nat} {u : SX} {r : SM} (h : RR u r) {p n what : Int32} : wl_Met (τ := Int32 × Int32 × Int32 × Int32 × Int32 × Int32 × Int32 × Bool × Bool) l D E yX3_off cX3_off 5 (some .int) ({ frames := 6, cells := 0, slots := 0, locals := 141 } : Room) [.ref (a 0), .int p, .int n, .int what] (wSX E a u) (fun z => some (.int z.1)) (fun z => wSX E a (uX_off u z)) (aX_off u p n what) := c_X3_off h.rt.hp
set_option maxHeartbeats 4000000 in
set_option maxRecDepth 100000 in
theorem q_X_rests {l : Launch} {D : va_G} {E : Nat → ClassId} {a : Nat → Nat} {u : SX} {r : SM} (h : RR u r) {p : Int32} : wl_Met (τ := Int32 × Int32) l D E yX3_rests cX3_rests 6 (some .int) ({ frames := 4, cells := 0, slots := 0, locals := 96 } : Room) [.ref (a 0), .int p] (wSX E a u) (fun z => some (.int z.1)) (fun z => wSX E a (uX_rests u z)) (aX_rests u p) := c_X3_rests h.rt.hp
set_option maxHeartbeats 4000000 in
set_option maxRecDepth 100000 in
theorem q_X_note {l : Launch} {D : va_G} {E : Nat → ClassId} {a : Nat → Nat} {u : SX} {r : SM} (h : RR u r) {p d followed t act : Int32} : wl_Met (τ := Int32 × Int32 × Int32 × Nat × (Nat → Int32)) l D E yX3_note cX3_note 6 (some .int) ({ frames := 2, cells := 0, slots := 0, locals := 43 } : Room) [.ref (a 0), .int p, .int d, .int followed, .int t, .int act] (wSX E a u) (fun z => some (.int z.1)) (fun z => wSX E a (uX_note u z)) (aX_note u p d followed t act) := c_X3_note h.rt.hp h.rt.hn
set_option maxHeartbeats 4000000 in
set_option maxRecDepth 100000 in
theorem q_X_forget {l : Launch} {D : va_G} {E : Nat → ClassId} {a : Nat → Nat} {u : SX} {r : SM} (h : RR u r) : wl_Met (τ := Int32 × Nat) l D E yX3_forget cX3_forget 2 (some .int) ({ frames := 0, cells := 0, slots := 0, locals := 0 } : Room) [.ref (a 0)] (wSX E a u) (fun z => some (.int z.1)) (fun z => wSX E a (uX_forget u z)) (aX_forget u ) := c_X3_forget 
set_option maxHeartbeats 4000000 in
set_option maxRecDepth 100000 in
theorem q_X_is {l : Launch} {D : va_G} {E : Nat → ClassId} {a : Nat → Nat} {u : SX} {r : SM} (h : RR u r) {p : Int32} : wl_Met (τ := Int32 × Int32) l D E yX3_is cX3_is 2 (some .int) ({ frames := 4, cells := 0, slots := 0, locals := 98 } : Room) [.ref (a 0), .int p] (wSX E a u) (fun z => some (.int z.1)) (fun z => wSX E a (uX_is u z)) (aX_is u p) := c_X3_is h.rt.hp h.rt.hn
set_option maxHeartbeats 4000000 in
set_option maxRecDepth 100000 in
theorem q_X_look {l : Launch} {D : va_G} {E : Nat → ClassId} {a : Nat → Nat} {u : SX} {r : SM} (h : RR u r) {p t : Int32} : wl_Met (τ := Int32 × Int32) l D E yX3_look cX3_look 8 (some .int) ({ frames := 4, cells := 0, slots := 0, locals := 98 } : Room) [.ref (a 0), .int p, .int t] (wSX E a u) (fun z => some (.int z.1)) (fun z => wSX E a (uX_look u z)) (aX_look u p t) := c_X3_look h.rt.hp h.rt.hn
set_option maxHeartbeats 4000000 in
set_option maxRecDepth 100000 in
theorem q_X_source {l : Launch} {D : va_G} {E : Nat → ClassId} {a : Nat → Nat} {u : SX} {r : SM} (h : RR u r) {what : Int32} : wl_Met (τ := Int32 × Int32) l D E yX3_source cX3_source 2 (some .int) ({ frames := 2, cells := 0, slots := 0, locals := 46 } : Room) [.ref (a 0), .int what] (wSX E a u) (fun z => some (.int z.1)) (fun z => wSX E a (uX_source u z)) (aX_source u what) := c_X3_source h.rt.hp
set_option maxHeartbeats 4000000 in
set_option maxRecDepth 100000 in
theorem q_X_odds {l : Launch} {D : va_G} {E : Nat → ClassId} {a : Nat → Nat} {u : SX} {r : SM} (h : RR u r) {p n c : Int32} : wl_Met (τ := Int32 × Int64 × Int64 × Int32 × Int32 × Int32 × Int32 × Int32 × Int32 × Bool × Bool) l D E yX3_odds cX3_odds 12 (some .int) ({ frames := 5, cells := 0, slots := 0, locals := 116 } : Room) [.ref (a 0), .int p, .int n, .int c] (wSX E a u) (fun z => some (.int z.1)) (fun z => wSX E a (uX_odds u z)) (aX_odds u p n c) := c_X3_odds h.rt.hp
set_option maxHeartbeats 4000000 in
set_option maxRecDepth 100000 in
theorem q_X_years {l : Launch} {D : va_G} {E : Nat → ClassId} {a : Nat → Nat} {u : SX} {r : SM} (h : RR u r) {seed n : Int32} : wl_Met (τ := Int32 × Int32 × Int32 × Nat × Int32 × Int32 × Int32 × Int32 × Nat × Nat × (Nat → Int32) × (Nat → Int32) × (Nat → Int32) × (Nat → Int32) × Int32 × Int32 × Int32 × Int32 × Bool × Bool) l D E yX3_years cX3_years 8 (some .int) ({ frames := 5, cells := 0, slots := 0, locals := 115 } : Room) [.ref (a 0), .int seed, .int n] (wSX E a u) (fun z => some (.int z.1)) (fun z => wSX E a (uX_years u z)) (aX_years u seed n) := c_X3_years h.rt.hp
set_option maxHeartbeats 4000000 in
set_option maxRecDepth 100000 in
theorem q_X_part {l : Launch} {D : va_G} {E : Nat → ClassId} {a : Nat → Nat} {u : SX} {r : SM} (h : RR u r) {what : Int32} : wl_Met (τ := Int64 × Int32) l D E yX3_part cX3_part 2 (some .long) ({ frames := 1, cells := 0, slots := 0, locals := 22 } : Room) [.ref (a 0), .int what] (wSX E a u) (fun z => some (.long z.1)) (fun z => wSX E a (uX_part u z)) (aX_part u what) := c_X3_part 
set_option maxHeartbeats 4000000 in
set_option maxRecDepth 100000 in
theorem q_X_image {l : Launch} {D : va_G} {E : Nat → ClassId} {a : Nat → Nat} {u : SX} {r : SM} (h : RR u r) {i : Int32} : wl_Met (τ := Int32 × Int32 × Int32 × Nat × Int32 × Int32 × Int32 × Int32 × Nat × Nat × (Nat → Int32) × (Nat → Int32) × (Nat → Int32) × (Nat → Int32) × Int32 × Nat × Int32 × Int32 × Int32 × Int32 × Nat × Nat × (Nat → Int32) × (Nat → Int32) × (Nat → Int32) × (Nat → Int32) × (Nat → Int32)) l D E yX3_image cX3_image 2 (some .int) ({ frames := 2, cells := 0, slots := 0, locals := 61 } : Room) [.ref (a 0), .int i] (wSX E a u) (fun z => some (.int z.1)) (fun z => wSX E a (uX_image u z)) (aX_image u i) := c_X3_image 
set_option maxHeartbeats 4000000 in
set_option maxRecDepth 100000 in
theorem q_X_from {l : Launch} {D : va_G} {E : Nat → ClassId} {a : Nat → Nat} {u : SX} {r : SM} (h : RR u r) {i : Int32} : wl_Met (τ := Int32 × Int32 × Int32 × Int32 × Nat × Int32 × Int32 × Int32 × Int32 × Nat × Nat × (Nat → Int32) × (Nat → Int32) × (Nat → Int32) × (Nat → Int32)) l D E yX3_from cX3_from 2 (some .int) ({ frames := 2, cells := 0, slots := 0, locals := 61 } : Room) [.ref (a 0), .int i] (wSX E a u) (fun z => some (.int z.1)) (fun z => wSX E a (uX_from u z)) (aX_from u i) := c_X3_from 
set_option maxHeartbeats 4000000 in
set_option maxRecDepth 100000 in
theorem q_X_status {l : Launch} {D : va_G} {E : Nat → ClassId} {a : Nat → Nat} {u : SX} {r : SM} (h : RR u r) {what : Int32} : wl_Met (τ := Int32 × Int32) l D E yX3_status cX3_status 2 (some .int) ({ frames := 1, cells := 0, slots := 0, locals := 20 } : Room) [.ref (a 0), .int what] (wSX E a u) (fun z => some (.int z.1)) (fun z => wSX E a (uX_status u z)) (aX_status u what) := c_X3_status 
set_option maxHeartbeats 4000000 in
set_option maxRecDepth 100000 in
theorem q_X_count {l : Launch} {D : va_G} {E : Nat → ClassId} {a : Nat → Nat} {u : SX} {r : SM} (h : RR u r) {what : Int32} : wl_Met (τ := Int32 × Int32) l D E yX3_count cX3_count 2 (some .int) ({ frames := 2, cells := 0, slots := 0, locals := 41 } : Room) [.ref (a 0), .int what] (wSX E a u) (fun z => some (.int z.1)) (fun z => wSX E a (uX_count u z)) (aX_count u what) := c_X3_count 
set_option maxHeartbeats 4000000 in
set_option maxRecDepth 100000 in
theorem q_X_digest {l : Launch} {D : va_G} {E : Nat → ClassId} {a : Nat → Nat} {u : SX} {r : SM} (h : RR u r) : wl_Met (τ := Int64) l D E yX3_digest cX3_digest 4 (some .long) ({ frames := 2, cells := 0, slots := 0, locals := 41 } : Room) [.ref (a 0)] (wSX E a u) (fun z => some (.long z)) (fun z => wSX E a (uX_digest u z)) (aX_digest u) := c_X3_digest h.rt.hp h.rt.hn
set_option maxHeartbeats 4000000 in
set_option maxRecDepth 100000 in
theorem q_M_town {l : Launch} {D : va_G} {E : Nat → ClassId} {a : Nat → Nat} {u : SX} {r : SM} (h : RR u r) {counts : Int32} : wl_Met (τ := Int32 × (Nat → Int32) × (Nat → Int32)) l D E yX4_town cX4_town 3 (some .int) ({ frames := 1, cells := 0, slots := 0, locals := 25 } : Room) [.ref (a 0), .int counts] (wSM E a r) (fun z => some (.int z.1)) (fun z => wSM E a (uM_town r z)) (aM_town u r counts) := c_X4_town h.rt.e0
set_option maxHeartbeats 4000000 in
set_option maxRecDepth 100000 in
theorem q_M_one {l : Launch} {D : va_G} {E : Nat → ClassId} {a : Nat → Nat} {u : SX} {r : SM} (h : RR u r) {kind temper : Int32} : wl_Met (τ := Int32 × (Nat → Int32) × (Nat → Int32)) l D E yX4_one cX4_one 3 (some .int) ({ frames := 1, cells := 0, slots := 0, locals := 25 } : Room) [.ref (a 0), .int kind, .int temper] (wSM E a r) (fun z => some (.int z.1)) (fun z => wSM E a (uM_one r z)) (aM_one u r kind temper) := c_X4_one h.rt.e0 h.rt.hp
set_option maxHeartbeats 4000000 in
set_option maxRecDepth 100000 in
theorem q_M_type {l : Launch} {D : va_G} {E : Nat → ClassId} {a : Nat → Nat} {u : SX} {r : SM} (h : RR u r) {c : Int32} : wl_Met (τ := Int32 × Nat × (Nat → Int32) × (Nat → Int32)) l D E yX4_type cX4_type 2 (some .int) ({ frames := 1, cells := 0, slots := 0, locals := 25 } : Room) [.ref (a 0), .int c] (wSM E a r) (fun z => some (.int z.1)) (fun z => wSM E a (uM_type r z)) (aM_type u r c) := c_X4_type (by rw [show r.mbytesLong = u.xlength from h.xl]; exact h.xm)
set_option maxHeartbeats 4000000 in
set_option maxRecDepth 100000 in
theorem q_M_clear {l : Launch} {D : va_G} {E : Nat → ClassId} {a : Nat → Nat} {u : SX} {r : SM} (h : RR u r) : wl_Met (τ := Int32 × Nat) l D E yX4_clear cX4_clear 2 (some .int) ({ frames := 0, cells := 0, slots := 0, locals := 0 } : Room) [.ref (a 0)] (wSM E a r) (fun z => some (.int z.1)) (fun z => wSM E a (uM_clear r z)) (aM_clear u r ) := c_X4_clear 
set_option maxHeartbeats 4000000 in
set_option maxRecDepth 100000 in
theorem q_M_read {l : Launch} {D : va_G} {E : Nat → ClassId} {a : Nat → Nat} {u : SX} {r : SM} (h : RR u r) : wl_Met (τ := Int32 × Nat × Nat × Int32 × Int32 × (Nat → Int32) × (Nat → Int32) × (Nat → Int32)) l D E yX4_read cX4_read 3 (some .int) ({ frames := 7, cells := 0, slots := 0, locals := 153 } : Room) [.ref (a 0)] (wSM E a r) (fun z => some (.int z.1)) (fun z => wSM E a (uM_read r z)) (aM_read u r ) := c_X4_read (by rw [show r.mbytesLong = u.xlength from h.xl]; exact h.xm)
set_option maxHeartbeats 4000000 in
set_option maxRecDepth 100000 in
theorem q_M_list {l : Launch} {D : va_G} {E : Nat → ClassId} {a : Nat → Nat} {u : SX} {r : SM} (h : RR u r) {p is : Int32} : wl_Met (τ := Int32 × (Nat → Int32) × (Nat → Int32)) l D E yX4_list cX4_list 3 (some .int) ({ frames := 2, cells := 0, slots := 0, locals := 46 } : Room) [.ref (a 0), .int p, .int is] (wSM E a r) (fun z => some (.int z.1)) (fun z => wSM E a (uM_list r z)) (aM_list u r p is) := c_X4_list h.rt.e0 h.rt.hp h.rt.e3 h.rt.hu
set_option maxHeartbeats 4000000 in
set_option maxRecDepth 100000 in
theorem q_M_follow {l : Launch} {D : va_G} {E : Nat → ClassId} {a : Nat → Nat} {u : SX} {r : SM} (h : RR u r) {p is : Int32} : wl_Met (τ := Int32 × (Nat → Int32) × (Nat → Int32)) l D E yX4_follow cX4_follow 3 (some .int) ({ frames := 2, cells := 0, slots := 0, locals := 46 } : Room) [.ref (a 0), .int p, .int is] (wSM E a r) (fun z => some (.int z.1)) (fun z => wSM E a (uM_follow r z)) (aM_follow u r p is) := c_X4_follow h.rt.e0 h.rt.hp h.rt.e3 h.rt.hu
set_option maxHeartbeats 4000000 in
set_option maxRecDepth 100000 in
theorem q_M_day {l : Launch} {D : va_G} {E : Nat → ClassId} {a : Nat → Nat} {u : SX} {r : SM} (h : RR u r) {n : Int32} : wl_Met (τ := Int32 × Int32 × Int32 × Int32 × (Nat → Int32) × (Nat → Int32) × (Nat → Int32)) l D E yX4_day cX4_day 6 (some .int) ({ frames := 4, cells := 0, slots := 0, locals := 90 } : Room) [.ref (a 0), .int n] (wSM E a r) (fun z => some (.int z.1)) (fun z => wSM E a (uM_day r z)) (aM_day u r n) := c_X4_day h.rt.e0 h.rt.hp h.rt.e3 h.rt.hu
set_option maxHeartbeats 4000000 in
set_option maxRecDepth 100000 in
theorem q_M_undo {l : Launch} {D : va_G} {E : Nat → ClassId} {a : Nat → Nat} {u : SX} {r : SM} (h : RR u r) : wl_Met (τ := Int32 × (Nat → Int32) × (Nat → Int32)) l D E yX4_undo cX4_undo 2 (some .int) ({ frames := 1, cells := 0, slots := 0, locals := 20 } : Room) [.ref (a 0)] (wSM E a r) (fun z => some (.int z.1)) (fun z => wSM E a (uM_undo r z)) (aM_undo u r ) := c_X4_undo h.rt.e3 h.rt.hu
set_option maxHeartbeats 4000000 in
set_option maxRecDepth 100000 in
theorem q_M_of {l : Launch} {D : va_G} {E : Nat → ClassId} {a : Nat → Nat} {u : SX} {r : SM} (h : RR u r) {p what : Int32} : wl_Met (τ := Int32 × Int32 × Int32 × Int32 × (Nat → Int32) × (Nat → Int32)) l D E yX4_of cX4_of 3 (some .int) ({ frames := 2, cells := 0, slots := 0, locals := 47 } : Room) [.ref (a 0), .int p, .int what] (wSM E a r) (fun z => some (.int z.1)) (fun z => wSM E a (uM_of r z)) (aM_of u r p what) := c_X4_of h.rt.e0 h.rt.hp
set_option maxHeartbeats 4000000 in
set_option maxRecDepth 100000 in
theorem q_M_then {l : Launch} {D : va_G} {E : Nat → ClassId} {a : Nat → Nat} {u : SX} {r : SM} (h : RR u r) {p m what : Int32} : wl_Met (τ := Int32 × Int32 × Int32 × Int32 × (Nat → Int32) × (Nat → Int32)) l D E yX4_then cX4_then 6 (some .int) ({ frames := 4, cells := 0, slots := 0, locals := 90 } : Room) [.ref (a 0), .int p, .int m, .int what] (wSM E a r) (fun z => some (.int z.1)) (fun z => wSM E a (uM_then r z)) (aM_then u r p m what) := c_X4_then h.rt.e0 h.rt.hp
set_option maxHeartbeats 4000000 in
set_option maxRecDepth 100000 in
theorem q_M_when {l : Launch} {D : va_G} {E : Nat → ClassId} {a : Nat → Nat} {u : SX} {r : SM} (h : RR u r) {p : Int32} : wl_Met (τ := Int32 × Int32 × Int32 × Int32 × (Nat → Int32) × (Nat → Int32)) l D E yX4_when cX4_when 3 (some .int) ({ frames := 4, cells := 0, slots := 0, locals := 90 } : Room) [.ref (a 0), .int p] (wSM E a r) (fun z => some (.int z.1)) (fun z => wSM E a (uM_when r z)) (aM_when u r p) := c_X4_when h.rt.e0 h.rt.hp
set_option maxHeartbeats 4000000 in
set_option maxRecDepth 100000 in
theorem q_M_lack {l : Launch} {D : va_G} {E : Nat → ClassId} {a : Nat → Nat} {u : SX} {r : SM} (h : RR u r) : wl_Met (τ := Int32 × Int32 × Int32 × Int32 × (Nat → Int32)) l D E yX4_lack cX4_lack 3 (some .int) ({ frames := 5, cells := 0, slots := 0, locals := 116 } : Room) [.ref (a 0)] (wSM E a r) (fun z => some (.int z.1)) (fun z => wSM E a (uM_lack r z)) (aM_lack u r ) := c_X4_lack h.rt.e0 h.rt.hp
set_option maxHeartbeats 4000000 in
set_option maxRecDepth 100000 in
theorem q_M_comesTrue {l : Launch} {D : va_G} {E : Nat → ClassId} {a : Nat → Nat} {u : SX} {r : SM} (h : RR u r) {m what : Int32} : wl_Met (τ := Int32 × Int32 × Int32 × Int32 × (Nat → Int32) × (Nat → Int32)) l D E yX4_comesTrue cX4_comesTrue 9 (some .int) ({ frames := 5, cells := 0, slots := 0, locals := 116 } : Room) [.ref (a 0), .int m, .int what] (wSM E a r) (fun z => some (.int z.1)) (fun z => wSM E a (uM_comesTrue r z)) (aM_comesTrue u r m what) := c_X4_comesTrue h.rt.e0 h.rt.hp
set_option maxHeartbeats 4000000 in
set_option maxRecDepth 100000 in
theorem q_M_readings {l : Launch} {D : va_G} {E : Nat → ClassId} {a : Nat → Nat} {u : SX} {r : SM} (h : RR u r) : wl_Met (τ := Int32 × Int32 × Int32 × Int32 × (Nat → Int32)) l D E yX4_readings cX4_readings 5 (some .int) ({ frames := 2, cells := 0, slots := 0, locals := 47 } : Room) [.ref (a 0)] (wSM E a r) (fun z => some (.int z.1)) (fun z => wSM E a (uM_readings r z)) (aM_readings u r ) := c_X4_readings h.rt.e0 h.rt.hp
set_option maxHeartbeats 4000000 in
set_option maxRecDepth 100000 in
theorem q_M_roster {l : Launch} {D : va_G} {E : Nat → ClassId} {a : Nat → Nat} {u : SX} {r : SM} (h : RR u r) {n d : Int32} : wl_Met (τ := Int32 × (Nat → Int32)) l D E yX4_roster cX4_roster 3 (some .int) ({ frames := 1, cells := 0, slots := 0, locals := 25 } : Room) [.ref (a 0), .int n, .int d] (wSM E a r) (fun z => some (.int z.1)) (fun z => wSM E a (uM_roster r z)) (aM_roster u r n d) := c_X4_roster 
set_option maxHeartbeats 4000000 in
set_option maxRecDepth 100000 in
theorem q_M_off {l : Launch} {D : va_G} {E : Nat → ClassId} {a : Nat → Nat} {u : SX} {r : SM} (h : RR u r) {p n what : Int32} : wl_Met (τ := Int32 × Int32 × Int32 × Int32 × (Nat → Int32) × (Nat → Int32)) l D E yX4_off cX4_off 7 (some .int) ({ frames := 5, cells := 0, slots := 0, locals := 115 } : Room) [.ref (a 0), .int p, .int n, .int what] (wSM E a r) (fun z => some (.int z.1)) (fun z => wSM E a (uM_off r z)) (aM_off u r p n what) := c_X4_off h.rt.e0 h.rt.hp
set_option maxHeartbeats 4000000 in
set_option maxRecDepth 100000 in
theorem q_M_rests {l : Launch} {D : va_G} {E : Nat → ClassId} {a : Nat → Nat} {u : SX} {r : SM} (h : RR u r) {p : Int32} : wl_Met (τ := Int32 × (Nat → Int32) × (Nat → Int32) × (Nat → Int32)) l D E yX4_rests cX4_rests 8 (some .int) ({ frames := 2, cells := 0, slots := 0, locals := 46 } : Room) [.ref (a 0), .int p] (wSM E a r) (fun z => some (.int z.1)) (fun z => wSM E a (uM_rests r z)) (aM_rests u r p) := c_X4_rests h.rt.e0 h.rt.hp
set_option maxHeartbeats 4000000 in
set_option maxRecDepth 100000 in
theorem q_M_note {l : Launch} {D : va_G} {E : Nat → ClassId} {a : Nat → Nat} {u : SX} {r : SM} (h : RR u r) {p d followed t act : Int32} : wl_Met (τ := Int32 × (Nat → Int32) × (Nat → Int32)) l D E yX4_note cX4_note 7 (some .int) ({ frames := 2, cells := 0, slots := 0, locals := 46 } : Room) [.ref (a 0), .int p, .int d, .int followed, .int t, .int act] (wSM E a r) (fun z => some (.int z.1)) (fun z => wSM E a (uM_note r z)) (aM_note u r p d followed t act) := c_X4_note h.rt.e0 h.rt.hp h.rt.e2 h.rt.hn
set_option maxHeartbeats 4000000 in
set_option maxRecDepth 100000 in
theorem q_M_forget {l : Launch} {D : va_G} {E : Nat → ClassId} {a : Nat → Nat} {u : SX} {r : SM} (h : RR u r) : wl_Met (τ := Int32 × (Nat → Int32)) l D E yX4_forget cX4_forget 2 (some .int) ({ frames := 0, cells := 0, slots := 0, locals := 0 } : Room) [.ref (a 0)] (wSM E a r) (fun z => some (.int z.1)) (fun z => wSM E a (uM_forget r z)) (aM_forget u r ) := c_X4_forget h.rt.e2
set_option maxHeartbeats 4000000 in
set_option maxRecDepth 100000 in
theorem q_M_is {l : Launch} {D : va_G} {E : Nat → ClassId} {a : Nat → Nat} {u : SX} {r : SM} (h : RR u r) {p : Int32} : wl_Met (τ := Int32 × (Nat → Int32)) l D E yX4_is cX4_is 2 (some .int) ({ frames := 2, cells := 0, slots := 0, locals := 52 } : Room) [.ref (a 0), .int p] (wSM E a r) (fun z => some (.int z.1)) (fun z => wSM E a (uM_is r z)) (aM_is u r p) := c_X4_is h.rt.e0 h.rt.e2 h.rt.hn
set_option maxHeartbeats 4000000 in
set_option maxRecDepth 100000 in
theorem q_M_look {l : Launch} {D : va_G} {E : Nat → ClassId} {a : Nat → Nat} {u : SX} {r : SM} (h : RR u r) {p t : Int32} : wl_Met (τ := Int32 × (Nat → Int32) × (Nat → Int32)) l D E yX4_look cX4_look 10 (some .int) ({ frames := 2, cells := 0, slots := 0, locals := 52 } : Room) [.ref (a 0), .int p, .int t] (wSM E a r) (fun z => some (.int z.1)) (fun z => wSM E a (uM_look r z)) (aM_look u r p t) := c_X4_look h.rt.e0 h.rt.e2 h.rt.hn
set_option maxHeartbeats 4000000 in
set_option maxRecDepth 100000 in
theorem q_M_source {l : Launch} {D : va_G} {E : Nat → ClassId} {a : Nat → Nat} {u : SX} {r : SM} (h : RR u r) {what : Int32} : wl_Met (τ := Int32 × (Nat → Int32)) l D E yX4_source cX4_source 2 (some .int) ({ frames := 2, cells := 0, slots := 0, locals := 46 } : Room) [.ref (a 0), .int what] (wSM E a r) (fun z => some (.int z.1)) (fun z => wSM E a (uM_source r z)) (aM_source u r what) := c_X4_source h.rt.e0 h.rt.hp
set_option maxHeartbeats 4000000 in
set_option maxRecDepth 100000 in
theorem q_M_odds {l : Launch} {D : va_G} {E : Nat → ClassId} {a : Nat → Nat} {u : SX} {r : SM} (h : RR u r) {p n c : Int32} : wl_Met (τ := Int32 × Int64 × Int64 × Int32 × Int32 × Int32 × (Nat → Int32) × (Nat → Int32)) l D E yX4_odds cX4_odds 12 (some .int) ({ frames := 5, cells := 0, slots := 0, locals := 115 } : Room) [.ref (a 0), .int p, .int n, .int c] (wSM E a r) (fun z => some (.int z.1)) (fun z => wSM E a (uM_odds r z)) (aM_odds u r p n c) := c_X4_odds h.rt.e0 h.rt.hp
set_option maxHeartbeats 4000000 in
set_option maxRecDepth 100000 in
theorem q_M_years {l : Launch} {D : va_G} {E : Nat → ClassId} {a : Nat → Nat} {u : SX} {r : SM} (h : RR u r) {seed n : Int32} : wl_Met (τ := Int32 × Int32 × Int32 × Int32 × (Nat → Int32) × (Nat → Int32)) l D E yX4_years cX4_years 8 (some .int) ({ frames := 4, cells := 0, slots := 0, locals := 90 } : Room) [.ref (a 0), .int seed, .int n] (wSM E a r) (fun z => some (.int z.1)) (fun z => wSM E a (uM_years r z)) (aM_years u r seed n) := c_X4_years h.rt.e0 h.rt.hp
set_option maxHeartbeats 4000000 in
set_option maxRecDepth 100000 in
theorem q_M_part {l : Launch} {D : va_G} {E : Nat → ClassId} {a : Nat → Nat} {u : SX} {r : SM} (h : RR u r) {what : Int32} : wl_Met (τ := Int64 × (Nat → Int32)) l D E yX4_part cX4_part 2 (some .long) ({ frames := 1, cells := 0, slots := 0, locals := 21 } : Room) [.ref (a 0), .int what] (wSM E a r) (fun z => some (.long z.1)) (fun z => wSM E a (uM_part r z)) (aM_part u r what) := c_X4_part 
set_option maxHeartbeats 4000000 in
set_option maxRecDepth 100000 in
theorem q_M_image {l : Launch} {D : va_G} {E : Nat → ClassId} {a : Nat → Nat} {u : SX} {r : SM} (h : RR u r) {i : Int32} : wl_Met (τ := Int32 × (Nat → Int32) × (Nat → Int32) × (Nat → Int32)) l D E yX4_image cX4_image 3 (some .int) ({ frames := 1, cells := 0, slots := 0, locals := 25 } : Room) [.ref (a 0), .int i] (wSM E a r) (fun z => some (.int z.1)) (fun z => wSM E a (uM_image r z)) (aM_image u r i) := c_X4_image 
set_option maxHeartbeats 4000000 in
set_option maxRecDepth 100000 in
theorem q_M_from {l : Launch} {D : va_G} {E : Nat → ClassId} {a : Nat → Nat} {u : SX} {r : SM} (h : RR u r) {i : Int32} : wl_Met (τ := Int32 × (Nat → Int32) × (Nat → Int32)) l D E yX4_from cX4_from 3 (some .int) ({ frames := 1, cells := 0, slots := 0, locals := 25 } : Room) [.ref (a 0), .int i] (wSM E a r) (fun z => some (.int z.1)) (fun z => wSM E a (uM_from r z)) (aM_from u r i) := c_X4_from 
set_option maxHeartbeats 4000000 in
set_option maxRecDepth 100000 in
theorem q_M_status {l : Launch} {D : va_G} {E : Nat → ClassId} {a : Nat → Nat} {u : SX} {r : SM} (h : RR u r) {what : Int32} : wl_Met (τ := Int32 × (Nat → Int32)) l D E yX4_status cX4_status 2 (some .int) ({ frames := 1, cells := 0, slots := 0, locals := 25 } : Room) [.ref (a 0), .int what] (wSM E a r) (fun z => some (.int z.1)) (fun z => wSM E a (uM_status r z)) (aM_status u r what) := c_X4_status 
set_option maxHeartbeats 4000000 in
set_option maxRecDepth 100000 in
theorem q_M_count {l : Launch} {D : va_G} {E : Nat → ClassId} {a : Nat → Nat} {u : SX} {r : SM} (h : RR u r) {what : Int32} : wl_Met (τ := Int32 × (Nat → Int32)) l D E yX4_count cX4_count 2 (some .int) ({ frames := 2, cells := 0, slots := 0, locals := 43 } : Room) [.ref (a 0), .int what] (wSM E a r) (fun z => some (.int z.1)) (fun z => wSM E a (uM_count r z)) (aM_count u r what) := c_X4_count h.rt.e0
set_option maxHeartbeats 4000000 in
set_option maxRecDepth 100000 in
theorem q_M_digest {l : Launch} {D : va_G} {E : Nat → ClassId} {a : Nat → Nat} {u : SX} {r : SM} (h : RR u r) : wl_Met (τ := Int64) l D E yX4_digest cX4_digest 4 (some .long) ({ frames := 2, cells := 0, slots := 0, locals := 43 } : Room) [.ref (a 0)] (wSM E a r) (fun z => some (.long z)) (fun z => wSM E a (uM_digest r z)) (aM_digest u r) := c_X4_digest h.rt.e0 h.rt.hp h.rt.e2 h.rt.hn
set_option maxHeartbeats 4000000 in
set_option maxRecDepth 100000 in
theorem wl_LX {τ : Type} {l : Launch} {D : va_G} {E : Nat → ClassId} {y : MethodName} {cc : ByteArray} {maxL : Nat} {ret : Option FieldType} {rm : Room} {av : List Value} {F : τ → Option Value} {x0 : τ} {a b : Nat → Nat} {u : SX} {r : SM} {g : τ → SX} (h : wl_Met l D E y cc maxL ret rm av (wSX E a u) F (fun z => wSX E a (g z)) x0) : wl_Met l D E y cc maxL ret rm av (wSX E a u ++ wSM E b r) F (fun z => wSX E a (g z) ++ wSM E b r) x0 :=
  wl_lift h [0, 1, 2, 3, 4, 5, 6, 7, 8, 9, 10, 11, 12, 13, 14, 15, 16, 17, 18, 19, 20, 21, 22, 23, 24, 25] [26, 27, 28, 29, 30, 31, 32, 33, 34, 35, 36, 37] [12, 13, 14, 15, 16, 17, 18, 19, 20, 21, 22, 23, 24, 25, 26, 27, 28, 29, 30, 31, 32, 33, 34, 35, 36, 37, 0, 1, 2, 3, 4, 5, 6, 7, 8, 9, 10, 11] (wr := wSM E b r) rfl rfl (by decide) (by decide) (by decide) (by decide) (fun _ => rfl)
set_option maxHeartbeats 4000000 in
set_option maxRecDepth 100000 in
theorem wl_LM {τ : Type} {l : Launch} {D : va_G} {E : Nat → ClassId} {y : MethodName} {cc : ByteArray} {maxL : Nat} {ret : Option FieldType} {rm : Room} {av : List Value} {F : τ → Option Value} {x0 : τ} {a b : Nat → Nat} {u : SX} {r : SM} {g : τ → SM} (h : wl_Met l D E y cc maxL ret rm av (wSM E b r) F (fun z => wSM E b (g z)) x0) : wl_Met l D E y cc maxL ret rm av (wSX E a u ++ wSM E b r) F (fun z => wSX E a u ++ wSM E b (g z)) x0 :=
  wl_lift h [26, 27, 28, 29, 30, 31, 32, 33, 34, 35, 36, 37] [0, 1, 2, 3, 4, 5, 6, 7, 8, 9, 10, 11, 12, 13, 14, 15, 16, 17, 18, 19, 20, 21, 22, 23, 24, 25] [0, 1, 2, 3, 4, 5, 6, 7, 8, 9, 10, 11, 12, 13, 14, 15, 16, 17, 18, 19, 20, 21, 22, 23, 24, 25, 26, 27, 28, 29, 30, 31, 32, 33, 34, 35, 36, 37] (wr := wSX E a u) rfl rfl (by decide) (by decide) (by decide) (by decide) (fun _ => rfl)
set_option maxHeartbeats 4000000 in
set_option maxRecDepth 100000 in
theorem wl_LXS {τ : Type} {l : Launch} {D : va_G} {E : Nat → ClassId} {y : MethodName} {cc : ByteArray} {maxL : Nat} {ret : Option FieldType} {rm : Room} {av : List Value} {F : τ → Option Value} {x0 : τ} {a b : Nat → Nat} {u : SX} {r : SM} {K V : Nat → Nat} {fz : Nat} {g : τ → SX} (h : wl_MetS l D E K V fz y cc maxL ret rm av (wSX E a u) F (fun z => wSX E a (g z)) x0) : wl_MetS l D E K V fz y cc maxL ret rm av (wSX E a u ++ wSM E b r) F (fun z => wSX E a (g z) ++ wSM E b r) x0 :=
  wl_liftS h [0, 1, 2, 3, 4, 5, 6, 7, 8, 9, 10, 11, 12, 13, 14, 15, 16, 17, 18, 19, 20, 21, 22, 23, 24, 25] [26, 27, 28, 29, 30, 31, 32, 33, 34, 35, 36, 37] [12, 13, 14, 15, 16, 17, 18, 19, 20, 21, 22, 23, 24, 25, 26, 27, 28, 29, 30, 31, 32, 33, 34, 35, 36, 37, 0, 1, 2, 3, 4, 5, 6, 7, 8, 9, 10, 11] (wr := wSM E b r) rfl rfl (by decide) (by decide) (by decide) (by decide) (fun _ => rfl)
