/-! the cells in the order in which they are made: 1 StageHouse, 2 Tape, 3 Tape.bytes, 4 Rig, 5 Rig.axes, 6 Rig.events, 7 Rig.scratch, 8 Axis0, 9 Axis0.codes, 10 Axis1, 11 Axis1.codes, 12 Axis2, 13 Axis2.codes, 14 Axis3, 15 Axis3.codes, 16 Axis4, 17 Axis4.codes, 18 Axis5, 19 Axis5.codes, 20 Axis6, 21 Axis6.codes, 22 Axis7, 23 Axis7.codes, 24 Board, 25 Board.players, 26 Board.owners, 27 Board.goals, 28 Board.channels, 29 Board.curves, 30 Board.spare, 31 Board.spare.names, 32 Board.spare.ups, 33 Board.spare.downs, 34 Board.spare.waits, 35 Board.spare.follows, 36 Board.spare.links, 37 Board.spare.bases, 38 Board.spare.firsts, 39 Board.spare.kinds, 40 Board.spare.whose, 41 Board.spare.values, 42 Board.spare.masks, 43 CueList0, 44 CueList0.script, 45 CueList0.script.names, 46 CueList0.script.ups, 47 CueList0.script.downs, 48 CueList0.script.waits, 49 CueList0.script.follows, 50 CueList0.script.links, 51 CueList0.script.bases, 52 CueList0.script.firsts, 53 CueList0.script.kinds, 54 CueList0.script.whose, 55 CueList0.script.values, 56 CueList0.script.masks, 57 CueList0.targets, 58 CueList0.starts, 59 CueList0.since, 60 CueList0.spans, 61 CueList1, 62 CueList1.script, 63 CueList1.script.names, 64 CueList1.script.ups, 65 CueList1.script.downs, 66 CueList1.script.waits, 67 CueList1.script.follows, 68 CueList1.script.links, 69 CueList1.script.bases, 70 CueList1.script.firsts, 71 CueList1.script.kinds, 72 CueList1.script.whose, 73 CueList1.script.values, 74 CueList1.script.masks, 75 CueList1.targets, 76 CueList1.starts, 77 CueList1.since, 78 CueList1.spans, 79 CueList2, 80 CueList2.script, 81 CueList2.script.names, 82 CueList2.script.ups, 83 CueList2.script.downs, 84 CueList2.script.waits, 85 CueList2.script.follows, 86 CueList2.script.links, 87 CueList2.script.bases, 88 CueList2.script.firsts, 89 CueList2.script.kinds, 90 CueList2.script.whose, 91 CueList2.script.values, 92 CueList2.script.masks, 93 CueList2.targets, 94 CueList2.starts, 95 CueList2.since, 96 CueList2.spans, 97 CueList3, 98 CueList3.script, 99 CueList3.script.names, 100 CueList3.script.ups, 101 CueList3.script.downs, 102 CueList3.script.waits, 103 CueList3.script.follows, 104 CueList3.script.links, 105 CueList3.script.bases, 106 CueList3.script.firsts, 107 CueList3.script.kinds, 108 CueList3.script.whose, 109 CueList3.script.values, 110 CueList3.script.masks, 111 CueList3.targets, 112 CueList3.starts, 113 CueList3.since, 114 CueList3.spans, 115 Hall, 116 Hall.prices, 117 Hall.sections, 118 Hall.seats, 119 Hall.states, 120 Hall.isCut, 121 Prices, 122 Prices.told, 123 Prices.spare, 124 Box, 125 Box.spots, 126 Box.sizes, 127 Box.kinds, 128 Box.days, 129 Box.ends, 130 Box.soldSpots, 131 Box.soldSizes, 132 Box.paid, 133 Box.marks, 134 Parties, 135 Parties.told, 136 Parties.spare, 137 Parties.rows, 138 Parties.sides, 139 Ways, 140 Ways.froms, 141 Ways.tos, 142 Ways.widths, 143 Ways.times, 144 Ways.crowds, 145 Ways.left, 146 Ways.flows, 147 Ways.waits, 148 Ways.layers, 149 Ways.tried, 150 Ways.spots, 151 Ways.touches, 152 Ways.touching, 153 Model, 154 Model.tape, 155 Model.sort, 156 Model.tells, 157 Model.place, 158 Model.cueCount, 159 Model.cueName, 160 Model.cueUp, 161 Model.cueDown, 162 Model.cueWait, 163 Model.cueFollow, 164 Model.cueLink, 165 Model.cueActs, 166 Model.cueFirst, 167 Model.tracked, 168 Model.actKind, 169 Model.actA, 170 Model.actB, 171 Model.nName, 172 Model.nUp, 173 Model.nDown, 174 Model.nWait, 175 Model.nFollow, 176 Model.nLink, 177 Model.nActs, 178 Model.nFirst, 179 Model.nTracked, 180 Model.nKind, 181 Model.nA, 182 Model.nB, 183 Model.row, 184 Model.named, 185 Model.meant, 186 Model.current, 187 Model.beginsAt, 188 Model.goesAt, 189 Model.master, 190 Model.level, 191 Model.target, 192 Model.fromLevel, 193 Model.fromTick, 194 Model.ticks, 195 Model.lastList, 196 Model.patched, 197 Model.curves, 198 Model.axisThere, 199 Model.low, 200 Model.high, 201 Model.fast, 202 Model.acc, 203 Model.spot, 204 Model.speed, 205 Model.axisTarget, 206 Model.seen, 207 Model.seenBefore, 208 Model.faulty, 209 Model.refused, 210 Model.events, 211 Model.lockSize, 212 Model.lockSort, 213 Model.lockTells, 214 Model.prices, 215 Model.rowSection, 216 Model.rowSeats, 217 Model.seatIs, 218 Model.lineUp, 219 Model.holdThere, 220 Model.holdRow, 221 Model.holdFirst, 222 Model.holdMany, 223 Model.holdTill, 224 Model.holdSection, 225 Model.holdKind, 226 Model.holdDay, 227 Model.ticketRow, 228 Model.ticketFirst, 229 Model.ticketMany, 230 Model.ticketPaid, 231 Model.ticketBack, 232 Model.ticketIn, 233 Model.ruleFirst, 234 Model.ruleSign, 235 Model.ruleBy, 236 Model.conditionKind, 237 Model.conditionN, 238 Model.newFirst, 239 Model.newSign, 240 Model.newBy, 241 Model.newKind, 242 Model.newN, 243 Model.ofTaken, 244 Model.ofParty, 245 Model.besides, 246 Model.newTaken, 247 Model.newParty, 248 Model.newBesides, 249 Model.isNamed, 250 Model.wayFrom, 251 Model.wayTo, 252 Model.wayMany, 253 Model.wayTime, 254 Model.crowds, 255 Model.head, 256 Model.after, 257 Model.leads, 258 Model.room, 259 Model.cameBy, 260 Model.queue, 261 Model.waiting -/
def kdL : List (Nat × Nat) := [(99, 0), (11, 0), (9, 0), (101, 4000), (7, 0), (105, 8), (102, 16), (100, 60), (0, 0), (100, 60), (0, 0), (100, 60), (0, 0), (100, 60), (0, 0), (100, 60), (0, 0), (100, 60), (0, 0), (100, 60), (0, 0), (100, 60), (0, 0), (100, 60), (1, 0), (104, 4), (100, 64), (100, 64), (100, 128), (100, 128), (8, 0), (100, 60), (100, 60), (100, 60), (100, 60), (100, 60), (100, 60), (100, 60), (100, 61), (100, 300), (100, 300), (100, 300), (103, 300), (3, 0), (8, 0), (100, 60), (100, 60), (100, 60), (100, 60), (100, 60), (100, 60), (100, 60), (100, 61), (100, 300), (100, 300), (100, 300), (103, 300), (100, 64), (100, 64), (100, 64), (100, 64), (3, 0), (8, 0), (100, 60), (100, 60), (100, 60), (100, 60), (100, 60), (100, 60), (100, 60), (100, 61), (100, 300), (100, 300), (100, 300), (103, 300), (100, 64), (100, 64), (100, 64), (100, 64), (3, 0), (8, 0), (100, 60), (100, 60), (100, 60), (100, 60), (100, 60), (100, 60), (100, 60), (100, 61), (100, 300), (100, 300), (100, 300), (103, 300), (100, 64), (100, 64), (100, 64), (100, 64), (3, 0), (8, 0), (100, 60), (100, 60), (100, 60), (100, 60), (100, 60), (100, 60), (100, 60), (100, 61), (100, 300), (100, 300), (100, 300), (103, 300), (100, 64), (100, 64), (100, 64), (100, 64), (4, 0), (100, 8), (100, 40), (100, 40), (100, 1200), (102, 4), (6, 0), (100, 120), (100, 120), (2, 0), (100, 60), (100, 60), (100, 60), (100, 60), (100, 60), (100, 300), (100, 300), (100, 300), (100, 300), (5, 0), (100, 15), (100, 15), (103, 9), (103, 3), (10, 0), (100, 20), (100, 20), (100, 20), (100, 20), (100, 12), (100, 12), (100, 1020), (100, 612), (100, 612), (100, 612), (100, 612), (100, 12), (100, 480), (12, 0), (101, 4000), (100, 4001), (103, 4001), (100, 4001), (100, 4), (100, 240), (100, 240), (100, 240), (100, 240), (100, 240), (100, 240), (100, 240), (100, 240), (100, 15600), (100, 1200), (100, 1200), (100, 1200), (100, 60), (100, 60), (100, 60), (100, 60), (100, 60), (100, 60), (100, 60), (100, 60), (100, 3900), (100, 300), (100, 300), (100, 300), (100, 65), (102, 65), (102, 65), (100, 4), (100, 4), (100, 4), (100, 4), (100, 260), (100, 260), (100, 260), (100, 260), (100, 260), (100, 65), (100, 128), (100, 128), (102, 8), (100, 8), (100, 8), (100, 8), (100, 8), (100, 8), (100, 8), (100, 8), (100, 8), (100, 8), (100, 8), (100, 8), (102, 16), (100, 8), (100, 488), (103, 488), (100, 8), (100, 40), (100, 40), (100, 1200), (102, 4), (102, 60), (100, 60), (100, 60), (100, 60), (100, 60), (100, 60), (100, 60), (100, 60), (100, 300), (100, 300), (100, 300), (100, 300), (102, 300), (102, 300), (100, 21), (100, 20), (100, 20), (100, 4000), (100, 4000), (100, 21), (100, 20), (100, 20), (100, 4000), (100, 4000), (103, 3), (103, 9), (103, 3), (103, 3), (103, 9), (103, 3), (102, 3), (100, 20), (100, 20), (100, 20), (100, 20), (100, 11), (100, 612), (100, 3264), (100, 3264), (100, 3264), (100, 612), (100, 612), (100, 11)]
def NN : Nat := 261
def sT : List (String × Nat × String × Nat) := [("StageHouse$Tape", 57, "{}();,.-:@/|&!<>+%", 0), ("StageHouse$Script", 75, "cue", 1), ("StageHouse$Script", 113, "up", 2), ("StageHouse$Script", 115, "down", 3), ("StageHouse$Script", 117, "wait", 4), ("StageHouse$Script", 119, "follow", 5), ("StageHouse$Script", 121, "block", 6), ("StageHouse$Script", 123, "link", 7), ("StageHouse$Script", 155, "channels", 8), ("StageHouse$Script", 157, "axis", 9), ("StageHouse$Script", 159, "let", 10), ("StageHouse$Script", 161, "fire", 11), ("StageHouse$Script", 163, "go", 12), ("StageHouse$Script", 165, "master", 13), ("StageHouse$Script", 146, "to", 14), ("StageHouse$Script", 153, "at", 15), ("StageHouse$Rig", 127, "axis", 9), ("StageHouse$Rig", 138, "still", 16), ("StageHouse$Rig", 140, "event", 17), ("StageHouse$Prices", 49, "many", 18), ("StageHouse$Prices", 55, "kind", 19), ("StageHouse$Prices", 56, "day", 20), ("StageHouse$Prices", 58, "section", 21), ("StageHouse$Parties", 84, "of", 22), ("StageHouse$Parties", 90, "taken", 23), ("StageHouseModel", 435, "cue", 1), ("StageHouseModel", 458, "up", 2), ("StageHouseModel", 460, "down", 3), ("StageHouseModel", 462, "wait", 4), ("StageHouseModel", 464, "follow", 5), ("StageHouseModel", 466, "block", 6), ("StageHouseModel", 468, "link", 7), ("StageHouseModel", 470, "channels", 8), ("StageHouseModel", 486, "at", 15), ("StageHouseModel", 474, "axis", 9), ("StageHouseModel", 476, "to", 14), ("StageHouseModel", 479, "let", 10), ("StageHouseModel", 481, "fire", 11), ("StageHouseModel", 483, "go", 12), ("StageHouseModel", 485, "master", 13), ("StageHouseModel", 540, "still", 16), ("StageHouseModel", 542, "event", 17), ("StageHouseModel", 586, "many", 18), ("StageHouseModel", 588, "kind", 19), ("StageHouseModel", 590, "day", 20), ("StageHouseModel", 592, "section", 21), ("StageHouseModel", 639, "of", 22), ("StageHouseModel", 641, "taken", 23)]
def sB : List (List Int32) := [[123, 125, 40, 41, 59, 44, 46, 45, 58, 64, 47, 124, 38, 33, 60, 62, 43, 37], [99, 117, 101], [117, 112], [100, 111, 119, 110], [119, 97, 105, 116], [102, 111, 108, 108, 111, 119], [98, 108, 111, 99, 107], [108, 105, 110, 107], [99, 104, 97, 110, 110, 101, 108, 115], [97, 120, 105, 115], [108, 101, 116], [102, 105, 114, 101], [103, 111], [109, 97, 115, 116, 101, 114], [116, 111], [97, 116], [115, 116, 105, 108, 108], [101, 118, 101, 110, 116], [109, 97, 110, 121], [107, 105, 110, 100], [100, 97, 121], [115, 101, 99, 116, 105, 111, 110], [111, 102], [116, 97, 107, 101, 110]]
/-! THE STATE AND THE WORLD: every cell of the class and of the reference has a number (1, 2, ..: the order in which they are made; 0 is null); St says what the cell o holds at place k (a field's slot, an array's index). -/
abbrev St : Type := (Nat → Nat → Int32) × (Nat → Nat → Int64) × (Nat → Nat → Nat)
def gI (st : St) (o k : Nat) : Int32 := st.1 o k
def gL (st : St) (o k : Nat) : Int64 := st.2.1 o k
def gR (st : St) (o k : Nat) : Nat := st.2.2 o k
def u2 {α : Type} (f : Nat → Nat → α) (o k : Nat) (v : α) : Nat → Nat → α := fun a b => if a = o ∧ b = k then v else f a b
def sI (st : St) (o k : Nat) (v : Int32) : St := (u2 st.1 o k v, st.2.1, st.2.2)
def sL (st : St) (o k : Nat) (v : Int64) : St := (st.1, u2 st.2.1 o k v, st.2.2)
def sR (st : St) (o k : Nat) (v : Nat) : St := (st.1, st.2.1, u2 st.2.2 o k v)
/-- the sort of cell o: (t, _) with t < 13 an object of class t; (100 + e, n) an array of n places, e: int, byte, boolean, long, CueList, Axis -/
def kd (o : Nat) : Nat × Nat := kdL.getD o (99, 0)
def rfo (b o : Nat) : Option Nat := if o = 0 then none else some (b + o)
def rv (b o : Nat) : Value := va_rf (rfo b o)
def fval (b : Nat) (st : St) (o t k : Nat) : Value := match tyC t k with
  | .long => .long (gL st o k)
  | .object _ => rv b (gR st o k)
  | .array _ => rv b (gR st o k)
  | _ => .int (gI st o k)
def cel (b : Nat) (tA : Nat → ClassId) (st : St) (o : Nat) : va_E :=
  if (kd o).1 < 100 then .inr ((kd o).1, (List.range (nF (kd o).1)).map (fval b st o (kd o).1))
  else .inl (tA ((kd o).1 - 100), (kd o).2, if (kd o).1 < 103 then .inl (gI st o) else if (kd o).1 = 103 then .inr (.inl (gL st o)) else .inr (.inr (.inr (.inr fun i => rfo b (gR st o i)))))
def wd (b : Nat) (tA : Nat → ClassId) (n : Nat) (st : St) : va_W := (List.range n).map fun j => (b + (j + 1), cel b tA st (j + 1))
theorem wd_at {b : Nat} {tA : Nat → ClassId} {n : Nat} {st : St} {o : Nat} (h1 : 1 ≤ o) (h2 : o ≤ n) : (wd b tA n st)[o - 1]? = some (b + o, cel b tA st o) := by
  have h3 : o - 1 < n := by omega
  have h4 : o - 1 + 1 = o := by omega
  simp [wd, h3, h4]
theorem wd_get {b : Nat} {tA : Nat → ClassId} {n : Nat} {st : St} {k : Nat} {q : Nat × va_E} (h : (wd b tA n st)[k]? = some q) : k < n ∧ q = (b + (k + 1), cel b tA st (k + 1)) := by
  have hl : k < (wd b tA n st).length := (List.getElem?_eq_some_iff.mp h).1
  have hk : k < n := by simpa [wd] using hl
  have h2 := wd_at (b := b) (tA := tA) (n := n) (st := st) (o := k + 1) (by omega) (by omega)
  rw [show k + 1 - 1 = k by omega, h] at h2
  exact ⟨hk, Option.some.inj h2⟩
theorem wd_D {b : Nat} {tA : Nat → ClassId} {n : Nat} {st : St} : va_D (fun q => b < q) (wd b tA n st) := by
  refine ⟨fun i j p q hi hj hpq => ?_, fun k q hk => ?_⟩
  · obtain ⟨-, rfl⟩ := wd_get hi
    obtain ⟨-, rfl⟩ := wd_get hj
    have : b + (i + 1) = b + (j + 1) := hpq
    omega
  · obtain ⟨-, rfl⟩ := wd_get hk
    show b < b + (k + 1)
    omega
theorem wd_set {b : Nat} {tA : Nat → ClassId} {n : Nat} {st st' : St} {o : Nat} {e' : va_E} (h1 : 1 ≤ o) (h2 : o ≤ n) (ho : ∀ j, j ≠ o → cel b tA st' j = cel b tA st j) (he : cel b tA st' o = e') : (wd b tA n st).set (o - 1) (b + o, e') = wd b tA n st' := by
  apply List.ext_getElem?
  intro k
  rw [List.getElem?_set]
  by_cases hk : o - 1 = k
  · have hl : k < (wd b tA n st).length := by simp [wd]; omega
    rw [if_pos hk, if_pos (by omega)]
    have := wd_at (b := b) (tA := tA) (n := n) (st := st') (o := k + 1) (by omega) (by omega)
    rw [show k + 1 - 1 = k by omega] at this
    rw [this]
    have e1 : k + 1 = o := by omega
    rw [e1, he]
  · rw [if_neg hk]
    by_cases hn : k < n
    · have a1 := wd_at (b := b) (tA := tA) (n := n) (st := st) (o := k + 1) (by omega) (by omega)
      have a2 := wd_at (b := b) (tA := tA) (n := n) (st := st') (o := k + 1) (by omega) (by omega)
      rw [show k + 1 - 1 = k by omega] at a1 a2
      rw [a1, a2, ho (k + 1) (by omega)]
    · rw [List.getElem?_eq_none (by simp [wd]; omega), List.getElem?_eq_none (by simp [wd]; omega)]
theorem u2_ne {α : Type} {f : Nat → Nat → α} {o k j : Nat} {v : α} (h : j ≠ o) : u2 f o k v j = f j := by
  funext b
  simp [u2, h]
theorem cel_sI {b : Nat} {tA : Nat → ClassId} {st : St} {o k j : Nat} {v : Int32} (h : j ≠ o) : cel b tA (sI st o k v) j = cel b tA st j := by
  have e : gI (sI st o k v) j = gI st j := by funext c; simp [gI, sI, u2, h]
  have e2 : ∀ t, fval b (sI st o k v) j t = fval b st j t := by
    intro t; funext c; unfold fval; rw [e]; rfl
  unfold cel
  rw [e2, e]
  rfl
theorem cel_sL {b : Nat} {tA : Nat → ClassId} {st : St} {o k j : Nat} {v : Int64} (h : j ≠ o) : cel b tA (sL st o k v) j = cel b tA st j := by
  have e : gL (sL st o k v) j = gL st j := by funext c; simp [gL, sL, u2, h]
  have e2 : ∀ t, fval b (sL st o k v) j t = fval b st j t := by
    intro t; funext c; unfold fval; rw [e]; rfl
  unfold cel
  rw [e2, e]
  rfl
theorem cel_sR {b : Nat} {tA : Nat → ClassId} {st : St} {o k j : Nat} {v : Nat} (h : j ≠ o) : cel b tA (sR st o k v) j = cel b tA st j := by
  have e : gR (sR st o k v) j = gR st j := by funext c; simp [gR, sR, u2, h]
  have e2 : ∀ t, fval b (sR st o k v) j t = fval b st j t := by
    intro t; funext c; unfold fval; rw [e]; rfl
  unfold cel
  rw [e2, e]
  rfl
theorem cel_o {b : Nat} {tA : Nat → ClassId} {st : St} {o t : Nat} (h : (kd o).1 = t) (ht : t < 100) : cel b tA st o = .inr (t, (List.range (nF t)).map (fval b st o t)) := by
  unfold cel
  rw [h, if_pos ht]
theorem cel_i {b : Nat} {tA : Nat → ClassId} {st : St} {o t : Nat} (h : (kd o).1 = 100 + t) (ht : t < 3) : cel b tA st o = .inl (tA t, (kd o).2, .inl (gI st o)) := by
  unfold cel
  rw [h, if_neg (by omega), if_pos (by omega), show 100 + t - 100 = t by omega]
theorem cel_l {b : Nat} {tA : Nat → ClassId} {st : St} {o : Nat} (h : (kd o).1 = 103) : cel b tA st o = .inl (tA 3, (kd o).2, .inr (.inl (gL st o))) := by
  unfold cel
  rw [h, if_neg (by omega), if_neg (by omega), if_pos rfl]
theorem cel_r {b : Nat} {tA : Nat → ClassId} {st : St} {o t : Nat} (h : (kd o).1 = 100 + t) (ht : 3 < t) : cel b tA st o = .inl (tA t, (kd o).2, .inr (.inr (.inr (.inr fun i => rfo b (gR st o i))))) := by
  unfold cel
  rw [h, if_neg (by omega), if_neg (by omega), if_neg (by omega), show 100 + t - 100 = t by omega]
theorem rv_ref {b o : Nat} (h : 1 ≤ o) : rv b o = .ref (b + o) := by
  unfold rv rfo
  rw [if_neg (by omega)]
  rfl
theorem fl_get {b : Nat} {st : St} {o t N k : Nat} (hk : k < N) : ((List.range N).map (fval b st o t))[k]? = some (fval b st o t k) := by
  simp [hk]
theorem fl_set {b : Nat} {st st' : St} {o t N k : Nat} {v : Value} (hk : k < N) (hv : fval b st' o t k = v) (ho : ∀ j, j ≠ k → fval b st' o t j = fval b st o t j) : ((List.range N).map (fval b st o t)).set k v = (List.range N).map (fval b st' o t) := by
  apply List.ext_getElem?
  intro j
  rw [List.getElem?_set]
  by_cases hj : k = j
  · subst hj
    rw [if_pos rfl, if_pos (by simpa using hk)]
    simp [hk, hv]
  · rw [if_neg hj]
    by_cases hn : j < N
    · simp [hn, ho j (fun e => hj e.symm)]
    · rw [List.getElem?_eq_none (by simp; omega), List.getElem?_eq_none (by simp; omega)]
/-! THE PROGRAM OF A WALK: none is 'a throw of the machine's own, or no more fuel' -/
def ck {α : Type} (c : Prop) [Decidable c] (K : Option α) : Option α := if c then K else none
def bd {α β : Type} (v : α) (K : α → Option β) : Option β := K v
def ca {α β σ : Type} (m : Option (α × σ)) (K : α → σ → Option β) : Option β := match m with
  | some q => K q.1 q.2
  | none => none
def cv {β σ : Type} (m : Option σ) (K : σ → Option β) : Option β := match m with
  | some q => K q
  | none => none
abbrev inb (i : Int32) (n : Nat) : Prop := ¬ (i < 0 ∨ n ≤ i.toNatClampNeg)
abbrev ix (i : Int32) : Nat := i.toNatClampNeg
abbrev isb (x : Int32) : Prop := x = 0 ∨ x = 1
/-! THE CONTEXT of a walk: the machine's parts, one tuple -/
abbrev CX : Type := Program × Launch × Env × Room × State × MethodId × Array Value × List Frame × Method × Code × (va_G × (Nat → ClassId) × Nat × Nat × Nat) × (State → Prop) × ((Nat → Nat) × (Nat → Nat))
abbrev x_p (X : CX) : Program := X.1
abbrev x_l (X : CX) : Launch := X.2.1
abbrev x_e (X : CX) : Env := X.2.2.1
abbrev x_R (X : CX) : Room := X.2.2.2.1
abbrev x_s (X : CX) : State := X.2.2.2.2.1
abbrev x_m (X : CX) : MethodId := X.2.2.2.2.2.1
abbrev x_a (X : CX) : Array Value := X.2.2.2.2.2.2.1
abbrev x_w (X : CX) : List Frame := X.2.2.2.2.2.2.2.1
abbrev x_t (X : CX) : Method := X.2.2.2.2.2.2.2.2.1
abbrev x_c (X : CX) : Code := X.2.2.2.2.2.2.2.2.2.1
abbrev x_D (X : CX) : va_G := X.2.2.2.2.2.2.2.2.2.2.1.1
abbrev x_A (X : CX) : Nat → ClassId := X.2.2.2.2.2.2.2.2.2.2.1.2.1
abbrev x_b (X : CX) : Nat := X.2.2.2.2.2.2.2.2.2.2.1.2.2.1
abbrev x_n (X : CX) : Nat := X.2.2.2.2.2.2.2.2.2.2.1.2.2.2.1
abbrev x_L (X : CX) : Nat := X.2.2.2.2.2.2.2.2.2.2.1.2.2.2.2
abbrev x_Q (X : CX) : State → Prop := X.2.2.2.2.2.2.2.2.2.2.2.1
abbrev x_K (X : CX) : (Nat → Nat) × (Nat → Nat) := X.2.2.2.2.2.2.2.2.2.2.2.2
def tysW (tA : Nat → ClassId) : List (ClassId × FieldType) := [(tA 0, .int), (tA 1, .byte), (tA 2, .boolean), (tA 3, .long), (tA 4, .object "StageHouse$CueList"), (tA 5, .object "StageHouse$Axis")]
/-- the String constants: their objects lie outside the world (K.1, K.2: the addresses of the objects and of their bytes); xfm: what Preconditions' static holds -/
def xfm (K : (Nat → Nat) × (Nat → Nat)) : Value := va_rf (if K.2 999 = 0 then none else some (K.2 999 - 1))
def SF (K : (Nat → Nat) × (Nat → Nat)) (b : Nat) (U : State) (H : Heap) : Prop :=
  va_Z "java/lang/String" "COMPACT_STRINGS" "Z" (.int 1) (fun q => b < q) U H ∧ (∀ i : Nat, i < sB.length → va_O "java/lang/String" (K.1 i) (fun q => b < q) U H ∧ va_OF "java/lang/String" "coder" "B" (.int 0) (K.1 i) (fun q => b < q) U H ∧ va_OF "java/lang/String" "value" "[B" (.ref (K.2 i)) (K.1 i) (fun q => b < q) U H ∧ va_T .byte (K.2 i) (sB.getD i []).length (fun j => .int ((sB.getD i []).getD j 0)) (fun q => b < q) U H) ∧ (∀ q ∈ sT, vk_R q.1 q.2.1 q.2.2.1 (K.1 q.2.2.2) U) ∧ va_Z "jdk/internal/util/Preconditions" "SIOOBE_FORMATTER" "Ljava/util/function/BiFunction;" (xfm K) (fun q => b < q) U H
theorem SF.go {K : (Nat → Nat) × (Nat → Nat)} {b : Nat} {s U : State} {H H1 : Heap} (h : SF K b s H) (hW : s.WarmedH U.vm) (hq : ∀ a : Nat, a < H.size → ¬ b < a → H1[a]? = H[a]?) : SF K b U H1 :=
  ⟨(va_Z.moved hW.alike h.1).kept hq, fun i hi => ⟨(va_O.moved hW.alike (h.2.1 i hi).1).kept hq, (va_OF.moved hW.alike (h.2.1 i hi).2.1).kept hq, (va_OF.moved hW.alike (h.2.1 i hi).2.2.1).kept hq, (va_T.moved hW.alike (h.2.1 i hi).2.2.2).kept hq⟩, fun q hm => vk_R.warm hW (h.2.2.1 q hm), (va_Z.moved hW.alike h.2.2.2).kept hq⟩
theorem SF.calling {K : (Nat → Nat) × (Nat → Nat)} {b : Nat} {U : State} (g : JFrame) (mk : MethodId) (a : Array Value) (h : SF K b U U.heap) : SF K b (U.calling g mk a) (U.calling g mk a).heap :=
  ⟨va_Z.moved (u := U) (U := U.calling g mk a) (Vm.Alike.refl U.vm) h.1, fun i hi => ⟨va_O.moved (u := U) (U := U.calling g mk a) (Vm.Alike.refl U.vm) (h.2.1 i hi).1, va_OF.moved (u := U) (U := U.calling g mk a) (Vm.Alike.refl U.vm) (h.2.1 i hi).2.1, va_OF.moved (u := U) (U := U.calling g mk a) (Vm.Alike.refl U.vm) (h.2.1 i hi).2.2.1, va_T.moved (u := U) (U := U.calling g mk a) (Vm.Alike.refl U.vm) (h.2.1 i hi).2.2.2⟩, fun q hm => vk_R.same (u := U) rfl (h.2.2.1 q hm), va_Z.moved (u := U) (U := U.calling g mk a) (Vm.Alike.refl U.vm) h.2.2.2⟩
abbrev GX : Type := va_G × (Nat → ClassId) × Nat × ((Nat → Nat) × (Nat → Nat))
/-- the world, as a method's contract has it -/
def WP (G : GX) (n : Nat) (st : St) (U : State) : Prop := va_P G.1 vwCl (wd G.2.2.1 G.2.1 n st) U.heap ∧ va_K G.1 vwCl (tysW G.2.1) U ∧ SF G.2.2.2 G.2.2.1 U U.heap
abbrev ab (G : GX) : Nat → Prop := fun q => G.2.2.1 < q
abbrev x_G (X : CX) : GX := (x_D X, x_A X, x_b X, x_K X)
def WD (X : CX) (n : Nat) (st : St) (H : Heap) (locs : List Loc) : Prop := va_P (x_D X) vwCl (wd (x_b X) (x_A X) n st) H ∧ va_S (fun q => x_b X < q) (x_s X).heap H locs
def sls (n : Nat) : Nat := ((List.range n).map fun j => if (kd (j + 1)).1 < 100 then nF (kd (j + 1)).1 else (kd (j + 1)).2).sum
abbrev WX (X : CX) (H : Heap) (locs : List Loc) (cells slots : Nat) (g : JFrame) : Prop := W (x_p X) (x_l X) (x_e X) (x_R X) (x_s X) (x_m X) (x_a X) (x_w X) (x_t X) (x_c X) H locs cells slots (x_Q X) g
/-- THE WALK'S JUDGEMENT: if the program e comes to res, the machine, now at pc with these locals, this stack and a heap that holds st, comes to the method's end -/
def WW {ρ : Type} (X : CX) (res : ρ) (n pc : Nat) (lv : List (Nat × Value)) (stk : List Value) (st : St) (e : Option ρ) : Prop :=
  e = some res → ∀ (H : Heap) (locs : List Loc) (ls : Array Slot), WD X n st H locs → lv_has ls (x_L X) lv → WX X H locs (n - x_n X) (sls n - sls (x_n X)) (F0 (x_m X) pc ls stk)
def Cx (X : CX) (cc : ByteArray) (own : String) : Prop := (x_p X).tables.exec = Jvm.exec ∧ (x_c X).code = cc ∧ (x_c X).maxLocals = x_L X ∧ (x_s X).vm.findClass own = some (x_m X).cls ∧ (∀ w ∈ tb, w.before (x_a X) (x_s X) = true) ∧ va_K (x_D X) vwCl (tysW (x_A X)) (x_s X) ∧ SF (x_K X) (x_b X) (x_s X) (x_s X).heap
section R
variable {ρ : Type} {X : CX} {res : ρ} {n pc : Nat} {lv lv' : List (Nat × Value)} {rest stk : List Value} {st : St} {e K : Option ρ} {cc : ByteArray} {own : String}
theorem ww_none : WW X res n pc lv stk st none := fun h => by cases h
theorem ww_lift {pc' : Nat} {stk' : List Value} (h : ∀ (H : Heap) (locs : List Loc) (ls : Array Slot) (cells slots : Nat), lv_has ls (x_L X) lv → WX X H locs cells slots (F0 (x_m X) pc' ls stk') → WX X H locs cells slots (F0 (x_m X) pc ls stk)) (k : WW X res n pc' lv stk' st e) : WW X res n pc lv stk st e :=
  fun he H locs ls hD hl => h H locs ls _ _ hl (k he H locs ls hD hl)
theorem ww_sub (ks : List Nat) (h : lv_pick lv ks = lv') (k : WW X res n pc lv' stk st e) : WW X res n pc lv stk st e := fun he H locs ls hD hl => k he H locs ls hD (lv_sub hl ks h)
theorem ww_bdi {x : Int32} {K : Int32 → Option ρ} (k : ∀ y : Int32, WW X res n pc lv (.int y :: rest) st (K y)) : WW X res n pc lv (.int x :: rest) st (bd x K) := k x
theorem ww_bdl {x : Int64} {K : Int64 → Option ρ} (k : ∀ y : Int64, WW X res n pc lv (.long y :: rest) st (K y)) : WW X res n pc lv (.long x :: rest) st (bd x K) := k x
theorem ww_bdr {b x : Nat} {K : Nat → Option ρ} (k : ∀ y : Nat, WW X res n pc lv (rv b y :: rest) st (K y)) : WW X res n pc lv (rv b x :: rest) st (bd x K) := k x
theorem ww_bds {K : St → Option ρ} (k : ∀ u : St, WW X res n pc lv stk u (K u)) : WW X res n pc lv stk st (bd st K) := k st
theorem ww_ck {c : Prop} [Decidable c] (k : c → WW X res n pc lv stk st K) : WW X res n pc lv stk st (ck c K) := by
  intro he
  unfold ck at he
  by_cases h : c
  · rw [if_pos h] at he
    exact k h he
  · rw [if_neg h] at he
    cases he
theorem ww_iconst (hX : Cx X cc own) {z : Int} {v : Int32} (hv : Int32.ofInt z = v) (hdg : decode cc pc = .ok (.iconst z, 1)) (k : WW X res n (pc + 1) lv (.int v :: rest) st e) : WW X res n pc lv (rest) st e := ww_lift (fun _ _ _ _ _ _ w => lv_iconst hX.1 hX.2.1 hdg hv w) k
theorem ww_bipush (hX : Cx X cc own) {z : Int} {v : Int32} (hv : (Int8.ofInt z).toInt32 = v) (hdg : decode cc pc = .ok (.bipush z, 2)) (k : WW X res n (pc + 2) lv (.int v :: rest) st e) : WW X res n pc lv (rest) st e := ww_lift (fun _ _ _ _ _ _ w => lv_bipush hX.1 hX.2.1 hdg hv w) k
theorem ww_sipush (hX : Cx X cc own) {z : Int} {v : Int32} (hv : (Int16.ofInt z).toInt32 = v) (hdg : decode cc pc = .ok (.sipush z, 3)) (k : WW X res n (pc + 3) lv (.int v :: rest) st e) : WW X res n pc lv (rest) st e := ww_lift (fun _ _ _ _ _ _ w => lv_sipush hX.1 hX.2.1 hdg hv w) k
theorem ww_lconst (hX : Cx X cc own) {z : Fin 2} {v : Int64} (hv : Int64.ofNat (z : Nat) = v) (hdg : decode cc pc = .ok (.lconst z, 1)) (k : WW X res n (pc + 1) lv (.long v :: rest) st e) : WW X res n pc lv (rest) st e := ww_lift (fun _ _ _ _ _ _ w => lv_lconst hX.1 hX.2.1 hdg hv w) k
theorem ww_iadd (hX : Cx X cc own) {x y : Int32}  (hdg : decode cc pc = .ok (.iadd, 1)) (k : WW X res n (pc + 1) lv (.int (x + y) :: rest) st e) : WW X res n pc lv (.int y :: .int x :: rest) st e := ww_lift (fun _ _ _ _ _ _ w => lv_iadd hX.1 hX.2.1 hdg  w) k
theorem ww_isub (hX : Cx X cc own) {x y : Int32}  (hdg : decode cc pc = .ok (.isub, 1)) (k : WW X res n (pc + 1) lv (.int (x - y) :: rest) st e) : WW X res n pc lv (.int y :: .int x :: rest) st e := ww_lift (fun _ _ _ _ _ _ w => lv_isub hX.1 hX.2.1 hdg  w) k
theorem ww_imul (hX : Cx X cc own) {x y : Int32}  (hdg : decode cc pc = .ok (.imul, 1)) (k : WW X res n (pc + 1) lv (.int (x * y) :: rest) st e) : WW X res n pc lv (.int y :: .int x :: rest) st e := ww_lift (fun _ _ _ _ _ _ w => lv_imul hX.1 hX.2.1 hdg  w) k
theorem ww_iand (hX : Cx X cc own) {x y : Int32}  (hdg : decode cc pc = .ok (.iand, 1)) (k : WW X res n (pc + 1) lv (.int (x &&& y) :: rest) st e) : WW X res n pc lv (.int y :: .int x :: rest) st e := ww_lift (fun _ _ _ _ _ _ w => lv_iand hX.1 hX.2.1 hdg  w) k
theorem ww_ior (hX : Cx X cc own) {x y : Int32}  (hdg : decode cc pc = .ok (.ior, 1)) (k : WW X res n (pc + 1) lv (.int (x ||| y) :: rest) st e) : WW X res n pc lv (.int y :: .int x :: rest) st e := ww_lift (fun _ _ _ _ _ _ w => lv_ior hX.1 hX.2.1 hdg  w) k
theorem ww_ixor (hX : Cx X cc own) {x y : Int32}  (hdg : decode cc pc = .ok (.ixor, 1)) (k : WW X res n (pc + 1) lv (.int (x ^^^ y) :: rest) st e) : WW X res n pc lv (.int y :: .int x :: rest) st e := ww_lift (fun _ _ _ _ _ _ w => lv_ixor hX.1 hX.2.1 hdg  w) k
theorem ww_ishl (hX : Cx X cc own) {x y : Int32}  (hdg : decode cc pc = .ok (.ishl, 1)) (k : WW X res n (pc + 1) lv (.int (x <<< (y &&& 31)) :: rest) st e) : WW X res n pc lv (.int y :: .int x :: rest) st e := ww_lift (fun _ _ _ _ _ _ w => lv_ishl hX.1 hX.2.1 hdg  w) k
theorem ww_ishr (hX : Cx X cc own) {x y : Int32}  (hdg : decode cc pc = .ok (.ishr, 1)) (k : WW X res n (pc + 1) lv (.int (x >>> (y &&& 31)) :: rest) st e) : WW X res n pc lv (.int y :: .int x :: rest) st e := ww_lift (fun _ _ _ _ _ _ w => lv_ishr hX.1 hX.2.1 hdg  w) k
theorem ww_ladd (hX : Cx X cc own) {x y : Int64}  (hdg : decode cc pc = .ok (.ladd, 1)) (k : WW X res n (pc + 1) lv (.long (x + y) :: rest) st e) : WW X res n pc lv (.long y :: .long x :: rest) st e := ww_lift (fun _ _ _ _ _ _ w => lv_ladd hX.1 hX.2.1 hdg  w) k
theorem ww_lsub (hX : Cx X cc own) {x y : Int64}  (hdg : decode cc pc = .ok (.lsub, 1)) (k : WW X res n (pc + 1) lv (.long (x - y) :: rest) st e) : WW X res n pc lv (.long y :: .long x :: rest) st e := ww_lift (fun _ _ _ _ _ _ w => lv_lsub hX.1 hX.2.1 hdg  w) k
theorem ww_lmul (hX : Cx X cc own) {x y : Int64}  (hdg : decode cc pc = .ok (.lmul, 1)) (k : WW X res n (pc + 1) lv (.long (x * y) :: rest) st e) : WW X res n pc lv (.long y :: .long x :: rest) st e := ww_lift (fun _ _ _ _ _ _ w => lv_lmul hX.1 hX.2.1 hdg  w) k
theorem ww_land (hX : Cx X cc own) {x y : Int64}  (hdg : decode cc pc = .ok (.land, 1)) (k : WW X res n (pc + 1) lv (.long (x &&& y) :: rest) st e) : WW X res n pc lv (.long y :: .long x :: rest) st e := ww_lift (fun _ _ _ _ _ _ w => lv_land hX.1 hX.2.1 hdg  w) k
theorem ww_lor (hX : Cx X cc own) {x y : Int64}  (hdg : decode cc pc = .ok (.lor, 1)) (k : WW X res n (pc + 1) lv (.long (x ||| y) :: rest) st e) : WW X res n pc lv (.long y :: .long x :: rest) st e := ww_lift (fun _ _ _ _ _ _ w => lv_lor hX.1 hX.2.1 hdg  w) k
theorem ww_lxor (hX : Cx X cc own) {x y : Int64}  (hdg : decode cc pc = .ok (.lxor, 1)) (k : WW X res n (pc + 1) lv (.long (x ^^^ y) :: rest) st e) : WW X res n pc lv (.long y :: .long x :: rest) st e := ww_lift (fun _ _ _ _ _ _ w => lv_lxor hX.1 hX.2.1 hdg  w) k
theorem ww_ineg (hX : Cx X cc own) {x : Int32}  (hdg : decode cc pc = .ok (.ineg, 1)) (k : WW X res n (pc + 1) lv (.int (-x) :: rest) st e) : WW X res n pc lv (.int x :: rest) st e := ww_lift (fun _ _ _ _ _ _ w => lv_ineg hX.1 hX.2.1 hdg  w) k
theorem ww_lneg (hX : Cx X cc own) {x : Int64}  (hdg : decode cc pc = .ok (.lneg, 1)) (k : WW X res n (pc + 1) lv (.long (-x) :: rest) st e) : WW X res n pc lv (.long x :: rest) st e := ww_lift (fun _ _ _ _ _ _ w => lv_lneg hX.1 hX.2.1 hdg  w) k
theorem ww_i2l (hX : Cx X cc own) {x : Int32}  (hdg : decode cc pc = .ok (.i2l, 1)) (k : WW X res n (pc + 1) lv (.long x.toInt64 :: rest) st e) : WW X res n pc lv (.int x :: rest) st e := ww_lift (fun _ _ _ _ _ _ w => lv_i2l hX.1 hX.2.1 hdg rfl w) k
theorem ww_l2i (hX : Cx X cc own) {x : Int64}  (hdg : decode cc pc = .ok (.l2i, 1)) (k : WW X res n (pc + 1) lv (.int x.toInt32 :: rest) st e) : WW X res n pc lv (.long x :: rest) st e := ww_lift (fun _ _ _ _ _ _ w => lv_l2i hX.1 hX.2.1 hdg rfl w) k
theorem ww_i2b (hX : Cx X cc own) {x : Int32}  (hdg : decode cc pc = .ok (.i2b, 1)) (k : WW X res n (pc + 1) lv (.int x.toInt8.toInt32 :: rest) st e) : WW X res n pc lv (.int x :: rest) st e := ww_lift (fun _ _ _ _ _ _ w => lv_i2b hX.1 hX.2.1 hdg rfl w) k
theorem ww_i2c (hX : Cx X cc own) {x : Int32}  (hdg : decode cc pc = .ok (.i2c, 1)) (k : WW X res n (pc + 1) lv (.int (x.toUInt32 % 65536).toInt32 :: rest) st e) : WW X res n pc lv (.int x :: rest) st e := ww_lift (fun _ _ _ _ _ _ w => lv_i2c hX.1 hX.2.1 hdg rfl w) k
theorem ww_iushr (hX : Cx X cc own) {x y : Int32}  (hdg : decode cc pc = .ok (.iushr, 1)) (k : WW X res n (pc + 1) lv (.int (x.toUInt32 >>> (y.toUInt32 &&& Int32.toUInt32 31)).toInt32 :: rest) st e) : WW X res n pc lv (.int y :: .int x :: rest) st e := ww_lift (fun _ _ _ _ _ _ w => lv_iushr hX.1 hX.2.1 hdg rfl w) k
theorem ww_lushr (hX : Cx X cc own) {x : Int64} {y : Int32}  (hdg : decode cc pc = .ok (.lushr, 1)) (k : WW X res n (pc + 1) lv (.long (x.toUInt64 >>> (y.toInt64.toUInt64 &&& Int64.toUInt64 63)).toInt64 :: rest) st e) : WW X res n pc lv (.int y :: .long x :: rest) st e := ww_lift (fun _ _ _ _ _ _ w => lv_lushr hX.1 hX.2.1 hdg rfl w) k
theorem ww_lshl (hX : Cx X cc own) {x : Int64} {y : Int32}  (hdg : decode cc pc = .ok (.lshl, 1)) (k : WW X res n (pc + 1) lv (.long (x <<< (y.toInt64 &&& 63)) :: rest) st e) : WW X res n pc lv (.int y :: .long x :: rest) st e := ww_lift (fun _ _ _ _ _ _ w => lv_lshl hX.1 hX.2.1 hdg rfl w) k
theorem ww_lshr (hX : Cx X cc own) {x : Int64} {y : Int32}  (hdg : decode cc pc = .ok (.lshr, 1)) (k : WW X res n (pc + 1) lv (.long (x >>> (y.toInt64 &&& 63)) :: rest) st e) : WW X res n pc lv (.int y :: .long x :: rest) st e := ww_lift (fun _ _ _ _ _ _ w => lv_lshr hX.1 hX.2.1 hdg rfl w) k
theorem ww_dup (hX : Cx X cc own) {a : Value} (ha : a.category = 1) (hdg : decode cc pc = .ok (.dup, 1)) (k : WW X res n (pc + 1) lv (a :: a :: rest) st e) : WW X res n pc lv (a :: rest) st e := ww_lift (fun _ _ _ _ _ _ w => lv_dup hX.1 hX.2.1 hdg ha w) k
theorem ww_pop (hX : Cx X cc own) {a : Value} (ha : a.category = 1) (hdg : decode cc pc = .ok (.pop, 1)) (k : WW X res n (pc + 1) lv (rest) st e) : WW X res n pc lv (a :: rest) st e := ww_lift (fun _ _ _ _ _ _ w => lv_pop hX.1 hX.2.1 hdg ha w) k
theorem ww_dup_x1 (hX : Cx X cc own) {a b : Value} (ha : a.category = 1) (hb : b.category = 1) (hdg : decode cc pc = .ok (.dup_x1, 1)) (k : WW X res n (pc + 1) lv (a :: b :: a :: rest) st e) : WW X res n pc lv (a :: b :: rest) st e := ww_lift (fun _ _ _ _ _ _ w => lv_dup_x1 hX.1 hX.2.1 hdg ha hb w) k
theorem ww_dup_x2 (hX : Cx X cc own) {a b c : Value} (ha : a.category = 1) (hb : b.category = 1) (hc : c.category = 1) (hdg : decode cc pc = .ok (.dup_x2, 1)) (k : WW X res n (pc + 1) lv (a :: b :: c :: a :: rest) st e) : WW X res n pc lv (a :: b :: c :: rest) st e := ww_lift (fun _ _ _ _ _ _ w => lv_dup_x2 hX.1 hX.2.1 hdg ha hb hc w) k
theorem ww_dup2_11 (hX : Cx X cc own) {a b : Value} (ha : a.category = 1) (hb : b.category = 1) (hdg : decode cc pc = .ok (.dup2, 1)) (k : WW X res n (pc + 1) lv (a :: b :: a :: b :: rest) st e) : WW X res n pc lv (a :: b :: rest) st e := ww_lift (fun _ _ _ _ _ _ w => lv_dup2_11 hX.1 hX.2.1 hdg ha hb w) k
theorem ww_dup2_2 (hX : Cx X cc own) {a : Value} (ha : a.category = 2) (hdg : decode cc pc = .ok (.dup2, 1)) (k : WW X res n (pc + 1) lv (a :: a :: rest) st e) : WW X res n pc lv (a :: rest) st e := ww_lift (fun _ _ _ _ _ _ w => lv_dup2_2 hX.1 hX.2.1 hdg ha w) k
theorem ww_lcmp (hX : Cx X cc own) {x y : Int64} (hdg : decode cc pc = .ok (.lcmp, 1)) (k : WW X res n (pc + 1) lv (.int (lg_cmp x y) :: rest) st e) : WW X res n pc lv (.long y :: .long x :: rest) st e := ww_lift (fun _ _ _ _ _ _ w => W.lcmp hX.1 hX.2.1 hdg w) k
theorem ww_idiv (hX : Cx X cc own) {x y : Int32} (hdg : decode cc pc = .ok (.idiv, 1)) (k : WW X res n (pc + 1) lv (.int (x / y) :: rest) st K) : WW X res n pc lv (.int y :: .int x :: rest) st (ck (¬ y = 0) K) := ww_ck fun h => ww_lift (fun _ _ _ _ _ _ w => lv_idiv hX.1 hX.2.1 hdg h w) k
theorem ww_irem (hX : Cx X cc own) {x y : Int32} (hdg : decode cc pc = .ok (.irem, 1)) (k : WW X res n (pc + 1) lv (.int (x - x / y * y) :: rest) st K) : WW X res n pc lv (.int y :: .int x :: rest) st (ck (¬ y = 0) K) := ww_ck fun h => ww_lift (fun _ _ _ _ _ _ w => lv_irem hX.1 hX.2.1 hdg h w) k
theorem ww_ldiv (hX : Cx X cc own) {x y : Int64} (hdg : decode cc pc = .ok (.ldiv, 1)) (k : WW X res n (pc + 1) lv (.long (x / y) :: rest) st K) : WW X res n pc lv (.long y :: .long x :: rest) st (ck (¬ y = 0) K) := ww_ck fun h => ww_lift (fun _ _ _ _ _ _ w => lv_ldiv hX.1 hX.2.1 hdg h w) k
theorem ww_lrem (hX : Cx X cc own) {x y : Int64} (hdg : decode cc pc = .ok (.lrem, 1)) (k : WW X res n (pc + 1) lv (.long (x - x / y * y) :: rest) st K) : WW X res n pc lv (.long y :: .long x :: rest) st (ck (¬ y = 0) K) := ww_ck fun h => ww_lift (fun _ _ _ _ _ _ w => lv_lrem hX.1 hX.2.1 hdg h w) k
theorem ww_goto (hX : Cx X cc own) {off : Int} {tgt : Nat} (hdg : decode cc pc = .ok (.goto off, 3)) (ht : (pc : Int) + off = (tgt : Int)) (k : WW X res n tgt lv stk st e) : WW X res n pc lv stk st e := ww_lift (fun _ _ _ _ _ _ w => lv_goto hX.1 hX.2.1 hdg ht w) k
theorem ww_iload_n (hX : Cx X cc own) {j : Fin 4} {i : Nat} {x : Int32} (q : Nat) (hk : lv[q]? = some (i, .int x)) (hdg : decode cc pc = .ok (.iload_n j, 1)) (hi : (j : Nat) = i) (k : WW X res n (pc + 1) lv (.int x :: stk) st e) : WW X res n pc lv stk st e := ww_lift (fun _ _ _ _ _ hl w => lv_iload_n hX.1 hX.2.1 hdg hi (lv_at hl q hk) w) k
theorem ww_iload (hX : Cx X cc own) {i : Nat} {x : Int32} (q : Nat) (hk : lv[q]? = some (i, .int x)) (hdg : decode cc pc = .ok (.iload i, 2)) (k : WW X res n (pc + 2) lv (.int x :: stk) st e) : WW X res n pc lv stk st e := ww_lift (fun _ _ _ _ _ hl w => lv_iload hX.1 hX.2.1 hdg (lv_at hl q hk) w) k
theorem ww_lload_n (hX : Cx X cc own) {j : Fin 4} {i : Nat} {x : Int64} (q : Nat) (hk : lv[q]? = some (i, .long x)) (hdg : decode cc pc = .ok (.lload_n j, 1)) (hi : (j : Nat) = i) (k : WW X res n (pc + 1) lv (.long x :: stk) st e) : WW X res n pc lv stk st e := ww_lift (fun _ _ _ _ _ hl w => lv_lload_n hX.1 hX.2.1 hdg hi (lv_at hl q hk) w) k
theorem ww_lload (hX : Cx X cc own) {i : Nat} {x : Int64} (q : Nat) (hk : lv[q]? = some (i, .long x)) (hdg : decode cc pc = .ok (.lload i, 2)) (k : WW X res n (pc + 2) lv (.long x :: stk) st e) : WW X res n pc lv stk st e := ww_lift (fun _ _ _ _ _ hl w => lv_lload hX.1 hX.2.1 hdg (lv_at hl q hk) w) k
theorem ww_aload_n (hX : Cx X cc own) {j : Fin 4} {i : Nat} {x : Nat} (q : Nat) (hk : lv[q]? = some (i, .ref x)) (hdg : decode cc pc = .ok (.aload_n j, 1)) (hi : (j : Nat) = i) (k : WW X res n (pc + 1) lv (.ref x :: stk) st e) : WW X res n pc lv stk st e := ww_lift (fun _ _ _ _ _ hl w => lv_aload_n hX.1 hX.2.1 hdg hi (lv_at hl q hk) w) k
theorem ww_aload (hX : Cx X cc own) {i : Nat} {x : Nat} (q : Nat) (hk : lv[q]? = some (i, .ref x)) (hdg : decode cc pc = .ok (.aload i, 2)) (k : WW X res n (pc + 2) lv (.ref x :: stk) st e) : WW X res n pc lv stk st e := ww_lift (fun _ _ _ _ _ hl w => lv_aload hX.1 hX.2.1 hdg (lv_at hl q hk) w) k
theorem ww_istore_n (hX : Cx X cc own) {nL : Nat} (hL : x_L X = nL) {j : Fin 4} {i : Nat} {x : Int32} (hdg : decode cc pc = .ok (.istore_n j, 1)) (hi : (j : Nat) = i) (hn : i < nL) (hl : (i, Value.int x) :: lv.filter (fun q => !(q.1 == i) && !(q.1 + 1 == i && q.2.category == 2)) = lv') (k : WW X res n (pc + 1) lv' stk st e) : WW X res n pc lv (.int x :: stk) st e := fun he H locs ls hD h => lv_istore_n hX.1 hX.2.1 hdg hi h (by rw [hL]; exact hn) hl (fun ls2 h2 => k he H locs ls2 hD h2)
theorem ww_istore (hX : Cx X cc own) {nL : Nat} (hL : x_L X = nL) {i : Nat} {x : Int32} (hdg : decode cc pc = .ok (.istore i, 2)) (hn : i < nL) (hl : (i, Value.int x) :: lv.filter (fun q => !(q.1 == i) && !(q.1 + 1 == i && q.2.category == 2)) = lv') (k : WW X res n (pc + 2) lv' stk st e) : WW X res n pc lv (.int x :: stk) st e := fun he H locs ls hD h => lv_istore hX.1 hX.2.1 hdg h (by rw [hL]; exact hn) hl (fun ls2 h2 => k he H locs ls2 hD h2)
theorem ww_lstore_n (hX : Cx X cc own) {nL : Nat} (hL : x_L X = nL) {j : Fin 4} {i : Nat} {x : Int64} (hdg : decode cc pc = .ok (.lstore_n j, 1)) (hi : (j : Nat) = i) (hn : i + 1 < nL) (hl : (i, Value.long x) :: lv.filter (fun q => !(q.1 == i) && (!(q.1 == i + 1) && !(q.1 + 1 == i && q.2.category == 2))) = lv') (k : WW X res n (pc + 1) lv' stk st e) : WW X res n pc lv (.long x :: stk) st e := fun he H locs ls hD h => lv_lstore_n hX.1 hX.2.1 hdg hi h (by rw [hL]; exact hn) hl (fun ls2 h2 => k he H locs ls2 hD h2)
theorem ww_lstore (hX : Cx X cc own) {nL : Nat} (hL : x_L X = nL) {i : Nat} {x : Int64} (hdg : decode cc pc = .ok (.lstore i, 2)) (hn : i + 1 < nL) (hl : (i, Value.long x) :: lv.filter (fun q => !(q.1 == i) && (!(q.1 == i + 1) && !(q.1 + 1 == i && q.2.category == 2))) = lv') (k : WW X res n (pc + 2) lv' stk st e) : WW X res n pc lv (.long x :: stk) st e := fun he H locs ls hD h => lv_lstore hX.1 hX.2.1 hdg h (by rw [hL]; exact hn) hl (fun ls2 h2 => k he H locs ls2 hD h2)
theorem ww_astore_n (hX : Cx X cc own) {nL : Nat} (hL : x_L X = nL) {j : Fin 4} {i : Nat} {x : Nat} (hdg : decode cc pc = .ok (.astore_n j, 1)) (hi : (j : Nat) = i) (hn : i < nL) (hl : (i, Value.ref x) :: lv.filter (fun q => !(q.1 == i) && !(q.1 + 1 == i && q.2.category == 2)) = lv') (k : WW X res n (pc + 1) lv' stk st e) : WW X res n pc lv (.ref x :: stk) st e := fun he H locs ls hD h => lv_astore_n hX.1 hX.2.1 hdg hi h (by rw [hL]; exact hn) hl (fun ls2 h2 => k he H locs ls2 hD h2)
theorem ww_astore (hX : Cx X cc own) {nL : Nat} (hL : x_L X = nL) {i : Nat} {x : Nat} (hdg : decode cc pc = .ok (.astore i, 2)) (hn : i < nL) (hl : (i, Value.ref x) :: lv.filter (fun q => !(q.1 == i) && !(q.1 + 1 == i && q.2.category == 2)) = lv') (k : WW X res n (pc + 2) lv' stk st e) : WW X res n pc lv (.ref x :: stk) st e := fun he H locs ls hD h => lv_astore hX.1 hX.2.1 hdg h (by rw [hL]; exact hn) hl (fun ls2 h2 => k he H locs ls2 hD h2)
theorem ww_iinc (hX : Cx X cc own) {nL : Nat} (hL : x_L X = nL) {i : Nat} {z : Int} {x v : Int32} (q : Nat) (hk : lv[q]? = some (i, .int x)) (hdg : decode cc pc = .ok (.iinc i z, 3)) (hv : x + Int32.ofInt z = v) (hn : i < nL) (hl : (i, Value.int v) :: lv.filter (fun q => !(q.1 == i) && !(q.1 + 1 == i && q.2.category == 2)) = lv') (k : WW X res n (pc + 3) lv' stk st e) : WW X res n pc lv stk st e := fun he H locs ls hD h => lv_iinc hX.1 hX.2.1 hdg h hk hv (by rw [hL]; exact hn) hl (fun ls2 h2 => k he H locs ls2 hD h2)
/- CONDS -/
theorem ww_icmp_eq (hX : Cx X cc own) {x y : Int32} {off : Int} {tgt : Nat} {A B : Option ρ} (hdg : decode cc pc = .ok (.if_icmp .eq off, 3)) (ht : (pc : Int) + off = (tgt : Int)) (kt : WW X res n tgt lv stk st A) (kf : WW X res n (pc + 3) lv stk st B) : WW X res n pc lv (.int y :: .int x :: stk) st (if x = y then A else B) := fun he H locs ls hD hl => lv_icmp_eq hX.1 hX.2.1 hdg ht (fun q => kt (by rw [if_pos q] at he; exact he) H locs ls hD hl) (fun q => kf (by rw [if_neg q] at he; exact he) H locs ls hD hl)
theorem ww_if_eq (hX : Cx X cc own) {x : Int32} {off : Int} {tgt : Nat} {A B : Option ρ} (hdg : decode cc pc = .ok (.ifCond .eq off, 3)) (ht : (pc : Int) + off = (tgt : Int)) (kt : WW X res n tgt lv stk st A) (kf : WW X res n (pc + 3) lv stk st B) : WW X res n pc lv (.int x :: stk) st (if x = 0 then A else B) := fun he H locs ls hD hl => lv_if_eq hX.1 hX.2.1 hdg ht (fun q => kt (by rw [if_pos q] at he; exact he) H locs ls hD hl) (fun q => kf (by rw [if_neg q] at he; exact he) H locs ls hD hl)
theorem ww_icmp_ne (hX : Cx X cc own) {x y : Int32} {off : Int} {tgt : Nat} {A B : Option ρ} (hdg : decode cc pc = .ok (.if_icmp .ne off, 3)) (ht : (pc : Int) + off = (tgt : Int)) (kt : WW X res n tgt lv stk st A) (kf : WW X res n (pc + 3) lv stk st B) : WW X res n pc lv (.int y :: .int x :: stk) st (if x = y then B else A) := fun he H locs ls hD hl => lv_icmp_ne hX.1 hX.2.1 hdg ht (fun q => kt (by rw [if_neg q] at he; exact he) H locs ls hD hl) (fun q => kf (by rw [if_pos q] at he; exact he) H locs ls hD hl)
theorem ww_if_ne (hX : Cx X cc own) {x : Int32} {off : Int} {tgt : Nat} {A B : Option ρ} (hdg : decode cc pc = .ok (.ifCond .ne off, 3)) (ht : (pc : Int) + off = (tgt : Int)) (kt : WW X res n tgt lv stk st A) (kf : WW X res n (pc + 3) lv stk st B) : WW X res n pc lv (.int x :: stk) st (if x = 0 then B else A) := fun he H locs ls hD hl => lv_if_ne hX.1 hX.2.1 hdg ht (fun q => kt (by rw [if_neg q] at he; exact he) H locs ls hD hl) (fun q => kf (by rw [if_pos q] at he; exact he) H locs ls hD hl)
theorem ww_icmp_lt (hX : Cx X cc own) {x y : Int32} {off : Int} {tgt : Nat} {A B : Option ρ} (hdg : decode cc pc = .ok (.if_icmp .lt off, 3)) (ht : (pc : Int) + off = (tgt : Int)) (kt : WW X res n tgt lv stk st A) (kf : WW X res n (pc + 3) lv stk st B) : WW X res n pc lv (.int y :: .int x :: stk) st (if x < y then A else B) := fun he H locs ls hD hl => lv_icmp_lt hX.1 hX.2.1 hdg ht (fun q => kt (by rw [if_pos q] at he; exact he) H locs ls hD hl) (fun q => kf (by rw [if_neg q] at he; exact he) H locs ls hD hl)
theorem ww_if_lt (hX : Cx X cc own) {x : Int32} {off : Int} {tgt : Nat} {A B : Option ρ} (hdg : decode cc pc = .ok (.ifCond .lt off, 3)) (ht : (pc : Int) + off = (tgt : Int)) (kt : WW X res n tgt lv stk st A) (kf : WW X res n (pc + 3) lv stk st B) : WW X res n pc lv (.int x :: stk) st (if x < 0 then A else B) := fun he H locs ls hD hl => lv_if_lt hX.1 hX.2.1 hdg ht (fun q => kt (by rw [if_pos q] at he; exact he) H locs ls hD hl) (fun q => kf (by rw [if_neg q] at he; exact he) H locs ls hD hl)
theorem ww_icmp_ge (hX : Cx X cc own) {x y : Int32} {off : Int} {tgt : Nat} {A B : Option ρ} (hdg : decode cc pc = .ok (.if_icmp .ge off, 3)) (ht : (pc : Int) + off = (tgt : Int)) (kt : WW X res n tgt lv stk st A) (kf : WW X res n (pc + 3) lv stk st B) : WW X res n pc lv (.int y :: .int x :: stk) st (if y ≤ x then A else B) := fun he H locs ls hD hl => lv_icmp_ge hX.1 hX.2.1 hdg ht (fun q => kt (by rw [if_pos q] at he; exact he) H locs ls hD hl) (fun q => kf (by rw [if_neg q] at he; exact he) H locs ls hD hl)
theorem ww_if_ge (hX : Cx X cc own) {x : Int32} {off : Int} {tgt : Nat} {A B : Option ρ} (hdg : decode cc pc = .ok (.ifCond .ge off, 3)) (ht : (pc : Int) + off = (tgt : Int)) (kt : WW X res n tgt lv stk st A) (kf : WW X res n (pc + 3) lv stk st B) : WW X res n pc lv (.int x :: stk) st (if 0 ≤ x then A else B) := fun he H locs ls hD hl => lv_if_ge hX.1 hX.2.1 hdg ht (fun q => kt (by rw [if_pos q] at he; exact he) H locs ls hD hl) (fun q => kf (by rw [if_neg q] at he; exact he) H locs ls hD hl)
theorem ww_icmp_gt (hX : Cx X cc own) {x y : Int32} {off : Int} {tgt : Nat} {A B : Option ρ} (hdg : decode cc pc = .ok (.if_icmp .gt off, 3)) (ht : (pc : Int) + off = (tgt : Int)) (kt : WW X res n tgt lv stk st A) (kf : WW X res n (pc + 3) lv stk st B) : WW X res n pc lv (.int y :: .int x :: stk) st (if y < x then A else B) := fun he H locs ls hD hl => lv_icmp_gt hX.1 hX.2.1 hdg ht (fun q => kt (by rw [if_pos q] at he; exact he) H locs ls hD hl) (fun q => kf (by rw [if_neg q] at he; exact he) H locs ls hD hl)
theorem ww_if_gt (hX : Cx X cc own) {x : Int32} {off : Int} {tgt : Nat} {A B : Option ρ} (hdg : decode cc pc = .ok (.ifCond .gt off, 3)) (ht : (pc : Int) + off = (tgt : Int)) (kt : WW X res n tgt lv stk st A) (kf : WW X res n (pc + 3) lv stk st B) : WW X res n pc lv (.int x :: stk) st (if 0 < x then A else B) := fun he H locs ls hD hl => lv_if_gt hX.1 hX.2.1 hdg ht (fun q => kt (by rw [if_pos q] at he; exact he) H locs ls hD hl) (fun q => kf (by rw [if_neg q] at he; exact he) H locs ls hD hl)
theorem ww_icmp_le (hX : Cx X cc own) {x y : Int32} {off : Int} {tgt : Nat} {A B : Option ρ} (hdg : decode cc pc = .ok (.if_icmp .le off, 3)) (ht : (pc : Int) + off = (tgt : Int)) (kt : WW X res n tgt lv stk st A) (kf : WW X res n (pc + 3) lv stk st B) : WW X res n pc lv (.int y :: .int x :: stk) st (if x ≤ y then A else B) := fun he H locs ls hD hl => lv_icmp_le hX.1 hX.2.1 hdg ht (fun q => kt (by rw [if_pos q] at he; exact he) H locs ls hD hl) (fun q => kf (by rw [if_neg q] at he; exact he) H locs ls hD hl)
theorem ww_if_le (hX : Cx X cc own) {x : Int32} {off : Int} {tgt : Nat} {A B : Option ρ} (hdg : decode cc pc = .ok (.ifCond .le off, 3)) (ht : (pc : Int) + off = (tgt : Int)) (kt : WW X res n tgt lv stk st A) (kf : WW X res n (pc + 3) lv stk st B) : WW X res n pc lv (.int x :: stk) st (if x ≤ 0 then A else B) := fun he H locs ls hD hl => lv_if_le hX.1 hX.2.1 hdg ht (fun q => kt (by rw [if_pos q] at he; exact he) H locs ls hD hl) (fun q => kf (by rw [if_neg q] at he; exact he) H locs ls hD hl)
theorem ww_ldc (hX : Cx X cc own) {index : Nat} {v : Int32} (hc : Cond.constant own index v ∈ tb) (hdg : decode cc pc = .ok (.ldc index, 2)) (k : WW X res n (pc + 2) lv (.int v :: stk) st e) : WW X res n pc lv stk st e := ww_lift (fun _ _ _ _ _ _ w => lv_ldc hX.1 hX.2.1 hX.2.2.2.1 (hX.2.2.2.2.1 _ hc) hdg w) k
theorem ww_ldcw (hX : Cx X cc own) {index : Nat} {v : Int32} (hc : Cond.constant own index v ∈ tb) (hdg : decode cc pc = .ok (.ldc_w index, 3)) (k : WW X res n (pc + 3) lv (.int v :: stk) st e) : WW X res n pc lv stk st e := ww_lift (fun _ _ _ _ _ _ w => lv_ldcw hX.1 hX.2.1 hX.2.2.2.1 (hX.2.2.2.2.1 _ hc) hdg w) k
theorem ww_ldc2 (hX : Cx X cc own) {index : Nat} {v : Int64} (hc : Cond.constantLong own index v ∈ tb) (hdg : decode cc pc = .ok (.ldc2_w index, 3)) (k : WW X res n (pc + 3) lv (.long v :: stk) st e) : WW X res n pc lv stk st e := ww_lift (fun _ _ _ _ _ _ w => lv_ldc2 hX.1 hX.2.1 hX.2.2.2.1 (hX.2.2.2.2.1 _ hc) hdg w) k
theorem ww_tsw (hX : Cx X cc own) {dflt lo hi : Int} {offs : Array Int} {len : Nat} {x : Int32} {off : Int} {tgt : Nat} (hdg : decode cc pc = .ok (.tableswitch dflt lo hi offs, len)) (h1 : ¬ x.toInt < lo) (h2 : ¬ hi < x.toInt) (ho : offs[(x.toInt - lo).toNat]? = some off) (ht : (pc : Int) + off = (tgt : Int)) (k : WW X res n tgt lv stk st e) : WW X res n pc lv (.int x :: stk) st e := ww_lift (fun _ _ _ _ _ _ w => lv_tableIn hX.1 hX.2.1 hdg h1 h2 ho ht w) k
theorem ww_tswd (hX : Cx X cc own) {dflt lo hi : Int} {offs : Array Int} {len : Nat} {x : Int32} {tgt : Nat} (hdg : decode cc pc = .ok (.tableswitch dflt lo hi offs, len)) (h : x.toInt < lo ∨ hi < x.toInt) (ht : (pc : Int) + dflt = (tgt : Int)) (k : WW X res n tgt lv stk st e) : WW X res n pc lv (.int x :: stk) st e := ww_lift (fun _ _ _ _ _ _ w => lv_tableOut hX.1 hX.2.1 hdg h ht w) k
theorem ww_if {c : Prop} [Decidable c] {A B : Option ρ} (kt : c → WW X res n pc lv stk st A) (kf : ¬ c → WW X res n pc lv stk st B) : WW X res n pc lv stk st (if c then A else B) := fun he => by
  by_cases h : c
  · rw [if_pos h] at he
    exact kt h he
  · rw [if_neg h] at he
    exact kf h he
/-- what a field's row says: own's entry idx is the field k of class t -/
def FLd (own : String) (idx t k : Nat) (fin : Bool) : Prop := ∃ (C : String) (T : u_T) (N : Nat), Cls t C T N ∧ k < N ∧ t < 99 ∧ (T k).1 = C ∧ (T k).2.2.2 = fin ∧ Cond.fieldLink own idx (T k).1 (T k).2.1 (T k).2.2.1 ∈ tb
theorem FLd.of {own : String} {idx t k : Nat} {fin : Bool} {C : String} {T : u_T} {N : Nat} (h : Cls t C T N) (i : Nat) (hd : decide (k < N ∧ t < 99 ∧ (T k).1 = C ∧ (T k).2.2.2 = fin) = true) (hi : tables_1[i]? = some (Cond.fieldLink own idx (T k).1 (T k).2.1 (T k).2.2.1)) : FLd own idx t k fin := by
  obtain ⟨h1, h2, h3, h4⟩ := of_decide_eq_true hd
  exact ⟨C, T, N, h, h1, h2, h3, h4, tb_t (List.mem_of_getElem? hi) rfl⟩
theorem ww_getv {idx t k o : Nat} {fin : Bool} {v : Value} (hX : Cx X cc own) (hf : FLd own idx t k fin) (hv : (kd o).1 = t → fval (x_b X) st o t k = v) (ho : (kd o).1 = t → 1 ≤ o ∧ o ≤ n) (hdg : decode cc pc = .ok (.getfield idx, 3)) (kk : WW X res n (pc + 3) lv (v :: stk) st K) : WW X res n pc lv (.ref (x_b X + o) :: stk) st (ck ((kd o).1 = t) K) := ww_ck fun h he H locs ls hD hl => by
  obtain ⟨C, T, N, ⟨c1, c2, c3, c4, c5⟩, hk, ht, hc, hfin, hlk⟩ := hf
  obtain ⟨o1, o2⟩ := ho h
  have he1 := wd_at (b := x_b X) (tA := x_A X) (n := n) (st := st) o1 o2
  rw [cel_o h (by omega), c2] at he1
  exact va_get hX.1 hX.2.1 hX.2.2.2.2.1 c3 hX.2.2.2.1 hX.2.2.2.2.2.1 hD.1 (o - 1) he1 c1 k hk (hX.2.2.2.2.1 _ hlk) (fun _ z => z) ((fl_get hk).trans (congrArg some (hv h))) hdg (kk he H locs ls hD hl)
def isI (t k : Nat) : Prop := tyC t k = .int ∨ tyC t k = .boolean
def isR (t k : Nat) : Prop := (∃ c, tyC t k = .object c) ∨ ∃ c, tyC t k = .array c
theorem fval_i {b : Nat} {st : St} {o t k : Nat} (h : isI t k) : fval b st o t k = .int (gI st o k) := by
  unfold fval
  rcases h with h | h <;> rw [h]
theorem fval_l {b : Nat} {st : St} {o t k : Nat} (h : tyC t k = .long) : fval b st o t k = .long (gL st o k) := by
  unfold fval
  rw [h]
theorem fval_r {b : Nat} {st : St} {o t k : Nat} (h : isR t k) : fval b st o t k = rv b (gR st o k) := by
  unfold fval
  rcases h with ⟨c, h⟩ | ⟨c, h⟩ <;> rw [h]
theorem rv_nz {b o : Nat} (h : ¬ o = 0) : rv b o = .ref (b + o) := rv_ref (by omega)
theorem ww_getIc {idx t k o : Nat} {fin : Bool} (hX : Cx X cc own) (hf : FLd own idx t k fin) (hi : isI t k) (ho : (kd o).1 = t → 1 ≤ o ∧ o ≤ n) (hdg : decode cc pc = .ok (.getfield idx, 3)) (kk : WW X res n (pc + 3) lv (.int (gI st o k) :: stk) st K) : WW X res n pc lv (.ref (x_b X + o) :: stk) st (ck ((kd o).1 = t) K) := ww_getv hX hf (fun _ => fval_i hi) ho hdg kk
theorem ww_getLc {idx t k o : Nat} {fin : Bool} (hX : Cx X cc own) (hf : FLd own idx t k fin) (hi : tyC t k = .long) (ho : (kd o).1 = t → 1 ≤ o ∧ o ≤ n) (hdg : decode cc pc = .ok (.getfield idx, 3)) (kk : WW X res n (pc + 3) lv (.long (gL st o k) :: stk) st K) : WW X res n pc lv (.ref (x_b X + o) :: stk) st (ck ((kd o).1 = t) K) := ww_getv hX hf (fun _ => fval_l hi) ho hdg kk
theorem ww_getRc {idx t k o : Nat} {fin : Bool} (hX : Cx X cc own) (hf : FLd own idx t k fin) (hi : isR t k) (ho : (kd o).1 = t → 1 ≤ o ∧ o ≤ n) (hdg : decode cc pc = .ok (.getfield idx, 3)) (kk : WW X res n (pc + 3) lv (.ref (x_b X + gR st o k) :: stk) st K) : WW X res n pc lv (.ref (x_b X + o) :: stk) st (ck (¬ gR st o k = 0) (ck ((kd o).1 = t) K)) := ww_ck fun h => ww_getv hX hf (fun _ => (fval_r hi).trans (rv_nz h)) ho hdg kk
theorem ww_putv {idx t k o : Nat} {v : Value} {st' : St} (hX : Cx X cc own) (hf : FLd own idx t k false) (hn : narrow (tyC t k) v = v) (hfit : fits (tyC t k) v = true) (hv : fval (x_b X) st' o t k = v) (hj : ∀ j, j ≠ k → fval (x_b X) st' o t j = fval (x_b X) st o t j) (hcl : ∀ j, j ≠ o → cel (x_b X) (x_A X) st' j = cel (x_b X) (x_A X) st j) (ho : (kd o).1 = t → 1 ≤ o ∧ o ≤ n) (hdg : decode cc pc = .ok (.putfield idx, 3)) (kk : WW X res n (pc + 3) lv stk st' K) : WW X res n pc lv (v :: .ref (x_b X + o) :: stk) st (ck ((kd o).1 = t) K) := ww_ck fun h he H locs ls hD hl => by
  obtain ⟨C, T, N, ⟨c1, c2, c3, c4, c5⟩, hk, ht, hc, hfin, hlk⟩ := hf
  obtain ⟨o1, o2⟩ := ho h
  have he1 := wd_at (b := x_b X) (tA := x_A X) (n := n) (st := st) o1 o2
  rw [cel_o h (by omega), c2] at he1
  refine va_put hX.1 hX.2.1 hX.2.2.2.2.1 c3 (tyC t) c4 c5 hX.2.2.2.1 hX.2.2.2.2.2.1 hD.1 wd_D hD.2 (o - 1) he1 c1 k hk (hX.2.2.2.2.1 _ hlk) (fun _ z => z) hfin (c4 k hk) hn hfit (by simpa using hk) hdg (fun H1 locs1 hP1 _ hS1 => ?_)
  rw [fl_set hk hv hj, wd_set o1 o2 hcl (by rw [cel_o h (by omega), c2])] at hP1
  exact kk he H1 locs1 ls ⟨hP1, hS1⟩ hl
theorem fval_sI {b : Nat} {st : St} {o t k j : Nat} {x : Int32} (h : j ≠ k) : fval b (sI st o k x) o t j = fval b st o t j := by
  unfold fval
  have e : gI (sI st o k x) o j = gI st o j := by simp [gI, sI, u2, h]
  rw [e]
  rfl
theorem fval_sL {b : Nat} {st : St} {o t k j : Nat} {x : Int64} (h : j ≠ k) : fval b (sL st o k x) o t j = fval b st o t j := by
  unfold fval
  have e : gL (sL st o k x) o j = gL st o j := by simp [gL, sL, u2, h]
  rw [e]
  rfl
theorem fval_sR {b : Nat} {st : St} {o t k j : Nat} {x : Nat} (h : j ≠ k) : fval b (sR st o k x) o t j = fval b st o t j := by
  unfold fval
  have e : gR (sR st o k x) o j = gR st o j := by simp [gR, sR, u2, h]
  rw [e]
  rfl
theorem gI_s {st : St} {o k : Nat} {x : Int32} : gI (sI st o k x) o k = x := by simp [gI, sI, u2]
theorem gL_s {st : St} {o k : Nat} {x : Int64} : gL (sL st o k x) o k = x := by simp [gL, sL, u2]
theorem gR_s {st : St} {o k : Nat} {x : Nat} : gR (sR st o k x) o k = x := by simp [gR, sR, u2]
theorem ww_putIc {idx t k o : Nat} {x : Int32} (hX : Cx X cc own) (hf : FLd own idx t k false) (hi : tyC t k = .int) (ho : (kd o).1 = t → 1 ≤ o ∧ o ≤ n) (hdg : decode cc pc = .ok (.putfield idx, 3)) (kk : WW X res n (pc + 3) lv stk (sI st o k x) K) : WW X res n pc lv (.int x :: .ref (x_b X + o) :: stk) st (ck ((kd o).1 = t) K) := ww_putv hX hf (by rw [hi]; rfl) (by rw [hi]; rfl) (by rw [fval_i (Or.inl hi), gI_s]) (fun _ h => fval_sI h) (fun _ h => cel_sI h) ho hdg kk
theorem ww_putZc {idx t k o : Nat} {x : Int32} (hX : Cx X cc own) (hf : FLd own idx t k false) (hi : tyC t k = .boolean) (ho : (kd o).1 = t → 1 ≤ o ∧ o ≤ n) (hdg : decode cc pc = .ok (.putfield idx, 3)) (kk : WW X res n (pc + 3) lv stk (sI st o k x) K) : WW X res n pc lv (.int x :: .ref (x_b X + o) :: stk) st (ck (isb x) (ck ((kd o).1 = t) K)) := ww_ck fun hb => ww_putv hX hf (by rw [hi]; rcases hb with rfl | rfl <;> rfl) (by rw [hi]; rcases hb with rfl | rfl <;> rfl) (by rw [fval_i (Or.inr hi), gI_s]) (fun _ h => fval_sI h) (fun _ h => cel_sI h) ho hdg kk
theorem ww_putLc {idx t k o : Nat} {x : Int64} (hX : Cx X cc own) (hf : FLd own idx t k false) (hi : tyC t k = .long) (ho : (kd o).1 = t → 1 ≤ o ∧ o ≤ n) (hdg : decode cc pc = .ok (.putfield idx, 3)) (kk : WW X res n (pc + 3) lv stk (sL st o k x) K) : WW X res n pc lv (.long x :: .ref (x_b X + o) :: stk) st (ck ((kd o).1 = t) K) := ww_putv hX hf (by rw [hi]; rfl) (by rw [hi]; rfl) (by rw [fval_l hi, gL_s]) (fun _ h => fval_sL h) (fun _ h => cel_sL h) ho hdg kk
theorem ww_putRc {idx t k o x : Nat} (hX : Cx X cc own) (hf : FLd own idx t k false) (hi : isR t k) (ho : (kd o).1 = t → 1 ≤ o ∧ o ≤ n) (hdg : decode cc pc = .ok (.putfield idx, 3)) (kk : WW X res n (pc + 3) lv stk (sR st o k x) K) : WW X res n pc lv (.ref (x_b X + x) :: .ref (x_b X + o) :: stk) st (ck (¬ x = 0) (ck ((kd o).1 = t) K)) := ww_ck fun hb => ww_putv hX hf (by rcases hi with ⟨c, hi⟩ | ⟨c, hi⟩ <;> rw [hi] <;> rfl) (by rcases hi with ⟨c, hi⟩ | ⟨c, hi⟩ <;> rw [hi] <;> rfl) (by rw [fval_r hi, gR_s]; exact rv_nz hb) (fun _ h => fval_sR h) (fun _ h => cel_sR h) ho hdg kk
theorem kd_in {o t : Nat} (h : (kd o).1 = t) (ht : t ≠ 99) : 1 ≤ o ∧ o ≤ NN := by
  unfold kd at h
  by_cases h1 : o < kdL.length
  · refine ⟨?_, ?_⟩
    · rcases Nat.eq_zero_or_pos o with h0 | h0
      · subst h0
        exact absurd h.symm ht
      · exact h0
    · have e : kdL.length = NN + 1 := by decide +kernel
      omega
  · rw [List.getD_eq_getElem?_getD, List.getElem?_eq_none (by omega)] at h
    exact absurd h.symm ht
theorem FLd.in {own : String} {idx t k o : Nat} {fin : Bool} (hf : FLd own idx t k fin) : (kd o).1 = t → 1 ≤ o ∧ o ≤ NN := by
  obtain ⟨C, T, N, -, -, ht, -⟩ := hf
  exact fun h => kd_in h (by omega)
theorem ww_getI {idx t k o : Nat} {fin : Bool} (hX : Cx X cc own) (hf : FLd own idx t k fin) (hi : isI t k) (hdg : decode cc pc = .ok (.getfield idx, 3)) (kk : WW X res NN (pc + 3) lv (.int (gI st o k) :: stk) st K) : WW X res NN pc lv (.ref (x_b X + o) :: stk) st (ck ((kd o).1 = t) K) := ww_getIc hX hf hi hf.in hdg kk
theorem ww_getL {idx t k o : Nat} {fin : Bool} (hX : Cx X cc own) (hf : FLd own idx t k fin) (hi : tyC t k = .long) (hdg : decode cc pc = .ok (.getfield idx, 3)) (kk : WW X res NN (pc + 3) lv (.long (gL st o k) :: stk) st K) : WW X res NN pc lv (.ref (x_b X + o) :: stk) st (ck ((kd o).1 = t) K) := ww_getLc hX hf hi hf.in hdg kk
theorem ww_getR {idx t k o : Nat} {fin : Bool} (hX : Cx X cc own) (hf : FLd own idx t k fin) (hi : isR t k) (hdg : decode cc pc = .ok (.getfield idx, 3)) (kk : WW X res NN (pc + 3) lv (.ref (x_b X + gR st o k) :: stk) st K) : WW X res NN pc lv (.ref (x_b X + o) :: stk) st (ck (¬ gR st o k = 0) (ck ((kd o).1 = t) K)) := ww_getRc hX hf hi hf.in hdg kk
theorem ww_putI {idx t k o : Nat} {x : Int32} (hX : Cx X cc own) (hf : FLd own idx t k false) (hi : tyC t k = .int) (hdg : decode cc pc = .ok (.putfield idx, 3)) (kk : WW X res NN (pc + 3) lv stk (sI st o k x) K) : WW X res NN pc lv (.int x :: .ref (x_b X + o) :: stk) st (ck ((kd o).1 = t) K) := ww_putIc hX hf hi hf.in hdg kk
theorem ww_putZ {idx t k o : Nat} {x : Int32} (hX : Cx X cc own) (hf : FLd own idx t k false) (hi : tyC t k = .boolean) (hdg : decode cc pc = .ok (.putfield idx, 3)) (kk : WW X res NN (pc + 3) lv stk (sI st o k x) K) : WW X res NN pc lv (.int x :: .ref (x_b X + o) :: stk) st (ck (isb x) (ck ((kd o).1 = t) K)) := ww_putZc hX hf hi hf.in hdg kk
theorem ww_putL {idx t k o : Nat} {x : Int64} (hX : Cx X cc own) (hf : FLd own idx t k false) (hi : tyC t k = .long) (hdg : decode cc pc = .ok (.putfield idx, 3)) (kk : WW X res NN (pc + 3) lv stk (sL st o k x) K) : WW X res NN pc lv (.long x :: .ref (x_b X + o) :: stk) st (ck ((kd o).1 = t) K) := ww_putLc hX hf hi hf.in hdg kk
theorem ww_putR {idx t k o x : Nat} (hX : Cx X cc own) (hf : FLd own idx t k false) (hi : isR t k) (hdg : decode cc pc = .ok (.putfield idx, 3)) (kk : WW X res NN (pc + 3) lv stk (sR st o k x) K) : WW X res NN pc lv (.ref (x_b X + x) :: .ref (x_b X + o) :: stk) st (ck (¬ x = 0) (ck ((kd o).1 = t) K)) := ww_putRc hX hf hi hf.in hdg kk

theorem ww_ialdc {o : Nat} {i : Int32} (hX : Cx X cc own) (ho : (kd o).1 = 100 → 1 ≤ o ∧ o ≤ n) (hdg : decode cc pc = .ok (.iaload, 1)) (kk : WW X res n (pc + 1) lv (.int (gI st o (ix i)) :: stk) st K) : WW X res n pc lv (.int i :: .ref (x_b X + o) :: stk) st (ck ((kd o).1 = 100 ∧ inb i (kd o).2) K) := ww_ck fun h he H locs ls hD hl => by
  obtain ⟨o1, o2⟩ := ho h.1
  have he1 := wd_at (b := x_b X) (tA := x_A X) (n := n) (st := st) o1 o2
  rw [cel_i (t := 0) h.1 (by omega)] at he1
  exact va_iald hX.1 hX.2.1 hX.2.2.2.2.2.1 hD.1 (o - 1) 0 he1 rfl h.2 hdg (kk he H locs ls hD hl)
theorem ww_baldc {o : Nat} {i : Int32} (hX : Cx X cc own) (ho : (kd o).1 = 101 → 1 ≤ o ∧ o ≤ n) (hdg : decode cc pc = .ok (.baload, 1)) (kk : WW X res n (pc + 1) lv (.int (gI st o (ix i)) :: stk) st K) : WW X res n pc lv (.int i :: .ref (x_b X + o) :: stk) st (ck ((kd o).1 = 101 ∧ inb i (kd o).2) K) := ww_ck fun h he H locs ls hD hl => by
  obtain ⟨o1, o2⟩ := ho h.1
  have he1 := wd_at (b := x_b X) (tA := x_A X) (n := n) (st := st) o1 o2
  rw [cel_i (t := 1) h.1 (by omega)] at he1
  exact va_bald hX.1 hX.2.1 hX.2.2.2.2.2.1 hD.1 (o - 1) 1 he1 rfl h.2 hdg (kk he H locs ls hD hl)
theorem ww_zaldc {o : Nat} {i : Int32} (hX : Cx X cc own) (ho : (kd o).1 = 102 → 1 ≤ o ∧ o ≤ n) (hdg : decode cc pc = .ok (.baload, 1)) (kk : WW X res n (pc + 1) lv (.int (gI st o (ix i)) :: stk) st K) : WW X res n pc lv (.int i :: .ref (x_b X + o) :: stk) st (ck ((kd o).1 = 102 ∧ inb i (kd o).2) K) := ww_ck fun h he H locs ls hD hl => by
  obtain ⟨o1, o2⟩ := ho h.1
  have he1 := wd_at (b := x_b X) (tA := x_A X) (n := n) (st := st) o1 o2
  rw [cel_i (t := 2) h.1 (by omega)] at he1
  exact va_zald hX.1 hX.2.1 hX.2.2.2.2.2.1 hD.1 (o - 1) 2 he1 rfl h.2 hdg (kk he H locs ls hD hl)
theorem ww_laldc {o : Nat} {i : Int32} (hX : Cx X cc own) (ho : (kd o).1 = 103 → 1 ≤ o ∧ o ≤ n) (hdg : decode cc pc = .ok (.laload, 1)) (kk : WW X res n (pc + 1) lv (.long (gL st o (ix i)) :: stk) st K) : WW X res n pc lv (.int i :: .ref (x_b X + o) :: stk) st (ck ((kd o).1 = 103 ∧ inb i (kd o).2) K) := ww_ck fun h he H locs ls hD hl => by
  obtain ⟨o1, o2⟩ := ho h.1
  have he1 := wd_at (b := x_b X) (tA := x_A X) (n := n) (st := st) o1 o2
  rw [cel_l h.1] at he1
  exact va_lald hX.1 hX.2.1 hX.2.2.2.2.2.1 hD.1 (o - 1) 3 he1 rfl h.2 hdg (kk he H locs ls hD hl)
theorem ww_aald104c {o : Nat} {i : Int32} (hX : Cx X cc own) (ho : (kd o).1 = 104 → 1 ≤ o ∧ o ≤ n) (hdg : decode cc pc = .ok (.aaload, 1)) (kk : WW X res n (pc + 1) lv (.ref (x_b X + gR st o (ix i)) :: stk) st K) : WW X res n pc lv (.int i :: .ref (x_b X + o) :: stk) st (ck (¬ gR st o (ix i) = 0) (ck ((kd o).1 = 104 ∧ inb i (kd o).2) K)) := ww_ck fun hz => ww_ck fun h he H locs ls hD hl => by
  obtain ⟨o1, o2⟩ := ho h.1
  have he1 := wd_at (b := x_b X) (tA := x_A X) (n := n) (st := st) o1 o2
  rw [cel_r (t := 4) h.1 (by omega)] at he1
  refine va_aldq hX.1 hX.2.1 hX.2.2.2.2.2.1 hD.1 (o - 1) 4 he1 rfl h.2 hdg ?_
  have e1 : va_rf (rfo (x_b X) (gR st o (ix i))) = .ref (x_b X + gR st o (ix i)) := rv_nz hz
  show WX _ _ _ _ _ (F0 _ _ _ (va_rf (rfo (x_b X) (gR st o (ix i))) :: stk))
  rw [e1]
  exact kk he H locs ls hD hl
theorem ww_aald105c {o : Nat} {i : Int32} (hX : Cx X cc own) (ho : (kd o).1 = 105 → 1 ≤ o ∧ o ≤ n) (hdg : decode cc pc = .ok (.aaload, 1)) (kk : WW X res n (pc + 1) lv (.ref (x_b X + gR st o (ix i)) :: stk) st K) : WW X res n pc lv (.int i :: .ref (x_b X + o) :: stk) st (ck (¬ gR st o (ix i) = 0) (ck ((kd o).1 = 105 ∧ inb i (kd o).2) K)) := ww_ck fun hz => ww_ck fun h he H locs ls hD hl => by
  obtain ⟨o1, o2⟩ := ho h.1
  have he1 := wd_at (b := x_b X) (tA := x_A X) (n := n) (st := st) o1 o2
  rw [cel_r (t := 5) h.1 (by omega)] at he1
  refine va_aldq hX.1 hX.2.1 hX.2.2.2.2.2.1 hD.1 (o - 1) 5 he1 rfl h.2 hdg ?_
  have e1 : va_rf (rfo (x_b X) (gR st o (ix i))) = .ref (x_b X + gR st o (ix i)) := rv_nz hz
  show WX _ _ _ _ _ (F0 _ _ _ (va_rf (rfo (x_b X) (gR st o (ix i))) :: stk))
  rw [e1]
  exact kk he H locs ls hD hl
theorem ww_iastc {o : Nat} {i x : Int32} (hX : Cx X cc own) (ho : (kd o).1 = 100 → 1 ≤ o ∧ o ≤ n) (hdg : decode cc pc = .ok (.iastore, 1)) (kk : WW X res n (pc + 1) lv stk (sI st o (ix i) x) K) : WW X res n pc lv (.int x :: .int i :: .ref (x_b X + o) :: stk) st (ck ((kd o).1 = 100 ∧ inb i (kd o).2) K) := ww_ck fun h he H locs ls hD hl => by
  obtain ⟨o1, o2⟩ := ho h.1
  have he1 := wd_at (b := x_b X) (tA := x_A X) (n := n) (st := st) o1 o2
  rw [cel_i (t := 0) h.1 (by omega)] at he1
  refine va_iast hX.1 hX.2.1 hX.2.2.2.2.2.1 hD.1 wd_D hD.2 (o - 1) 0 he1 rfl h.2 hdg (fun H1 locs1 hP1 _ hS1 => ?_)
  rw [wd_set (st' := sI st o (ix i) x) o1 o2 (fun _ q => cel_sI q) (by rw [cel_i (t := 0) h.1 (by omega)]; congr 4; funext j; simp [gI, sI, u2, upd, vp_nar_byte])] at hP1
  exact kk he H1 locs1 ls ⟨hP1, hS1⟩ hl
theorem ww_bastc {o : Nat} {i x : Int32} (hX : Cx X cc own) (ho : (kd o).1 = 101 → 1 ≤ o ∧ o ≤ n) (hdg : decode cc pc = .ok (.bastore, 1)) (kk : WW X res n (pc + 1) lv stk (sI st o (ix i) x.toInt8.toInt32) K) : WW X res n pc lv (.int x :: .int i :: .ref (x_b X + o) :: stk) st (ck ((kd o).1 = 101 ∧ inb i (kd o).2) K) := ww_ck fun h he H locs ls hD hl => by
  obtain ⟨o1, o2⟩ := ho h.1
  have he1 := wd_at (b := x_b X) (tA := x_A X) (n := n) (st := st) o1 o2
  rw [cel_i (t := 1) h.1 (by omega)] at he1
  refine va_bast hX.1 hX.2.1 hX.2.2.2.2.2.1 hD.1 wd_D hD.2 (o - 1) 1 he1 rfl h.2 hdg (fun H1 locs1 hP1 _ hS1 => ?_)
  rw [wd_set (st' := sI st o (ix i) x.toInt8.toInt32) o1 o2 (fun _ q => cel_sI q) (by rw [cel_i (t := 1) h.1 (by omega)]; congr 4; funext j; simp [gI, sI, u2, upd, vp_nar_byte])] at hP1
  exact kk he H1 locs1 ls ⟨hP1, hS1⟩ hl
theorem ww_zastc {o : Nat} {i x : Int32} (hX : Cx X cc own) (ho : (kd o).1 = 102 → 1 ≤ o ∧ o ≤ n) (hdg : decode cc pc = .ok (.bastore, 1)) (kk : WW X res n (pc + 1) lv stk (sI st o (ix i) x) K) : WW X res n pc lv (.int x :: .int i :: .ref (x_b X + o) :: stk) st (ck (isb x) (ck ((kd o).1 = 102 ∧ inb i (kd o).2) K)) := ww_ck fun hz => ww_ck fun h he H locs ls hD hl => by
  obtain ⟨o1, o2⟩ := ho h.1
  have he1 := wd_at (b := x_b X) (tA := x_A X) (n := n) (st := st) o1 o2
  rw [cel_i (t := 2) h.1 (by omega)] at he1
  have ex : vp_nar .boolean x = x := by rcases hz with rfl | rfl <;> rfl
  refine va_zast hX.1 hX.2.1 hX.2.2.2.2.2.1 hD.1 wd_D hD.2 (o - 1) 2 he1 rfl h.2 hdg (fun H1 locs1 hP1 _ hS1 => ?_)
  rw [ex, wd_set (st' := sI st o (ix i) x) o1 o2 (fun _ q => cel_sI q) (by rw [cel_i (t := 2) h.1 (by omega)]; congr 4; funext j; simp [gI, sI, u2, upd])] at hP1
  exact kk he H1 locs1 ls ⟨hP1, hS1⟩ hl
theorem ww_lastc {o : Nat} {i : Int32} {x : Int64} (hX : Cx X cc own) (ho : (kd o).1 = 103 → 1 ≤ o ∧ o ≤ n) (hdg : decode cc pc = .ok (.lastore, 1)) (kk : WW X res n (pc + 1) lv stk (sL st o (ix i) x) K) : WW X res n pc lv (.long x :: .int i :: .ref (x_b X + o) :: stk) st (ck ((kd o).1 = 103 ∧ inb i (kd o).2) K) := ww_ck fun h he H locs ls hD hl => by
  obtain ⟨o1, o2⟩ := ho h.1
  have he1 := wd_at (b := x_b X) (tA := x_A X) (n := n) (st := st) o1 o2
  rw [cel_l h.1] at he1
  refine va_last hX.1 hX.2.1 hX.2.2.2.2.2.1 hD.1 wd_D hD.2 (o - 1) 3 he1 rfl h.2 hdg (fun H1 locs1 hP1 _ hS1 => ?_)
  rw [wd_set (st' := sL st o (ix i) x) o1 o2 (fun _ q => cel_sL q) (by rw [cel_l h.1]; congr 5; funext j; simp [gL, sL, u2, vp_updL])] at hP1
  exact kk he H1 locs1 ls ⟨hP1, hS1⟩ hl
theorem ww_alenc {o : Nat} (hX : Cx X cc own) (ho : (kd o).1 = 100 → 1 ≤ o ∧ o ≤ n) (hdg : decode cc pc = .ok (.arraylength, 1)) (kk : WW X res n (pc + 1) lv (.int (Int32.ofNat (kd o).2) :: stk) st K) : WW X res n pc lv (.ref (x_b X + o) :: stk) st (ck ((kd o).1 = 100) K) := ww_ck fun h he H locs ls hD hl => by
  obtain ⟨o1, o2⟩ := ho h
  have he1 := wd_at (b := x_b X) (tA := x_A X) (n := n) (st := st) o1 o2
  rw [cel_i (t := 0) h (by omega)] at he1
  exact va_alen hX.1 hX.2.1 hX.2.2.2.2.2.1 hD.1 (o - 1) 0 he1 (ty := .int) rfl rfl hdg (kk he H locs ls hD hl)
abbrev k_iald {o : Nat} : (kd o).1 = 100 → 1 ≤ o ∧ o ≤ NN := fun h => kd_in h (by decide)
abbrev k_bald {o : Nat} : (kd o).1 = 101 → 1 ≤ o ∧ o ≤ NN := fun h => kd_in h (by decide)
abbrev k_zald {o : Nat} : (kd o).1 = 102 → 1 ≤ o ∧ o ≤ NN := fun h => kd_in h (by decide)
abbrev k_lald {o : Nat} : (kd o).1 = 103 → 1 ≤ o ∧ o ≤ NN := fun h => kd_in h (by decide)
abbrev k_aald104 {o : Nat} : (kd o).1 = 104 → 1 ≤ o ∧ o ≤ NN := fun h => kd_in h (by decide)
abbrev k_aald105 {o : Nat} : (kd o).1 = 105 → 1 ≤ o ∧ o ≤ NN := fun h => kd_in h (by decide)
abbrev k_iast {o : Nat} : (kd o).1 = 100 → 1 ≤ o ∧ o ≤ NN := fun h => kd_in h (by decide)
abbrev k_bast {o : Nat} : (kd o).1 = 101 → 1 ≤ o ∧ o ≤ NN := fun h => kd_in h (by decide)
abbrev k_zast {o : Nat} : (kd o).1 = 102 → 1 ≤ o ∧ o ≤ NN := fun h => kd_in h (by decide)
abbrev k_last {o : Nat} : (kd o).1 = 103 → 1 ≤ o ∧ o ≤ NN := fun h => kd_in h (by decide)
abbrev k_alen {o : Nat} : (kd o).1 = 100 → 1 ≤ o ∧ o ≤ NN := fun h => kd_in h (by decide)
end R
