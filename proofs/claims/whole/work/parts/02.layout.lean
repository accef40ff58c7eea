/-! names, field tables, kinds of fields, the objects of the world and their keys (written by wip/gen/gen02.py) -/
def R_Ca : String := "SandGuards$Castle"
def F_Ca : u_T := fun k => match k with
  | 0 => ("SandGuards$Castle", "above", "[I", true)
  | 1 => ("SandGuards$Castle", "below", "[I", true)
  | 2 => ("SandGuards$Castle", "watcher", "[I", true)
  | 3 => ("SandGuards$Castle", "dried", "[Z", true)
  | 4 => ("SandGuards$Castle", "turned", "[I", true)
  | 5 => ("SandGuards$Castle", "byHand", "[I", true)
  | 6 => ("SandGuards$Castle", "station", "[I", true)
  | 7 => ("SandGuards$Castle", "slept", "[I", true)
  | 8 => ("SandGuards$Castle", "watch", "[I", true)
  | 9 => ("SandGuards$Castle", "beddings", "[I", true)
  | 10 => ("SandGuards$Castle", "bed", "[I", true)
  | 11 => ("SandGuards$Castle", "lying", "I", false)
  | 12 => ("SandGuards$Castle", "minute", "I", false)
  | 13 => ("SandGuards$Castle", "comings", "I", false)
  | _ => ("SandGuards$Castle", "flows", "[I", true)
def t_Ca : Nat → FieldType := fun k => match k with
  | 0 => .array .int
  | 1 => .array .int
  | 2 => .array .int
  | 3 => .array .boolean
  | 4 => .array .int
  | 5 => .array .int
  | 6 => .array .int
  | 7 => .array .int
  | 8 => .array .int
  | 9 => .array .int
  | 10 => .array .int
  | 11 => .int
  | 12 => .int
  | 13 => .int
  | _ => .array .int
def R_Dr : String := "SandGuards$Dryings"
def F_Dr : u_T := fun k => match k with
  | 0 => ("SandGuards$Dryings", "firstPost", "I", false)
  | 1 => ("SandGuards$Dryings", "firstMinutes", "I", false)
  | 2 => ("SandGuards$Dryings", "twoPosts", "I", false)
  | 3 => ("SandGuards$Dryings", "twoMinutes", "I", false)
  | 4 => ("SandGuards$Dryings", "future", "LSandGuards$Castle;", true)
  | 5 => ("SandGuards$Dryings", "foundAsItIs", "I", false)
  | 6 => ("SandGuards$Dryings", "isAsItIsFound", "Z", false)
  | 7 => ("SandGuards$Dryings", "isFirstFound", "Z", false)
  | _ => ("SandGuards$Dryings", "isTwoFound", "Z", false)
def t_Dr : Nat → FieldType := fun k => match k with
  | 0 => .int
  | 1 => .int
  | 2 => .int
  | 3 => .int
  | 4 => .object "SandGuards$Castle"
  | 5 => .int
  | 6 => .boolean
  | 7 => .boolean
  | _ => .boolean
def R_Ga : String := "SandGuards$Game"
def F_Ga : u_T := fun k => match k with
  | 0 => ("SandGuards$Game", "sets", "[I", true)
  | 1 => ("SandGuards$Game", "size", "I", false)
  | 2 => ("SandGuards$Game", "isFound", "Z", false)
  | 3 => ("SandGuards$Game", "future", "LSandGuards$Castle;", true)
  | 4 => ("SandGuards$Game", "sleeps", "[I", true)
  | 5 => ("SandGuards$Game", "foundU", "I", false)
  | _ => ("SandGuards$Game", "foundN", "I", false)
def t_Ga : Nat → FieldType := fun k => match k with
  | 0 => .array .int
  | 1 => .int
  | 2 => .boolean
  | 3 => .object "SandGuards$Castle"
  | 4 => .array .int
  | 5 => .int
  | _ => .int
def R_Hi : String := "SandGuards$History"
def F_Hi : u_T := fun k => match k with
  | 0 => ("SandGuards$History", "size", "I", false)
  | 1 => ("SandGuards$History", "kept", "[LSandGuards$Castle;", true)
  | _ => ("SandGuards$History", "next", "I", false)
def t_Hi : Nat → FieldType := fun k => match k with
  | 0 => .int
  | 1 => .array (.object "SandGuards$Castle")
  | _ => .int
def R_La : String := "SandGuards$Law"
def F_La : u_T := fun k => match k with
  | 0 => ("SandGuards$Law", "isSteady", "Z", false)
  | 1 => ("SandGuards$Law", "looksAtWet", "Z", false)
  | 2 => ("SandGuards$Law", "ops", "[I", true)
  | 3 => ("SandGuards$Law", "lefts", "[I", true)
  | 4 => ("SandGuards$Law", "rights", "[I", true)
  | 5 => ("SandGuards$Law", "aims", "[I", true)
  | 6 => ("SandGuards$Law", "numbers", "[I", true)
  | 7 => ("SandGuards$Law", "steps", "I", false)
  | _ => ("SandGuards$Law", "ints", "I", false)
def t_La : Nat → FieldType := fun k => match k with
  | 0 => .boolean
  | 1 => .boolean
  | 2 => .array .int
  | 3 => .array .int
  | 4 => .array .int
  | 5 => .array .int
  | 6 => .array .int
  | 7 => .int
  | _ => .int
def R_Ou : String := "SandGuards$Outlook"
def F_Ou : u_T := fun k => match k with
  | 0 => ("SandGuards$Outlook", "future", "LSandGuards$Castle;", true)
  | 1 => ("SandGuards$Outlook", "worstPost", "I", false)
  | _ => ("SandGuards$Outlook", "worstGuards", "I", false)
def t_Ou : Nat → FieldType := fun k => match k with
  | 0 => .object "SandGuards$Castle"
  | 1 => .int
  | _ => .int
def R_Pl : String := "SandGuards$Plan"
def F_Pl : u_T := fun k => match k with
  | 0 => ("SandGuards$Plan", "neck", "[I", true)
  | 1 => ("SandGuards$Plan", "wet", "[I", true)
  | 2 => ("SandGuards$Plan", "law", "LSandGuards$Law;", true)
  | 3 => ("SandGuards$Plan", "posts", "I", false)
  | 4 => ("SandGuards$Plan", "guards", "I", false)
  | 5 => ("SandGuards$Plan", "hours", "I", false)
  | 6 => ("SandGuards$Plan", "sleep", "I", false)
  | 7 => ("SandGuards$Plan", "isDampFelt", "Z", false)
  | _ => ("SandGuards$Plan", "rates", "[I", true)
def t_Pl : Nat → FieldType := fun k => match k with
  | 0 => .array .int
  | 1 => .array .int
  | 2 => .object "SandGuards$Law"
  | 3 => .int
  | 4 => .int
  | 5 => .int
  | 6 => .int
  | 7 => .boolean
  | _ => .array .int
def R_Re : String := "SandGuards$Reader"
def F_Re : u_T := fun k => match k with
  | 0 => ("SandGuards$Reader", "plan", "LSandGuards$Plan;", true)
  | 1 => ("SandGuards$Reader", "castle", "LSandGuards$Castle;", true)
  | 2 => ("SandGuards$Reader", "place", "I", false)
  | 3 => ("SandGuards$Reader", "tokens", "LSandGuards$Tokens;", true)
  | 4 => ("SandGuards$Reader", "names", "[J", true)
  | 5 => ("SandGuards$Reader", "postNames", "[J", true)
  | 6 => ("SandGuards$Reader", "waiting", "[I", true)
  | 7 => ("SandGuards$Reader", "waits", "I", false)
  | 8 => ("SandGuards$Reader", "unitsMade", "[I", true)
  | 9 => ("SandGuards$Reader", "units", "I", false)
  | 10 => ("SandGuards$Reader", "told", "I", false)
  | 11 => ("SandGuards$Reader", "token", "I", false)
  | 12 => ("SandGuards$Reader", "fault", "I", false)
  | 13 => ("SandGuards$Reader", "number", "I", false)
  | 14 => ("SandGuards$Reader", "name", "J", false)
  | 15 => ("SandGuards$Reader", "slip", "I", false)
  | _ => ("SandGuards$Reader", "slipPlace", "I", false)
def t_Re : Nat → FieldType := fun k => match k with
  | 0 => .object "SandGuards$Plan"
  | 1 => .object "SandGuards$Castle"
  | 2 => .int
  | 3 => .object "SandGuards$Tokens"
  | 4 => .array .long
  | 5 => .array .long
  | 6 => .array .int
  | 7 => .int
  | 8 => .array .int
  | 9 => .int
  | 10 => .int
  | 11 => .int
  | 12 => .int
  | 13 => .int
  | 14 => .long
  | 15 => .int
  | _ => .int
def R_Ru : String := "SandGuards$Rumours"
def F_Ru : u_T := fun k => match k with
  | 0 => ("SandGuards$Rumours", "ways", "[I", true)
  | 1 => ("SandGuards$Rumours", "size", "I", false)
  | 2 => ("SandGuards$Rumours", "told", "I", false)
  | 3 => ("SandGuards$Rumours", "future", "LSandGuards$Castle;", true)
  | 4 => ("SandGuards$Rumours", "toldPosts", "[I", true)
  | 5 => ("SandGuards$Rumours", "toldMinutes", "[I", true)
  | 6 => ("SandGuards$Rumours", "due", "[I", true)
  | 7 => ("SandGuards$Rumours", "isFound", "Z", false)
  | 8 => ("SandGuards$Rumours", "foundMost", "I", false)
  | _ => ("SandGuards$Rumours", "foundK", "I", false)
def t_Ru : Nat → FieldType := fun k => match k with
  | 0 => .array .int
  | 1 => .int
  | 2 => .int
  | 3 => .object "SandGuards$Castle"
  | 4 => .array .int
  | 5 => .array .int
  | 6 => .array .int
  | 7 => .boolean
  | 8 => .int
  | _ => .int
def R_Ta : String := "SandGuards$Tape"
def F_Ta : u_T := fun k => match k with
  | 0 => ("SandGuards$Tape", "bytes", "[B", true)
  | _ => ("SandGuards$Tape", "size", "I", false)
def t_Ta : Nat → FieldType := fun k => match k with
  | 0 => .array .byte
  | _ => .int
def R_To : String := "SandGuards$Tokens"
def F_To : u_T := fun k => match k with
  | 0 => ("SandGuards$Tokens", "kinds", "[I", true)
  | 1 => ("SandGuards$Tokens", "places", "[I", true)
  | 2 => ("SandGuards$Tokens", "numbers", "[I", true)
  | _ => ("SandGuards$Tokens", "names", "[J", true)
def t_To : Nat → FieldType := fun k => match k with
  | 0 => .array .int
  | 1 => .array .int
  | 2 => .array .int
  | _ => .array .long
def R_Sg : String := "SandGuards"
def F_Sg : u_T := fun k => match k with
  | 0 => ("SandGuards", "tape", "LSandGuards$Tape;", true)
  | 1 => ("SandGuards", "reader", "LSandGuards$Reader;", true)
  | 2 => ("SandGuards", "plan", "LSandGuards$Plan;", true)
  | 3 => ("SandGuards", "start", "LSandGuards$Castle;", true)
  | 4 => ("SandGuards", "now", "LSandGuards$Castle;", true)
  | 5 => ("SandGuards", "history", "LSandGuards$History;", true)
  | 6 => ("SandGuards", "slots", "[LSandGuards$Castle;", true)
  | 7 => ("SandGuards", "isHeld", "[Z", true)
  | 8 => ("SandGuards", "outlook", "LSandGuards$Outlook;", true)
  | 9 => ("SandGuards", "dryings", "LSandGuards$Dryings;", true)
  | 10 => ("SandGuards", "game", "LSandGuards$Game;", true)
  | 11 => ("SandGuards", "rumours", "LSandGuards$Rumours;", true)
  | _ => ("SandGuards", "faultPlace", "I", false)
def t_Sg : Nat → FieldType := fun k => match k with
  | 0 => .object "SandGuards$Tape"
  | 1 => .object "SandGuards$Reader"
  | 2 => .object "SandGuards$Plan"
  | 3 => .object "SandGuards$Castle"
  | 4 => .object "SandGuards$Castle"
  | 5 => .object "SandGuards$History"
  | 6 => .array (.object "SandGuards$Castle")
  | 7 => .array .boolean
  | 8 => .object "SandGuards$Outlook"
  | 9 => .object "SandGuards$Dryings"
  | 10 => .object "SandGuards$Game"
  | 11 => .object "SandGuards$Rumours"
  | _ => .int
def R_Mo : String := "SandGuardsModel"
def F_Mo : u_T := fun k => match k with
  | 0 => ("SandGuardsModel", "thrown", "I", false)
  | 1 => ("SandGuardsModel", "tape", "[B", true)
  | 2 => ("SandGuardsModel", "taped", "I", false)
  | 3 => ("SandGuardsModel", "text", "[B", true)
  | 4 => ("SandGuardsModel", "size", "I", false)
  | 5 => ("SandGuardsModel", "tKind", "[I", true)
  | 6 => ("SandGuardsModel", "tPlace", "[I", true)
  | 7 => ("SandGuardsModel", "tValue", "[I", true)
  | 8 => ("SandGuardsModel", "tName", "[J", true)
  | 9 => ("SandGuardsModel", "keys", "[J", true)
  | 10 => ("SandGuardsModel", "tokens", "I", false)
  | 11 => ("SandGuardsModel", "t", "I", false)
  | 12 => ("SandGuardsModel", "open", "I", false)
  | 13 => ("SandGuardsModel", "fault", "I", false)
  | 14 => ("SandGuardsModel", "faultPlace", "I", false)
  | 15 => ("SandGuardsModel", "worst", "I", false)
  | 16 => ("SandGuardsModel", "worstPlace", "I", false)
  | 17 => ("SandGuardsModel", "place", "I", false)
  | 18 => ("SandGuardsModel", "live", "I", false)
  | 19 => ("SandGuardsModel", "side", "I", false)
  | 20 => ("SandGuardsModel", "names", "I", false)
  | 21 => ("SandGuardsModel", "nameOf", "[J", true)
  | 22 => ("SandGuardsModel", "nameSort", "[I", true)
  | 23 => ("SandGuardsModel", "nameAt", "[I", true)
  | 24 => ("SandGuardsModel", "posts", "[I", true)
  | 25 => ("SandGuardsModel", "aboveTold", "[I", true)
  | 26 => ("SandGuardsModel", "belowTold", "[I", true)
  | 27 => ("SandGuardsModel", "neck", "[I", true)
  | 28 => ("SandGuardsModel", "guardTold", "[I", true)
  | 29 => ("SandGuardsModel", "guards", "[I", true)
  | 30 => ("SandGuardsModel", "postTold", "[I", true)
  | 31 => ("SandGuardsModel", "damps", "[I", true)
  | 32 => ("SandGuardsModel", "damp", "[I", true)
  | 33 => ("SandGuardsModel", "sleep", "[I", true)
  | 34 => ("SandGuardsModel", "lawFirst", "[I", true)
  | 35 => ("SandGuardsModel", "lawLast", "[I", true)
  | 36 => ("SandGuardsModel", "branches", "I", false)
  | 37 => ("SandGuardsModel", "hasTest", "[Z", true)
  | 38 => ("SandGuardsModel", "testFrom", "[I", true)
  | 39 => ("SandGuardsModel", "testMid", "[I", true)
  | 40 => ("SandGuardsModel", "testTo", "[I", true)
  | 41 => ("SandGuardsModel", "termTo", "[I", true)
  | 42 => ("SandGuardsModel", "codes", "I", false)
  | 43 => ("SandGuardsModel", "code", "[I", true)
  | 44 => ("SandGuardsModel", "codeInt", "[I", true)
  | 45 => ("SandGuardsModel", "waits", "[I", true)
  | 46 => ("SandGuardsModel", "waiting", "I", false)
  | 47 => ("SandGuardsModel", "variables", "[I", true)
  | 48 => ("SandGuardsModel", "pile", "[I", true)
  | 49 => ("SandGuardsModel", "isBroken", "Z", false)
  | 50 => ("SandGuardsModel", "now", "[I", true)
  | 51 => ("SandGuardsModel", "row", "[I", true)
  | 52 => ("SandGuardsModel", "undos", "I", false)
  | 53 => ("SandGuardsModel", "history", "[I", true)
  | 54 => ("SandGuardsModel", "sleptThen", "[I", true)
  | 55 => ("SandGuardsModel", "told", "I", false)
  | 56 => ("SandGuardsModel", "toldPost", "[I", true)
  | 57 => ("SandGuardsModel", "toldMinute", "[I", true)
  | 58 => ("SandGuardsModel", "turnedBy", "[I", true)
  | 59 => ("SandGuardsModel", "isHeld", "[Z", true)
  | _ => ("SandGuardsModel", "held", "[I", true)
def t_Mo : Nat → FieldType := fun k => match k with
  | 0 => .int
  | 1 => .array .byte
  | 2 => .int
  | 3 => .array .byte
  | 4 => .int
  | 5 => .array .int
  | 6 => .array .int
  | 7 => .array .int
  | 8 => .array .long
  | 9 => .array .long
  | 10 => .int
  | 11 => .int
  | 12 => .int
  | 13 => .int
  | 14 => .int
  | 15 => .int
  | 16 => .int
  | 17 => .int
  | 18 => .int
  | 19 => .int
  | 20 => .int
  | 21 => .array .long
  | 22 => .array .int
  | 23 => .array .int
  | 24 => .array .int
  | 25 => .array .int
  | 26 => .array .int
  | 27 => .array .int
  | 28 => .array .int
  | 29 => .array .int
  | 30 => .array .int
  | 31 => .array .int
  | 32 => .array .int
  | 33 => .array .int
  | 34 => .array .int
  | 35 => .array .int
  | 36 => .int
  | 37 => .array .boolean
  | 38 => .array .int
  | 39 => .array .int
  | 40 => .array .int
  | 41 => .array .int
  | 42 => .int
  | 43 => .array .int
  | 44 => .array .int
  | 45 => .array .int
  | 46 => .int
  | 47 => .array .int
  | 48 => .array .int
  | 49 => .boolean
  | 50 => .array .int
  | 51 => .array .int
  | 52 => .int
  | 53 => .array .int
  | 54 => .array .int
  | 55 => .int
  | 56 => .array .int
  | 57 => .array .int
  | 58 => .array .int
  | 59 => .array .boolean
  | _ => .array .int
abbrev classes : List vw_C := [(R_Ca, F_Ca, 15), (R_Dr, F_Dr, 9), (R_Ga, F_Ga, 7), (R_Hi, F_Hi, 3), (R_La, F_La, 9), (R_Ou, F_Ou, 3), (R_Pl, F_Pl, 9), (R_Re, F_Re, 17), (R_Ru, F_Ru, 10), (R_Ta, F_Ta, 2), (R_To, F_To, 4), (R_Sg, F_Sg, 13), (R_Mo, F_Mo, 61)]
theorem n_Ca : ∀ a, a < 15 → ∀ b, b < 15 → a ≠ b → (F_Ca a).2.1 ≠ (F_Ca b).2.1 := by decide +kernel
theorem t_Ca_ok : ∀ k, k < 15 → parseFieldDescriptor (F_Ca k).2.2.1 = some (t_Ca k) := by decide +kernel
theorem i_Ca : ∀ w ∈ u_ws R_Ca F_Ca 15, w ∈ lw_tbl := by decide +kernel
theorem o_Ca : ∀ k, k < 15 → (F_Ca k).1 = R_Ca := by decide +kernel
theorem n_Dr : ∀ a, a < 9 → ∀ b, b < 9 → a ≠ b → (F_Dr a).2.1 ≠ (F_Dr b).2.1 := by decide +kernel
theorem t_Dr_ok : ∀ k, k < 9 → parseFieldDescriptor (F_Dr k).2.2.1 = some (t_Dr k) := by decide +kernel
theorem i_Dr : ∀ w ∈ u_ws R_Dr F_Dr 9, w ∈ lw_tbl := by decide +kernel
theorem o_Dr : ∀ k, k < 9 → (F_Dr k).1 = R_Dr := by decide +kernel
theorem n_Ga : ∀ a, a < 7 → ∀ b, b < 7 → a ≠ b → (F_Ga a).2.1 ≠ (F_Ga b).2.1 := by decide +kernel
theorem t_Ga_ok : ∀ k, k < 7 → parseFieldDescriptor (F_Ga k).2.2.1 = some (t_Ga k) := by decide +kernel
theorem i_Ga : ∀ w ∈ u_ws R_Ga F_Ga 7, w ∈ lw_tbl := by decide +kernel
theorem o_Ga : ∀ k, k < 7 → (F_Ga k).1 = R_Ga := by decide +kernel
theorem n_Hi : ∀ a, a < 3 → ∀ b, b < 3 → a ≠ b → (F_Hi a).2.1 ≠ (F_Hi b).2.1 := by decide +kernel
theorem t_Hi_ok : ∀ k, k < 3 → parseFieldDescriptor (F_Hi k).2.2.1 = some (t_Hi k) := by decide +kernel
theorem i_Hi : ∀ w ∈ u_ws R_Hi F_Hi 3, w ∈ lw_tbl := by decide +kernel
theorem o_Hi : ∀ k, k < 3 → (F_Hi k).1 = R_Hi := by decide +kernel
theorem n_La : ∀ a, a < 9 → ∀ b, b < 9 → a ≠ b → (F_La a).2.1 ≠ (F_La b).2.1 := by decide +kernel
theorem t_La_ok : ∀ k, k < 9 → parseFieldDescriptor (F_La k).2.2.1 = some (t_La k) := by decide +kernel
theorem i_La : ∀ w ∈ u_ws R_La F_La 9, w ∈ lw_tbl := by decide +kernel
theorem o_La : ∀ k, k < 9 → (F_La k).1 = R_La := by decide +kernel
theorem n_Ou : ∀ a, a < 3 → ∀ b, b < 3 → a ≠ b → (F_Ou a).2.1 ≠ (F_Ou b).2.1 := by decide +kernel
theorem t_Ou_ok : ∀ k, k < 3 → parseFieldDescriptor (F_Ou k).2.2.1 = some (t_Ou k) := by decide +kernel
theorem i_Ou : ∀ w ∈ u_ws R_Ou F_Ou 3, w ∈ lw_tbl := by decide +kernel
theorem o_Ou : ∀ k, k < 3 → (F_Ou k).1 = R_Ou := by decide +kernel
theorem n_Pl : ∀ a, a < 9 → ∀ b, b < 9 → a ≠ b → (F_Pl a).2.1 ≠ (F_Pl b).2.1 := by decide +kernel
theorem t_Pl_ok : ∀ k, k < 9 → parseFieldDescriptor (F_Pl k).2.2.1 = some (t_Pl k) := by decide +kernel
theorem i_Pl : ∀ w ∈ u_ws R_Pl F_Pl 9, w ∈ lw_tbl := by decide +kernel
theorem o_Pl : ∀ k, k < 9 → (F_Pl k).1 = R_Pl := by decide +kernel
theorem n_Re : ∀ a, a < 17 → ∀ b, b < 17 → a ≠ b → (F_Re a).2.1 ≠ (F_Re b).2.1 := by decide +kernel
theorem t_Re_ok : ∀ k, k < 17 → parseFieldDescriptor (F_Re k).2.2.1 = some (t_Re k) := by decide +kernel
theorem i_Re : ∀ w ∈ u_ws R_Re F_Re 17, w ∈ lw_tbl := by decide +kernel
theorem o_Re : ∀ k, k < 17 → (F_Re k).1 = R_Re := by decide +kernel
theorem n_Ru : ∀ a, a < 10 → ∀ b, b < 10 → a ≠ b → (F_Ru a).2.1 ≠ (F_Ru b).2.1 := by decide +kernel
theorem t_Ru_ok : ∀ k, k < 10 → parseFieldDescriptor (F_Ru k).2.2.1 = some (t_Ru k) := by decide +kernel
theorem i_Ru : ∀ w ∈ u_ws R_Ru F_Ru 10, w ∈ lw_tbl := by decide +kernel
theorem o_Ru : ∀ k, k < 10 → (F_Ru k).1 = R_Ru := by decide +kernel
theorem n_Ta : ∀ a, a < 2 → ∀ b, b < 2 → a ≠ b → (F_Ta a).2.1 ≠ (F_Ta b).2.1 := by decide +kernel
theorem t_Ta_ok : ∀ k, k < 2 → parseFieldDescriptor (F_Ta k).2.2.1 = some (t_Ta k) := by decide +kernel
theorem i_Ta : ∀ w ∈ u_ws R_Ta F_Ta 2, w ∈ lw_tbl := by decide +kernel
theorem o_Ta : ∀ k, k < 2 → (F_Ta k).1 = R_Ta := by decide +kernel
theorem n_To : ∀ a, a < 4 → ∀ b, b < 4 → a ≠ b → (F_To a).2.1 ≠ (F_To b).2.1 := by decide +kernel
theorem t_To_ok : ∀ k, k < 4 → parseFieldDescriptor (F_To k).2.2.1 = some (t_To k) := by decide +kernel
theorem i_To : ∀ w ∈ u_ws R_To F_To 4, w ∈ lw_tbl := by decide +kernel
theorem o_To : ∀ k, k < 4 → (F_To k).1 = R_To := by decide +kernel
theorem n_Sg : ∀ a, a < 13 → ∀ b, b < 13 → a ≠ b → (F_Sg a).2.1 ≠ (F_Sg b).2.1 := by decide +kernel
theorem t_Sg_ok : ∀ k, k < 13 → parseFieldDescriptor (F_Sg k).2.2.1 = some (t_Sg k) := by decide +kernel
theorem i_Sg : ∀ w ∈ u_ws R_Sg F_Sg 13, w ∈ lw_tbl := by decide +kernel
theorem o_Sg : ∀ k, k < 13 → (F_Sg k).1 = R_Sg := by decide +kernel
theorem n_Mo : ∀ a, a < 61 → ∀ b, b < 61 → a ≠ b → (F_Mo a).2.1 ≠ (F_Mo b).2.1 := by decide +kernel
theorem t_Mo_ok : ∀ k, k < 61 → parseFieldDescriptor (F_Mo k).2.2.1 = some (t_Mo k) := by decide +kernel
theorem i_Mo : ∀ w ∈ u_ws R_Mo F_Mo 61, w ∈ lw_tbl := by decide +kernel
theorem o_Mo : ∀ k, k < 61 → (F_Mo k).1 = R_Mo := by decide +kernel
/-- kinds: 0 int, 1 boolean, 2 long, 3 int[], 4 boolean[], 5 byte[], 6 long[], 7 an object, 8 Castle[] -/
def kdT : List (List Nat) := [[3, 3, 3, 4, 3, 3, 3, 3, 3, 3, 3, 0, 0, 0, 3], [0, 0, 0, 0, 7, 0, 1, 1, 1], [3, 0, 1, 7, 3, 0, 0], [0, 8, 0], [1, 1, 3, 3, 3, 3, 3, 0, 0], [7, 0, 0], [3, 3, 7, 0, 0, 0, 0, 1, 3], [7, 7, 0, 7, 6, 6, 3, 0, 3, 0, 0, 0, 0, 0, 2, 0, 0], [3, 0, 0, 7, 3, 3, 3, 1, 0, 0], [5, 0], [3, 3, 3, 6], [7, 7, 7, 7, 7, 7, 8, 4, 7, 7, 7, 7, 0], [0, 5, 0, 5, 0, 3, 3, 3, 6, 6, 0, 0, 0, 0, 0, 0, 0, 0, 0, 0, 0, 6, 3, 3, 3, 3, 3, 3, 3, 3, 3, 3, 3, 3, 3, 3, 0, 4, 3, 3, 3, 3, 0, 3, 3, 3, 0, 3, 3, 1, 3, 3, 0, 3, 3, 0, 3, 3, 3, 4, 3]]
def lnT : List (List Nat) := [[8, 8, 8, 8, 8, 8, 12, 12, 12, 12, 12, 0, 0, 0, 8], [0, 0, 0, 0, 0, 0, 0, 0, 0], [256, 0, 0, 0, 2048, 0, 0], [0, 40, 0], [0, 0, 400, 400, 400, 400, 806, 0, 0], [0, 0, 0], [8, 25, 0, 0, 0, 0, 0, 0, 200], [0, 0, 0, 0, 20, 8, 21, 0, 21, 0, 0, 0, 0, 0, 0, 0, 0], [1601, 0, 0, 0, 20, 20, 2001, 0, 0, 0], [2000, 0], [402, 402, 402, 402], [0, 0, 0, 0, 0, 0, 3, 3, 0, 0, 0, 0, 0], [0, 2000, 0, 2000, 0, 403, 403, 403, 403, 14, 0, 0, 0, 0, 0, 0, 0, 0, 0, 0, 0, 20, 20, 20, 2, 16, 16, 16, 16, 2, 24, 2, 48, 2, 2, 2, 0, 260, 260, 260, 260, 260, 0, 840, 840, 64, 0, 6, 400, 0, 100, 100, 0, 4000, 3072, 0, 20, 20, 8, 3, 300]]
def kd (ci f : Nat) : Nat := (kdT.getD ci []).getD f 99
def ln (ci f : Nat) : Nat := (lnT.getD ci []).getD f 0
def nf (ci : Nat) : Nat := (kdT.getD ci []).length
def cls (o : Nat) : Nat := if o < 14 then ([11, 12, 9, 7, 6, 4, 10, 6, 4, 3, 5, 1, 2, 8] : List Nat).getD o 0 else 0
/-- to which object a field points (an array of objects: to the first of them) -/
def fo (o f : Nat) : Nat := match o, f with
  | 0, 0 => 2
  | 0, 1 => 3
  | 0, 2 => 7
  | 0, 3 => 17
  | 0, 4 => 18
  | 0, 5 => 9
  | 0, 6 => 23
  | 0, 8 => 10
  | 0, 9 => 11
  | 0, 10 => 12
  | 0, 11 => 13
  | 3, 0 => 4
  | 3, 1 => 16
  | 3, 3 => 6
  | 4, 2 => 5
  | 7, 2 => 8
  | 9, 1 => 32
  | 10, 0 => 19
  | 11, 4 => 20
  | 12, 3 => 21
  | 13, 3 => 22
  | _, _ => 0
def castles : List Nat := List.range' 16 10 ++ List.range' 32 40
def objs : List Nat := List.range 14 ++ castles
def isArr (k : Nat) : Bool := k == 3 || k == 4 || k == 5 || k == 6 || k == 8
def arrF (ci : Nat) : List Nat := (List.range (nf ci)).filter (fun f => isArr (kd ci f))
def kys : List (Nat × Nat) := objs.flatMap (fun o => (o, 0) :: (arrF (cls o)).map (fun f => (o, f + 1)))
