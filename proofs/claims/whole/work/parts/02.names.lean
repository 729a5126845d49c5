def TX0 : u_T := fun k => match k with
  | _ => ("JoinRouter$Core", "cells", "[I", true)
def tyX0 : Nat → FieldType := fun k => match k with
  | _ => .array .int
def TX1 : u_T := fun k => match k with
  | 0 => ("JoinRouter$Kept", "core", "LJoinRouter$Core;", true)
  | 1 => ("JoinRouter$Kept", "terms", "[I", true)
  | 2 => ("JoinRouter$Kept", "seenFacts", "[I", true)
  | 3 => ("JoinRouter$Kept", "seenNumbers", "[I", true)
  | 4 => ("JoinRouter$Kept", "seenCount", "I", false)
  | 5 => ("JoinRouter$Kept", "laws", "[LJoinRouter$Text;", true)
  | 6 => ("JoinRouter$Kept", "lawCount", "I", false)
  | _ => ("JoinRouter$Kept", "inForce", "I", false)
def tyX1 : Nat → FieldType := fun k => match k with
  | 0 => .object "JoinRouter$Core"
  | 1 => .array .int
  | 2 => .array .int
  | 3 => .array .int
  | 4 => .int
  | 5 => .array (.object "JoinRouter$Text")
  | 6 => .int
  | _ => .int
def TX2 : u_T := fun k => match k with
  | 0 => ("JoinRouter$Latest", "resultStamps", "[I", true)
  | 1 => ("JoinRouter$Latest", "results", "I", false)
  | 2 => ("JoinRouter$Latest", "shutRelations", "[I", true)
  | 3 => ("JoinRouter$Latest", "shutCount", "I", false)
  | _ => ("JoinRouter$Latest", "deepest", "I", false)
def tyX2 : Nat → FieldType := fun k => match k with
  | 0 => .array .int
  | 1 => .int
  | 2 => .array .int
  | 3 => .int
  | _ => .int
def TX3 : u_T := fun k => match k with
  | 0 => ("JoinRouter$Log", "kinds", "[I", true)
  | 1 => ("JoinRouter$Log", "cells", "[I", true)
  | 2 => ("JoinRouter$Log", "first", "I", false)
  | _ => ("JoinRouter$Log", "size", "I", false)
def tyX3 : Nat → FieldType := fun k => match k with
  | 0 => .array .int
  | 1 => .array .int
  | 2 => .int
  | _ => .int
def TX4 : u_T := fun k => match k with
  | _ => ("JoinRouter$Machine", "stack", "[J", true)
def tyX4 : Nat → FieldType := fun k => match k with
  | _ => .array .long
def TX5 : u_T := fun k => match k with
  | 0 => ("JoinRouter$Reader", "tokens", "LJoinRouter$Tokens;", true)
  | 1 => ("JoinRouter$Reader", "text", "LJoinRouter$Text;", true)
  | 2 => ("JoinRouter$Reader", "isLaw", "Z", false)
  | 3 => ("JoinRouter$Reader", "parts", "I", false)
  | _ => ("JoinRouter$Reader", "at", "I", false)
def tyX5 : Nat → FieldType := fun k => match k with
  | 0 => .object "JoinRouter$Tokens"
  | 1 => .object "JoinRouter$Text"
  | 2 => .boolean
  | 3 => .int
  | _ => .int
def TX6 : u_T := fun k => match k with
  | 0 => ("JoinRouter$Route", "machine", "LJoinRouter$Machine;", true)
  | 1 => ("JoinRouter$Route", "words", "[I", true)
  | 2 => ("JoinRouter$Route", "core", "LJoinRouter$Core;", false)
  | 3 => ("JoinRouter$Route", "law", "LJoinRouter$Text;", false)
  | 4 => ("JoinRouter$Route", "order", "[I", false)
  | 5 => ("JoinRouter$Route", "budget", "I", false)
  | 6 => ("JoinRouter$Route", "open", "I", false)
  | 7 => ("JoinRouter$Route", "stamps", "[I", true)
  | 8 => ("JoinRouter$Route", "fields", "[I", true)
  | 9 => ("JoinRouter$Route", "tickets", "[I", true)
  | 10 => ("JoinRouter$Route", "resultStamps", "[I", true)
  | 11 => ("JoinRouter$Route", "shutRelations", "[I", true)
  | 12 => ("JoinRouter$Route", "results", "I", false)
  | 13 => ("JoinRouter$Route", "shutCount", "I", false)
  | 14 => ("JoinRouter$Route", "deepest", "I", false)
  | 15 => ("JoinRouter$Route", "cost", "I", false)
  | _ => ("JoinRouter$Route", "givenUp", "Z", false)
def tyX6 : Nat → FieldType := fun k => match k with
  | 0 => .object "JoinRouter$Machine"
  | 1 => .array .int
  | 2 => .object "JoinRouter$Core"
  | 3 => .object "JoinRouter$Text"
  | 4 => .array .int
  | 5 => .int
  | 6 => .int
  | 7 => .array .int
  | 8 => .array .int
  | 9 => .array .int
  | 10 => .array .int
  | 11 => .array .int
  | 12 => .int
  | 13 => .int
  | 14 => .int
  | 15 => .int
  | _ => .boolean
def TX7 : u_T := fun k => match k with
  | 0 => ("JoinRouter$Running", "machine", "LJoinRouter$Machine;", true)
  | 1 => ("JoinRouter$Running", "words", "[I", true)
  | 2 => ("JoinRouter$Running", "numbers", "[I", true)
  | 3 => ("JoinRouter$Running", "done", "I", false)
  | 4 => ("JoinRouter$Running", "latestCome", "I", false)
  | _ => ("JoinRouter$Running", "stoppedAt", "I", false)
def tyX7 : Nat → FieldType := fun k => match k with
  | 0 => .object "JoinRouter$Machine"
  | 1 => .array .int
  | 2 => .array .int
  | 3 => .int
  | 4 => .int
  | _ => .int
def TX8 : u_T := fun k => match k with
  | 0 => ("JoinRouter$Tape", "bytes", "[B", true)
  | _ => ("JoinRouter$Tape", "length", "I", false)
def tyX8 : Nat → FieldType := fun k => match k with
  | 0 => .array .byte
  | _ => .int
def TX9 : u_T := fun k => match k with
  | 0 => ("JoinRouter$Text", "rows", "[I", true)
  | 1 => ("JoinRouter$Text", "code", "[I", true)
  | 2 => ("JoinRouter$Text", "clauses", "I", false)
  | _ => ("JoinRouter$Text", "length", "I", false)
def tyX9 : Nat → FieldType := fun k => match k with
  | 0 => .array .int
  | 1 => .array .int
  | 2 => .int
  | _ => .int
def TX10 : u_T := fun k => match k with
  | 0 => ("JoinRouter$Tokens", "tape", "LJoinRouter$Tape;", true)
  | 1 => ("JoinRouter$Tokens", "kinds", "[I", true)
  | 2 => ("JoinRouter$Tokens", "places", "[I", true)
  | _ => ("JoinRouter$Tokens", "numbers", "[I", true)
def tyX10 : Nat → FieldType := fun k => match k with
  | 0 => .object "JoinRouter$Tape"
  | 1 => .array .int
  | 2 => .array .int
  | _ => .array .int
def TX11 : u_T := fun k => match k with
  | 0 => ("JoinRouter", "now", "LJoinRouter$Kept;", true)
  | 1 => ("JoinRouter", "images", "[LJoinRouter$Kept;", true)
  | 2 => ("JoinRouter", "isKept", "[Z", true)
  | 3 => ("JoinRouter", "log", "LJoinRouter$Log;", true)
  | 4 => ("JoinRouter", "logBefore", "LJoinRouter$Log;", true)
  | 5 => ("JoinRouter", "spare", "LJoinRouter$Core;", true)
  | 6 => ("JoinRouter", "drawnCore", "LJoinRouter$Core;", true)
  | 7 => ("JoinRouter", "hasDrawn", "Z", false)
  | 8 => ("JoinRouter", "reader", "LJoinRouter$Reader;", true)
  | 9 => ("JoinRouter", "tape", "LJoinRouter$Tape;", true)
  | 10 => ("JoinRouter", "route", "LJoinRouter$Route;", true)
  | 11 => ("JoinRouter", "latest", "LJoinRouter$Latest;", true)
  | 12 => ("JoinRouter", "running", "LJoinRouter$Running;", true)
  | 13 => ("JoinRouter", "refusals", "[I", true)
  | 14 => ("JoinRouter", "bestRow", "[I", true)
  | 15 => ("JoinRouter", "scratch", "[I", true)
  | 16 => ("JoinRouter", "statusNow", "I", false)
  | 17 => ("JoinRouter", "faultAt", "I", false)
  | _ => ("JoinRouter", "straysOfRow", "I", false)
def tyX11 : Nat → FieldType := fun k => match k with
  | 0 => .object "JoinRouter$Kept"
  | 1 => .array (.object "JoinRouter$Kept")
  | 2 => .array .boolean
  | 3 => .object "JoinRouter$Log"
  | 4 => .object "JoinRouter$Log"
  | 5 => .object "JoinRouter$Core"
  | 6 => .object "JoinRouter$Core"
  | 7 => .boolean
  | 8 => .object "JoinRouter$Reader"
  | 9 => .object "JoinRouter$Tape"
  | 10 => .object "JoinRouter$Route"
  | 11 => .object "JoinRouter$Latest"
  | 12 => .object "JoinRouter$Running"
  | 13 => .array .int
  | 14 => .array .int
  | 15 => .array .int
  | 16 => .int
  | 17 => .int
  | _ => .int
def TX12 : u_T := fun k => match k with
  | 0 => ("JoinRouterModel", "thrown", "I", false)
  | 1 => ("JoinRouterModel", "status", "I", false)
  | 2 => ("JoinRouterModel", "refusals", "[I", true)
  | 3 => ("JoinRouterModel", "row", "[I", true)
  | 4 => ("JoinRouterModel", "images", "[I", true)
  | 5 => ("JoinRouterModel", "isKept", "[Z", true)
  | 6 => ("JoinRouterModel", "undos", "[I", true)
  | 7 => ("JoinRouterModel", "sorts", "[I", true)
  | 8 => ("JoinRouterModel", "nUndo", "I", false)
  | 9 => ("JoinRouterModel", "undosBefore", "[I", true)
  | 10 => ("JoinRouterModel", "sortsBefore", "[I", true)
  | 11 => ("JoinRouterModel", "strays", "I", false)
  | 12 => ("JoinRouterModel", "tape", "[I", true)
  | 13 => ("JoinRouterModel", "taped", "I", false)
  | 14 => ("JoinRouterModel", "from", "I", false)
  | 15 => ("JoinRouterModel", "to", "I", false)
  | 16 => ("JoinRouterModel", "sort", "I", false)
  | 17 => ("JoinRouterModel", "worth", "J", false)
  | 18 => ("JoinRouterModel", "fault", "I", false)
  | 19 => ("JoinRouterModel", "bad", "Z", false)
  | 20 => ("JoinRouterModel", "ordered", "Z", false)
  | 21 => ("JoinRouterModel", "nClauses", "I", false)
  | 22 => ("JoinRouterModel", "nClause", "[I", true)
  | 23 => ("JoinRouterModel", "nCode", "I", false)
  | 24 => ("JoinRouterModel", "nOp", "[I", true)
  | 25 => ("JoinRouterModel", "nArg", "[I", true)
  | 26 => ("JoinRouterModel", "nLeaves", "I", false)
  | 27 => ("JoinRouterModel", "pile", "[I", true)
  | 28 => ("JoinRouterModel", "pileAt", "[I", true)
  | 29 => ("JoinRouterModel", "piled", "I", false)
  | 30 => ("JoinRouterModel", "opened", "I", false)
  | 31 => ("JoinRouterModel", "words", "[J", true)
  | 32 => ("JoinRouterModel", "orderWords", "[J", true)
  | 33 => ("JoinRouterModel", "heads", "[J", true)
  | 34 => ("JoinRouterModel", "law", "I", false)
  | 35 => ("JoinRouterModel", "set", "[J", true)
  | 36 => ("JoinRouterModel", "now", "[J", true)
  | 37 => ("JoinRouterModel", "rest", "[J", true)
  | 38 => ("JoinRouterModel", "broken", "Z", false)
  | 39 => ("JoinRouterModel", "value", "J", false)
  | 40 => ("JoinRouterModel", "sum", "J", false)
  | 41 => ("JoinRouterModel", "part", "[I", true)
  | 42 => ("JoinRouterModel", "marks", "[I", true)
  | 43 => ("JoinRouterModel", "openedBy", "[I", true)
  | 44 => ("JoinRouterModel", "gone", "[I", true)
  | 45 => ("JoinRouterModel", "passed", "[I", true)
  | 46 => ("JoinRouterModel", "tickets", "[I", true)
  | 47 => ("JoinRouterModel", "newRelation", "I", false)
  | 48 => ("JoinRouterModel", "newFields", "[I", true)
  | 49 => ("JoinRouterModel", "newStamp", "I", false)
  | 50 => ("JoinRouterModel", "cost", "I", false)
  | 51 => ("JoinRouterModel", "nResults", "I", false)
  | 52 => ("JoinRouterModel", "nShut", "I", false)
  | 53 => ("JoinRouterModel", "mostOpen", "I", false)
  | 54 => ("JoinRouterModel", "results", "[I", true)
  | 55 => ("JoinRouterModel", "shutOnes", "[I", true)
  | 56 => ("JoinRouterModel", "isFixed", "Z", false)
  | 57 => ("JoinRouterModel", "order", "[I", true)
  | 58 => ("JoinRouterModel", "told", "[I", true)
  | 59 => ("JoinRouterModel", "nTold", "I", false)
  | 60 => ("JoinRouterModel", "toldShut", "[I", true)
  | 61 => ("JoinRouterModel", "nToldShut", "I", false)
  | 62 => ("JoinRouterModel", "deepest", "I", false)
  | 63 => ("JoinRouterModel", "bestOrder", "[I", true)
  | 64 => ("JoinRouterModel", "alike", "[I", true)
  | 65 => ("JoinRouterModel", "parts", "[J", true)
  | 66 => ("JoinRouterModel", "acts", "[J", true)
  | 67 => ("JoinRouterModel", "nOrder", "[I", true)
  | 68 => ("JoinRouterModel", "done", "I", false)
  | 69 => ("JoinRouterModel", "latest", "I", false)
  | 70 => ("JoinRouterModel", "stopped", "I", false)
  | 71 => ("JoinRouterModel", "off", "Z", false)
  | 72 => ("JoinRouterModel", "state", "J", false)
  | 73 => ("JoinRouterModel", "drawn", "[I", true)
  | _ => ("JoinRouterModel", "drawnOperators", "I", false)
def tyX12 : Nat → FieldType := fun k => match k with
  | 0 => .int
  | 1 => .int
  | 2 => .array .int
  | 3 => .array .int
  | 4 => .array .int
  | 5 => .array .boolean
  | 6 => .array .int
  | 7 => .array .int
  | 8 => .int
  | 9 => .array .int
  | 10 => .array .int
  | 11 => .int
  | 12 => .array .int
  | 13 => .int
  | 14 => .int
  | 15 => .int
  | 16 => .int
  | 17 => .long
  | 18 => .int
  | 19 => .boolean
  | 20 => .boolean
  | 21 => .int
  | 22 => .array .int
  | 23 => .int
  | 24 => .array .int
  | 25 => .array .int
  | 26 => .int
  | 27 => .array .int
  | 28 => .array .int
  | 29 => .int
  | 30 => .int
  | 31 => .array .long
  | 32 => .array .long
  | 33 => .array .long
  | 34 => .int
  | 35 => .array .long
  | 36 => .array .long
  | 37 => .array .long
  | 38 => .boolean
  | 39 => .long
  | 40 => .long
  | 41 => .array .int
  | 42 => .array .int
  | 43 => .array .int
  | 44 => .array .int
  | 45 => .array .int
  | 46 => .array .int
  | 47 => .int
  | 48 => .array .int
  | 49 => .int
  | 50 => .int
  | 51 => .int
  | 52 => .int
  | 53 => .int
  | 54 => .array .int
  | 55 => .array .int
  | 56 => .boolean
  | 57 => .array .int
  | 58 => .array .int
  | 59 => .int
  | 60 => .array .int
  | 61 => .int
  | 62 => .int
  | 63 => .array .int
  | 64 => .array .int
  | 65 => .array .long
  | 66 => .array .long
  | 67 => .array .int
  | 68 => .int
  | 69 => .int
  | 70 => .int
  | 71 => .boolean
  | 72 => .long
  | 73 => .array .int
  | _ => .int
def cR : Nat → String := fun k => match k with
  | 0 => "JoinRouter$Core"
  | 1 => "JoinRouter$Kept"
  | 2 => "JoinRouter$Latest"
  | 3 => "JoinRouter$Log"
  | 4 => "JoinRouter$Machine"
  | 5 => "JoinRouter$Reader"
  | 6 => "JoinRouter$Route"
  | 7 => "JoinRouter$Running"
  | 8 => "JoinRouter$Tape"
  | 9 => "JoinRouter$Text"
  | 10 => "JoinRouter$Tokens"
  | 11 => "JoinRouter"
  | _ => "JoinRouterModel"
def cT : Nat → u_T := fun k => match k with
  | 0 => TX0
  | 1 => TX1
  | 2 => TX2
  | 3 => TX3
  | 4 => TX4
  | 5 => TX5
  | 6 => TX6
  | 7 => TX7
  | 8 => TX8
  | 9 => TX9
  | 10 => TX10
  | 11 => TX11
  | _ => TX12
def cN : Nat → Nat := fun k => match k with
  | 0 => 1
  | 1 => 8
  | 2 => 5
  | 3 => 4
  | 4 => 1
  | 5 => 5
  | 6 => 17
  | 7 => 6
  | 8 => 2
  | 9 => 4
  | 10 => 4
  | 11 => 19
  | _ => 75
def cY : Nat → Nat → FieldType := fun k => match k with
  | 0 => tyX0
  | 1 => tyX1
  | 2 => tyX2
  | 3 => tyX3
  | 4 => tyX4
  | 5 => tyX5
  | 6 => tyX6
  | 7 => tyX7
  | 8 => tyX8
  | 9 => tyX9
  | 10 => tyX10
  | 11 => tyX11
  | _ => tyX12
/-- the words that a walk carries -/
def pNo (w : Cond) : Bool := match w with
  | .methodLinkNest _ _ _ _ => true
  | .arrayOver (.object _) => true
  | _ => false
def pUse (w : Cond) : Bool := goodWord w || pNo w
def lw_u : List Cond := lw_tbl.filter pUse
theorem lw_u_of {w : Cond} (h : w ∈ lw_tbl) (hu : pUse w = true) : w ∈ lw_u := List.mem_filter.mpr ⟨h, hu⟩
theorem u_lay_use (C : String) (T : u_T) (k : Nat) : pUse (u_lay C T k) = true := by
  unfold u_lay
  split <;> rfl
theorem cl_use {C : String} {T : u_T} {N : Nat} (h : ∀ w ∈ u_ws C T N, w ∈ lw_tbl) : ∀ w ∈ u_ws C T N, w ∈ lw_u := by
  intro w hw
  refine lw_u_of (h w hw) ?_
  obtain ⟨k, -, rfl⟩ := List.mem_map.mp hw
  exact u_lay_use C T k
theorem tb1 {w : Cond} (h : w ∈ tables_1_1) (hu : pUse w = true := by rfl) : w ∈ lw_u := lw_u_of (List.mem_append_right _ (show w ∈ tables_1 from List.mem_append_left _ h)) hu
theorem tb2 {w : Cond} (h : w ∈ tables_1_2) (hu : pUse w = true := by rfl) : w ∈ lw_u := lw_u_of (List.mem_append_right _ (show w ∈ tables_1 from List.mem_append_right _ (List.mem_append_left _ h))) hu
theorem tb3 {w : Cond} (h : w ∈ tables_1_3) (hu : pUse w = true := by rfl) : w ∈ lw_u := lw_u_of (List.mem_append_right _ (show w ∈ tables_1 from List.mem_append_right _ (List.mem_append_right _ (List.mem_append_left _ h)))) hu
theorem tb4 {w : Cond} (h : w ∈ tables_1_4) (hu : pUse w = true := by rfl) : w ∈ lw_u := lw_u_of (List.mem_append_right _ (show w ∈ tables_1 from List.mem_append_right _ (List.mem_append_right _ (List.mem_append_right _ (List.mem_append_left _ h))))) hu
theorem tb5 {w : Cond} (h : w ∈ tables_1_5) (hu : pUse w = true := by rfl) : w ∈ lw_u := lw_u_of (List.mem_append_right _ (show w ∈ tables_1 from List.mem_append_right _ (List.mem_append_right _ (List.mem_append_right _ (List.mem_append_right _ (List.mem_append_left _ h)))))) hu
theorem tb6 {w : Cond} (h : w ∈ tables_1_6) (hu : pUse w = true := by rfl) : w ∈ lw_u := lw_u_of (List.mem_append_right _ (show w ∈ tables_1 from List.mem_append_right _ (List.mem_append_right _ (List.mem_append_right _ (List.mem_append_right _ (List.mem_append_right _ (List.mem_append_left _ h))))))) hu
theorem tb7 {w : Cond} (h : w ∈ tables_1_7) (hu : pUse w = true := by rfl) : w ∈ lw_u := lw_u_of (List.mem_append_right _ (show w ∈ tables_1 from List.mem_append_right _ (List.mem_append_right _ (List.mem_append_right _ (List.mem_append_right _ (List.mem_append_right _ (List.mem_append_right _ (List.mem_append_left _ h)))))))) hu
theorem tb8 {w : Cond} (h : w ∈ tables_1_8) (hu : pUse w = true := by rfl) : w ∈ lw_u := lw_u_of (List.mem_append_right _ (show w ∈ tables_1 from List.mem_append_right _ (List.mem_append_right _ (List.mem_append_right _ (List.mem_append_right _ (List.mem_append_right _ (List.mem_append_right _ (List.mem_append_right _ (h))))))))) hu
theorem cl_in0 : ∀ w ∈ u_ws (cR 0) (cT 0) (cN 0), w ∈ lw_u := cl_use (by decide +kernel)
theorem cl_in1 : ∀ w ∈ u_ws (cR 1) (cT 1) (cN 1), w ∈ lw_u := cl_use (by decide +kernel)
theorem cl_in2 : ∀ w ∈ u_ws (cR 2) (cT 2) (cN 2), w ∈ lw_u := cl_use (by decide +kernel)
theorem cl_in3 : ∀ w ∈ u_ws (cR 3) (cT 3) (cN 3), w ∈ lw_u := cl_use (by decide +kernel)
theorem cl_in4 : ∀ w ∈ u_ws (cR 4) (cT 4) (cN 4), w ∈ lw_u := cl_use (by decide +kernel)
theorem cl_in5 : ∀ w ∈ u_ws (cR 5) (cT 5) (cN 5), w ∈ lw_u := cl_use (by decide +kernel)
theorem cl_in6 : ∀ w ∈ u_ws (cR 6) (cT 6) (cN 6), w ∈ lw_u := cl_use (by decide +kernel)
theorem cl_in7 : ∀ w ∈ u_ws (cR 7) (cT 7) (cN 7), w ∈ lw_u := cl_use (by decide +kernel)
theorem cl_in8 : ∀ w ∈ u_ws (cR 8) (cT 8) (cN 8), w ∈ lw_u := cl_use (by decide +kernel)
theorem cl_in9 : ∀ w ∈ u_ws (cR 9) (cT 9) (cN 9), w ∈ lw_u := cl_use (by decide +kernel)
theorem cl_in10 : ∀ w ∈ u_ws (cR 10) (cT 10) (cN 10), w ∈ lw_u := cl_use (by decide +kernel)
theorem cl_in11 : ∀ w ∈ u_ws (cR 11) (cT 11) (cN 11), w ∈ lw_u := cl_use (by decide +kernel)
theorem cl_in12 : ∀ w ∈ u_ws (cR 12) (cT 12) (cN 12), w ∈ lw_u := cl_use (by decide +kernel)
theorem cl_in : ∀ k : Nat, k < 13 → ∀ w ∈ u_ws (cR k) (cT k) (cN k), w ∈ lw_u
  | 0, _ => cl_in0
  | 1, _ => cl_in1
  | 2, _ => cl_in2
  | 3, _ => cl_in3
  | 4, _ => cl_in4
  | 5, _ => cl_in5
  | 6, _ => cl_in6
  | 7, _ => cl_in7
  | 8, _ => cl_in8
  | 9, _ => cl_in9
  | 10, _ => cl_in10
  | 11, _ => cl_in11
  | 12, _ => cl_in12
  | k + 13, h => absurd h (by omega)
theorem cl_ty0 : ∀ j, j < cN 0 → parseFieldDescriptor (cT 0 j).2.2.1 = some (cY 0 j) := by decide +kernel
theorem cl_ty1 : ∀ j, j < cN 1 → parseFieldDescriptor (cT 1 j).2.2.1 = some (cY 1 j) := by decide +kernel
theorem cl_ty2 : ∀ j, j < cN 2 → parseFieldDescriptor (cT 2 j).2.2.1 = some (cY 2 j) := by decide +kernel
theorem cl_ty3 : ∀ j, j < cN 3 → parseFieldDescriptor (cT 3 j).2.2.1 = some (cY 3 j) := by decide +kernel
theorem cl_ty4 : ∀ j, j < cN 4 → parseFieldDescriptor (cT 4 j).2.2.1 = some (cY 4 j) := by decide +kernel
theorem cl_ty5 : ∀ j, j < cN 5 → parseFieldDescriptor (cT 5 j).2.2.1 = some (cY 5 j) := by decide +kernel
theorem cl_ty6 : ∀ j, j < cN 6 → parseFieldDescriptor (cT 6 j).2.2.1 = some (cY 6 j) := by decide +kernel
theorem cl_ty7 : ∀ j, j < cN 7 → parseFieldDescriptor (cT 7 j).2.2.1 = some (cY 7 j) := by decide +kernel
theorem cl_ty8 : ∀ j, j < cN 8 → parseFieldDescriptor (cT 8 j).2.2.1 = some (cY 8 j) := by decide +kernel
theorem cl_ty9 : ∀ j, j < cN 9 → parseFieldDescriptor (cT 9 j).2.2.1 = some (cY 9 j) := by decide +kernel
theorem cl_ty10 : ∀ j, j < cN 10 → parseFieldDescriptor (cT 10 j).2.2.1 = some (cY 10 j) := by decide +kernel
theorem cl_ty11 : ∀ j, j < cN 11 → parseFieldDescriptor (cT 11 j).2.2.1 = some (cY 11 j) := by decide +kernel
theorem cl_ty12 : ∀ j, j < cN 12 → parseFieldDescriptor (cT 12 j).2.2.1 = some (cY 12 j) := by decide +kernel
theorem cl_ty : ∀ k : Nat, k < 13 → ∀ j, j < cN k → parseFieldDescriptor (cT k j).2.2.1 = some (cY k j)
  | 0, _ => cl_ty0
  | 1, _ => cl_ty1
  | 2, _ => cl_ty2
  | 3, _ => cl_ty3
  | 4, _ => cl_ty4
  | 5, _ => cl_ty5
  | 6, _ => cl_ty6
  | 7, _ => cl_ty7
  | 8, _ => cl_ty8
  | 9, _ => cl_ty9
  | 10, _ => cl_ty10
  | 11, _ => cl_ty11
  | 12, _ => cl_ty12
  | k + 13, h => absurd h (by omega)
theorem cl_nm0 : ∀ a, a < cN 0 → ∀ b, b < cN 0 → a ≠ b → (cT 0 a).2.1 ≠ (cT 0 b).2.1 := by decide +kernel
theorem cl_nm1 : ∀ a, a < cN 1 → ∀ b, b < cN 1 → a ≠ b → (cT 1 a).2.1 ≠ (cT 1 b).2.1 := by decide +kernel
theorem cl_nm2 : ∀ a, a < cN 2 → ∀ b, b < cN 2 → a ≠ b → (cT 2 a).2.1 ≠ (cT 2 b).2.1 := by decide +kernel
theorem cl_nm3 : ∀ a, a < cN 3 → ∀ b, b < cN 3 → a ≠ b → (cT 3 a).2.1 ≠ (cT 3 b).2.1 := by decide +kernel
theorem cl_nm4 : ∀ a, a < cN 4 → ∀ b, b < cN 4 → a ≠ b → (cT 4 a).2.1 ≠ (cT 4 b).2.1 := by decide +kernel
theorem cl_nm5 : ∀ a, a < cN 5 → ∀ b, b < cN 5 → a ≠ b → (cT 5 a).2.1 ≠ (cT 5 b).2.1 := by decide +kernel
theorem cl_nm6 : ∀ a, a < cN 6 → ∀ b, b < cN 6 → a ≠ b → (cT 6 a).2.1 ≠ (cT 6 b).2.1 := by decide +kernel
theorem cl_nm7 : ∀ a, a < cN 7 → ∀ b, b < cN 7 → a ≠ b → (cT 7 a).2.1 ≠ (cT 7 b).2.1 := by decide +kernel
theorem cl_nm8 : ∀ a, a < cN 8 → ∀ b, b < cN 8 → a ≠ b → (cT 8 a).2.1 ≠ (cT 8 b).2.1 := by decide +kernel
theorem cl_nm9 : ∀ a, a < cN 9 → ∀ b, b < cN 9 → a ≠ b → (cT 9 a).2.1 ≠ (cT 9 b).2.1 := by decide +kernel
theorem cl_nm10 : ∀ a, a < cN 10 → ∀ b, b < cN 10 → a ≠ b → (cT 10 a).2.1 ≠ (cT 10 b).2.1 := by decide +kernel
theorem cl_nm11 : ∀ a, a < cN 11 → ∀ b, b < cN 11 → a ≠ b → (cT 11 a).2.1 ≠ (cT 11 b).2.1 := by decide +kernel
theorem cl_nm12 : ∀ a, a < cN 12 → ∀ b, b < cN 12 → a ≠ b → (cT 12 a).2.1 ≠ (cT 12 b).2.1 := by decide +kernel
theorem cl_nm : ∀ k : Nat, k < 13 → ∀ a, a < cN k → ∀ b, b < cN k → a ≠ b → (cT k a).2.1 ≠ (cT k b).2.1
  | 0, _ => cl_nm0
  | 1, _ => cl_nm1
  | 2, _ => cl_nm2
  | 3, _ => cl_nm3
  | 4, _ => cl_nm4
  | 5, _ => cl_nm5
  | 6, _ => cl_nm6
  | 7, _ => cl_nm7
  | 8, _ => cl_nm8
  | 9, _ => cl_nm9
  | 10, _ => cl_nm10
  | 11, _ => cl_nm11
  | 12, _ => cl_nm12
  | k + 13, h => absurd h (by omega)
theorem cl_dec0 : ∀ j, j < cN 0 → (cT 0 j).1 = cR 0 := by decide +kernel
theorem cl_dec1 : ∀ j, j < cN 1 → (cT 1 j).1 = cR 1 := by decide +kernel
theorem cl_dec2 : ∀ j, j < cN 2 → (cT 2 j).1 = cR 2 := by decide +kernel
theorem cl_dec3 : ∀ j, j < cN 3 → (cT 3 j).1 = cR 3 := by decide +kernel
theorem cl_dec4 : ∀ j, j < cN 4 → (cT 4 j).1 = cR 4 := by decide +kernel
theorem cl_dec5 : ∀ j, j < cN 5 → (cT 5 j).1 = cR 5 := by decide +kernel
theorem cl_dec6 : ∀ j, j < cN 6 → (cT 6 j).1 = cR 6 := by decide +kernel
theorem cl_dec7 : ∀ j, j < cN 7 → (cT 7 j).1 = cR 7 := by decide +kernel
theorem cl_dec8 : ∀ j, j < cN 8 → (cT 8 j).1 = cR 8 := by decide +kernel
theorem cl_dec9 : ∀ j, j < cN 9 → (cT 9 j).1 = cR 9 := by decide +kernel
theorem cl_dec10 : ∀ j, j < cN 10 → (cT 10 j).1 = cR 10 := by decide +kernel
theorem cl_dec11 : ∀ j, j < cN 11 → (cT 11 j).1 = cR 11 := by decide +kernel
theorem cl_dec12 : ∀ j, j < cN 12 → (cT 12 j).1 = cR 12 := by decide +kernel
theorem cl_dec : ∀ k : Nat, k < 13 → ∀ j, j < cN k → (cT k j).1 = cR k
  | 0, _ => cl_dec0
  | 1, _ => cl_dec1
  | 2, _ => cl_dec2
  | 3, _ => cl_dec3
  | 4, _ => cl_dec4
  | 5, _ => cl_dec5
  | 6, _ => cl_dec6
  | 7, _ => cl_dec7
  | 8, _ => cl_dec8
  | 9, _ => cl_dec9
  | 10, _ => cl_dec10
  | 11, _ => cl_dec11
  | 12, _ => cl_dec12
  | k + 13, h => absurd h (by omega)
