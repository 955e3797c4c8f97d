/-! the classes of the program: their fields as the tables lay them, and the words that hold wherever the machine has warmed -/
def zT0 : u_T := fun k => match k with
  | 0 => ("HelperWeave", "page", "LHelperWeave$Page;", true)
  | 1 => ("HelperWeave", "talks", "[LHelperWeave$Talk;", true)
  | 2 => ("HelperWeave", "talkCount", "I", false)
  | 3 => ("HelperWeave", "walk", "LHelperWeave$Walk;", true)
  | 4 => ("HelperWeave", "fitting", "LHelperWeave$Fitting;", true)
  | 5 => ("HelperWeave", "adapting", "LHelperWeave$Adapting;", true)
  | 6 => ("HelperWeave", "queueJoins", "I", false)
  | 7 => ("HelperWeave", "adaptings", "I", false)
  | 8 => ("HelperWeave", "row", "LHelperWeave$Row;", true)
  | 9 => ("HelperWeave", "plans", "I", false)
  | _ => ("HelperWeave", "log", "LHelperWeave$Log;", true)
def zF0 : Nat → FieldType := fun k => match k with
  | 0 => (.object "HelperWeave$Page")
  | 1 => (.array (.object "HelperWeave$Talk"))
  | 2 => .int
  | 3 => (.object "HelperWeave$Walk")
  | 4 => (.object "HelperWeave$Fitting")
  | 5 => (.object "HelperWeave$Adapting")
  | 6 => .int
  | 7 => .int
  | 8 => (.object "HelperWeave$Row")
  | 9 => .int
  | _ => (.object "HelperWeave$Log")
def zY0 : Nat → Nat := fun k => match k with
  | 0 => 3
  | 1 => 3
  | 2 => 0
  | 3 => 3
  | 4 => 3
  | 5 => 3
  | 6 => 0
  | 7 => 0
  | 8 => 3
  | 9 => 0
  | _ => 3
def zT1 : u_T := fun k => match k with
  | 0 => ("HelperWeave$Adapting", "found", "[I", true)
  | 1 => ("HelperWeave$Adapting", "count", "I", false)
  | 2 => ("HelperWeave$Adapting", "a", "LHelperWeave$Talk;", false)
  | 3 => ("HelperWeave$Adapting", "b", "LHelperWeave$Talk;", false)
  | 4 => ("HelperWeave$Adapting", "messages", "[I", true)
  | 5 => ("HelperWeave$Adapting", "width", "I", false)
  | 6 => ("HelperWeave$Adapting", "images", "[I", true)
  | 7 => ("HelperWeave$Adapting", "origins", "[I", true)
  | 8 => ("HelperWeave$Adapting", "reached", "[I", true)
  | 9 => ("HelperWeave$Adapting", "waiting", "[I", true)
  | _ => ("HelperWeave$Adapting", "waitingCount", "I", false)
def zF1 : Nat → FieldType := fun k => match k with
  | 0 => (.array .int)
  | 1 => .int
  | 2 => (.object "HelperWeave$Talk")
  | 3 => (.object "HelperWeave$Talk")
  | 4 => (.array .int)
  | 5 => .int
  | 6 => (.array .int)
  | 7 => (.array .int)
  | 8 => (.array .int)
  | 9 => (.array .int)
  | _ => .int
def zY1 : Nat → Nat := fun k => match k with
  | 0 => 3
  | 1 => 0
  | 2 => 3
  | 3 => 3
  | 4 => 3
  | 5 => 0
  | 6 => 3
  | 7 => 3
  | 8 => 3
  | 9 => 3
  | _ => 0
def zT2 : u_T := fun k => match k with
  | 0 => ("HelperWeave$Fitting", "fits", "[I", true)
  | 1 => ("HelperWeave$Fitting", "x", "LHelperWeave$Talk;", false)
  | _ => ("HelperWeave$Fitting", "y", "LHelperWeave$Talk;", false)
def zF2 : Nat → FieldType := fun k => match k with
  | 0 => (.array .int)
  | 1 => (.object "HelperWeave$Talk")
  | _ => (.object "HelperWeave$Talk")
def zY2 : Nat → Nat := fun k => match k with
  | 0 => 3
  | 1 => 3
  | _ => 3
def zT3 : u_T := fun k => match k with
  | 0 => ("HelperWeave$Going", "facts", "I", false)
  | 1 => ("HelperWeave$Going", "taints", "[I", true)
  | _ => ("HelperWeave$Going", "times", "[I", true)
def zF3 : Nat → FieldType := fun k => match k with
  | 0 => .int
  | 1 => (.array .int)
  | _ => (.array .int)
def zY3 : Nat → Nat := fun k => match k with
  | 0 => 0
  | 1 => 3
  | _ => 3
def zT4 : u_T := fun k => match k with
  | _ => ("HelperWeave$Helper", "traits", "[I", true)
def zF4 : Nat → FieldType := fun k => match k with
  | _ => (.array .int)
def zY4 : Nat → Nat := fun k => match k with
  | _ => 3
def zT5 : u_T := fun k => match k with
  | 0 => ("HelperWeave$Level", "bracket", "I", false)
  | 1 => ("HelperWeave$Level", "barred", "Z", false)
  | 2 => ("HelperWeave$Level", "begun", "Z", false)
  | 3 => ("HelperWeave$Level", "firsts", "J", false)
  | 4 => ("HelperWeave$Level", "lasts", "J", false)
  | 5 => ("HelperWeave$Level", "idle", "Z", false)
  | 6 => ("HelperWeave$Level", "branchFirsts", "J", false)
  | 7 => ("HelperWeave$Level", "branchLasts", "J", false)
  | _ => ("HelperWeave$Level", "branchIdle", "Z", false)
def zF5 : Nat → FieldType := fun k => match k with
  | 0 => .int
  | 1 => .boolean
  | 2 => .boolean
  | 3 => .long
  | 4 => .long
  | 5 => .boolean
  | 6 => .long
  | 7 => .long
  | _ => .boolean
def zY5 : Nat → Nat := fun k => match k with
  | 0 => 0
  | 1 => 1
  | 2 => 1
  | 3 => 2
  | 4 => 2
  | 5 => 1
  | 6 => 2
  | 7 => 2
  | _ => 1
def zT6 : u_T := fun k => match k with
  | 0 => ("HelperWeave$Log", "behind", "[LHelperWeave$Worlds;", true)
  | 1 => ("HelperWeave$Log", "events", "I", false)
  | _ => ("HelperWeave$Log", "changed", "LHelperWeave$Worlds;", true)
def zF6 : Nat → FieldType := fun k => match k with
  | 0 => (.array (.object "HelperWeave$Worlds"))
  | 1 => .int
  | _ => (.object "HelperWeave$Worlds")
def zY6 : Nat → Nat := fun k => match k with
  | 0 => 3
  | 1 => 0
  | _ => 3
def zT7 : u_T := fun k => match k with
  | 0 => ("HelperWeave$Page", "letters", "[I", true)
  | 1 => ("HelperWeave$Page", "size", "I", false)
  | 2 => ("HelperWeave$Page", "levels", "[LHelperWeave$Level;", true)
  | 3 => ("HelperWeave$Page", "depth", "I", false)
  | 4 => ("HelperWeave$Page", "steps", "I", false)
  | 5 => ("HelperWeave$Page", "kinds", "[I", true)
  | 6 => ("HelperWeave$Page", "follows", "[J", true)
  | _ => ("HelperWeave$Page", "sign", "I", false)
def zF7 : Nat → FieldType := fun k => match k with
  | 0 => (.array .int)
  | 1 => .int
  | 2 => (.array (.object "HelperWeave$Level"))
  | 3 => .int
  | 4 => .int
  | 5 => (.array .int)
  | 6 => (.array .long)
  | _ => .int
def zY7 : Nat → Nat := fun k => match k with
  | 0 => 3
  | 1 => 0
  | 2 => 3
  | 3 => 0
  | 4 => 0
  | 5 => 3
  | 6 => 3
  | _ => 0
def zT8 : u_T := fun k => match k with
  | 0 => ("HelperWeave$Row", "helpers", "[LHelperWeave$Helper;", true)
  | 1 => ("HelperWeave$Row", "helperCount", "I", false)
  | 2 => ("HelperWeave$Row", "levels", "[I", true)
  | 3 => ("HelperWeave$Row", "places", "[I", true)
  | 4 => ("HelperWeave$Row", "size", "I", false)
  | 5 => ("HelperWeave$Row", "goings", "[LHelperWeave$Going;", true)
  | 6 => ("HelperWeave$Row", "back", "LHelperWeave$Going;", true)
  | 7 => ("HelperWeave$Row", "tried", "[I", true)
  | 8 => ("HelperWeave$Row", "best", "[I", true)
  | 9 => ("HelperWeave$Row", "bestSize", "I", false)
  | 10 => ("HelperWeave$Row", "bestCost", "I", false)
  | 11 => ("HelperWeave$Row", "wished", "I", false)
  | _ => ("HelperWeave$Row", "longest", "I", false)
def zF8 : Nat → FieldType := fun k => match k with
  | 0 => (.array (.object "HelperWeave$Helper"))
  | 1 => .int
  | 2 => (.array .int)
  | 3 => (.array .int)
  | 4 => .int
  | 5 => (.array (.object "HelperWeave$Going"))
  | 6 => (.object "HelperWeave$Going")
  | 7 => (.array .int)
  | 8 => (.array .int)
  | 9 => .int
  | 10 => .int
  | 11 => .int
  | _ => .int
def zY8 : Nat → Nat := fun k => match k with
  | 0 => 3
  | 1 => 0
  | 2 => 3
  | 3 => 3
  | 4 => 0
  | 5 => 3
  | 6 => 3
  | 7 => 3
  | 8 => 3
  | 9 => 0
  | 10 => 0
  | 11 => 0
  | _ => 0
def zT9 : u_T := fun k => match k with
  | 0 => ("HelperWeave$Talk", "steps", "I", true)
  | 1 => ("HelperWeave$Talk", "endStates", "I", false)
  | 2 => ("HelperWeave$Talk", "nextStates", "[I", true)
  | 3 => ("HelperWeave$Talk", "hears", "[I", true)
  | _ => ("HelperWeave$Talk", "says", "[I", true)
def zF9 : Nat → FieldType := fun k => match k with
  | 0 => .int
  | 1 => .int
  | 2 => (.array .int)
  | 3 => (.array .int)
  | _ => (.array .int)
def zY9 : Nat → Nat := fun k => match k with
  | 0 => 0
  | 1 => 0
  | 2 => 3
  | 3 => 3
  | _ => 3
def zT10 : u_T := fun k => match k with
  | 0 => ("HelperWeave$Walk", "places", "[I", true)
  | 1 => ("HelperWeave$Walk", "parents", "[I", true)
  | 2 => ("HelperWeave$Walk", "acts", "[I", true)
  | 3 => ("HelperWeave$Walk", "size", "I", false)
  | 4 => ("HelperWeave$Walk", "slots", "[I", true)
  | 5 => ("HelperWeave$Walk", "spent", "Z", false)
  | 6 => ("HelperWeave$Walk", "way", "[I", true)
  | 7 => ("HelperWeave$Walk", "wayLength", "I", false)
  | 8 => ("HelperWeave$Walk", "a", "LHelperWeave$Talk;", false)
  | 9 => ("HelperWeave$Walk", "b", "LHelperWeave$Talk;", false)
  | _ => ("HelperWeave$Walk", "room", "I", false)
def zF10 : Nat → FieldType := fun k => match k with
  | 0 => (.array .int)
  | 1 => (.array .int)
  | 2 => (.array .int)
  | 3 => .int
  | 4 => (.array .int)
  | 5 => .boolean
  | 6 => (.array .int)
  | 7 => .int
  | 8 => (.object "HelperWeave$Talk")
  | 9 => (.object "HelperWeave$Talk")
  | _ => .int
def zY10 : Nat → Nat := fun k => match k with
  | 0 => 3
  | 1 => 3
  | 2 => 3
  | 3 => 0
  | 4 => 3
  | 5 => 1
  | 6 => 3
  | 7 => 0
  | 8 => 3
  | 9 => 3
  | _ => 0
def zT11 : u_T := fun k => match k with
  | _ => ("HelperWeave$Worlds", "words", "[J", true)
def zF11 : Nat → FieldType := fun k => match k with
  | _ => (.array .long)
def zY11 : Nat → Nat := fun k => match k with
  | _ => 3
def zT12 : u_T := fun k => match k with
  | 0 => ("HelperWeaveModel", "pageLength", "I", false)
  | 1 => ("HelperWeaveModel", "page", "[B", true)
  | 2 => ("HelperWeaveModel", "talks", "I", false)
  | 3 => ("HelperWeaveModel", "stepsOf", "[I", true)
  | 4 => ("HelperWeaveModel", "nextOf", "[I", true)
  | 5 => ("HelperWeaveModel", "endsAt", "[Z", true)
  | 6 => ("HelperWeaveModel", "joined", "I", false)
  | 7 => ("HelperWeaveModel", "adaptersDone", "I", false)
  | 8 => ("HelperWeaveModel", "plans", "I", false)
  | 9 => ("HelperWeaveModel", "helpers", "I", false)
  | 10 => ("HelperWeaveModel", "needsOf", "[I", true)
  | 11 => ("HelperWeaveModel", "givesOf", "[I", true)
  | 12 => ("HelperWeaveModel", "takesOf", "[I", true)
  | 13 => ("HelperWeaveModel", "setOf", "[I", true)
  | 14 => ("HelperWeaveModel", "levels", "[I", true)
  | 15 => ("HelperWeaveModel", "rowSize", "I", false)
  | 16 => ("HelperWeaveModel", "rowOf", "[I", true)
  | 17 => ("HelperWeaveModel", "logFacts", "I", false)
  | 18 => ("HelperWeaveModel", "events", "I", false)
  | 19 => ("HelperWeaveModel", "eventKind", "[I", true)
  | 20 => ("HelperWeaveModel", "eventOf", "[I", true)
  | 21 => ("HelperWeaveModel", "deep", "I", false)
  | 22 => ("HelperWeaveModel", "kinds", "[I", true)
  | 23 => ("HelperWeaveModel", "bars", "[I", true)
  | 24 => ("HelperWeaveModel", "mayBeNone", "[Z", true)
  | 25 => ("HelperWeaveModel", "firsts", "[J", true)
  | 26 => ("HelperWeaveModel", "lasts", "[J", true)
  | 27 => ("HelperWeaveModel", "someNone", "[Z", true)
  | 28 => ("HelperWeaveModel", "someFirst", "[J", true)
  | 29 => ("HelperWeaveModel", "someLast", "[J", true)
  | 30 => ("HelperWeaveModel", "steps", "I", false)
  | 31 => ("HelperWeaveModel", "stepOf", "[I", true)
  | 32 => ("HelperWeaveModel", "follow", "[J", true)
  | 33 => ("HelperWeaveModel", "good", "I", false)
  | 34 => ("HelperWeaveModel", "isWhole", "Z", false)
  | 35 => ("HelperWeaveModel", "walkedMany", "I", false)
  | 36 => ("HelperWeaveModel", "traceSize", "I", false)
  | 37 => ("HelperWeaveModel", "traceOf", "[I", true)
  | 38 => ("HelperWeaveModel", "rowEnd", "I", false)
  | 39 => ("HelperWeaveModel", "codes", "[I", true)
  | 40 => ("HelperWeaveModel", "ahead", "[I", true)
  | 41 => ("HelperWeaveModel", "acts", "[I", true)
  | 42 => ("HelperWeaveModel", "hash", "[I", true)
  | 43 => ("HelperWeaveModel", "becomes", "[I", true)
  | 44 => ("HelperWeaveModel", "comesOf", "[I", true)
  | 45 => ("HelperWeaveModel", "isUnheard", "Z", false)
  | 46 => ("HelperWeaveModel", "passes", "Z", false)
  | 47 => ("HelperWeaveModel", "faultAt", "I", false)
  | 48 => ("HelperWeaveModel", "isSpent", "Z", false)
  | 49 => ("HelperWeaveModel", "isFit", "[Z", true)
  | 50 => ("HelperWeaveModel", "gotAdapter", "I", false)
  | 51 => ("HelperWeaveModel", "heldNow", "I", false)
  | 52 => ("HelperWeaveModel", "taints", "[I", true)
  | 53 => ("HelperWeaveModel", "trial", "[I", true)
  | 54 => ("HelperWeaveModel", "best", "[I", true)
  | 55 => ("HelperWeaveModel", "worlds", "[Z", true)
  | 56 => ("HelperWeaveModel", "then", "[Z", true)
  | _ => ("HelperWeaveModel", "h", "J", false)
def zF12 : Nat → FieldType := fun k => match k with
  | 0 => .int
  | 1 => (.array .byte)
  | 2 => .int
  | 3 => (.array .int)
  | 4 => (.array .int)
  | 5 => (.array .boolean)
  | 6 => .int
  | 7 => .int
  | 8 => .int
  | 9 => .int
  | 10 => (.array .int)
  | 11 => (.array .int)
  | 12 => (.array .int)
  | 13 => (.array .int)
  | 14 => (.array .int)
  | 15 => .int
  | 16 => (.array .int)
  | 17 => .int
  | 18 => .int
  | 19 => (.array .int)
  | 20 => (.array .int)
  | 21 => .int
  | 22 => (.array .int)
  | 23 => (.array .int)
  | 24 => (.array .boolean)
  | 25 => (.array .long)
  | 26 => (.array .long)
  | 27 => (.array .boolean)
  | 28 => (.array .long)
  | 29 => (.array .long)
  | 30 => .int
  | 31 => (.array .int)
  | 32 => (.array .long)
  | 33 => .int
  | 34 => .boolean
  | 35 => .int
  | 36 => .int
  | 37 => (.array .int)
  | 38 => .int
  | 39 => (.array .int)
  | 40 => (.array .int)
  | 41 => (.array .int)
  | 42 => (.array .int)
  | 43 => (.array .int)
  | 44 => (.array .int)
  | 45 => .boolean
  | 46 => .boolean
  | 47 => .int
  | 48 => .boolean
  | 49 => (.array .boolean)
  | 50 => .int
  | 51 => .int
  | 52 => (.array .int)
  | 53 => (.array .int)
  | 54 => (.array .int)
  | 55 => (.array .boolean)
  | 56 => (.array .boolean)
  | _ => .long
def zY12 : Nat → Nat := fun k => match k with
  | 0 => 0
  | 1 => 3
  | 2 => 0
  | 3 => 3
  | 4 => 3
  | 5 => 3
  | 6 => 0
  | 7 => 0
  | 8 => 0
  | 9 => 0
  | 10 => 3
  | 11 => 3
  | 12 => 3
  | 13 => 3
  | 14 => 3
  | 15 => 0
  | 16 => 3
  | 17 => 0
  | 18 => 0
  | 19 => 3
  | 20 => 3
  | 21 => 0
  | 22 => 3
  | 23 => 3
  | 24 => 3
  | 25 => 3
  | 26 => 3
  | 27 => 3
  | 28 => 3
  | 29 => 3
  | 30 => 0
  | 31 => 3
  | 32 => 3
  | 33 => 0
  | 34 => 1
  | 35 => 0
  | 36 => 0
  | 37 => 3
  | 38 => 0
  | 39 => 3
  | 40 => 3
  | 41 => 3
  | 42 => 3
  | 43 => 3
  | 44 => 3
  | 45 => 1
  | 46 => 1
  | 47 => 0
  | 48 => 1
  | 49 => 3
  | 50 => 0
  | 51 => 0
  | 52 => 3
  | 53 => 3
  | 54 => 3
  | 55 => 3
  | 56 => 3
  | _ => 2
def zcl : List vw_C := [("HelperWeave", zT0, 11), ("HelperWeave$Adapting", zT1, 11), ("HelperWeave$Fitting", zT2, 3), ("HelperWeave$Going", zT3, 3), ("HelperWeave$Helper", zT4, 1), ("HelperWeave$Level", zT5, 9), ("HelperWeave$Log", zT6, 3), ("HelperWeave$Page", zT7, 8), ("HelperWeave$Row", zT8, 13), ("HelperWeave$Talk", zT9, 5), ("HelperWeave$Walk", zT10, 11), ("HelperWeave$Worlds", zT11, 1), ("HelperWeaveModel", zT12, 58)]
def zty : Nat → Nat → FieldType := fun c => match c with
  | 0 => zF0
  | 1 => zF1
  | 2 => zF2
  | 3 => zF3
  | 4 => zF4
  | 5 => zF5
  | 6 => zF6
  | 7 => zF7
  | 8 => zF8
  | 9 => zF9
  | 10 => zF10
  | 11 => zF11
  | _ => zF12
/-- the sort of a field: 0 int, 1 boolean, 2 long, 3 reference -/
def zso : Nat → Nat → Nat := fun c => match c with
  | 0 => zY0
  | 1 => zY1
  | 2 => zY2
  | 3 => zY3
  | 4 => zY4
  | 5 => zY5
  | 6 => zY6
  | 7 => zY7
  | 8 => zY8
  | 9 => zY9
  | 10 => zY10
  | 11 => zY11
  | _ => zY12
def znf : Nat → Nat := fun c => match c with
  | 0 => 11
  | 1 => 11
  | 2 => 3
  | 3 => 3
  | 4 => 1
  | 5 => 9
  | 6 => 3
  | 7 => 8
  | 8 => 13
  | 9 => 5
  | 10 => 11
  | 11 => 1
  | _ => 58
def zgw : List Cond := lw_tbl.filter goodWord
def znw_is : Cond → Bool
  | .fieldLinkNest .. => true
  | .methodLinkNest .. => true
  | _ => false
def znw : List Cond := tables_1.filter znw_is
theorem zgw_of {w : Cond} (i : Nat) (h : tables_1[i]? = some w) (hg : goodWord w = true) : w ∈ zgw :=
  List.mem_filter.mpr ⟨List.mem_append_right _ (List.mem_of_getElem? h), hg⟩
theorem zgw_ofs {w : Cond} (i : Nat) (h : (k2_sels lw_privs)[i]? = some w) (hg : goodWord w = true) : w ∈ zgw :=
  List.mem_filter.mpr ⟨List.mem_append_left _ (List.mem_of_getElem? h), hg⟩
theorem znw_of {w : Cond} (i : Nat) (h : tables_1[i]? = some w) (hg : znw_is w = true) : w ∈ znw :=
  List.mem_filter.mpr ⟨List.mem_of_getElem? h, hg⟩
theorem zgw_many (ws : List Cond) (ps : List Nat) (h : ws = ps.filterMap (fun i => tables_1[i]?)) (hg : ws.all goodWord = true) : ∀ w ∈ ws, w ∈ zgw := by
  intro w hw
  have h1 := List.all_eq_true.mp hg w hw
  rw [h] at hw
  obtain ⟨i, -, hi⟩ := List.mem_filterMap.mp hw
  exact zgw_of i hi h1
theorem zgood : GoodIn zgw zgw := fun w hw => ⟨hw, good_of_word (List.mem_filter.mp hw).2⟩
theorem zi0 : ∀ w ∈ u_ws "HelperWeave" zT0 11, w ∈ zgw := zgw_many _ [332, 334, 336, 338, 340, 342, 344, 346, 348, 350, 352] (by decide +kernel) (by decide +kernel)
theorem zn0 : ∀ a, a < 11 → ∀ b, b < 11 → a ≠ b → (zT0 a).2.1 ≠ (zT0 b).2.1 := by decide +kernel
theorem zp0 : ∀ k, k < 11 → parseFieldDescriptor (zT0 k).2.2.1 = some (zty 0 k) := by decide +kernel
theorem zo0 : ∀ k, k < 11 → (zT0 k).1 = "HelperWeave" := by decide +kernel
theorem zi1 : ∀ w ∈ u_ws "HelperWeave$Adapting" zT1 11, w ∈ zgw := zgw_many _ [185, 187, 189, 191, 193, 195, 197, 199, 201, 203, 205] (by decide +kernel) (by decide +kernel)
theorem zn1 : ∀ a, a < 11 → ∀ b, b < 11 → a ≠ b → (zT1 a).2.1 ≠ (zT1 b).2.1 := by decide +kernel
theorem zp1 : ∀ k, k < 11 → parseFieldDescriptor (zT1 k).2.2.1 = some (zty 1 k) := by decide +kernel
theorem zo1 : ∀ k, k < 11 → (zT1 k).1 = "HelperWeave$Adapting" := by decide +kernel
theorem zi2 : ∀ w ∈ u_ws "HelperWeave$Fitting" zT2 3, w ∈ zgw := zgw_many _ [160, 162, 164] (by decide +kernel) (by decide +kernel)
theorem zn2 : ∀ a, a < 3 → ∀ b, b < 3 → a ≠ b → (zT2 a).2.1 ≠ (zT2 b).2.1 := by decide +kernel
theorem zp2 : ∀ k, k < 3 → parseFieldDescriptor (zT2 k).2.2.1 = some (zty 2 k) := by decide +kernel
theorem zo2 : ∀ k, k < 3 → (zT2 k).1 = "HelperWeave$Fitting" := by decide +kernel
theorem zi3 : ∀ w ∈ u_ws "HelperWeave$Going" zT3 3, w ∈ zgw := zgw_many _ [229, 231, 233] (by decide +kernel) (by decide +kernel)
theorem zn3 : ∀ a, a < 3 → ∀ b, b < 3 → a ≠ b → (zT3 a).2.1 ≠ (zT3 b).2.1 := by decide +kernel
theorem zp3 : ∀ k, k < 3 → parseFieldDescriptor (zT3 k).2.2.1 = some (zty 3 k) := by decide +kernel
theorem zo3 : ∀ k, k < 3 → (zT3 k).1 = "HelperWeave$Going" := by decide +kernel
theorem zi4 : ∀ w ∈ u_ws "HelperWeave$Helper" zT4 1, w ∈ zgw := zgw_many _ [707] (by decide +kernel) (by decide +kernel)
theorem zn4 : ∀ a, a < 1 → ∀ b, b < 1 → a ≠ b → (zT4 a).2.1 ≠ (zT4 b).2.1 := by decide +kernel
theorem zp4 : ∀ k, k < 1 → parseFieldDescriptor (zT4 k).2.2.1 = some (zty 4 k) := by decide +kernel
theorem zo4 : ∀ k, k < 1 → (zT4 k).1 = "HelperWeave$Helper" := by decide +kernel
theorem zi5 : ∀ w ∈ u_ws "HelperWeave$Level" zT5 9, w ∈ zgw := zgw_many _ [57, 59, 61, 63, 65, 67, 69, 71, 73] (by decide +kernel) (by decide +kernel)
theorem zn5 : ∀ a, a < 9 → ∀ b, b < 9 → a ≠ b → (zT5 a).2.1 ≠ (zT5 b).2.1 := by decide +kernel
theorem zp5 : ∀ k, k < 9 → parseFieldDescriptor (zT5 k).2.2.1 = some (zty 5 k) := by decide +kernel
theorem zo5 : ∀ k, k < 9 → (zT5 k).1 = "HelperWeave$Level" := by decide +kernel
theorem zi6 : ∀ w ∈ u_ws "HelperWeave$Log" zT6 3, w ∈ zgw := zgw_many _ [303, 305, 307] (by decide +kernel) (by decide +kernel)
theorem zn6 : ∀ a, a < 3 → ∀ b, b < 3 → a ≠ b → (zT6 a).2.1 ≠ (zT6 b).2.1 := by decide +kernel
theorem zp6 : ∀ k, k < 3 → parseFieldDescriptor (zT6 k).2.2.1 = some (zty 6 k) := by decide +kernel
theorem zo6 : ∀ k, k < 3 → (zT6 k).1 = "HelperWeave$Log" := by decide +kernel
theorem zi7 : ∀ w ∈ u_ws "HelperWeave$Page" zT7 8, w ∈ zgw := zgw_many _ [91, 93, 95, 97, 99, 101, 103, 105] (by decide +kernel) (by decide +kernel)
theorem zn7 : ∀ a, a < 8 → ∀ b, b < 8 → a ≠ b → (zT7 a).2.1 ≠ (zT7 b).2.1 := by decide +kernel
theorem zp7 : ∀ k, k < 8 → parseFieldDescriptor (zT7 k).2.2.1 = some (zty 7 k) := by decide +kernel
theorem zo7 : ∀ k, k < 8 → (zT7 k).1 = "HelperWeave$Page" := by decide +kernel
theorem zi8 : ∀ w ∈ u_ws "HelperWeave$Row" zT8 13, w ∈ zgw := zgw_many _ [254, 256, 258, 260, 262, 264, 266, 268, 270, 272, 274, 276, 278] (by decide +kernel) (by decide +kernel)
theorem zn8 : ∀ a, a < 13 → ∀ b, b < 13 → a ≠ b → (zT8 a).2.1 ≠ (zT8 b).2.1 := by decide +kernel
theorem zp8 : ∀ k, k < 13 → parseFieldDescriptor (zT8 k).2.2.1 = some (zty 8 k) := by decide +kernel
theorem zo8 : ∀ k, k < 13 → (zT8 k).1 = "HelperWeave$Row" := by decide +kernel
theorem zi9 : ∀ w ∈ u_ws "HelperWeave$Talk" zT9 5, w ∈ zgw := zgw_many _ [484, 486, 488, 490, 492] (by decide +kernel) (by decide +kernel)
theorem zn9 : ∀ a, a < 5 → ∀ b, b < 5 → a ≠ b → (zT9 a).2.1 ≠ (zT9 b).2.1 := by decide +kernel
theorem zp9 : ∀ k, k < 5 → parseFieldDescriptor (zT9 k).2.2.1 = some (zty 9 k) := by decide +kernel
theorem zo9 : ∀ k, k < 5 → (zT9 k).1 = "HelperWeave$Talk" := by decide +kernel
theorem zi10 : ∀ w ∈ u_ws "HelperWeave$Walk" zT10 11, w ∈ zgw := zgw_many _ [128, 130, 132, 134, 136, 138, 140, 142, 144, 146, 148] (by decide +kernel) (by decide +kernel)
theorem zn10 : ∀ a, a < 11 → ∀ b, b < 11 → a ≠ b → (zT10 a).2.1 ≠ (zT10 b).2.1 := by decide +kernel
theorem zp10 : ∀ k, k < 11 → parseFieldDescriptor (zT10 k).2.2.1 = some (zty 10 k) := by decide +kernel
theorem zo10 : ∀ k, k < 11 → (zT10 k).1 = "HelperWeave$Walk" := by decide +kernel
theorem zi11 : ∀ w ∈ u_ws "HelperWeave$Worlds" zT11 1, w ∈ zgw := zgw_many _ [295] (by decide +kernel) (by decide +kernel)
theorem zn11 : ∀ a, a < 1 → ∀ b, b < 1 → a ≠ b → (zT11 a).2.1 ≠ (zT11 b).2.1 := by decide +kernel
theorem zp11 : ∀ k, k < 1 → parseFieldDescriptor (zT11 k).2.2.1 = some (zty 11 k) := by decide +kernel
theorem zo11 : ∀ k, k < 1 → (zT11 k).1 = "HelperWeave$Worlds" := by decide +kernel
theorem zi12 : ∀ w ∈ u_ws "HelperWeaveModel" zT12 58, w ∈ zgw := zgw_many _ [1071, 1073, 1075, 1077, 1079, 1081, 1083, 1085, 1087, 1089, 1091, 1093, 1095, 1097, 1099, 1101, 1103, 1105, 1107, 1109, 1111, 1113, 1115, 1117, 1119, 1121, 1123, 1125, 1127, 1129, 1131, 1133, 1135, 1137, 1139, 1141, 1143, 1145, 1147, 1149, 1151, 1153, 1155, 1157, 1159, 1161, 1163, 1165, 1167, 1169, 1171, 1173, 1175, 1177, 1179, 1181, 1183, 1185] (by decide +kernel) (by decide +kernel)
theorem zn12 : ∀ a, a < 58 → ∀ b, b < 58 → a ≠ b → (zT12 a).2.1 ≠ (zT12 b).2.1 := by decide +kernel
theorem zp12 : ∀ k, k < 58 → parseFieldDescriptor (zT12 k).2.2.1 = some (zty 12 k) := by decide +kernel
theorem zo12 : ∀ k, k < 58 → (zT12 k).1 = "HelperWeaveModel" := by decide +kernel
/-- what the rows below ask of a class of the list -/
def zok (ci : Nat) (r : vw_C) : Prop := (∀ w ∈ u_ws r.1 r.2.1 r.2.2, w ∈ zgw) ∧ (∀ a, a < r.2.2 → ∀ b, b < r.2.2 → a ≠ b → (r.2.1 a).2.1 ≠ (r.2.1 b).2.1) ∧ (∀ k, k < r.2.2 → parseFieldDescriptor (r.2.1 k).2.2.1 = some (zty ci k)) ∧ (∀ k, k < r.2.2 → (r.2.1 k).1 = r.1) ∧ znf ci = r.2.2 ∧ Cond.instantiable r.1 r.2.2 ∈ zgw ∧ Cond.initialized r.1 ∈ zgw
theorem zk0 : zok 0 ("HelperWeave", zT0, 11) := ⟨zi0, zn0, zp0, zo0, rfl, zgw_of 20 (by decide +kernel) (by decide +kernel), zgw_of 1 (by decide +kernel) (by decide +kernel)⟩
theorem zk1 : zok 1 ("HelperWeave$Adapting", zT1, 11) := ⟨zi1, zn1, zp1, zo1, rfl, zgw_of 168 (by decide +kernel) (by decide +kernel), zgw_of 6 (by decide +kernel) (by decide +kernel)⟩
theorem zk2 : zok 2 ("HelperWeave$Fitting", zT2, 3) := ⟨zi2, zn2, zp2, zo2, rfl, zgw_of 152 (by decide +kernel) (by decide +kernel), zgw_of 5 (by decide +kernel) (by decide +kernel)⟩
theorem zk3 : zok 3 ("HelperWeave$Going", zT3, 3) := ⟨zi3, zn3, zp3, zo3, rfl, zgw_of 218 (by decide +kernel) (by decide +kernel), zgw_of 8 (by decide +kernel) (by decide +kernel)⟩
theorem zk4 : zok 4 ("HelperWeave$Helper", zT4, 1) := ⟨zi4, zn4, zp4, zo4, rfl, zgw_of 695 (by decide +kernel) (by decide +kernel), zgw_of 16 (by decide +kernel) (by decide +kernel)⟩
theorem zk5 : zok 5 ("HelperWeave$Level", zT5, 9) := ⟨zi5, zn5, zp5, zo5, rfl, zgw_of 35 (by decide +kernel) (by decide +kernel), zgw_of 3 (by decide +kernel) (by decide +kernel)⟩
theorem zk6 : zok 6 ("HelperWeave$Log", zT6, 3) := ⟨zi6, zn6, zp6, zo6, rfl, zgw_of 282 (by decide +kernel) (by decide +kernel), zgw_of 9 (by decide +kernel) (by decide +kernel)⟩
theorem zk7 : zok 7 ("HelperWeave$Page", zT7, 8) := ⟨zi7, zn7, zp7, zo7, rfl, zgw_of 28 (by decide +kernel) (by decide +kernel), zgw_of 2 (by decide +kernel) (by decide +kernel)⟩
theorem zk8 : zok 8 ("HelperWeave$Row", zT8, 13) := ⟨zi8, zn8, zp8, zo8, rfl, zgw_of 209 (by decide +kernel) (by decide +kernel), zgw_of 7 (by decide +kernel) (by decide +kernel)⟩
theorem zk9 : zok 9 ("HelperWeave$Talk", zT9, 5) := ⟨zi9, zn9, zp9, zo9, rfl, zgw_of 448 (by decide +kernel) (by decide +kernel), zgw_of 13 (by decide +kernel) (by decide +kernel)⟩
theorem zk10 : zok 10 ("HelperWeave$Walk", zT10, 11) := ⟨zi10, zn10, zp10, zo10, rfl, zgw_of 111 (by decide +kernel) (by decide +kernel), zgw_of 4 (by decide +kernel) (by decide +kernel)⟩
theorem zk11 : zok 11 ("HelperWeave$Worlds", zT11, 1) := ⟨zi11, zn11, zp11, zo11, rfl, zgw_of 289 (by decide +kernel) (by decide +kernel), zgw_of 10 (by decide +kernel) (by decide +kernel)⟩
theorem zk12 : zok 12 ("HelperWeaveModel", zT12, 58) := ⟨zi12, zn12, zp12, zo12, rfl, zgw_of 1008 (by decide +kernel) (by decide +kernel), zgw_of 12 (by decide +kernel) (by decide +kernel)⟩
theorem zall : ∀ ci r, zcl[ci]? = some r → zok ci r := by
  intro ci r h
  match ci, h with
  | 0, h => cases h; exact zk0
  | 1, h => cases h; exact zk1
  | 2, h => cases h; exact zk2
  | 3, h => cases h; exact zk3
  | 4, h => cases h; exact zk4
  | 5, h => cases h; exact zk5
  | 6, h => cases h; exact zk6
  | 7, h => cases h; exact zk7
  | 8, h => cases h; exact zk8
  | 9, h => cases h; exact zk9
  | 10, h => cases h; exact zk10
  | 11, h => cases h; exact zk11
  | 12, h => cases h; exact zk12
  | n + 13, h => simp [zcl] at h
theorem zso_int : ∀ ci, ci < 13 → ∀ k, k < znf ci → (zso ci k = 0 → zty ci k = .int) ∧ (zso ci k = 1 → zty ci k = .boolean) ∧ (zso ci k = 2 → zty ci k = .long) ∧ (zso ci k = 3 → refKind (zty ci k) = true) ∧ zso ci k < 4 := by decide +kernel
