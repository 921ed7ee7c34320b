/-! names, fields, kinds; instructions as rows: written by wip/whole/genparts.py out of the claim's listings -/
def zT0 : u_T := fun k => match k with
  | 0 => ("CottageYear$Booking", "cottage", "I", false)
  | 1 => ("CottageYear$Booking", "week", "I", true)
  | 2 => ("CottageYear$Booking", "guests", "I", true)
  | 3 => ("CottageYear$Booking", "dog", "Z", true)
  | 4 => ("CottageYear$Booking", "deposit", "I", true)
  | 5 => ("CottageYear$Booking", "price", "I", true)
  | 6 => ("CottageYear$Booking", "inForce", "Z", false)
  | 7 => ("CottageYear$Booking", "begun", "Z", false)
  | 8 => ("CottageYear$Booking", "complaints", "I", false)
  | 9 => ("CottageYear$Booking", "timesMoved", "I", false)
  | 10 => ("CottageYear$Booking", "code", "I", false)
  | 11 => ("CottageYear$Booking", "entry", "I", false)
  | _ => ("CottageYear$Booking", "job", "LCottageYear$Job;", false)
def zT1 : u_T := fun k => match k with
  | 0 => ("CottageYear$Books", "cottages", "[I", true)
  | 1 => ("CottageYear$Books", "looks", "[I", true)
  | 2 => ("CottageYear$Books", "entryCount", "I", false)
  | 3 => ("CottageYear$Books", "seen", "[I", true)
  | 4 => ("CottageYear$Books", "lookCount", "I", false)
  | _ => ("CottageYear$Books", "worths", "[I", true)
def zT2 : u_T := fun k => match k with
  | 0 => ("CottageYear$Cottage", "beds", "I", true)
  | 1 => ("CottageYear$Cottage", "dogs", "Z", true)
  | 2 => ("CottageYear$Cottage", "minutes", "I", true)
  | 3 => ("CottageYear$Cottage", "rent", "I", false)
  | 4 => ("CottageYear$Cottage", "shutWeeks", "J", false)
  | 5 => ("CottageYear$Cottage", "lastCode", "I", false)
  | 6 => ("CottageYear$Cottage", "secondCode", "I", false)
  | _ => ("CottageYear$Cottage", "thirdCode", "I", false)
def zT3 : u_T := fun k => match k with
  | 0 => ("CottageYear$Job", "leaves", "LCottageYear$Booking;", true)
  | 1 => ("CottageYear$Job", "cottage", "I", true)
  | 2 => ("CottageYear$Job", "week", "I", true)
  | 3 => ("CottageYear$Job", "due", "I", true)
  | 4 => ("CottageYear$Job", "linen", "I", true)
  | 5 => ("CottageYear$Job", "out", "I", false)
  | 6 => ("CottageYear$Job", "clean", "I", false)
  | 7 => ("CottageYear$Job", "begun", "I", false)
  | 8 => ("CottageYear$Job", "ready", "I", false)
  | 9 => ("CottageYear$Job", "team", "I", false)
  | 10 => ("CottageYear$Job", "travel", "I", false)
  | _ => ("CottageYear$Job", "booked", "I", false)
def zT4 : u_T := fun k => match k with
  | 0 => ("CottageYear$Laundry", "clean", "I", false)
  | 1 => ("CottageYear$Laundry", "wash", "I", false)
  | 2 => ("CottageYear$Laundry", "dirty", "I", false)
  | 3 => ("CottageYear$Laundry", "laid", "I", false)
  | 4 => ("CottageYear$Laundry", "laidAhead", "I", false)
  | 5 => ("CottageYear$Laundry", "hired", "I", false)
  | 6 => ("CottageYear$Laundry", "hiredAhead", "I", false)
  | _ => ("CottageYear$Laundry", "hiredInAll", "I", false)
def zT5 : u_T := fun k => match k with
  | 0 => ("CottageYear$Moves", "houses", "[LCottageYear$Cottage;", true)
  | 1 => ("CottageYear$Moves", "free", "[Z", true)
  | 2 => ("CottageYear$Moves", "houseCount", "I", false)
  | 3 => ("CottageYear$Moves", "guests", "[LCottageYear$Booking;", true)
  | 4 => ("CottageYear$Moves", "guestCount", "I", false)
  | 5 => ("CottageYear$Moves", "tried", "[I", true)
  | 6 => ("CottageYear$Moves", "goals", "[I", true)
  | 7 => ("CottageYear$Moves", "mostMoved", "I", false)
  | _ => ("CottageYear$Moves", "leastApart", "I", false)
def zT6 : u_T := fun k => match k with
  | 0 => ("CottageYear$Planner", "roads", "LCottageYear$Roads;", true)
  | 1 => ("CottageYear$Planner", "todo", "[LCottageYear$Job;", true)
  | 2 => ("CottageYear$Planner", "todoCount", "I", false)
  | 3 => ("CottageYear$Planner", "before", "[I", true)
  | 4 => ("CottageYear$Planner", "teamCount", "I", false)
  | 5 => ("CottageYear$Planner", "costs", "[J", true)
  | 6 => ("CottageYear$Planner", "rows", "[I", true)
  | 7 => ("CottageYear$Planner", "time", "[I", true)
  | 8 => ("CottageYear$Planner", "place", "[I", true)
  | 9 => ("CottageYear$Planner", "left", "[I", true)
  | 10 => ("CottageYear$Planner", "packed", "[I", true)
  | 11 => ("CottageYear$Planner", "spent", "[J", true)
  | 12 => ("CottageYear$Planner", "labelTime", "[I", true)
  | 13 => ("CottageYear$Planner", "labelLeft", "[I", true)
  | 14 => ("CottageYear$Planner", "labelSpent", "[J", true)
  | 15 => ("CottageYear$Planner", "labelCount", "[I", true)
  | 16 => ("CottageYear$Planner", "ceiling", "J", false)
  | 17 => ("CottageYear$Planner", "bestCost", "J", false)
  | 18 => ("CottageYear$Planner", "bestRows", "[I", true)
  | _ => ("CottageYear$Planner", "known", "Z", false)
def zT7 : u_T := fun k => match k with
  | 0 => ("CottageYear$Roads", "ways", "[I", true)
  | _ => ("CottageYear$Roads", "loading", "I", false)
def zT8 : u_T := fun k => match k with
  | 0 => ("CottageYear$Team", "number", "I", true)
  | 1 => ("CottageYear$Team", "load", "I", true)
  | 2 => ("CottageYear$Team", "blames", "[I", true)
  | 3 => ("CottageYear$Team", "row", "[I", true)
  | 4 => ("CottageYear$Team", "rowLength", "I", false)
  | 5 => ("CottageYear$Team", "left", "I", false)
  | 6 => ("CottageYear$Team", "place", "I", false)
  | 7 => ("CottageYear$Team", "about", "I", false)
  | 8 => ("CottageYear$Team", "cottage", "I", false)
  | 9 => ("CottageYear$Team", "till", "I", false)
  | _ => ("CottageYear$Team", "travel", "I", false)
def zT9 : u_T := fun k => match k with
  | 0 => ("CottageYear$Text", "bytes", "[I", true)
  | 1 => ("CottageYear$Text", "length", "I", false)
  | 2 => ("CottageYear$Text", "from", "I", false)
  | 3 => ("CottageYear$Text", "told", "I", false)
  | 4 => ("CottageYear$Text", "part", "I", false)
  | 5 => ("CottageYear$Text", "depth", "I", false)
  | 6 => ("CottageYear$Text", "digits", "I", false)
  | 7 => ("CottageYear$Text", "atomDue", "Z", false)
  | _ => ("CottageYear$Text", "at", "I", false)
def zT10 : u_T := fun k => match k with
  | 0 => ("CottageYear$Wages", "tape", "LCottageYear$Text;", false)
  | 1 => ("CottageYear$Wages", "terms", "[LCottageYear$Text;", true)
  | 2 => ("CottageYear$Wages", "termsCount", "I", false)
  | 3 => ("CottageYear$Wages", "closedIn", "[I", true)
  | 4 => ("CottageYear$Wages", "jobs", "[LCottageYear$Job;", true)
  | 5 => ("CottageYear$Wages", "coins", "[I", true)
  | 6 => ("CottageYear$Wages", "lineCount", "I", false)
  | 7 => ("CottageYear$Wages", "lineSum", "I", false)
  | _ => ("CottageYear$Wages", "drafts", "I", false)
def zT11 : u_T := fun k => match k with
  | 0 => ("CottageYear", "cottages", "[LCottageYear$Cottage;", true)
  | 1 => ("CottageYear", "cottageCount", "I", false)
  | 2 => ("CottageYear", "bookings", "[LCottageYear$Booking;", true)
  | 3 => ("CottageYear", "bookingCount", "I", false)
  | 4 => ("CottageYear", "teams", "[LCottageYear$Team;", true)
  | 5 => ("CottageYear", "teamCount", "I", false)
  | 6 => ("CottageYear", "complaintCount", "I", false)
  | 7 => ("CottageYear", "week", "I", false)
  | 8 => ("CottageYear", "open", "Z", false)
  | 9 => ("CottageYear", "now", "I", false)
  | 10 => ("CottageYear", "stays", "[LCottageYear$Booking;", true)
  | 11 => ("CottageYear", "jobs", "[LCottageYear$Job;", true)
  | 12 => ("CottageYear", "codeStep", "J", false)
  | 13 => ("CottageYear", "mover", "LCottageYear$Moves;", true)
  | 14 => ("CottageYear", "planner", "LCottageYear$Planner;", true)
  | 15 => ("CottageYear", "laundry", "LCottageYear$Laundry;", true)
  | 16 => ("CottageYear", "books", "LCottageYear$Books;", true)
  | _ => ("CottageYear", "wages", "LCottageYear$Wages;", true)
def zT12 : u_T := fun k => match k with
  | 0 => ("CottageYearModel", "thrown", "I", false)
  | 1 => ("CottageYearModel", "beds", "[I", true)
  | 2 => ("CottageYearModel", "rent", "[I", true)
  | 3 => ("CottageYearModel", "minutes", "[I", true)
  | 4 => ("CottageYearModel", "dogs", "[Z", true)
  | 5 => ("CottageYearModel", "isShut", "[Z", true)
  | 6 => ("CottageYearModel", "ofCottage", "[I", true)
  | 7 => ("CottageYearModel", "ofWeek", "[I", true)
  | 8 => ("CottageYearModel", "guests", "[I", true)
  | 9 => ("CottageYearModel", "deposit", "[I", true)
  | 10 => ("CottageYearModel", "price", "[I", true)
  | 11 => ("CottageYearModel", "timesMoved", "[I", true)
  | 12 => ("CottageYearModel", "code", "[I", true)
  | 13 => ("CottageYearModel", "complaintsOf", "[I", true)
  | 14 => ("CottageYearModel", "hasDog", "[Z", true)
  | 15 => ("CottageYearModel", "isIn", "[Z", true)
  | 16 => ("CottageYearModel", "hasBegun", "[Z", true)
  | 17 => ("CottageYearModel", "cottages", "I", false)
  | 18 => ("CottageYearModel", "bookings", "I", false)
  | 19 => ("CottageYearModel", "week", "I", false)
  | 20 => ("CottageYearModel", "now", "I", false)
  | 21 => ("CottageYearModel", "isOpen", "Z", false)
  | 22 => ("CottageYearModel", "goes", "[I", true)
  | 23 => ("CottageYearModel", "bestGoes", "[I", true)
  | 24 => ("CottageYearModel", "isFull", "[Z", true)
  | 25 => ("CottageYearModel", "movesWeek", "I", false)
  | 26 => ("CottageYearModel", "bestMoved", "I", false)
  | 27 => ("CottageYearModel", "bestFar", "I", false)
  | 28 => ("CottageYearModel", "load", "[I", true)
  | 29 => ("CottageYearModel", "way", "[I", true)
  | 30 => ("CottageYearModel", "teams", "I", false)
  | 31 => ("CottageYearModel", "rest", "I", false)
  | 32 => ("CottageYearModel", "isJob", "[Z", true)
  | 33 => ("CottageYearModel", "out", "[I", true)
  | 34 => ("CottageYearModel", "due", "[I", true)
  | 35 => ("CottageYearModel", "clean", "[I", true)
  | 36 => ("CottageYearModel", "linen", "[I", true)
  | 37 => ("CottageYearModel", "begun", "[I", true)
  | 38 => ("CottageYearModel", "ready", "[I", true)
  | 39 => ("CottageYearModel", "jobTeam", "[I", true)
  | 40 => ("CottageYearModel", "onWays", "[I", true)
  | 41 => ("CottageYearModel", "bookedFor", "[I", true)
  | 42 => ("CottageYearModel", "left", "[I", true)
  | 43 => ("CottageYearModel", "leftDog", "[I", true)
  | 44 => ("CottageYearModel", "about", "[I", true)
  | 45 => ("CottageYearModel", "aim", "[I", true)
  | 46 => ("CottageYearModel", "till", "[I", true)
  | 47 => ("CottageYearModel", "sets", "[I", true)
  | 48 => ("CottageYearModel", "place", "[I", true)
  | 49 => ("CottageYearModel", "spent", "[I", true)
  | 50 => ("CottageYearModel", "row", "[I", true)
  | 51 => ("CottageYearModel", "rowMany", "[I", true)
  | 52 => ("CottageYearModel", "leftOut", "I", false)
  | 53 => ("CottageYearModel", "tried", "[I", true)
  | 54 => ("CottageYearModel", "triedMany", "[I", true)
  | 55 => ("CottageYearModel", "bestRow", "[I", true)
  | 56 => ("CottageYearModel", "bestMany", "[I", true)
  | 57 => ("CottageYearModel", "isPut", "[Z", true)
  | 58 => ("CottageYearModel", "toPut", "I", false)
  | 59 => ("CottageYearModel", "bestLate", "I", false)
  | 60 => ("CottageYearModel", "bestChanged", "I", false)
  | 61 => ("CottageYearModel", "bestMinutes", "I", false)
  | 62 => ("CottageYearModel", "all", "I", false)
  | 63 => ("CottageYearModel", "washMost", "I", false)
  | 64 => ("CottageYearModel", "atBase", "I", false)
  | 65 => ("CottageYearModel", "dirty", "I", false)
  | 66 => ("CottageYearModel", "ownNew", "I", false)
  | 67 => ("CottageYearModel", "ownOld", "I", false)
  | 68 => ("CottageYearModel", "hiredNew", "I", false)
  | 69 => ("CottageYearModel", "hiredOld", "I", false)
  | 70 => ("CottageYearModel", "hiredAll", "I", false)
  | 71 => ("CottageYearModel", "hasOpened", "Z", false)
  | 72 => ("CottageYearModel", "line", "[I", true)
  | 73 => ("CottageYearModel", "lines", "I", false)
  | 74 => ("CottageYearModel", "coins", "I", false)
  | 75 => ("CottageYearModel", "tape", "[B", true)
  | 76 => ("CottageYearModel", "termText", "[B", true)
  | 77 => ("CottageYearModel", "termLong", "[I", true)
  | 78 => ("CottageYearModel", "termFrom", "[I", true)
  | 79 => ("CottageYearModel", "termTold", "[I", true)
  | 80 => ("CottageYearModel", "length", "I", false)
  | 81 => ("CottageYearModel", "terms", "I", false)
  | 82 => ("CottageYearModel", "text", "[B", false)
  | 83 => ("CottageYearModel", "textFrom", "I", false)
  | 84 => ("CottageYearModel", "textLong", "I", false)
  | 85 => ("CottageYearModel", "at", "I", false)
  | 86 => ("CottageYearModel", "fault", "I", false)
  | 87 => ("CottageYearModel", "deep", "I", false)
  | 88 => ("CottageYearModel", "jobAt", "I", false)
  | 89 => ("CottageYearModel", "hasPaid", "Z", false)
  | 90 => ("CottageYearModel", "paid", "J", false)
  | 91 => ("CottageYearModel", "entryOf", "[I", true)
  | 92 => ("CottageYearModel", "entryBooking", "[I", true)
  | 93 => ("CottageYearModel", "entryThings", "[I", true)
  | 94 => ("CottageYearModel", "worth", "[I", true)
  | 95 => ("CottageYearModel", "entries", "I", false)
  | 96 => ("CottageYearModel", "looks", "I", false)
  | 97 => ("CottageYearModel", "blamed", "[I", true)
  | 98 => ("CottageYearModel", "complaints", "I", false)
  | _ => ("CottageYearModel", "lots", "J", false)
abbrev zcl : List vw_C := [("CottageYear$Booking", zT0, 13), ("CottageYear$Books", zT1, 6), ("CottageYear$Cottage", zT2, 8), ("CottageYear$Job", zT3, 12), ("CottageYear$Laundry", zT4, 8), ("CottageYear$Moves", zT5, 9), ("CottageYear$Planner", zT6, 20), ("CottageYear$Roads", zT7, 2), ("CottageYear$Team", zT8, 11), ("CottageYear$Text", zT9, 9), ("CottageYear$Wages", zT10, 9), ("CottageYear", zT11, 18), ("CottageYearModel", zT12, 100)]
/-- the kind of each field: 0 int, 1 boolean, 2 byte, 3 long, 4 a reference -/
def zfl : List (List Nat) := [[0, 0, 0, 1, 0, 0, 1, 1, 0, 0, 0, 0, 4], [4, 4, 0, 4, 0, 4], [0, 1, 0, 0, 3, 0, 0, 0], [4, 0, 0, 0, 0, 0, 0, 0, 0, 0, 0, 0], [0, 0, 0, 0, 0, 0, 0, 0], [4, 4, 0, 4, 0, 4, 4, 0, 0], [4, 4, 0, 4, 0, 4, 4, 4, 4, 4, 4, 4, 4, 4, 4, 4, 3, 3, 4, 1], [4, 0], [0, 0, 4, 4, 0, 0, 0, 0, 0, 0, 0], [4, 0, 0, 0, 0, 0, 0, 1, 0], [4, 4, 0, 4, 4, 4, 0, 0, 0], [4, 0, 4, 0, 4, 0, 0, 0, 1, 0, 4, 4, 3, 4, 4, 4, 4, 4], [0, 4, 4, 4, 4, 4, 4, 4, 4, 4, 4, 4, 4, 4, 4, 4, 4, 0, 0, 0, 0, 1, 4, 4, 4, 0, 0, 0, 4, 4, 0, 0, 4, 4, 4, 4, 4, 4, 4, 4, 4, 4, 4, 4, 4, 4, 4, 4, 4, 4, 4, 4, 0, 4, 4, 4, 4, 4, 0, 0, 0, 0, 0, 0, 0, 0, 0, 0, 0, 0, 0, 1, 4, 0, 0, 4, 4, 4, 4, 4, 0, 0, 4, 0, 0, 0, 0, 0, 0, 1, 3, 4, 4, 4, 4, 0, 0, 4, 0, 3]]
def zfT (c j : Nat) : Nat := (zfl.getD c []).getD j 0
/-- the field types -/
def zfy : List (List FieldType) := [[.int, .int, .int, .boolean, .int, .int, .boolean, .boolean, .int, .int, .int, .int, (.object "CottageYear$Job")], [(.array .int), (.array .int), .int, (.array .int), .int, (.array .int)], [.int, .boolean, .int, .int, .long, .int, .int, .int], [(.object "CottageYear$Booking"), .int, .int, .int, .int, .int, .int, .int, .int, .int, .int, .int], [.int, .int, .int, .int, .int, .int, .int, .int], [(.array (.object "CottageYear$Cottage")), (.array .boolean), .int, (.array (.object "CottageYear$Booking")), .int, (.array .int), (.array .int), .int, .int], [(.object "CottageYear$Roads"), (.array (.object "CottageYear$Job")), .int, (.array .int), .int, (.array .long), (.array .int), (.array .int), (.array .int), (.array .int), (.array .int), (.array .long), (.array .int), (.array .int), (.array .long), (.array .int), .long, .long, (.array .int), .boolean], [(.array .int), .int], [.int, .int, (.array .int), (.array .int), .int, .int, .int, .int, .int, .int, .int], [(.array .int), .int, .int, .int, .int, .int, .int, .boolean, .int], [(.object "CottageYear$Text"), (.array (.object "CottageYear$Text")), .int, (.array .int), (.array (.object "CottageYear$Job")), (.array .int), .int, .int, .int], [(.array (.object "CottageYear$Cottage")), .int, (.array (.object "CottageYear$Booking")), .int, (.array (.object "CottageYear$Team")), .int, .int, .int, .boolean, .int, (.array (.object "CottageYear$Booking")), (.array (.object "CottageYear$Job")), .long, (.object "CottageYear$Moves"), (.object "CottageYear$Planner"), (.object "CottageYear$Laundry"), (.object "CottageYear$Books"), (.object "CottageYear$Wages")], [.int, (.array .int), (.array .int), (.array .int), (.array .boolean), (.array .boolean), (.array .int), (.array .int), (.array .int), (.array .int), (.array .int), (.array .int), (.array .int), (.array .int), (.array .boolean), (.array .boolean), (.array .boolean), .int, .int, .int, .int, .boolean, (.array .int), (.array .int), (.array .boolean), .int, .int, .int, (.array .int), (.array .int), .int, .int, (.array .boolean), (.array .int), (.array .int), (.array .int), (.array .int), (.array .int), (.array .int), (.array .int), (.array .int), (.array .int), (.array .int), (.array .int), (.array .int), (.array .int), (.array .int), (.array .int), (.array .int), (.array .int), (.array .int), (.array .int), .int, (.array .int), (.array .int), (.array .int), (.array .int), (.array .boolean), .int, .int, .int, .int, .int, .int, .int, .int, .int, .int, .int, .int, .int, .boolean, (.array .int), .int, .int, (.array .byte), (.array .byte), (.array .int), (.array .int), (.array .int), .int, .int, (.array .byte), .int, .int, .int, .int, .int, .int, .boolean, .long, (.array .int), (.array .int), (.array .int), (.array .int), .int, .int, (.array .int), .int, .long]]
def zFy (c j : Nat) : FieldType := (zfy.getD c []).getD j .int
/-- the arrays' kinds: 13 boolean, 14 byte, 15 int, 16 long, 17 .. of references -/
def zaC : List String := ["CottageYear$Booking", "CottageYear$Cottage", "CottageYear$Job", "CottageYear$Team", "CottageYear$Text"]
def zaI : List Nat := [0, 2, 3, 8, 9]
abbrev Ins : Type := Nat × Instr × Nat × Nat × Nat × Nat × Int32 × Int64 × List (Int32 × Nat)
abbrev Pgm : Type := String × MethodName × ByteArray × Nat × Option FieldType × Nat × Nat × Nat × Nat × List (List Ins)
def kA (pc : Nat) (i : Instr) (l : Nat) : Ins := (pc, i, l, 0, 0, 0, 0, 0, [])
def kB (pc : Nat) (i : Instr) (l a b t : Nat) : Ins := (pc, i, l, a, b, t, 0, 0, [])
def kI (pc : Nat) (i : Instr) (l : Nat) (x : Int32) (t : Nat) : Ins := (pc, i, l, 0, 0, t, x, 0, [])
def kV (pc : Nat) (i : Instr) (l a : Nat) (x : Int32) : Ins := (pc, i, l, a, 0, 0, x, 0, [])
def kJ (pc : Nat) (i : Instr) (l : Nat) (w : Int64) (t : Nat) : Ins := (pc, i, l, 0, 0, t, 0, w, [])
def kS (pc : Nat) (i : Instr) (l a : Nat) (ts : List (Int32 × Nat)) : Ins := (pc, i, l, a, 0, 0, 0, 0, ts)
abbrev pOwn (P : Pgm) : String := P.1
abbrev pY (P : Pgm) : MethodName := P.2.1
abbrev pB (P : Pgm) : ByteArray := P.2.2.1
abbrev pL (P : Pgm) : Nat := P.2.2.2.1
abbrev pRet (P : Pgm) : Option FieldType := P.2.2.2.2.1
abbrev pMc (P : Pgm) : Nat := P.2.2.2.2.2.1
abbrev pMs (P : Pgm) : Nat := P.2.2.2.2.2.2.1
/-- the class of the receiver; 99: static -/
abbrev pC (P : Pgm) : Nat := P.2.2.2.2.2.2.2.1
abbrev pN (P : Pgm) : Nat := P.2.2.2.2.2.2.2.2.1
abbrev pCd (P : Pgm) : List (List Ins) := P.2.2.2.2.2.2.2.2.2
def zY : List (List MethodName) := [[⟨"java/lang/Math", "max", "(II)I"⟩, ⟨"java/lang/Math", "min", "(II)I"⟩, ⟨"java/lang/Math", "abs", "(I)I"⟩, ⟨"java/lang/Math", "max", "(JJ)J"⟩, ⟨"java/lang/Math", "min", "(JJ)J"⟩, ⟨"java/lang/Integer", "bitCount", "(I)I"⟩, ⟨"java/util/Arrays", "fill", "([II)V"⟩, ⟨"java/util/Arrays", "fill", "([JJ)V"⟩, ⟨"CottageYear$Booking", "<init>", "(IIIZII)V"⟩, ⟨"CottageYear$Booking", "detail", "(I)I"⟩, ⟨"CottageYear$Books", "<init>", "()V"⟩, ⟨"CottageYear$Books", "isFull", "()Z"⟩, ⟨"CottageYear$Books", "addLook", "(IIII)V"⟩, ⟨"CottageYear$Books", "addStay", "(I)I"⟩, ⟨"CottageYear$Books", "addEntry", "(II)V"⟩, ⟨"CottageYear$Books", "isEntry", "(I)Z"⟩],
  [⟨"CottageYear$Books", "lookAhead", "(I)I"⟩, ⟨"CottageYear$Books", "lookBehind", "(I)I"⟩, ⟨"CottageYear$Books", "lostAt", "(II)I"⟩, ⟨"CottageYear$Books", "lostCoins", "(I)I"⟩, ⟨"CottageYear$Cottage", "<init>", "(IZII)V"⟩, ⟨"CottageYear$Cottage", "takes", "(IZ)Z"⟩, ⟨"CottageYear$Cottage", "isShut", "(I)Z"⟩, ⟨"CottageYear$Cottage", "setShut", "(IZ)V"⟩, ⟨"CottageYear$Cottage", "hadCode", "(I)Z"⟩, ⟨"CottageYear$Cottage", "keepCode", "(I)V"⟩, ⟨"CottageYear$Job", "<init>", "(LCottageYear$Booking;LCottageYear$Booking;I)V"⟩, ⟨"CottageYear$Job", "isReady", "()Z"⟩, ⟨"CottageYear$Job", "lateness", "()I"⟩, ⟨"CottageYear$Job", "detail", "(I)I"⟩, ⟨"CottageYear$Laundry", "<init>", "()V"⟩, ⟨"CottageYear$Laundry", "sendOut", "(I)V"⟩],
  [⟨"CottageYear$Laundry", "takeBack", "()V"⟩, ⟨"CottageYear$Laundry", "detail", "(I)I"⟩, ⟨"CottageYear$Laundry", "fewestSets", "([LCottageYear$Booking;I)I"⟩, ⟨"CottageYear$Laundry", "guestsIn", "(I[LCottageYear$Booking;I)I"⟩, ⟨"CottageYear$Moves", "<init>", "()V"⟩, ⟨"CottageYear$Moves", "clear", "()V"⟩, ⟨"CottageYear$Moves", "addCottage", "(LCottageYear$Cottage;Z)V"⟩, ⟨"CottageYear$Moves", "addBooking", "(LCottageYear$Booking;)V"⟩, ⟨"CottageYear$Moves", "find", "()V"⟩, ⟨"CottageYear$Moves", "place", "(III)V"⟩, ⟨"CottageYear$Moves", "keepIfBetter", "(II)V"⟩, ⟨"CottageYear$Moves", "goalOf", "(LCottageYear$Booking;)I"⟩, ⟨"CottageYear$Moves", "carryOut", "()V"⟩, ⟨"CottageYear$Planner", "<init>", "()V"⟩, ⟨"CottageYear$Planner", "forget", "()V"⟩, ⟨"CottageYear$Planner", "possible", "()Z"⟩],
  [⟨"CottageYear$Planner", "costPart", "(I)I"⟩, ⟨"CottageYear$Planner", "copyRow", "(LCottageYear$Team;)V"⟩, ⟨"CottageYear$Planner", "digit", "(II)I"⟩, ⟨"CottageYear$Planner", "shiftOf", "(I)I"⟩, ⟨"CottageYear$Planner", "gather", "([LCottageYear$Job;I[LCottageYear$Team;I)V"⟩, ⟨"CottageYear$Planner", "teamWith", "([LCottageYear$Team;I)I"⟩, ⟨"CottageYear$Planner", "find", "([LCottageYear$Job;[LCottageYear$Team;I)V"⟩, ⟨"CottageYear$Planner", "start", "(LCottageYear$Team;I[LCottageYear$Job;I)V"⟩, ⟨"CottageYear$Planner", "costAtHand", "([LCottageYear$Job;[LCottageYear$Team;I)J"⟩, ⟨"CottageYear$Planner", "indexOf", "(I)I"⟩, ⟨"CottageYear$Planner", "costInHaste", "([LCottageYear$Job;[LCottageYear$Team;I)J"⟩, ⟨"CottageYear$Planner", "takeSoonest", "([LCottageYear$Team;I)I"⟩, ⟨"CottageYear$Planner", "lengthen", "(LCottageYear$Team;II)V"⟩, ⟨"CottageYear$Planner", "putBehind", "(LCottageYear$Team;III)V"⟩, ⟨"CottageYear$Planner", "isIdle", "(III)Z"⟩, ⟨"CottageYear$Planner", "keepRow", "(II)V"⟩],
  [⟨"CottageYear$Planner", "share", "()V"⟩, ⟨"CottageYear$Planner", "shareOthers", "(III)V"⟩, ⟨"CottageYear$Planner", "isLikelier", "(III)Z"⟩, ⟨"CottageYear$Roads", "<init>", "()V"⟩, ⟨"CottageYear$Roads", "tell", "(III)V"⟩, ⟨"CottageYear$Roads", "minutes", "(IIZ)I"⟩, ⟨"CottageYear$Team", "<init>", "(II)V"⟩, ⟨"CottageYear$Team", "startDay", "()V"⟩, ⟨"CottageYear$Team", "rests", "()V"⟩, ⟨"CottageYear$Team", "rowAt", "(I)I"⟩, ⟨"CottageYear$Team", "hasInRow", "(I)Z"⟩, ⟨"CottageYear$Team", "detail", "(I)I"⟩, ⟨"CottageYear$Team", "freeAt", "([LCottageYear$Job;I)I"⟩, ⟨"CottageYear$Team", "passMinute", "([LCottageYear$Job;LCottageYear$Roads;I)V"⟩, ⟨"CottageYear$Team", "step", "([LCottageYear$Job;LCottageYear$Roads;I)Z"⟩, ⟨"CottageYear$Team", "jobAmong", "([LCottageYear$Job;I)LCottageYear$Job;"⟩],
  [⟨"CottageYear$Team", "begin", "(LCottageYear$Job;I)Z"⟩, ⟨"CottageYear$Team", "go", "(LCottageYear$Job;LCottageYear$Roads;I)Z"⟩, ⟨"CottageYear$Text", "<init>", "()V"⟩, ⟨"CottageYear$Text", "bytesOf", "(I)I"⟩, ⟨"CottageYear$Text", "addBytes", "(I)V"⟩, ⟨"CottageYear$Text", "isDigit", "(I)Z"⟩, ⟨"CottageYear$Text", "isLetter", "(I)Z"⟩, ⟨"CottageYear$Text", "isPlusOrMinus", "(I)Z"⟩, ⟨"CottageYear$Text", "isTimesOrBy", "(I)Z"⟩, ⟨"CottageYear$Text", "isComparison", "(I)Z"⟩, ⟨"CottageYear$Text", "firstFault", "()I"⟩, ⟨"CottageYear$Text", "goesOnWith", "(I)Z"⟩, ⟨"CottageYear$Text", "beginsAtom", "(I)Z"⟩, ⟨"CottageYear$Text", "followsAtom", "(I)Z"⟩, ⟨"CottageYear$Text", "partBehind", "(II)I"⟩, ⟨"CottageYear$Text", "coinsFor", "(LCottageYear$Job;)I"⟩],
  [⟨"CottageYear$Text", "compares", "(JIJ)Z"⟩, ⟨"CottageYear$Text", "sign", "()I"⟩, ⟨"CottageYear$Text", "takeSign", "()I"⟩, ⟨"CottageYear$Text", "sumFor", "(LCottageYear$Job;I)J"⟩, ⟨"CottageYear$Text", "productFor", "(LCottageYear$Job;I)J"⟩, ⟨"CottageYear$Text", "atomFor", "(LCottageYear$Job;I)J"⟩, ⟨"CottageYear$Text", "number", "()J"⟩, ⟨"CottageYear$Text", "letterFor", "(LCottageYear$Job;I)J"⟩, ⟨"CottageYear$Text", "divided", "(JJ)J"⟩, ⟨"CottageYear$Text", "bounded", "(J)J"⟩, ⟨"CottageYear$Wages", "<init>", "()V"⟩, ⟨"CottageYear$Wages", "hasAllTerms", "()Z"⟩, ⟨"CottageYear$Wages", "keepTape", "(II)I"⟩, ⟨"CottageYear$Wages", "termsFor", "(II)I"⟩, ⟨"CottageYear$Wages", "coinsBy", "(ILCottageYear$Job;)I"⟩, ⟨"CottageYear$Wages", "dropDrafts", "()V"⟩],
  [⟨"CottageYear$Wages", "draft", "(ILCottageYear$Job;I)Z"⟩, ⟨"CottageYear$Wages", "enterDrafts", "()I"⟩, ⟨"CottageYear$Wages", "lineDetail", "(II)I"⟩, ⟨"CottageYear", "<init>", "()V"⟩, ⟨"CottageYear", "cottage", "(IZII)I"⟩, ⟨"CottageYear", "rent", "(II)Z"⟩, ⟨"CottageYear", "book", "(IIIZI)I"⟩, ⟨"CottageYear", "cancel", "(I)Z"⟩, ⟨"CottageYear", "shut", "(IIZ)Z"⟩, ⟨"CottageYear", "moves", "(II)I"⟩, ⟨"CottageYear", "moved", "(I)I"⟩, ⟨"CottageYear", "move", "(I)I"⟩, ⟨"CottageYear", "booked", "(II)I"⟩, ⟨"CottageYear", "taken", "(II)I"⟩, ⟨"CottageYear", "team", "(I)I"⟩, ⟨"CottageYear", "way", "(III)Z"⟩],
  [⟨"CottageYear", "rest", "(I)Z"⟩, ⟨"CottageYear", "openDay", "()I"⟩, ⟨"CottageYear", "closeDay", "()I"⟩, ⟨"CottageYear", "late", "(II)Z"⟩, ⟨"CottageYear", "state", "(II)Z"⟩, ⟨"CottageYear", "best", "(I)I"⟩, ⟨"CottageYear", "plan", "()Z"⟩, ⟨"CottageYear", "row", "(II)I"⟩, ⟨"CottageYear", "tick", "(I)I"⟩, ⟨"CottageYear", "about", "(II)I"⟩, ⟨"CottageYear", "job", "(III)I"⟩, ⟨"CottageYear", "linen", "(II)Z"⟩, ⟨"CottageYear", "sets", "(I)I"⟩, ⟨"CottageYear", "fewest", "()I"⟩, ⟨"CottageYear", "feed", "(IIIII)I"⟩, ⟨"CottageYear", "end", "(I)Z"⟩],
  [⟨"CottageYear", "fault", "()I"⟩, ⟨"CottageYear", "terms", "(I)I"⟩, ⟨"CottageYear", "force", "(II)I"⟩, ⟨"CottageYear", "pay", "(III)I"⟩, ⟨"CottageYear", "line", "(II)I"⟩, ⟨"CottageYear", "look", "(IIII)I"⟩, ⟨"CottageYear", "worth", "(II)Z"⟩, ⟨"CottageYear", "lost", "(II)I"⟩, ⟨"CottageYear", "kept", "(I)I"⟩, ⟨"CottageYear", "complain", "(II)I"⟩, ⟨"CottageYear", "blamed", "(II)I"⟩, ⟨"CottageYear", "draw", "(IJ)I"⟩, ⟨"CottageYear", "code", "(I)I"⟩, ⟨"CottageYear", "door", "(III)Z"⟩, ⟨"CottageYear", "count", "(I)I"⟩, ⟨"CottageYear", "within", "(III)Z"⟩],
  [⟨"CottageYear", "isWeek", "(I)Z"⟩, ⟨"CottageYear", "isToCome", "(I)Z"⟩, ⟨"CottageYear", "cottageAt", "(I)LCottageYear$Cottage;"⟩, ⟨"CottageYear", "bookingAt", "(I)LCottageYear$Booking;"⟩, ⟨"CottageYear", "begunAt", "(I)LCottageYear$Booking;"⟩, ⟨"CottageYear", "teamAt", "(I)LCottageYear$Team;"⟩, ⟨"CottageYear", "stayOf", "(II)LCottageYear$Booking;"⟩, ⟨"CottageYear", "jobOf", "(II)LCottageYear$Job;"⟩, ⟨"CottageYear", "jobToBegin", "(I)LCottageYear$Job;"⟩, ⟨"CottageYear", "isLet", "(II)Z"⟩, ⟨"CottageYear", "findMoves", "(I)V"⟩, ⟨"CottageYear", "beginStays", "()V"⟩, ⟨"CottageYear", "makeJobs", "()I"⟩, ⟨"CottageYear", "guestsWhoCome", "()I"⟩, ⟨"CottageYear", "giveCodes", "()V"⟩, ⟨"CottageYear", "nextCode", "(LCottageYear$Cottage;)I"⟩],
  [⟨"CottageYear", "findPlan", "()Z"⟩, ⟨"CottageYear", "draftLines", "()Z"⟩, ⟨"CottageYear", "teamToBlame", "(LCottageYear$Booking;I)LCottageYear$Team;"⟩, ⟨"CottageYear", "readyJobs", "()I"⟩, ⟨"CottageYear", "weightOf", "(II)I"⟩, ⟨"CottageYear", "drawOne", "(IJ)I"⟩, ⟨"CottageYear", "bookingsInForce", "()I"⟩, ⟨"CottageYear", "jobsLeftOut", "()I"⟩, ⟨"CottageYear", "lateMinutes", "()I"⟩, ⟨"CottageYearModel", "<init>", "()V"⟩, ⟨"CottageYearModel", "thrown", "()I"⟩, ⟨"CottageYearModel", "isIn", "(III)Z"⟩, ⟨"CottageYearModel", "isCottage", "(I)Z"⟩, ⟨"CottageYearModel", "isBooking", "(I)Z"⟩, ⟨"CottageYearModel", "isAhead", "(I)Z"⟩, ⟨"CottageYearModel", "cottage", "(IZII)I"⟩],
  [⟨"CottageYearModel", "rent", "(II)Z"⟩, ⟨"CottageYearModel", "inForce", "(II)I"⟩, ⟨"CottageYearModel", "book", "(IIIZI)I"⟩, ⟨"CottageYearModel", "cancel", "(I)Z"⟩, ⟨"CottageYearModel", "shut", "(IIZ)Z"⟩, ⟨"CottageYearModel", "tryMoves", "(III)V"⟩, ⟨"CottageYearModel", "findMoves", "(I)Z"⟩, ⟨"CottageYearModel", "moves", "(II)I"⟩, ⟨"CottageYearModel", "moved", "(I)I"⟩, ⟨"CottageYearModel", "move", "(I)I"⟩, ⟨"CottageYearModel", "booked", "(II)I"⟩, ⟨"CottageYearModel", "taken", "(II)I"⟩, ⟨"CottageYearModel", "team", "(I)I"⟩, ⟨"CottageYearModel", "way", "(III)Z"⟩, ⟨"CottageYearModel", "rest", "(I)Z"⟩, ⟨"CottageYearModel", "job", "(I)I"⟩],
  [⟨"CottageYearModel", "stay", "(II)I"⟩, ⟨"CottageYearModel", "openDay", "()I"⟩, ⟨"CottageYearModel", "isOpenJob", "(I)Z"⟩, ⟨"CottageYearModel", "late", "(II)Z"⟩, ⟨"CottageYearModel", "state", "(II)Z"⟩, ⟨"CottageYearModel", "minutesTo", "(III)I"⟩, ⟨"CottageYearModel", "wayOf", "(II)I"⟩, ⟨"CottageYearModel", "setsBehind", "(III)I"⟩, ⟨"CottageYearModel", "inRow", "(I)I"⟩, ⟨"CottageYearModel", "isWorse", "(III)Z"⟩, ⟨"CottageYearModel", "tryRows", "(IIIIIII)V"⟩, ⟨"CottageYearModel", "startTime", "(I)I"⟩, ⟨"CottageYearModel", "findPlan", "()Z"⟩, ⟨"CottageYearModel", "best", "(I)I"⟩, ⟨"CottageYearModel", "plan", "()Z"⟩, ⟨"CottageYearModel", "isTeam", "(I)Z"⟩],
  [⟨"CottageYearModel", "row", "(II)I"⟩, ⟨"CottageYearModel", "goesOn", "(I)Z"⟩, ⟨"CottageYearModel", "tick", "(I)I"⟩, ⟨"CottageYearModel", "about", "(II)I"⟩, ⟨"CottageYearModel", "isJobOf", "(II)Z"⟩, ⟨"CottageYearModel", "lateOf", "(I)I"⟩, ⟨"CottageYearModel", "job", "(III)I"⟩, ⟨"CottageYearModel", "linen", "(II)Z"⟩, ⟨"CottageYearModel", "sets", "(I)I"⟩, ⟨"CottageYearModel", "isEnough", "(I)Z"⟩, ⟨"CottageYearModel", "fewest", "()I"⟩, ⟨"CottageYearModel", "closeDay", "()I"⟩, ⟨"CottageYearModel", "line", "(II)I"⟩, ⟨"CottageYearModel", "bytesIn", "(I)I"⟩, ⟨"CottageYearModel", "put", "(I)V"⟩, ⟨"CottageYearModel", "feed", "(IIIII)I"⟩],
  [⟨"CottageYearModel", "end", "(I)Z"⟩, ⟨"CottageYearModel", "look", "()I"⟩, ⟨"CottageYearModel", "stop", "()J"⟩, ⟨"CottageYearModel", "bound", "(J)J"⟩, ⟨"CottageYearModel", "isDigit", "()Z"⟩, ⟨"CottageYearModel", "letter", "(I)J"⟩, ⟨"CottageYearModel", "atom", "()J"⟩, ⟨"CottageYearModel", "product", "()J"⟩, ⟨"CottageYearModel", "sums", "()J"⟩, ⟨"CottageYearModel", "isSign", "(I)Z"⟩, ⟨"CottageYearModel", "holds", "(J)Z"⟩, ⟨"CottageYearModel", "clause", "()V"⟩, ⟨"CottageYearModel", "goThrough", "([BIII)V"⟩, ⟨"CottageYearModel", "fault", "()I"⟩, ⟨"CottageYearModel", "terms", "(I)I"⟩, ⟨"CottageYearModel", "termsFor", "(II)I"⟩],
  [⟨"CottageYearModel", "force", "(II)I"⟩, ⟨"CottageYearModel", "payBy", "(II)I"⟩, ⟨"CottageYearModel", "payFor", "(I)I"⟩, ⟨"CottageYearModel", "pay", "(III)I"⟩, ⟨"CottageYearModel", "enter", "(IIIII)V"⟩, ⟨"CottageYearModel", "look", "(IIII)I"⟩, ⟨"CottageYearModel", "worth", "(II)Z"⟩, ⟨"CottageYearModel", "beside", "(II)I"⟩, ⟨"CottageYearModel", "lostOf", "(II)I"⟩, ⟨"CottageYearModel", "isStay", "(I)Z"⟩, ⟨"CottageYearModel", "lost", "(II)I"⟩, ⟨"CottageYearModel", "kept", "(I)I"⟩, ⟨"CottageYearModel", "complain", "(II)I"⟩, ⟨"CottageYearModel", "blamed", "(II)I"⟩, ⟨"CottageYearModel", "weight", "(I)I"⟩, ⟨"CottageYearModel", "draw", "(IJ)I"⟩],
  [⟨"CottageYearModel", "drawCode", "(II)I"⟩, ⟨"CottageYearModel", "code", "(I)I"⟩, ⟨"CottageYearModel", "door", "(III)Z"⟩, ⟨"CottageYearModel", "count", "(I)I"⟩, ⟨"CottageYearLaw", "about", "(LCottageYear;II[J)I"⟩, ⟨"CottageYearLaw", "law", "([I)Z"⟩]]
def yM (k : Nat) : MethodName := (zY.getD (k / 16) []).getD (k % 16) ⟨"", "", ""⟩
def tbI (t : Nat) (w : Cond) : Bool := decide (tables_1[t]? = some w)
def fdI (own : String) (ix a b t : Nat) : Bool := match zcl[a]? with
  | some (_, T, N) => decide (b < N) && tbI t (.fieldLink own ix (T b).1 (T b).2.1 (T b).2.2.1)
  | none => false
def fnI (own : String) (ini : Bool) (a b : Nat) : Bool := match zcl[a]? with
  | some (_, T, _) => !(T b).2.2.2 || (ini && decide ((T b).1 = own))
  | none => false
def tgI (pc : Nat) (off : Int) (a : Nat) : Bool := decide ((pc : Int) + off = (a : Int))
def atI (at0 : ArrayType) (a : Nat) : Bool := match at0 with
  | .boolean => a == 13 | .byte => a == 14 | .int => a == 15 | .long => a == 16 | _ => false
def clN (a : Nat) : String := match zcl[a]? with
  | some (C, _, _) => C
  | none => ""
def swT (pc : Nat) (lo : Int) : List Int → List (Int32 × Nat) → Bool
  | [], [] => true
  | o :: os, (v, t) :: ts => decide (Int32.ofInt lo = v) && decide (v.toInt = lo) && decide ((pc : Int) + o = (t : Int)) && swT pc (lo + 1) os ts
  | _, _ => false
def swL (pc : Nat) : List (Int × Int) → List (Int32 × Nat) → Bool
  | [], [] => true
  | (k, o) :: os, (v, t) :: ts => decide (v.toInt = k) && decide ((pc : Int) + o = (t : Int)) && swL pc os ts
  | _, _ => false
/-- what is checked of a row, but its bytes -/
def okX (own : String) (ini : Bool) (i : Ins) : Bool := match i with
  | (pc, ins, _, a, b, t, x, w, ts) => match ins with
    | .getfield ix => fdI own ix a b t
    | .putfield ix => fdI own ix a b t && fnI own ini a b
    | .new ix => if a = 98 then tbI t (.classLink own ix "java/util/NoSuchElementException") else tbI t (.classLink own ix (clN a)) && decide (a < 13)
    | .anewarray ix => decide (17 ≤ a) && decide (a < 22) && tbI t (.classLink own ix (zaC.getD (a - 17) ""))
    | .newarray at0 => atI at0 a
    | .ldc ix => tbI t (.constant own ix x)
    | .ldc_w ix => tbI t (.constant own ix x)
    | .ldc2_w ix => tbI t (.constantLong own ix w)
    | .iconst n => decide (Int32.ofInt n = x)
    | .bipush n => decide ((Int8.ofInt n).toInt32 = x)
    | .sipush n => decide ((Int16.ofInt n).toInt32 = x)
    | .lconst n => decide (Int64.ofNat (n : Nat) = w)
    | .iinc j n => decide (j = a) && decide (Int32.ofInt n = x)
    | .iload j => decide (j = a) | .lload j => decide (j = a) | .aload j => decide (j = a)
    | .istore j => decide (j = a) | .lstore j => decide (j = a) | .astore j => decide (j = a)
    | .iload_n j => decide ((j : Nat) = a) | .lload_n j => decide ((j : Nat) = a) | .aload_n j => decide ((j : Nat) = a)
    | .istore_n j => decide ((j : Nat) = a) | .lstore_n j => decide ((j : Nat) = a) | .astore_n j => decide ((j : Nat) = a)
    | .goto o => tgI pc o a | .ifCond _ o => tgI pc o a | .if_icmp _ o => tgI pc o a | .if_acmp _ o => tgI pc o a
    | .ifnull o => tgI pc o a | .ifnonnull o => tgI pc o a
    | .tableswitch d lo hi os => tgI pc d a && decide (hi = lo + os.size - 1) && swT pc lo os.toList ts
    | .lookupswitch d ps => tgI pc d a && (ps.toList.zip (ps.toList.drop 1)).all (fun (a, next) => a.1 < next.1) && swL pc ps.toList ts
    | .invokevirtual ix => tbI t (.methodLink own ix (yM a))
    | .invokestatic ix => if a = 9001 then tbI t (.methodLink own ix arraycopyName) else tbI t (.methodLink own ix (yM a))
    | .invokespecial ix => if a = 9000 then tbI t (.methodLink own ix objectInit) else if b = 1 then tbI t (.methodLinkNest own ix (yM a) "CottageYear") else tbI t (.methodLink own ix (yM a))
    | _ => true
def okI (own : String) (ini : Bool) (bs : ByteArray) (i : Ins) : Bool := decide (decode bs i.1 = .ok (i.2.1, i.2.2.1)) && okX own ini i

