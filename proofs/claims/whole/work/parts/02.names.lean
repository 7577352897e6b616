/-! printed by gen.py out of the claim: classes, fields, methods -/
def RX0 : String := "HearingDesk$DaySheet"
def TX0 : u_T := fun k => match k with
  | 0 => ("HearingDesk$DaySheet", "byNumber", "[LHearingDesk$Hearing;", true)
  | 1 => ("HearingDesk$DaySheet", "byBegin", "[I", true)
  | _ => ("HearingDesk$DaySheet", "size", "I", false)
def tyX0 : Nat → FieldType := fun k => match k with
  | 0 => .array (.object "HearingDesk$Hearing")
  | 1 => .array .int
  | _ => .int
abbrev wsX00 : List Cond := u_ws RX0 TX0 3
theorem nmX0 : ∀ a, a < 3 → ∀ b, b < 3 → a ≠ b → (TX0 a).2.1 ≠ (TX0 b).2.1 := by decide +kernel
theorem tyX0_ok : ∀ k, k < 3 → parseFieldDescriptor (TX0 k).2.2.1 = some (tyX0 k) := by decide +kernel
def RX1 : String := "HearingDesk$Docket"
def TX1 : u_T := fun k => match k with
  | 0 => ("HearingDesk$Docket", "all", "[LHearingDesk$Hearing;", true)
  | _ => ("HearingDesk$Docket", "size", "I", false)
def tyX1 : Nat → FieldType := fun k => match k with
  | 0 => .array (.object "HearingDesk$Hearing")
  | _ => .int
abbrev wsX10 : List Cond := u_ws RX1 TX1 2
theorem nmX1 : ∀ a, a < 2 → ∀ b, b < 2 → a ≠ b → (TX1 a).2.1 ≠ (TX1 b).2.1 := by decide +kernel
theorem tyX1_ok : ∀ k, k < 2 → parseFieldDescriptor (TX1 k).2.2.1 = some (tyX1 k) := by decide +kernel
def RX2 : String := "HearingDesk$FeeText"
def TX2 : u_T := fun k => match k with
  | 0 => ("HearingDesk$FeeText", "day", "[I", true)
  | 1 => ("HearingDesk$FeeText", "key", "[I", true)
  | 2 => ("HearingDesk$FeeText", "number", "[I", true)
  | 3 => ("HearingDesk$FeeText", "share", "[I", true)
  | _ => ("HearingDesk$FeeText", "size", "I", false)
def tyX2 : Nat → FieldType := fun k => match k with
  | 0 => .array .int
  | 1 => .array .int
  | 2 => .array .int
  | 3 => .array .int
  | _ => .int
abbrev wsX20 : List Cond := u_ws RX2 TX2 5
theorem nmX2 : ∀ a, a < 5 → ∀ b, b < 5 → a ≠ b → (TX2 a).2.1 ≠ (TX2 b).2.1 := by decide +kernel
theorem tyX2_ok : ∀ k, k < 5 → parseFieldDescriptor (TX2 k).2.2.1 = some (tyX2 k) := by decide +kernel
def RX3 : String := "HearingDesk$Hearing"
def TX3 : u_T := fun k => match k with
  | 0 => ("HearingDesk$Hearing", "which", "I", true)
  | 1 => ("HearingDesk$Hearing", "length", "I", true)
  | 2 => ("HearingDesk$Hearing", "town", "I", true)
  | 3 => ("HearingDesk$Hearing", "tongue", "I", true)
  | 4 => ("HearingDesk$Hearing", "grade", "I", true)
  | 5 => ("HearingDesk$Hearing", "day", "I", false)
  | 6 => ("HearingDesk$Hearing", "begin", "I", false)
  | 7 => ("HearingDesk$Hearing", "cancelled", "Z", false)
  | 8 => ("HearingDesk$Hearing", "ahead", "I", false)
  | 9 => ("HearingDesk$Hearing", "firstSeat", "I", false)
  | _ => ("HearingDesk$Hearing", "secondSeat", "I", false)
def tyX3 : Nat → FieldType := fun k => match k with
  | 0 => .int
  | 1 => .int
  | 2 => .int
  | 3 => .int
  | 4 => .int
  | 5 => .int
  | 6 => .int
  | 7 => .boolean
  | 8 => .int
  | 9 => .int
  | _ => .int
abbrev wsX30 : List Cond := u_ws RX3 TX3 11
theorem nmX3 : ∀ a, a < 11 → ∀ b, b < 11 → a ≠ b → (TX3 a).2.1 ≠ (TX3 b).2.1 := by decide +kernel
theorem tyX3_ok : ∀ k, k < 11 → parseFieldDescriptor (TX3 k).2.2.1 = some (tyX3 k) := by decide +kernel
def RX4 : String := "HearingDesk$Inquiries"
def TX4 : u_T := fun k => match k with
  | 0 => ("HearingDesk$Inquiries", "hearing", "[I", true)
  | 1 => ("HearingDesk$Inquiries", "person", "[I", true)
  | 2 => ("HearingDesk$Inquiries", "askDay", "[I", true)
  | 3 => ("HearingDesk$Inquiries", "said", "[I", true)
  | 4 => ("HearingDesk$Inquiries", "reason", "[I", true)
  | 5 => ("HearingDesk$Inquiries", "answerDay", "[I", true)
  | _ => ("HearingDesk$Inquiries", "size", "I", false)
def tyX4 : Nat → FieldType := fun k => match k with
  | 0 => .array .int
  | 1 => .array .int
  | 2 => .array .int
  | 3 => .array .int
  | 4 => .array .int
  | 5 => .array .int
  | _ => .int
abbrev wsX40 : List Cond := u_ws RX4 TX4 7
theorem nmX4 : ∀ a, a < 7 → ∀ b, b < 7 → a ≠ b → (TX4 a).2.1 ≠ (TX4 b).2.1 := by decide +kernel
theorem tyX4_ok : ∀ k, k < 7 → parseFieldDescriptor (TX4 k).2.2.1 = some (tyX4 k) := by decide +kernel
def RX5 : String := "HearingDesk$Papers"
def TX5 : u_T := fun k => match k with
  | 0 => ("HearingDesk$Papers", "parent", "[I", true)
  | 1 => ("HearingDesk$Papers", "person", "[I", true)
  | 2 => ("HearingDesk$Papers", "tongue", "[I", true)
  | 3 => ("HearingDesk$Papers", "grade", "[I", true)
  | 4 => ("HearingDesk$Papers", "first", "[I", true)
  | 5 => ("HearingDesk$Papers", "last", "[I", true)
  | 6 => ("HearingDesk$Papers", "grades", "[I", true)
  | _ => ("HearingDesk$Papers", "size", "I", false)
def tyX5 : Nat → FieldType := fun k => match k with
  | 0 => .array .int
  | 1 => .array .int
  | 2 => .array .int
  | 3 => .array .int
  | 4 => .array .int
  | 5 => .array .int
  | 6 => .array .int
  | _ => .int
abbrev wsX50 : List Cond := u_ws RX5 TX5 8
theorem nmX5 : ∀ a, a < 8 → ∀ b, b < 8 → a ≠ b → (TX5 a).2.1 ≠ (TX5 b).2.1 := by decide +kernel
theorem tyX5_ok : ∀ k, k < 8 → parseFieldDescriptor (TX5 k).2.2.1 = some (tyX5 k) := by decide +kernel
def RX6 : String := "HearingDesk$People"
def TX6 : u_T := fun k => match k with
  | 0 => ("HearingDesk$People", "homes", "[I", true)
  | 1 => ("HearingDesk$People", "barred", "[Z", true)
  | _ => ("HearingDesk$People", "size", "I", false)
def tyX6 : Nat → FieldType := fun k => match k with
  | 0 => .array .int
  | 1 => .array .boolean
  | _ => .int
abbrev wsX60 : List Cond := u_ws RX6 TX6 3
theorem nmX6 : ∀ a, a < 3 → ∀ b, b < 3 → a ≠ b → (TX6 a).2.1 ≠ (TX6 b).2.1 := by decide +kernel
theorem tyX6_ok : ∀ k, k < 3 → parseFieldDescriptor (TX6 k).2.2.1 = some (tyX6 k) := by decide +kernel
def RX7 : String := "HearingDesk$Planner"
def TX7 : u_T := fun k => match k with
  | 0 => ("HearingDesk$Planner", "sheet", "LHearingDesk$DaySheet;", true)
  | 1 => ("HearingDesk$Planner", "teams", "[LHearingDesk$Teams;", true)
  | 2 => ("HearingDesk$Planner", "holding", "[Z", true)
  | 3 => ("HearingDesk$Planner", "trip", "[I", true)
  | 4 => ("HearingDesk$Planner", "pick", "[I", true)
  | 5 => ("HearingDesk$Planner", "best", "[I", true)
  | 6 => ("HearingDesk$Planner", "keeps", "Z", false)
  | 7 => ("HearingDesk$Planner", "done", "Z", false)
  | 8 => ("HearingDesk$Planner", "size", "I", false)
  | 9 => ("HearingDesk$Planner", "without", "I", false)
  | 10 => ("HearingDesk$Planner", "changes", "I", false)
  | _ => ("HearingDesk$Planner", "trips", "I", false)
def tyX7 : Nat → FieldType := fun k => match k with
  | 0 => .object "HearingDesk$DaySheet"
  | 1 => .array (.object "HearingDesk$Teams")
  | 2 => .array .boolean
  | 3 => .array .int
  | 4 => .array .int
  | 5 => .array .int
  | 6 => .boolean
  | 7 => .boolean
  | 8 => .int
  | 9 => .int
  | 10 => .int
  | _ => .int
abbrev wsX70 : List Cond := u_ws RX7 TX7 12
theorem nmX7 : ∀ a, a < 12 → ∀ b, b < 12 → a ≠ b → (TX7 a).2.1 ≠ (TX7 b).2.1 := by decide +kernel
theorem tyX7_ok : ∀ k, k < 12 → parseFieldDescriptor (TX7 k).2.2.1 = some (tyX7 k) := by decide +kernel
def RX8 : String := "HearingDesk$Tape"
def TX8 : u_T := fun k => match k with
  | 0 => ("HearingDesk$Tape", "bytes", "[B", true)
  | 1 => ("HearingDesk$Tape", "at", "I", false)
  | 2 => ("HearingDesk$Tape", "fault", "I", false)
  | _ => ("HearingDesk$Tape", "size", "I", false)
def tyX8 : Nat → FieldType := fun k => match k with
  | 0 => .array .byte
  | 1 => .int
  | 2 => .int
  | _ => .int
abbrev wsX80 : List Cond := u_ws RX8 TX8 4
theorem nmX8 : ∀ a, a < 4 → ∀ b, b < 4 → a ≠ b → (TX8 a).2.1 ≠ (TX8 b).2.1 := by decide +kernel
theorem tyX8_ok : ∀ k, k < 4 → parseFieldDescriptor (TX8 k).2.2.1 = some (tyX8 k) := by decide +kernel
def RX9 : String := "HearingDesk$Teams"
def TX9 : u_T := fun k => match k with
  | 0 => ("HearingDesk$Teams", "first", "[I", true)
  | 1 => ("HearingDesk$Teams", "second", "[I", true)
  | 2 => ("HearingDesk$Teams", "relay", "[I", true)
  | 3 => ("HearingDesk$Teams", "able", "[Z", true)
  | _ => ("HearingDesk$Teams", "size", "I", false)
def tyX9 : Nat → FieldType := fun k => match k with
  | 0 => .array .int
  | 1 => .array .int
  | 2 => .array .int
  | 3 => .array .boolean
  | _ => .int
abbrev wsX90 : List Cond := u_ws RX9 TX9 5
theorem nmX9 : ∀ a, a < 5 → ∀ b, b < 5 → a ≠ b → (TX9 a).2.1 ≠ (TX9 b).2.1 := by decide +kernel
theorem tyX9_ok : ∀ k, k < 5 → parseFieldDescriptor (TX9 k).2.2.1 = some (tyX9 k) := by decide +kernel
def RX10 : String := "HearingDesk$Travel"
def TX10 : u_T := fun k => match k with
  | 0 => ("HearingDesk$Travel", "ways", "[I", true)
  | _ => ("HearingDesk$Travel", "rest", "I", false)
def tyX10 : Nat → FieldType := fun k => match k with
  | 0 => .array .int
  | _ => .int
abbrev wsX100 : List Cond := u_ws RX10 TX10 2
theorem nmX10 : ∀ a, a < 2 → ∀ b, b < 2 → a ≠ b → (TX10 a).2.1 ≠ (TX10 b).2.1 := by decide +kernel
theorem tyX10_ok : ∀ k, k < 2 → parseFieldDescriptor (TX10 k).2.2.1 = some (tyX10 k) := by decide +kernel
def RX11 : String := "HearingDesk"
def TX11 : u_T := fun k => match k with
  | 0 => ("HearingDesk", "travel", "LHearingDesk$Travel;", true)
  | 1 => ("HearingDesk", "people", "LHearingDesk$People;", true)
  | 2 => ("HearingDesk", "papers", "LHearingDesk$Papers;", true)
  | 3 => ("HearingDesk", "docket", "LHearingDesk$Docket;", true)
  | 4 => ("HearingDesk", "found", "LHearingDesk$Teams;", true)
  | 5 => ("HearingDesk", "sheet", "LHearingDesk$DaySheet;", true)
  | 6 => ("HearingDesk", "planner", "LHearingDesk$Planner;", true)
  | 7 => ("HearingDesk", "tape", "LHearingDesk$Tape;", true)
  | 8 => ("HearingDesk", "inquiries", "LHearingDesk$Inquiries;", true)
  | 9 => ("HearingDesk", "text", "LHearingDesk$FeeText;", false)
  | _ => ("HearingDesk", "spare", "LHearingDesk$FeeText;", false)
def tyX11 : Nat → FieldType := fun k => match k with
  | 0 => .object "HearingDesk$Travel"
  | 1 => .object "HearingDesk$People"
  | 2 => .object "HearingDesk$Papers"
  | 3 => .object "HearingDesk$Docket"
  | 4 => .object "HearingDesk$Teams"
  | 5 => .object "HearingDesk$DaySheet"
  | 6 => .object "HearingDesk$Planner"
  | 7 => .object "HearingDesk$Tape"
  | 8 => .object "HearingDesk$Inquiries"
  | 9 => .object "HearingDesk$FeeText"
  | _ => .object "HearingDesk$FeeText"
abbrev wsX110 : List Cond := u_ws RX11 TX11 11
theorem nmX11 : ∀ a, a < 11 → ∀ b, b < 11 → a ≠ b → (TX11 a).2.1 ≠ (TX11 b).2.1 := by decide +kernel
theorem tyX11_ok : ∀ k, k < 11 → parseFieldDescriptor (TX11 k).2.2.1 = some (tyX11 k) := by decide +kernel
def RX12 : String := "HearingDeskModel"
def TX12 : u_T := fun k => match k with
  | 0 => ("HearingDeskModel", "ways", "[I", true)
  | 1 => ("HearingDeskModel", "dialectOf", "[I", true)
  | 2 => ("HearingDeskModel", "persons", "I", false)
  | 3 => ("HearingDeskModel", "home", "[I", true)
  | 4 => ("HearingDeskModel", "papers", "I", false)
  | 5 => ("HearingDeskModel", "paperOf", "[I", true)
  | 6 => ("HearingDeskModel", "paperTongue", "[I", true)
  | 7 => ("HearingDeskModel", "paperGrade", "[I", true)
  | 8 => ("HearingDeskModel", "paperFirst", "[I", true)
  | 9 => ("HearingDeskModel", "paperLast", "[I", true)
  | 10 => ("HearingDeskModel", "isBarred", "[Z", true)
  | 11 => ("HearingDeskModel", "rest", "I", false)
  | 12 => ("HearingDeskModel", "hearings", "I", false)
  | 13 => ("HearingDeskModel", "caseOf", "[I", true)
  | 14 => ("HearingDeskModel", "dayOf", "[I", true)
  | 15 => ("HearingDeskModel", "begin", "[I", true)
  | 16 => ("HearingDeskModel", "length", "[I", true)
  | 17 => ("HearingDeskModel", "town", "[I", true)
  | 18 => ("HearingDeskModel", "tongueOf", "[I", true)
  | 19 => ("HearingDeskModel", "gradeOf", "[I", true)
  | 20 => ("HearingDeskModel", "cancelled", "[I", true)
  | 21 => ("HearingDeskModel", "seatOne", "[I", true)
  | 22 => ("HearingDeskModel", "seatTwo", "[I", true)
  | 23 => ("HearingDeskModel", "seatBy", "[I", true)
  | 24 => ("HearingDeskModel", "teamOne", "[I", true)
  | 25 => ("HearingDeskModel", "teamTwo", "[I", true)
  | 26 => ("HearingDeskModel", "teamBy", "[I", true)
  | 27 => ("HearingDeskModel", "teamMany", "[I", true)
  | 28 => ("HearingDeskModel", "many", "I", false)
  | 29 => ("HearingDeskModel", "slot", "[I", true)
  | 30 => ("HearingDeskModel", "choice", "[I", true)
  | 31 => ("HearingDeskModel", "best", "[I", true)
  | 32 => ("HearingDeskModel", "mine", "[I", true)
  | 33 => ("HearingDeskModel", "mineMany", "I", false)
  | 34 => ("HearingDeskModel", "bestWithout", "I", false)
  | 35 => ("HearingDeskModel", "bestChanges", "I", false)
  | 36 => ("HearingDeskModel", "bestJourneys", "I", false)
  | 37 => ("HearingDeskModel", "hasPlanned", "Z", false)
  | 38 => ("HearingDeskModel", "plannedMany", "I", false)
  | 39 => ("HearingDeskModel", "tape", "[B", true)
  | 40 => ("HearingDeskModel", "taped", "I", false)
  | 41 => ("HearingDeskModel", "next", "I", false)
  | 42 => ("HearingDeskModel", "fault", "I", false)
  | 43 => ("HearingDeskModel", "clauses", "I", false)
  | 44 => ("HearingDeskModel", "clauseKind", "[I", true)
  | 45 => ("HearingDeskModel", "clauseFrom", "[I", true)
  | 46 => ("HearingDeskModel", "clauseN", "[I", true)
  | 47 => ("HearingDeskModel", "clauseM", "[I", true)
  | 48 => ("HearingDeskModel", "read", "I", false)
  | 49 => ("HearingDeskModel", "readKind", "[I", true)
  | 50 => ("HearingDeskModel", "readFrom", "[I", true)
  | 51 => ("HearingDeskModel", "readN", "[I", true)
  | 52 => ("HearingDeskModel", "readM", "[I", true)
  | 53 => ("HearingDeskModel", "words", "[B", true)
  | 54 => ("HearingDeskModel", "said", "I", false)
  | 55 => ("HearingDeskModel", "asked", "I", false)
  | 56 => ("HearingDeskModel", "askedHearing", "[I", true)
  | 57 => ("HearingDeskModel", "askedPerson", "[I", true)
  | 58 => ("HearingDeskModel", "askedOn", "[I", true)
  | 59 => ("HearingDeskModel", "answeredOn", "[I", true)
  | 60 => ("HearingDeskModel", "saidYes", "[Z", true)
  | _ => ("HearingDeskModel", "whyOf", "[I", true)
def tyX12 : Nat → FieldType := fun k => match k with
  | 0 => .array .int
  | 1 => .array .int
  | 2 => .int
  | 3 => .array .int
  | 4 => .int
  | 5 => .array .int
  | 6 => .array .int
  | 7 => .array .int
  | 8 => .array .int
  | 9 => .array .int
  | 10 => .array .boolean
  | 11 => .int
  | 12 => .int
  | 13 => .array .int
  | 14 => .array .int
  | 15 => .array .int
  | 16 => .array .int
  | 17 => .array .int
  | 18 => .array .int
  | 19 => .array .int
  | 20 => .array .int
  | 21 => .array .int
  | 22 => .array .int
  | 23 => .array .int
  | 24 => .array .int
  | 25 => .array .int
  | 26 => .array .int
  | 27 => .array .int
  | 28 => .int
  | 29 => .array .int
  | 30 => .array .int
  | 31 => .array .int
  | 32 => .array .int
  | 33 => .int
  | 34 => .int
  | 35 => .int
  | 36 => .int
  | 37 => .boolean
  | 38 => .int
  | 39 => .array .byte
  | 40 => .int
  | 41 => .int
  | 42 => .int
  | 43 => .int
  | 44 => .array .int
  | 45 => .array .int
  | 46 => .array .int
  | 47 => .array .int
  | 48 => .int
  | 49 => .array .int
  | 50 => .array .int
  | 51 => .array .int
  | 52 => .array .int
  | 53 => .array .byte
  | 54 => .int
  | 55 => .int
  | 56 => .array .int
  | 57 => .array .int
  | 58 => .array .int
  | 59 => .array .int
  | 60 => .array .boolean
  | _ => .array .int
abbrev wsX120 : List Cond := u_ws RX12 TX12 62
theorem nmX12 : ∀ a, a < 62 → ∀ b, b < 62 → a ≠ b → (TX12 a).2.1 ≠ (TX12 b).2.1 := by decide +kernel
theorem tyX12_ok : ∀ k, k < 62 → parseFieldDescriptor (TX12 k).2.2.1 = some (tyX12 k) := by decide +kernel
abbrev cl13 : List vw_C := [(RX0, TX0, 3), (RX1, TX1, 2), (RX2, TX2, 5), (RX3, TX3, 11), (RX4, TX4, 7), (RX5, TX5, 8), (RX6, TX6, 3), (RX7, TX7, 12), (RX8, TX8, 4), (RX9, TX9, 5), (RX10, TX10, 2), (RX11, TX11, 11), (RX12, TX12, 62)]
def tyF (c : Nat) : Nat → FieldType := match c with
  | 0 => tyX0
  | 1 => tyX1
  | 2 => tyX2
  | 3 => tyX3
  | 4 => tyX4
  | 5 => tyX5
  | 6 => tyX6
  | 7 => tyX7
  | 8 => tyX8
  | 9 => tyX9
  | 10 => tyX10
  | 11 => tyX11
  | _ => tyX12
def ownL : List String := ["HearingDesk$DaySheet", "HearingDesk$Docket", "HearingDesk$FeeText", "HearingDesk$Hearing", "HearingDesk$Inquiries", "HearingDesk$Papers", "HearingDesk$People", "HearingDesk$Planner", "HearingDesk$Tape", "HearingDesk$Teams", "HearingDesk$Travel", "HearingDesk", "HearingDeskModel", "HearingDeskLaw", "java/util/Arrays"]
def ownF (c : Nat) : String := ownL.getD c ""
def ftL : List (List Nat) := [[53, 50, 0], [53, 0], [50, 50, 50, 50, 0], [0, 0, 0, 0, 0, 0, 0, 7, 0, 0, 0], [50, 50, 50, 50, 50, 50, 0], [50, 50, 50, 50, 50, 50, 50, 0], [50, 52, 0], [10, 54, 52, 50, 50, 50, 7, 7, 0, 0, 0, 0], [51, 0, 0, 0], [50, 50, 50, 52, 0], [50, 0], [20, 16, 15, 11, 19, 10, 17, 18, 14, 12, 12], [50, 50, 0, 50, 0, 50, 50, 50, 50, 50, 52, 0, 0, 50, 50, 50, 50, 50, 50, 50, 50, 50, 50, 50, 50, 50, 50, 50, 0, 50, 50, 50, 50, 0, 0, 0, 0, 7, 0, 51, 0, 0, 0, 0, 50, 50, 50, 50, 0, 50, 50, 50, 50, 51, 0, 0, 50, 50, 50, 50, 52, 50]]
def ftF (c j : Nat) : Nat := (ftL.getD c []).getD j 0
def nfL : List Nat := [3, 2, 5, 11, 7, 8, 3, 12, 4, 5, 2, 11, 62]
def nfF (c : Nat) : Nat := nfL.getD c 0
def shL : List Nat := [21, 20, 50, 16, 50, 52, 15, 50, 50, 50, 50, 50, 50, 50, 11, 53, 19, 50, 50, 50, 52, 10, 53, 50, 17, 54, 19, 50, 50, 50, 52, 19, 50, 50, 50, 52, 19, 50, 50, 50, 52, 19, 50, 50, 50, 52, 52, 50, 50, 50, 18, 51, 14, 50, 50, 50, 50, 50, 50, 12, 50, 50, 50, 50, 12, 50, 50, 50, 50, 22, 50, 50, 50, 50, 50, 50, 50, 50, 52, 50, 50, 50, 50, 50, 50, 50, 50, 50, 50, 50, 50, 50, 50, 50, 50, 50, 50, 50, 51, 50, 50, 50, 50, 50, 50, 50, 50, 51, 50, 50, 50, 50, 52, 50, 13, 13, 13, 13, 13, 13, 13, 13, 13, 13, 13, 13, 13, 13, 13, 13, 13, 13, 13, 13, 13, 13, 13, 13]
def shF (k : Nat) : Nat := shL.getD k 0
def lnL : List Int := [0, 0, 36, 0, 5, 100, 0, 10, 40, 40, 40, 40, 40, 10, 0, 24, 0, 20, 20, 20, 50, 0, 4, 4, 0, 4, 0, 20, 20, 20, 50, 0, 20, 20, 20, 50, 0, 20, 20, 20, 50, 0, 20, 20, 20, 50, 16, 80, 4, 4, 0, 600, 0, 60, 60, 60, 60, 60, 60, 0, 60, 60, 60, 60, 0, 60, 60, 60, 60, 0, 36, 10, 6, 40, 40, 40, 40, 40, 120, 24, 24, 24, 24, 24, 24, 24, 24, 24, 24, 24, 150, 150, 150, 5, 4, 4, 4, 24, 600, 64, 64, 64, 64, 64, 64, 64, 64, 37, 60, 60, 60, 60, 60, 60, 0, 0, 0, 0, 0, 0, 0, 0, 0, 0, 0, 0, 0, 0, 0, 0, 0, 0, 0, 0, 0, 0, 0, 0]
def lnF (k : Int) : Int := lnL.getD k.toNat 0
def strL : List (List Int) := [[102, 114, 111, 109], [108, 101, 97, 115, 116], [119, 97, 121], [112, 97, 105, 114], [114, 101, 108, 97, 121], [108, 97, 116, 101], [114, 97, 116, 101]]
def slF (k : Int) : Int := (strL.getD k.toNat []).length
def scF (k i : Int) : Int := (strL.getD k.toNat []).getD i.toNat 0
def mtL : List (MethodName × ByteArray × Nat × Option FieldType × Nat) := [
  (⟨"HearingDesk$DaySheet", "<init>", "()V"⟩, prog_2_method_1_code, 1, (none : Option FieldType), 0),
  (⟨"HearingDesk$DaySheet", "gather", "(LHearingDesk$Docket;I)V"⟩, prog_2_method_2_code, 5, (none : Option FieldType), 0),
  (⟨"HearingDesk$DaySheet", "placeByBegin", "(I)V"⟩, prog_2_method_3_code, 5, (none : Option FieldType), 0),
  (⟨"HearingDesk$DaySheet", "get", "(I)LHearingDesk$Hearing;"⟩, prog_2_method_4_code, 2, (some (FieldType.object "HearingDesk$Hearing")), 0),
  (⟨"HearingDesk$DaySheet", "seatedSet", "(I)I"⟩, prog_2_method_5_code, 5, (some FieldType.int), 0),
  (⟨"HearingDesk$DaySheet", "holds", "(ILHearingDesk$Travel;)Z"⟩, prog_2_method_6_code, 6, (some FieldType.boolean), 0),
  (⟨"HearingDesk$DaySheet", "tripOf", "(IILHearingDesk$Travel;)I"⟩, prog_2_method_7_code, 8, (some FieldType.int), 0),
  (⟨"HearingDesk$DaySheet", "memberAt", "(II)LHearingDesk$Hearing;"⟩, prog_2_method_8_code, 4, (some (FieldType.object "HearingDesk$Hearing")), 0),
  (⟨"HearingDesk$Docket", "<init>", "()V"⟩, prog_3_method_1_code, 1, (none : Option FieldType), 1),
  (⟨"HearingDesk$Docket", "isFull", "()Z"⟩, prog_3_method_2_code, 1, (some FieldType.boolean), 1),
  (⟨"HearingDesk$Docket", "add", "(LHearingDesk$Hearing;)I"⟩, prog_3_method_3_code, 2, (some FieldType.int), 1),
  (⟨"HearingDesk$Docket", "get", "(I)LHearingDesk$Hearing;"⟩, prog_3_method_4_code, 2, (some (FieldType.object "HearingDesk$Hearing")), 1),
  (⟨"HearingDesk$Docket", "liveOn", "(ILHearingDesk$Hearing;)I"⟩, prog_3_method_5_code, 6, (some FieldType.int), 1),
  (⟨"HearingDesk$Docket", "cancelledSize", "()I"⟩, prog_3_method_6_code, 4, (some FieldType.int), 1),
  (⟨"HearingDesk$FeeText", "<init>", "()V"⟩, prog_4_method_1_code, 1, (none : Option FieldType), 2),
  (⟨"HearingDesk$FeeText", "add", "(IIII)V"⟩, prog_4_method_2_code, 5, (none : Option FieldType), 2),
  (⟨"HearingDesk$FeeText", "told", "(II)I"⟩, prog_4_method_3_code, 6, (some FieldType.int), 2),
  (⟨"HearingDesk$FeeText", "earnedIn", "(LHearingDesk$Hearing;)J"⟩, prog_4_method_4_code, 7, (some FieldType.long), 2),
  (⟨"HearingDesk$Hearing", "<init>", "(IIIII)V"⟩, prog_5_method_1_code, 6, (none : Option FieldType), 3),
  (⟨"HearingDesk$Hearing", "isLong", "()Z"⟩, prog_5_method_2_code, 1, (some FieldType.boolean), 3),
  (⟨"HearingDesk$Hearing", "isSeated", "(I)Z"⟩, prog_5_method_3_code, 2, (some FieldType.boolean), 3),
  (⟨"HearingDesk$Hearing", "changesTo", "(II)I"⟩, prog_5_method_4_code, 3, (some FieldType.int), 3),
  (⟨"HearingDesk$Hearing", "leaves", "(III)I"⟩, prog_5_method_5_code, 3, (some FieldType.int), 3),
  (⟨"HearingDesk$Inquiries", "<init>", "()V"⟩, prog_6_method_1_code, 1, (none : Option FieldType), 4),
  (⟨"HearingDesk$Inquiries", "add", "(III)I"⟩, prog_6_method_2_code, 4, (some FieldType.int), 4),
  (⟨"HearingDesk$Inquiries", "close", "(IIZI)Z"⟩, prog_6_method_3_code, 5, (some FieldType.boolean), 4),
  (⟨"HearingDesk$Inquiries", "isAskedBy", "(II)Z"⟩, prog_6_method_4_code, 3, (some FieldType.boolean), 4),
  (⟨"HearingDesk$Inquiries", "isAnsweredBy", "(II)Z"⟩, prog_6_method_5_code, 3, (some FieldType.boolean), 4),
  (⟨"HearingDesk$Inquiries", "refusedBy", "(II)I"⟩, prog_6_method_6_code, 6, (some FieldType.int), 4),
  (⟨"HearingDesk$Papers", "<init>", "()V"⟩, prog_7_method_1_code, 1, (none : Option FieldType), 5),
  (⟨"HearingDesk$Papers", "add", "(IIIII)I"⟩, prog_7_method_2_code, 6, (some FieldType.int), 5),
  (⟨"HearingDesk$Papers", "shorten", "(II)Z"⟩, prog_7_method_3_code, 3, (some FieldType.boolean), 5),
  (⟨"HearingDesk$Papers", "gradesOf", "(II)[I"⟩, prog_7_method_4_code, 4, (some (FieldType.array FieldType.int)), 5),
  (⟨"HearingDesk$People", "<init>", "()V"⟩, prog_8_method_1_code, 1, (none : Option FieldType), 6),
  (⟨"HearingDesk$People", "has", "(I)Z"⟩, prog_8_method_2_code, 2, (some FieldType.boolean), 6),
  (⟨"HearingDesk$People", "add", "(I)I"⟩, prog_8_method_3_code, 2, (some FieldType.int), 6),
  (⟨"HearingDesk$People", "homeOf", "(I)I"⟩, prog_8_method_4_code, 2, (some FieldType.int), 6),
  (⟨"HearingDesk$People", "isBarred", "(II)Z"⟩, prog_8_method_5_code, 3, (some FieldType.boolean), 6),
  (⟨"HearingDesk$People", "setBarred", "(IIZ)Z"⟩, prog_8_method_6_code, 4, (some FieldType.boolean), 6),
  (⟨"HearingDesk$Planner", "<init>", "(LHearingDesk$DaySheet;)V"⟩, prog_9_method_1_code, 3, (none : Option FieldType), 7),
  (⟨"HearingDesk$Planner", "prepare", "(LHearingDesk$People;LHearingDesk$Papers;LHearingDesk$Travel;)V"⟩, prog_9_method_2_code, 6, (none : Option FieldType), 7),
  (⟨"HearingDesk$Planner", "layOut", "(Z)V"⟩, prog_9_method_3_code, 4, (none : Option FieldType), 7),
  (⟨"HearingDesk$Planner", "search", "(LHearingDesk$Planner;IIII)V"⟩, prog_9_method_4_code, 8, (none : Option FieldType), 7),
  (⟨"HearingDesk$Planner", "isPastBest", "(II)Z"⟩, prog_9_method_5_code, 3, (some FieldType.boolean), 7),
  (⟨"HearingDesk$Planner", "setsOf", "(II)I"⟩, prog_9_method_6_code, 3, (some FieldType.int), 7),
  (⟨"HearingDesk$Planner", "setBit", "(II)I"⟩, prog_9_method_7_code, 2, (some FieldType.int), 7),
  (⟨"HearingDesk$Planner", "changesAt", "(II)I"⟩, prog_9_method_8_code, 4, (some FieldType.int), 7),
  (⟨"HearingDesk$Planner", "weigh", "(III)V"⟩, prog_9_method_9_code, 7, (none : Option FieldType), 7),
  (⟨"HearingDesk$Planner", "isBetter", "(III)Z"⟩, prog_9_method_10_code, 4, (some FieldType.boolean), 7),
  (⟨"HearingDesk$Tape", "<init>", "()V"⟩, prog_10_method_1_code, 1, (none : Option FieldType), 8),
  (⟨"HearingDesk$Tape", "hasRoomFor", "(I)Z"⟩, prog_10_method_2_code, 2, (some FieldType.boolean), 8),
  (⟨"HearingDesk$Tape", "append", "(I)V"⟩, prog_10_method_3_code, 3, (none : Option FieldType), 8),
  (⟨"HearingDesk$Tape", "readInto", "(LHearingDesk$FeeText;)I"⟩, prog_10_method_4_code, 4, (some FieldType.int), 8),
  (⟨"HearingDesk$Tape", "readClause", "(LHearingDesk$FeeText;)V"⟩, prog_10_method_5_code, 7, (none : Option FieldType), 8),
  (⟨"HearingDesk$Tape", "readSemicolon", "()Z"⟩, prog_10_method_6_code, 1, (some FieldType.boolean), 8),
  (⟨"HearingDesk$Tape", "readFrom", "()V"⟩, prog_10_method_7_code, 2, (none : Option FieldType), 8),
  (⟨"HearingDesk$Tape", "readKind", "()I"⟩, prog_10_method_8_code, 3, (some FieldType.int), 8),
  (⟨"HearingDesk$Tape", "readNumber", "(II)I"⟩, prog_10_method_9_code, 5, (some FieldType.int), 8),
  (⟨"HearingDesk$Tape", "skipBlanks", "()V"⟩, prog_10_method_10_code, 1, (none : Option FieldType), 8),
  (⟨"HearingDesk$Tape", "passLetters", "()I"⟩, prog_10_method_11_code, 2, (some FieldType.int), 8),
  (⟨"HearingDesk$Tape", "isWord", "(Ljava/lang/String;I)Z"⟩, prog_10_method_12_code, 4, (some FieldType.boolean), 8),
  (⟨"HearingDesk$Tape", "byteAt", "(I)I"⟩, prog_10_method_13_code, 2, (some FieldType.int), 8),
  (⟨"HearingDesk$Tape", "blame", "(II)V"⟩, prog_10_method_14_code, 3, (none : Option FieldType), 8),
  (⟨"HearingDesk$Tape", "isDigit", "(I)Z"⟩, prog_10_method_15_code, 1, (some FieldType.boolean), 8),
  (⟨"HearingDesk$Tape", "isLetter", "(I)Z"⟩, prog_10_method_16_code, 1, (some FieldType.boolean), 8),
  (⟨"HearingDesk$Tape", "wordOf", "(I)Ljava/lang/String;"⟩, prog_10_method_17_code, 1, (some (FieldType.object "java/lang/String")), 8),
  (⟨"HearingDesk$Tape", "lowest", "(I)I"⟩, prog_10_method_18_code, 1, (some FieldType.int), 8),
  (⟨"HearingDesk$Tape", "highest", "(I)I"⟩, prog_10_method_19_code, 1, (some FieldType.int), 8),
  (⟨"HearingDesk$Teams", "<init>", "()V"⟩, prog_11_method_1_code, 1, (none : Option FieldType), 9),
  (⟨"HearingDesk$Teams", "find", "(LHearingDesk$Hearing;LHearingDesk$People;LHearingDesk$Papers;)V"⟩, prog_11_method_2_code, 5, (none : Option FieldType), 9),
  (⟨"HearingDesk$Teams", "firstOf", "(I)I"⟩, prog_11_method_3_code, 2, (some FieldType.int), 9),
  (⟨"HearingDesk$Teams", "secondOf", "(I)I"⟩, prog_11_method_4_code, 2, (some FieldType.int), 9),
  (⟨"HearingDesk$Teams", "relayOf", "(I)I"⟩, prog_11_method_5_code, 2, (some FieldType.int), 9),
  (⟨"HearingDesk$Teams", "has", "(I)Z"⟩, prog_11_method_6_code, 2, (some FieldType.boolean), 9),
  (⟨"HearingDesk$Teams", "markAble", "(ILHearingDesk$Hearing;LHearingDesk$People;LHearingDesk$Papers;)V"⟩, prog_11_method_7_code, 8, (none : Option FieldType), 9),
  (⟨"HearingDesk$Teams", "isAble", "(III)Z"⟩, prog_11_method_8_code, 4, (some FieldType.boolean), 9),
  (⟨"HearingDesk$Teams", "addPairs", "(I)V"⟩, prog_11_method_9_code, 4, (none : Option FieldType), 9),
  (⟨"HearingDesk$Teams", "addSingles", "(I)V"⟩, prog_11_method_10_code, 3, (none : Option FieldType), 9),
  (⟨"HearingDesk$Teams", "addRelays", "(I)V"⟩, prog_11_method_11_code, 5, (none : Option FieldType), 9),
  (⟨"HearingDesk$Teams", "relayTongue", "(III)I"⟩, prog_11_method_12_code, 5, (some FieldType.int), 9),
  (⟨"HearingDesk$Teams", "add", "(III)V"⟩, prog_11_method_13_code, 4, (none : Option FieldType), 9),
  (⟨"HearingDesk$Travel", "<init>", "()V"⟩, prog_12_method_1_code, 2, (none : Option FieldType), 10),
  (⟨"HearingDesk$Travel", "between", "(II)I"⟩, prog_12_method_2_code, 3, (some FieldType.int), 10),
  (⟨"HearingDesk$Travel", "setWay", "(III)V"⟩, prog_12_method_3_code, 4, (none : Option FieldType), 10),
  (⟨"HearingDesk$Travel", "allows", "(LHearingDesk$Hearing;LHearingDesk$Hearing;)Z"⟩, prog_12_method_4_code, 4, (some FieldType.boolean), 10),
  (⟨"HearingDesk", "<init>", "()V"⟩, prog_1_method_1_code, 1, (none : Option FieldType), 11),
  (⟨"HearingDesk", "way", "(III)I"⟩, prog_1_method_2_code, 5, (some FieldType.int), 11),
  (⟨"HearingDesk", "dialect", "(II)Z"⟩, prog_1_method_3_code, 3, (some FieldType.boolean), 11),
  (⟨"HearingDesk", "person", "(I)I"⟩, prog_1_method_4_code, 2, (some FieldType.int), 11),
  (⟨"HearingDesk", "paper", "(IIIII)I"⟩, prog_1_method_5_code, 7, (some FieldType.int), 11),
  (⟨"HearingDesk", "withdraw", "(II)Z"⟩, prog_1_method_6_code, 3, (some FieldType.boolean), 11),
  (⟨"HearingDesk", "grade", "(III)I"⟩, prog_1_method_7_code, 4, (some FieldType.int), 11),
  (⟨"HearingDesk", "bar", "(IIZ)Z"⟩, prog_1_method_8_code, 4, (some FieldType.boolean), 11),
  (⟨"HearingDesk", "rest", "(I)I"⟩, prog_1_method_9_code, 3, (some FieldType.int), 11),
  (⟨"HearingDesk", "hearing", "(IIIIIII)I"⟩, prog_1_method_10_code, 10, (some FieldType.int), 11),
  (⟨"HearingDesk", "move", "(III)Z"⟩, prog_1_method_11_code, 5, (some FieldType.boolean), 11),
  (⟨"HearingDesk", "cancel", "(II)Z"⟩, prog_1_method_12_code, 4, (some FieldType.boolean), 11),
  (⟨"HearingDesk", "teams", "(I)I"⟩, prog_1_method_13_code, 3, (some FieldType.int), 11),
  (⟨"HearingDesk", "team", "(III)I"⟩, prog_1_method_14_code, 5, (some FieldType.int), 11),
  (⟨"HearingDesk", "plan", "(IZ)I"⟩, prog_1_method_15_code, 3, (some FieldType.int), 11),
  (⟨"HearingDesk", "planned", "(I)I"⟩, prog_1_method_16_code, 2, (some FieldType.int), 11),
  (⟨"HearingDesk", "seat", "(II)I"⟩, prog_1_method_17_code, 4, (some FieldType.int), 11),
  (⟨"HearingDesk", "turn", "(II)I"⟩, prog_1_method_18_code, 5, (some FieldType.int), 11),
  (⟨"HearingDesk", "journeys", "(II)I"⟩, prog_1_method_19_code, 3, (some FieldType.int), 11),
  (⟨"HearingDesk", "feed", "(IIIII)I"⟩, prog_1_method_20_code, 6, (some FieldType.int), 11),
  (⟨"HearingDesk", "end", "(I)I"⟩, prog_1_method_21_code, 2, (some FieldType.int), 11),
  (⟨"HearingDesk", "fees", "()I"⟩, prog_1_method_22_code, 3, (some FieldType.int), 11),
  (⟨"HearingDesk", "tells", "(II)I"⟩, prog_1_method_23_code, 4, (some FieldType.int), 11),
  (⟨"HearingDesk", "fee", "(II)J"⟩, prog_1_method_24_code, 7, (some FieldType.long), 11),
  (⟨"HearingDesk", "ask", "(III)I"⟩, prog_1_method_25_code, 4, (some FieldType.int), 11),
  (⟨"HearingDesk", "answer", "(IIZI)Z"⟩, prog_1_method_26_code, 5, (some FieldType.boolean), 11),
  (⟨"HearingDesk", "known", "(III)I"⟩, prog_1_method_27_code, 5, (some FieldType.int), 11),
  (⟨"HearingDesk", "refusals", "(II)I"⟩, prog_1_method_28_code, 4, (some FieldType.int), 11),
  (⟨"HearingDesk", "count", "(I)I"⟩, prog_1_method_29_code, 2, (some FieldType.int), 11),
  (⟨"HearingDesk", "within", "(III)Z"⟩, prog_1_method_30_code, 3, (some FieldType.boolean), 11),
  (⟨"HearingDesk", "isDay", "(I)Z"⟩, prog_1_method_31_code, 1, (some FieldType.boolean), 11),
  (⟨"HearingDesk", "isTown", "(I)Z"⟩, prog_1_method_32_code, 1, (some FieldType.boolean), 11),
  (⟨"HearingDesk", "isTongue", "(I)Z"⟩, prog_1_method_33_code, 1, (some FieldType.boolean), 11),
  (⟨"HearingDesk", "isGrade", "(I)Z"⟩, prog_1_method_34_code, 1, (some FieldType.boolean), 11),
  (⟨"HearingDesk", "isCase", "(I)Z"⟩, prog_1_method_35_code, 1, (some FieldType.boolean), 11),
  (⟨"HearingDesk", "isSpan", "(III)Z"⟩, prog_1_method_36_code, 3, (some FieldType.boolean), 11),
  (⟨"HearingDeskModel", "<init>", "()V"⟩, prog_14_method_1_code, 3, (none : Option FieldType), 12),
  (⟨"HearingDeskModel", "in", "(III)Z"⟩, prog_14_method_2_code, 3, (some FieldType.boolean), 12),
  (⟨"HearingDeskModel", "way", "(III)I"⟩, prog_14_method_3_code, 5, (some FieldType.int), 12),
  (⟨"HearingDeskModel", "dialect", "(II)Z"⟩, prog_14_method_4_code, 3, (some FieldType.boolean), 12),
  (⟨"HearingDeskModel", "person", "(I)I"⟩, prog_14_method_5_code, 2, (some FieldType.int), 12),
  (⟨"HearingDeskModel", "isPerson", "(I)Z"⟩, prog_14_method_6_code, 2, (some FieldType.boolean), 12),
  (⟨"HearingDeskModel", "isDay", "(I)Z"⟩, prog_14_method_7_code, 1, (some FieldType.boolean), 12),
  (⟨"HearingDeskModel", "paper", "(IIIII)I"⟩, prog_14_method_8_code, 6, (some FieldType.int), 12),
  (⟨"HearingDeskModel", "withdraw", "(II)Z"⟩, prog_14_method_9_code, 3, (some FieldType.boolean), 12),
  (⟨"HearingDeskModel", "gradeIn", "(III)I"⟩, prog_14_method_10_code, 8, (some FieldType.int), 12),
  (⟨"HearingDeskModel", "grade", "(III)I"⟩, prog_14_method_11_code, 4, (some FieldType.int), 12),
  (⟨"HearingDeskModel", "bar", "(IIZ)Z"⟩, prog_14_method_12_code, 5, (some FieldType.boolean), 12),
  (⟨"HearingDeskModel", "rest", "(I)I"⟩, prog_14_method_13_code, 3, (some FieldType.int), 12),
  (⟨"HearingDeskModel", "ofDay", "(II)I"⟩, prog_14_method_14_code, 5, (some FieldType.int), 12),
  (⟨"HearingDeskModel", "hearing", "(IIIIIII)I"⟩, prog_14_method_15_code, 9, (some FieldType.int), 12),
  (⟨"HearingDeskModel", "isHearing", "(I)Z"⟩, prog_14_method_16_code, 2, (some FieldType.boolean), 12),
  (⟨"HearingDeskModel", "move", "(III)Z"⟩, prog_14_method_17_code, 4, (some FieldType.boolean), 12),
  (⟨"HearingDeskModel", "cancel", "(II)Z"⟩, prog_14_method_18_code, 3, (some FieldType.boolean), 12),
  (⟨"HearingDeskModel", "isOf", "(III)Z"⟩, prog_14_method_19_code, 4, (some FieldType.boolean), 12),
  (⟨"HearingDeskModel", "isFit", "(II)Z"⟩, prog_14_method_20_code, 3, (some FieldType.boolean), 12),
  (⟨"HearingDeskModel", "comes", "(IIII)V"⟩, prog_14_method_21_code, 6, (none : Option FieldType), 12),
  (⟨"HearingDeskModel", "relay", "(III)I"⟩, prog_14_method_22_code, 5, (some FieldType.int), 12),
  (⟨"HearingDeskModel", "teamsOf", "(II)V"⟩, prog_14_method_23_code, 7, (none : Option FieldType), 12),
  (⟨"HearingDeskModel", "teams", "(I)I"⟩, prog_14_method_24_code, 2, (some FieldType.int), 12),
  (⟨"HearingDeskModel", "team", "(III)I"⟩, prog_14_method_25_code, 4, (some FieldType.int), 12),
  (⟨"HearingDeskModel", "joins", "(I)V"⟩, prog_14_method_26_code, 3, (none : Option FieldType), 12),
  (⟨"HearingDeskModel", "journeysOf", "(I)I"⟩, prog_14_method_27_code, 5, (some FieldType.int), 12),
  (⟨"HearingDeskModel", "holds", "()Z"⟩, prog_14_method_28_code, 5, (some FieldType.boolean), 12),
  (⟨"HearingDeskModel", "sits", "(II)Z"⟩, prog_14_method_29_code, 4, (some FieldType.boolean), 12),
  (⟨"HearingDeskModel", "collects", "(II)V"⟩, prog_14_method_30_code, 4, (none : Option FieldType), 12),
  (⟨"HearingDeskModel", "clashes", "(I)Z"⟩, prog_14_method_31_code, 6, (some FieldType.boolean), 12),
  (⟨"HearingDeskModel", "changes", "()I"⟩, prog_14_method_32_code, 4, (some FieldType.int), 12),
  (⟨"HearingDeskModel", "weighs", "(IZ)V"⟩, prog_14_method_33_code, 7, (none : Option FieldType), 12),
  (⟨"HearingDeskModel", "plan", "(IZ)I"⟩, prog_14_method_34_code, 8, (some FieldType.int), 12),
  (⟨"HearingDeskModel", "planned", "(I)I"⟩, prog_14_method_35_code, 2, (some FieldType.int), 12),
  (⟨"HearingDeskModel", "seat", "(II)I"⟩, prog_14_method_36_code, 3, (some FieldType.int), 12),
  (⟨"HearingDeskModel", "turn", "(II)I"⟩, prog_14_method_37_code, 3, (some FieldType.int), 12),
  (⟨"HearingDeskModel", "isSeated", "(II)Z"⟩, prog_14_method_38_code, 3, (some FieldType.boolean), 12),
  (⟨"HearingDeskModel", "journeys", "(II)I"⟩, prog_14_method_39_code, 4, (some FieldType.int), 12),
  (⟨"HearingDeskModel", "four", "(I)V"⟩, prog_14_method_40_code, 3, (none : Option FieldType), 12),
  (⟨"HearingDeskModel", "feed", "(IIIII)I"⟩, prog_14_method_41_code, 6, (some FieldType.int), 12),
  (⟨"HearingDeskModel", "end", "(I)I"⟩, prog_14_method_42_code, 2, (some FieldType.int), 12),
  (⟨"HearingDeskModel", "see", "()I"⟩, prog_14_method_43_code, 1, (some FieldType.int), 12),
  (⟨"HearingDeskModel", "fails", "(II)Z"⟩, prog_14_method_44_code, 3, (some FieldType.boolean), 12),
  (⟨"HearingDeskModel", "word", "()I"⟩, prog_14_method_45_code, 6, (some FieldType.int), 12),
  (⟨"HearingDeskModel", "number", "(II)Z"⟩, prog_14_method_46_code, 7, (some FieldType.boolean), 12),
  (⟨"HearingDeskModel", "clause", "()Z"⟩, prog_14_method_47_code, 8, (some FieldType.boolean), 12),
  (⟨"HearingDeskModel", "fees", "()I"⟩, prog_14_method_48_code, 3, (some FieldType.int), 12),
  (⟨"HearingDeskModel", "clauseOf", "(II)I"⟩, prog_14_method_49_code, 5, (some FieldType.int), 12),
  (⟨"HearingDeskModel", "tellsOf", "(II)I"⟩, prog_14_method_50_code, 4, (some FieldType.int), 12),
  (⟨"HearingDeskModel", "tells", "(II)I"⟩, prog_14_method_51_code, 3, (some FieldType.int), 12),
  (⟨"HearingDeskModel", "fee", "(II)J"⟩, prog_14_method_52_code, 10, (some FieldType.long), 12),
  (⟨"HearingDeskModel", "ask", "(III)I"⟩, prog_14_method_53_code, 4, (some FieldType.int), 12),
  (⟨"HearingDeskModel", "answer", "(IIZI)Z"⟩, prog_14_method_54_code, 5, (some FieldType.boolean), 12),
  (⟨"HearingDeskModel", "known", "(III)I"⟩, prog_14_method_55_code, 5, (some FieldType.int), 12),
  (⟨"HearingDeskModel", "refusals", "(II)I"⟩, prog_14_method_56_code, 5, (some FieldType.int), 12),
  (⟨"HearingDeskModel", "count", "(I)I"⟩, prog_14_method_57_code, 4, (some FieldType.int), 12),
  (⟨"java/util/Arrays", "fill", "([II)V"⟩, prog_20_method_103_code, 4, (none : Option FieldType), 14),
  (⟨"HearingDeskLaw", "law", "([I)Z"⟩, code, 4, (some .boolean), 13)]
def mtF (m : Nat) : MethodName × ByteArray × Nat × Option FieldType × Nat := mtL.getD m (⟨"", "", ""⟩, ⟨#[]⟩, 0, none, 0)
def myF (m : Nat) : MethodName := (mtF m).1
def mcF (m : Nat) : ByteArray := (mtF m).2.1
def mlF (m : Nat) : Nat := (mtF m).2.2.1
def mrF (m : Nat) : Option FieldType := (mtF m).2.2.2.1
def moF (m : Nat) : Nat := (mtF m).2.2.2.2
/-- does the method keep longs in its locals -/
def mgL : List Nat := [17, 108, 172]
