/-! Printed by wip/gen/tab.py: the classes' fields, the methods' instructions, where the cells lie. -/
def pF0 : u_T := fun k => match k with
  | 0 => ("WorkMeter$Calendar", "counts", "[I", true)
  | 1 => ("WorkMeter$Calendar", "seconds", "[I", true)
  | 2 => ("WorkMeter$Calendar", "tariffs", "[I", true)
  | 3 => ("WorkMeter$Calendar", "begins", "[I", true)
  | 4 => ("WorkMeter$Calendar", "weeks", "[I", true)
  | 5 => ("WorkMeter$Calendar", "specialDays", "[I", true)
  | 6 => ("WorkMeter$Calendar", "specialTables", "[I", true)
  | _ => ("WorkMeter$Calendar", "specials", "I", false)
def pY0 : Nat → FieldType := fun k => match k with
  | 0 => .array .int
  | 1 => .array .int
  | 2 => .array .int
  | 3 => .array .int
  | 4 => .array .int
  | 5 => .array .int
  | 6 => .array .int
  | _ => .int
def pF1 : u_T := fun k => match k with
  | 0 => ("WorkMeter$CalendarText", "tape", "[I", true)
  | 1 => ("WorkMeter$CalendarText", "draft", "LWorkMeter$Calendar;", true)
  | 2 => ("WorkMeter$CalendarText", "prices", "[I", true)
  | 3 => ("WorkMeter$CalendarText", "length", "I", false)
  | 4 => ("WorkMeter$CalendarText", "fault", "I", false)
  | 5 => ("WorkMeter$CalendarText", "faultPlace", "I", false)
  | 6 => ("WorkMeter$CalendarText", "priced", "Z", false)
  | 7 => ("WorkMeter$CalendarText", "place", "I", false)
  | 8 => ("WorkMeter$CalendarText", "tokenPlace", "I", false)
  | 9 => ("WorkMeter$CalendarText", "tablesTold", "I", false)
  | _ => ("WorkMeter$CalendarText", "seasonsTold", "I", false)
def pY1 : Nat → FieldType := fun k => match k with
  | 0 => .array .int
  | 1 => .object "WorkMeter$Calendar"
  | 2 => .array .int
  | 3 => .int
  | 4 => .int
  | 5 => .int
  | 6 => .boolean
  | 7 => .int
  | 8 => .int
  | 9 => .int
  | _ => .int
def pF2 : u_T := fun k => match k with
  | 0 => ("WorkMeter$Demand", "most", "[J", true)
  | 1 => ("WorkMeter$Demand", "mostTimes", "[I", true)
  | 2 => ("WorkMeter$Demand", "latest", "J", false)
  | _ => ("WorkMeter$Demand", "latestTime", "I", false)
def pY2 : Nat → FieldType := fun k => match k with
  | 0 => .array .long
  | 1 => .array .int
  | 2 => .long
  | _ => .int
def pF3 : u_T := fun k => match k with
  | 0 => ("WorkMeter$Load", "lines", "[J", true)
  | 1 => ("WorkMeter$Load", "lostSums", "[J", true)
  | 2 => ("WorkMeter$Load", "count", "I", false)
  | 3 => ("WorkMeter$Load", "imported", "J", false)
  | 4 => ("WorkMeter$Load", "exported", "J", false)
  | 5 => ("WorkMeter$Load", "apparent", "J", false)
  | 6 => ("WorkMeter$Load", "metered", "I", false)
  | 7 => ("WorkMeter$Load", "off", "I", false)
  | 8 => ("WorkMeter$Load", "marksOn", "I", false)
  | _ => ("WorkMeter$Load", "began", "I", false)
def pY3 : Nat → FieldType := fun k => match k with
  | 0 => .array .long
  | 1 => .array .long
  | 2 => .int
  | 3 => .long
  | 4 => .long
  | 5 => .long
  | 6 => .int
  | 7 => .int
  | 8 => .int
  | _ => .int
def pF4 : u_T := fun k => match k with
  | 0 => ("WorkMeter$Logbook", "lines", "[I", true)
  | _ => ("WorkMeter$Logbook", "count", "I", false)
def pY4 : Nat → FieldType := fun k => match k with
  | 0 => .array .int
  | _ => .int
def pF5 : u_T := fun k => match k with
  | 0 => ("WorkMeter$Marks", "comings", "[I", true)
  | 1 => ("WorkMeter$Marks", "seconds", "[I", true)
  | 2 => ("WorkMeter$Marks", "lengths", "[I", true)
  | _ => ("WorkMeter$Marks", "on", "I", false)
def pY5 : Nat → FieldType := fun k => match k with
  | 0 => .array .int
  | 1 => .array .int
  | 2 => .array .int
  | _ => .int
def pF6 : u_T := fun k => match k with
  | 0 => ("WorkMeter$Meter", "settings", "LWorkMeter$Settings;", true)
  | 1 => ("WorkMeter$Meter", "calendar", "LWorkMeter$Calendar;", true)
  | 2 => ("WorkMeter$Meter", "wave", "LWorkMeter$Wave;", true)
  | 3 => ("WorkMeter$Meter", "registers", "LWorkMeter$Registers;", true)
  | 4 => ("WorkMeter$Meter", "load", "LWorkMeter$Load;", true)
  | 5 => ("WorkMeter$Meter", "demand", "LWorkMeter$Demand;", true)
  | 6 => ("WorkMeter$Meter", "marks", "LWorkMeter$Marks;", true)
  | 7 => ("WorkMeter$Meter", "logbook", "LWorkMeter$Logbook;", true)
  | 8 => ("WorkMeter$Meter", "seal", "LWorkMeter$Seal;", true)
  | 9 => ("WorkMeter$Meter", "time", "I", false)
  | 10 => ("WorkMeter$Meter", "credit", "J", false)
  | 11 => ("WorkMeter$Meter", "prepaid", "Z", false)
  | 12 => ("WorkMeter$Meter", "open", "Z", false)
  | 13 => ("WorkMeter$Meter", "metered", "I", false)
  | 14 => ("WorkMeter$Meter", "creep", "I", false)
  | _ => ("WorkMeter$Meter", "offSeconds", "I", false)
def pY6 : Nat → FieldType := fun k => match k with
  | 0 => .object "WorkMeter$Settings"
  | 1 => .object "WorkMeter$Calendar"
  | 2 => .object "WorkMeter$Wave"
  | 3 => .object "WorkMeter$Registers"
  | 4 => .object "WorkMeter$Load"
  | 5 => .object "WorkMeter$Demand"
  | 6 => .object "WorkMeter$Marks"
  | 7 => .object "WorkMeter$Logbook"
  | 8 => .object "WorkMeter$Seal"
  | 9 => .int
  | 10 => .long
  | 11 => .boolean
  | 12 => .boolean
  | 13 => .int
  | 14 => .int
  | _ => .int
def pF7 : u_T := fun k => match k with
  | 0 => ("WorkMeter$Registers", "raw", "[J", true)
  | 1 => ("WorkMeter$Registers", "atBill", "[J", true)
  | 2 => ("WorkMeter$Registers", "rows", "[J", true)
  | _ => ("WorkMeter$Registers", "bills", "I", false)
def pY7 : Nat → FieldType := fun k => match k with
  | 0 => .array .long
  | 1 => .array .long
  | 2 => .array .long
  | _ => .int
def pF8 : u_T := fun k => match k with
  | 0 => ("WorkMeter$Seal", "closed", "Z", false)
  | 1 => ("WorkMeter$Seal", "code", "I", false)
  | 2 => ("WorkMeter$Seal", "wrong", "I", false)
  | 3 => ("WorkMeter$Seal", "refused", "I", false)
  | _ => ("WorkMeter$Seal", "lockedUntil", "I", false)
def pY8 : Nat → FieldType := fun k => match k with
  | 0 => .boolean
  | 1 => .int
  | 2 => .int
  | 3 => .int
  | _ => .int
def pF9 : u_T := fun k => match k with
  | _ => ("WorkMeter$Settings", "values", "[I", true)
def pY9 : Nat → FieldType := fun k => match k with
  | _ => .array .int
def pF10 : u_T := fun k => match k with
  | 0 => ("WorkMeter$Wave", "u", "[I", true)
  | 1 => ("WorkMeter$Wave", "i", "[I", true)
  | 2 => ("WorkMeter$Wave", "sums", "[J", true)
  | 3 => ("WorkMeter$Wave", "phases", "I", false)
  | 4 => ("WorkMeter$Wave", "samples", "I", false)
  | 5 => ("WorkMeter$Wave", "come", "I", false)
  | _ => ("WorkMeter$Wave", "apparent", "J", false)
def pY10 : Nat → FieldType := fun k => match k with
  | 0 => .array .int
  | 1 => .array .int
  | 2 => .array .long
  | 3 => .int
  | 4 => .int
  | 5 => .int
  | _ => .long
def pF11 : u_T := fun k => match k with
  | 0 => ("WorkMeter", "now", "LWorkMeter$Meter;", true)
  | 1 => ("WorkMeter", "kept", "LWorkMeter$Meter;", true)
  | 2 => ("WorkMeter", "thought", "LWorkMeter$Meter;", true)
  | 3 => ("WorkMeter", "text", "LWorkMeter$CalendarText;", true)
  | _ => ("WorkMeter", "imageIs", "Z", false)
def pY11 : Nat → FieldType := fun k => match k with
  | 0 => .object "WorkMeter$Meter"
  | 1 => .object "WorkMeter$Meter"
  | 2 => .object "WorkMeter$Meter"
  | 3 => .object "WorkMeter$CalendarText"
  | _ => .boolean
def pF12 : u_T := fun k => match k with
  | 0 => ("WorkMeterModel", "w", "[J", true)
  | 1 => ("WorkMeterModel", "aside", "[J", true)
  | 2 => ("WorkMeterModel", "kept", "[J", true)
  | 3 => ("WorkMeterModel", "hasImage", "Z", false)
  | 4 => ("WorkMeterModel", "tape", "[B", true)
  | 5 => ("WorkMeterModel", "taped", "I", false)
  | 6 => ("WorkMeterModel", "faultKind", "I", false)
  | 7 => ("WorkMeterModel", "faultPlace", "I", false)
  | 8 => ("WorkMeterModel", "at", "I", false)
  | 9 => ("WorkMeterModel", "isWrong", "Z", false)
  | 10 => ("WorkMeterModel", "numberAt", "I", false)
  | 11 => ("WorkMeterModel", "isTable", "[Z", true)
  | 12 => ("WorkMeterModel", "isSeason", "[Z", true)
  | 13 => ("WorkMeterModel", "specialLines", "I", false)
  | _ => ("WorkMeterModel", "isPriced", "Z", false)
def pY12 : Nat → FieldType := fun k => match k with
  | 0 => .array .long
  | 1 => .array .long
  | 2 => .array .long
  | 3 => .boolean
  | 4 => .array .byte
  | 5 => .int
  | 6 => .int
  | 7 => .int
  | 8 => .int
  | 9 => .boolean
  | 10 => .int
  | 11 => .array .boolean
  | 12 => .array .boolean
  | 13 => .int
  | _ => .boolean
def pCl : List vw_C := [("WorkMeter$Calendar", pF0, 8), ("WorkMeter$CalendarText", pF1, 11), ("WorkMeter$Demand", pF2, 4), ("WorkMeter$Load", pF3, 10), ("WorkMeter$Logbook", pF4, 2), ("WorkMeter$Marks", pF5, 4), ("WorkMeter$Meter", pF6, 16), ("WorkMeter$Registers", pF7, 4), ("WorkMeter$Seal", pF8, 5), ("WorkMeter$Settings", pF9, 1), ("WorkMeter$Wave", pF10, 7), ("WorkMeter", pF11, 5), ("WorkMeterModel", pF12, 15)]
def pTyf (c k : Nat) : FieldType := match c with
  | 0 => pY0 k
  | 1 => pY1 k
  | 2 => pY2 k
  | 3 => pY3 k
  | 4 => pY4 k
  | 5 => pY5 k
  | 6 => pY6 k
  | 7 => pY7 k
  | 8 => pY8 k
  | 9 => pY9 k
  | 10 => pY10 k
  | 11 => pY11 k
  | _ => pY12 k
def pDf (c : Nat) : List Value := match c with
  | 0 => [.null, .null, .null, .null, .null, .null, .null, .int 0]
  | 1 => [.null, .null, .null, .int 0, .int 0, .int 0, .int 0, .int 0, .int 0, .int 0, .int 0]
  | 2 => [.null, .null, .long 0, .int 0]
  | 3 => [.null, .null, .int 0, .long 0, .long 0, .long 0, .int 0, .int 0, .int 0, .int 0]
  | 4 => [.null, .int 0]
  | 5 => [.null, .null, .null, .int 0]
  | 6 => [.null, .null, .null, .null, .null, .null, .null, .null, .null, .int 0, .long 0, .int 0, .int 0, .int 0, .int 0, .int 0]
  | 7 => [.null, .null, .null, .int 0]
  | 8 => [.int 0, .int 0, .int 0, .int 0, .int 0]
  | 9 => [.null]
  | 10 => [.null, .null, .null, .int 0, .int 0, .int 0, .long 0]
  | 11 => [.null, .null, .null, .null, .int 0]
  | _ => [.null, .null, .null, .int 0, .null, .int 0, .int 0, .int 0, .int 0, .int 0, .int 0, .null, .null, .int 0, .int 0]
-- 0: WorkMeter.<init>()V
noncomputable def ze0 : Option xI := some (.aload_n 0, 1, (0, 0, 0, 0), .null, none)
noncomputable def ze1 : Option xI := some (.invokespecial 3, 3, (0, 0, 0, 0), .null, none)
noncomputable def ze2 : Option xI := some (.new 9, 3, (6, 0, 0, 0), .null, none)
noncomputable def ze3 : Option xI := some (.dup, 1, (0, 0, 0, 0), .null, none)
noncomputable def ze4 : Option xI := some (.invokespecial 11, 3, (1, 0, 5, 6), .null, none)
noncomputable def ze5 : Option xI := some (.putfield 12, 3, (11, 0, 3, 0), .null, none)
noncomputable def ze6 : Option xI := some (.putfield 16, 3, (11, 1, 3, 0), .null, none)
noncomputable def ze7 : Option xI := some (.putfield 19, 3, (11, 2, 3, 0), .null, none)
noncomputable def ze8 : Option xI := some (.new 22, 3, (1, 0, 0, 0), .null, none)
noncomputable def ze9 : Option xI := some (.invokespecial 24, 3, (15, 0, 5, 1), .null, none)
noncomputable def ze10 : Option xI := some (.putfield 25, 3, (11, 3, 3, 0), .null, none)
noncomputable def ze11 : Option xI := some (.return_, 1, (0, 0, 0, 0), .null, none)
noncomputable def ze12 : Option xI := some (.new 9, 3, (9, 0, 0, 0), .null, none)
noncomputable def ze13 : Option xI := some (.invokespecial 11, 3, (2, 0, 2, 9), .null, none)
noncomputable def ze14 : Option xI := some (.putfield 12, 3, (6, 0, 3, 0), .null, none)
noncomputable def ze15 : Option xI := some (.new 18, 3, (0, 0, 0, 0), .null, none)
noncomputable def ze16 : Option xI := some (.invokespecial 20, 3, (3, 0, 2, 0), .null, none)
noncomputable def ze17 : Option xI := some (.putfield 21, 3, (6, 1, 3, 0), .null, none)
noncomputable def ze18 : Option xI := some (.new 25, 3, (10, 0, 0, 0), .null, none)
noncomputable def ze19 : Option xI := some (.invokespecial 27, 3, (6, 0, 5, 10), .null, none)
noncomputable def ze20 : Option xI := some (.putfield 28, 3, (6, 2, 3, 0), .null, none)
noncomputable def ze21 : Option xI := some (.new 32, 3, (7, 0, 0, 0), .null, none)
noncomputable def ze22 : Option xI := some (.invokespecial 34, 3, (7, 0, 5, 7), .null, none)
noncomputable def ze23 : Option xI := some (.putfield 35, 3, (6, 3, 3, 0), .null, none)
noncomputable def ze24 : Option xI := some (.new 39, 3, (3, 0, 0, 0), .null, none)
noncomputable def ze25 : Option xI := some (.invokespecial 41, 3, (8, 0, 5, 3), .null, none)
noncomputable def ze26 : Option xI := some (.putfield 42, 3, (6, 4, 3, 0), .null, none)
noncomputable def ze27 : Option xI := some (.new 46, 3, (2, 0, 0, 0), .null, none)
noncomputable def ze28 : Option xI := some (.invokespecial 48, 3, (9, 0, 2, 2), .null, none)
noncomputable def ze29 : Option xI := some (.putfield 49, 3, (6, 5, 3, 0), .null, none)
noncomputable def ze30 : Option xI := some (.new 53, 3, (5, 0, 0, 0), .null, none)
noncomputable def ze31 : Option xI := some (.invokespecial 55, 3, (12, 0, 5, 5), .null, none)
noncomputable def ze32 : Option xI := some (.putfield 56, 3, (6, 6, 3, 0), .null, none)
noncomputable def ze33 : Option xI := some (.new 60, 3, (4, 0, 0, 0), .null, none)
noncomputable def ze34 : Option xI := some (.invokespecial 62, 3, (13, 0, 5, 4), .null, none)
noncomputable def ze35 : Option xI := some (.putfield 63, 3, (6, 7, 3, 0), .null, none)
noncomputable def ze36 : Option xI := some (.new 67, 3, (8, 0, 0, 0), .null, none)
noncomputable def ze37 : Option xI := some (.invokespecial 69, 3, (14, 0, 5, 8), .null, none)
noncomputable def ze38 : Option xI := some (.putfield 70, 3, (6, 8, 3, 0), .null, none)
noncomputable def ze39 : Option xI := some (.bipush 13, 2, (0, 0, 0, 0), .null, none)
noncomputable def ze40 : Option xI := some (.newarray .int, 2, (0, 0, 0, 0), .null, none)
noncomputable def ze41 : Option xI := some (.putfield 11, 3, (9, 0, 3, 0), .null, none)
noncomputable def ze42 : Option xI := some (.getstatic 15, 3, (1, 0, 0, 0), .null, none)
noncomputable def ze43 : Option xI := some (.iconst 0, 1, (0, 0, 0, 0), .null, none)
noncomputable def ze44 : Option xI := some (.getfield 11, 3, (9, 0, 3, 0), .null, none)
noncomputable def ze45 : Option xI := some (.invokestatic 18, 3, (0, 5, 7, 0), .null, none)
noncomputable def ze46 : Option xI := some (.invokespecial 5, 3, (0, 0, 0, 0), .null, none)
noncomputable def ze47 : Option xI := some (.bipush 8, 2, (0, 0, 0, 0), .null, none)
noncomputable def ze48 : Option xI := some (.putfield 11, 3, (0, 0, 3, 0), .null, none)
noncomputable def ze49 : Option xI := some (.bipush 48, 2, (0, 0, 0, 0), .null, none)
noncomputable def ze50 : Option xI := some (.putfield 15, 3, (0, 1, 3, 0), .null, none)
noncomputable def ze51 : Option xI := some (.putfield 18, 3, (0, 2, 3, 0), .null, none)
noncomputable def ze52 : Option xI := some (.iconst 4, 1, (0, 0, 0, 0), .null, none)
noncomputable def ze53 : Option xI := some (.putfield 21, 3, (0, 3, 3, 0), .null, none)
noncomputable def ze54 : Option xI := some (.bipush 28, 2, (0, 0, 0, 0), .null, none)
noncomputable def ze55 : Option xI := some (.putfield 24, 3, (0, 4, 3, 0), .null, none)
noncomputable def ze56 : Option xI := some (.bipush 16, 2, (0, 0, 0, 0), .null, none)
noncomputable def ze57 : Option xI := some (.putfield 27, 3, (0, 5, 3, 0), .null, none)
noncomputable def ze58 : Option xI := some (.putfield 30, 3, (0, 6, 3, 0), .null, none)
noncomputable def ze59 : Option xI := some (.invokevirtual 33, 3, (4, 0, 1, 0), .null, none)
noncomputable def ze60 : Option xI := some (.getfield 11, 3, (0, 0, 3, 0), .null, none)
noncomputable def ze61 : Option xI := some (.invokestatic 36, 3, (5, 2, 3, 0), .null, none)
noncomputable def ze62 : Option xI := some (.getfield 21, 3, (0, 3, 3, 0), .null, none)
noncomputable def ze63 : Option xI := some (.iconst (-1), 1, (0, 0, 0, 0), .null, none)
noncomputable def ze64 : Option xI := some (.iastore, 1, (0, 0, 0, 0), .null, none)
noncomputable def ze65 : Option xI := some (.getfield 24, 3, (0, 4, 3, 0), .null, none)
noncomputable def ze66 : Option xI := some (.putfield 42, 3, (0, 7, 0, 0), .null, none)
noncomputable def ze67 : Option xI := some (.istore_n 2, 1, (0, 0, 0, 0), .null, none)
noncomputable def ze68 : Option xI := some (.arraylength, 1, (0, 0, 0, 0), .null, none)
noncomputable def ze69 : Option xI := some (.istore_n 3, 1, (0, 0, 0, 0), .null, none)
noncomputable def ze70 : Option xI := some (.iload_n 2, 1, (0, 0, 0, 0), .null, some [0, 1, 2, 3])
noncomputable def ze71 : Option xI := some (.iload_n 3, 1, (0, 0, 0, 0), .null, none)
noncomputable def ze72 : Option xI := some (.if_icmp .ge 13, 3, (0, 0, 0, 0), .null, none)
noncomputable def ze73 : Option xI := some (.iload_n 2, 1, (0, 0, 0, 0), .null, none)
noncomputable def ze74 : Option xI := some (.iload_n 1, 1, (0, 0, 0, 0), .null, none)
noncomputable def ze75 : Option xI := some (.iinc 2 1, 3, (0, 0, 0, 0), .null, none)
noncomputable def ze76 : Option xI := some (.goto (-12), 3, (0, 0, 0, 0), .null, none)
noncomputable def ze77 : Option xI := some (.return_, 1, (0, 0, 0, 0), .null, some [])
noncomputable def ze78 : Option xI := some (.putfield 11, 3, (10, 0, 3, 0), .null, none)
noncomputable def ze79 : Option xI := some (.putfield 15, 3, (10, 1, 3, 0), .null, none)
noncomputable def ze80 : Option xI := some (.newarray .long, 2, (0, 0, 0, 0), .null, none)
noncomputable def ze81 : Option xI := some (.putfield 18, 3, (10, 2, 3, 0), .null, none)
noncomputable def ze82 : Option xI := some (.iconst 1, 1, (0, 0, 0, 0), .null, none)
noncomputable def ze83 : Option xI := some (.putfield 22, 3, (10, 3, 0, 0), .null, none)
noncomputable def ze84 : Option xI := some (.putfield 26, 3, (10, 4, 0, 0), .null, none)
noncomputable def ze85 : Option xI := some (.putfield 11, 3, (7, 0, 3, 0), .null, none)
noncomputable def ze86 : Option xI := some (.putfield 15, 3, (7, 1, 3, 0), .null, none)
noncomputable def ze87 : Option xI := some (.sipush 198, 3, (0, 0, 0, 0), .null, none)
noncomputable def ze88 : Option xI := some (.putfield 18, 3, (7, 2, 3, 0), .null, none)
noncomputable def ze89 : Option xI := some (.sipush 384, 3, (0, 0, 0, 0), .null, none)
noncomputable def ze90 : Option xI := some (.putfield 11, 3, (3, 0, 3, 0), .null, none)
noncomputable def ze91 : Option xI := some (.putfield 15, 3, (3, 1, 3, 0), .null, none)
noncomputable def ze92 : Option xI := some (.putfield 9, 3, (2, 0, 3, 0), .null, none)
noncomputable def ze93 : Option xI := some (.putfield 15, 3, (2, 1, 3, 0), .null, none)
noncomputable def ze94 : Option xI := some (.ldc2_w 19, 3, (0, 0, 0, 0), .long (Int64.ofInt (-1)), none)
noncomputable def ze95 : Option xI := some (.putfield 21, 3, (2, 2, 1, 0), .null, none)
noncomputable def ze96 : Option xI := some (.putfield 25, 3, (2, 3, 0, 0), .null, none)
noncomputable def ze97 : Option xI := some (.invokevirtual 29, 3, (10, 0, 1, 2), .null, none)
noncomputable def ze98 : Option xI := some (.getfield 9, 3, (2, 0, 3, 0), .null, none)
noncomputable def ze99 : Option xI := some (.invokestatic 32, 3, (11, 2, 3, 0), .null, none)
noncomputable def ze100 : Option xI := some (.getfield 15, 3, (2, 1, 3, 0), .null, none)
noncomputable def ze101 : Option xI := some (.invokestatic 38, 3, (5, 2, 3, 0), .null, none)
noncomputable def ze102 : Option xI := some (.istore 4, 2, (0, 0, 0, 0), .null, none)
noncomputable def ze103 : Option xI := some (.iload_n 3, 1, (0, 0, 0, 0), .null, some [0, 1, 3, 4])
noncomputable def ze104 : Option xI := some (.iload 4, 2, (0, 0, 0, 0), .null, none)
noncomputable def ze105 : Option xI := some (.lload_n 1, 1, (0, 0, 0, 0), .null, none)
noncomputable def ze106 : Option xI := some (.lastore, 1, (0, 0, 0, 0), .null, none)
noncomputable def ze107 : Option xI := some (.iinc 3 1, 3, (0, 0, 0, 0), .null, none)
noncomputable def ze108 : Option xI := some (.goto (-13), 3, (0, 0, 0, 0), .null, none)
noncomputable def ze109 : Option xI := some (.invokespecial 1, 3, (0, 0, 0, 0), .null, none)
noncomputable def ze110 : Option xI := some (.iconst 5, 1, (0, 0, 0, 0), .null, none)
noncomputable def ze111 : Option xI := some (.putfield 9, 3, (5, 0, 3, 0), .null, none)
noncomputable def ze112 : Option xI := some (.putfield 13, 3, (5, 1, 3, 0), .null, none)
noncomputable def ze113 : Option xI := some (.putfield 16, 3, (5, 2, 3, 0), .null, none)
noncomputable def ze114 : Option xI := some (.bipush 120, 2, (0, 0, 0, 0), .null, none)
noncomputable def ze115 : Option xI := some (.putfield 9, 3, (4, 0, 3, 0), .null, none)
noncomputable def ze116 : Option xI := some (.sipush 300, 3, (0, 0, 0, 0), .null, none)
noncomputable def ze117 : Option xI := some (.putfield 11, 3, (1, 0, 3, 0), .null, none)
noncomputable def ze118 : Option xI := some (.new 15, 3, (0, 0, 0, 0), .null, none)
noncomputable def ze119 : Option xI := some (.invokespecial 17, 3, (3, 0, 2, 0), .null, none)
noncomputable def ze120 : Option xI := some (.putfield 18, 3, (1, 1, 3, 0), .null, none)
noncomputable def ze121 : Option xI := some (.putfield 22, 3, (1, 2, 3, 0), .null, none)
noncomputable def ze122 : Option xI := some (.putfield 25, 3, (1, 5, 0, 0), .null, none)
noncomputable def ze123 : Option xI := some (.getfield 12, 3, (11, 0, 3, 0), .null, none)
noncomputable def ze124 : Option xI := some (.getfield 29, 3, (6, 8, 3, 0), .null, none)
noncomputable def ze125 : Option xI := some (.invokevirtual 33, 3, (17, 0, 1, 8), .null, none)
noncomputable def ze126 : Option xI := some (.ifCond .eq 5, 3, (0, 0, 0, 0), .null, none)
noncomputable def ze127 : Option xI := some (.ireturn, 1, (0, 0, 0, 0), .null, none)
noncomputable def ze128 : Option xI := some (.aload_n 0, 1, (0, 0, 0, 0), .null, some [0, 1, 2])
noncomputable def ze129 : Option xI := some (.getfield 39, 3, (6, 2, 3, 0), .null, none)
noncomputable def ze130 : Option xI := some (.invokevirtual 43, 3, (18, 2, 1, 10), .null, none)
noncomputable def ze131 : Option xI := some (.getfield 7, 3, (8, 0, 2, 0), .null, none)
noncomputable def ze132 : Option xI := some (.ifCond .eq 13, 3, (0, 0, 0, 0), .null, none)
noncomputable def ze133 : Option xI := some (.getfield 20, 3, (8, 3, 0, 0), .null, none)
noncomputable def ze134 : Option xI := some (.iadd, 1, (0, 0, 0, 0), .null, none)
noncomputable def ze135 : Option xI := some (.putfield 20, 3, (8, 3, 0, 0), .null, none)
noncomputable def ze136 : Option xI := some (.aload_n 0, 1, (0, 0, 0, 0), .null, some [0])
noncomputable def ze137 : Option xI := some (.if_icmp .lt 25, 3, (0, 0, 0, 0), .null, none)
noncomputable def ze138 : Option xI := some (.iconst 3, 1, (0, 0, 0, 0), .null, none)
noncomputable def ze139 : Option xI := some (.if_icmp .gt 20, 3, (0, 0, 0, 0), .null, none)
noncomputable def ze140 : Option xI := some (.if_icmp .lt 15, 3, (0, 0, 0, 0), .null, none)
noncomputable def ze141 : Option xI := some (.if_icmp .gt 9, 3, (0, 0, 0, 0), .null, none)
noncomputable def ze142 : Option xI := some (.irem, 1, (0, 0, 0, 0), .null, none)
noncomputable def ze143 : Option xI := some (.iconst 0, 1, (0, 0, 0, 0), .null, some [])
noncomputable def ze144 : Option xI := some (.putfield 35, 3, (10, 5, 0, 0), .null, none)
noncomputable def ze145 : Option xI := some (.lconst 0, 1, (0, 0, 0, 0), .null, none)
noncomputable def ze146 : Option xI := some (.putfield 38, 3, (10, 6, 1, 0), .null, none)
noncomputable def ze147 : Option xI := some (.getfield 18, 3, (10, 2, 3, 0), .null, none)
noncomputable def ze148 : Option xI := some (.invokestatic 42, 3, (11, 2, 3, 0), .null, none)
noncomputable def ze149 : Option xI := some (.sipush (-500), 3, (0, 0, 0, 0), .null, none)
noncomputable def ze150 : Option xI := some (.if_icmp .lt 24, 3, (0, 0, 0, 0), .null, none)
noncomputable def ze151 : Option xI := some (.sipush 500, 3, (0, 0, 0, 0), .null, none)
noncomputable def ze152 : Option xI := some (.if_icmp .gt 17, 3, (0, 0, 0, 0), .null, none)
noncomputable def ze153 : Option xI := some (.if_icmp .lt 10, 3, (0, 0, 0, 0), .null, none)
noncomputable def ze154 : Option xI := some (.if_icmp .le 5, 3, (0, 0, 0, 0), .null, none)
noncomputable def ze155 : Option xI := some (.iconst (-1), 1, (0, 0, 0, 0), .null, some [])
noncomputable def ze156 : Option xI := some (.invokevirtual 49, 3, (20, 2, 1, 10), .null, none)
noncomputable def ze157 : Option xI := some (.ifCond .eq 11, 3, (0, 0, 0, 0), .null, none)
noncomputable def ze158 : Option xI := some (.invokevirtual 52, 3, (25, 1, 1, 6), .null, none)
noncomputable def ze159 : Option xI := some (.getfield 56, 3, (10, 5, 0, 0), .null, none)
noncomputable def ze160 : Option xI := some (.getfield 11, 3, (10, 0, 3, 0), .null, none)
noncomputable def ze161 : Option xI := some (.getfield 35, 3, (10, 5, 0, 0), .null, none)
noncomputable def ze162 : Option xI := some (.getfield 15, 3, (10, 1, 3, 0), .null, none)
noncomputable def ze163 : Option xI := some (.getfield 22, 3, (10, 3, 0, 0), .null, none)
noncomputable def ze164 : Option xI := some (.getfield 26, 3, (10, 4, 0, 0), .null, none)
noncomputable def ze165 : Option xI := some (.imul, 1, (0, 0, 0, 0), .null, none)
noncomputable def ze166 : Option xI := some (.if_icmp .ge 5, 3, (0, 0, 0, 0), .null, none)
noncomputable def ze167 : Option xI := some (.invokevirtual 48, 3, (21, 0, 1, 10), .null, none)
noncomputable def ze168 : Option xI := some (.idiv, 1, (0, 0, 0, 0), .null, none)
noncomputable def ze169 : Option xI := some (.istore_n 1, 1, (0, 0, 0, 0), .null, none)
noncomputable def ze170 : Option xI := some (.iload_n 2, 1, (0, 0, 0, 0), .null, some [0, 1, 2])
noncomputable def ze171 : Option xI := some (.if_icmp .ge 142, 3, (0, 0, 0, 0), .null, none)
noncomputable def ze172 : Option xI := some (.iload 4, 2, (0, 0, 0, 0), .null, some [0, 1, 2, 3, 4])
noncomputable def ze173 : Option xI := some (.if_icmp .ge 115, 3, (0, 0, 0, 0), .null, none)
noncomputable def ze174 : Option xI := some (.istore 5, 2, (0, 0, 0, 0), .null, none)
noncomputable def ze175 : Option xI := some (.iload 5, 2, (0, 0, 0, 0), .null, none)
noncomputable def ze176 : Option xI := some (.iaload, 1, (0, 0, 0, 0), .null, none)
noncomputable def ze177 : Option xI := some (.invokevirtual 51, 3, (22, 3, 1, 10), .null, none)
noncomputable def ze178 : Option xI := some (.iconst 2, 1, (0, 0, 0, 0), .null, none)
noncomputable def ze179 : Option xI := some (.iinc 4 1, 3, (0, 0, 0, 0), .null, none)
noncomputable def ze180 : Option xI := some (.goto (-118), 3, (0, 0, 0, 0), .null, none)
noncomputable def ze181 : Option xI := some (.iinc 2 1, 3, (0, 0, 0, 0), .null, some [0, 1, 2])
noncomputable def ze182 : Option xI := some (.goto (-144), 3, (0, 0, 0, 0), .null, none)
noncomputable def ze183 : Option xI := some (.invokevirtual 55, 3, (23, 1, 1, 10), .null, none)
noncomputable def ze184 : Option xI := some (.dup2, 1, (0, 0, 0, 0), .null, none)
noncomputable def ze185 : Option xI := some (.laload, 1, (0, 0, 0, 0), .null, none)
noncomputable def ze186 : Option xI := some (.i2l, 1, (0, 0, 0, 0), .null, none)
noncomputable def ze187 : Option xI := some (.ladd, 1, (0, 0, 0, 0), .null, none)
noncomputable def ze188 : Option xI := some (.lstore_n 2, 1, (0, 0, 0, 0), .null, none)
noncomputable def ze189 : Option xI := some (.lstore 4, 2, (0, 0, 0, 0), .null, none)
noncomputable def ze190 : Option xI := some (.lload_n 2, 1, (0, 0, 0, 0), .null, none)
noncomputable def ze191 : Option xI := some (.lmul, 1, (0, 0, 0, 0), .null, none)
noncomputable def ze192 : Option xI := some (.lload 4, 2, (0, 0, 0, 0), .null, none)
noncomputable def ze193 : Option xI := some (.invokestatic 59, 3, (24, 1, 3, 0), .null, none)
noncomputable def ze194 : Option xI := some (.lreturn, 1, (0, 0, 0, 0), .null, none)
noncomputable def ze195 : Option xI := some (.bipush 25, 2, (0, 0, 0, 0), .null, none)
noncomputable def ze196 : Option xI := some (.iload 4, 2, (0, 0, 0, 0), .null, some [0, 2, 4])
noncomputable def ze197 : Option xI := some (.ifCond .lt 30, 3, (0, 0, 0, 0), .null, none)
noncomputable def ze198 : Option xI := some (.lconst 1, 1, (0, 0, 0, 0), .null, none)
noncomputable def ze199 : Option xI := some (.lshl, 1, (0, 0, 0, 0), .null, none)
noncomputable def ze200 : Option xI := some (.lstore 5, 2, (0, 0, 0, 0), .null, none)
noncomputable def ze201 : Option xI := some (.lload 5, 2, (0, 0, 0, 0), .null, none)
noncomputable def ze202 : Option xI := some (.lload_n 0, 1, (0, 0, 0, 0), .null, none)
noncomputable def ze203 : Option xI := some (.lcmp, 1, (0, 0, 0, 0), .null, none)
noncomputable def ze204 : Option xI := some (.ifCond .gt 6, 3, (0, 0, 0, 0), .null, none)
noncomputable def ze205 : Option xI := some (.iinc 4 (-1), 3, (0, 0, 0, 0), .null, some [0, 2, 4])
noncomputable def ze206 : Option xI := some (.goto (-29), 3, (0, 0, 0, 0), .null, none)
noncomputable def ze207 : Option xI := some (.lload_n 2, 1, (0, 0, 0, 0), .null, some [2])
noncomputable def ze208 : Option xI := some (.iload_n 3, 1, (0, 0, 0, 0), .null, some [0, 1, 2, 3])
noncomputable def ze209 : Option xI := some (.if_icmp .ge 21, 3, (0, 0, 0, 0), .null, none)
noncomputable def ze210 : Option xI := some (.ifCond .le 17, 3, (0, 0, 0, 0), .null, none)
noncomputable def ze211 : Option xI := some (.invokevirtual 214, 3, (26, 1, 1, 6), .null, none)
noncomputable def ze212 : Option xI := some (.isub, 1, (0, 0, 0, 0), .null, none)
noncomputable def ze213 : Option xI := some (.goto (-20), 3, (0, 0, 0, 0), .null, none)
noncomputable def ze214 : Option xI := some (.getfield 21, 3, (6, 1, 3, 0), .null, none)
noncomputable def ze215 : Option xI := some (.getfield 102, 3, (6, 9, 0, 0), .null, none)
noncomputable def ze216 : Option xI := some (.invokevirtual 208, 3, (27, 1, 1, 0), .null, none)
noncomputable def ze217 : Option xI := some (.getfield 28, 3, (6, 2, 3, 0), .null, none)
noncomputable def ze218 : Option xI := some (.getfield 12, 3, (6, 0, 3, 0), .null, none)
noncomputable def ze219 : Option xI := some (.invokevirtual 217, 3, (33, 0, 1, 9), .null, none)
noncomputable def ze220 : Option xI := some (.invokevirtual 220, 3, (34, 1, 1, 10), .null, none)
noncomputable def ze221 : Option xI := some (.invokevirtual 223, 3, (35, 3, 1, 6), .null, none)
noncomputable def ze222 : Option xI := some (.invokevirtual 227, 3, (49, 2, 1, 6), .null, none)
noncomputable def ze223 : Option xI := some (.getfield 117, 3, (6, 13, 0, 0), .null, none)
noncomputable def ze224 : Option xI := some (.putfield 117, 3, (6, 13, 0, 0), .null, none)
noncomputable def ze225 : Option xI := some (.putfield 102, 3, (6, 9, 0, 0), .null, none)
noncomputable def ze226 : Option xI := some (.invokevirtual 230, 3, (53, 0, 1, 6), .null, none)
noncomputable def ze227 : Option xI := some (.getfield 56, 3, (6, 6, 3, 0), .null, none)
noncomputable def ze228 : Option xI := some (.invokevirtual 233, 3, (38, 0, 1, 9), .null, none)
noncomputable def ze229 : Option xI := some (.getfield 63, 3, (6, 7, 3, 0), .null, none)
noncomputable def ze230 : Option xI := some (.invokevirtual 236, 3, (56, 5, 1, 5), .null, none)
noncomputable def ze231 : Option xI := some (.getfield 42, 3, (6, 4, 3, 0), .null, none)
noncomputable def ze232 : Option xI := some (.getfield 202, 3, (5, 3, 0, 0), .null, none)
noncomputable def ze233 : Option xI := some (.invokevirtual 240, 3, (58, 2, 1, 3), .null, none)
noncomputable def ze234 : Option xI := some (.ldc 243, 2, (0, 0, 0, 0), .int (Int32.ofInt 2000000000), none)
noncomputable def ze235 : Option xI := some (.aload_n 0, 1, (0, 0, 0, 0), .null, some [0, 2, 4])
noncomputable def ze236 : Option xI := some (.invokevirtual 211, 3, (59, 1, 1, 6), .null, none)
noncomputable def ze237 : Option xI := some (.ldc 67, 2, (0, 0, 0, 0), .int (Int32.ofInt 86400), none)
noncomputable def ze238 : Option xI := some (.invokevirtual 68, 3, (28, 1, 1, 0), .null, none)
noncomputable def ze239 : Option xI := some (.invokevirtual 71, 3, (31, 2, 1, 0), .null, none)
noncomputable def ze240 : Option xI := some (.sipush 365, 3, (0, 0, 0, 0), .null, none)
noncomputable def ze241 : Option xI := some (.invokevirtual 60, 3, (29, 1, 1, 0), .null, none)
noncomputable def ze242 : Option xI := some (.if_icmp .eq 10, 3, (0, 0, 0, 0), .null, none)
noncomputable def ze243 : Option xI := some (.getfield 30, 3, (0, 6, 3, 0), .null, none)
noncomputable def ze244 : Option xI := some (.aload_n 0, 1, (0, 0, 0, 0), .null, some [0, 1])
noncomputable def ze245 : Option xI := some (.invokevirtual 64, 3, (30, 1, 1, 0), .null, none)
noncomputable def ze246 : Option xI := some (.bipush 7, 2, (0, 0, 0, 0), .null, none)
noncomputable def ze247 : Option xI := some (.getfield 42, 3, (0, 7, 0, 0), .null, none)
noncomputable def ze248 : Option xI := some (.getfield 27, 3, (0, 5, 3, 0), .null, none)
noncomputable def ze249 : Option xI := some (.if_icmp .ne 5, 3, (0, 0, 0, 0), .null, none)
noncomputable def ze250 : Option xI := some (.goto (-23), 3, (0, 0, 0, 0), .null, none)
noncomputable def ze251 : Option xI := some (.if_icmp .ge 77, 3, (0, 0, 0, 0), .null, none)
noncomputable def ze252 : Option xI := some (.if_icmp .ne 6, 3, (0, 0, 0, 0), .null, none)
noncomputable def ze253 : Option xI := some (.goto 57, 3, (0, 0, 0, 0), .null, none)
noncomputable def ze254 : Option xI := some (.aload_n 0, 1, (0, 0, 0, 0), .null, some [0, 1, 2, 3, 4])
noncomputable def ze255 : Option xI := some (.if_icmp .gt 27, 3, (0, 0, 0, 0), .null, none)
noncomputable def ze256 : Option xI := some (.if_icmp .eq 19, 3, (0, 0, 0, 0), .null, none)
noncomputable def ze257 : Option xI := some (.if_icmp .le 6, 3, (0, 0, 0, 0), .null, none)
noncomputable def ze258 : Option xI := some (.iload 4, 2, (0, 0, 0, 0), .null, some [0, 1, 3, 4])
noncomputable def ze259 : Option xI := some (.iinc 4 1, 3, (0, 0, 0, 0), .null, some [0, 1, 2, 3, 4])
noncomputable def ze260 : Option xI := some (.goto (-77), 3, (0, 0, 0, 0), .null, none)
noncomputable def ze261 : Option xI := some (.iload_n 2, 1, (0, 0, 0, 0), .null, some [2, 3])
noncomputable def ze262 : Option xI := some (.if_icmp .ne 7, 3, (0, 0, 0, 0), .null, none)
noncomputable def ze263 : Option xI := some (.goto 4, 3, (0, 0, 0, 0), .null, none)
noncomputable def ze264 : Option xI := some (.iload_n 2, 1, (0, 0, 0, 0), .null, some [2])
noncomputable def ze265 : Option xI := some (.ireturn, 1, (0, 0, 0, 0), .null, some [])
noncomputable def ze266 : Option xI := some (.invokevirtual 52, 3, (32, 2, 1, 0), .null, none)
noncomputable def ze267 : Option xI := some (.ifCond .ne 7, 3, (0, 0, 0, 0), .null, none)
noncomputable def ze268 : Option xI := some (.goto 16, 3, (0, 0, 0, 0), .null, none)
noncomputable def ze269 : Option xI := some (.aload_n 0, 1, (0, 0, 0, 0), .null, some [0, 1, 3])
noncomputable def ze270 : Option xI := some (.getfield 18, 3, (0, 2, 3, 0), .null, none)
noncomputable def ze271 : Option xI := some (.bipush 6, 2, (0, 0, 0, 0), .null, none)
noncomputable def ze272 : Option xI := some (.if_icmp .ge 22, 3, (0, 0, 0, 0), .null, none)
noncomputable def ze273 : Option xI := some (.getfield 15, 3, (0, 1, 3, 0), .null, none)
noncomputable def ze274 : Option xI := some (.if_icmp .ge 9, 3, (0, 0, 0, 0), .null, none)
noncomputable def ze275 : Option xI := some (.goto (-27), 3, (0, 0, 0, 0), .null, none)
noncomputable def ze276 : Option xI := some (.iload 4, 2, (0, 0, 0, 0), .null, some [4])
noncomputable def ze277 : Option xI := some (.istore 6, 2, (0, 0, 0, 0), .null, none)
noncomputable def ze278 : Option xI := some (.istore 7, 2, (0, 0, 0, 0), .null, none)
noncomputable def ze279 : Option xI := some (.iload 7, 2, (0, 0, 0, 0), .null, some [0, 1, 2, 3, 4, 5, 6, 7])
noncomputable def ze280 : Option xI := some (.if_icmp .ge 155, 3, (0, 0, 0, 0), .null, none)
noncomputable def ze281 : Option xI := some (.iload 7, 2, (0, 0, 0, 0), .null, none)
noncomputable def ze282 : Option xI := some (.lstore 8, 2, (0, 0, 0, 0), .null, none)
noncomputable def ze283 : Option xI := some (.lstore 10, 2, (0, 0, 0, 0), .null, none)
noncomputable def ze284 : Option xI := some (.lload 8, 2, (0, 0, 0, 0), .null, none)
noncomputable def ze285 : Option xI := some (.ifCond .ge 7, 3, (0, 0, 0, 0), .null, none)
noncomputable def ze286 : Option xI := some (.iconst 0, 1, (0, 0, 0, 0), .null, some [0, 1, 2, 3, 4, 5, 6, 7, 8, 10])
noncomputable def ze287 : Option xI := some (.istore 12, 2, (0, 0, 0, 0), .null, some [0, 1, 2, 3, 4, 5, 6, 7, 8, 10])
noncomputable def ze288 : Option xI := some (.ifCond .ne 8, 3, (0, 0, 0, 0), .null, none)
noncomputable def ze289 : Option xI := some (.iload 12, 2, (0, 0, 0, 0), .null, none)
noncomputable def ze290 : Option xI := some (.ifCond .eq 7, 3, (0, 0, 0, 0), .null, none)
noncomputable def ze291 : Option xI := some (.iconst 1, 1, (0, 0, 0, 0), .null, some [0, 1, 3, 4, 5, 6, 7, 8, 10, 12])
noncomputable def ze292 : Option xI := some (.iconst 0, 1, (0, 0, 0, 0), .null, some [0, 1, 3, 4, 5, 6, 7, 8, 10, 12])
noncomputable def ze293 : Option xI := some (.istore_n 2, 1, (0, 0, 0, 0), .null, some [0, 1, 3, 4, 5, 6, 7, 8, 10, 12])
noncomputable def ze294 : Option xI := some (.iconst 1, 1, (0, 0, 0, 0), .null, some [0, 1, 2, 4, 5, 6, 7, 8, 10])
noncomputable def ze295 : Option xI := some (.iconst 0, 1, (0, 0, 0, 0), .null, some [0, 1, 2, 4, 5, 6, 7, 8, 10])
noncomputable def ze296 : Option xI := some (.istore_n 3, 1, (0, 0, 0, 0), .null, some [0, 1, 2, 4, 5, 6, 7, 8, 10])
noncomputable def ze297 : Option xI := some (.ifCond .ne 10, 3, (0, 0, 0, 0), .null, none)
noncomputable def ze298 : Option xI := some (.lload 10, 2, (0, 0, 0, 0), .null, none)
noncomputable def ze299 : Option xI := some (.ifCond .le 7, 3, (0, 0, 0, 0), .null, none)
noncomputable def ze300 : Option xI := some (.iconst 1, 1, (0, 0, 0, 0), .null, some [0, 1, 2, 3, 5, 6, 7, 8, 10])
noncomputable def ze301 : Option xI := some (.iconst 0, 1, (0, 0, 0, 0), .null, some [0, 1, 2, 3, 5, 6, 7, 8, 10])
noncomputable def ze302 : Option xI := some (.istore 4, 2, (0, 0, 0, 0), .null, some [0, 1, 2, 3, 5, 6, 7, 8, 10])
noncomputable def ze303 : Option xI := some (.iconst 1, 1, (0, 0, 0, 0), .null, some [0, 1, 2, 3, 4, 6, 7, 8])
noncomputable def ze304 : Option xI := some (.iconst 0, 1, (0, 0, 0, 0), .null, some [0, 1, 2, 3, 4, 6, 7, 8])
noncomputable def ze305 : Option xI := some (.istore 5, 2, (0, 0, 0, 0), .null, some [0, 1, 2, 3, 4, 6, 7, 8])
noncomputable def ze306 : Option xI := some (.iload 6, 2, (0, 0, 0, 0), .null, none)
noncomputable def ze307 : Option xI := some (.ifCond .ne 25, 3, (0, 0, 0, 0), .null, none)
noncomputable def ze308 : Option xI := some (.ifCond .ne 22, 3, (0, 0, 0, 0), .null, none)
noncomputable def ze309 : Option xI := some (.bipush 12, 2, (0, 0, 0, 0), .null, none)
noncomputable def ze310 : Option xI := some (.iconst 1, 1, (0, 0, 0, 0), .null, some [0, 1, 2, 3, 4, 5, 7])
noncomputable def ze311 : Option xI := some (.iconst 0, 1, (0, 0, 0, 0), .null, some [0, 1, 2, 3, 4, 5, 7])
noncomputable def ze312 : Option xI := some (.istore 6, 2, (0, 0, 0, 0), .null, some [0, 1, 2, 3, 4, 5, 7])
noncomputable def ze313 : Option xI := some (.iinc 7 1, 3, (0, 0, 0, 0), .null, none)
noncomputable def ze314 : Option xI := some (.goto (-158), 3, (0, 0, 0, 0), .null, none)
noncomputable def ze315 : Option xI := some (.iload_n 2, 1, (0, 0, 0, 0), .null, some [2, 3, 4, 5, 6])
noncomputable def ze316 : Option xI := some (.iconst 0, 1, (0, 0, 0, 0), .null, some [4, 5, 6])
noncomputable def ze317 : Option xI := some (.iload 4, 2, (0, 0, 0, 0), .null, some [4, 5, 6])
noncomputable def ze318 : Option xI := some (.ifCond .eq 8, 3, (0, 0, 0, 0), .null, none)
noncomputable def ze319 : Option xI := some (.iconst 0, 1, (0, 0, 0, 0), .null, some [6])
noncomputable def ze320 : Option xI := some (.ior, 1, (0, 0, 0, 0), .null, some [6])
noncomputable def ze321 : Option xI := some (.ior, 1, (0, 0, 0, 0), .null, some [])
noncomputable def ze322 : Option xI := some (.if_icmp .lt 5, 3, (0, 0, 0, 0), .null, none)
noncomputable def ze323 : Option xI := some (.aload_n 0, 1, (0, 0, 0, 0), .null, some [0, 1, 2, 3])
noncomputable def ze324 : Option xI := some (.invokevirtual 142, 3, (36, 0, 1, 9), .null, none)
noncomputable def ze325 : Option xI := some (.invokestatic 196, 3, (0, 2, 11, 0), .null, none)
noncomputable def ze326 : Option xI := some (.invokevirtual 244, 3, (37, 1, 1, 0), .null, none)
noncomputable def ze327 : Option xI := some (.invokevirtual 247, 3, (39, 3, 1, 5), .null, none)
noncomputable def ze328 : Option xI := some (.invokevirtual 250, 3, (41, 2, 1, 6), .null, none)
noncomputable def ze329 : Option xI := some (.invokestatic 34, 3, (0, 2, 10, 0), .null, none)
noncomputable def ze330 : Option xI := some (.if_icmp .ge 18, 3, (0, 0, 0, 0), .null, none)
noncomputable def ze331 : Option xI := some (.goto 5, 3, (0, 0, 0, 0), .null, none)
noncomputable def ze332 : Option xI := some (.ldc 67, 2, (0, 0, 0, 0), .int (Int32.ofInt 86400), some [2])
noncomputable def ze333 : Option xI := some (.istore 5, 2, (0, 0, 0, 0), .null, some [2])
noncomputable def ze334 : Option xI := some (.iload 5, 2, (0, 0, 0, 0), .null, some [0, 1, 2, 4, 5])
noncomputable def ze335 : Option xI := some (.if_icmp .ge 78, 3, (0, 0, 0, 0), .null, none)
noncomputable def ze336 : Option xI := some (.ishr, 1, (0, 0, 0, 0), .null, none)
noncomputable def ze337 : Option xI := some (.iand, 1, (0, 0, 0, 0), .null, none)
noncomputable def ze338 : Option xI := some (.iconst 0, 1, (0, 0, 0, 0), .null, some [0, 1, 2, 4, 5])
noncomputable def ze339 : Option xI := some (.istore 6, 2, (0, 0, 0, 0), .null, some [0, 1, 2, 4, 5])
noncomputable def ze340 : Option xI := some (.invokevirtual 35, 3, (40, 1, 1, 5), .null, none)
noncomputable def ze341 : Option xI := some (.ifCond .eq 10, 3, (0, 0, 0, 0), .null, none)
noncomputable def ze342 : Option xI := some (.ifCond .ne 5, 3, (0, 0, 0, 0), .null, none)
noncomputable def ze343 : Option xI := some (.aload_n 0, 1, (0, 0, 0, 0), .null, some [0, 1, 2, 4, 5, 6])
noncomputable def ze344 : Option xI := some (.ifCond .ne 30, 3, (0, 0, 0, 0), .null, none)
noncomputable def ze345 : Option xI := some (.ifCond .eq 25, 3, (0, 0, 0, 0), .null, none)
noncomputable def ze346 : Option xI := some (.getfield 16, 3, (5, 2, 3, 0), .null, none)
noncomputable def ze347 : Option xI := some (.invokestatic 43, 3, (0, 2, 10, 0), .null, none)
noncomputable def ze348 : Option xI := some (.invokestatic 49, 3, (0, 2, 11, 0), .null, none)
noncomputable def ze349 : Option xI := some (.iinc 5 1, 3, (0, 0, 0, 0), .null, some [0, 1, 2, 4, 5])
noncomputable def ze350 : Option xI := some (.goto (-78), 3, (0, 0, 0, 0), .null, none)
noncomputable def ze351 : Option xI := some (.getfield 25, 3, (5, 3, 0, 0), .null, none)
noncomputable def ze352 : Option xI := some (.invokevirtual 256, 3, (42, 0, 1, 10), .null, none)
noncomputable def ze353 : Option xI := some (.lstore_n 3, 1, (0, 0, 0, 0), .null, none)
noncomputable def ze354 : Option xI := some (.invokevirtual 267, 3, (43, 1, 1, 9), .null, none)
noncomputable def ze355 : Option xI := some (.getfield 110, 3, (6, 11, 2, 0), .null, none)
noncomputable def ze356 : Option xI := some (.ifCond .eq 28, 3, (0, 0, 0, 0), .null, none)
noncomputable def ze357 : Option xI := some (.getfield 114, 3, (6, 12, 2, 0), .null, none)
noncomputable def ze358 : Option xI := some (.ifCond .ne 21, 3, (0, 0, 0, 0), .null, none)
noncomputable def ze359 : Option xI := some (.lload_n 3, 1, (0, 0, 0, 0), .null, none)
noncomputable def ze360 : Option xI := some (.ifCond .le 15, 3, (0, 0, 0, 0), .null, none)
noncomputable def ze361 : Option xI := some (.ifCond .le 10, 3, (0, 0, 0, 0), .null, none)
noncomputable def ze362 : Option xI := some (.invokevirtual 270, 3, (44, 0, 1, 6), .null, none)
noncomputable def ze363 : Option xI := some (.aload_n 0, 1, (0, 0, 0, 0), .null, some [0, 1, 2, 3, 5])
noncomputable def ze364 : Option xI := some (.getfield 106, 3, (6, 10, 1, 0), .null, none)
noncomputable def ze365 : Option xI := some (.lsub, 1, (0, 0, 0, 0), .null, none)
noncomputable def ze366 : Option xI := some (.ldiv, 1, (0, 0, 0, 0), .null, none)
noncomputable def ze367 : Option xI := some (.lstore 6, 2, (0, 0, 0, 0), .null, none)
noncomputable def ze368 : Option xI := some (.getfield 35, 3, (6, 3, 3, 0), .null, none)
noncomputable def ze369 : Option xI := some (.invokevirtual 273, 3, (47, 1, 1, 7), .null, none)
noncomputable def ze370 : Option xI := some (.invokevirtual 134, 3, (48, 0, 1, 9), .null, none)
noncomputable def ze371 : Option xI := some (.lload 6, 2, (0, 0, 0, 0), .null, none)
noncomputable def ze372 : Option xI := some (.invokestatic 277, 3, (0, 2, 13, 0), .null, none)
noncomputable def ze373 : Option xI := some (.invokestatic 280, 3, (0, 2, 12, 0), .null, none)
noncomputable def ze374 : Option xI := some (.l2i, 1, (0, 0, 0, 0), .null, none)
noncomputable def ze375 : Option xI := some (.invokevirtual 253, 3, (45, 0, 1, 9), .null, none)
noncomputable def ze376 : Option xI := some (.goto 10, 3, (0, 0, 0, 0), .null, none)
noncomputable def ze377 : Option xI := some (.lstore_n 2, 1, (0, 0, 0, 0), .null, some [0, 1])
noncomputable def ze378 : Option xI := some (.invokevirtual 260, 3, (46, 0, 1, 10), .null, none)
noncomputable def ze379 : Option xI := some (.lstore 4, 2, (0, 0, 0, 0), .null, some [1, 2])
noncomputable def ze380 : Option xI := some (.invokestatic 263, 3, (0, 1, 14, 0), .null, none)
noncomputable def ze381 : Option xI := some (.ifCond .ge 18, 3, (0, 0, 0, 0), .null, none)
noncomputable def ze382 : Option xI := some (.getfield 11, 3, (7, 0, 3, 0), .null, none)
noncomputable def ze383 : Option xI := some (.ifCond .eq 14, 3, (0, 0, 0, 0), .null, none)
noncomputable def ze384 : Option xI := some (.getfield 120, 3, (6, 14, 0, 0), .null, none)
noncomputable def ze385 : Option xI := some (.putfield 120, 3, (6, 14, 0, 0), .null, none)
noncomputable def ze386 : Option xI := some (.ifCond .eq 4, 3, (0, 0, 0, 0), .null, none)
noncomputable def ze387 : Option xI := some (.getfield 283, 3, (10, 6, 1, 0), .null, none)
noncomputable def ze388 : Option xI := some (.lstore 7, 2, (0, 0, 0, 0), .null, none)
noncomputable def ze389 : Option xI := some (.invokevirtual 286, 3, (50, 4, 1, 7), .null, none)
noncomputable def ze390 : Option xI := some (.lload 7, 2, (0, 0, 0, 0), .null, none)
noncomputable def ze391 : Option xI := some (.lstore 9, 2, (0, 0, 0, 0), .null, none)
noncomputable def ze392 : Option xI := some (.lload 9, 2, (0, 0, 0, 0), .null, none)
noncomputable def ze393 : Option xI := some (.putfield 106, 3, (6, 10, 1, 0), .null, none)
noncomputable def ze394 : Option xI := some (.invokevirtual 290, 3, (52, 2, 1, 3), .null, none)
noncomputable def ze395 : Option xI := some (.ifCond .le 18, 3, (0, 0, 0, 0), .null, none)
noncomputable def ze396 : Option xI := some (.goto 15, 3, (0, 0, 0, 0), .null, none)
noncomputable def ze397 : Option xI := some (.aload_n 0, 1, (0, 0, 0, 0), .null, some [0, 1, 2, 4, 6])
noncomputable def ze398 : Option xI := some (.iconst 2, 1, (0, 0, 0, 0), .null, some [0, 1, 2, 4, 6])
noncomputable def ze399 : Option xI := some (.invokestatic 31, 3, (51, 2, 3, 0), .null, none)
noncomputable def ze400 : Option xI := some (.istore 8, 2, (0, 0, 0, 0), .null, none)
noncomputable def ze401 : Option xI := some (.iload 8, 2, (0, 0, 0, 0), .null, none)
noncomputable def ze402 : Option xI := some (.invokestatic 37, 3, (0, 1, 14, 0), .null, none)
noncomputable def ze403 : Option xI := some (.bipush 24, 2, (0, 0, 0, 0), .null, none)
noncomputable def ze404 : Option xI := some (.ifCond .lt 15, 3, (0, 0, 0, 0), .null, none)
noncomputable def ze405 : Option xI := some (.ifCond .lt 7, 3, (0, 0, 0, 0), .null, none)
noncomputable def ze406 : Option xI := some (.iconst 4, 1, (0, 0, 0, 0), .null, some [])
noncomputable def ze407 : Option xI := some (.iconst 3, 1, (0, 0, 0, 0), .null, some [])
noncomputable def ze408 : Option xI := some (.ifCond .le 16, 3, (0, 0, 0, 0), .null, none)
noncomputable def ze409 : Option xI := some (.getfield 28, 3, (3, 3, 1, 0), .null, none)
noncomputable def ze410 : Option xI := some (.putfield 28, 3, (3, 3, 1, 0), .null, none)
noncomputable def ze411 : Option xI := some (.goto 13, 3, (0, 0, 0, 0), .null, none)
noncomputable def ze412 : Option xI := some (.getfield 32, 3, (3, 4, 1, 0), .null, none)
noncomputable def ze413 : Option xI := some (.putfield 32, 3, (3, 4, 1, 0), .null, none)
noncomputable def ze414 : Option xI := some (.aload_n 0, 1, (0, 0, 0, 0), .null, some [0, 3])
noncomputable def ze415 : Option xI := some (.getfield 35, 3, (3, 5, 1, 0), .null, none)
noncomputable def ze416 : Option xI := some (.putfield 35, 3, (3, 5, 1, 0), .null, none)
noncomputable def ze417 : Option xI := some (.ifCond .eq 16, 3, (0, 0, 0, 0), .null, none)
noncomputable def ze418 : Option xI := some (.ifCond .gt 7, 3, (0, 0, 0, 0), .null, none)
noncomputable def ze419 : Option xI := some (.iconst 0, 1, (0, 0, 0, 0), .null, some [0])
noncomputable def ze420 : Option xI := some (.istore_n 1, 1, (0, 0, 0, 0), .null, some [0])
noncomputable def ze421 : Option xI := some (.if_icmp .eq 27, 3, (0, 0, 0, 0), .null, none)
noncomputable def ze422 : Option xI := some (.putfield 114, 3, (6, 12, 2, 0), .null, none)
noncomputable def ze423 : Option xI := some (.bipush 22, 2, (0, 0, 0, 0), .null, none)
noncomputable def ze424 : Option xI := some (.bipush 23, 2, (0, 0, 0, 0), .null, some [])
noncomputable def ze425 : Option xI := some (.invokevirtual 165, 3, (54, 2, 1, 6), .null, none)
noncomputable def ze426 : Option xI := some (.invokevirtual 126, 3, (55, 3, 1, 4), .null, none)
noncomputable def ze427 : Option xI := some (.getfield 19, 3, (4, 1, 0, 0), .null, none)
noncomputable def ze428 : Option xI := some (.bipush 40, 2, (0, 0, 0, 0), .null, none)
noncomputable def ze429 : Option xI := some (.getfield 9, 3, (4, 0, 3, 0), .null, none)
noncomputable def ze430 : Option xI := some (.putfield 19, 3, (4, 1, 0, 0), .null, none)
noncomputable def ze431 : Option xI := some (.iload 6, 2, (0, 0, 0, 0), .null, some [0, 1, 2, 3, 4, 5, 6])
noncomputable def ze432 : Option xI := some (.if_icmp .ge 143, 3, (0, 0, 0, 0), .null, none)
noncomputable def ze433 : Option xI := some (.if_icmp .lt 94, 3, (0, 0, 0, 0), .null, none)
noncomputable def ze434 : Option xI := some (.iconst 0, 1, (0, 0, 0, 0), .null, some [0, 1, 2, 3, 4, 5, 6, 7])
noncomputable def ze435 : Option xI := some (.istore 8, 2, (0, 0, 0, 0), .null, some [0, 1, 2, 3, 4, 5, 6, 7])
noncomputable def ze436 : Option xI := some (.ifCond .eq 15, 3, (0, 0, 0, 0), .null, none)
noncomputable def ze437 : Option xI := some (.iconst 0, 1, (0, 0, 0, 0), .null, some [0, 1, 2, 3, 4, 5, 6, 7, 8])
noncomputable def ze438 : Option xI := some (.iastore, 1, (0, 0, 0, 0), .null, some [0, 1, 2, 3, 4, 5, 6, 7, 8])
noncomputable def ze439 : Option xI := some (.ifCond .ne 42, 3, (0, 0, 0, 0), .null, none)
noncomputable def ze440 : Option xI := some (.goto 19, 3, (0, 0, 0, 0), .null, none)
noncomputable def ze441 : Option xI := some (.iload 8, 2, (0, 0, 0, 0), .null, some [0, 1, 2, 3, 4, 5, 6, 7, 8])
noncomputable def ze442 : Option xI := some (.ifCond .eq 34, 3, (0, 0, 0, 0), .null, none)
noncomputable def ze443 : Option xI := some (.if_icmp .le 23, 3, (0, 0, 0, 0), .null, none)
noncomputable def ze444 : Option xI := some (.aload_n 0, 1, (0, 0, 0, 0), .null, some [0, 1, 2, 3, 4, 5, 6, 7])
noncomputable def ze445 : Option xI := some (.aload 4, 2, (0, 0, 0, 0), .null, some [0, 1, 2, 3, 4, 5, 6, 7])
noncomputable def ze446 : Option xI := some (.invokevirtual 39, 3, (57, 4, 1, 5), .null, none)
noncomputable def ze447 : Option xI := some (.ifCond .eq 23, 3, (0, 0, 0, 0), .null, none)
noncomputable def ze448 : Option xI := some (.getfield 13, 3, (5, 1, 3, 0), .null, none)
noncomputable def ze449 : Option xI := some (.iconst 1, 1, (0, 0, 0, 0), .null, some [0, 1, 2, 3, 4, 5, 6])
noncomputable def ze450 : Option xI := some (.iadd, 1, (0, 0, 0, 0), .null, some [0, 1, 2, 3, 4, 5, 6])
noncomputable def ze451 : Option xI := some (.iinc 6 1, 3, (0, 0, 0, 0), .null, some [0, 1, 2, 3, 4, 5, 6])
noncomputable def ze452 : Option xI := some (.goto (-143), 3, (0, 0, 0, 0), .null, none)
noncomputable def ze453 : Option xI := some (.ifCond .eq 36, 3, (0, 0, 0, 0), .null, none)
noncomputable def ze454 : Option xI := some (.ishl, 1, (0, 0, 0, 0), .null, none)
noncomputable def ze455 : Option xI := some (.ior, 1, (0, 0, 0, 0), .null, none)
noncomputable def ze456 : Option xI := some (.putfield 25, 3, (5, 3, 0, 0), .null, none)
noncomputable def ze457 : Option xI := some (.getfield 9, 3, (5, 0, 3, 0), .null, none)
noncomputable def ze458 : Option xI := some (.aload_n 3, 1, (0, 0, 0, 0), .null, none)
noncomputable def ze459 : Option xI := some (.invokevirtual 29, 3, (55, 3, 1, 4), .null, none)
noncomputable def ze460 : Option xI := some (.goto 28, 3, (0, 0, 0, 0), .null, none)
noncomputable def ze461 : Option xI := some (.aload_n 0, 1, (0, 0, 0, 0), .null, some [0, 1, 3, 4])
noncomputable def ze462 : Option xI := some (.ixor, 1, (0, 0, 0, 0), .null, none)
noncomputable def ze463 : Option xI := some (.bipush 10, 2, (0, 0, 0, 0), .null, none)
noncomputable def ze464 : Option xI := some (.getfield 38, 3, (3, 6, 0, 0), .null, none)
noncomputable def ze465 : Option xI := some (.putfield 38, 3, (3, 6, 0, 0), .null, none)
noncomputable def ze466 : Option xI := some (.getfield 44, 3, (3, 8, 0, 0), .null, none)
noncomputable def ze467 : Option xI := some (.putfield 44, 3, (3, 8, 0, 0), .null, none)
noncomputable def ze468 : Option xI := some (.ifCond .ne 36, 3, (0, 0, 0, 0), .null, none)
noncomputable def ze469 : Option xI := some (.invokevirtual 145, 3, (60, 3, 1, 3), .null, none)
noncomputable def ze470 : Option xI := some (.getfield 49, 3, (6, 5, 3, 0), .null, none)
noncomputable def ze471 : Option xI := some (.invokevirtual 294, 3, (63, 0, 1, 9), .null, none)
noncomputable def ze472 : Option xI := some (.invokevirtual 297, 3, (64, 4, 1, 2), .null, none)
noncomputable def ze473 : Option xI := some (.getfield 41, 3, (3, 7, 0, 0), .null, none)
noncomputable def ze474 : Option xI := some (.ifCond .le 34, 3, (0, 0, 0, 0), .null, none)
noncomputable def ze475 : Option xI := some (.invokevirtual 56, 3, (61, 1, 1, 3), .null, none)
noncomputable def ze476 : Option xI := some (.ifCond .eq 12, 3, (0, 0, 0, 0), .null, none)
noncomputable def ze477 : Option xI := some (.sipush 128, 3, (0, 0, 0, 0), .null, none)
noncomputable def ze478 : Option xI := some (.iload 4, 2, (0, 0, 0, 0), .null, some [0, 1, 4])
noncomputable def ze479 : Option xI := some (.invokevirtual 60, 3, (62, 2, 1, 3), .null, some [0, 1])
noncomputable def ze480 : Option xI := some (.putfield 41, 3, (3, 7, 0, 0), .null, none)
noncomputable def ze481 : Option xI := some (.putfield 47, 3, (3, 9, 0, 0), .null, none)
noncomputable def ze482 : Option xI := some (.ifCond .le 8, 3, (0, 0, 0, 0), .null, none)
noncomputable def ze483 : Option xI := some (.bipush 32, 2, (0, 0, 0, 0), .null, none)
noncomputable def ze484 : Option xI := some (.getfield 47, 3, (3, 9, 0, 0), .null, none)
noncomputable def ze485 : Option xI := some (.getfield 24, 3, (3, 2, 0, 0), .null, none)
noncomputable def ze486 : Option xI := some (.bipush 64, 2, (0, 0, 0, 0), .null, none)
noncomputable def ze487 : Option xI := some (.if_icmp .ge 30, 3, (0, 0, 0, 0), .null, none)
noncomputable def ze488 : Option xI := some (.getfield 15, 3, (3, 1, 3, 0), .null, none)
noncomputable def ze489 : Option xI := some (.getfield 11, 3, (3, 0, 3, 0), .null, none)
noncomputable def ze490 : Option xI := some (.goto (-30), 3, (0, 0, 0, 0), .null, none)
noncomputable def ze491 : Option xI := some (.putfield 24, 3, (3, 2, 0, 0), .null, none)
noncomputable def ze492 : Option xI := some (.aload_n 1, 1, (0, 0, 0, 0), .null, none)
noncomputable def ze493 : Option xI := some (.invokestatic 47, 3, (65, 3, 3, 0), .null, none)
noncomputable def ze494 : Option xI := some (.ifCond .ne 4, 3, (0, 0, 0, 0), .null, none)
noncomputable def ze495 : Option xI := some (.aload_n 0, 1, (0, 0, 0, 0), .null, some [0, 1, 2, 4])
noncomputable def ze496 : Option xI := some (.invokevirtual 51, 3, (68, 2, 1, 3), .null, none)
noncomputable def ze497 : Option xI := some (.invokevirtual 57, 3, (67, 2, 1, 3), .null, none)
noncomputable def ze498 : Option xI := some (.getfield 21, 3, (2, 2, 1, 0), .null, none)
noncomputable def ze499 : Option xI := some (.ifCond .le 25, 3, (0, 0, 0, 0), .null, none)
noncomputable def ze500 : Option xI := some (.getfield 25, 3, (2, 3, 0, 0), .null, none)
noncomputable def ze501 : Option xI := some (.invokevirtual 60, 3, (66, 0, 1, 3), .null, none)
noncomputable def ze502 : Option xI := some (.iconst 0, 1, (0, 0, 0, 0), .null, some [0, 1, 2])
noncomputable def ze503 : Option xI := some (.if_icmp .ge 53, 3, (0, 0, 0, 0), .null, none)
noncomputable def ze504 : Option xI := some (.ldc2_w 64, 3, (0, 0, 0, 0), .long (Int64.ofInt 192), none)
noncomputable def ze505 : Option xI := some (.land, 1, (0, 0, 0, 0), .null, none)
noncomputable def ze506 : Option xI := some (.ifCond .le 26, 3, (0, 0, 0, 0), .null, none)
noncomputable def ze507 : Option xI := some (.iinc 3 1, 3, (0, 0, 0, 0), .null, some [0, 1, 2, 3])
noncomputable def ze508 : Option xI := some (.goto (-52), 3, (0, 0, 0, 0), .null, none)
noncomputable def ze509 : Option xI := some (.iconst 1, 1, (0, 0, 0, 0), .null, some [])
noncomputable def ze510 : Option xI := some (.invokestatic 50, 3, (0, 2, 11, 0), .null, none)
noncomputable def ze511 : Option xI := some (.iload 5, 2, (0, 0, 0, 0), .null, some [0, 1, 2, 3, 5])
noncomputable def ze512 : Option xI := some (.if_icmp .ge 19, 3, (0, 0, 0, 0), .null, none)
noncomputable def ze513 : Option xI := some (.invokevirtual 64, 3, (67, 2, 1, 3), .null, none)
noncomputable def ze514 : Option xI := some (.iinc 5 1, 3, (0, 0, 0, 0), .null, none)
noncomputable def ze515 : Option xI := some (.goto (-21), 3, (0, 0, 0, 0), .null, none)
noncomputable def ze516 : Option xI := some (.lload_n 3, 1, (0, 0, 0, 0), .null, some [3])
noncomputable def ze517 : Option xI := some (.sipush 900, 3, (0, 0, 0, 0), .null, none)
noncomputable def ze518 : Option xI := some (.if_icmp .le 7, 3, (0, 0, 0, 0), .null, none)
noncomputable def ze519 : Option xI := some (.ldc2_w 60, 3, (0, 0, 0, 0), .long (Int64.ofInt (-1)), some [])
noncomputable def ze520 : Option xI := some (.invokevirtual 62, 3, (70, 1, 1, 6), .null, none)
noncomputable def ze521 : Option xI := some (.invokevirtual 130, 3, (71, 2, 1, 7), .null, none)
noncomputable def ze522 : Option xI := some (.invokestatic 43, 3, (72, 3, 3, 0), .null, none)
noncomputable def ze523 : Option xI := some (.if_icmp .eq 9, 3, (0, 0, 0, 0), .null, none)
noncomputable def ze524 : Option xI := some (.lconst 0, 1, (0, 0, 0, 0), .null, some [0, 1])
noncomputable def ze525 : Option xI := some (.iload 5, 2, (0, 0, 0, 0), .null, some [0, 1, 3, 5])
noncomputable def ze526 : Option xI := some (.goto (-18), 3, (0, 0, 0, 0), .null, none)
noncomputable def ze527 : Option xI := some (.invokevirtual 66, 3, (74, 2, 1, 6), .null, none)
noncomputable def ze528 : Option xI := some (.invokevirtual 138, 3, (75, 2, 1, 9), .null, none)
noncomputable def ze529 : Option xI := some (.if_icmp .ne 12, 3, (0, 0, 0, 0), .null, none)
noncomputable def ze530 : Option xI := some (.ifCond .le 5, 3, (0, 0, 0, 0), .null, none)
noncomputable def ze531 : Option xI := some (.iload_n 1, 1, (0, 0, 0, 0), .null, some [0, 1, 2])
noncomputable def ze532 : Option xI := some (.if_icmp .ne 23, 3, (0, 0, 0, 0), .null, none)
noncomputable def ze533 : Option xI := some (.invokevirtual 148, 3, (77, 2, 1, 9), .null, none)
noncomputable def ze534 : Option xI := some (.invokestatic 24, 3, (76, 1, 3, 0), .null, none)
noncomputable def ze535 : Option xI := some (.if_icmp .eq 21, 3, (0, 0, 0, 0), .null, none)
noncomputable def ze536 : Option xI := some (.getstatic 28, 3, (2, 0, 0, 0), .null, none)
noncomputable def ze537 : Option xI := some (.if_icmp .lt 12, 3, (0, 0, 0, 0), .null, none)
noncomputable def ze538 : Option xI := some (.getstatic 31, 3, (3, 0, 0, 0), .null, none)
noncomputable def ze539 : Option xI := some (.iload_n 1, 1, (0, 0, 0, 0), .null, some [1, 2])
noncomputable def ze540 : Option xI := some (.if_icmp .ne 37, 3, (0, 0, 0, 0), .null, none)
noncomputable def ze541 : Option xI := some (.bipush 60, 2, (0, 0, 0, 0), .null, none)
noncomputable def ze542 : Option xI := some (.if_icmp .eq 31, 3, (0, 0, 0, 0), .null, none)
noncomputable def ze543 : Option xI := some (.if_icmp .eq 24, 3, (0, 0, 0, 0), .null, none)
noncomputable def ze544 : Option xI := some (.if_icmp .eq 17, 3, (0, 0, 0, 0), .null, none)
noncomputable def ze545 : Option xI := some (.sipush 1800, 3, (0, 0, 0, 0), .null, none)
noncomputable def ze546 : Option xI := some (.sipush 3600, 3, (0, 0, 0, 0), .null, none)
noncomputable def ze547 : Option xI := some (.iload_n 0, 1, (0, 0, 0, 0), .null, none)
noncomputable def ze548 : Option xI := some (.ifCond .lt 10, 3, (0, 0, 0, 0), .null, none)
noncomputable def ze549 : Option xI := some (.if_icmp .gt 5, 3, (0, 0, 0, 0), .null, none)
noncomputable def ze550 : Option xI := some (.iload_n 0, 1, (0, 0, 0, 0), .null, some [0])
noncomputable def ze551 : Option xI := some (.if_icmp .lt 17, 3, (0, 0, 0, 0), .null, none)
noncomputable def ze552 : Option xI := some (.bipush 14, 2, (0, 0, 0, 0), .null, none)
noncomputable def ze553 : Option xI := some (.if_icmp .ge 11, 3, (0, 0, 0, 0), .null, none)
noncomputable def ze554 : Option xI := some (.bipush 20, 2, (0, 0, 0, 0), .null, none)
noncomputable def ze555 : Option xI := some (.if_icmp .gt 11, 3, (0, 0, 0, 0), .null, none)
noncomputable def ze556 : Option xI := some (.iload_n 1, 1, (0, 0, 0, 0), .null, some [0, 1, 2, 3])
noncomputable def ze557 : Option xI := some (.invokestatic 69, 3, (79, 1, 3, 0), .null, none)
noncomputable def ze558 : Option xI := some (.ifCond .eq 20, 3, (0, 0, 0, 0), .null, none)
noncomputable def ze559 : Option xI := some (.invokestatic 73, 3, (80, 1, 3, 0), .null, none)
noncomputable def ze560 : Option xI := some (.ifCond .lt 9, 3, (0, 0, 0, 0), .null, none)
noncomputable def ze561 : Option xI := some (.ldc 76, 2, (0, 0, 0, 0), .int (Int32.ofInt 86400), none)
noncomputable def ze562 : Option xI := some (.getfield 77, 3, (6, 1, 3, 0), .null, none)
noncomputable def ze563 : Option xI := some (.invokevirtual 81, 3, (81, 3, 1, 0), .null, none)
noncomputable def ze564 : Option xI := some (.ifCond .lt 13, 3, (0, 0, 0, 0), .null, none)
noncomputable def ze565 : Option xI := some (.if_icmp .ge 7, 3, (0, 0, 0, 0), .null, none)
noncomputable def ze566 : Option xI := some (.ifCond .lt 12, 3, (0, 0, 0, 0), .null, none)
noncomputable def ze567 : Option xI := some (.invokevirtual 56, 3, (82, 2, 1, 0), .null, none)
noncomputable def ze568 : Option xI := some (.ifCond .eq 18, 3, (0, 0, 0, 0), .null, none)
noncomputable def ze569 : Option xI := some (.aload_n 0, 1, (0, 0, 0, 0), .null, some [0, 1, 2, 3, 4, 5])
noncomputable def ze570 : Option xI := some (.iload 4, 2, (0, 0, 0, 0), .null, some [0, 1, 2, 3, 4, 5])
noncomputable def ze571 : Option xI := some (.iload 6, 2, (0, 0, 0, 0), .null, some [0, 1, 2, 3, 5, 6])
noncomputable def ze572 : Option xI := some (.if_icmp .le 41, 3, (0, 0, 0, 0), .null, none)
noncomputable def ze573 : Option xI := some (.iinc 6 (-1), 3, (0, 0, 0, 0), .null, none)
noncomputable def ze574 : Option xI := some (.goto (-42), 3, (0, 0, 0, 0), .null, none)
noncomputable def ze575 : Option xI := some (.if_icmp .ge 17, 3, (0, 0, 0, 0), .null, none)
noncomputable def ze576 : Option xI := some (.invokevirtual 87, 3, (84, 1, 1, 0), .null, none)
noncomputable def ze577 : Option xI := some (.getfield 25, 3, (11, 3, 3, 0), .null, none)
noncomputable def ze578 : Option xI := some (.invokevirtual 91, 3, (86, 0, 1, 1), .null, none)
noncomputable def ze579 : Option xI := some (.invokevirtual 94, 3, (87, 1, 1, 1), .null, none)
noncomputable def ze580 : Option xI := some (.getfield 97, 3, (1, 3, 0, 0), .null, none)
noncomputable def ze581 : Option xI := some (.getfield 29, 3, (1, 3, 0, 0), .null, none)
noncomputable def ze582 : Option xI := some (.if_icmp .gt 7, 3, (0, 0, 0, 0), .null, none)
noncomputable def ze583 : Option xI := some (.ifCond .lt 45, 3, (0, 0, 0, 0), .null, none)
noncomputable def ze584 : Option xI := some (.if_icmp .ge 35, 3, (0, 0, 0, 0), .null, none)
noncomputable def ze585 : Option xI := some (.getfield 11, 3, (1, 0, 3, 0), .null, none)
noncomputable def ze586 : Option xI := some (.iushr, 1, (0, 0, 0, 0), .null, none)
noncomputable def ze587 : Option xI := some (.sipush 255, 3, (0, 0, 0, 0), .null, none)
noncomputable def ze588 : Option xI := some (.putfield 29, 3, (1, 3, 0, 0), .null, none)
noncomputable def ze589 : Option xI := some (.iinc 2 (-8), 3, (0, 0, 0, 0), .null, none)
noncomputable def ze590 : Option xI := some (.goto (-43), 3, (0, 0, 0, 0), .null, none)
noncomputable def ze591 : Option xI := some (.invokevirtual 100, 3, (89, 1, 1, 1), .null, none)
noncomputable def ze592 : Option xI := some (.ifCond .lt 11, 3, (0, 0, 0, 0), .null, none)
noncomputable def ze593 : Option xI := some (.invokevirtual 103, 3, (91, 0, 1, 1), .null, none)
noncomputable def ze594 : Option xI := some (.invokevirtual 106, 3, (92, 0, 1, 1), .null, none)
noncomputable def ze595 : Option xI := some (.if_icmp .eq 47, 3, (0, 0, 0, 0), .null, none)
noncomputable def ze596 : Option xI := some (.getfield 110, 3, (1, 1, 3, 0), .null, none)
noncomputable def ze597 : Option xI := some (.invokevirtual 113, 3, (111, 1, 1, 0), .null, none)
noncomputable def ze598 : Option xI := some (.getfield 117, 3, (1, 6, 2, 0), .null, none)
noncomputable def ze599 : Option xI := some (.getfield 121, 3, (6, 0, 3, 0), .null, none)
noncomputable def ze600 : Option xI := some (.getfield 125, 3, (1, 2, 3, 0), .null, none)
noncomputable def ze601 : Option xI := some (.invokevirtual 129, 3, (112, 1, 1, 9), .null, none)
noncomputable def ze602 : Option xI := some (.iload_n 1, 1, (0, 0, 0, 0), .null, some [1])
noncomputable def ze603 : Option xI := some (.putfield 32, 3, (1, 4, 0, 0), .null, none)
noncomputable def ze604 : Option xI := some (.getfield 18, 3, (1, 1, 3, 0), .null, none)
noncomputable def ze605 : Option xI := some (.invokevirtual 35, 3, (4, 0, 1, 0), .null, none)
noncomputable def ze606 : Option xI := some (.putfield 38, 3, (1, 6, 2, 0), .null, none)
noncomputable def ze607 : Option xI := some (.putfield 42, 3, (1, 7, 0, 0), .null, none)
noncomputable def ze608 : Option xI := some (.putfield 45, 3, (1, 9, 0, 0), .null, none)
noncomputable def ze609 : Option xI := some (.putfield 48, 3, (1, 10, 0, 0), .null, none)
noncomputable def ze610 : Option xI := some (.invokevirtual 51, 3, (93, 0, 1, 1), .null, none)
noncomputable def ze611 : Option xI := some (.if_icmp .gt 50, 3, (0, 0, 0, 0), .null, none)
noncomputable def ze612 : Option xI := some (.getfield 42, 3, (1, 7, 0, 0), .null, none)
noncomputable def ze613 : Option xI := some (.if_icmp .ge 39, 3, (0, 0, 0, 0), .null, none)
noncomputable def ze614 : Option xI := some (.getfield 32, 3, (1, 4, 0, 0), .null, none)
noncomputable def ze615 : Option xI := some (.ifCond .ne 32, 3, (0, 0, 0, 0), .null, none)
noncomputable def ze616 : Option xI := some (.invokevirtual 54, 3, (94, 0, 1, 1), .null, none)
noncomputable def ze617 : Option xI := some (.ifCond .eq 19, 3, (0, 0, 0, 0), .null, none)
noncomputable def ze618 : Option xI := some (.bipush 59, 2, (0, 0, 0, 0), .null, none)
noncomputable def ze619 : Option xI := some (.invokevirtual 58, 3, (105, 1, 1, 1), .null, none)
noncomputable def ze620 : Option xI := some (.iinc 1 1, 3, (0, 0, 0, 0), .null, none)
noncomputable def ze621 : Option xI := some (.goto (-51), 3, (0, 0, 0, 0), .null, none)
noncomputable def ze622 : Option xI := some (.if_icmp .ne 16, 3, (0, 0, 0, 0), .null, none)
noncomputable def ze623 : Option xI := some (.goto (-35), 3, (0, 0, 0, 0), .null, none)
noncomputable def ze624 : Option xI := some (.invokevirtual 62, 3, (95, 0, 1, 1), .null, none)
noncomputable def ze625 : Option xI := some (.ldc 66, 2, (0, 0, 0, 0), .ref 4, none)
noncomputable def ze626 : Option xI := some (.invokevirtual 68, 3, (96, 2, 1, 1), .null, none)
noncomputable def ze627 : Option xI := some (.invokevirtual 72, 3, (97, 0, 1, 1), .null, none)
noncomputable def ze628 : Option xI := some (.ldc 75, 2, (0, 0, 0, 0), .ref 5, none)
noncomputable def ze629 : Option xI := some (.invokevirtual 77, 3, (106, 0, 1, 1), .null, none)
noncomputable def ze630 : Option xI := some (.ldc 80, 2, (0, 0, 0, 0), .ref 6, none)
noncomputable def ze631 : Option xI := some (.invokevirtual 82, 3, (107, 0, 1, 1), .null, none)
noncomputable def ze632 : Option xI := some (.ldc 85, 2, (0, 0, 0, 0), .ref 7, none)
noncomputable def ze633 : Option xI := some (.invokevirtual 87, 3, (110, 0, 1, 1), .null, none)
noncomputable def ze634 : Option xI := some (.invokevirtual 90, 3, (102, 2, 1, 1), .null, none)
noncomputable def ze635 : Option xI := some (.iload_n 1, 1, (0, 0, 0, 0), .null, some [0, 1])
noncomputable def ze636 : Option xI := some (.if_icmp .ge 31, 3, (0, 0, 0, 0), .null, none)
noncomputable def ze637 : Option xI := some (.bipush 97, 2, (0, 0, 0, 0), .null, none)
noncomputable def ze638 : Option xI := some (.if_icmp .lt 20, 3, (0, 0, 0, 0), .null, none)
noncomputable def ze639 : Option xI := some (.bipush 122, 2, (0, 0, 0, 0), .null, none)
noncomputable def ze640 : Option xI := some (.goto (-33), 3, (0, 0, 0, 0), .null, none)
noncomputable def ze641 : Option xI := some (.invokevirtual 141, 3, (0, 0, 8, 0), .null, none)
noncomputable def ze642 : Option xI := some (.invokevirtual 145, 3, (0, 1, 9, 0), .null, none)
noncomputable def ze643 : Option xI := some (.if_icmp .eq 5, 3, (0, 0, 0, 0), .null, none)
noncomputable def ze644 : Option xI := some (.invokevirtual 94, 3, (98, 1, 1, 1), .null, none)
noncomputable def ze645 : Option xI := some (.getfield 45, 3, (1, 9, 0, 0), .null, none)
noncomputable def ze646 : Option xI := some (.invokevirtual 98, 3, (99, 2, 1, 1), .null, none)
noncomputable def ze647 : Option xI := some (.if_icmp .gt 26, 3, (0, 0, 0, 0), .null, none)
noncomputable def ze648 : Option xI := some (.invokevirtual 102, 3, (103, 0, 1, 1), .null, none)
noncomputable def ze649 : Option xI := some (.invokevirtual 105, 3, (104, 1, 1, 1), .null, none)
noncomputable def ze650 : Option xI := some (.goto (-26), 3, (0, 0, 0, 0), .null, none)
noncomputable def ze651 : Option xI := some (.invokevirtual 109, 3, (100, 1, 1, 1), .null, none)
noncomputable def ze652 : Option xI := some (.if_icmp .ne 15, 3, (0, 0, 0, 0), .null, none)
noncomputable def ze653 : Option xI := some (.getfield 116, 3, (1, 8, 0, 0), .null, none)
noncomputable def ze654 : Option xI := some (.pop, 1, (0, 0, 0, 0), .null, none)
noncomputable def ze655 : Option xI := some (.iload_n 3, 1, (0, 0, 0, 0), .null, some [3])
noncomputable def ze656 : Option xI := some (.putfield 116, 3, (1, 8, 0, 0), .null, none)
noncomputable def ze657 : Option xI := some (.if_icmp .ge 54, 3, (0, 0, 0, 0), .null, none)
noncomputable def ze658 : Option xI := some (.invokestatic 149, 3, (101, 1, 3, 0), .null, none)
noncomputable def ze659 : Option xI := some (.ifCond .eq 39, 3, (0, 0, 0, 0), .null, none)
noncomputable def ze660 : Option xI := some (.ldc 152, 2, (0, 0, 0, 0), .int (Int32.ofInt 1000000), none)
noncomputable def ze661 : Option xI := some (.invokestatic 153, 3, (0, 2, 11, 0), .null, none)
noncomputable def ze662 : Option xI := some (.goto (-59), 3, (0, 0, 0, 0), .null, none)
noncomputable def ze663 : Option xI := some (.if_icmp .le 15, 3, (0, 0, 0, 0), .null, none)
noncomputable def ze664 : Option xI := some (.if_icmp .lt 13, 3, (0, 0, 0, 0), .null, none)
noncomputable def ze665 : Option xI := some (.bipush 57, 2, (0, 0, 0, 0), .null, none)
noncomputable def ze666 : Option xI := some (.bipush 23, 2, (0, 0, 0, 0), .null, none)
noncomputable def ze667 : Option xI := some (.getfield 113, 3, (0, 0, 3, 0), .null, none)
noncomputable def ze668 : Option xI := some (.bipush 58, 2, (0, 0, 0, 0), .null, none)
noncomputable def ze669 : Option xI := some (.invokevirtual 119, 3, (82, 2, 1, 0), .null, none)
noncomputable def ze670 : Option xI := some (.aload_n 0, 1, (0, 0, 0, 0), .null, some [0, 1, 4])
noncomputable def ze671 : Option xI := some (.aload_n 0, 1, (0, 0, 0, 0), .null, some [0, 1, 4, 5])
noncomputable def ze672 : Option xI := some (.invokevirtual 122, 3, (81, 3, 1, 0), .null, none)
noncomputable def ze673 : Option xI := some (.if_icmp .ge 16, 3, (0, 0, 0, 0), .null, none)
noncomputable def ze674 : Option xI := some (.if_icmp .eq 13, 3, (0, 0, 0, 0), .null, none)
noncomputable def ze675 : Option xI := some (.getfield 48, 3, (1, 10, 0, 0), .null, none)
noncomputable def ze676 : Option xI := some (.sipush 364, 3, (0, 0, 0, 0), .null, none)
noncomputable def ze677 : Option xI := some (.getfield 126, 3, (0, 3, 3, 0), .null, none)
noncomputable def ze678 : Option xI := some (.iload_n 3, 1, (0, 0, 0, 0), .null, some [0, 1, 3])
noncomputable def ze679 : Option xI := some (.if_icmp .ge 41, 3, (0, 0, 0, 0), .null, none)
noncomputable def ze680 : Option xI := some (.getfield 129, 3, (0, 4, 3, 0), .null, none)
noncomputable def ze681 : Option xI := some (.goto (-41), 3, (0, 0, 0, 0), .null, none)
noncomputable def ze682 : Option xI := some (.getfield 132, 3, (0, 7, 0, 0), .null, none)
noncomputable def ze683 : Option xI := some (.invokevirtual 135, 3, (108, 1, 1, 0), .null, none)
noncomputable def ze684 : Option xI := some (.invokevirtual 138, 3, (109, 2, 1, 0), .null, none)
noncomputable def ze685 : Option xI := some (.if_icmp .eq 7, 3, (0, 0, 0, 0), .null, none)
noncomputable def ze686 : Option xI := some (.if_icmp .ne 29, 3, (0, 0, 0, 0), .null, none)
noncomputable def ze687 : Option xI := some (.getfield 38, 3, (1, 6, 2, 0), .null, none)
noncomputable def ze688 : Option xI := some (.bipush 100, 2, (0, 0, 0, 0), .null, none)
noncomputable def ze689 : Option xI := some (.getfield 22, 3, (1, 2, 3, 0), .null, none)
noncomputable def ze690 : Option xI := some (.invokestatic 46, 3, (0, 5, 7, 0), .null, none)
noncomputable def ze691 : Option xI := some (.ifCond .ne 11, 3, (0, 0, 0, 0), .null, none)
noncomputable def ze692 : Option xI := some (.getfield 135, 3, (1, 4, 0, 0), .null, none)
noncomputable def ze693 : Option xI := some (.if_icmp .ne 13, 3, (0, 0, 0, 0), .null, none)
noncomputable def ze694 : Option xI := some (.getfield 138, 3, (1, 5, 0, 0), .null, none)
noncomputable def ze695 : Option xI := some (.invokevirtual 141, 3, (115, 1, 1, 8), .null, none)
noncomputable def ze696 : Option xI := some (.bipush 30, 2, (0, 0, 0, 0), .null, none)
noncomputable def ze697 : Option xI := some (.invokevirtual 144, 3, (54, 2, 1, 6), .null, none)
noncomputable def ze698 : Option xI := some (.ifCond .ne 14, 3, (0, 0, 0, 0), .null, none)
noncomputable def ze699 : Option xI := some (.sipush 9999, 3, (0, 0, 0, 0), .null, none)
noncomputable def ze700 : Option xI := some (.putfield 7, 3, (8, 0, 2, 0), .null, none)
noncomputable def ze701 : Option xI := some (.putfield 13, 3, (8, 1, 0, 0), .null, none)
noncomputable def ze702 : Option xI := some (.invokevirtual 148, 3, (117, 1, 1, 6), .null, none)
noncomputable def ze703 : Option xI := some (.getfield 70, 3, (6, 8, 3, 0), .null, none)
noncomputable def ze704 : Option xI := some (.getfield 152, 3, (8, 0, 2, 0), .null, none)
noncomputable def ze705 : Option xI := some (.ifCond .eq 17, 3, (0, 0, 0, 0), .null, none)
noncomputable def ze706 : Option xI := some (.invokevirtual 155, 3, (118, 1, 1, 8), .null, none)
noncomputable def ze707 : Option xI := some (.getfield 159, 3, (8, 1, 0, 0), .null, none)
noncomputable def ze708 : Option xI := some (.if_icmp .ne 19, 3, (0, 0, 0, 0), .null, none)
noncomputable def ze709 : Option xI := some (.invokevirtual 162, 3, (119, 0, 1, 8), .null, none)
noncomputable def ze710 : Option xI := some (.bipush 31, 2, (0, 0, 0, 0), .null, none)
noncomputable def ze711 : Option xI := some (.getfield 168, 3, (8, 2, 0, 0), .null, none)
noncomputable def ze712 : Option xI := some (.putfield 168, 3, (8, 2, 0, 0), .null, none)
noncomputable def ze713 : Option xI := some (.invokevirtual 171, 3, (120, 0, 1, 8), .null, none)
noncomputable def ze714 : Option xI := some (.ifCond .eq 21, 3, (0, 0, 0, 0), .null, none)
noncomputable def ze715 : Option xI := some (.invokevirtual 175, 3, (121, 1, 1, 8), .null, none)
noncomputable def ze716 : Option xI := some (.bipush 33, 2, (0, 0, 0, 0), .null, none)
noncomputable def ze717 : Option xI := some (.getfield 23, 3, (8, 4, 0, 0), .null, none)
noncomputable def ze718 : Option xI := some (.invokestatic 26, 3, (0, 2, 10, 0), .null, none)
noncomputable def ze719 : Option xI := some (.putfield 17, 3, (8, 2, 0, 0), .null, none)
noncomputable def ze720 : Option xI := some (.putfield 23, 3, (8, 4, 0, 0), .null, none)
noncomputable def ze721 : Option xI := some (.getfield 17, 3, (8, 2, 0, 0), .null, none)
noncomputable def ze722 : Option xI := some (.if_icmp .lt 7, 3, (0, 0, 0, 0), .null, none)
noncomputable def ze723 : Option xI := some (.invokestatic 151, 3, (123, 1, 3, 0), .null, none)
noncomputable def ze724 : Option xI := some (.getfield 154, 3, (0, 3, 3, 0), .null, none)
noncomputable def ze725 : Option xI := some (.ifCond .ne 17, 3, (0, 0, 0, 0), .null, none)
noncomputable def ze726 : Option xI := some (.getfield 157, 3, (0, 4, 3, 0), .null, none)
noncomputable def ze727 : Option xI := some (.invokevirtual 160, 3, (126, 1, 1, 0), .null, none)
noncomputable def ze728 : Option xI := some (.ifCond .eq 22, 3, (0, 0, 0, 0), .null, none)
noncomputable def ze729 : Option xI := some (.invokevirtual 163, 3, (109, 2, 1, 0), .null, none)
noncomputable def ze730 : Option xI := some (.aload_n 0, 1, (0, 0, 0, 0), .null, some [0, 2])
noncomputable def ze731 : Option xI := some (.invokestatic 166, 3, (128, 1, 3, 0), .null, none)
noncomputable def ze732 : Option xI := some (.invokevirtual 169, 3, (129, 1, 1, 6), .null, none)
noncomputable def ze733 : Option xI := some (.ldc 176, 2, (0, 0, 0, 0), .int (Int32.ofInt 2000000000), none)
noncomputable def ze734 : Option xI := some (.putfield 179, 3, (3, 9, 0, 0), .null, none)
noncomputable def ze735 : Option xI := some (.if_icmp .lt 23, 3, (0, 0, 0, 0), .null, none)
noncomputable def ze736 : Option xI := some (.ldc 172, 2, (0, 0, 0, 0), .int (Int32.ofInt 100000), none)
noncomputable def ze737 : Option xI := some (.getfield 173, 3, (6, 9, 0, 0), .null, none)
noncomputable def ze738 : Option xI := some (.invokevirtual 177, 3, (131, 1, 1, 6), .null, none)
noncomputable def ze739 : Option xI := some (.bipush 21, 2, (0, 0, 0, 0), .null, none)
noncomputable def ze740 : Option xI := some (.invokevirtual 189, 3, (132, 2, 1, 5), .null, none)
noncomputable def ze741 : Option xI := some (.putfield 193, 3, (10, 5, 0, 0), .null, none)
noncomputable def ze742 : Option xI := some (.if_icmp .ge 87, 3, (0, 0, 0, 0), .null, none)
noncomputable def ze743 : Option xI := some (.ifCond .le 83, 3, (0, 0, 0, 0), .null, none)
noncomputable def ze744 : Option xI := some (.invokevirtual 205, 3, (133, 2, 1, 3), .null, none)
noncomputable def ze745 : Option xI := some (.getfield 123, 3, (6, 15, 0, 0), .null, none)
noncomputable def ze746 : Option xI := some (.putfield 123, 3, (6, 15, 0, 0), .null, none)
noncomputable def ze747 : Option xI := some (.goto (-87), 3, (0, 0, 0, 0), .null, none)
noncomputable def ze748 : Option xI := some (.if_icmp .ge 32, 3, (0, 0, 0, 0), .null, none)
noncomputable def ze749 : Option xI := some (.goto (-31), 3, (0, 0, 0, 0), .null, none)
noncomputable def ze750 : Option xI := some (.ifCond .lt 23, 3, (0, 0, 0, 0), .null, none)
noncomputable def ze751 : Option xI := some (.getfield 182, 3, (6, 6, 3, 0), .null, none)
noncomputable def ze752 : Option xI := some (.invokevirtual 186, 3, (40, 1, 1, 5), .null, none)
noncomputable def ze753 : Option xI := some (.getfield 189, 3, (6, 7, 3, 0), .null, none)
noncomputable def ze754 : Option xI := some (.invokevirtual 193, 3, (57, 4, 1, 5), .null, none)
noncomputable def ze755 : Option xI := some (.getfield 197, 3, (6, 11, 2, 0), .null, none)
noncomputable def ze756 : Option xI := some (.putfield 197, 3, (6, 11, 2, 0), .null, none)
noncomputable def ze757 : Option xI := some (.invokevirtual 200, 3, (53, 0, 1, 6), .null, none)
noncomputable def ze758 : Option xI := some (.ldc 203, 2, (0, 0, 0, 0), .int (Int32.ofInt 1000000000), none)
noncomputable def ze759 : Option xI := some (.ldc2_w 204, 3, (0, 0, 0, 0), .long (Int64.ofInt (-10000000000)), some [])
noncomputable def ze760 : Option xI := some (.getfield 206, 3, (6, 10, 1, 0), .null, none)
noncomputable def ze761 : Option xI := some (.putfield 206, 3, (6, 10, 1, 0), .null, none)
noncomputable def ze762 : Option xI := some (.invokevirtual 210, 3, (138, 0, 1, 6), .null, none)
noncomputable def ze763 : Option xI := some (.getfield 213, 3, (6, 3, 3, 0), .null, none)
noncomputable def ze764 : Option xI := some (.getfield 217, 3, (7, 3, 0, 0), .null, none)
noncomputable def ze765 : Option xI := some (.invokevirtual 182, 3, (139, 2, 1, 7), .null, none)
noncomputable def ze766 : Option xI := some (.invokevirtual 186, 3, (10, 0, 1, 2), .null, none)
noncomputable def ze767 : Option xI := some (.getfield 27, 3, (7, 3, 0, 0), .null, none)
noncomputable def ze768 : Option xI := some (.if_icmp .ge 47, 3, (0, 0, 0, 0), .null, none)
noncomputable def ze769 : Option xI := some (.getfield 18, 3, (7, 2, 3, 0), .null, none)
noncomputable def ze770 : Option xI := some (.getfield 15, 3, (7, 1, 3, 0), .null, none)
noncomputable def ze771 : Option xI := some (.goto (-48), 3, (0, 0, 0, 0), .null, none)
noncomputable def ze772 : Option xI := some (.aload_n 2, 1, (0, 0, 0, 0), .null, some [0, 1, 2, 3])
noncomputable def ze773 : Option xI := some (.getfield 47, 3, (2, 0, 3, 0), .null, none)
noncomputable def ze774 : Option xI := some (.invokestatic 21, 3, (0, 5, 7, 0), .null, none)
noncomputable def ze775 : Option xI := some (.putfield 27, 3, (7, 3, 0, 0), .null, none)
noncomputable def ze776 : Option xI := some (.if_icmp .lt 27, 3, (0, 0, 0, 0), .null, none)
noncomputable def ze777 : Option xI := some (.getfield 222, 3, (10, 3, 0, 0), .null, none)
noncomputable def ze778 : Option xI := some (.invokevirtual 225, 3, (141, 2, 1, 10), .null, none)
noncomputable def ze779 : Option xI := some (.istore_n 3, 1, (0, 0, 0, 0), .null, some [0, 1, 2])
noncomputable def ze780 : Option xI := some (.tableswitch 80 4 8 #[34, 40, 55, 62, 69], 34, (0, 0, 0, 0), .null, none)
noncomputable def ze781 : Option xI := some (.lload 4, 2, (0, 0, 0, 0), .null, some [0, 3, 4])
noncomputable def ze782 : Option xI := some (.invokestatic 63, 3, (51, 2, 3, 0), .null, none)
noncomputable def ze783 : Option xI := some (.invokevirtual 67, 3, (142, 2, 1, 10), .null, none)
noncomputable def ze784 : Option xI := some (.invokestatic 71, 3, (143, 2, 3, 0), .null, none)
noncomputable def ze785 : Option xI := some (.iload_n 2, 1, (0, 0, 0, 0), .null, some [0, 2, 3])
noncomputable def ze786 : Option xI := some (.ifCond .lt 21, 3, (0, 0, 0, 0), .null, none)
noncomputable def ze787 : Option xI := some (.if_icmp .gt 16, 3, (0, 0, 0, 0), .null, none)
noncomputable def ze788 : Option xI := some (.goto 6, 3, (0, 0, 0, 0), .null, none)
noncomputable def ze789 : Option xI := some (.ldc2_w 75, 3, (0, 0, 0, 0), .long (Int64.ofInt (-1)), some [])
noncomputable def ze790 : Option xI := some (.lreturn, 1, (0, 0, 0, 0), .null, some [])
noncomputable def ze791 : Option xI := some (.if_icmp .ge 36, 3, (0, 0, 0, 0), .null, none)
noncomputable def ze792 : Option xI := some (.lload_n 3, 1, (0, 0, 0, 0), .null, some [0, 1, 2, 3, 5])
noncomputable def ze793 : Option xI := some (.invokestatic 79, 3, (0, 2, 12, 0), .null, none)
noncomputable def ze794 : Option xI := some (.iinc 5 1, 3, (0, 0, 0, 0), .null, some [0, 1, 2, 3, 5])
noncomputable def ze795 : Option xI := some (.goto (-39), 3, (0, 0, 0, 0), .null, none)
noncomputable def ze796 : Option xI := some (.lload_n 3, 1, (0, 0, 0, 0), .null, some [0, 3])
noncomputable def ze797 : Option xI := some (.invokestatic 84, 3, (0, 2, 10, 0), .null, none)
noncomputable def ze798 : Option xI := some (.ldc2_w 77, 3, (0, 0, 0, 0), .long (Int64.ofInt 1000), some [0, 2])
noncomputable def ze799 : Option xI := some (.invokestatic 229, 3, (145, 1, 3, 0), .null, none)
noncomputable def ze800 : Option xI := some (.invokestatic 232, 3, (146, 1, 3, 0), .null, none)
noncomputable def ze801 : Option xI := some (.invokevirtual 235, 3, (71, 2, 1, 7), .null, none)
noncomputable def ze802 : Option xI := some (.invokevirtual 238, 3, (48, 0, 1, 9), .null, none)
noncomputable def ze803 : Option xI := some (.invokevirtual 241, 3, (27, 1, 1, 0), .null, none)
noncomputable def ze804 : Option xI := some (.invokestatic 244, 3, (150, 1, 3, 0), .null, none)
noncomputable def ze805 : Option xI := some (.invokevirtual 247, 3, (28, 1, 1, 0), .null, none)
noncomputable def ze806 : Option xI := some (.ifCond .lt 14, 3, (0, 0, 0, 0), .null, none)
noncomputable def ze807 : Option xI := some (.sipush 23148, 3, (0, 0, 0, 0), .null, none)
noncomputable def ze808 : Option xI := some (.getfield 250, 3, (0, 0, 3, 0), .null, none)
noncomputable def ze809 : Option xI := some (.iload_n 2, 1, (0, 0, 0, 0), .null, some [0, 1, 2, 3, 4])
noncomputable def ze810 : Option xI := some (.ifCond .lt 18, 3, (0, 0, 0, 0), .null, none)
noncomputable def ze811 : Option xI := some (.if_icmp .ge 12, 3, (0, 0, 0, 0), .null, none)
noncomputable def ze812 : Option xI := some (.ifCond .lt 8, 3, (0, 0, 0, 0), .null, none)
noncomputable def ze813 : Option xI := some (.ifCond .ne 19, 3, (0, 0, 0, 0), .null, none)
noncomputable def ze814 : Option xI := some (.getfield 253, 3, (0, 1, 3, 0), .null, none)
noncomputable def ze815 : Option xI := some (.aload_n 0, 1, (0, 0, 0, 0), .null, some [0, 5])
noncomputable def ze816 : Option xI := some (.getfield 256, 3, (0, 2, 3, 0), .null, none)
noncomputable def ze817 : Option xI := some (.invokevirtual 259, 3, (153, 1, 1, 0), .null, none)
noncomputable def ze818 : Option xI := some (.ldc 74, 2, (0, 0, 0, 0), .int (Int32.ofInt 2000000000), none)
noncomputable def ze819 : Option xI := some (.invokestatic 75, 3, (0, 2, 11, 0), .null, none)
noncomputable def ze820 : Option xI := some (.invokevirtual 80, 3, (27, 1, 1, 0), .null, none)
noncomputable def ze821 : Option xI := some (.invokevirtual 83, 3, (37, 1, 1, 0), .null, none)
noncomputable def ze822 : Option xI := some (.iload 5, 2, (0, 0, 0, 0), .null, some [0, 2, 3, 4, 5])
noncomputable def ze823 : Option xI := some (.bipush 105, 2, (0, 0, 0, 0), .null, none)
noncomputable def ze824 : Option xI := some (.if_icmp .gt 30, 3, (0, 0, 0, 0), .null, none)
noncomputable def ze825 : Option xI := some (.if_icmp .eq 6, 3, (0, 0, 0, 0), .null, none)
noncomputable def ze826 : Option xI := some (.aload_n 0, 1, (0, 0, 0, 0), .null, some [0, 2, 3, 4, 5])
noncomputable def ze827 : Option xI := some (.goto (-37), 3, (0, 0, 0, 0), .null, none)
noncomputable def ze828 : Option xI := some (.tableswitch 91 0 3 #[32, 52, 65, 78], 32, (0, 0, 0, 0), .null, none)
noncomputable def ze829 : Option xI := some (.getfield 262, 3, (5, 0, 3, 0), .null, none)
noncomputable def ze830 : Option xI := some (.getfield 265, 3, (5, 1, 3, 0), .null, none)
noncomputable def ze831 : Option xI := some (.getfield 266, 3, (5, 2, 3, 0), .null, none)
noncomputable def ze832 : Option xI := some (.getfield 269, 3, (6, 4, 3, 0), .null, none)
noncomputable def ze833 : Option xI := some (.invokevirtual 273, 3, (66, 0, 1, 3), .null, none)
noncomputable def ze834 : Option xI := some (.invokevirtual 278, 3, (67, 2, 1, 3), .null, none)
noncomputable def ze835 : Option xI := some (.tableswitch 118 0 5 #[39, 50, 61, 72, 84, 96], 39, (0, 0, 0, 0), .null, none)
noncomputable def ze836 : Option xI := some (.getfield 281, 3, (3, 3, 1, 0), .null, none)
noncomputable def ze837 : Option xI := some (.getfield 284, 3, (3, 4, 1, 0), .null, none)
noncomputable def ze838 : Option xI := some (.getfield 287, 3, (3, 5, 1, 0), .null, none)
noncomputable def ze839 : Option xI := some (.getfield 290, 3, (3, 6, 0, 0), .null, none)
noncomputable def ze840 : Option xI := some (.getfield 293, 3, (3, 7, 0, 0), .null, none)
noncomputable def ze841 : Option xI := some (.invokevirtual 296, 3, (36, 0, 1, 9), .null, none)
noncomputable def ze842 : Option xI := some (.invokevirtual 299, 3, (61, 1, 1, 3), .null, none)
noncomputable def ze843 : Option xI := some (.getfield 302, 3, (6, 5, 3, 0), .null, none)
noncomputable def ze844 : Option xI := some (.getfield 306, 3, (2, 2, 1, 0), .null, none)
noncomputable def ze845 : Option xI := some (.if_icmp .ne 17, 3, (0, 0, 0, 0), .null, none)
noncomputable def ze846 : Option xI := some (.getfield 311, 3, (2, 3, 0, 0), .null, none)
noncomputable def ze847 : Option xI := some (.ldc2_w 60, 3, (0, 0, 0, 0), .long (Int64.ofInt (-1)), none)
noncomputable def ze848 : Option xI := some (.ifCond .ne 16, 3, (0, 0, 0, 0), .null, none)
noncomputable def ze849 : Option xI := some (.getfield 314, 3, (2, 0, 3, 0), .null, none)
noncomputable def ze850 : Option xI := some (.getfield 318, 3, (2, 1, 3, 0), .null, none)
noncomputable def ze851 : Option xI := some (.invokevirtual 321, 3, (160, 1, 1, 7), .null, none)
noncomputable def ze852 : Option xI := some (.invokevirtual 324, 3, (161, 3, 1, 7), .null, none)
noncomputable def ze853 : Option xI := some (.ifCond .lt 20, 3, (0, 0, 0, 0), .null, none)
noncomputable def ze854 : Option xI := some (.invokestatic 52, 3, (0, 2, 11, 0), .null, none)
noncomputable def ze855 : Option xI := some (.invokevirtual 56, 3, (162, 1, 1, 7), .null, none)
noncomputable def ze856 : Option xI := some (.invokevirtual 328, 3, (164, 1, 1, 7), .null, none)
noncomputable def ze857 : Option xI := some (.goto 17, 3, (0, 0, 0, 0), .null, none)
noncomputable def ze858 : Option xI := some (.invokevirtual 331, 3, (165, 2, 1, 7), .null, none)
noncomputable def ze859 : Option xI := some (.invokevirtual 334, 3, (167, 2, 1, 7), .null, none)
noncomputable def ze860 : Option xI := some (.ldc2_w 338, 3, (0, 0, 0, 0), .long (Int64.ofInt 100), none)
noncomputable def ze861 : Option xI := some (.invokestatic 340, 3, (169, 2, 3, 0), .null, none)
noncomputable def ze862 : Option xI := some (.lload 5, 2, (0, 0, 0, 0), .null, some [5, 7])
noncomputable def ze863 : Option xI := some (.lload 7, 2, (0, 0, 0, 0), .null, some [7])
noncomputable def ze864 : Option xI := some (.iload 7, 2, (0, 0, 0, 0), .null, some [0, 1, 2, 3, 5, 7])
noncomputable def ze865 : Option xI := some (.if_icmp .ge 42, 3, (0, 0, 0, 0), .null, none)
noncomputable def ze866 : Option xI := some (.invokevirtual 60, 3, (161, 3, 1, 7), .null, none)
noncomputable def ze867 : Option xI := some (.aload_n 2, 1, (0, 0, 0, 0), .null, none)
noncomputable def ze868 : Option xI := some (.invokevirtual 64, 3, (43, 1, 1, 9), .null, none)
noncomputable def ze869 : Option xI := some (.invokevirtual 69, 3, (165, 2, 1, 7), .null, none)
noncomputable def ze870 : Option xI := some (.invokestatic 73, 3, (0, 2, 12, 0), .null, none)
noncomputable def ze871 : Option xI := some (.invokevirtual 77, 3, (168, 1, 1, 9), .null, none)
noncomputable def ze872 : Option xI := some (.ldc2_w 80, 3, (0, 0, 0, 0), .long (Int64.ofInt 100), none)
noncomputable def ze873 : Option xI := some (.goto 9, 3, (0, 0, 0, 0), .null, none)
noncomputable def ze874 : Option xI := some (.iload 8, 2, (0, 0, 0, 0), .null, some [4, 6, 8])
noncomputable def ze875 : Option xI := some (.sipush 200, 3, (0, 0, 0, 0), .null, none)
noncomputable def ze876 : Option xI := some (.ifCond .eq 24, 3, (0, 0, 0, 0), .null, none)
noncomputable def ze877 : Option xI := some (.lrem, 1, (0, 0, 0, 0), .null, none)
noncomputable def ze878 : Option xI := some (.iinc 8 1, 3, (0, 0, 0, 0), .null, none)
noncomputable def ze879 : Option xI := some (.lload 4, 2, (0, 0, 0, 0), .null, some [4])
noncomputable def ze880 : Option xI := some (.lconst 1, 1, (0, 0, 0, 0), .null, some [])
noncomputable def ze881 : Option xI := some (.if_icmp .gt 13, 3, (0, 0, 0, 0), .null, none)
noncomputable def ze882 : Option xI := some (.getfield 19, 3, (11, 2, 3, 0), .null, none)
noncomputable def ze883 : Option xI := some (.invokevirtual 344, 3, (171, 1, 1, 6), .null, none)
noncomputable def ze884 : Option xI := some (.tableswitch 103 0 5 #[38, 47, 56, 64, 75, 87], 38, (0, 0, 0, 0), .null, none)
noncomputable def ze885 : Option xI := some (.invokevirtual 347, 3, (180, 0, 1, 2), .null, none)
noncomputable def ze886 : Option xI := some (.getfield 351, 3, (5, 3, 0, 0), .null, none)
noncomputable def ze887 : Option xI := some (.getfield 354, 3, (6, 12, 2, 0), .null, none)
noncomputable def ze888 : Option xI := some (.lconst 0, 1, (0, 0, 0, 0), .null, some [])
noncomputable def ze889 : Option xI := some (.invokevirtual 74, 3, (172, 1, 1, 9), .null, none)
noncomputable def ze890 : Option xI := some (.invokevirtual 78, 3, (111, 1, 1, 0), .null, none)
noncomputable def ze891 : Option xI := some (.invokevirtual 81, 3, (173, 1, 1, 10), .null, none)
noncomputable def ze892 : Option xI := some (.invokevirtual 84, 3, (174, 1, 1, 7), .null, none)
noncomputable def ze893 : Option xI := some (.invokevirtual 87, 3, (175, 1, 1, 3), .null, none)
noncomputable def ze894 : Option xI := some (.invokevirtual 90, 3, (176, 1, 1, 2), .null, none)
noncomputable def ze895 : Option xI := some (.invokevirtual 93, 3, (177, 1, 1, 5), .null, none)
noncomputable def ze896 : Option xI := some (.invokevirtual 96, 3, (178, 1, 1, 4), .null, none)
noncomputable def ze897 : Option xI := some (.invokevirtual 99, 3, (179, 1, 1, 8), .null, none)
noncomputable def ze898 : Option xI := some (.putfield 110, 3, (6, 11, 2, 0), .null, none)
noncomputable def ze899 : Option xI := some (.invokestatic 29, 3, (0, 5, 7, 0), .null, none)
noncomputable def ze900 : Option xI := some (.getfield 38, 3, (10, 6, 1, 0), .null, none)
noncomputable def ze901 : Option xI := some (.invokestatic 41, 3, (0, 5, 7, 0), .null, none)
noncomputable def ze902 : Option xI := some (.invokestatic 19, 3, (0, 5, 7, 0), .null, none)
noncomputable def ze903 : Option xI := some (.invokestatic 13, 3, (0, 5, 7, 0), .null, none)
noncomputable def ze904 : Option xI := some (.getfield 13, 3, (8, 1, 0, 0), .null, none)
noncomputable def ze905 : Option xI := some (.lstore_n 1, 1, (0, 0, 0, 0), .null, none)
noncomputable def ze906 : Option xI := some (.if_icmp .ge 20, 3, (0, 0, 0, 0), .null, none)
noncomputable def ze907 : Option xI := some (.invokestatic 66, 3, (0, 2, 12, 0), .null, none)
noncomputable def ze908 : Option xI := some (.goto (-19), 3, (0, 0, 0, 0), .null, none)
noncomputable def ze909 : Option xI := some (.lload_n 1, 1, (0, 0, 0, 0), .null, some [1])
noncomputable def ze910 : Option xI := some (.if_icmp .gt 19, 3, (0, 0, 0, 0), .null, none)
noncomputable def ze911 : Option xI := some (.invokevirtual 357, 3, (182, 3, 1, 0), .null, none)
noncomputable def ze912 : Option xI := some (.iload 8, 2, (0, 0, 0, 0), .null, some [0, 2, 3, 4, 5, 6, 8])
noncomputable def ze913 : Option xI := some (.if_icmp .ge 56, 3, (0, 0, 0, 0), .null, none)
noncomputable def ze914 : Option xI := some (.if_icmp .ge 49, 3, (0, 0, 0, 0), .null, none)
noncomputable def ze915 : Option xI := some (.istore 9, 2, (0, 0, 0, 0), .null, none)
noncomputable def ze916 : Option xI := some (.invokevirtual 86, 3, (43, 1, 1, 9), .null, none)
noncomputable def ze917 : Option xI := some (.iload 9, 2, (0, 0, 0, 0), .null, none)
noncomputable def ze918 : Option xI := some (.goto (-56), 3, (0, 0, 0, 0), .null, none)
noncomputable def ze919 : Option xI := some (.lload 6, 2, (0, 0, 0, 0), .null, some [6])
noncomputable def ze920 : Option xI := some (.if_icmp .lt 18, 3, (0, 0, 0, 0), .null, none)
noncomputable def ze921 : Option xI := some (.if_icmp .gt 12, 3, (0, 0, 0, 0), .null, none)
noncomputable def ze922 : Option xI := some (.ldc_w 361, 3, (0, 0, 0, 0), .int (Int32.ofInt 85500), none)
noncomputable def ze923 : Option xI := some (.iload 6, 2, (0, 0, 0, 0), .null, some [0, 1, 2, 3, 4, 6])
noncomputable def ze924 : Option xI := some (.bipush 96, 2, (0, 0, 0, 0), .null, none)
noncomputable def ze925 : Option xI := some (.if_icmp .ge 62, 3, (0, 0, 0, 0), .null, none)
noncomputable def ze926 : Option xI := some (.ifCond .ge 10, 3, (0, 0, 0, 0), .null, none)
noncomputable def ze927 : Option xI := some (.iinc 6 1, 3, (0, 0, 0, 0), .null, some [0, 1, 2, 3, 4, 6])
noncomputable def ze928 : Option xI := some (.goto (-63), 3, (0, 0, 0, 0), .null, none)
noncomputable def ze929 : Option xI := some (.iload_n 2, 1, (0, 0, 0, 0), .null, some [2, 3, 4])
noncomputable def ze930 : Option xI := some (.invokevirtual 362, 3, (185, 1, 1, 6), .null, none)
noncomputable def ze931 : Option xI := some (.if_icmp .ge 33, 3, (0, 0, 0, 0), .null, none)
noncomputable def ze932 : Option xI := some (.if_icmp .ge 28, 3, (0, 0, 0, 0), .null, none)
noncomputable def ze933 : Option xI := some (.goto (-32), 3, (0, 0, 0, 0), .null, none)
noncomputable def ze934 : Option xI := some (.getfield 365, 3, (3, 1, 3, 0), .null, none)
noncomputable def ze935 : Option xI := some (.if_icmp .lt 26, 3, (0, 0, 0, 0), .null, none)
noncomputable def ze936 : Option xI := some (.invokevirtual 368, 3, (188, 1, 1, 3), .null, none)
noncomputable def ze937 : Option xI := some (.ifCond .ne 18, 3, (0, 0, 0, 0), .null, none)
noncomputable def ze938 : Option xI := some (.invokevirtual 371, 3, (68, 2, 1, 3), .null, none)
noncomputable def ze939 : Option xI := some (.invokevirtual 68, 3, (68, 2, 1, 3), .null, none)
noncomputable def ze940 : Option xI := some (.iload 7, 2, (0, 0, 0, 0), .null, some [0, 1, 2, 4, 6, 7])
noncomputable def ze941 : Option xI := some (.invokevirtual 71, 3, (66, 0, 1, 3), .null, none)
noncomputable def ze942 : Option xI := some (.if_icmp .gt 47, 3, (0, 0, 0, 0), .null, none)
noncomputable def ze943 : Option xI := some (.iinc 7 1, 3, (0, 0, 0, 0), .null, some [0, 1, 2, 4, 6, 7])
noncomputable def ze944 : Option xI := some (.iload 6, 2, (0, 0, 0, 0), .null, some [6])
noncomputable def ze945 : Option xI := some (.ifCond .le 27, 3, (0, 0, 0, 0), .null, none)
noncomputable def ze946 : Option xI := some (.ifCond .gt 19, 3, (0, 0, 0, 0), .null, none)
noncomputable def ze947 : Option xI := some (.iinc 6 1, 3, (0, 0, 0, 0), .null, some [0, 1, 2, 3, 5, 6])
noncomputable def ze948 : Option xI := some (.goto (-57), 3, (0, 0, 0, 0), .null, none)
noncomputable def ze949 : Option xI := some (.ifCond .lt 26, 3, (0, 0, 0, 0), .null, none)
noncomputable def ze950 : Option xI := some (.invokevirtual 374, 3, (191, 0, 1, 4), .null, none)
noncomputable def ze951 : Option xI := some (.invokevirtual 377, 3, (192, 2, 1, 4), .null, none)
noncomputable def ze952 : Option xI := some (.invokestatic 23, 3, (0, 2, 11, 0), .null, none)
noncomputable def ze953 : Option xI := some (.invokevirtual 380, 3, (194, 2, 1, 0), .null, none)
noncomputable def ze954 : Option xI := some (.if_icmp .ge 48, 3, (0, 0, 0, 0), .null, none)
noncomputable def ze955 : Option xI := some (.if_icmp .ne 18, 3, (0, 0, 0, 0), .null, none)
noncomputable def ze956 : Option xI := some (.aload_n 0, 1, (0, 0, 0, 0), .null, some [0, 1, 2, 3, 4, 7])
noncomputable def ze957 : Option xI := some (.goto (-55), 3, (0, 0, 0, 0), .null, none)
noncomputable def ze958 : Option xI := some (.iload 6, 2, (0, 0, 0, 0), .null, some [2, 4, 5, 6])
noncomputable def ze959 : Option xI := some (.if_icmp .ne 14, 3, (0, 0, 0, 0), .null, none)
noncomputable def ze960 : Option xI := some (.getfield 16, 3, (11, 1, 3, 0), .null, none)
noncomputable def ze961 : Option xI := some (.putfield 383, 3, (11, 4, 2, 0), .null, none)
noncomputable def ze962 : Option xI := some (.goto 21, 3, (0, 0, 0, 0), .null, none)
noncomputable def ze963 : Option xI := some (.getfield 383, 3, (11, 4, 2, 0), .null, none)
noncomputable def ze964 : Option xI := some (.ldc2_w 204, 3, (0, 0, 0, 0), .long (Int64.ofInt (-10000000000)), none)
noncomputable def ze965 : Option xI := some (.invokevirtual 386, 3, (197, 1, 1, 11), .null, none)
noncomputable def ze966 : Option xI := some (.bipush 15, 2, (0, 0, 0, 0), .null, none)
noncomputable def ze967 : Option xI := some (.invokevirtual 389, 3, (198, 1, 1, 11), .null, none)
noncomputable def ze968 : Option xI := some (.bipush 43, 2, (0, 0, 0, 0), .null, none)
noncomputable def ze969 : Option xI := some (.bipush 53, 2, (0, 0, 0, 0), .null, none)
noncomputable def ze970 : Option xI := some (.if_icmp .lt 9, 3, (0, 0, 0, 0), .null, none)
noncomputable def ze971 : Option xI := some (.invokevirtual 392, 3, (199, 1, 1, 11), .null, none)
noncomputable def ze972 : Option xI := some (.invokestatic 395, 3, (200, 1, 3, 0), .null, none)
noncomputable def ze973 : Option xI := some (.if_icmp .ne 9, 3, (0, 0, 0, 0), .null, none)
noncomputable def ze974 : Option xI := some (.invokevirtual 398, 3, (168, 1, 1, 9), .null, none)
noncomputable def ze975 : Option xI := some (.tableswitch 142 0 7 #[47, 56, 75, 83, 99, 115, 124, 133], 47, (0, 0, 0, 0), .null, none)
noncomputable def ze976 : Option xI := some (.getfield 401, 3, (6, 13, 0, 0), .null, none)
noncomputable def ze977 : Option xI := some (.getfield 402, 3, (6, 14, 0, 0), .null, none)
noncomputable def ze978 : Option xI := some (.getfield 405, 3, (6, 15, 0, 0), .null, none)
noncomputable def ze979 : Option xI := some (.tableswitch 143 8 15 #[47, 59, 71, 83, 95, 107, 119, 131], 47, (0, 0, 0, 0), .null, none)
noncomputable def ze980 : Option xI := some (.getfield 408, 3, (4, 1, 0, 0), .null, none)
noncomputable def ze981 : Option xI := some (.getfield 411, 3, (3, 2, 0, 0), .null, none)
noncomputable def ze982 : Option xI := some (.getfield 412, 3, (10, 4, 0, 0), .null, none)
noncomputable def ze983 : Option xI := some (.getfield 415, 3, (0, 7, 0, 0), .null, none)
noncomputable def ze984 : Option xI := some (.tableswitch 106 53 57 #[35, 54, 66, 85, 97], 35, (0, 0, 0, 0), .null, none)
noncomputable def ze985 : Option xI := some (.getfield 418, 3, (8, 0, 2, 0), .null, none)
noncomputable def ze986 : Option xI := some (.getfield 421, 3, (8, 2, 0, 0), .null, none)
noncomputable def ze987 : Option xI := some (.invokevirtual 424, 3, (118, 1, 1, 8), .null, none)
noncomputable def ze988 : Option xI := some (.getfield 427, 3, (8, 3, 0, 0), .null, none)
noncomputable def ze989 : Option xI := some (.if_icmp .lt 16, 3, (0, 0, 0, 0), .null, none)
noncomputable def ze990 : Option xI := some (.if_icmp .gt 10, 3, (0, 0, 0, 0), .null, none)
noncomputable def ze991 : Option xI := some (.bipush 50, 2, (0, 0, 0, 0), .null, none)
noncomputable def ze992 : Option xI := some (.bipush 52, 2, (0, 0, 0, 0), .null, none)
noncomputable def ze993 : Option xI := some (.sipush 1619, 3, (0, 0, 0, 0), .null, none)
noncomputable def ze994 : Option xI := some (.putfield 9, 3, (12, 0, 3, 0), .null, none)
noncomputable def ze995 : Option xI := some (.putfield 13, 3, (12, 1, 3, 0), .null, none)
noncomputable def ze996 : Option xI := some (.putfield 16, 3, (12, 2, 3, 0), .null, none)
noncomputable def ze997 : Option xI := some (.newarray .byte, 2, (0, 0, 0, 0), .null, none)
noncomputable def ze998 : Option xI := some (.putfield 19, 3, (12, 4, 3, 0), .null, none)
noncomputable def ze999 : Option xI := some (.putfield 23, 3, (12, 7, 0, 0), .null, none)
noncomputable def ze1000 : Option xI := some (.newarray .boolean, 2, (0, 0, 0, 0), .null, none)
noncomputable def ze1001 : Option xI := some (.putfield 27, 3, (12, 11, 3, 0), .null, none)
noncomputable def ze1002 : Option xI := some (.putfield 31, 3, (12, 12, 3, 0), .null, none)
noncomputable def ze1003 : Option xI := some (.getfield 9, 3, (12, 0, 3, 0), .null, none)
noncomputable def ze1004 : Option xI := some (.ldc2_w 34, 3, (0, 0, 0, 0), .long (Int64.ofInt 8), none)
noncomputable def ze1005 : Option xI := some (.ldc2_w 36, 3, (0, 0, 0, 0), .long (Int64.ofInt 1000), none)
noncomputable def ze1006 : Option xI := some (.ldc2_w 38, 3, (0, 0, 0, 0), .long (Int64.ofInt 100), none)
noncomputable def ze1007 : Option xI := some (.ldc2_w 40, 3, (0, 0, 0, 0), .long (Int64.ofInt 3), none)
noncomputable def ze1008 : Option xI := some (.ldc2_w 42, 3, (0, 0, 0, 0), .long (Int64.ofInt 900), none)
noncomputable def ze1009 : Option xI := some (.bipush 9, 2, (0, 0, 0, 0), .null, none)
noncomputable def ze1010 : Option xI := some (.sipush 1612, 3, (0, 0, 0, 0), .null, none)
noncomputable def ze1011 : Option xI := some (.ldc2_w 44, 3, (0, 0, 0, 0), .long (Int64.ofInt 40), none)
noncomputable def ze1012 : Option xI := some (.bipush 19, 2, (0, 0, 0, 0), .null, none)
noncomputable def ze1013 : Option xI := some (.ldc2_w 46, 3, (0, 0, 0, 0), .long (Int64.ofInt (-1)), none)
noncomputable def ze1014 : Option xI := some (.bipush 36, 2, (0, 0, 0, 0), .null, none)
noncomputable def ze1015 : Option xI := some (.iconst 1, 1, (0, 0, 0, 0), .null, some [0])
noncomputable def ze1016 : Option xI := some (.sipush 391, 3, (0, 0, 0, 0), .null, none)
noncomputable def ze1017 : Option xI := some (.sipush 423, 3, (0, 0, 0, 0), .null, none)
noncomputable def ze1018 : Option xI := some (.invokevirtual 50, 3, (203, 0, 1, 12), .null, none)
noncomputable def ze1019 : Option xI := some (.ifCond .ne 35, 3, (0, 0, 0, 0), .null, none)
noncomputable def ze1020 : Option xI := some (.invokestatic 54, 3, (204, 3, 3, 0), .null, none)
noncomputable def ze1021 : Option xI := some (.ldc2_w 58, 3, (0, 0, 0, 0), .long (Int64.ofInt 4), none)
noncomputable def ze1022 : Option xI := some (.ldc2_w 60, 3, (0, 0, 0, 0), .long (Int64.ofInt 16), none)
noncomputable def ze1023 : Option xI := some (.ifCond .eq 9, 3, (0, 0, 0, 0), .null, none)
noncomputable def ze1024 : Option xI := some (.bipush 95, 2, (0, 0, 0, 0), .null, none)
noncomputable def ze1025 : Option xI := some (.iload_n 3, 1, (0, 0, 0, 0), .null, some [0, 3])
noncomputable def ze1026 : Option xI := some (.sipush 191, 3, (0, 0, 0, 0), .null, none)
noncomputable def ze1027 : Option xI := some (.goto (-17), 3, (0, 0, 0, 0), .null, none)
noncomputable def ze1028 : Option xI := some (.sipush 1618, 3, (0, 0, 0, 0), .null, none)
noncomputable def ze1029 : Option xI := some (.sipush 1614, 3, (0, 0, 0, 0), .null, none)
noncomputable def ze1030 : Option xI := some (.ldc2_w 62, 3, (0, 0, 0, 0), .long (Int64.ofInt (-500)), none)
noncomputable def ze1031 : Option xI := some (.ldc2_w 64, 3, (0, 0, 0, 0), .long (Int64.ofInt 500), none)
noncomputable def ze1032 : Option xI := some (.invokevirtual 66, 3, (206, 0, 1, 12), .null, none)
noncomputable def ze1033 : Option xI := some (.invokestatic 70, 3, (207, 3, 3, 0), .null, none)
noncomputable def ze1034 : Option xI := some (.sipush 239, 3, (0, 0, 0, 0), .null, none)
noncomputable def ze1035 : Option xI := some (.ifCond .ge 11, 3, (0, 0, 0, 0), .null, none)
noncomputable def ze1036 : Option xI := some (.iload 4, 2, (0, 0, 0, 0), .null, some [0, 4])
noncomputable def ze1037 : Option xI := some (.invokevirtual 74, 3, (208, 0, 1, 12), .null, none)
noncomputable def ze1038 : Option xI := some (.goto 8, 3, (0, 0, 0, 0), .null, none)
noncomputable def ze1039 : Option xI := some (.invokevirtual 101, 3, (209, 1, 1, 12), .null, none)
noncomputable def ze1040 : Option xI := some (.lstore_n 1, 1, (0, 0, 0, 0), .null, some [0])
noncomputable def ze1041 : Option xI := some (.lstore_n 3, 1, (0, 0, 0, 0), .null, some [0, 1])
noncomputable def ze1042 : Option xI := some (.invokestatic 95, 3, (214, 1, 3, 0), .null, none)
noncomputable def ze1043 : Option xI := some (.invokestatic 258, 3, (215, 1, 3, 0), .null, none)
noncomputable def ze1044 : Option xI := some (.ifCond .ge 31, 3, (0, 0, 0, 0), .null, none)
noncomputable def ze1045 : Option xI := some (.ifCond .ge 17, 3, (0, 0, 0, 0), .null, none)
noncomputable def ze1046 : Option xI := some (.goto 11, 3, (0, 0, 0, 0), .null, none)
noncomputable def ze1047 : Option xI := some (.aload_n 0, 1, (0, 0, 0, 0), .null, some [0, 1, 3, 5])
noncomputable def ze1048 : Option xI := some (.invokevirtual 276, 3, (216, 3, 1, 12), .null, none)
noncomputable def ze1049 : Option xI := some (.invokevirtual 280, 3, (222, 0, 1, 12), .null, none)
noncomputable def ze1050 : Option xI := some (.invokevirtual 283, 3, (224, 0, 1, 12), .null, none)
noncomputable def ze1051 : Option xI := some (.invokevirtual 286, 3, (230, 0, 1, 12), .null, none)
noncomputable def ze1052 : Option xI := some (.iload 4, 2, (0, 0, 0, 0), .null, some [0, 1, 2, 4])
noncomputable def ze1053 : Option xI := some (.if_icmp .ge 64, 3, (0, 0, 0, 0), .null, none)
noncomputable def ze1054 : Option xI := some (.ifCond .ne 12, 3, (0, 0, 0, 0), .null, none)
noncomputable def ze1055 : Option xI := some (.invokevirtual 80, 3, (210, 1, 1, 12), .null, none)
noncomputable def ze1056 : Option xI := some (.goto 42, 3, (0, 0, 0, 0), .null, none)
noncomputable def ze1057 : Option xI := some (.iload_n 1, 1, (0, 0, 0, 0), .null, some [0, 1, 4])
noncomputable def ze1058 : Option xI := some (.invokevirtual 84, 3, (212, 1, 1, 12), .null, none)
noncomputable def ze1059 : Option xI := some (.invokevirtual 87, 3, (213, 2, 1, 12), .null, none)
noncomputable def ze1060 : Option xI := some (.goto 12, 3, (0, 0, 0, 0), .null, none)
noncomputable def ze1061 : Option xI := some (.sipush 143, 3, (0, 0, 0, 0), .null, none)
noncomputable def ze1062 : Option xI := some (.ladd, 1, (0, 0, 0, 0), .null, some [0, 1, 4])
noncomputable def ze1063 : Option xI := some (.goto (-67), 3, (0, 0, 0, 0), .null, none)
noncomputable def ze1064 : Option xI := some (.invokevirtual 77, 3, (211, 0, 1, 12), .null, none)
noncomputable def ze1065 : Option xI := some (.if_icmp .ge 40, 3, (0, 0, 0, 0), .null, none)
noncomputable def ze1066 : Option xI := some (.if_icmp .ge 52, 3, (0, 0, 0, 0), .null, none)
noncomputable def ze1067 : Option xI := some (.if_icmp .ge 37, 3, (0, 0, 0, 0), .null, none)
noncomputable def ze1068 : Option xI := some (.goto (-40), 3, (0, 0, 0, 0), .null, none)
noncomputable def ze1069 : Option xI := some (.ldc2_w 91, 3, (0, 0, 0, 0), .long (Int64.ofInt 3000000000), none)
noncomputable def ze1070 : Option xI := some (.lload_n 2, 1, (0, 0, 0, 0), .null, some [0, 2, 4])
noncomputable def ze1071 : Option xI := some (.ifCond .ge 40, 3, (0, 0, 0, 0), .null, none)
noncomputable def ze1072 : Option xI := some (.ldc2_w 93, 3, (0, 0, 0, 0), .long (Int64.ofInt 2), none)
noncomputable def ze1073 : Option xI := some (.ifCond .gt 9, 3, (0, 0, 0, 0), .null, none)
noncomputable def ze1074 : Option xI := some (.lload 6, 2, (0, 0, 0, 0), .null, some [0, 2, 6])
noncomputable def ze1075 : Option xI := some (.goto (-41), 3, (0, 0, 0, 0), .null, some [0, 2, 4])
noncomputable def ze1076 : Option xI := some (.ifCond .ge 8, 3, (0, 0, 0, 0), .null, none)
noncomputable def ze1077 : Option xI := some (.lneg, 1, (0, 0, 0, 0), .null, none)
noncomputable def ze1078 : Option xI := some (.lload_n 0, 1, (0, 0, 0, 0), .null, some [0])
noncomputable def ze1079 : Option xI := some (.invokevirtual 147, 3, (217, 1, 1, 12), .null, none)
noncomputable def ze1080 : Option xI := some (.ifCond .le 11, 3, (0, 0, 0, 0), .null, none)
noncomputable def ze1081 : Option xI := some (.invokevirtual 254, 3, (220, 3, 1, 12), .null, none)
noncomputable def ze1082 : Option xI := some (.lload_n 1, 1, (0, 0, 0, 0), .null, some [0, 1, 3, 5, 7, 8])
noncomputable def ze1083 : Option xI := some (.ifCond .ge 12, 3, (0, 0, 0, 0), .null, none)
noncomputable def ze1084 : Option xI := some (.aload_n 0, 1, (0, 0, 0, 0), .null, some [0, 1, 3, 5, 7, 8])
noncomputable def ze1085 : Option xI := some (.invokestatic 104, 3, (221, 2, 3, 0), .null, none)
noncomputable def ze1086 : Option xI := some (.lconst 0, 1, (0, 0, 0, 0), .null, some [0, 1, 5])
noncomputable def ze1087 : Option xI := some (.ladd, 1, (0, 0, 0, 0), .null, some [0, 1, 5])
noncomputable def ze1088 : Option xI := some (.lconst 0, 1, (0, 0, 0, 0), .null, some [0, 5])
noncomputable def ze1089 : Option xI := some (.ladd, 1, (0, 0, 0, 0), .null, some [0, 5])
noncomputable def ze1090 : Option xI := some (.ldc 119, 2, (0, 0, 0, 0), .int (Int32.ofInt 86400), none)
noncomputable def ze1091 : Option xI := some (.invokevirtual 120, 3, (218, 1, 1, 12), .null, none)
noncomputable def ze1092 : Option xI := some (.sipush 287, 3, (0, 0, 0, 0), .null, none)
noncomputable def ze1093 : Option xI := some (.ifCond .ge 52, 3, (0, 0, 0, 0), .null, none)
noncomputable def ze1094 : Option xI := some (.sipush 295, 3, (0, 0, 0, 0), .null, none)
noncomputable def ze1095 : Option xI := some (.ifCond .gt 21, 3, (0, 0, 0, 0), .null, none)
noncomputable def ze1096 : Option xI := some (.sipush 343, 3, (0, 0, 0, 0), .null, none)
noncomputable def ze1097 : Option xI := some (.sipush 395, 3, (0, 0, 0, 0), .null, none)
noncomputable def ze1098 : Option xI := some (.invokevirtual 115, 3, (219, 1, 1, 12), .null, none)
noncomputable def ze1099 : Option xI := some (.if_icmp .ge 85, 3, (0, 0, 0, 0), .null, none)
noncomputable def ze1100 : Option xI := some (.ifCond .ne 6, 3, (0, 0, 0, 0), .null, none)
noncomputable def ze1101 : Option xI := some (.goto 54, 3, (0, 0, 0, 0), .null, none)
noncomputable def ze1102 : Option xI := some (.lload 5, 2, (0, 0, 0, 0), .null, some [0, 1, 2, 3, 4, 5])
noncomputable def ze1103 : Option xI := some (.ifCond .gt 27, 3, (0, 0, 0, 0), .null, none)
noncomputable def ze1104 : Option xI := some (.ifCond .le 6, 3, (0, 0, 0, 0), .null, none)
noncomputable def ze1105 : Option xI := some (.iload 4, 2, (0, 0, 0, 0), .null, some [0, 1, 3, 4, 5])
noncomputable def ze1106 : Option xI := some (.goto (-85), 3, (0, 0, 0, 0), .null, none)
noncomputable def ze1107 : Option xI := some (.ifCond .lt 17, 3, (0, 0, 0, 0), .null, none)
noncomputable def ze1108 : Option xI := some (.goto 18, 3, (0, 0, 0, 0), .null, none)
noncomputable def ze1109 : Option xI := some (.goto 14, 3, (0, 0, 0, 0), .null, none)
noncomputable def ze1110 : Option xI := some (.bipush 11, 2, (0, 0, 0, 0), .null, none)
noncomputable def ze1111 : Option xI := some (.if_icmp .ne 8, 3, (0, 0, 0, 0), .null, none)
noncomputable def ze1112 : Option xI := some (.invokevirtual 244, 3, (223, 2, 1, 12), .null, none)
noncomputable def ze1113 : Option xI := some (.ifCond .lt 43, 3, (0, 0, 0, 0), .null, none)
noncomputable def ze1114 : Option xI := some (.sipush 1487, 3, (0, 0, 0, 0), .null, none)
noncomputable def ze1115 : Option xI := some (.goto (-34), 3, (0, 0, 0, 0), .null, none)
noncomputable def ze1116 : Option xI := some (.sipush 1487, 3, (0, 0, 0, 0), .null, some [0, 1, 2])
noncomputable def ze1117 : Option xI := some (.ifCond .ge 13, 3, (0, 0, 0, 0), .null, none)
noncomputable def ze1118 : Option xI := some (.ldc2_w 48, 3, (0, 0, 0, 0), .long (Int64.ofInt 39), some [0, 1, 2])
noncomputable def ze1119 : Option xI := some (.l2i, 1, (0, 0, 0, 0), .null, some [0, 1, 2])
noncomputable def ze1120 : Option xI := some (.if_icmp .ge 138, 3, (0, 0, 0, 0), .null, none)
noncomputable def ze1121 : Option xI := some (.if_icmp .ne 10, 3, (0, 0, 0, 0), .null, none)
noncomputable def ze1122 : Option xI := some (.invokevirtual 261, 3, (225, 0, 1, 12), .null, none)
noncomputable def ze1123 : Option xI := some (.invokevirtual 264, 3, (226, 0, 1, 12), .null, none)
noncomputable def ze1124 : Option xI := some (.goto 7, 3, (0, 0, 0, 0), .null, none)
noncomputable def ze1125 : Option xI := some (.invokevirtual 267, 3, (227, 0, 1, 12), .null, none)
noncomputable def ze1126 : Option xI := some (.istore_n 2, 1, (0, 0, 0, 0), .null, some [0, 1])
noncomputable def ze1127 : Option xI := some (.bipush 55, 2, (0, 0, 0, 0), .null, none)
noncomputable def ze1128 : Option xI := some (.lconst 0, 1, (0, 0, 0, 0), .null, some [0, 1, 2])
noncomputable def ze1129 : Option xI := some (.lastore, 1, (0, 0, 0, 0), .null, some [0, 1, 2])
noncomputable def ze1130 : Option xI := some (.invokevirtual 270, 3, (228, 1, 1, 12), .null, none)
noncomputable def ze1131 : Option xI := some (.invokevirtual 273, 3, (229, 1, 1, 12), .null, none)
noncomputable def ze1132 : Option xI := some (.iinc 1 1, 3, (0, 0, 0, 0), .null, some [0, 1])
noncomputable def ze1133 : Option xI := some (.goto (-137), 3, (0, 0, 0, 0), .null, none)
noncomputable def ze1134 : Option xI := some (.if_icmp .ge 71, 3, (0, 0, 0, 0), .null, none)
noncomputable def ze1135 : Option xI := some (.iconst 0, 1, (0, 0, 0, 0), .null, some [0, 1, 2, 3])
noncomputable def ze1136 : Option xI := some (.istore 4, 2, (0, 0, 0, 0), .null, some [0, 1, 2, 3])
noncomputable def ze1137 : Option xI := some (.iconst 1, 1, (0, 0, 0, 0), .null, some [0, 2, 3, 4])
noncomputable def ze1138 : Option xI := some (.iconst 0, 1, (0, 0, 0, 0), .null, some [0, 2, 3, 4])
noncomputable def ze1139 : Option xI := some (.istore_n 1, 1, (0, 0, 0, 0), .null, some [0, 2, 3, 4])
noncomputable def ze1140 : Option xI := some (.iconst 1, 1, (0, 0, 0, 0), .null, some [0, 1, 3])
noncomputable def ze1141 : Option xI := some (.iconst 0, 1, (0, 0, 0, 0), .null, some [0, 1, 3])
noncomputable def ze1142 : Option xI := some (.istore_n 2, 1, (0, 0, 0, 0), .null, some [0, 1, 3])
noncomputable def ze1143 : Option xI := some (.goto (-73), 3, (0, 0, 0, 0), .null, none)
noncomputable def ze1144 : Option xI := some (.ifCond .ne 13, 3, (0, 0, 0, 0), .null, none)
noncomputable def ze1145 : Option xI := some (.iconst 1, 1, (0, 0, 0, 0), .null, some [0, 2, 3])
noncomputable def ze1146 : Option xI := some (.iconst 0, 1, (0, 0, 0, 0), .null, some [0, 2, 3])
noncomputable def ze1147 : Option xI := some (.istore_n 1, 1, (0, 0, 0, 0), .null, some [0, 2, 3])
noncomputable def ze1148 : Option xI := some (.goto (-38), 3, (0, 0, 0, 0), .null, none)
noncomputable def ze1149 : Option xI := some (.bipush 45, 2, (0, 0, 0, 0), .null, none)
noncomputable def ze1150 : Option xI := some (.bipush 27, 2, (0, 0, 0, 0), .null, none)
noncomputable def ze1151 : Option xI := some (.invokevirtual 289, 3, (231, 0, 1, 12), .null, none)
noncomputable def ze1152 : Option xI := some (.lor, 1, (0, 0, 0, 0), .null, none)
noncomputable def ze1153 : Option xI := some (.ldc2_w 145, 3, (0, 0, 0, 0), .long (Int64.ofInt 2000000000), none)
noncomputable def ze1154 : Option xI := some (.invokevirtual 292, 3, (232, 1, 1, 12), .null, none)
noncomputable def ze1155 : Option xI := some (.if_icmp .ge 23, 3, (0, 0, 0, 0), .null, none)
noncomputable def ze1156 : Option xI := some (.goto (-22), 3, (0, 0, 0, 0), .null, none)
noncomputable def ze1157 : Option xI := some (.bipush 26, 2, (0, 0, 0, 0), .null, none)
noncomputable def ze1158 : Option xI := some (.invokevirtual 298, 3, (233, 0, 1, 12), .null, none)
noncomputable def ze1159 : Option xI := some (.iconst 0, 1, (0, 0, 0, 0), .null, some [0, 1])
noncomputable def ze1160 : Option xI := some (.i2l, 1, (0, 0, 0, 0), .null, some [0, 1])
noncomputable def ze1161 : Option xI := some (.sipush 128, 3, (0, 0, 0, 0), .null, some [0, 1])
noncomputable def ze1162 : Option xI := some (.bipush 17, 2, (0, 0, 0, 0), .null, none)
noncomputable def ze1163 : Option xI := some (.ldc2_w 296, 3, (0, 0, 0, 0), .long (Int64.ofInt 64), none)
noncomputable def ze1164 : Option xI := some (.ifCond .lt 84, 3, (0, 0, 0, 0), .null, none)
noncomputable def ze1165 : Option xI := some (.sipush 1607, 3, (0, 0, 0, 0), .null, none)
noncomputable def ze1166 : Option xI := some (.invokevirtual 301, 3, (234, 2, 1, 12), .null, none)
noncomputable def ze1167 : Option xI := some (.bipush 6, 2, (0, 0, 0, 0), .null, some [0, 1, 3])
noncomputable def ze1168 : Option xI := some (.if_icmp .ge 34, 3, (0, 0, 0, 0), .null, none)
noncomputable def ze1169 : Option xI := some (.sipush 788, 3, (0, 0, 0, 0), .null, none)
noncomputable def ze1170 : Option xI := some (.goto (-36), 3, (0, 0, 0, 0), .null, none)
noncomputable def ze1171 : Option xI := some (.sipush 788, 3, (0, 0, 0, 0), .null, some [0, 1, 3])
noncomputable def ze1172 : Option xI := some (.invokevirtual 303, 3, (235, 0, 1, 12), .null, none)
noncomputable def ze1173 : Option xI := some (.if_icmp .ge 10, 3, (0, 0, 0, 0), .null, none)
noncomputable def ze1174 : Option xI := some (.bipush 63, 2, (0, 0, 0, 0), .null, some [0, 1, 3])
noncomputable def ze1175 : Option xI := some (.imul, 1, (0, 0, 0, 0), .null, some [0, 1, 3])
noncomputable def ze1176 : Option xI := some (.invokevirtual 306, 3, (236, 0, 1, 12), .null, none)
noncomputable def ze1177 : Option xI := some (.goto (-16), 3, (0, 0, 0, 0), .null, none)
noncomputable def ze1178 : Option xI := some (.lastore, 1, (0, 0, 0, 0), .null, some [])
noncomputable def ze1179 : Option xI := some (.ldc2_w 296, 3, (0, 0, 0, 0), .long (Int64.ofInt 64), some [])
noncomputable def ze1180 : Option xI := some (.l2i, 1, (0, 0, 0, 0), .null, some [])
noncomputable def ze1181 : Option xI := some (.ifCond .ge 4, 3, (0, 0, 0, 0), .null, none)
noncomputable def ze1182 : Option xI := some (.ifCond .ge 77, 3, (0, 0, 0, 0), .null, none)
noncomputable def ze1183 : Option xI := some (.ldc2_w 309, 3, (0, 0, 0, 0), .long (Int64.ofInt 192), none)
noncomputable def ze1184 : Option xI := some (.ifCond .le 32, 3, (0, 0, 0, 0), .null, none)
noncomputable def ze1185 : Option xI := some (.lload_n 2, 1, (0, 0, 0, 0), .null, some [0, 1, 2, 4, 5])
noncomputable def ze1186 : Option xI := some (.ifCond .gt 4, 3, (0, 0, 0, 0), .null, none)
noncomputable def ze1187 : Option xI := some (.if_icmp .eq 23, 3, (0, 0, 0, 0), .null, none)
noncomputable def ze1188 : Option xI := some (.ldc2_w 99, 3, (0, 0, 0, 0), .long (Int64.ofInt (-10000000000)), none)
noncomputable def ze1189 : Option xI := some (.lstore 4, 2, (0, 0, 0, 0), .null, some [0, 1, 2, 3])
noncomputable def ze1190 : Option xI := some (.lstore 6, 2, (0, 0, 0, 0), .null, some [0, 1, 2, 3, 4])
noncomputable def ze1191 : Option xI := some (.tableswitch 178 0 8 #[49, 52, 55, 75, 96, 99, 108, 138, 170], 49, (0, 0, 0, 0), .null, none)
noncomputable def ze1192 : Option xI := some (.lload 8, 2, (0, 0, 0, 0), .null, some [8])
noncomputable def ze1193 : Option xI := some (.lload 4, 2, (0, 0, 0, 0), .null, some [4, 6])
noncomputable def ze1194 : Option xI := some (.invokevirtual 108, 3, (238, 1, 1, 12), .null, none)
noncomputable def ze1195 : Option xI := some (.goto 20, 3, (0, 0, 0, 0), .null, none)
noncomputable def ze1196 : Option xI := some (.lload 4, 2, (0, 0, 0, 0), .null, some [4, 8])
noncomputable def ze1197 : Option xI := some (.invokestatic 111, 3, (239, 2, 3, 0), .null, none)
noncomputable def ze1198 : Option xI := some (.ldc2_w 99, 3, (0, 0, 0, 0), .long (Int64.ofInt (-10000000000)), some [])
noncomputable def ze1199 : Option xI := some (.lload_n 2, 1, (0, 0, 0, 0), .null, some [0, 1, 2, 4])
noncomputable def ze1200 : Option xI := some (.lstore_n 2, 1, (0, 0, 0, 0), .null, some [0, 1, 4])
noncomputable def ze1201 : Option xI := some (.goto (-44), 3, (0, 0, 0, 0), .null, none)
noncomputable def ze1202 : Option xI := some (.lload_n 0, 1, (0, 0, 0, 0), .null, some [0, 2])
noncomputable def ze1203 : Option xI := some (.ifCond .ge 15, 3, (0, 0, 0, 0), .null, none)
noncomputable def ze1204 : Option xI := some (.ldc2_w 36, 3, (0, 0, 0, 0), .long (Int64.ofInt 1000), some [0, 2])
noncomputable def ze1205 : Option xI := some (.ifCond .ne 29, 3, (0, 0, 0, 0), .null, none)
noncomputable def ze1206 : Option xI := some (.invokestatic 125, 3, (241, 1, 3, 0), .null, none)
noncomputable def ze1207 : Option xI := some (.ldc2_w 128, 3, (0, 0, 0, 0), .long (Int64.ofInt 86399), none)
noncomputable def ze1208 : Option xI := some (.invokestatic 130, 3, (242, 1, 3, 0), .null, none)
noncomputable def ze1209 : Option xI := some (.invokevirtual 133, 3, (243, 3, 1, 12), .null, none)
noncomputable def ze1210 : Option xI := some (.ldc2_w 123, 3, (0, 0, 0, 0), .long (Int64.ofInt 7), none)
noncomputable def ze1211 : Option xI := some (.if_icmp .ge 29, 3, (0, 0, 0, 0), .null, none)
noncomputable def ze1212 : Option xI := some (.ifCond .ge 9, 3, (0, 0, 0, 0), .null, none)
noncomputable def ze1213 : Option xI := some (.iinc 6 1, 3, (0, 0, 0, 0), .null, none)
noncomputable def ze1214 : Option xI := some (.if_icmp .ge 27, 3, (0, 0, 0, 0), .null, none)
noncomputable def ze1215 : Option xI := some (.iconst 0, 1, (0, 0, 0, 0), .null, some [0, 1, 2, 3, 4, 5, 6])
noncomputable def ze1216 : Option xI := some (.istore 7, 2, (0, 0, 0, 0), .null, some [0, 1, 2, 3, 4, 5, 6])
noncomputable def ze1217 : Option xI := some (.iload 5, 2, (0, 0, 0, 0), .null, some [0, 1, 2, 3, 4, 5, 6, 7])
noncomputable def ze1218 : Option xI := some (.iload 8, 2, (0, 0, 0, 0), .null, some [0, 1, 2, 3, 4, 6, 7, 8])
noncomputable def ze1219 : Option xI := some (.if_icmp .le 74, 3, (0, 0, 0, 0), .null, none)
noncomputable def ze1220 : Option xI := some (.ifCond .ne 69, 3, (0, 0, 0, 0), .null, none)
noncomputable def ze1221 : Option xI := some (.iinc 8 (-1), 3, (0, 0, 0, 0), .null, none)
noncomputable def ze1222 : Option xI := some (.goto (-75), 3, (0, 0, 0, 0), .null, none)
noncomputable def ze1223 : Option xI := some (.aload_n 0, 1, (0, 0, 0, 0), .null, some [0, 1, 2, 3, 4, 6, 7])
noncomputable def ze1224 : Option xI := some (.lconst 1, 1, (0, 0, 0, 0), .null, some [0, 1])
noncomputable def ze1225 : Option xI := some (.ladd, 1, (0, 0, 0, 0), .null, some [0, 1])
noncomputable def ze1226 : Option xI := some (.invokestatic 136, 3, (246, 1, 3, 0), .null, none)
noncomputable def ze1227 : Option xI := some (.ldc2_w 46, 3, (0, 0, 0, 0), .long (Int64.ofInt (-1)), some [0, 1, 2])
noncomputable def ze1228 : Option xI := some (.ldc2_w 138, 3, (0, 0, 0, 0), .long (Int64.ofInt 364), some [0, 1, 2])
noncomputable def ze1229 : Option xI := some (.ldc2_w 140, 3, (0, 0, 0, 0), .long (Int64.ofInt 6), none)
noncomputable def ze1230 : Option xI := some (.ifCond .ne 27, 3, (0, 0, 0, 0), .null, none)
noncomputable def ze1231 : Option xI := some (.ldc2_w 138, 3, (0, 0, 0, 0), .long (Int64.ofInt 364), none)
noncomputable def ze1232 : Option xI := some (.if_icmp .eq 12, 3, (0, 0, 0, 0), .null, none)
noncomputable def ze1233 : Option xI := some (.invokevirtual 142, 3, (249, 0, 1, 12), .null, none)
noncomputable def ze1234 : Option xI := some (.iconst 1, 1, (0, 0, 0, 0), .null, some [0, 2])
noncomputable def ze1235 : Option xI := some (.iadd, 1, (0, 0, 0, 0), .null, some [0, 2])
noncomputable def ze1236 : Option xI := some (.ldc2_w 150, 3, (0, 0, 0, 0), .long (Int64.ofInt 23148), none)
noncomputable def ze1237 : Option xI := some (.ifCond .ne 9, 3, (0, 0, 0, 0), .null, none)
noncomputable def ze1238 : Option xI := some (.sipush 343, 3, (0, 0, 0, 0), .null, some [1, 2])
noncomputable def ze1239 : Option xI := some (.bipush 6, 2, (0, 0, 0, 0), .null, some [1, 2])
noncomputable def ze1240 : Option xI := some (.iload 8, 2, (0, 0, 0, 0), .null, some [0, 2, 3, 4, 5, 6, 7, 8])
noncomputable def ze1241 : Option xI := some (.if_icmp .gt 90, 3, (0, 0, 0, 0), .null, none)
noncomputable def ze1242 : Option xI := some (.ldc 119, 2, (0, 0, 0, 0), .int (Int32.ofInt 86400), some [0, 2, 3, 4, 5, 6, 7, 8])
noncomputable def ze1243 : Option xI := some (.istore 9, 2, (0, 0, 0, 0), .null, some [0, 2, 3, 4, 5, 6, 7, 8])
noncomputable def ze1244 : Option xI := some (.if_icmp .ne 11, 3, (0, 0, 0, 0), .null, none)
noncomputable def ze1245 : Option xI := some (.iconst 0, 1, (0, 0, 0, 0), .null, some [0, 2, 3, 4, 6, 8, 9])
noncomputable def ze1246 : Option xI := some (.iadd, 1, (0, 0, 0, 0), .null, some [0, 2, 3, 4, 6, 8, 9])
noncomputable def ze1247 : Option xI := some (.iinc 8 1, 3, (0, 0, 0, 0), .null, some [0, 2, 3, 4, 5, 6, 7, 8])
noncomputable def ze1248 : Option xI := some (.goto (-91), 3, (0, 0, 0, 0), .null, none)
noncomputable def ze1249 : Option xI := some (.iload 5, 2, (0, 0, 0, 0), .null, some [5])
noncomputable def ze1250 : Option xI := some (.invokevirtual 154, 3, (255, 0, 1, 12), .null, none)
noncomputable def ze1251 : Option xI := some (.goto 25, 3, (0, 0, 0, 0), .null, none)
noncomputable def ze1252 : Option xI := some (.if_icmp .gt 134, 3, (0, 0, 0, 0), .null, none)
noncomputable def ze1253 : Option xI := some (.ldc2_w 152, 3, (0, 0, 0, 0), .long (Int64.ofInt 86400), none)
noncomputable def ze1254 : Option xI := some (.ifCond .ge 87, 3, (0, 0, 0, 0), .null, none)
noncomputable def ze1255 : Option xI := some (.ladd, 1, (0, 0, 0, 0), .null, some [0, 1, 2, 3, 4])
noncomputable def ze1256 : Option xI := some (.ifCond .le 35, 3, (0, 0, 0, 0), .null, none)
noncomputable def ze1257 : Option xI := some (.ifCond .gt 26, 3, (0, 0, 0, 0), .null, none)
noncomputable def ze1258 : Option xI := some (.goto (-98), 3, (0, 0, 0, 0), .null, none)
noncomputable def ze1259 : Option xI := some (.goto (-136), 3, (0, 0, 0, 0), .null, none)
noncomputable def ze1260 : Option xI := some (.getfield 157, 3, (12, 5, 0, 0), .null, none)
noncomputable def ze1261 : Option xI := some (.invokevirtual 160, 3, (257, 1, 1, 12), .null, none)
noncomputable def ze1262 : Option xI := some (.ifCond .lt 32, 3, (0, 0, 0, 0), .null, none)
noncomputable def ze1263 : Option xI := some (.getfield 19, 3, (12, 4, 3, 0), .null, none)
noncomputable def ze1264 : Option xI := some (.i2b, 1, (0, 0, 0, 0), .null, none)
noncomputable def ze1265 : Option xI := some (.bastore, 1, (0, 0, 0, 0), .null, none)
noncomputable def ze1266 : Option xI := some (.putfield 157, 3, (12, 5, 0, 0), .null, none)
noncomputable def ze1267 : Option xI := some (.getfield 164, 3, (12, 6, 0, 0), .null, none)
noncomputable def ze1268 : Option xI := some (.getfield 23, 3, (12, 7, 0, 0), .null, none)
noncomputable def ze1269 : Option xI := some (.putfield 164, 3, (12, 6, 0, 0), .null, none)
noncomputable def ze1270 : Option xI := some (.getfield 13, 3, (12, 1, 3, 0), .null, none)
noncomputable def ze1271 : Option xI := some (.invokestatic 232, 3, (261, 2, 3, 0), .null, none)
noncomputable def ze1272 : Option xI := some (.putfield 167, 3, (12, 9, 2, 0), .null, none)
noncomputable def ze1273 : Option xI := some (.putfield 171, 3, (12, 8, 0, 0), .null, none)
noncomputable def ze1274 : Option xI := some (.invokevirtual 236, 3, (262, 0, 1, 12), .null, none)
noncomputable def ze1275 : Option xI := some (.invokevirtual 173, 3, (263, 0, 1, 12), .null, none)
noncomputable def ze1276 : Option xI := some (.getfield 171, 3, (12, 8, 0, 0), .null, none)
noncomputable def ze1277 : Option xI := some (.if_icmp .ge 24, 3, (0, 0, 0, 0), .null, none)
noncomputable def ze1278 : Option xI := some (.getfield 167, 3, (12, 9, 2, 0), .null, none)
noncomputable def ze1279 : Option xI := some (.invokevirtual 239, 3, (264, 0, 1, 12), .null, none)
noncomputable def ze1280 : Option xI := some (.if_icmp .ge 15, 3, (0, 0, 0, 0), .null, none)
noncomputable def ze1281 : Option xI := some (.getfield 27, 3, (12, 11, 3, 0), .null, none)
noncomputable def ze1282 : Option xI := some (.ldc2_w 46, 3, (0, 0, 0, 0), .long (Int64.ofInt (-1)), some [0, 1])
noncomputable def ze1283 : Option xI := some (.lastore, 1, (0, 0, 0, 0), .null, some [0, 1])
noncomputable def ze1284 : Option xI := some (.getfield 31, 3, (12, 12, 3, 0), .null, none)
noncomputable def ze1285 : Option xI := some (.putfield 199, 3, (12, 13, 0, 0), .null, none)
noncomputable def ze1286 : Option xI := some (.putfield 202, 3, (12, 14, 2, 0), .null, none)
noncomputable def ze1287 : Option xI := some (.baload, 1, (0, 0, 0, 0), .null, none)
noncomputable def ze1288 : Option xI := some (.invokevirtual 220, 3, (265, 0, 1, 12), .null, none)
noncomputable def ze1289 : Option xI := some (.invokevirtual 184, 3, (268, 2, 1, 12), .null, none)
noncomputable def ze1290 : Option xI := some (.getfield 199, 3, (12, 13, 0, 0), .null, none)
noncomputable def ze1291 : Option xI := some (.getfield 202, 3, (12, 14, 2, 0), .null, none)
noncomputable def ze1292 : Option xI := some (.invokevirtual 192, 3, (267, 0, 1, 12), .null, none)
noncomputable def ze1293 : Option xI := some (.iload_n 2, 1, (0, 0, 0, 0), .null, some [0, 2])
noncomputable def ze1294 : Option xI := some (.invokevirtual 223, 3, (269, 0, 1, 12), .null, none)
noncomputable def ze1295 : Option xI := some (.invokevirtual 226, 3, (274, 0, 1, 12), .null, none)
noncomputable def ze1296 : Option xI := some (.invokevirtual 229, 3, (275, 0, 1, 12), .null, none)
noncomputable def ze1297 : Option xI := some (.if_icmp .ne 38, 3, (0, 0, 0, 0), .null, none)
noncomputable def ze1298 : Option xI := some (.if_icmp .ge 26, 3, (0, 0, 0, 0), .null, none)
noncomputable def ze1299 : Option xI := some (.invokevirtual 205, 3, (270, 2, 1, 12), .null, none)
noncomputable def ze1300 : Option xI := some (.goto (-25), 3, (0, 0, 0, 0), .null, none)
noncomputable def ze1301 : Option xI := some (.invokevirtual 212, 3, (272, 1, 1, 12), .null, none)
noncomputable def ze1302 : Option xI := some (.bipush 116, 2, (0, 0, 0, 0), .null, none)
noncomputable def ze1303 : Option xI := some (.bipush 98, 2, (0, 0, 0, 0), .null, none)
noncomputable def ze1304 : Option xI := some (.bipush 108, 2, (0, 0, 0, 0), .null, none)
noncomputable def ze1305 : Option xI := some (.bipush 101, 2, (0, 0, 0, 0), .null, none)
noncomputable def ze1306 : Option xI := some (.invokevirtual 195, 3, (266, 8, 1, 12), .null, none)
noncomputable def ze1307 : Option xI := some (.bipush 115, 2, (0, 0, 0, 0), .null, none)
noncomputable def ze1308 : Option xI := some (.bipush 111, 2, (0, 0, 0, 0), .null, none)
noncomputable def ze1309 : Option xI := some (.bipush 110, 2, (0, 0, 0, 0), .null, none)
noncomputable def ze1310 : Option xI := some (.bipush 112, 2, (0, 0, 0, 0), .null, none)
noncomputable def ze1311 : Option xI := some (.bipush 99, 2, (0, 0, 0, 0), .null, none)
noncomputable def ze1312 : Option xI := some (.bipush 114, 2, (0, 0, 0, 0), .null, none)
noncomputable def ze1313 : Option xI := some (.if_icmp .ne 79, 3, (0, 0, 0, 0), .null, none)
noncomputable def ze1314 : Option xI := some (.if_icmp .ne 66, 3, (0, 0, 0, 0), .null, none)
noncomputable def ze1315 : Option xI := some (.if_icmp .ne 51, 3, (0, 0, 0, 0), .null, none)
noncomputable def ze1316 : Option xI := some (.if_icmp .ne 35, 3, (0, 0, 0, 0), .null, none)
noncomputable def ze1317 : Option xI := some (.iload_n 1, 1, (0, 0, 0, 0), .null, some [0, 1, 7, 8])
noncomputable def ze1318 : Option xI := some (.if_icmp .lt 19, 3, (0, 0, 0, 0), .null, none)
noncomputable def ze1319 : Option xI := some (.if_icmp .ne 30, 3, (0, 0, 0, 0), .null, none)
noncomputable def ze1320 : Option xI := some (.iload_n 1, 1, (0, 0, 0, 0), .null, some [0, 1, 8])
noncomputable def ze1321 : Option xI := some (.ldc2_w 188, 3, (0, 0, 0, 0), .long (Int64.ofInt 97), none)
noncomputable def ze1322 : Option xI := some (.ldc2_w 190, 3, (0, 0, 0, 0), .long (Int64.ofInt 122), none)
noncomputable def ze1323 : Option xI := some (.getfield 180, 3, (12, 10, 0, 0), .null, none)
noncomputable def ze1324 : Option xI := some (.ifCond .ne 131, 3, (0, 0, 0, 0), .null, none)
noncomputable def ze1325 : Option xI := some (.invokevirtual 209, 3, (271, 0, 1, 12), .null, none)
noncomputable def ze1326 : Option xI := some (.ifCond .eq 124, 3, (0, 0, 0, 0), .null, none)
noncomputable def ze1327 : Option xI := some (.invokevirtual 216, 3, (273, 2, 1, 12), .null, none)
noncomputable def ze1328 : Option xI := some (.goto (-132), 3, (0, 0, 0, 0), .null, some [0, 1])
noncomputable def ze1329 : Option xI := some (.putfield 180, 3, (12, 10, 0, 0), .null, none)
noncomputable def ze1330 : Option xI := some (.if_icmp .ge 66, 3, (0, 0, 0, 0), .null, none)
noncomputable def ze1331 : Option xI := some (.ldc2_w 176, 3, (0, 0, 0, 0), .long (Int64.ofInt 48), none)
noncomputable def ze1332 : Option xI := some (.ldc2_w 178, 3, (0, 0, 0, 0), .long (Int64.ofInt 57), none)
noncomputable def ze1333 : Option xI := some (.ifCond .eq 44, 3, (0, 0, 0, 0), .null, none)
noncomputable def ze1334 : Option xI := some (.ldc 183, 2, (0, 0, 0, 0), .int (Int32.ofInt 100000), none)
noncomputable def ze1335 : Option xI := some (.bipush 10, 2, (0, 0, 0, 0), .null, some [0, 1, 2, 3])
noncomputable def ze1336 : Option xI := some (.goto (-71), 3, (0, 0, 0, 0), .null, none)
noncomputable def ze1337 : Option xI := some (.goto 24, 3, (0, 0, 0, 0), .null, none)
noncomputable def ze1338 : Option xI := some (.ifCond .ge 32, 3, (0, 0, 0, 0), .null, none)
noncomputable def ze1339 : Option xI := some (.ldc2_w 242, 3, (0, 0, 0, 0), .long (Int64.ofInt 9999), none)
noncomputable def ze1340 : Option xI := some (.sipush 1615, 3, (0, 0, 0, 0), .null, none)
noncomputable def ze1341 : Option xI := some (.invokevirtual 248, 3, (278, 0, 1, 12), .null, none)
noncomputable def ze1342 : Option xI := some (.ifCond .ne 39, 3, (0, 0, 0, 0), .null, none)
noncomputable def ze1343 : Option xI := some (.sipush 1616, 3, (0, 0, 0, 0), .null, none)
noncomputable def ze1344 : Option xI := some (.sipush 1617, 3, (0, 0, 0, 0), .null, none)
noncomputable def ze1345 : Option xI := some (.ifCond .ge 5, 3, (0, 0, 0, 0), .null, none)
noncomputable def ze1346 : Option xI := some (.ldc2_w 252, 3, (0, 0, 0, 0), .long (Int64.ofInt 300), none)
noncomputable def ze1347 : Option xI := some (.ifCond .le 21, 3, (0, 0, 0, 0), .null, none)
noncomputable def ze1348 : Option xI := some (.tableswitch 342 0 22 #[106, 130, 166, 191, 216, 274, 342, 342, 342, 342, 342, 342, 342, 342, 342, 342, 342, 342, 342, 342, 299, 299, 299], 106, (0, 0, 0, 0), .null, none)
noncomputable def ze1349 : Option xI := some (.ldc2_w 311, 3, (0, 0, 0, 0), .long (Int64.ofInt 1000000), none)
noncomputable def ze1350 : Option xI := some (.ldc2_w 313, 3, (0, 0, 0, 0), .long (Int64.ofInt 250000), none)
noncomputable def ze1351 : Option xI := some (.ldc2_w 315, 3, (0, 0, 0, 0), .long (Int64.ofInt 60), none)
noncomputable def ze1352 : Option xI := some (.if_icmp .eq 33, 3, (0, 0, 0, 0), .null, none)
noncomputable def ze1353 : Option xI := some (.if_icmp .eq 26, 3, (0, 0, 0, 0), .null, none)
noncomputable def ze1354 : Option xI := some (.ldc2_w 317, 3, (0, 0, 0, 0), .long (Int64.ofInt 200), none)
noncomputable def ze1355 : Option xI := some (.ldc2_w 38, 3, (0, 0, 0, 0), .long (Int64.ofInt 100), some [0, 1, 2])
noncomputable def ze1356 : Option xI := some (.invokestatic 54, 3, (204, 3, 3, 0), .null, some [0, 1, 2])
noncomputable def ze1357 : Option xI := some (.sipush 1611, 3, (0, 0, 0, 0), .null, none)
noncomputable def ze1358 : Option xI := some (.ldc2_w 319, 3, (0, 0, 0, 0), .long (Int64.ofInt 10), none)
noncomputable def ze1359 : Option xI := some (.ldc2_w 321, 3, (0, 0, 0, 0), .long (Int64.ofInt 13), none)
noncomputable def ze1360 : Option xI := some (.ifCond .ne 15, 3, (0, 0, 0, 0), .null, none)
noncomputable def ze1361 : Option xI := some (.ldc2_w 323, 3, (0, 0, 0, 0), .long (Int64.ofInt 100000), none)
noncomputable def ze1362 : Option xI := some (.if_icmp .ge 38, 3, (0, 0, 0, 0), .null, none)
noncomputable def ze1363 : Option xI := some (.ifCond .eq 26, 3, (0, 0, 0, 0), .null, none)
noncomputable def ze1364 : Option xI := some (.lconst 0, 1, (0, 0, 0, 0), .null, some [0])
noncomputable def ze1365 : Option xI := some (.lastore, 1, (0, 0, 0, 0), .null, some [0])
noncomputable def ze1366 : Option xI := some (.ldc2_w 325, 3, (0, 0, 0, 0), .long (Int64.ofInt 1000000000), none)
noncomputable def ze1367 : Option xI := some (.bipush 18, 2, (0, 0, 0, 0), .null, none)
noncomputable def ze1368 : Option xI := some (.ifCond .lt 42, 3, (0, 0, 0, 0), .null, none)
noncomputable def ze1369 : Option xI := some (.sipush 315, 3, (0, 0, 0, 0), .null, none)
noncomputable def ze1370 : Option xI := some (.sipush 1172, 3, (0, 0, 0, 0), .null, none)
noncomputable def ze1371 : Option xI := some (.sipush 1172, 3, (0, 0, 0, 0), .null, some [0])
noncomputable def ze1372 : Option xI := some (.invokevirtual 327, 3, (287, 0, 1, 12), .null, none)
noncomputable def ze1373 : Option xI := some (.bipush 6, 2, (0, 0, 0, 0), .null, some [0])
noncomputable def ze1374 : Option xI := some (.imul, 1, (0, 0, 0, 0), .null, some [0])
noncomputable def ze1375 : Option xI := some (.bipush 35, 2, (0, 0, 0, 0), .null, none)
noncomputable def ze1376 : Option xI := some (.goto (-28), 3, (0, 0, 0, 0), .null, none)
noncomputable def ze1377 : Option xI := some (.ldc2_w 123, 3, (0, 0, 0, 0), .long (Int64.ofInt 7), some [])
noncomputable def ze1378 : Option xI := some (.invokevirtual 330, 3, (289, 1, 1, 12), .null, none)
noncomputable def ze1379 : Option xI := some (.if_icmp .eq 11, 3, (0, 0, 0, 0), .null, none)
noncomputable def ze1380 : Option xI := some (.invokestatic 333, 3, (290, 2, 3, 0), .null, none)
noncomputable def ze1381 : Option xI := some (.ldc2_w 46, 3, (0, 0, 0, 0), .long (Int64.ofInt (-1)), some [])
noncomputable def ze1382 : Option xI := some (.invokestatic 336, 3, (291, 2, 3, 0), .null, none)
noncomputable def ze1383 : Option xI := some (.aload_n 0, 1, (0, 0, 0, 0), .null, some [0, 4, 5])
noncomputable def ze1384 : Option xI := some (.lsub, 1, (0, 0, 0, 0), .null, some [])
noncomputable def ze1385 : Option xI := some (.ldc2_w 140, 3, (0, 0, 0, 0), .long (Int64.ofInt 6), some [0, 1])
noncomputable def ze1386 : Option xI := some (.l2i, 1, (0, 0, 0, 0), .null, some [0, 1])
noncomputable def ze1387 : Option xI := some (.iadd, 1, (0, 0, 0, 0), .null, some [])
noncomputable def ze1388 : Option xI := some (.if_icmp .eq 15, 3, (0, 0, 0, 0), .null, none)
noncomputable def ze1389 : Option xI := some (.aload_n 0, 1, (0, 0, 0, 0), .null, some [0, 2, 3])
noncomputable def ze1390 : Option xI := some (.lconst 0, 1, (0, 0, 0, 0), .null, some [0, 1, 2, 3])
noncomputable def ze1391 : Option xI := some (.iload 8, 2, (0, 0, 0, 0), .null, some [0, 1, 2, 3, 4, 6, 8])
noncomputable def ze1392 : Option xI := some (.if_icmp .ge 70, 3, (0, 0, 0, 0), .null, none)
noncomputable def ze1393 : Option xI := some (.invokevirtual 342, 3, (288, 3, 1, 12), .null, none)
noncomputable def ze1394 : Option xI := some (.lload 6, 2, (0, 0, 0, 0), .null, some [0, 1, 2, 3, 4, 6, 8])
noncomputable def ze1395 : Option xI := some (.lstore 6, 2, (0, 0, 0, 0), .null, some [0, 1, 2, 3, 4, 8])
noncomputable def ze1396 : Option xI := some (.goto (-70), 3, (0, 0, 0, 0), .null, none)
noncomputable def ze1397 : Option xI := some (.ldc2_w 38, 3, (0, 0, 0, 0), .long (Int64.ofInt 100), some [0, 1, 2, 4, 6])
noncomputable def ze1398 : Option xI := some (.lconst 0, 1, (0, 0, 0, 0), .null, some [0, 2])
noncomputable def ze1399 : Option xI := some (.sipush 1613, 3, (0, 0, 0, 0), .null, none)
noncomputable def ze1400 : Option xI := some (.lstore 12, 2, (0, 0, 0, 0), .null, none)
noncomputable def ze1401 : Option xI := some (.lload 12, 2, (0, 0, 0, 0), .null, none)
noncomputable def ze1402 : Option xI := some (.invokestatic 339, 3, (294, 2, 3, 0), .null, none)
noncomputable def ze1403 : Option xI := some (.lstore 14, 2, (0, 0, 0, 0), .null, none)
noncomputable def ze1404 : Option xI := some (.lload 12, 2, (0, 0, 0, 0), .null, some [12, 14])
noncomputable def ze1405 : Option xI := some (.lload 14, 2, (0, 0, 0, 0), .null, some [14])
noncomputable def ze1406 : Option xI := some (.lload_n 2, 1, (0, 0, 0, 0), .null, some [0, 2])
noncomputable def ze1407 : Option xI := some (.tableswitch 73 0 3 #[29, 40, 51, 62], 29, (0, 0, 0, 0), .null, none)
noncomputable def ze1408 : Option xI := some (.ifCond .eq 31, 3, (0, 0, 0, 0), .null, none)
noncomputable def ze1409 : Option xI := some (.ldc2_w 346, 3, (0, 0, 0, 0), .long (Int64.ofInt 5), none)
noncomputable def ze1410 : Option xI := some (.tableswitch 128 0 5 #[39, 47, 55, 63, 71, 79], 39, (0, 0, 0, 0), .null, none)
noncomputable def ze1411 : Option xI := some (.i2l, 1, (0, 0, 0, 0), .null, some [0])
noncomputable def ze1412 : Option xI := some (.i2l, 1, (0, 0, 0, 0), .null, some [])
noncomputable def ze1413 : Option xI := some (.goto 23, 3, (0, 0, 0, 0), .null, none)
noncomputable def ze1414 : Option xI := some (.invokevirtual 351, 3, (303, 1, 1, 12), .null, none)
noncomputable def ze1415 : Option xI := some (.tableswitch 95 0 5 #[39, 54, 69, 77, 82, 87], 39, (0, 0, 0, 0), .null, none)
noncomputable def ze1416 : Option xI := some (.bipush 69, 2, (0, 0, 0, 0), .null, none)
noncomputable def ze1417 : Option xI := some (.invokevirtual 348, 3, (304, 0, 1, 12), .null, none)
noncomputable def ze1418 : Option xI := some (.lload_n 1, 1, (0, 0, 0, 0), .null, some [0, 1, 3])
noncomputable def ze1419 : Option xI := some (.lstore_n 1, 1, (0, 0, 0, 0), .null, some [0, 3])
noncomputable def ze1420 : Option xI := some (.ifCond .gt 18, 3, (0, 0, 0, 0), .null, none)
noncomputable def ze1421 : Option xI := some (.invokevirtual 357, 3, (306, 2, 1, 12), .null, none)
noncomputable def ze1422 : Option xI := some (.if_icmp .ge 69, 3, (0, 0, 0, 0), .null, none)
noncomputable def ze1423 : Option xI := some (.ldc 119, 2, (0, 0, 0, 0), .int (Int32.ofInt 86400), some [0, 1, 2, 3, 5, 6])
noncomputable def ze1424 : Option xI := some (.istore 7, 2, (0, 0, 0, 0), .null, some [0, 1, 2, 3, 5, 6])
noncomputable def ze1425 : Option xI := some (.invokevirtual 354, 3, (307, 3, 1, 12), .null, none)
noncomputable def ze1426 : Option xI := some (.iload 9, 2, (0, 0, 0, 0), .null, some [0, 2, 3, 4, 5, 7, 8, 9])
noncomputable def ze1427 : Option xI := some (.ifCond .gt 151, 3, (0, 0, 0, 0), .null, none)
noncomputable def ze1428 : Option xI := some (.ifCond .ge 24, 3, (0, 0, 0, 0), .null, none)
noncomputable def ze1429 : Option xI := some (.ldc 119, 2, (0, 0, 0, 0), .int (Int32.ofInt 86400), some [0, 2, 3, 4, 5, 7, 8, 9])
noncomputable def ze1430 : Option xI := some (.istore 10, 2, (0, 0, 0, 0), .null, some [0, 2, 3, 4, 5, 7, 8, 9])
noncomputable def ze1431 : Option xI := some (.if_icmp .le 8, 3, (0, 0, 0, 0), .null, none)
noncomputable def ze1432 : Option xI := some (.iload_n 2, 1, (0, 0, 0, 0), .null, some [0, 2, 3, 4, 5, 7, 9, 10])
noncomputable def ze1433 : Option xI := some (.istore 11, 2, (0, 0, 0, 0), .null, some [0, 2, 3, 4, 5, 7, 9, 10])
noncomputable def ze1434 : Option xI := some (.iload 10, 2, (0, 0, 0, 0), .null, none)
noncomputable def ze1435 : Option xI := some (.if_icmp .ge 8, 3, (0, 0, 0, 0), .null, none)
noncomputable def ze1436 : Option xI := some (.iload_n 3, 1, (0, 0, 0, 0), .null, some [0, 2, 3, 4, 5, 7, 9, 10, 11])
noncomputable def ze1437 : Option xI := some (.istore 12, 2, (0, 0, 0, 0), .null, some [0, 2, 3, 4, 5, 7, 9, 10, 11])
noncomputable def ze1438 : Option xI := some (.iload 11, 2, (0, 0, 0, 0), .null, none)
noncomputable def ze1439 : Option xI := some (.if_icmp .le 25, 3, (0, 0, 0, 0), .null, none)
noncomputable def ze1440 : Option xI := some (.iload 10, 2, (0, 0, 0, 0), .null, some [0, 2, 3, 4, 5, 7, 9, 10])
noncomputable def ze1441 : Option xI := some (.ifCond .ge 23, 3, (0, 0, 0, 0), .null, none)
noncomputable def ze1442 : Option xI := some (.iinc 9 1, 3, (0, 0, 0, 0), .null, some [0, 2, 3, 4, 5, 7, 8, 9])
noncomputable def ze1443 : Option xI := some (.goto (-163), 3, (0, 0, 0, 0), .null, none)
noncomputable def ze1444 : Option xI := some (.lload 5, 2, (0, 0, 0, 0), .null, some [5])
noncomputable def ze1445 : Option xI := some (.ifCond .eq 33, 3, (0, 0, 0, 0), .null, none)
noncomputable def ze1446 : Option xI := some (.ldc2_w 360, 3, (0, 0, 0, 0), .long (Int64.ofInt 85500), none)
noncomputable def ze1447 : Option xI := some (.ifCond .gt 13, 3, (0, 0, 0, 0), .null, none)
noncomputable def ze1448 : Option xI := some (.if_icmp .ge 45, 3, (0, 0, 0, 0), .null, none)
noncomputable def ze1449 : Option xI := some (.ifCond .ge 6, 3, (0, 0, 0, 0), .null, none)
noncomputable def ze1450 : Option xI := some (.goto (-46), 3, (0, 0, 0, 0), .null, none)
noncomputable def ze1451 : Option xI := some (.if_icmp .ge 25, 3, (0, 0, 0, 0), .null, none)
noncomputable def ze1452 : Option xI := some (.if_icmp .gt 63, 3, (0, 0, 0, 0), .null, none)
noncomputable def ze1453 : Option xI := some (.iload 9, 2, (0, 0, 0, 0), .null, some [0, 1, 2, 3, 5, 6, 7, 9])
noncomputable def ze1454 : Option xI := some (.iinc 9 1, 3, (0, 0, 0, 0), .null, none)
noncomputable def ze1455 : Option xI := some (.goto (-24), 3, (0, 0, 0, 0), .null, none)
noncomputable def ze1456 : Option xI := some (.lload 7, 2, (0, 0, 0, 0), .null, some [0, 1, 2, 3, 5, 6, 7])
noncomputable def ze1457 : Option xI := some (.lload 7, 2, (0, 0, 0, 0), .null, some [0, 1, 2, 6, 7])
noncomputable def ze1458 : Option xI := some (.goto (-68), 3, (0, 0, 0, 0), .null, none)
noncomputable def ze1459 : Option xI := some (.iload_n 2, 1, (0, 0, 0, 0), .null, some [0, 2, 3, 5])
noncomputable def ze1460 : Option xI := some (.lconst 0, 1, (0, 0, 0, 0), .null, some [0, 1, 2, 5])
noncomputable def ze1461 : Option xI := some (.ladd, 1, (0, 0, 0, 0), .null, some [0, 1, 2, 5])
noncomputable def ze1462 : Option xI := some (.ldc2_w 44, 3, (0, 0, 0, 0), .long (Int64.ofInt 40), some [0, 1, 2])
noncomputable def ze1463 : Option xI := some (.ifCond .eq 37, 3, (0, 0, 0, 0), .null, none)
noncomputable def ze1464 : Option xI := some (.getfield 362, 3, (12, 3, 2, 0), .null, none)
noncomputable def ze1465 : Option xI := some (.getfield 16, 3, (12, 2, 3, 0), .null, none)
noncomputable def ze1466 : Option xI := some (.putfield 362, 3, (12, 3, 2, 0), .null, none)
noncomputable def ze1467 : Option xI := some (.ldc2_w 365, 3, (0, 0, 0, 0), .long (Int64.ofInt 30), none)
noncomputable def ze1468 : Option xI := some (.ldc2_w 367, 3, (0, 0, 0, 0), .long (Int64.ofInt 33), none)
noncomputable def ze1469 : Option xI := some (.ldc2_w 369, 3, (0, 0, 0, 0), .long (Int64.ofInt 43), none)
noncomputable def ze1470 : Option xI := some (.ldc2_w 371, 3, (0, 0, 0, 0), .long (Int64.ofInt 20), none)
noncomputable def ze1471 : Option xI := some (.ldc2_w 373, 3, (0, 0, 0, 0), .long (Int64.ofInt 25), none)
noncomputable def ze1472 : Option xI := some (.ldc2_w 375, 3, (0, 0, 0, 0), .long (Int64.ofInt 50), none)
noncomputable def ze1473 : Option xI := some (.ldc2_w 377, 3, (0, 0, 0, 0), .long (Int64.ofInt 52), none)
noncomputable def ze1474 : Option xI := some (.tableswitch 408 0 57 #[246, 253, 266, 274, 282, 290, 298, 306, 314, 319, 327, 335, 343, 350, 357, 364, 408, 408, 408, 408, 408, 408, 408, 408, 408, 408, 408, 408, 408, 408, 408, 408, 408, 408, 408, 408, 408, 408, 408, 408, 408, 408, 408, 408, 408, 408, 408, 408, 408, 408, 408, 408, 408, 370, 379, 388, 393, 402], 246, (0, 0, 0, 0), .null, none)
noncomputable def ze1475 : Option xI := some (.new 7, 3, (11, 0, 0, 0), .null, none)
noncomputable def ze1476 : Option xI := some (.invokespecial 9, 3, (0, 0, 2, 11), .null, none)
noncomputable def ze1477 : Option xI := some (.astore_n 1, 1, (0, 0, 0, 0), .null, none)
noncomputable def ze1478 : Option xI := some (.new 10, 3, (12, 0, 0, 0), .null, none)
noncomputable def ze1479 : Option xI := some (.invokespecial 12, 3, (201, 0, 2, 12), .null, none)
noncomputable def ze1480 : Option xI := some (.astore_n 2, 1, (0, 0, 0, 0), .null, none)
noncomputable def ze1481 : Option xI := some (.if_icmp .gt 1638, 3, (0, 0, 0, 0), .null, none)
noncomputable def ze1482 : Option xI := some (.bipush 63, 2, (0, 0, 0, 0), .null, none)
noncomputable def ze1483 : Option xI := some (.tableswitch 1623 0 46 #[203, 236, 269, 292, 325, 368, 391, 454, 477, 490, 513, 536, 559, 592, 635, 668, 691, 714, 763, 802, 825, 838, 872, 905, 938, 961, 984, 1027, 1050, 1083, 1116, 1139, 1162, 1195, 1238, 1271, 1304, 1337, 1360, 1393, 1406, 1429, 1462, 1495, 1528, 1561, 1600], 203, (0, 0, 0, 0), .null, none)
noncomputable def ze1484 : Option xI := some (.aload_n 1, 1, (0, 0, 0, 0), .null, some [0, 1, 2, 3])
noncomputable def ze1485 : Option xI := some (.invokevirtual 13, 3, (16, 2, 1, 11), .null, none)
noncomputable def ze1486 : Option xI := some (.invokevirtual 17, 3, (202, 2, 1, 12), .null, none)
noncomputable def ze1487 : Option xI := some (.goto 1390, 3, (0, 0, 0, 0), .null, none)
noncomputable def ze1488 : Option xI := some (.invokevirtual 18, 3, (19, 2, 1, 11), .null, none)
noncomputable def ze1489 : Option xI := some (.invokevirtual 22, 3, (205, 2, 1, 12), .null, none)
noncomputable def ze1490 : Option xI := some (.goto 1357, 3, (0, 0, 0, 0), .null, none)
noncomputable def ze1491 : Option xI := some (.invokevirtual 23, 3, (69, 1, 1, 11), .null, none)
noncomputable def ze1492 : Option xI := some (.pop2, 1, (0, 0, 0, 0), .null, none)
noncomputable def ze1493 : Option xI := some (.invokevirtual 27, 3, (279, 1, 1, 12), .null, none)
noncomputable def ze1494 : Option xI := some (.goto 1334, 3, (0, 0, 0, 0), .null, none)
noncomputable def ze1495 : Option xI := some (.invokevirtual 28, 3, (73, 2, 1, 11), .null, none)
noncomputable def ze1496 : Option xI := some (.invokevirtual 31, 3, (280, 2, 1, 12), .null, none)
noncomputable def ze1497 : Option xI := some (.goto 1301, 3, (0, 0, 0, 0), .null, none)
noncomputable def ze1498 : Option xI := some (.invokevirtual 32, 3, (78, 3, 1, 11), .null, none)
noncomputable def ze1499 : Option xI := some (.invokevirtual 36, 3, (240, 3, 1, 12), .null, none)
noncomputable def ze1500 : Option xI := some (.goto 1258, 3, (0, 0, 0, 0), .null, none)
noncomputable def ze1501 : Option xI := some (.invokevirtual 37, 3, (83, 1, 1, 11), .null, none)
noncomputable def ze1502 : Option xI := some (.invokevirtual 41, 3, (244, 1, 1, 12), .null, none)
noncomputable def ze1503 : Option xI := some (.goto 1235, 3, (0, 0, 0, 0), .null, none)
noncomputable def ze1504 : Option xI := some (.invokevirtual 42, 3, (85, 5, 1, 11), .null, none)
noncomputable def ze1505 : Option xI := some (.invokevirtual 46, 3, (256, 5, 1, 12), .null, none)
noncomputable def ze1506 : Option xI := some (.goto 1172, 3, (0, 0, 0, 0), .null, none)
noncomputable def ze1507 : Option xI := some (.invokevirtual 47, 3, (88, 1, 1, 11), .null, none)
noncomputable def ze1508 : Option xI := some (.invokevirtual 51, 3, (258, 1, 1, 12), .null, none)
noncomputable def ze1509 : Option xI := some (.goto 1149, 3, (0, 0, 0, 0), .null, none)
noncomputable def ze1510 : Option xI := some (.invokevirtual 52, 3, (90, 0, 1, 11), .null, none)
noncomputable def ze1511 : Option xI := some (.invokevirtual 56, 3, (260, 0, 1, 12), .null, none)
noncomputable def ze1512 : Option xI := some (.goto 1136, 3, (0, 0, 0, 0), .null, none)
noncomputable def ze1513 : Option xI := some (.invokevirtual 57, 3, (113, 1, 1, 11), .null, none)
noncomputable def ze1514 : Option xI := some (.invokevirtual 60, 3, (259, 1, 1, 12), .null, none)
noncomputable def ze1515 : Option xI := some (.goto 1113, 3, (0, 0, 0, 0), .null, none)
noncomputable def ze1516 : Option xI := some (.invokevirtual 61, 3, (114, 1, 1, 11), .null, none)
noncomputable def ze1517 : Option xI := some (.invokevirtual 64, 3, (276, 1, 1, 12), .null, none)
noncomputable def ze1518 : Option xI := some (.goto 1090, 3, (0, 0, 0, 0), .null, none)
noncomputable def ze1519 : Option xI := some (.invokevirtual 65, 3, (116, 1, 1, 11), .null, none)
noncomputable def ze1520 : Option xI := some (.invokevirtual 68, 3, (277, 1, 1, 12), .null, none)
noncomputable def ze1521 : Option xI := some (.goto 1067, 3, (0, 0, 0, 0), .null, none)
noncomputable def ze1522 : Option xI := some (.invokevirtual 69, 3, (122, 2, 1, 11), .null, none)
noncomputable def ze1523 : Option xI := some (.invokevirtual 72, 3, (245, 2, 1, 12), .null, none)
noncomputable def ze1524 : Option xI := some (.goto 1034, 3, (0, 0, 0, 0), .null, none)
noncomputable def ze1525 : Option xI := some (.invokevirtual 73, 3, (124, 3, 1, 11), .null, none)
noncomputable def ze1526 : Option xI := some (.invokevirtual 77, 3, (247, 3, 1, 12), .null, none)
noncomputable def ze1527 : Option xI := some (.goto 991, 3, (0, 0, 0, 0), .null, none)
noncomputable def ze1528 : Option xI := some (.invokevirtual 78, 3, (125, 2, 1, 11), .null, none)
noncomputable def ze1529 : Option xI := some (.invokevirtual 81, 3, (248, 2, 1, 12), .null, none)
noncomputable def ze1530 : Option xI := some (.goto 958, 3, (0, 0, 0, 0), .null, none)
noncomputable def ze1531 : Option xI := some (.invokevirtual 82, 3, (127, 1, 1, 11), .null, none)
noncomputable def ze1532 : Option xI := some (.invokevirtual 85, 3, (281, 1, 1, 12), .null, none)
noncomputable def ze1533 : Option xI := some (.goto 935, 3, (0, 0, 0, 0), .null, none)
noncomputable def ze1534 : Option xI := some (.invokevirtual 86, 3, (130, 1, 1, 11), .null, none)
noncomputable def ze1535 : Option xI := some (.invokevirtual 89, 3, (282, 1, 1, 12), .null, none)
noncomputable def ze1536 : Option xI := some (.goto 912, 3, (0, 0, 0, 0), .null, none)
noncomputable def ze1537 : Option xI := some (.invokevirtual 90, 3, (134, 2, 1, 11), .null, some [0, 1, 2, 3])
noncomputable def ze1538 : Option xI := some (.invokevirtual 94, 3, (283, 2, 1, 12), .null, some [0, 1, 2, 3])
noncomputable def ze1539 : Option xI := some (.goto 863, 3, (0, 0, 0, 0), .null, none)
noncomputable def ze1540 : Option xI := some (.invokevirtual 95, 3, (135, 1, 1, 11), .null, some [0, 1, 2, 3])
noncomputable def ze1541 : Option xI := some (.invokevirtual 99, 3, (284, 1, 1, 12), .null, some [0, 1, 2, 3])
noncomputable def ze1542 : Option xI := some (.goto 824, 3, (0, 0, 0, 0), .null, none)
noncomputable def ze1543 : Option xI := some (.invokevirtual 100, 3, (136, 1, 1, 11), .null, none)
noncomputable def ze1544 : Option xI := some (.invokevirtual 103, 3, (285, 1, 1, 12), .null, none)
noncomputable def ze1545 : Option xI := some (.goto 801, 3, (0, 0, 0, 0), .null, none)
noncomputable def ze1546 : Option xI := some (.invokevirtual 104, 3, (137, 0, 1, 11), .null, none)
noncomputable def ze1547 : Option xI := some (.invokevirtual 107, 3, (286, 0, 1, 12), .null, none)
noncomputable def ze1548 : Option xI := some (.goto 788, 3, (0, 0, 0, 0), .null, none)
noncomputable def ze1549 : Option xI := some (.invokevirtual 108, 3, (140, 2, 1, 11), .null, none)
noncomputable def ze1550 : Option xI := some (.invokevirtual 112, 3, (237, 2, 1, 12), .null, none)
noncomputable def ze1551 : Option xI := some (.ifCond .eq 756, 3, (0, 0, 0, 0), .null, none)
noncomputable def ze1552 : Option xI := some (.invokevirtual 113, 3, (144, 2, 1, 11), .null, none)
noncomputable def ze1553 : Option xI := some (.invokevirtual 116, 3, (295, 2, 1, 12), .null, none)
noncomputable def ze1554 : Option xI := some (.goto 721, 3, (0, 0, 0, 0), .null, none)
noncomputable def ze1555 : Option xI := some (.invokevirtual 117, 3, (147, 2, 1, 11), .null, none)
noncomputable def ze1556 : Option xI := some (.invokevirtual 120, 3, (296, 2, 1, 12), .null, none)
noncomputable def ze1557 : Option xI := some (.goto 688, 3, (0, 0, 0, 0), .null, none)
noncomputable def ze1558 : Option xI := some (.invokevirtual 121, 3, (148, 1, 1, 11), .null, none)
noncomputable def ze1559 : Option xI := some (.invokevirtual 124, 3, (250, 1, 1, 12), .null, none)
noncomputable def ze1560 : Option xI := some (.goto 665, 3, (0, 0, 0, 0), .null, none)
noncomputable def ze1561 : Option xI := some (.invokevirtual 125, 3, (149, 1, 1, 11), .null, none)
noncomputable def ze1562 : Option xI := some (.invokevirtual 128, 3, (251, 1, 1, 12), .null, none)
noncomputable def ze1563 : Option xI := some (.goto 642, 3, (0, 0, 0, 0), .null, none)
noncomputable def ze1564 : Option xI := some (.invokevirtual 129, 3, (151, 3, 1, 11), .null, none)
noncomputable def ze1565 : Option xI := some (.invokevirtual 132, 3, (252, 3, 1, 12), .null, none)
noncomputable def ze1566 : Option xI := some (.goto 599, 3, (0, 0, 0, 0), .null, none)
noncomputable def ze1567 : Option xI := some (.invokevirtual 133, 3, (152, 1, 1, 11), .null, none)
noncomputable def ze1568 : Option xI := some (.invokevirtual 136, 3, (254, 1, 1, 12), .null, none)
noncomputable def ze1569 : Option xI := some (.goto 576, 3, (0, 0, 0, 0), .null, none)
noncomputable def ze1570 : Option xI := some (.invokevirtual 137, 3, (154, 2, 1, 11), .null, none)
noncomputable def ze1571 : Option xI := some (.invokevirtual 140, 3, (297, 2, 1, 12), .null, none)
noncomputable def ze1572 : Option xI := some (.goto 543, 3, (0, 0, 0, 0), .null, none)
noncomputable def ze1573 : Option xI := some (.invokevirtual 141, 3, (155, 2, 1, 11), .null, none)
noncomputable def ze1574 : Option xI := some (.invokevirtual 144, 3, (298, 2, 1, 12), .null, none)
noncomputable def ze1575 : Option xI := some (.goto 510, 3, (0, 0, 0, 0), .null, none)
noncomputable def ze1576 : Option xI := some (.invokevirtual 145, 3, (156, 1, 1, 11), .null, none)
noncomputable def ze1577 : Option xI := some (.invokevirtual 148, 3, (299, 1, 1, 12), .null, none)
noncomputable def ze1578 : Option xI := some (.goto 487, 3, (0, 0, 0, 0), .null, none)
noncomputable def ze1579 : Option xI := some (.invokevirtual 149, 3, (157, 1, 1, 11), .null, none)
noncomputable def ze1580 : Option xI := some (.invokevirtual 152, 3, (300, 1, 1, 12), .null, none)
noncomputable def ze1581 : Option xI := some (.goto 464, 3, (0, 0, 0, 0), .null, none)
noncomputable def ze1582 : Option xI := some (.invokevirtual 153, 3, (158, 2, 1, 11), .null, none)
noncomputable def ze1583 : Option xI := some (.invokevirtual 156, 3, (301, 2, 1, 12), .null, none)
noncomputable def ze1584 : Option xI := some (.goto 431, 3, (0, 0, 0, 0), .null, none)
noncomputable def ze1585 : Option xI := some (.invokevirtual 157, 3, (159, 3, 1, 11), .null, none)
noncomputable def ze1586 : Option xI := some (.invokevirtual 161, 3, (288, 3, 1, 12), .null, none)
noncomputable def ze1587 : Option xI := some (.goto 388, 3, (0, 0, 0, 0), .null, none)
noncomputable def ze1588 : Option xI := some (.invokevirtual 162, 3, (163, 2, 1, 11), .null, none)
noncomputable def ze1589 : Option xI := some (.invokevirtual 165, 3, (292, 2, 1, 12), .null, none)
noncomputable def ze1590 : Option xI := some (.goto 355, 3, (0, 0, 0, 0), .null, none)
noncomputable def ze1591 : Option xI := some (.invokevirtual 166, 3, (166, 2, 1, 11), .null, none)
noncomputable def ze1592 : Option xI := some (.invokevirtual 169, 3, (293, 2, 1, 12), .null, none)
noncomputable def ze1593 : Option xI := some (.goto 322, 3, (0, 0, 0, 0), .null, none)
noncomputable def ze1594 : Option xI := some (.invokevirtual 170, 3, (170, 2, 1, 11), .null, none)
noncomputable def ze1595 : Option xI := some (.invokevirtual 173, 3, (302, 2, 1, 12), .null, none)
noncomputable def ze1596 : Option xI := some (.goto 289, 3, (0, 0, 0, 0), .null, none)
noncomputable def ze1597 : Option xI := some (.invokevirtual 174, 3, (181, 1, 1, 11), .null, none)
noncomputable def ze1598 : Option xI := some (.invokevirtual 177, 3, (305, 1, 1, 12), .null, none)
noncomputable def ze1599 : Option xI := some (.goto 266, 3, (0, 0, 0, 0), .null, none)
noncomputable def ze1600 : Option xI := some (.invokevirtual 178, 3, (183, 2, 1, 11), .null, none)
noncomputable def ze1601 : Option xI := some (.invokevirtual 181, 3, (308, 2, 1, 12), .null, none)
noncomputable def ze1602 : Option xI := some (.goto 233, 3, (0, 0, 0, 0), .null, none)
noncomputable def ze1603 : Option xI := some (.invokevirtual 182, 3, (184, 0, 1, 11), .null, none)
noncomputable def ze1604 : Option xI := some (.invokevirtual 185, 3, (309, 0, 1, 12), .null, none)
noncomputable def ze1605 : Option xI := some (.goto 220, 3, (0, 0, 0, 0), .null, none)
noncomputable def ze1606 : Option xI := some (.invokevirtual 186, 3, (186, 1, 1, 11), .null, none)
noncomputable def ze1607 : Option xI := some (.invokevirtual 189, 3, (310, 1, 1, 12), .null, none)
noncomputable def ze1608 : Option xI := some (.goto 197, 3, (0, 0, 0, 0), .null, none)
noncomputable def ze1609 : Option xI := some (.invokevirtual 190, 3, (187, 2, 1, 11), .null, none)
noncomputable def ze1610 : Option xI := some (.invokevirtual 193, 3, (311, 2, 1, 12), .null, none)
noncomputable def ze1611 : Option xI := some (.goto 164, 3, (0, 0, 0, 0), .null, none)
noncomputable def ze1612 : Option xI := some (.invokevirtual 194, 3, (189, 2, 1, 11), .null, none)
noncomputable def ze1613 : Option xI := some (.invokevirtual 197, 3, (312, 2, 1, 12), .null, none)
noncomputable def ze1614 : Option xI := some (.goto 131, 3, (0, 0, 0, 0), .null, none)
noncomputable def ze1615 : Option xI := some (.invokevirtual 198, 3, (190, 2, 1, 11), .null, none)
noncomputable def ze1616 : Option xI := some (.invokevirtual 201, 3, (313, 2, 1, 12), .null, none)
noncomputable def ze1617 : Option xI := some (.goto 98, 3, (0, 0, 0, 0), .null, none)
noncomputable def ze1618 : Option xI := some (.invokevirtual 202, 3, (193, 2, 1, 11), .null, none)
noncomputable def ze1619 : Option xI := some (.invokevirtual 205, 3, (253, 2, 1, 12), .null, none)
noncomputable def ze1620 : Option xI := some (.goto 65, 3, (0, 0, 0, 0), .null, none)
noncomputable def ze1621 : Option xI := some (.invokevirtual 206, 3, (195, 1, 1, 11), .null, some [0, 1, 2, 3])
noncomputable def ze1622 : Option xI := some (.invokevirtual 209, 3, (314, 1, 1, 12), .null, some [0, 1, 2, 3])
noncomputable def ze1623 : Option xI := some (.goto 26, 3, (0, 0, 0, 0), .null, none)
noncomputable def ze1624 : Option xI := some (.invokevirtual 210, 3, (196, 1, 1, 11), .null, none)
noncomputable def ze1625 : Option xI := some (.invokevirtual 213, 3, (315, 1, 1, 12), .null, none)
noncomputable def ze1626 : Option xI := some (.goto 3, 3, (0, 0, 0, 0), .null, none)
noncomputable def ze1627 : Option xI := some (.iinc 3 6, 3, (0, 0, 0, 0), .null, some [0, 1, 2, 3])
noncomputable def ze1628 : Option xI := some (.goto (-1641), 3, (0, 0, 0, 0), .null, none)
noncomputable def pt0 : List (List (Option xI)) := [
  [ze0, ze1, none, none, ze0, ze2, none, none, ze3, ze4, none, none, ze5, none, none, ze0],
  [ze2, none, none, ze3, ze4, none, none, ze6, none, none, ze0, ze2, none, none, ze3, ze4],
  [none, none, ze7, none, none, ze0, ze8, none, none, ze3, ze9, none, none, ze10, none, none],
  [ze11]]
noncomputable def pm0 : xM := (⟨"WorkMeter", "<init>", "()V"⟩, prog_1_method_1_code, 1, none, x_at pt0)
-- 1: WorkMeter$Meter.<init>()V
noncomputable def pt1 : List (List (Option xI)) := [
  [ze0, ze1, none, none, ze0, ze12, none, none, ze3, ze13, none, none, ze14, none, none, ze0],
  [ze15, none, none, ze3, ze16, none, none, ze17, none, none, ze0, ze18, none, none, ze3, ze19],
  [none, none, ze20, none, none, ze0, ze21, none, none, ze3, ze22, none, none, ze23, none, none],
  [ze0, ze24, none, none, ze3, ze25, none, none, ze26, none, none, ze0, ze27, none, none, ze3],
  [ze28, none, none, ze29, none, none, ze0, ze30, none, none, ze3, ze31, none, none, ze32, none],
  [none, ze0, ze33, none, none, ze3, ze34, none, none, ze35, none, none, ze0, ze36, none, none],
  [ze3, ze37, none, none, ze38, none, none, ze11]]
noncomputable def pm1 : xM := (⟨"WorkMeter$Meter", "<init>", "()V"⟩, prog_8_method_1_code, 1, none, x_at pt1)
-- 2: WorkMeter$Settings.<init>()V
noncomputable def pt2 : List (List (Option xI)) := [
  [ze0, ze1, none, none, ze0, ze39, none, ze40, none, ze41, none, none, ze42, none, none, ze43],
  [ze0, ze44, none, none, ze43, ze39, none, ze45, none, none, ze11]]
noncomputable def pm2 : xM := (⟨"WorkMeter$Settings", "<init>", "()V"⟩, prog_11_method_1_code, 1, none, x_at pt2)
-- 3: WorkMeter$Calendar.<init>()V
noncomputable def pt3 : List (List (Option xI)) := [
  [ze0, ze46, none, none, ze0, ze47, none, ze40, none, ze48, none, none, ze0, ze49, none, ze40],
  [none, ze50, none, none, ze0, ze49, none, ze40, none, ze51, none, none, ze0, ze52, ze40, none],
  [ze53, none, none, ze0, ze54, none, ze40, none, ze55, none, none, ze0, ze56, none, ze40, none],
  [ze57, none, none, ze0, ze56, none, ze40, none, ze58, none, none, ze0, ze59, none, none, ze11]]
noncomputable def pm3 : xM := (⟨"WorkMeter$Calendar", "<init>", "()V"⟩, prog_2_method_1_code, 1, none, x_at pt3)
-- 4: WorkMeter$Calendar.clearAll()V
noncomputable def pt4 : List (List (Option xI)) := [
  [ze0, ze60, none, none, ze43, ze61, none, none, ze0, ze62, none, none, ze63, ze61, none, none],
  [ze0, ze62, none, none, ze43, ze43, ze64, ze0, ze65, none, none, ze43, ze61, none, none, ze0],
  [ze43, ze66, none, none, ze11]]
noncomputable def pm4 : xM := (⟨"WorkMeter$Calendar", "clearAll", "()V"⟩, prog_2_method_2_code, 1, none, x_at pt4)
-- 5: java/util/Arrays.fill([II)V
noncomputable def pt5 : List (List (Option xI)) := [
  [ze43, ze67, ze0, ze68, ze69, ze70, ze71, ze72, none, none, ze0, ze73, ze74, ze64, ze75, none],
  [none, ze76, none, none, ze77]]
noncomputable def pm5 : xM := (⟨"java/util/Arrays", "fill", "([II)V"⟩, prog_20_method_103_code, 4, none, x_at pt5)
-- 6: WorkMeter$Wave.<init>()V
noncomputable def pt6 : List (List (Option xI)) := [
  [ze0, ze46, none, none, ze0, ze49, none, ze40, none, ze78, none, none, ze0, ze49, none, ze40],
  [none, ze79, none, none, ze0, ze56, none, ze80, none, ze81, none, none, ze0, ze82, ze83, none],
  [none, ze0, ze47, none, ze84, none, none, ze11]]
noncomputable def pm6 : xM := (⟨"WorkMeter$Wave", "<init>", "()V"⟩, prog_12_method_1_code, 1, none, x_at pt6)
-- 7: WorkMeter$Registers.<init>()V
noncomputable def pt7 : List (List (Option xI)) := [
  [ze0, ze46, none, none, ze0, ze54, none, ze80, none, ze85, none, none, ze0, ze54, none, ze80],
  [none, ze86, none, none, ze0, ze87, none, none, ze80, none, ze88, none, none, ze11]]
noncomputable def pm7 : xM := (⟨"WorkMeter$Registers", "<init>", "()V"⟩, prog_9_method_1_code, 1, none, x_at pt7)
-- 8: WorkMeter$Load.<init>()V
noncomputable def pt8 : List (List (Option xI)) := [
  [ze0, ze1, none, none, ze0, ze89, none, none, ze80, none, ze90, none, none, ze0, ze52, ze80],
  [none, ze91, none, none, ze11]]
noncomputable def pm8 : xM := (⟨"WorkMeter$Load", "<init>", "()V"⟩, prog_5_method_1_code, 1, none, x_at pt8)
-- 9: WorkMeter$Demand.<init>()V
noncomputable def pt9 : List (List (Option xI)) := [
  [ze0, ze1, none, none, ze0, ze52, ze80, none, ze92, none, none, ze0, ze52, ze40, none, ze93],
  [none, none, ze0, ze94, none, none, ze95, none, none, ze0, ze63, ze96, none, none, ze0, ze97],
  [none, none, ze11]]
noncomputable def pm9 : xM := (⟨"WorkMeter$Demand", "<init>", "()V"⟩, prog_4_method_1_code, 1, none, x_at pt9)
-- 10: WorkMeter$Demand.clearMost()V
noncomputable def pt10 : List (List (Option xI)) := [
  [ze0, ze98, none, none, ze94, none, none, ze99, none, none, ze0, ze100, none, none, ze63, ze101],
  [none, none, ze11]]
noncomputable def pm10 : xM := (⟨"WorkMeter$Demand", "clearMost", "()V"⟩, prog_4_method_2_code, 1, none, x_at pt10)
-- 11: java/util/Arrays.fill([JJ)V
noncomputable def pt11 : List (List (Option xI)) := [
  [ze43, ze69, ze0, ze68, ze102, none, ze103, ze104, none, ze72, none, none, ze0, ze71, ze105, ze106],
  [ze107, none, none, ze108, none, none, ze77]]
noncomputable def pm11 : xM := (⟨"java/util/Arrays", "fill", "([JJ)V"⟩, prog_20_method_101_code, 5, none, x_at pt11)
-- 12: WorkMeter$Marks.<init>()V
noncomputable def pt12 : List (List (Option xI)) := [
  [ze0, ze109, none, none, ze0, ze110, ze40, none, ze111, none, none, ze0, ze110, ze40, none, ze112],
  [none, none, ze0, ze110, ze40, none, ze113, none, none, ze11]]
noncomputable def pm12 : xM := (⟨"WorkMeter$Marks", "<init>", "()V"⟩, prog_7_method_1_code, 1, none, x_at pt12)
-- 13: WorkMeter$Logbook.<init>()V
noncomputable def pt13 : List (List (Option xI)) := [
  [ze0, ze109, none, none, ze0, ze114, none, ze40, none, ze115, none, none, ze11]]
noncomputable def pm13 : xM := (⟨"WorkMeter$Logbook", "<init>", "()V"⟩, prog_6_method_1_code, 1, none, x_at pt13)
-- 14: WorkMeter$Seal.<init>()V
noncomputable def pt14 : List (List (Option xI)) := [
  [ze0, ze109, none, none, ze11]]
noncomputable def pm14 : xM := (⟨"WorkMeter$Seal", "<init>", "()V"⟩, prog_10_method_1_code, 1, none, x_at pt14)
-- 15: WorkMeter$CalendarText.<init>()V
noncomputable def pt15 : List (List (Option xI)) := [
  [ze0, ze1, none, none, ze0, ze116, none, none, ze40, none, ze117, none, none, ze0, ze118, none],
  [none, ze3, ze119, none, none, ze120, none, none, ze0, ze52, ze40, none, ze121, none, none, ze0],
  [ze63, ze122, none, none, ze11]]
noncomputable def pm15 : xM := (⟨"WorkMeter$CalendarText", "<init>", "()V"⟩, prog_3_method_1_code, 1, none, x_at pt15)
-- 16: WorkMeter.phases(II)Z
noncomputable def pt16 : List (List (Option xI)) := [
  [ze0, ze123, none, none, ze124, none, none, ze125, none, none, ze126, none, none, ze43, ze127, ze128],
  [ze123, none, none, ze129, none, none, ze74, ze73, ze130, none, none, ze127]]
noncomputable def pm16 : xM := (⟨"WorkMeter", "phases", "(II)Z"⟩, prog_1_method_2_code, 3, (some .boolean), x_at pt16)
-- 17: WorkMeter$Seal.refuses()Z
noncomputable def pt17 : List (List (Option xI)) := [
  [ze0, ze131, none, none, ze132, none, none, ze0, ze3, ze133, none, none, ze82, ze134, ze135, none],
  [none, ze136, ze131, none, none, ze127]]
noncomputable def pm17 : xM := (⟨"WorkMeter$Seal", "refuses", "()Z"⟩, prog_10_method_3_code, 1, (some .boolean), x_at pt17)
-- 18: WorkMeter$Wave.tellShape(II)Z
noncomputable def pt18 : List (List (Option xI)) := [
  [ze74, ze82, ze137, none, none, ze74, ze138, ze139, none, none, ze73, ze52, ze140, none, none, ze73],
  [ze56, none, ze141, none, none, ze73, ze52, ze142, ze126, none, none, ze143, ze127, ze128, ze74, ze83],
  [none, none, ze0, ze73, ze84, none, none, ze0, ze43, ze144, none, none, ze0, ze145, ze146, none],
  [none, ze0, ze147, none, none, ze145, ze148, none, none, ze82, ze127]]
noncomputable def pm18 : xM := (⟨"WorkMeter$Wave", "tellShape", "(II)Z"⟩, prog_12_method_3_code, 3, (some .boolean), x_at pt18)
-- 19: WorkMeter.sample(II)I
noncomputable def pt19 : List (List (Option xI)) := [
  [ze74, ze149, none, none, ze150, none, none, ze74, ze151, none, none, ze152, none, none, ze73, ze149],
  [none, none, ze153, none, none, ze73, ze151, none, none, ze154, none, none, ze155, ze127, ze128, ze123],
  [none, none, ze129, none, none, ze74, ze73, ze156, none, none, ze157, none, none, ze0, ze123, none],
  [none, ze82, ze158, none, none, ze136, ze123, none, none, ze129, none, none, ze159, none, none, ze127]]
noncomputable def pm19 : xM := (⟨"WorkMeter", "sample", "(II)I"⟩, prog_1_method_3_code, 3, (some .int), x_at pt19)
-- 20: WorkMeter$Wave.takeSample(II)Z
noncomputable def pt20 : List (List (Option xI)) := [
  [ze0, ze160, none, none, ze0, ze161, none, none, ze74, ze64, ze0, ze162, none, none, ze0, ze161],
  [none, none, ze73, ze64, ze0, ze3, ze161, none, none, ze82, ze134, ze144, none, none, ze0, ze161],
  [none, none, ze0, ze163, none, none, ze0, ze164, none, none, ze165, ze166, none, none, ze43, ze127],
  [ze136, ze43, ze144, none, none, ze0, ze167, none, none, ze82, ze127]]
noncomputable def pm20 : xM := (⟨"WorkMeter$Wave", "takeSample", "(II)Z"⟩, prog_12_method_4_code, 3, (some .boolean), x_at pt20)
-- 21: WorkMeter$Wave.sumUp()V
noncomputable def pt21 : List (List (Option xI)) := [
  [ze0, ze147, none, none, ze145, ze148, none, none, ze0, ze164, none, none, ze52, ze168, ze169, ze43],
  [ze67, ze170, ze0, ze164, none, none, ze171, none, none, ze73, ze74, ze134, ze0, ze164, none, none],
  [ze142, ze69, ze43, ze102, none, ze172, none, ze0, ze163, none, none, ze173, none, none, ze73, ze0],
  [ze163, none, none, ze165, ze104, none, ze134, ze174, none, ze0, ze43, ze104, none, ze0, ze160, none],
  [none, ze175, none, ze176, ze0, ze162, none, none, ze175, none, ze176, ze165, ze177, none, none, ze0],
  [ze82, ze104, none, ze0, ze160, none, none, ze175, none, ze176, ze0, ze162, none, none, ze71, ze0],
  [ze163, none, none, ze165, ze104, none, ze134, ze176, ze165, ze177, none, none, ze0, ze178, ze104, none],
  [ze0, ze160, none, none, ze175, none, ze176, ze0, ze160, none, none, ze175, none, ze176, ze165, ze177],
  [none, none, ze0, ze138, ze104, none, ze0, ze162, none, none, ze175, none, ze176, ze0, ze162, none],
  [none, ze175, none, ze176, ze165, ze177, none, none, ze179, none, none, ze180, none, none, ze181, none],
  [none, ze182, none, none, ze136, ze0, ze138, ze183, none, none, ze146, none, none, ze11]]
noncomputable def pm21 : xM := (⟨"WorkMeter$Wave", "sumUp", "()V"⟩, prog_12_method_5_code, 6, none, x_at pt21)
-- 22: WorkMeter$Wave.addTo(III)V
noncomputable def pt22 : List (List (Option xI)) := [
  [ze0, ze147, none, none, ze74, ze52, ze165, ze73, ze134, ze184, ze185, ze71, ze186, ze187, ze106, ze0],
  [ze147, none, none, ze74, ze52, ze165, ze138, ze134, ze184, ze185, ze71, ze186, ze187, ze106, ze11]]
noncomputable def pm22 : xM := (⟨"WorkMeter$Wave", "addTo", "(III)V"⟩, prog_12_method_6_code, 4, none, x_at pt22)
-- 23: WorkMeter$Wave.apparentOf(I)J
noncomputable def pt23 : List (List (Option xI)) := [
  [ze0, ze147, none, none, ze43, ze74, ze134, ze185, ze188, ze0, ze147, none, none, ze52, ze74, ze134],
  [ze185, ze189, none, ze190, ze190, ze191, ze192, none, ze192, none, ze191, ze187, ze193, none, none, ze194]]
noncomputable def pm23 : xM := (⟨"WorkMeter$Wave", "apparentOf", "(I)J"⟩, prog_12_method_9_code, 6, (some .long), x_at pt23)
-- 24: WorkMeter$Wave.wholeRoot(J)J
noncomputable def pt24 : List (List (Option xI)) := [
  [ze145, ze188, ze195, none, ze102, none, ze196, none, ze197, none, none, ze190, ze198, ze104, none, ze199],
  [ze187, ze200, none, ze201, none, ze201, none, ze191, ze202, ze203, ze204, none, none, ze201, none, ze188],
  [ze205, none, none, ze206, none, none, ze207, ze194]]
noncomputable def pm24 : xM := (⟨"WorkMeter$Wave", "wholeRoot", "(J)J"⟩, prog_12_method_14_code, 7, (some .long), x_at pt24)
-- 25: WorkMeter$Meter.meterTimes(I)V
noncomputable def pt25 : List (List (Option xI)) := [
  [ze74, ze67, ze43, ze69, ze208, ze74, ze209, none, none, ze73, ze210, none, none, ze73, ze0, ze73],
  [ze211, none, none, ze212, ze67, ze107, none, none, ze213, none, none, ze77]]
noncomputable def pm25 : xM := (⟨"WorkMeter$Meter", "meterTimes", "(I)V"⟩, prog_8_method_11_code, 4, none, x_at pt25)
-- 26: WorkMeter$Meter.meterStretch(I)I
noncomputable def pt26 : List (List (Option xI)) := [
  [ze0, ze214, none, none, ze0, ze215, none, none, ze216, none, none, ze67, ze0, ze217, none, none],
  [ze0, ze218, none, none, ze219, none, none, ze220, none, none, ze69, ze0, ze74, ze73, ze71, ze221],
  [none, none, ze102, none, ze0, ze104, none, ze73, ze222, none, none, ze0, ze3, ze223, none, none],
  [ze104, none, ze134, ze224, none, none, ze0, ze3, ze215, none, none, ze104, none, ze82, ze212, ze134],
  [ze225, none, none, ze0, ze226, none, none, ze0, ze227, none, none, ze104, none, ze71, ze0, ze218],
  [none, none, ze228, none, none, ze0, ze229, none, none, ze0, ze215, none, none, ze230, none, none],
  [ze0, ze231, none, none, ze104, none, ze0, ze227, none, none, ze232, none, none, ze233, none, none],
  [ze0, ze215, none, none, ze234, none, ze72, none, none, ze0, ze3, ze215, none, none, ze82, ze134],
  [ze225, none, none, ze235, ze73, ze236, none, none, ze104, none, ze127]]
noncomputable def pm26 : xM := (⟨"WorkMeter$Meter", "meterStretch", "(I)I"⟩, prog_8_method_13_code, 5, (some .int), x_at pt26)
-- 27: WorkMeter$Calendar.tariffOn(I)I
noncomputable def pt27 : List (List (Option xI)) := [
  [ze0, ze0, ze74, ze237, none, ze168, ze238, none, none, ze74, ze237, none, ze142, ze239, none, none],
  [ze127]]
noncomputable def pm27 : xM := (⟨"WorkMeter$Calendar", "tariffOn", "(I)I"⟩, prog_2_method_15_code, 2, (some .int), x_at pt27)
-- 28: WorkMeter$Calendar.tableFor(I)I
noncomputable def pt28 : List (List (Option xI)) := [
  [ze0, ze74, ze240, none, none, ze142, ze241, none, none, ze67, ze73, ze63, ze242, none, none, ze0],
  [ze243, none, none, ze73, ze176, ze127, ze244, ze65, none, none, ze0, ze74, ze240, none, none, ze142],
  [ze245, none, none, ze246, none, ze165, ze74, ze246, none, ze142, ze134, ze176, ze127]]
noncomputable def pm28 : xM := (⟨"WorkMeter$Calendar", "tableFor", "(I)I"⟩, prog_2_method_13_code, 3, (some .int), x_at pt28)
-- 29: WorkMeter$Calendar.specialPlace(I)I
noncomputable def pt29 : List (List (Option xI)) := [
  [ze43, ze67, ze170, ze0, ze247, none, none, ze209, none, none, ze0, ze248, none, none, ze73, ze176],
  [ze74, ze249, none, none, ze73, ze127, ze181, none, none, ze250, none, none, ze155, ze127]]
noncomputable def pm29 : xM := (⟨"WorkMeter$Calendar", "specialPlace", "(I)I"⟩, prog_2_method_8_code, 3, (some .int), x_at pt29)
-- 30: WorkMeter$Calendar.seasonOf(I)I
noncomputable def pt30 : List (List (Option xI)) := [
  [ze63, ze67, ze43, ze69, ze43, ze102, none, ze172, none, ze52, ze251, none, none, ze0, ze62, none],
  [none, ze104, none, ze176, ze63, ze252, none, none, ze253, none, none, ze254, ze62, none, none, ze104],
  [none, ze176, ze74, ze255, none, none, ze73, ze63, ze256, none, none, ze0, ze62, none, none, ze104],
  [none, ze176, ze0, ze62, none, none, ze73, ze176, ze257, none, none, ze258, none, ze67, ze254, ze62],
  [none, none, ze104, none, ze176, ze0, ze62, none, none, ze71, ze176, ze257, none, none, ze104, none],
  [ze69, ze259, none, none, ze260, none, none, ze261, ze63, ze262, none, none, ze71, ze263, none, none],
  [ze264, ze265]]
noncomputable def pm30 : xM := (⟨"WorkMeter$Calendar", "seasonOf", "(I)I"⟩, prog_2_method_12_code, 5, (some .int), x_at pt30)
-- 31: WorkMeter$Calendar.tariffIn(II)I
noncomputable def pt31 : List (List (Option xI)) := [
  [ze0, ze74, ze73, ze82, ze134, ze266, none, none, ze69, ze71, ze267, none, none, ze43, ze268, none],
  [none, ze269, ze270, none, none, ze74, ze271, none, ze165, ze71, ze134, ze82, ze212, ze176, ze265]]
noncomputable def pm31 : xM := (⟨"WorkMeter$Calendar", "tariffIn", "(II)I"⟩, prog_2_method_14_code, 4, (some .int), x_at pt31)
-- 32: WorkMeter$Calendar.switchesBefore(II)I
noncomputable def pt32 : List (List (Option xI)) := [
  [ze74, ze271, none, ze165, ze69, ze43, ze102, none, ze172, none, ze0, ze60, none, none, ze74, ze176],
  [ze272, none, none, ze0, ze273, none, none, ze71, ze104, none, ze134, ze176, ze73, ze274, none, none],
  [ze179, none, none, ze275, none, none, ze276, none, ze127]]
noncomputable def pm32 : xM := (⟨"WorkMeter$Calendar", "switchesBefore", "(II)I"⟩, prog_2_method_7_code, 5, (some .int), x_at pt32)
-- 33: WorkMeter$Settings.low()I
noncomputable def pt33 : List (List (Option xI)) := [
  [ze0, ze44, none, none, ze178, ze176, ze127]]
noncomputable def pm33 : xM := (⟨"WorkMeter$Settings", "low", "()I"⟩, prog_11_method_8_code, 1, (some .int), x_at pt33)
-- 34: WorkMeter$Wave.marksSeen(I)I
noncomputable def pt34 : List (List (Option xI)) := [
  [ze43, ze67, ze43, ze69, ze43, ze102, none, ze43, ze174, none, ze43, ze277, none, ze43, ze278, none],
  [ze279, none, ze0, ze163, none, none, ze280, none, none, ze0, ze147, none, none, ze47, none, ze281],
  [none, ze134, ze185, ze282, none, ze0, ze147, none, none, ze43, ze281, none, ze134, ze185, ze283, none],
  [ze284, none, ze0, ze164, none, none, ze186, ze74, ze186, ze191, ze203, ze285, none, none, ze82, ze263],
  [none, none, ze286, ze287, none, ze73, ze288, none, none, ze289, none, ze290, none, none, ze291, ze263],
  [none, none, ze292, ze293, ze71, ze288, none, none, ze289, none, ze267, none, none, ze294, ze263, none],
  [none, ze295, ze296, ze104, none, ze297, none, none, ze298, none, ze145, ze203, ze299, none, none, ze300],
  [ze263, none, none, ze301, ze302, none, ze175, none, ze297, none, none, ze298, none, ze145, ze203, ze285],
  [none, none, ze303, ze263, none, none, ze304, ze305, none, ze306, none, ze307, none, none, ze284, none],
  [ze145, ze203, ze308, none, none, ze0, ze147, none, none, ze309, none, ze281, none, ze134, ze185, ze145],
  [ze203, ze299, none, none, ze310, ze263, none, none, ze311, ze312, none, ze313, none, none, ze314, none],
  [none, ze315, ze157, none, none, ze71, ze290, none, none, ze52, ze263, none, none, ze316, ze317, none],
  [ze132, none, none, ze175, none, ze318, none, none, ze47, none, ze263, none, none, ze319, ze320, ze306],
  [none, ze318, none, none, ze56, none, ze263, none, none, ze143, ze321, ze127]]
noncomputable def pm34 : xM := (⟨"WorkMeter$Wave", "marksSeen", "(I)I"⟩, prog_12_method_15_code, 13, (some .int), x_at pt34)
-- 35: WorkMeter$Meter.stretch(III)I
noncomputable def pt35 : List (List (Option xI)) := [
  [ze0, ze215, none, none, ze234, none, ze322, none, none, ze82, ze127, ze323, ze218, none, none, ze324],
  [none, none, ze102, none, ze74, ze234, none, ze0, ze215, none, none, ze212, ze325, none, none, ze174],
  [none, ze175, none, ze0, ze214, none, none, ze0, ze215, none, none, ze326, none, none, ze0, ze215],
  [none, none, ze212, ze325, none, none, ze174, none, ze175, none, ze104, none, ze0, ze215, none, none],
  [ze104, none, ze142, ze212, ze325, none, none, ze174, none, ze0, ze227, none, none, ze71, ze0, ze218],
  [none, none, ze228, none, none, ze175, none, ze327, none, none, ze174, none, ze0, ze73, ze175, none],
  [ze328, none, none, ze127]]
noncomputable def pm35 : xM := (⟨"WorkMeter$Meter", "stretch", "(III)I"⟩, prog_8_method_14_code, 6, (some .int), x_at pt35)
-- 36: WorkMeter$Settings.blockLength()I
noncomputable def pt36 : List (List (Option xI)) := [
  [ze82, ze0, ze44, none, none, ze52, ze176, ze329, none, none, ze127]]
noncomputable def pm36 : xM := (⟨"WorkMeter$Settings", "blockLength", "()I"⟩, prog_11_method_13_code, 1, (some .int), x_at pt36)
-- 37: WorkMeter$Calendar.heldUntil(I)I
noncomputable def pt37 : List (List (Option xI)) := [
  [ze74, ze237, none, ze168, ze67, ze0, ze73, ze238, none, none, ze69, ze0, ze71, ze74, ze237, none],
  [ze142, ze82, ze134, ze266, none, none, ze102, none, ze104, none, ze0, ze60, none, none, ze71, ze176],
  [ze330, none, none, ze0, ze273, none, none, ze71, ze271, none, ze165, ze104, none, ze134, ze176, ze331],
  [none, none, ze332, none, ze333, none, ze73, ze237, none, ze165, ze175, none, ze134, ze127]]
noncomputable def pm37 : xM := (⟨"WorkMeter$Calendar", "heldUntil", "(I)I"⟩, prog_2_method_16_code, 6, (some .int), x_at pt37)
-- 38: WorkMeter$Settings.delay()I
noncomputable def pt38 : List (List (Option xI)) := [
  [ze0, ze44, none, none, ze138, ze176, ze127]]
noncomputable def pm38 : xM := (⟨"WorkMeter$Settings", "delay", "()I"⟩, prog_11_method_9_code, 1, (some .int), x_at pt38)
-- 39: WorkMeter$Marks.secondsToTurn(III)I
noncomputable def pt39 : List (List (Option xI)) := [
  [ze71, ze102, none, ze178, ze174, none, ze334, none, ze110, ze335, none, none, ze74, ze175, none, ze336],
  [ze82, ze337, ze82, ze262, none, none, ze82, ze263, none, none, ze338, ze339, none, ze0, ze175, none],
  [ze340, none, none, ze341, none, none, ze306, none, ze342, none, none, ze82, ze127, ze343, ze175, none],
  [ze340, none, none, ze344, none, none, ze306, none, ze345, none, none, ze104, none, ze82, ze73, ze82],
  [ze134, ze0, ze346, none, none, ze175, none, ze176, ze212, ze347, none, none, ze348, none, none, ze102],
  [none, ze349, none, none, ze350, none, none, ze276, none, ze127]]
noncomputable def pm39 : xM := (⟨"WorkMeter$Marks", "secondsToTurn", "(III)I"⟩, prog_7_method_6_code, 7, (some .int), x_at pt39)
-- 40: WorkMeter$Marks.isOn(I)Z
noncomputable def pt40 : List (List (Option xI)) := [
  [ze0, ze351, none, none, ze74, ze336, ze82, ze337, ze82, ze262, none, none, ze82, ze263, none, none],
  [ze143, ze265]]
noncomputable def pm40 : xM := (⟨"WorkMeter$Marks", "isOn", "(I)Z"⟩, prog_7_method_3_code, 2, (some .boolean), x_at pt40)
-- 41: WorkMeter$Meter.secondsToOpen(II)I
noncomputable def pt41 : List (List (Option xI)) := [
  [ze0, ze217, none, none, ze352, none, none, ze353, ze0, ze218, none, none, ze74, ze354, none, none],
  [ze174, none, ze0, ze355, none, none, ze356, none, none, ze0, ze357, none, none, ze358, none, none],
  [ze359, ze145, ze203, ze360, none, none, ze175, none, ze361, none, none, ze0, ze362, none, none, ze126],
  [none, none, ze264, ze127, ze363, ze364, none, none, ze175, none, ze186, ze187, ze198, ze365, ze175, none],
  [ze186, ze366, ze367, none, ze0, ze368, none, none, ze74, ze369, none, none, ze282, none, ze284, none],
  [ze0, ze218, none, none, ze370, none, none, ze186, ze366, ze371, none, ze187, ze0, ze218, none, none],
  [ze370, none, none, ze186, ze191, ze284, none, ze365, ze283, none, ze198, ze73, ze186, ze298, none, ze359],
  [ze187, ze198, ze365, ze359, ze366, ze372, none, none, ze373, none, none, ze374, ze127]]
noncomputable def pm41 : xM := (⟨"WorkMeter$Meter", "secondsToOpen", "(II)I"⟩, prog_8_method_16_code, 12, (some .int), x_at pt41)
-- 42: WorkMeter$Wave.active()J
noncomputable def pt42 : List (List (Option xI)) := [
  [ze0, ze147, none, none, ze138, ze185, ze194]]
noncomputable def pm42 : xM := (⟨"WorkMeter$Wave", "active", "()J"⟩, prog_12_method_7_code, 1, (some .long), x_at pt42)
-- 43: WorkMeter$Settings.priceOf(I)I
noncomputable def pt43 : List (List (Option xI)) := [
  [ze0, ze44, none, none, ze271, none, ze74, ze134, ze176, ze127]]
noncomputable def pm43 : xM := (⟨"WorkMeter$Settings", "priceOf", "(I)I"⟩, prog_11_method_11_code, 2, (some .int), x_at pt43)
-- 44: WorkMeter$Meter.isCreeping()Z
noncomputable def pt44 : List (List (Option xI)) := [
  [ze0, ze218, none, none, ze375, none, none, ze169, ze0, ze357, none, none, ze290, none, none, ze145],
  [ze376, none, none, ze244, ze217, none, none, ze352, none, none, ze377, ze0, ze357, none, none, ze290],
  [none, none, ze145, ze376, none, none, ze128, ze217, none, none, ze378, none, none, ze379, none, ze190],
  [ze380, none, none, ze74, ze186, ze203, ze381, none, none, ze192, none, ze380, none, none, ze74, ze186],
  [ze203, ze285, none, none, ze82, ze263, none, none, ze143, ze265]]
noncomputable def pm44 : xM := (⟨"WorkMeter$Meter", "isCreeping", "()Z"⟩, prog_8_method_15_code, 6, (some .boolean), x_at pt44)
-- 45: WorkMeter$Settings.start()I
noncomputable def pt45 : List (List (Option xI)) := [
  [ze0, ze44, none, none, ze43, ze176, ze127]]
noncomputable def pm45 : xM := (⟨"WorkMeter$Settings", "start", "()I"⟩, prog_11_method_7_code, 1, (some .int), x_at pt45)
-- 46: WorkMeter$Wave.reactive()J
noncomputable def pt46 : List (List (Option xI)) := [
  [ze0, ze147, none, none, ze246, none, ze185, ze194]]
noncomputable def pm46 : xM := (⟨"WorkMeter$Wave", "reactive", "()J"⟩, prog_12_method_8_code, 1, (some .long), x_at pt46)
-- 47: WorkMeter$Registers.importOf(I)J
noncomputable def pt47 : List (List (Option xI)) := [
  [ze0, ze382, none, none, ze43, ze74, ze134, ze185, ze194]]
noncomputable def pm47 : xM := (⟨"WorkMeter$Registers", "importOf", "(I)J"⟩, prog_9_method_4_code, 2, (some .long), x_at pt47)
-- 48: WorkMeter$Settings.unit()I
noncomputable def pt48 : List (List (Option xI)) := [
  [ze82, ze0, ze44, none, none, ze82, ze176, ze329, none, none, ze127]]
noncomputable def pm48 : xM := (⟨"WorkMeter$Settings", "unit", "()I"⟩, prog_11_method_12_code, 1, (some .int), x_at pt48)
-- 49: WorkMeter$Meter.meterPower(II)V
noncomputable def pt49 : List (List (Option xI)) := [
  [ze0, ze362, none, none, ze383, none, none, ze0, ze3, ze384, none, none, ze74, ze134, ze385, none],
  [none, ze11, ze128, ze357, none, none, ze386, none, none, ze11, ze128, ze217, none, none, ze352, none],
  [none, ze74, ze186, ze191, ze353, ze0, ze217, none, none, ze387, none, none, ze74, ze186, ze191, ze200],
  [none, ze0, ze368, none, none, ze73, ze369, none, none, ze0, ze218, none, none, ze370, none, none],
  [ze186, ze366, ze388, none, ze0, ze368, none, none, ze73, ze359, ze0, ze217, none, none, ze378, none],
  [none, ze74, ze186, ze191, ze201, none, ze389, none, none, ze0, ze368, none, none, ze73, ze369, none],
  [none, ze0, ze218, none, none, ze370, none, none, ze186, ze366, ze390, none, ze365, ze391, none, ze0],
  [ze3, ze364, none, none, ze392, none, ze0, ze218, none, none, ze73, ze354, none, none, ze186, ze191],
  [ze365, ze393, none, none, ze0, ze231, none, none, ze359, ze201, none, ze394, none, none, ze11]]
noncomputable def pm49 : xM := (⟨"WorkMeter$Meter", "meterPower", "(II)V"⟩, prog_8_method_17_code, 11, none, x_at pt49)
-- 50: WorkMeter$Registers.count(IJJJ)V
noncomputable def pt50 : List (List (Option xI)) := [
  [ze190, ze145, ze203, ze395, none, none, ze0, ze382, none, none, ze43, ze74, ze134, ze184, ze185, ze190],
  [ze187, ze106, ze396, none, none, ze397, ze382, none, none, ze52, ze74, ze134, ze184, ze185, ze190, ze365],
  [ze106, ze398, ze190, ze192, none, ze399, none, none, ze134, ze82, ze212, ze400, none, ze0, ze382, none],
  [none, ze401, none, ze52, ze165, ze74, ze134, ze184, ze185, ze192, none, ze402, none, none, ze187, ze106],
  [ze0, ze382, none, none, ze403, none, ze74, ze134, ze184, ze185, ze371, none, ze187, ze106, ze11]]
noncomputable def pm50 : xM := (⟨"WorkMeter$Registers", "count", "(IJJJ)V"⟩, prog_9_method_3_code, 9, none, x_at pt50)
-- 51: WorkMeter$Wave.quadrantOf(JJ)I
noncomputable def pt51 : List (List (Option xI)) := [
  [ze202, ze145, ze203, ze404, none, none, ze190, ze145, ze203, ze405, none, none, ze82, ze263, none, none],
  [ze406, ze265, ze207, ze145, ze203, ze405, none, none, ze178, ze263, none, none, ze407, ze265]]
noncomputable def pm51 : xM := (⟨"WorkMeter$Wave", "quadrantOf", "(JJ)I"⟩, prog_12_method_10_code, 4, (some .int), x_at pt51)
-- 52: WorkMeter$Load.addPower(JJ)V
noncomputable def pt52 : List (List (Option xI)) := [
  [ze105, ze145, ze203, ze408, none, none, ze0, ze3, ze409, none, none, ze105, ze187, ze410, none, none],
  [ze411, none, none, ze269, ze3, ze412, none, none, ze105, ze365, ze413, none, none, ze414, ze3, ze415],
  [none, none, ze359, ze187, ze416, none, none, ze11]]
noncomputable def pm52 : xM := (⟨"WorkMeter$Load", "addPower", "(JJ)V"⟩, prog_5_method_5_code, 5, none, x_at pt52)
-- 53: WorkMeter$Meter.settleSwitch()V
noncomputable def pt53 : List (List (Option xI)) := [
  [ze0, ze355, none, none, ze417, none, none, ze0, ze364, none, none, ze145, ze203, ze418, none, none],
  [ze82, ze263, none, none, ze419, ze420, ze74, ze0, ze357, none, none, ze421, none, none, ze0, ze74],
  [ze422, none, none, ze0, ze0, ze357, none, none, ze318, none, none, ze423, none, ze331, none, none],
  [ze424, none, ze143, ze425, none, none, ze77]]
noncomputable def pm53 : xM := (⟨"WorkMeter$Meter", "settleSwitch", "()V"⟩, prog_8_method_9_code, 2, none, x_at pt53)
-- 54: WorkMeter$Meter.note(II)V
noncomputable def pt54 : List (List (Option xI)) := [
  [ze0, ze229, none, none, ze0, ze215, none, none, ze74, ze73, ze426, none, none, ze11]]
noncomputable def pm54 : xM := (⟨"WorkMeter$Meter", "note", "(II)V"⟩, prog_8_method_3_code, 3, none, x_at pt54)
-- 55: WorkMeter$Logbook.add(III)V
noncomputable def pt55 : List (List (Option xI)) := [
  [ze0, ze427, none, none, ze428, none, ze142, ze138, ze165, ze102, none, ze0, ze429, none, none, ze104],
  [none, ze74, ze64, ze0, ze429, none, none, ze104, none, ze82, ze134, ze73, ze64, ze0, ze429, none],
  [none, ze104, none, ze178, ze134, ze71, ze64, ze0, ze3, ze427, none, none, ze82, ze134, ze430, none],
  [none, ze11]]
noncomputable def pm55 : xM := (⟨"WorkMeter$Logbook", "add", "(III)V"⟩, prog_6_method_5_code, 5, none, x_at pt55)
-- 56: WorkMeter$Marks.passSeconds(IIILWorkMeter$Logbook;I)V
noncomputable def pt56 : List (List (Option xI)) := [
  [ze43, ze277, none, ze431, none, ze110, ze432, none, none, ze0, ze306, none, ze340, none, none, ze278],
  [none, ze306, none, ze178, ze433, none, none, ze73, ze306, none, ze336, ze82, ze337, ze82, ze262, none],
  [none, ze82, ze263, none, none, ze434, ze435, none, ze0, ze346, none, none, ze306, none, ze401, none],
  [ze436, none, none, ze0, ze346, none, none, ze306, none, ze176, ze74, ze134, ze263, none, none, ze437],
  [ze438, ze281, none, ze157, none, none, ze401, none, ze439, none, none, ze440, none, none, ze441, none],
  [ze442, none, none, ze0, ze346, none, none, ze306, none, ze176, ze71, ze443, none, none, ze444, ze306],
  [none, ze281, none, ze267, none, none, ze82, ze263, none, none, ze434, ze445, none, ze175, none, ze446],
  [none, none, ze444, ze306, none, ze340, none, none, ze447, none, none, ze0, ze448, none, none, ze306],
  [none, ze184, ze176, ze281, none, ze290, none, none, ze74, ze263, none, none, ze449, ze450, ze64, ze451],
  [none, none, ze452, none, none, ze77]]
noncomputable def pm56 : xM := (⟨"WorkMeter$Marks", "passSeconds", "(IIILWorkMeter$Logbook;I)V"⟩, prog_7_method_7_code, 9, none, x_at pt56)
-- 57: WorkMeter$Marks.turn(IZLWorkMeter$Logbook;I)V
noncomputable def pt57 : List (List (Option xI)) := [
  [ze73, ze453, none, none, ze0, ze3, ze351, none, none, ze82, ze74, ze454, ze455, ze456, none, none],
  [ze0, ze457, none, none, ze74, ze184, ze176, ze82, ze134, ze64, ze458, ze104, none, ze74, ze43, ze459],
  [none, none, ze460, none, none, ze461, ze3, ze351, none, none, ze82, ze74, ze454, ze63, ze462, ze337],
  [ze456, none, none, ze458, ze104, none, ze74, ze463, none, ze134, ze43, ze459, none, none, ze77]]
noncomputable def pm57 : xM := (⟨"WorkMeter$Marks", "turn", "(IZLWorkMeter$Logbook;I)V"⟩, prog_7_method_4_code, 5, none, x_at pt57)
-- 58: WorkMeter$Load.addMetered(II)V
noncomputable def pt58 : List (List (Option xI)) := [
  [ze0, ze3, ze464, none, none, ze74, ze134, ze465, none, none, ze0, ze3, ze466, none, none, ze73],
  [ze455, ze467, none, none, ze11]]
noncomputable def pm58 : xM := (⟨"WorkMeter$Load", "addMetered", "(II)V"⟩, prog_5_method_6_code, 3, none, x_at pt58)
-- 59: WorkMeter$Meter.endBlockIfDue(I)V
noncomputable def pt59 : List (List (Option xI)) := [
  [ze0, ze218, none, none, ze324, none, none, ze67, ze0, ze215, none, none, ze73, ze142, ze468, none],
  [none, ze0, ze231, none, none, ze0, ze215, none, none, ze73, ze43, ze469, none, none, ze0, ze470],
  [none, none, ze0, ze231, none, none, ze0, ze218, none, none, ze471, none, none, ze73, ze74, ze472],
  [none, none, ze77]]
noncomputable def pm59 : xM := (⟨"WorkMeter$Meter", "endBlockIfDue", "(I)V"⟩, prog_8_method_18_code, 3, none, x_at pt59)
-- 60: WorkMeter$Load.endBlock(III)V
noncomputable def pt60 : List (List (Option xI)) := [
  [ze0, ze464, none, none, ze0, ze473, none, none, ze134, ze474, none, none, ze0, ze73, ze475, none],
  [none, ze71, ze455, ze102, none, ze0, ze74, ze74, ze73, ze142, ze476, none, none, ze104, none, ze477],
  [none, none, ze455, ze331, none, none, ze478, none, ze479, none, none, ze244, ze145, ze410, none, none],
  [ze0, ze145, ze413, none, none, ze0, ze145, ze416, none, none, ze0, ze43, ze465, none, none, ze0],
  [ze43, ze480, none, none, ze0, ze43, ze467, none, none, ze0, ze74, ze481, none, none, ze11]]
noncomputable def pm60 : xM := (⟨"WorkMeter$Load", "endBlock", "(III)V"⟩, prog_5_method_9_code, 5, none, x_at pt60)
-- 61: WorkMeter$Load.statusSoFar(I)I
noncomputable def pt61 : List (List (Option xI)) := [
  [ze0, ze466, none, none, ze67, ze0, ze473, none, none, ze482, none, none, ze73, ze483, none, ze455],
  [ze67, ze128, ze484, none, none, ze74, ze142, ze157, none, none, ze73, ze477, none, none, ze455, ze263],
  [none, none, ze264, ze265]]
noncomputable def pm61 : xM := (⟨"WorkMeter$Load", "statusSoFar", "(I)I"⟩, prog_5_method_8_code, 3, (some .int), x_at pt61)
-- 62: WorkMeter$Load.addLine(II)V
noncomputable def pt62 : List (List (Option xI)) := [
  [ze0, ze485, none, none, ze486, none, ze142, ze271, none, ze165, ze69, ze43, ze102, none, ze172, none],
  [ze52, ze487, none, none, ze0, ze488, none, none, ze104, none, ze184, ze185, ze0, ze489, none, none],
  [ze71, ze82, ze134, ze104, none, ze134, ze185, ze187, ze106, ze179, none, none, ze490, none, none, ze323],
  [ze489, none, none, ze71, ze43, ze134, ze74, ze186, ze106, ze0, ze489, none, none, ze71, ze82, ze134],
  [ze0, ze409, none, none, ze106, ze0, ze489, none, none, ze71, ze178, ze134, ze0, ze412, none, none],
  [ze106, ze0, ze489, none, none, ze71, ze138, ze134, ze0, ze415, none, none, ze106, ze0, ze489, none],
  [none, ze71, ze52, ze134, ze0, ze464, none, none, ze186, ze106, ze0, ze489, none, none, ze71, ze110],
  [ze134, ze73, ze186, ze106, ze0, ze3, ze485, none, none, ze82, ze134, ze491, none, none, ze11]]
noncomputable def pm62 : xM := (⟨"WorkMeter$Load", "addLine", "(II)V"⟩, prog_5_method_10_code, 5, none, x_at pt62)
-- 63: WorkMeter$Settings.window()I
noncomputable def pt63 : List (List (Option xI)) := [
  [ze0, ze44, none, none, ze110, ze176, ze127]]
noncomputable def pm63 : xM := (⟨"WorkMeter$Settings", "window", "()I"⟩, prog_11_method_10_code, 1, (some .int), x_at pt63)
-- 64: WorkMeter$Demand.blockEnded(LWorkMeter$Load;III)V
noncomputable def pt64 : List (List (Option xI)) := [
  [ze492, ze73, ze71, ze493, none, none, ze494, none, none, ze11, ze495, ze492, ze43, ze73, ze496, none],
  [none, ze95, none, none, ze0, ze492, ze43, ze43, ze497, none, none, ze374, ze96, none, none, ze0],
  [ze498, none, none, ze0, ze98, none, none, ze104, none, ze185, ze203, ze499, none, none, ze0, ze98],
  [none, none, ze104, none, ze0, ze498, none, none, ze106, ze0, ze100, none, none, ze104, none, ze0],
  [ze500, none, none, ze64, ze77]]
noncomputable def pm64 : xM := (⟨"WorkMeter$Demand", "blockEnded", "(LWorkMeter$Load;III)V"⟩, prog_4_method_4_code, 5, none, x_at pt64)
-- 65: WorkMeter$Demand.windowIsWhole(LWorkMeter$Load;II)Z
noncomputable def pt65 : List (List (Option xI)) := [
  [ze0, ze501, none, none, ze74, ze166, none, none, ze43, ze127, ze502, ze69, ze208, ze74, ze503, none],
  [none, ze0, ze71, ze110, ze497, none, none, ze504, none, none, ze505, ze145, ze203, ze126, none, none],
  [ze43, ze127, ze208, ze506, none, none, ze0, ze71, ze82, ze212, ze43, ze497, none, none, ze0, ze71],
  [ze43, ze497, none, none, ze365, ze73, ze186, ze203, ze126, none, none, ze43, ze127, ze507, none, none],
  [ze508, none, none, ze509, ze127]]
noncomputable def pm65 : xM := (⟨"WorkMeter$Demand", "windowIsWhole", "(LWorkMeter$Load;II)Z"⟩, prog_4_method_5_code, 4, (some .boolean), x_at pt65)
-- 66: WorkMeter$Load.linesKept()I
noncomputable def pt66 : List (List (Option xI)) := [
  [ze0, ze485, none, none, ze486, none, ze510, none, none, ze127]]
noncomputable def pm66 : xM := (⟨"WorkMeter$Load", "linesKept", "()I"⟩, prog_5_method_3_code, 1, (some .int), x_at pt66)
-- 67: WorkMeter$Load.field(II)J
noncomputable def pt67 : List (List (Option xI)) := [
  [ze0, ze489, none, none, ze0, ze485, none, none, ze82, ze212, ze74, ze212, ze486, none, ze142, ze271],
  [none, ze165, ze73, ze134, ze185, ze194]]
noncomputable def pm67 : xM := (⟨"WorkMeter$Load", "field", "(II)J"⟩, prog_5_method_4_code, 3, (some .long), x_at pt67)
-- 68: WorkMeter$Load.importOf(II)J
noncomputable def pt68 : List (List (Option xI)) := [
  [ze145, ze353, ze74, ze174, none, ze511, none, ze74, ze73, ze134, ze512, none, none, ze359, ze0, ze175],
  [none, ze82, ze513, none, none, ze187, ze353, ze514, none, none, ze515, none, none, ze516, ze194]]
noncomputable def pm68 : xM := (⟨"WorkMeter$Load", "importOf", "(II)J"⟩, prog_5_method_11_code, 6, (some .long), x_at pt68)
-- 69: WorkMeter.again(I)J
noncomputable def pt69 : List (List (Option xI)) := [
  [ze74, ze82, ze153, none, none, ze74, ze517, none, none, ze518, none, none, ze519, none, none, ze194],
  [ze244, ze123, none, none, ze74, ze158, none, none, ze0, ze123, none, none, ze43, ze520, none, none],
  [ze194]]
noncomputable def pm69 : xM := (⟨"WorkMeter", "again", "(I)J"⟩, prog_1_method_4_code, 2, (some .long), x_at pt69)
-- 70: WorkMeter$Meter.totalReading(I)J
noncomputable def pt70 : List (List (Option xI)) := [
  [ze0, ze368, none, none, ze74, ze63, ze521, none, none, ze0, ze218, none, none, ze370, none, none],
  [ze186, ze366, ze194]]
noncomputable def pm70 : xM := (⟨"WorkMeter$Meter", "totalReading", "(I)J"⟩, prog_8_method_4_code, 2, (some .long), x_at pt70)
-- 71: WorkMeter$Registers.sum(II)J
noncomputable def pt71 : List (List (Option xI)) := [
  [ze0, ze382, none, none, ze74, ze52, ze165, ze73, ze522, none, none, ze194]]
noncomputable def pm71 : xM := (⟨"WorkMeter$Registers", "sum", "(II)J"⟩, prog_9_method_5_code, 3, (some .long), x_at pt71)
-- 72: WorkMeter$Registers.sumIn([JII)J
noncomputable def pt72 : List (List (Option xI)) := [
  [ze73, ze63, ze523, none, none, ze0, ze74, ze73, ze134, ze185, ze194, ze524, ze353, ze43, ze174, none],
  [ze525, none, ze52, ze330, none, none, ze359, ze0, ze74, ze175, none, ze134, ze185, ze187, ze353, ze514],
  [none, none, ze526, none, none, ze516, ze194]]
noncomputable def pm72 : xM := (⟨"WorkMeter$Registers", "sumIn", "([JII)J"⟩, prog_9_method_6_code, 6, (some .long), x_at pt72)
-- 73: WorkMeter.set(II)Z
noncomputable def pt73 : List (List (Option xI)) := [
  [ze0, ze123, none, none, ze124, none, none, ze125, none, none, ze126, none, none, ze43, ze127, ze128],
  [ze123, none, none, ze74, ze73, ze527, none, none, ze127]]
noncomputable def pm73 : xM := (⟨"WorkMeter", "set", "(II)Z"⟩, prog_1_method_5_code, 3, (some .boolean), x_at pt73)
-- 74: WorkMeter$Meter.tellSetting(II)Z
noncomputable def pt74 : List (List (Option xI)) := [
  [ze0, ze218, none, none, ze74, ze73, ze528, none, none, ze436, none, none, ze74, ze82, ze529, none],
  [none, ze0, ze223, none, none, ze530, none, none, ze143, ze127, ze531, ze52, ze532, none, none, ze0],
  [ze231, none, none, ze0, ze215, none, none, ze0, ze218, none, none, ze324, none, none, ze486, none],
  [ze469, none, none, ze128, ze218, none, none, ze74, ze73, ze533, none, none, ze82, ze127]]
noncomputable def pm74 : xM := (⟨"WorkMeter$Meter", "tellSetting", "(II)Z"⟩, prog_8_method_5_code, 3, (some .boolean), x_at pt74)
-- 75: WorkMeter$Settings.canBe(II)Z
noncomputable def pt75 : List (List (Option xI)) := [
  [ze74, ze534, none, none, ze69, ze71, ze63, ze535, none, none, ze73, ze536, none, none, ze71, ze176],
  [ze537, none, none, ze73, ze538, none, none, ze71, ze176, ze154, none, none, ze143, ze127, ze539, ze52],
  [ze540, none, none, ze73, ze541, none, ze542, none, none, ze73, ze116, none, none, ze543, none, none],
  [ze73, ze517, none, none, ze544, none, none, ze73, ze545, none, none, ze242, none, none, ze73, ze546],
  [none, none, ze262, none, none, ze509, ze263, none, none, ze143, ze265]]
noncomputable def pm75 : xM := (⟨"WorkMeter$Settings", "canBe", "(II)Z"⟩, prog_11_method_3_code, 4, (some .boolean), x_at pt75)
-- 76: WorkMeter$Settings.placeOf(I)I
noncomputable def pt76 : List (List (Option xI)) := [
  [ze547, ze548, none, none, ze547, ze110, ze549, none, none, ze547, ze127, ze550, ze463, none, ze551, none],
  [none, ze547, ze552, none, ze553, none, none, ze547, ze463, none, ze212, ze271, none, ze134, ze127, ze550],
  [ze554, none, ze551, none, none, ze547, ze423, none, ze555, none, none, ze547, ze554, none, ze212, ze463],
  [none, ze134, ze127, ze155, ze127]]
noncomputable def pm76 : xM := (⟨"WorkMeter$Settings", "placeOf", "(I)I"⟩, prog_11_method_14_code, 1, (some .int), x_at pt76)
-- 77: WorkMeter$Settings.tell(II)V
noncomputable def pt77 : List (List (Option xI)) := [
  [ze74, ze534, none, none, ze69, ze71, ze63, ze242, none, none, ze0, ze44, none, none, ze71, ze73],
  [ze64, ze77]]
noncomputable def pm77 : xM := (⟨"WorkMeter$Settings", "tell", "(II)V"⟩, prog_11_method_4_code, 4, none, x_at pt77)
-- 78: WorkMeter.table(III)I
noncomputable def pt78 : List (List (Option xI)) := [
  [ze0, ze123, none, none, ze124, none, none, ze125, none, none, ze126, none, none, ze63, ze127, ze556],
  [ze557, none, none, ze558, none, none, ze71, ze559, none, none, ze132, none, none, ze73, ze560, none],
  [none, ze73, ze561, none, ze322, none, none, ze155, ze127, ze323, ze123, none, none, ze562, none, none],
  [ze74, ze73, ze71, ze563, none, none, ze127]]
noncomputable def pm78 : xM := (⟨"WorkMeter", "table", "(III)I"⟩, prog_1_method_6_code, 4, (some .int), x_at pt78)
-- 79: WorkMeter.isTable(I)Z
noncomputable def pt79 : List (List (Option xI)) := [
  [ze547, ze564, none, none, ze547, ze47, none, ze565, none, none, ze82, ze263, none, none, ze143, ze265]]
noncomputable def pm79 : xM := (⟨"WorkMeter", "isTable", "(I)Z"⟩, prog_1_method_54_code, 1, (some .boolean), x_at pt79)
-- 80: WorkMeter.isTariff(I)Z
noncomputable def pt80 : List (List (Option xI)) := [
  [ze547, ze566, none, none, ze547, ze52, ze565, none, none, ze82, ze263, none, none, ze143, ze265]]
noncomputable def pm80 : xM := (⟨"WorkMeter", "isTariff", "(I)Z"⟩, prog_1_method_55_code, 1, (some .boolean), x_at pt80)
-- 81: WorkMeter$Calendar.putSwitch(III)I
noncomputable def pt81 : List (List (Option xI)) := [
  [ze74, ze271, none, ze165, ze102, none, ze104, none, ze0, ze74, ze73, ze266, none, none, ze134, ze174],
  [none, ze0, ze74, ze73, ze567, none, none, ze568, none, none, ze0, ze270, none, none, ze175, none],
  [ze71, ze64, ze0, ze60, none, none, ze74, ze176, ze127, ze569, ze60, none, none, ze74, ze176, ze271],
  [none, ze322, none, none, ze63, ze127, ze570, none, ze0, ze60, none, none, ze74, ze176, ze134, ze277],
  [none, ze571, none, ze175, none, ze572, none, none, ze0, ze273, none, none, ze306, none, ze0, ze273],
  [none, none, ze306, none, ze82, ze212, ze176, ze64, ze0, ze270, none, none, ze306, none, ze0, ze270],
  [none, none, ze306, none, ze82, ze212, ze176, ze64, ze573, none, none, ze574, none, none, ze363, ze273],
  [none, none, ze175, none, ze73, ze64, ze0, ze270, none, none, ze175, none, ze71, ze64, ze0, ze60],
  [none, none, ze74, ze184, ze176, ze82, ze134, ze64, ze0, ze60, none, none, ze74, ze176, ze127]]
noncomputable def pm81 : xM := (⟨"WorkMeter$Calendar", "putSwitch", "(III)I"⟩, prog_2_method_5_code, 7, (some .int), x_at pt81)
-- 82: WorkMeter$Calendar.hasSwitch(II)Z
noncomputable def pt82 : List (List (Option xI)) := [
  [ze74, ze271, none, ze165, ze0, ze74, ze73, ze266, none, none, ze134, ze69, ze74, ze271, none, ze165],
  [ze0, ze60, none, none, ze74, ze176, ze134, ze102, none, ze71, ze104, none, ze575, none, none, ze0],
  [ze273, none, none, ze71, ze176, ze73, ze262, none, none, ze82, ze263, none, none, ze143, ze265]]
noncomputable def pm82 : xM := (⟨"WorkMeter$Calendar", "hasSwitch", "(II)Z"⟩, prog_2_method_4_code, 5, (some .boolean), x_at pt82)
-- 83: WorkMeter.wipe(I)I
noncomputable def pt83 : List (List (Option xI)) := [
  [ze0, ze123, none, none, ze124, none, none, ze125, none, none, ze297, none, none, ze74, ze557, none],
  [none, ze342, none, none, ze155, ze127, ze244, ze123, none, none, ze562, none, none, ze74, ze576, none],
  [none, ze127]]
noncomputable def pm83 : xM := (⟨"WorkMeter", "wipe", "(I)I"⟩, prog_1_method_7_code, 2, (some .int), x_at pt83)
-- 84: WorkMeter$Calendar.dropSwitches(I)I
noncomputable def pt84 : List (List (Option xI)) := [
  [ze0, ze60, none, none, ze74, ze176, ze67, ze0, ze60, none, none, ze74, ze43, ze64, ze73, ze127]]
noncomputable def pm84 : xM := (⟨"WorkMeter$Calendar", "dropSwitches", "(I)I"⟩, prog_2_method_6_code, 3, (some .int), x_at pt84)
-- 85: WorkMeter.feed(IIIII)I
noncomputable def pt85 : List (List (Option xI)) := [
  [ze0, ze577, none, none, ze578, none, none, ze342, none, none, ze63, ze127, ze569, ze577, none, none],
  [ze74, ze579, none, none, ze0, ze577, none, none, ze73, ze579, none, none, ze0, ze577, none, none],
  [ze71, ze579, none, none, ze0, ze577, none, none, ze104, none, ze579, none, none, ze0, ze577, none],
  [none, ze175, none, ze579, none, none, ze0, ze577, none, none, ze580, none, none, ze127]]
noncomputable def pm85 : xM := (⟨"WorkMeter", "feed", "(IIIII)I"⟩, prog_1_method_8_code, 6, (some .int), x_at pt85)
-- 86: WorkMeter$CalendarText.hasRoom()Z
noncomputable def pt86 : List (List (Option xI)) := [
  [ze0, ze581, none, none, ze554, none, ze134, ze116, none, none, ze582, none, none, ze82, ze263, none],
  [none, ze143, ze265]]
noncomputable def pm86 : xM := (⟨"WorkMeter$CalendarText", "hasRoom", "()Z"⟩, prog_3_method_2_code, 1, (some .boolean), x_at pt86)
-- 87: WorkMeter$CalendarText.putBytes(I)V
noncomputable def pt87 : List (List (Option xI)) := [
  [ze403, none, ze67, ze170, ze583, none, none, ze0, ze581, none, none, ze116, none, none, ze584, none],
  [none, ze0, ze585, none, none, ze0, ze581, none, none, ze74, ze73, ze586, ze587, none, none, ze337],
  [ze64, ze0, ze3, ze581, none, none, ze82, ze134, ze588, none, none, ze589, none, none, ze590, none],
  [none, ze77]]
noncomputable def pm87 : xM := (⟨"WorkMeter$CalendarText", "putBytes", "(I)V"⟩, prog_3_method_3_code, 3, none, x_at pt87)
-- 88: WorkMeter.end(I)Z
noncomputable def pt88 : List (List (Option xI)) := [
  [ze0, ze577, none, none, ze74, ze591, none, none, ze127]]
noncomputable def pm88 : xM := (⟨"WorkMeter", "end", "(I)Z"⟩, prog_1_method_9_code, 2, (some .boolean), x_at pt88)
-- 89: WorkMeter$CalendarText.cutTo(I)Z
noncomputable def pt89 : List (List (Option xI)) := [
  [ze74, ze592, none, none, ze74, ze0, ze581, none, none, ze154, none, none, ze143, ze127, ze244, ze74],
  [ze588, none, none, ze82, ze127]]
noncomputable def pm89 : xM := (⟨"WorkMeter$CalendarText", "cutTo", "(I)Z"⟩, prog_3_method_4_code, 2, (some .boolean), x_at pt89)
-- 90: WorkMeter.calendar()I
noncomputable def pt90 : List (List (Option xI)) := [
  [ze0, ze123, none, none, ze124, none, none, ze125, none, none, ze476, none, none, ze0, ze577, none],
  [none, ze593, none, none, ze63, ze127, ze136, ze577, none, none, ze594, none, none, ze169, ze74, ze63],
  [ze595, none, none, ze0, ze123, none, none, ze562, none, none, ze0, ze577, none, none, ze596, none],
  [none, ze597, none, none, ze0, ze577, none, none, ze598, none, none, ze558, none, none, ze0, ze123],
  [none, none, ze599, none, none, ze0, ze577, none, none, ze600, none, none, ze601, none, none, ze602],
  [ze127]]
noncomputable def pm90 : xM := (⟨"WorkMeter", "calendar", "()I"⟩, prog_1_method_10_code, 2, (some .int), x_at pt90)
-- 91: WorkMeter$CalendarText.forget()V
noncomputable def pt91 : List (List (Option xI)) := [
  [ze0, ze43, ze588, none, none, ze0, ze43, ze603, none, none, ze0, ze63, ze122, none, none, ze11]]
noncomputable def pm91 : xM := (⟨"WorkMeter$CalendarText", "forget", "()V"⟩, prog_3_method_5_code, 1, none, x_at pt91)
-- 92: WorkMeter$CalendarText.readAll()I
noncomputable def pt92 : List (List (Option xI)) := [
  [ze0, ze604, none, none, ze605, none, none, ze0, ze43, ze603, none, none, ze0, ze63, ze122, none],
  [none, ze0, ze43, ze606, none, none, ze0, ze43, ze607, none, none, ze0, ze43, ze608, none, none],
  [ze0, ze43, ze609, none, none, ze43, ze169, ze0, ze610, none, none, ze43, ze67, ze170, ze116, none],
  [none, ze611, none, none, ze0, ze612, none, none, ze0, ze581, none, none, ze613, none, none, ze0],
  [ze614, none, none, ze615, none, none, ze0, ze616, none, none, ze617, none, none, ze0, ze618, none],
  [ze619, none, none, ze341, none, none, ze620, none, none, ze0, ze610, none, none, ze181, none, none],
  [ze621, none, none, ze244, ze43, ze588, none, none, ze0, ze614, none, none, ze267, none, none, ze74],
  [ze263, none, none, ze155, ze265]]
noncomputable def pm92 : xM := (⟨"WorkMeter$CalendarText", "readAll", "()I"⟩, prog_3_method_6_code, 3, (some .int), x_at pt92)
-- 93: WorkMeter$CalendarText.skipBlanks()V
noncomputable def pt93 : List (List (Option xI)) := [
  [ze136, ze612, none, none, ze0, ze581, none, none, ze487, none, none, ze0, ze585, none, none, ze0],
  [ze612, none, none, ze176, ze483, none, ze622, none, none, ze0, ze3, ze612, none, none, ze82, ze134],
  [ze607, none, none, ze623, none, none, ze77]]
noncomputable def pm93 : xM := (⟨"WorkMeter$CalendarText", "skipBlanks", "()V"⟩, prog_3_method_14_code, 1, none, x_at pt93)
-- 94: WorkMeter$CalendarText.readLine()Z
noncomputable def pt94 : List (List (Option xI)) := [
  [ze0, ze624, none, none, ze169, ze0, ze625, none, ze74, ze626, none, none, ze318, none, none, ze0],
  [ze627, none, none, ze127, ze244, ze628, none, ze74, ze626, none, none, ze318, none, none, ze0, ze629],
  [none, none, ze127, ze244, ze630, none, ze74, ze626, none, none, ze318, none, none, ze0, ze631, none],
  [none, ze127, ze244, ze632, none, ze74, ze626, none, none, ze318, none, none, ze0, ze633, none, none],
  [ze127, ze136, ze82, ze0, ze612, none, none, ze634, none, none, ze127]]
noncomputable def pm94 : xM := (⟨"WorkMeter$CalendarText", "readLine", "()Z"⟩, prog_3_method_8_code, 2, (some .boolean), x_at pt94)
-- 95: WorkMeter$CalendarText.lettersHere()I
noncomputable def pt95 : List (List (Option xI)) := [
  [ze0, ze612, none, none, ze169, ze635, ze0, ze581, none, none, ze636, none, none, ze0, ze585, none],
  [none, ze74, ze176, ze637, none, ze638, none, none, ze0, ze585, none, none, ze74, ze176, ze639, none],
  [ze141, none, none, ze620, none, none, ze640, none, none, ze635, ze0, ze612, none, none, ze212, ze127]]
noncomputable def pm95 : xM := (⟨"WorkMeter$CalendarText", "lettersHere", "()I"⟩, prog_3_method_15_code, 2, (some .int), x_at pt95)
-- 96: WorkMeter$CalendarText.spells(Ljava/lang/String;I)Z
noncomputable def pt96 : List (List (Option xI)) := [
  [ze73, ze492, ze641, none, none, ze622, none, none, ze0, ze612, none, none, ze73, ze134, ze0, ze581],
  [none, none, ze154, none, none, ze143, ze127, ze502, ze69, ze208, ze73, ze487, none, none, ze0, ze585],
  [none, none, ze0, ze612, none, none, ze71, ze134, ze176, ze492, ze71, ze642, none, none, ze643, none],
  [none, ze43, ze127, ze507, none, none, ze206, none, none, ze509, ze127]]
noncomputable def pm96 : xM := (⟨"WorkMeter$CalendarText", "spells", "(Ljava/lang/String;I)Z"⟩, prog_3_method_16_code, 4, (some .boolean), x_at pt96)
-- 97: WorkMeter$CalendarText.readTable()Z
noncomputable def pt97 : List (List (Option xI)) := [
  [ze0, ze625, none, ze644, none, none, ze0, ze246, none, ze0, ze645, none, none, ze646, none, none],
  [ze169, ze74, ze63, ze249, none, none, ze43, ze127, ze244, ze3, ze645, none, none, ze82, ze74, ze454],
  [ze455, ze608, none, none, ze43, ze67, ze170, ze271, none, ze647, none, none, ze0, ze648, none, none],
  [ze617, none, none, ze0, ze74, ze649, none, none, ze342, none, none, ze43, ze127, ze181, none, none],
  [ze650, none, none, ze509, ze127]]
noncomputable def pm97 : xM := (⟨"WorkMeter$CalendarText", "readTable", "()Z"⟩, prog_3_method_9_code, 3, (some .boolean), x_at pt97)
-- 98: WorkMeter$CalendarText.passWord(Ljava/lang/String;)V
noncomputable def pt98 : List (List (Option xI)) := [
  [ze0, ze3, ze612, none, none, ze492, ze641, none, none, ze134, ze607, none, none, ze11]]
noncomputable def pm98 : xM := (⟨"WorkMeter$CalendarText", "passWord", "(Ljava/lang/String;)V"⟩, prog_3_method_17_code, 2, none, x_at pt98)
-- 99: WorkMeter$CalendarText.readNewNumber(II)I
noncomputable def pt99 : List (List (Option xI)) := [
  [ze0, ze74, ze651, none, none, ze69, ze71, ze63, ze543, none, none, ze73, ze71, ze336, ze82, ze337],
  [ze82, ze652, none, none, ze0, ze138, ze0, ze653, none, none, ze634, none, none, ze654, ze63, ze127],
  [ze655, ze127]]
noncomputable def pm99 : xM := (⟨"WorkMeter$CalendarText", "readNewNumber", "(II)I"⟩, prog_3_method_21_code, 4, (some .int), x_at pt99)
-- 100: WorkMeter$CalendarText.readNumber(I)I
noncomputable def pt100 : List (List (Option xI)) := [
  [ze0, ze610, none, none, ze0, ze0, ze612, none, none, ze656, none, none, ze43, ze67, ze128, ze612],
  [none, none, ze0, ze581, none, none, ze657, none, none, ze0, ze585, none, none, ze0, ze612, none],
  [none, ze176, ze658, none, none, ze659, none, none, ze73, ze463, none, ze165, ze0, ze585, none, none],
  [ze0, ze612, none, none, ze176, ze134, ze49, none, ze212, ze660, none, ze661, none, none, ze67, ze0],
  [ze3, ze612, none, none, ze82, ze134, ze607, none, none, ze662, none, none, ze128, ze612, none, none],
  [ze0, ze653, none, none, ze652, none, none, ze0, ze82, ze0, ze653, none, none, ze634, none, none],
  [ze654, ze63, ze127, ze170, ze74, ze663, none, none, ze0, ze178, ze0, ze653, none, none, ze634, none],
  [none, ze654, ze63, ze127, ze264, ze127]]
noncomputable def pm100 : xM := (⟨"WorkMeter$CalendarText", "readNumber", "(I)I"⟩, prog_3_method_20_code, 3, (some .int), x_at pt100)
-- 101: WorkMeter$CalendarText.isDigit(I)Z
noncomputable def pt101 : List (List (Option xI)) := [
  [ze547, ze49, none, ze664, none, none, ze547, ze665, none, ze582, none, none, ze82, ze263, none, none],
  [ze143, ze265]]
noncomputable def pm101 : xM := (⟨"WorkMeter$CalendarText", "isDigit", "(I)Z"⟩, prog_3_method_18_code, 1, (some .boolean), x_at pt101)
-- 102: WorkMeter$CalendarText.fail(II)Z
noncomputable def pt102 : List (List (Option xI)) := [
  [ze0, ze74, ze603, none, none, ze0, ze73, ze122, none, none, ze43, ze127]]
noncomputable def pm102 : xM := (⟨"WorkMeter$CalendarText", "fail", "(II)Z"⟩, prog_3_method_7_code, 3, (some .boolean), x_at pt102)
-- 103: WorkMeter$CalendarText.digitHere()Z
noncomputable def pt103 : List (List (Option xI)) := [
  [ze0, ze610, none, none, ze0, ze612, none, none, ze0, ze581, none, none, ze272, none, none, ze0],
  [ze585, none, none, ze0, ze612, none, none, ze176, ze658, none, none, ze290, none, none, ze82, ze263],
  [none, none, ze143, ze265]]
noncomputable def pm103 : xM := (⟨"WorkMeter$CalendarText", "digitHere", "()Z"⟩, prog_3_method_19_code, 1, (some .boolean), x_at pt103)
-- 104: WorkMeter$CalendarText.readSwitch(I)Z
noncomputable def pt104 : List (List (Option xI)) := [
  [ze0, ze666, none, ze651, none, none, ze67, ze73, ze63, ze249, none, none, ze43, ze127, ze128, ze604],
  [none, none, ze667, none, none, ze74, ze176, ze271, none, ze664, none, none, ze0, ze52, ze0, ze653],
  [none, none, ze634, none, none, ze127, ze128, ze668, none, ze619, none, none, ze342, none, none, ze43],
  [ze127, ze128, ze618, none, ze651, none, none, ze69, ze71, ze63, ze249, none, none, ze43, ze127, ze70],
  [ze546, none, none, ze165, ze71, ze541, none, ze165, ze134, ze102, none, ze0, ze604, none, none, ze74],
  [ze104, none, ze669, none, none, ze132, none, none, ze0, ze138, ze0, ze653, none, none, ze634, none],
  [none, ze127, ze670, ze138, ze651, none, none, ze174, none, ze175, none, ze63, ze249, none, none, ze43],
  [ze127, ze671, ze604, none, none, ze74, ze104, none, ze175, none, ze672, none, none, ze654, ze82, ze127]]
noncomputable def pm104 : xM := (⟨"WorkMeter$CalendarText", "readSwitch", "(I)Z"⟩, prog_3_method_10_code, 6, (some .boolean), x_at pt104)
-- 105: WorkMeter$CalendarText.readSign(C)Z
noncomputable def pt105 : List (List (Option xI)) := [
  [ze0, ze610, none, none, ze0, ze612, none, none, ze0, ze581, none, none, ze673, none, none, ze0],
  [ze585, none, none, ze0, ze612, none, none, ze176, ze74, ze674, none, none, ze136, ze82, ze0, ze612],
  [none, none, ze634, none, none, ze127, ze136, ze3, ze612, none, none, ze82, ze134, ze607, none, none],
  [ze82, ze127]]
noncomputable def pm105 : xM := (⟨"WorkMeter$CalendarText", "readSign", "(C)Z"⟩, prog_3_method_22_code, 2, (some .boolean), x_at pt105)
-- 106: WorkMeter$CalendarText.readSeason()Z
noncomputable def pt106 : List (List (Option xI)) := [
  [ze0, ze628, none, ze644, none, none, ze0, ze138, ze0, ze675, none, none, ze646, none, none, ze169],
  [ze74, ze63, ze249, none, none, ze43, ze127, ze244, ze3, ze675, none, none, ze82, ze74, ze454, ze455],
  [ze609, none, none, ze0, ze676, none, none, ze651, none, none, ze67, ze73, ze63, ze249, none, none],
  [ze43, ze127, ze128, ze604, none, none, ze677, none, none, ze74, ze73, ze64, ze43, ze69, ze678, ze246],
  [none, ze679, none, none, ze0, ze246, none, ze651, none, none, ze102, none, ze104, none, ze63, ze249],
  [none, none, ze43, ze127, ze461, ze604, none, none, ze680, none, none, ze74, ze246, none, ze165, ze71],
  [ze134, ze104, none, ze64, ze107, none, none, ze681, none, none, ze509, ze127]]
noncomputable def pm106 : xM := (⟨"WorkMeter$CalendarText", "readSeason", "()Z"⟩, prog_3_method_11_code, 5, (some .boolean), x_at pt106)
-- 107: WorkMeter$CalendarText.readSpecial()Z
noncomputable def pt107 : List (List (Option xI)) := [
  [ze0, ze604, none, none, ze682, none, none, ze56, none, ze664, none, none, ze0, ze52, ze0, ze612],
  [none, none, ze634, none, none, ze127, ze136, ze630, none, ze644, none, none, ze0, ze676, none, none],
  [ze651, none, none, ze169, ze74, ze63, ze249, none, none, ze43, ze127, ze244, ze604, none, none, ze74],
  [ze683, none, none, ze132, none, none, ze0, ze138, ze0, ze653, none, none, ze634, none, none, ze127],
  [ze244, ze246, none, ze651, none, none, ze67, ze73, ze63, ze256, none, none, ze0, ze604, none, none],
  [ze74, ze73, ze684, none, none, ze290, none, none, ze82, ze263, none, none, ze143, ze265]]
noncomputable def pm107 : xM := (⟨"WorkMeter$CalendarText", "readSpecial", "()Z"⟩, prog_3_method_12_code, 3, (some .boolean), x_at pt107)
-- 108: WorkMeter$Calendar.isSpecial(I)Z
noncomputable def pt108 : List (List (Option xI)) := [
  [ze0, ze74, ze241, none, none, ze63, ze685, none, none, ze82, ze263, none, none, ze143, ze265]]
noncomputable def pm108 : xM := (⟨"WorkMeter$Calendar", "isSpecial", "(I)Z"⟩, prog_2_method_9_code, 2, (some .boolean), x_at pt108)
-- 109: WorkMeter$Calendar.putSpecial(II)Z
noncomputable def pt109 : List (List (Option xI)) := [
  [ze0, ze74, ze241, none, none, ze69, ze71, ze63, ze686, none, none, ze0, ze247, none, none, ze56],
  [none, ze322, none, none, ze43, ze127, ze128, ze247, none, none, ze69, ze0, ze3, ze247, none, none],
  [ze82, ze134, ze66, none, none, ze323, ze248, none, none, ze71, ze74, ze64, ze0, ze243, none, none],
  [ze71, ze73, ze64, ze82, ze127]]
noncomputable def pm109 : xM := (⟨"WorkMeter$Calendar", "putSpecial", "(II)Z"⟩, prog_2_method_10_code, 4, (some .boolean), x_at pt109)
-- 110: WorkMeter$CalendarText.readPrices()Z
noncomputable def pt110 : List (List (Option xI)) := [
  [ze0, ze687, none, none, ze132, none, none, ze0, ze138, ze0, ze612, none, none, ze634, none, none],
  [ze127, ze136, ze632, none, ze644, none, none, ze43, ze169, ze635, ze52, ze487, none, none, ze0, ze688],
  [none, ze651, none, none, ze67, ze73, ze63, ze249, none, none, ze43, ze127, ze128, ze689, none, none],
  [ze74, ze73, ze64, ze620, none, none, ze206, none, none, ze136, ze82, ze606, none, none, ze82, ze127]]
noncomputable def pm110 : xM := (⟨"WorkMeter$CalendarText", "readPrices", "()Z"⟩, prog_3_method_13_code, 3, (some .boolean), x_at pt110)
-- 111: WorkMeter$Calendar.copyFrom(LWorkMeter$Calendar;)V
noncomputable def pt111 : List (List (Option xI)) := [
  [ze492, ze60, none, none, ze43, ze0, ze60, none, none, ze43, ze0, ze60, none, none, ze68, ze690],
  [none, none, ze492, ze273, none, none, ze43, ze0, ze273, none, none, ze43, ze0, ze273, none, none],
  [ze68, ze690, none, none, ze492, ze270, none, none, ze43, ze0, ze270, none, none, ze43, ze0, ze270],
  [none, none, ze68, ze690, none, none, ze492, ze62, none, none, ze43, ze0, ze62, none, none, ze43],
  [ze0, ze62, none, none, ze68, ze690, none, none, ze492, ze65, none, none, ze43, ze0, ze65, none],
  [none, ze43, ze0, ze65, none, none, ze68, ze690, none, none, ze492, ze248, none, none, ze43, ze0],
  [ze248, none, none, ze43, ze56, none, ze690, none, none, ze492, ze243, none, none, ze43, ze0, ze243],
  [none, none, ze43, ze56, none, ze690, none, none, ze0, ze492, ze247, none, none, ze66, none, none],
  [ze11]]
noncomputable def pm111 : xM := (⟨"WorkMeter$Calendar", "copyFrom", "(LWorkMeter$Calendar;)V"⟩, prog_2_method_3_code, 2, none, x_at pt111)
-- 112: WorkMeter$Settings.tellPrices([I)V
noncomputable def pt112 : List (List (Option xI)) := [
  [ze492, ze43, ze0, ze44, none, none, ze271, none, ze52, ze45, none, none, ze11]]
noncomputable def pm112 : xM := (⟨"WorkMeter$Settings", "tellPrices", "([I)V"⟩, prog_11_method_5_code, 2, none, x_at pt112)
-- 113: WorkMeter.fault(I)I
noncomputable def pt113 : List (List (Option xI)) := [
  [ze74, ze691, none, none, ze0, ze577, none, none, ze692, none, none, ze127, ze635, ze82, ze693, none],
  [none, ze0, ze577, none, none, ze694, none, none, ze263, none, none, ze155, ze265]]
noncomputable def pm113 : xM := (⟨"WorkMeter", "fault", "(I)I"⟩, prog_1_method_11_code, 2, (some .int), x_at pt113)
-- 114: WorkMeter.seal(I)Z
noncomputable def pt114 : List (List (Option xI)) := [
  [ze0, ze123, none, none, ze124, none, none, ze74, ze695, none, none, ze342, none, none, ze43, ze127],
  [ze136, ze123, none, none, ze696, none, ze43, ze697, none, none, ze82, ze127]]
noncomputable def pm114 : xM := (⟨"WorkMeter", "seal", "(I)Z"⟩, prog_1_method_12_code, 2, (some .boolean), x_at pt114)
-- 115: WorkMeter$Seal.close(I)Z
noncomputable def pt115 : List (List (Option xI)) := [
  [ze0, ze131, none, none, ze698, none, none, ze74, ze548, none, none, ze74, ze699, none, none, ze154],
  [none, none, ze143, ze127, ze244, ze82, ze700, none, none, ze0, ze74, ze701, none, none, ze82, ze127]]
noncomputable def pm115 : xM := (⟨"WorkMeter$Seal", "close", "(I)Z"⟩, prog_10_method_4_code, 2, (some .boolean), x_at pt115)
-- 116: WorkMeter.open(I)Z
noncomputable def pt116 : List (List (Option xI)) := [
  [ze0, ze123, none, none, ze74, ze702, none, none, ze127]]
noncomputable def pm116 : xM := (⟨"WorkMeter", "open", "(I)Z"⟩, prog_1_method_13_code, 2, (some .boolean), x_at pt116)
-- 117: WorkMeter$Meter.tryCode(I)Z
noncomputable def pt117 : List (List (Option xI)) := [
  [ze0, ze703, none, none, ze704, none, none, ze705, none, none, ze0, ze703, none, none, ze0, ze215],
  [none, none, ze706, none, none, ze530, none, none, ze143, ze127, ze635, ze0, ze703, none, none, ze707],
  [none, none, ze708, none, none, ze0, ze703, none, none, ze709, none, none, ze0, ze710, none, ze43],
  [ze425, none, none, ze82, ze127, ze136, ze703, none, none, ze3, ze711, none, none, ze82, ze134, ze712],
  [none, none, ze0, ze483, none, ze0, ze703, none, none, ze711, none, none, ze425, none, none, ze0],
  [ze703, none, none, ze713, none, none, ze714, none, none, ze0, ze703, none, none, ze0, ze215, none],
  [none, ze715, none, none, ze0, ze716, none, ze43, ze425, none, none, ze143, ze127]]
noncomputable def pm117 : xM := (⟨"WorkMeter$Meter", "tryCode", "(I)Z"⟩, prog_8_method_6_code, 2, (some .boolean), x_at pt117)
-- 118: WorkMeter$Seal.lockedFor(I)I
noncomputable def pt118 : List (List (Option xI)) := [
  [ze43, ze0, ze717, none, none, ze74, ze212, ze718, none, none, ze127]]
noncomputable def pm118 : xM := (⟨"WorkMeter$Seal", "lockedFor", "(I)I"⟩, prog_10_method_5_code, 2, (some .int), x_at pt118)
-- 119: WorkMeter$Seal.breakOpen()V
noncomputable def pt119 : List (List (Option xI)) := [
  [ze0, ze43, ze700, none, none, ze0, ze43, ze719, none, none, ze0, ze43, ze720, none, none, ze11]]
noncomputable def pm119 : xM := (⟨"WorkMeter$Seal", "breakOpen", "()V"⟩, prog_10_method_6_code, 1, none, x_at pt119)
-- 120: WorkMeter$Seal.isLockDue()Z
noncomputable def pt120 : List (List (Option xI)) := [
  [ze0, ze721, none, none, ze138, ze722, none, none, ze82, ze263, none, none, ze143, ze265]]
noncomputable def pm120 : xM := (⟨"WorkMeter$Seal", "isLockDue", "()Z"⟩, prog_10_method_7_code, 1, (some .boolean), x_at pt120)
-- 121: WorkMeter$Seal.lock(I)V
noncomputable def pt121 : List (List (Option xI)) := [
  [ze0, ze43, ze719, none, none, ze0, ze74, ze116, none, none, ze134, ze720, none, none, ze11]]
noncomputable def pm121 : xM := (⟨"WorkMeter$Seal", "lock", "(I)V"⟩, prog_10_method_8_code, 2, none, x_at pt121)
-- 122: WorkMeter.season(II)Z
noncomputable def pt122 : List (List (Option xI)) := [
  [ze0, ze123, none, none, ze124, none, none, ze125, none, none, ze308, none, none, ze74, ze723, none],
  [none, ze436, none, none, ze73, ze63, ze153, none, none, ze73, ze240, none, none, ze322, none, none],
  [ze143, ze127, ze531, ze297, none, none, ze73, ze63, ze249, none, none, ze43, ze127, ze128, ze123, none],
  [none, ze562, none, none, ze724, none, none, ze74, ze73, ze64, ze82, ze127]]
noncomputable def pm122 : xM := (⟨"WorkMeter", "season", "(II)Z"⟩, prog_1_method_14_code, 3, (some .boolean), x_at pt122)
-- 123: WorkMeter.isSeason(I)Z
noncomputable def pt123 : List (List (Option xI)) := [
  [ze547, ze566, none, none, ze547, ze52, ze565, none, none, ze82, ze263, none, none, ze143, ze265]]
noncomputable def pm123 : xM := (⟨"WorkMeter", "isSeason", "(I)Z"⟩, prog_1_method_57_code, 1, (some .boolean), x_at pt123)
-- 124: WorkMeter.week(III)Z
noncomputable def pt124 : List (List (Option xI)) := [
  [ze0, ze123, none, none, ze124, none, none, ze125, none, none, ze725, none, none, ze74, ze723, none],
  [none, ze341, none, none, ze71, ze557, none, none, ze342, none, none, ze143, ze127, ze70, ze560, none],
  [none, ze73, ze246, none, ze322, none, none, ze143, ze127, ze323, ze123, none, none, ze562, none, none],
  [ze726, none, none, ze74, ze246, none, ze165, ze73, ze134, ze71, ze64, ze82, ze127]]
noncomputable def pm124 : xM := (⟨"WorkMeter", "week", "(III)Z"⟩, prog_1_method_15_code, 4, (some .boolean), x_at pt124)
-- 125: WorkMeter.special(II)Z
noncomputable def pt125 : List (List (Option xI)) := [
  [ze0, ze123, none, none, ze124, none, none, ze125, none, none, ze698, none, none, ze74, ze548, none],
  [none, ze74, ze240, none, none, ze322, none, none, ze143, ze127, ze170, ze63, ze652, none, none, ze0],
  [ze123, none, none, ze562, none, none, ze74, ze727, none, none, ze127, ze170, ze557, none, none, ze728],
  [none, none, ze0, ze123, none, none, ze562, none, none, ze74, ze73, ze729, none, none, ze290, none],
  [none, ze82, ze263, none, none, ze143, ze265]]
noncomputable def pm125 : xM := (⟨"WorkMeter", "special", "(II)Z"⟩, prog_1_method_16_code, 3, (some .boolean), x_at pt125)
-- 126: WorkMeter$Calendar.dropSpecial(I)Z
noncomputable def pt126 : List (List (Option xI)) := [
  [ze0, ze74, ze241, none, none, ze67, ze73, ze63, ze249, none, none, ze43, ze127, ze730, ze3, ze247],
  [none, none, ze82, ze212, ze66, none, none, ze0, ze248, none, none, ze73, ze0, ze248, none, none],
  [ze0, ze247, none, none, ze176, ze64, ze0, ze243, none, none, ze73, ze0, ze243, none, none, ze0],
  [ze247, none, none, ze176, ze64, ze82, ze127]]
noncomputable def pm126 : xM := (⟨"WorkMeter$Calendar", "dropSpecial", "(I)Z"⟩, prog_2_method_11_code, 3, (some .boolean), x_at pt126)
-- 127: WorkMeter.move(I)I
noncomputable def pt127 : List (List (Option xI)) := [
  [ze0, ze123, none, none, ze124, none, none, ze125, none, none, ze297, none, none, ze74, ze731, none],
  [none, ze342, none, none, ze155, ze127, ze244, ze123, none, none, ze74, ze732, none, none, ze127]]
noncomputable def pm127 : xM := (⟨"WorkMeter", "move", "(I)I"⟩, prog_1_method_17_code, 2, (some .int), x_at pt127)
-- 128: WorkMeter.isTime(I)Z
noncomputable def pt128 : List (List (Option xI)) := [
  [ze547, ze564, none, none, ze547, ze733, none, ze582, none, none, ze82, ze263, none, none, ze143, ze265]]
noncomputable def pm128 : xM := (⟨"WorkMeter", "isTime", "(I)Z"⟩, prog_1_method_59_code, 1, (some .boolean), x_at pt128)
-- 129: WorkMeter$Meter.moveClock(I)I
noncomputable def pt129 : List (List (Option xI)) := [
  [ze0, ze215, none, none, ze67, ze0, ze231, none, none, ze0, ze215, none, none, ze0, ze218, none],
  [none, ze324, none, none, ze486, none, ze469, none, none, ze0, ze74, ze225, none, none, ze0, ze231],
  [none, none, ze74, ze734, none, none, ze0, ze554, none, ze73, ze425, none, none, ze73, ze127]]
noncomputable def pm129 : xM := (⟨"WorkMeter$Meter", "moveClock", "(I)I"⟩, prog_8_method_7_code, 3, (some .int), x_at pt129)
-- 130: WorkMeter.off(I)I
noncomputable def pt130 : List (List (Option xI)) := [
  [ze74, ze82, ze735, none, none, ze74, ze736, none, ze152, none, none, ze0, ze123, none, none, ze737],
  [none, none, ze74, ze134, ze733, none, ze154, none, none, ze155, ze127, ze244, ze123, none, none, ze74],
  [ze738, none, none, ze0, ze123, none, none, ze737, none, none, ze127]]
noncomputable def pm130 : xM := (⟨"WorkMeter", "off", "(I)I"⟩, prog_1_method_18_code, 2, (some .int), x_at pt130)
-- 131: WorkMeter$Meter.goOff(I)V
noncomputable def pt131 : List (List (Option xI)) := [
  [ze0, ze739, none, ze74, ze425, none, none, ze0, ze227, none, none, ze0, ze229, none, none, ze0],
  [ze215, none, none, ze740, none, none, ze0, ze217, none, none, ze43, ze741, none, none, ze0, ze218],
  [none, none, ze324, none, none, ze67, ze74, ze69, ze43, ze102, none, ze172, none, ze74, ze742, none],
  [none, ze71, ze743, none, none, ze71, ze73, ze0, ze215, none, none, ze73, ze142, ze212, ze325, none],
  [none, ze174, none, ze0, ze231, none, none, ze175, none, ze0, ze227, none, none, ze232, none, none],
  [ze744, none, none, ze0, ze3, ze745, none, none, ze175, none, ze134, ze746, none, none, ze0, ze3],
  [ze215, none, none, ze175, none, ze134, ze225, none, none, ze71, ze175, none, ze212, ze69, ze0, ze0],
  [ze214, none, none, ze0, ze215, none, none, ze82, ze212, ze216, none, none, ze236, none, none, ze179],
  [none, none, ze747, none, none, ze77]]
noncomputable def pm131 : xM := (⟨"WorkMeter$Meter", "goOff", "(I)V"⟩, prog_8_method_10_code, 6, none, x_at pt131)
-- 132: WorkMeter$Marks.beginAnew(LWorkMeter$Logbook;I)V
noncomputable def pt132 : List (List (Option xI)) := [
  [ze178, ze69, ze208, ze110, ze748, none, none, ze0, ze346, none, none, ze71, ze43, ze64, ze0, ze71],
  [ze340, none, none, ze157, none, none, ze0, ze71, ze43, ze492, ze73, ze446, none, none, ze507, none],
  [none, ze749, none, none, ze77]]
noncomputable def pm132 : xM := (⟨"WorkMeter$Marks", "beginAnew", "(LWorkMeter$Logbook;I)V"⟩, prog_7_method_5_code, 4, none, x_at pt132)
-- 133: WorkMeter$Load.addOff(II)V
noncomputable def pt133 : List (List (Option xI)) := [
  [ze0, ze3, ze473, none, none, ze74, ze134, ze480, none, none, ze0, ze3, ze466, none, none, ze73],
  [ze455, ze467, none, none, ze11]]
noncomputable def pm133 : xM := (⟨"WorkMeter$Load", "addOff", "(II)V"⟩, prog_5_method_7_code, 3, none, x_at pt133)
-- 134: WorkMeter.mark(IZ)Z
noncomputable def pt134 : List (List (Option xI)) := [
  [ze74, ze750, none, none, ze74, ze178, ze330, none, none, ze0, ze123, none, none, ze751, none, none],
  [ze74, ze752, none, none, ze73, ze249, none, none, ze143, ze127, ze128, ze123, none, none, ze751, none],
  [none, ze74, ze73, ze0, ze123, none, none, ze753, none, none, ze0, ze123, none, none, ze737, none],
  [none, ze754, none, none, ze82, ze127]]
noncomputable def pm134 : xM := (⟨"WorkMeter", "mark", "(IZ)Z"⟩, prog_1_method_19_code, 3, (some .boolean), x_at pt134)
-- 135: WorkMeter.prepaid(Z)Z
noncomputable def pt135 : List (List (Option xI)) := [
  [ze0, ze123, none, none, ze755, none, none, ze74, ze249, none, none, ze43, ze127, ze244, ze123, none],
  [none, ze74, ze756, none, none, ze0, ze123, none, none, ze757, none, none, ze82, ze127]]
noncomputable def pm135 : xM := (⟨"WorkMeter", "prepaid", "(Z)Z"⟩, prog_1_method_20_code, 2, (some .boolean), x_at pt135)
-- 136: WorkMeter.pay(I)J
noncomputable def pt136 : List (List (Option xI)) := [
  [ze74, ze560, none, none, ze74, ze758, none, ze518, none, none, ze759, none, none, ze194, ze244, ze123],
  [none, none, ze3, ze760, none, none, ze74, ze186, ze187, ze761, none, none, ze0, ze123, none, none],
  [ze757, none, none, ze0, ze123, none, none, ze760, none, none, ze194]]
noncomputable def pm136 : xM := (⟨"WorkMeter", "pay", "(I)J"⟩, prog_1_method_21_code, 2, (some .long), x_at pt136)
-- 137: WorkMeter.bill()I
noncomputable def pt137 : List (List (Option xI)) := [
  [ze0, ze123, none, none, ze762, none, none, ze0, ze123, none, none, ze763, none, none, ze764, none],
  [none, ze127]]
noncomputable def pm137 : xM := (⟨"WorkMeter", "bill", "()I"⟩, prog_1_method_22_code, 1, (some .int), x_at pt137)
-- 138: WorkMeter$Meter.makeBill()V
noncomputable def pt138 : List (List (Option xI)) := [
  [ze0, ze368, none, none, ze0, ze215, none, none, ze0, ze470, none, none, ze765, none, none, ze0],
  [ze470, none, none, ze766, none, none, ze0, ze403, none, ze43, ze425, none, none, ze11]]
noncomputable def pm138 : xM := (⟨"WorkMeter$Meter", "makeBill", "()V"⟩, prog_8_method_8_code, 1, none, x_at pt138)
-- 139: WorkMeter$Registers.keepBill(ILWorkMeter$Demand;)V
noncomputable def pt139 : List (List (Option xI)) := [
  [ze0, ze767, none, none, ze271, none, ze142, ze716, none, ze165, ze69, ze43, ze102, none, ze172, none],
  [ze54, none, ze768, none, none, ze0, ze769, none, none, ze71, ze104, none, ze134, ze0, ze382, none],
  [none, ze104, none, ze185, ze0, ze770, none, none, ze104, none, ze185, ze365, ze106, ze0, ze770, none],
  [none, ze104, none, ze0, ze382, none, none, ze104, none, ze185, ze106, ze179, none, none, ze771, none],
  [none, ze772, ze773, none, none, ze43, ze0, ze769, none, none, ze71, ze54, none, ze134, ze52, ze774],
  [none, none, ze0, ze769, none, none, ze71, ze483, none, ze134, ze74, ze186, ze106, ze0, ze3, ze767],
  [none, none, ze82, ze134, ze775, none, none, ze11]]
noncomputable def pm139 : xM := (⟨"WorkMeter$Registers", "keepBill", "(ILWorkMeter$Demand;)V"⟩, prog_9_method_7_code, 5, none, x_at pt139)
-- 140: WorkMeter.period(II)J
noncomputable def pt140 : List (List (Option xI)) := [
  [ze74, ze63, ze776, none, none, ze74, ze0, ze123, none, none, ze129, none, none, ze777, none, none],
  [ze72, none, none, ze73, ze560, none, none, ze73, ze47, none, ze518, none, none, ze759, none, none],
  [ze194, ze128, ze123, none, none, ze129, none, none, ze74, ze73, ze778, none, none, ze194]]
noncomputable def pm140 : xM := (⟨"WorkMeter", "period", "(II)J"⟩, prog_1_method_23_code, 3, (some .long), x_at pt140)
-- 141: WorkMeter$Wave.tell(II)J
noncomputable def pt141 : List (List (Option xI)) := [
  [ze74, ze63, ze262, none, none, ze138, ze263, none, none, ze531, ze779, ze0, ze147, none, none, ze43],
  [ze71, ze134, ze185, ze189, none, ze73, ze780, none, none, none, none, none, none, none, none, none],
  [none, none, none, none, none, none, none, none, none, none, none, none, none, none, none, none],
  [none, none, none, none, none, none, none, none, ze414, ze71, ze183, none, none, ze194, ze781, none],
  [ze0, ze147, none, none, ze52, ze71, ze134, ze185, ze782, none, none, ze186, ze194, ze244, ze178, ze74],
  [ze783, none, none, ze194, ze244, ze138, ze74, ze783, none, none, ze194, ze781, none, ze0, ze71, ze183],
  [none, none, ze784, none, none, ze194, ze785, ze786, none, none, ze73, ze138, ze787, none, none, ze0],
  [ze147, none, none, ze73, ze52, ze165, ze71, ze134, ze185, ze788, none, none, ze789, none, none, ze790]]
noncomputable def pm141 : xM := (⟨"WorkMeter$Wave", "tell", "(II)J"⟩, prog_12_method_11_code, 6, (some .long), x_at pt141)
-- 142: WorkMeter$Wave.rootMean(II)J
noncomputable def pt142 : List (List (Option xI)) := [
  [ze145, ze353, ze43, ze174, none, ze511, none, ze0, ze163, none, none, ze791, none, none, ze73, ze63],
  [ze523, none, none, ze73, ze175, none, ze708, none, none, ze792, ze0, ze147, none, none, ze74, ze52],
  [ze165, ze175, none, ze134, ze185, ze793, none, none, ze353, ze794, none, none, ze795, none, none, ze796],
  [ze82, ze0, ze164, none, none, ze797, none, none, ze186, ze366, ze193, none, none, ze194]]
noncomputable def pm142 : xM := (⟨"WorkMeter$Wave", "rootMean", "(II)J"⟩, prog_12_method_13_code, 6, (some .long), x_at pt142)
-- 143: WorkMeter$Wave.factor(JJ)J
noncomputable def pt143 : List (List (Option xI)) := [
  [ze190, ze145, ze203, ze267, none, none, ze145, ze376, none, none, ze798, none, none, ze202, ze191, ze190],
  [ze366, ze790]]
noncomputable def pm143 : xM := (⟨"WorkMeter$Wave", "factor", "(JJ)J"⟩, prog_12_method_12_code, 4, (some .long), x_at pt143)
-- 144: WorkMeter.raw(II)J
noncomputable def pt144 : List (List (Option xI)) := [
  [ze74, ze799, none, none, ze341, none, none, ze73, ze800, none, none, ze267, none, none, ze519, none],
  [none, ze194, ze128, ze123, none, none, ze763, none, none, ze74, ze73, ze801, none, none, ze194]]
noncomputable def pm144 : xM := (⟨"WorkMeter", "raw", "(II)J"⟩, prog_1_method_24_code, 3, (some .long), x_at pt144)
-- 145: WorkMeter.isRegister(I)Z
noncomputable def pt145 : List (List (Option xI)) := [
  [ze547, ze564, none, none, ze547, ze246, none, ze565, none, none, ze82, ze263, none, none, ze143, ze265]]
noncomputable def pm145 : xM := (⟨"WorkMeter", "isRegister", "(I)Z"⟩, prog_1_method_58_code, 1, (some .boolean), x_at pt145)
-- 146: WorkMeter.isTariffOrAll(I)Z
noncomputable def pt146 : List (List (Option xI)) := [
  [ze547, ze63, ze242, none, none, ze547, ze559, none, none, ze290, none, none, ze509, ze263, none, none],
  [ze143, ze265]]
noncomputable def pm146 : xM := (⟨"WorkMeter", "isTariffOrAll", "(I)Z"⟩, prog_1_method_56_code, 1, (some .boolean), x_at pt146)
-- 147: WorkMeter.reading(II)J
noncomputable def pt147 : List (List (Option xI)) := [
  [ze74, ze799, none, none, ze341, none, none, ze73, ze800, none, none, ze267, none, none, ze519, none],
  [none, ze194, ze128, ze123, none, none, ze763, none, none, ze74, ze73, ze801, none, none, ze0, ze123],
  [none, none, ze599, none, none, ze802, none, none, ze186, ze366, ze194]]
noncomputable def pm147 : xM := (⟨"WorkMeter", "reading", "(II)J"⟩, prog_1_method_25_code, 3, (some .long), x_at pt147)
-- 148: WorkMeter.tariffAt(I)I
noncomputable def pt148 : List (List (Option xI)) := [
  [ze74, ze731, none, none, ze705, none, none, ze0, ze123, none, none, ze562, none, none, ze74, ze803],
  [none, none, ze263, none, none, ze155, ze265]]
noncomputable def pm148 : xM := (⟨"WorkMeter", "tariffAt", "(I)I"⟩, prog_1_method_26_code, 2, (some .int), x_at pt148)
-- 149: WorkMeter.tableOf(I)I
noncomputable def pt149 : List (List (Option xI)) := [
  [ze74, ze804, none, none, ze705, none, none, ze0, ze123, none, none, ze562, none, none, ze74, ze805],
  [none, none, ze263, none, none, ze155, ze265]]
noncomputable def pm149 : xM := (⟨"WorkMeter", "tableOf", "(I)I"⟩, prog_1_method_27_code, 2, (some .int), x_at pt149)
-- 150: WorkMeter.isDay(I)Z
noncomputable def pt150 : List (List (Option xI)) := [
  [ze547, ze806, none, none, ze547, ze807, none, none, ze582, none, none, ze82, ze263, none, none, ze143],
  [ze265]]
noncomputable def pm150 : xM := (⟨"WorkMeter", "isDay", "(I)Z"⟩, prog_1_method_60_code, 1, (some .boolean), x_at pt150)
-- 151: WorkMeter.switching(III)I
noncomputable def pt151 : List (List (Option xI)) := [
  [ze74, ze557, none, none, ze342, none, none, ze63, ze127, ze323, ze123, none, none, ze562, none, none],
  [ze808, none, none, ze74, ze176, ze102, none, ze73, ze63, ze252, none, none, ze104, none, ze127, ze809],
  [ze810, none, none, ze73, ze104, none, ze811, none, none, ze71, ze812, none, none, ze71, ze82, ze154],
  [none, none, ze155, ze127, ze556, ze271, none, ze165, ze73, ze134, ze174, none, ze71, ze813, none, none],
  [ze0, ze123, none, none, ze562, none, none, ze814, none, none, ze175, none, ze176, ze268, none, none],
  [ze815, ze123, none, none, ze562, none, none, ze816, none, none, ze175, none, ze176, ze265]]
noncomputable def pm151 : xM := (⟨"WorkMeter", "switching", "(III)I"⟩, prog_1_method_28_code, 6, (some .int), x_at pt151)
-- 152: WorkMeter.next(I)I
noncomputable def pt152 : List (List (Option xI)) := [
  [ze74, ze812, none, none, ze74, ze82, ze154, none, none, ze155, ze127, ze244, ze123, none, none, ze562],
  [none, none, ze0, ze123, none, none, ze737, none, none, ze817, none, none, ze67, ze73, ze63, ze685],
  [none, none, ze74, ze342, none, none, ze264, ze127, ze730, ze123, none, none, ze562, none, none, ze73],
  [ze803, none, none, ze127]]
noncomputable def pm152 : xM := (⟨"WorkMeter", "next", "(I)I"⟩, prog_1_method_29_code, 3, (some .int), x_at pt152)
-- 153: WorkMeter$Calendar.changeAfter(I)I
noncomputable def pt153 : List (List (Option xI)) := [
  [ze74, ze237, none, ze168, ze552, none, ze134, ze82, ze134, ze237, none, ze165, ze82, ze212, ze818, none],
  [ze819, none, none, ze67, ze0, ze74, ze820, none, none, ze69, ze0, ze74, ze821, none, none, ze102],
  [none, ze43, ze174, none, ze822, none, ze823, none, ze791, none, none, ze104, none, ze73, ze824, none],
  [none, ze0, ze104, none, ze820, none, none, ze71, ze825, none, none, ze104, none, ze127, ze826, ze104],
  [none, ze821, none, none, ze102, none, ze514, none, none, ze827, none, none, ze155, ze127]]
noncomputable def pm153 : xM := (⟨"WorkMeter$Calendar", "changeAfter", "(I)I"⟩, prog_2_method_17_code, 6, (some .int), x_at pt153)
-- 154: WorkMeter.marked(II)I
noncomputable def pt154 : List (List (Option xI)) := [
  [ze74, ze812, none, none, ze74, ze110, ze322, none, none, ze155, ze127, ze170, ze828, none, none, none],
  [none, none, none, none, none, none, none, none, none, none, none, none, none, none, none, none],
  [none, none, none, none, none, none, none, none, none, none, none, none, ze244, ze123, none, none],
  [ze751, none, none, ze74, ze752, none, none, ze290, none, none, ze82, ze263, none, none, ze143, ze265],
  [ze244, ze123, none, none, ze751, none, none, ze829, none, none, ze74, ze176, ze127, ze244, ze123, none],
  [none, ze751, none, none, ze830, none, none, ze74, ze176, ze127, ze244, ze123, none, none, ze751, none],
  [none, ze831, none, none, ze74, ze176, ze127, ze155, ze127]]
noncomputable def pm154 : xM := (⟨"WorkMeter", "marked", "(II)I"⟩, prog_1_method_30_code, 3, (some .int), x_at pt154)
-- 155: WorkMeter.load(II)J
noncomputable def pt155 : List (List (Option xI)) := [
  [ze0, ze123, none, none, ze832, none, none, ze833, none, none, ze69, ze74, ze63, ze252, none, none],
  [ze71, ze186, ze194, ze556, ze810, none, none, ze74, ze71, ze72, none, none, ze73, ze560, none, none],
  [ze73, ze271, none, ze722, none, none, ze519, none, none, ze194, ze128, ze123, none, none, ze832, none],
  [none, ze74, ze73, ze834, none, none, ze194]]
noncomputable def pm155 : xM := (⟨"WorkMeter", "load", "(II)J"⟩, prog_1_method_31_code, 4, (some .long), x_at pt155)
-- 156: WorkMeter.block(I)J
noncomputable def pt156 : List (List (Option xI)) := [
  [ze74, ze835, none, none, none, none, none, none, none, none, none, none, none, none, none, none],
  [none, none, none, none, none, none, none, none, none, none, none, none, none, none, none, none],
  [none, none, none, none, none, none, none, none, ze136, ze123, none, none, ze832, none, none, ze836],
  [none, none, ze194, ze136, ze123, none, none, ze832, none, none, ze837, none, none, ze194, ze136, ze123],
  [none, none, ze832, none, none, ze838, none, none, ze194, ze136, ze123, none, none, ze832, none, none],
  [ze839, none, none, ze186, ze194, ze136, ze123, none, none, ze832, none, none, ze840, none, none, ze186],
  [ze194, ze136, ze123, none, none, ze832, none, none, ze0, ze123, none, none, ze599, none, none, ze841],
  [none, none, ze842, none, none, ze186, ze194, ze519, none, none, ze194]]
noncomputable def pm156 : xM := (⟨"WorkMeter", "block", "(I)J"⟩, prog_1_method_32_code, 2, (some .long), x_at pt156)
-- 157: WorkMeter.demand(I)J
noncomputable def pt157 : List (List (Option xI)) := [
  [ze74, ze698, none, none, ze0, ze123, none, none, ze843, none, none, ze844, none, none, ze194, ze635],
  [ze82, ze845, none, none, ze0, ze123, none, none, ze843, none, none, ze846, none, none, ze186, ze788],
  [none, none, ze519, none, none, ze790]]
noncomputable def pm157 : xM := (⟨"WorkMeter", "demand", "(I)J"⟩, prog_1_method_33_code, 2, (some .long), x_at pt157)
-- 158: WorkMeter.greatest(II)J
noncomputable def pt158 : List (List (Option xI)) := [
  [ze74, ze559, none, none, ze267, none, none, ze847, none, none, ze194, ze170, ze848, none, none, ze0],
  [ze123, none, none, ze843, none, none, ze849, none, none, ze74, ze185, ze194, ze170, ze82, ze708, none],
  [none, ze0, ze123, none, none, ze843, none, none, ze850, none, none, ze74, ze176, ze186, ze788, none],
  [none, ze519, none, none, ze790]]
noncomputable def pm158 : xM := (⟨"WorkMeter", "greatest", "(II)J"⟩, prog_1_method_34_code, 3, (some .long), x_at pt158)
-- 159: WorkMeter.billed(III)J
noncomputable def pt159 : List (List (Option xI)) := [
  [ze0, ze123, none, none, ze763, none, none, ze74, ze851, none, none, ze705, none, none, ze73, ze799],
  [none, none, ze341, none, none, ze71, ze800, none, none, ze267, none, none, ze519, none, none, ze194],
  [ze323, ze123, none, none, ze763, none, none, ze74, ze73, ze71, ze852, none, none, ze194]]
noncomputable def pm159 : xM := (⟨"WorkMeter", "billed", "(III)J"⟩, prog_1_method_35_code, 4, (some .long), x_at pt159)
-- 160: WorkMeter$Registers.isBill(I)Z
noncomputable def pt160 : List (List (Option xI)) := [
  [ze74, ze853, none, none, ze74, ze0, ze767, none, none, ze271, none, ze854, none, none, ze565, none],
  [none, ze82, ze263, none, none, ze143, ze265]]
noncomputable def pm160 : xM := (⟨"WorkMeter$Registers", "isBill", "(I)Z"⟩, prog_9_method_8_code, 2, (some .boolean), x_at pt160)
-- 161: WorkMeter$Registers.billedSum(III)J
noncomputable def pt161 : List (List (Option xI)) := [
  [ze0, ze769, none, none, ze0, ze74, ze855, none, none, ze73, ze52, ze165, ze134, ze71, ze522, none],
  [none, ze194]]
noncomputable def pm161 : xM := (⟨"WorkMeter$Registers", "billedSum", "(III)J"⟩, prog_9_method_12_code, 4, (some .long), x_at pt161)
-- 162: WorkMeter$Registers.rowOf(I)I
noncomputable def pt162 : List (List (Option xI)) := [
  [ze0, ze767, none, none, ze82, ze212, ze74, ze212, ze271, none, ze142, ze716, none, ze165, ze127]]
noncomputable def pm162 : xM := (⟨"WorkMeter$Registers", "rowOf", "(I)I"⟩, prog_9_method_9_code, 2, (some .int), x_at pt162)
-- 163: WorkMeter.bills(II)J
noncomputable def pt163 : List (List (Option xI)) := [
  [ze0, ze123, none, none, ze763, none, none, ze74, ze851, none, none, ze476, none, none, ze73, ze812],
  [none, none, ze73, ze52, ze518, none, none, ze519, none, none, ze194, ze170, ze725, none, none, ze0],
  [ze123, none, none, ze763, none, none, ze74, ze856, none, none, ze857, none, none, ze128, ze123, none],
  [none, ze763, none, none, ze74, ze73, ze82, ze212, ze858, none, none, ze790]]
noncomputable def pm163 : xM := (⟨"WorkMeter", "bills", "(II)J"⟩, prog_1_method_36_code, 3, (some .long), x_at pt163)
-- 164: WorkMeter$Registers.billTime(I)J
noncomputable def pt164 : List (List (Option xI)) := [
  [ze0, ze769, none, none, ze0, ze74, ze855, none, none, ze483, none, ze134, ze185, ze194]]
noncomputable def pm164 : xM := (⟨"WorkMeter$Registers", "billTime", "(I)J"⟩, prog_9_method_10_code, 2, (some .long), x_at pt164)
-- 165: WorkMeter$Registers.billMost(II)J
noncomputable def pt165 : List (List (Option xI)) := [
  [ze0, ze769, none, none, ze0, ze74, ze855, none, none, ze54, none, ze134, ze73, ze134, ze185, ze194]]
noncomputable def pm165 : xM := (⟨"WorkMeter$Registers", "billMost", "(II)J"⟩, prog_9_method_11_code, 3, (some .long), x_at pt165)
-- 166: WorkMeter.money(II)J
noncomputable def pt166 : List (List (Option xI)) := [
  [ze0, ze123, none, none, ze763, none, none, ze74, ze851, none, none, ze476, none, none, ze73, ze812],
  [none, none, ze73, ze82, ze518, none, none, ze519, none, none, ze194, ze128, ze123, none, none, ze763],
  [none, none, ze74, ze0, ze123, none, none, ze599, none, none, ze859, none, none, ze353, ze860, none],
  [none, ze0, ze123, none, none, ze599, none, none, ze802, none, none, ze186, ze191, ze200, none, ze359],
  [ze201, none, ze861, none, none, ze388, none, ze73, ze267, none, none, ze359, ze331, none, none, ze862],
  [none, ze863, none, ze366, ze194]]
noncomputable def pm166 : xM := (⟨"WorkMeter", "money", "(II)J"⟩, prog_1_method_37_code, 9, (some .long), x_at pt166)
-- 167: WorkMeter$Registers.moneyHundredths(ILWorkMeter$Settings;)J
noncomputable def pt167 : List (List (Option xI)) := [
  [ze145, ze353, ze145, ze200, none, ze43, ze278, none, ze864, none, ze52, ze865, none, none, ze359, ze0],
  [ze74, ze43, ze281, none, ze866, none, none, ze867, ze281, none, ze868, none, none, ze186, ze191, ze187],
  [ze353, ze201, none, ze0, ze74, ze281, none, ze869, none, none, ze870, none, none, ze200, none, ze313],
  [none, none, ze574, none, none, ze792, ze201, none, ze867, ze554, none, ze871, none, none, ze186, ze191],
  [ze187, ze353, ze0, ze74, ze178, ze63, ze866, none, none, ze0, ze74, ze110, ze63, ze866, none, none],
  [ze187, ze388, none, ze390, none, ze872, none, none, ze191, ze0, ze74, ze43, ze63, ze866, none, none],
  [ze867, ze739, none, ze871, none, none, ze186, ze191, ze365, ze391, none, ze359, ze872, none, none, ze191],
  [ze145, ze392, none, ze870, none, none, ze867, ze423, none, ze871, none, none, ze186, ze191, ze187, ze194]]
noncomputable def pm167 : xM := (⟨"WorkMeter$Registers", "moneyHundredths", "(ILWorkMeter$Settings;)J"⟩, prog_9_method_13_code, 11, (some .long), x_at pt167)
-- 168: WorkMeter$Settings.value(I)I
noncomputable def pt168 : List (List (Option xI)) := [
  [ze74, ze534, none, none, ze67, ze73, ze63, ze262, none, none, ze63, ze873, none, none, ze730, ze44],
  [none, none, ze73, ze176, ze265]]
noncomputable def pm168 : xM := (⟨"WorkMeter$Settings", "value", "(I)I"⟩, prog_11_method_6_code, 3, (some .int), x_at pt168)
-- 169: WorkMeter.commonDivisor(JJ)J
noncomputable def pt169 : List (List (Option xI)) := [
  [ze202, ze189, none, ze190, ze367, none, ze43, ze400, none, ze874, none, ze875, none, none, ze636, none],
  [none, ze371, none, ze145, ze203, ze876, none, none, ze192, none, ze371, none, ze877, ze391, none, ze371],
  [none, ze189, none, ze392, none, ze367, none, ze878, none, none, ze640, none, none, ze879, none, ze145],
  [ze203, ze482, none, none, ze192, none, ze263, none, none, ze880, ze790]]
noncomputable def pm169 : xM := (⟨"WorkMeter", "commonDivisor", "(JJ)J"⟩, prog_1_method_53_code, 11, (some .long), x_at pt169)
-- 170: WorkMeter.would(II)J
noncomputable def pt170 : List (List (Option xI)) := [
  [ze74, ze82, ze638, none, none, ze74, ze517, none, none, ze881, none, none, ze73, ze560, none, none],
  [ze73, ze271, none, ze518, none, none, ze759, none, none, ze194, ze128, ze882, none, none, ze0, ze123],
  [none, none, ze883, none, none, ze0, ze882, none, none, ze74, ze158, none, none, ze73, ze884, none],
  [none, none, none, none, none, none, none, none, none, none, none, none, none, none, none, none],
  [none, none, none, none, none, none, none, none, none, none, none, none, none, none, none, none],
  [none, none, none, none, ze136, ze882, none, none, ze43, ze520, none, none, ze194, ze136, ze882, none],
  [none, ze82, ze520, none, none, ze194, ze136, ze882, none, none, ze760, none, none, ze194, ze136, ze882],
  [none, none, ze843, none, none, ze885, none, none, ze194, ze136, ze882, none, none, ze751, none, none],
  [ze886, none, none, ze186, ze194, ze136, ze882, none, none, ze887, none, none, ze290, none, none, ze198],
  [ze263, none, none, ze888, ze790, ze136, ze882, none, none, ze737, none, none, ze186, ze194]]
noncomputable def pm170 : xM := (⟨"WorkMeter", "would", "(II)J"⟩, prog_1_method_38_code, 3, (some .long), x_at pt170)
-- 171: WorkMeter$Meter.copyFrom(LWorkMeter$Meter;)V
noncomputable def pt171 : List (List (Option xI)) := [
  [ze0, ze218, none, none, ze492, ze218, none, none, ze889, none, none, ze0, ze214, none, none, ze492],
  [ze214, none, none, ze890, none, none, ze0, ze217, none, none, ze492, ze217, none, none, ze891, none],
  [none, ze0, ze368, none, none, ze492, ze368, none, none, ze892, none, none, ze0, ze231, none, none],
  [ze492, ze231, none, none, ze893, none, none, ze0, ze470, none, none, ze492, ze470, none, none, ze894],
  [none, none, ze0, ze227, none, none, ze492, ze227, none, none, ze895, none, none, ze0, ze229, none],
  [none, ze492, ze229, none, none, ze896, none, none, ze0, ze703, none, none, ze492, ze703, none, none],
  [ze897, none, none, ze0, ze492, ze215, none, none, ze225, none, none, ze0, ze492, ze364, none, none],
  [ze393, none, none, ze0, ze492, ze355, none, none, ze898, none, none, ze0, ze492, ze357, none, none],
  [ze422, none, none, ze0, ze492, ze223, none, none, ze224, none, none, ze0, ze492, ze384, none, none],
  [ze385, none, none, ze0, ze492, ze745, none, none, ze746, none, none, ze11]]
noncomputable def pm171 : xM := (⟨"WorkMeter$Meter", "copyFrom", "(LWorkMeter$Meter;)V"⟩, prog_8_method_2_code, 2, none, x_at pt171)
-- 172: WorkMeter$Settings.copyFrom(LWorkMeter$Settings;)V
noncomputable def pt172 : List (List (Option xI)) := [
  [ze492, ze44, none, none, ze43, ze0, ze44, none, none, ze43, ze39, none, ze45, none, none, ze11]]
noncomputable def pm172 : xM := (⟨"WorkMeter$Settings", "copyFrom", "(LWorkMeter$Settings;)V"⟩, prog_11_method_2_code, 2, none, x_at pt172)
-- 173: WorkMeter$Wave.copyFrom(LWorkMeter$Wave;)V
noncomputable def pt173 : List (List (Option xI)) := [
  [ze492, ze160, none, none, ze43, ze0, ze160, none, none, ze43, ze0, ze160, none, none, ze68, ze899],
  [none, none, ze492, ze162, none, none, ze43, ze0, ze162, none, none, ze43, ze0, ze162, none, none],
  [ze68, ze899, none, none, ze492, ze147, none, none, ze43, ze0, ze147, none, none, ze43, ze0, ze147],
  [none, none, ze68, ze899, none, none, ze0, ze492, ze163, none, none, ze83, none, none, ze0, ze492],
  [ze164, none, none, ze84, none, none, ze0, ze492, ze161, none, none, ze144, none, none, ze0, ze492],
  [ze900, none, none, ze146, none, none, ze11]]
noncomputable def pm173 : xM := (⟨"WorkMeter$Wave", "copyFrom", "(LWorkMeter$Wave;)V"⟩, prog_12_method_2_code, 2, none, x_at pt173)
-- 174: WorkMeter$Registers.copyFrom(LWorkMeter$Registers;)V
noncomputable def pt174 : List (List (Option xI)) := [
  [ze492, ze382, none, none, ze43, ze0, ze382, none, none, ze43, ze54, none, ze774, none, none, ze492],
  [ze770, none, none, ze43, ze0, ze770, none, none, ze43, ze54, none, ze774, none, none, ze492, ze769],
  [none, none, ze43, ze0, ze769, none, none, ze43, ze0, ze769, none, none, ze68, ze774, none, none],
  [ze0, ze492, ze767, none, none, ze775, none, none, ze11]]
noncomputable def pm174 : xM := (⟨"WorkMeter$Registers", "copyFrom", "(LWorkMeter$Registers;)V"⟩, prog_9_method_2_code, 2, none, x_at pt174)
-- 175: WorkMeter$Load.copyFrom(LWorkMeter$Load;)V
noncomputable def pt175 : List (List (Option xI)) := [
  [ze492, ze489, none, none, ze43, ze0, ze489, none, none, ze43, ze0, ze489, none, none, ze68, ze45],
  [none, none, ze492, ze488, none, none, ze43, ze0, ze488, none, none, ze43, ze52, ze45, none, none],
  [ze0, ze492, ze485, none, none, ze491, none, none, ze0, ze492, ze409, none, none, ze410, none, none],
  [ze0, ze492, ze412, none, none, ze413, none, none, ze0, ze492, ze415, none, none, ze416, none, none],
  [ze0, ze492, ze464, none, none, ze465, none, none, ze0, ze492, ze473, none, none, ze480, none, none],
  [ze0, ze492, ze466, none, none, ze467, none, none, ze0, ze492, ze484, none, none, ze481, none, none],
  [ze11]]
noncomputable def pm175 : xM := (⟨"WorkMeter$Load", "copyFrom", "(LWorkMeter$Load;)V"⟩, prog_5_method_2_code, 2, none, x_at pt175)
-- 176: WorkMeter$Demand.copyFrom(LWorkMeter$Demand;)V
noncomputable def pt176 : List (List (Option xI)) := [
  [ze492, ze98, none, none, ze43, ze0, ze98, none, none, ze43, ze52, ze901, none, none, ze492, ze100],
  [none, none, ze43, ze0, ze100, none, none, ze43, ze52, ze901, none, none, ze0, ze492, ze498, none],
  [none, ze95, none, none, ze0, ze492, ze500, none, none, ze96, none, none, ze11]]
noncomputable def pm176 : xM := (⟨"WorkMeter$Demand", "copyFrom", "(LWorkMeter$Demand;)V"⟩, prog_4_method_3_code, 2, none, x_at pt176)
-- 177: WorkMeter$Marks.copyFrom(LWorkMeter$Marks;)V
noncomputable def pt177 : List (List (Option xI)) := [
  [ze492, ze457, none, none, ze43, ze0, ze457, none, none, ze43, ze110, ze902, none, none, ze492, ze448],
  [none, none, ze43, ze0, ze448, none, none, ze43, ze110, ze902, none, none, ze492, ze346, none, none],
  [ze43, ze0, ze346, none, none, ze43, ze110, ze902, none, none, ze0, ze492, ze351, none, none, ze456],
  [none, none, ze11]]
noncomputable def pm177 : xM := (⟨"WorkMeter$Marks", "copyFrom", "(LWorkMeter$Marks;)V"⟩, prog_7_method_2_code, 2, none, x_at pt177)
-- 178: WorkMeter$Logbook.copyFrom(LWorkMeter$Logbook;)V
noncomputable def pt178 : List (List (Option xI)) := [
  [ze492, ze429, none, none, ze43, ze0, ze429, none, none, ze43, ze0, ze429, none, none, ze68, ze903],
  [none, none, ze0, ze492, ze427, none, none, ze430, none, none, ze11]]
noncomputable def pm178 : xM := (⟨"WorkMeter$Logbook", "copyFrom", "(LWorkMeter$Logbook;)V"⟩, prog_6_method_2_code, 2, none, x_at pt178)
-- 179: WorkMeter$Seal.copyFrom(LWorkMeter$Seal;)V
noncomputable def pt179 : List (List (Option xI)) := [
  [ze0, ze492, ze131, none, none, ze700, none, none, ze0, ze492, ze904, none, none, ze701, none, none],
  [ze0, ze492, ze721, none, none, ze719, none, none, ze0, ze492, ze133, none, none, ze135, none, none],
  [ze0, ze492, ze717, none, none, ze720, none, none, ze11]]
noncomputable def pm179 : xM := (⟨"WorkMeter$Seal", "copyFrom", "(LWorkMeter$Seal;)V"⟩, prog_10_method_2_code, 2, none, x_at pt179)
-- 180: WorkMeter$Demand.mostOfAll()J
noncomputable def pt180 : List (List (Option xI)) := [
  [ze94, none, none, ze905, ze43, ze69, ze678, ze52, ze906, none, none, ze105, ze0, ze98, none, none],
  [ze71, ze185, ze907, none, none, ze905, ze107, none, none, ze908, none, none, ze909, ze194]]
noncomputable def pm180 : xM := (⟨"WorkMeter$Demand", "mostOfAll", "()J"⟩, prog_4_method_6_code, 4, (some .long), x_at pt180)
-- 181: WorkMeter.cost(I)J
noncomputable def pt181 : List (List (Option xI)) := [
  [ze74, ze82, ze137, none, none, ze74, ze736, none, ze910, none, none, ze0, ze123, none, none, ze737],
  [none, none, ze74, ze134, ze82, ze212, ze733, none, ze518, none, none, ze519, none, none, ze194, ze244],
  [ze123, none, none, ze562, none, none, ze0, ze123, none, none, ze737, none, none, ze74, ze0, ze123],
  [none, none, ze599, none, none, ze911, none, none, ze194]]
noncomputable def pm181 : xM := (⟨"WorkMeter", "cost", "(I)J"⟩, prog_1_method_39_code, 2, (some .long), x_at pt181)
-- 182: WorkMeter$Calendar.costOf(IILWorkMeter$Settings;)J
noncomputable def pt182 : List (List (Option xI)) := [
  [ze74, ze73, ze134, ze102, none, ze74, ze174, none, ze145, ze367, none, ze43, ze400, none, ze912, none],
  [ze73, ze913, none, none, ze175, none, ze104, none, ze914, none, none, ze0, ze175, none, ze821, none],
  [none, ze104, none, ze819, none, none, ze915, none, ze371, none, ze458, ze0, ze175, none, ze820, none],
  [none, ze916, none, none, ze186, ze917, none, ze175, none, ze212, ze186, ze191, ze187, ze367, none, ze917],
  [none, ze174, none, ze878, none, none, ze918, none, none, ze919, none, ze194]]
noncomputable def pm182 : xM := (⟨"WorkMeter$Calendar", "costOf", "(IILWorkMeter$Settings;)J"⟩, prog_2_method_18_code, 10, (some .long), x_at pt182)
-- 183: WorkMeter.cheapest(II)J
noncomputable def pt183 : List (List (Option xI)) := [
  [ze74, ze82, ze920, none, none, ze74, ze736, none, ze921, none, none, ze73, ze812, none, none, ze73],
  [ze82, ze518, none, none, ze519, none, none, ze194, ze128, ze123, none, none, ze737, none, none, ze922],
  [none, none, ze134, ze74, ze134, ze82, ze212, ze733, none, ze518, none, none, ze847, none, none, ze194],
  [ze128, ze123, none, none, ze737, none, none, ze69, ze0, ze123, none, none, ze562, none, none, ze71],
  [ze74, ze0, ze123, none, none, ze599, none, none, ze911, none, none, ze189, none, ze82, ze277, none],
  [ze923, none, ze924, none, ze925, none, none, ze0, ze123, none, none, ze737, none, none, ze306, none],
  [ze517, none, none, ze165, ze134, ze278, none, ze0, ze123, none, none, ze562, none, none, ze281, none],
  [ze74, ze0, ze123, none, none, ze599, none, none, ze911, none, none, ze282, none, ze284, none, ze192],
  [none, ze203, ze926, none, none, ze284, none, ze189, none, ze281, none, ze69, ze927, none, none, ze928],
  [none, none, ze929, ze288, none, none, ze71, ze186, ze331, none, none, ze879, none, ze790]]
noncomputable def pm183 : xM := (⟨"WorkMeter", "cheapest", "(II)J"⟩, prog_1_method_40_code, 10, (some .long), x_at pt183)
-- 184: WorkMeter.lasts()I
noncomputable def pt184 : List (List (Option xI)) := [
  [ze0, ze123, none, none, ze887, none, none, ze126, none, none, ze43, ze127, ze136, ze123, none, none],
  [ze755, none, none, ze342, none, none, ze63, ze127, ze136, ze882, none, none, ze0, ze123, none, none],
  [ze883, none, none, ze0, ze882, none, none, ze546, none, none, ze930, none, none, ze127]]
noncomputable def pm184 : xM := (⟨"WorkMeter", "lasts", "()I"⟩, prog_1_method_41_code, 1, (some .int), x_at pt184)
-- 185: WorkMeter$Meter.secondsTillOpen(I)I
noncomputable def pt185 : List (List (Option xI)) := [
  [ze43, ze67, ze43, ze69, ze208, ze74, ze931, none, none, ze73, ze74, ze932, none, none, ze73, ze0],
  [ze74, ze73, ze212, ze211, none, none, ze134, ze67, ze0, ze357, none, none, ze126, none, none, ze73],
  [ze127, ze507, none, none, ze933, none, none, ze155, ze127]]
noncomputable def pm185 : xM := (⟨"WorkMeter$Meter", "secondsTillOpen", "(I)I"⟩, prog_8_method_12_code, 4, (some .int), x_at pt185)
-- 186: WorkMeter.lost(I)J
noncomputable def pt186 : List (List (Option xI)) := [
  [ze74, ze750, none, none, ze74, ze52, ze330, none, none, ze0, ze123, none, none, ze832, none, none],
  [ze934, none, none, ze74, ze185, ze788, none, none, ze519, none, none, ze790]]
noncomputable def pm186 : xM := (⟨"WorkMeter", "lost", "(I)J"⟩, prog_1_method_42_code, 2, (some .long), x_at pt186)
-- 187: WorkMeter.best(II)J
noncomputable def pt187 : List (List (Option xI)) := [
  [ze74, ze82, ze935, none, none, ze74, ze0, ze123, none, none, ze832, none, none, ze833, none, none],
  [ze921, none, none, ze73, ze812, none, none, ze73, ze82, ze518, none, none, ze519, none, none, ze194],
  [ze128, ze123, none, none, ze832, none, none, ze74, ze936, none, none, ze69, ze73, ze937, none, none],
  [ze0, ze123, none, none, ze832, none, none, ze71, ze74, ze938, none, none, ze396, none, none, ze414],
  [ze123, none, none, ze832, none, none, ze71, ze43, ze834, none, none, ze790]]
noncomputable def pm187 : xM := (⟨"WorkMeter", "best", "(II)J"⟩, prog_1_method_43_code, 4, (some .long), x_at pt187)
-- 188: WorkMeter$Load.bestRun(I)I
noncomputable def pt188 : List (List (Option xI)) := [
  [ze0, ze43, ze74, ze939, none, none, ze188, ze190, ze189, none, ze43, ze277, none, ze82, ze278, none],
  [ze940, none, ze74, ze134, ze0, ze941, none, none, ze942, none, none, ze190, ze0, ze281, none, ze74],
  [ze134, ze82, ze212, ze82, ze513, none, none, ze0, ze281, none, ze82, ze212, ze82, ze513, none, none],
  [ze365, ze187, ze188, ze190, ze192, none, ze203, ze361, none, none, ze190, ze189, none, ze281, none, ze277],
  [none, ze943, none, none, ze508, none, none, ze944, none, ze127]]
noncomputable def pm188 : xM := (⟨"WorkMeter$Load", "bestRun", "(I)I"⟩, prog_5_method_12_code, 8, (some .int), x_at pt188)
-- 189: WorkMeter.between(II)J
noncomputable def pt189 : List (List (Option xI)) := [
  [ze145, ze353, ze0, ze123, none, none, ze832, none, none, ze833, none, none, ze174, none, ze43, ze277],
  [none, ze571, none, ze175, none, ze913, none, none, ze0, ze123, none, none, ze832, none, none, ze306],
  [none, ze43, ze834, none, none, ze388, none, ze390, none, ze74, ze186, ze203, ze945, none, none, ze390],
  [none, ze73, ze186, ze203, ze946, none, none, ze359, ze0, ze123, none, none, ze832, none, none, ze306],
  [none, ze82, ze834, none, none, ze187, ze353, ze947, none, none, ze948, none, none, ze516, ze194]]
noncomputable def pm189 : xM := (⟨"WorkMeter", "between", "(II)J"⟩, prog_1_method_44_code, 9, (some .long), x_at pt189)
-- 190: WorkMeter.log(II)I
noncomputable def pt190 : List (List (Option xI)) := [
  [ze74, ze949, none, none, ze74, ze0, ze123, none, none, ze753, none, none, ze950, none, none, ze811],
  [none, none, ze73, ze812, none, none, ze73, ze138, ze322, none, none, ze155, ze127, ze128, ze123, none],
  [none, ze753, none, none, ze74, ze73, ze951, none, none, ze127]]
noncomputable def pm190 : xM := (⟨"WorkMeter", "log", "(II)I"⟩, prog_1_method_45_code, 3, (some .int), x_at pt190)
-- 191: WorkMeter$Logbook.linesKept()I
noncomputable def pt191 : List (List (Option xI)) := [
  [ze0, ze427, none, none, ze428, none, ze952, none, none, ze127]]
noncomputable def pm191 : xM := (⟨"WorkMeter$Logbook", "linesKept", "()I"⟩, prog_6_method_3_code, 1, (some .int), x_at pt191)
-- 192: WorkMeter$Logbook.field(II)I
noncomputable def pt192 : List (List (Option xI)) := [
  [ze0, ze429, none, none, ze0, ze427, none, none, ze82, ze212, ze74, ze212, ze428, none, ze142, ze138],
  [ze165, ze73, ze134, ze176, ze127]]
noncomputable def pm192 : xM := (⟨"WorkMeter$Logbook", "field", "(II)I"⟩, prog_6_method_4_code, 3, (some .int), x_at pt192)
-- 193: WorkMeter.holds(II)I
noncomputable def pt193 : List (List (Option xI)) := [
  [ze74, ze804, none, none, ze341, none, none, ze73, ze559, none, none, ze342, none, none, ze155, ze127],
  [ze128, ze123, none, none, ze562, none, none, ze0, ze123, none, none, ze562, none, none, ze74, ze805],
  [none, none, ze73, ze953, none, none, ze127]]
noncomputable def pm193 : xM := (⟨"WorkMeter", "holds", "(II)I"⟩, prog_1_method_46_code, 3, (some .int), x_at pt193)
-- 194: WorkMeter$Calendar.secondsHeld(II)I
noncomputable def pt194 : List (List (Option xI)) := [
  [ze74, ze271, none, ze165, ze69, ze43, ze102, none, ze43, ze174, none, ze43, ze277, none, ze71, ze278],
  [none, ze279, none, ze71, ze0, ze60, none, none, ze74, ze176, ze134, ze954, none, none, ze306, none],
  [ze73, ze955, none, none, ze104, none, ze0, ze273, none, none, ze281, none, ze176, ze175, none, ze212],
  [ze134, ze102, none, ze956, ze273, none, none, ze281, none, ze176, ze174, none, ze0, ze270, none, none],
  [ze281, none, ze176, ze277, none, ze313, none, none, ze957, none, none, ze958, none, ze73, ze959, none],
  [none, ze104, none, ze237, none, ze134, ze175, none, ze212, ze331, none, none, ze276, none, ze265]]
noncomputable def pm194 : xM := (⟨"WorkMeter$Calendar", "secondsHeld", "(II)I"⟩, prog_2_method_19_code, 8, (some .int), x_at pt194)
-- 195: WorkMeter.image(Z)Z
noncomputable def pt195 : List (List (Option xI)) := [
  [ze74, ze728, none, none, ze0, ze960, none, none, ze0, ze123, none, none, ze883, none, none, ze0],
  [ze82, ze961, none, none, ze962, none, none, ze136, ze963, none, none, ze383, none, none, ze0, ze123],
  [none, none, ze0, ze960, none, none, ze883, none, none, ze136, ze963, none, none, ze127]]
noncomputable def pm195 : xM := (⟨"WorkMeter", "image", "(Z)Z"⟩, prog_1_method_47_code, 2, (some .boolean), x_at pt195)
-- 196: WorkMeter.look(I)J
noncomputable def pt196 : List (List (Option xI)) := [
  [ze74, ze285, none, none, ze964, none, none, ze194, ze635, ze246, none, ze141, none, none, ze0, ze74],
  [ze965, none, none, ze194, ze635, ze966, none, ze141, none, none, ze0, ze74, ze967, none, none, ze194],
  [ze635, ze428, none, ze935, none, none, ze74, ze968, none, ze139, none, none, ze0, ze123, none, none],
  [ze562, none, none, ze724, none, none, ze74, ze428, none, ze212, ze176, ze186, ze194, ze635, ze969, none],
  [ze970, none, none, ze0, ze74, ze971, none, none, ze194, ze635, ze972, none, none, ze67, ze73, ze63],
  [ze973, none, none, ze964, none, none, ze396, none, none, ze730, ze123, none, none, ze599, none, none],
  [ze73, ze974, none, none, ze186, ze790]]
noncomputable def pm196 : xM := (⟨"WorkMeter", "look", "(I)J"⟩, prog_1_method_48_code, 3, (some .long), x_at pt196)
-- 197: WorkMeter.lookAtMeter(I)J
noncomputable def pt197 : List (List (Option xI)) := [
  [ze74, ze975, none, none, none, none, none, none, none, none, none, none, none, none, none, none],
  [none, none, none, none, none, none, none, none, none, none, none, none, none, none, none, none],
  [none, none, none, none, none, none, none, none, none, none, none, none, none, none, none, none],
  [ze136, ze123, none, none, ze737, none, none, ze186, ze194, ze136, ze123, none, none, ze562, none, none],
  [ze0, ze123, none, none, ze737, none, none, ze803, none, none, ze186, ze194, ze136, ze123, none, none],
  [ze760, none, none, ze194, ze136, ze123, none, none, ze755, none, none, ze290, none, none, ze198, ze263],
  [none, none, ze888, ze790, ze136, ze123, none, none, ze887, none, none, ze290, none, none, ze198, ze263],
  [none, none, ze888, ze790, ze136, ze123, none, none, ze976, none, none, ze186, ze194, ze136, ze123, none],
  [none, ze977, none, none, ze186, ze194, ze136, ze123, none, none, ze978, none, none, ze186, ze194, ze759],
  [none, none, ze194]]
noncomputable def pm197 : xM := (⟨"WorkMeter", "lookAtMeter", "(I)J"⟩, prog_1_method_49_code, 2, (some .long), x_at pt197)
-- 198: WorkMeter.lookAtCounts(I)J
noncomputable def pt198 : List (List (Option xI)) := [
  [ze74, ze979, none, none, none, none, none, none, none, none, none, none, none, none, none, none],
  [none, none, none, none, none, none, none, none, none, none, none, none, none, none, none, none],
  [none, none, none, none, none, none, none, none, none, none, none, none, none, none, none, none],
  [ze136, ze123, none, none, ze751, none, none, ze886, none, none, ze186, ze194, ze136, ze123, none, none],
  [ze753, none, none, ze980, none, none, ze186, ze194, ze136, ze123, none, none, ze832, none, none, ze981],
  [none, none, ze186, ze194, ze136, ze123, none, none, ze763, none, none, ze764, none, none, ze186, ze194],
  [ze136, ze123, none, none, ze129, none, none, ze777, none, none, ze186, ze194, ze136, ze123, none, none],
  [ze129, none, none, ze982, none, none, ze186, ze194, ze136, ze123, none, none, ze129, none, none, ze159],
  [none, none, ze186, ze194, ze136, ze123, none, none, ze562, none, none, ze983, none, none, ze186, ze194],
  [ze759, none, none, ze194]]
noncomputable def pm198 : xM := (⟨"WorkMeter", "lookAtCounts", "(I)J"⟩, prog_1_method_50_code, 2, (some .long), x_at pt198)
-- 199: WorkMeter.lookAtSeal(I)J
noncomputable def pt199 : List (List (Option xI)) := [
  [ze74, ze984, none, none, none, none, none, none, none, none, none, none, none, none, none, none],
  [none, none, none, none, none, none, none, none, none, none, none, none, none, none, none, none],
  [none, none, none, none, ze136, ze123, none, none, ze124, none, none, ze985, none, none, ze290, none],
  [none, ze198, ze263, none, none, ze888, ze790, ze136, ze123, none, none, ze124, none, none, ze986, none],
  [none, ze186, ze194, ze136, ze123, none, none, ze124, none, none, ze0, ze123, none, none, ze737, none],
  [none, ze987, none, none, ze186, ze194, ze136, ze123, none, none, ze124, none, none, ze988, none, none],
  [ze186, ze194, ze136, ze577, none, none, ze580, none, none, ze186, ze194, ze759, none, none, ze194]]
noncomputable def pm199 : xM := (⟨"WorkMeter", "lookAtSeal", "(I)J"⟩, prog_1_method_51_code, 2, (some .long), x_at pt199)
-- 200: WorkMeter.settingLookedAt(I)I
noncomputable def pt200 : List (List (Option xI)) := [
  [ze547, ze554, none, ze989, none, none, ze547, ze195, none, ze990, none, none, ze547, ze554, none, ze212],
  [ze43, ze134, ze127, ze550, ze696, none, ze551, none, none, ze547, ze716, none, ze555, none, none, ze547],
  [ze696, none, ze212, ze463, none, ze134, ze127, ze550, ze991, none, ze551, none, none, ze547, ze992, none],
  [ze555, none, none, ze547, ze991, none, ze212, ze554, none, ze134, ze127, ze155, ze127]]
noncomputable def pm200 : xM := (⟨"WorkMeter", "settingLookedAt", "(I)I"⟩, prog_1_method_52_code, 1, (some .int), x_at pt200)
-- 201: WorkMeterModel.<init>()V
noncomputable def pt201 : List (List (Option xI)) := [
  [ze0, ze1, none, none, ze0, ze993, none, none, ze80, none, ze994, none, none, ze0, ze993, none],
  [none, ze80, none, ze995, none, none, ze0, ze993, none, none, ze80, none, ze996, none, none, ze0],
  [ze116, none, none, ze997, none, ze998, none, none, ze0, ze63, ze999, none, none, ze0, ze47, none],
  [ze1000, none, ze1001, none, none, ze0, ze52, ze1000, none, ze1002, none, none, ze0, ze1003, none, none],
  [ze82, ze198, ze106, ze0, ze1003, none, none, ze178, ze1004, none, none, ze106, ze0, ze1003, none, none],
  [ze110, ze1005, none, none, ze106, ze0, ze1003, none, none, ze271, none, ze1006, none, none, ze106, ze0],
  [ze1003, none, none, ze246, none, ze1007, none, none, ze106, ze0, ze1003, none, none, ze47, none, ze1008],
  [none, none, ze106, ze0, ze1003, none, none, ze1009, none, ze1007, none, none, ze106, ze0, ze1003, none],
  [none, ze1010, none, none, ze1011, none, none, ze106, ze0, ze1003, none, none, ze1012, none, ze1013, none],
  [none, ze106, ze0, ze1003, none, none, ze554, none, ze1013, none, none, ze106, ze43, ze169, ze635, ze52],
  [ze931, none, none, ze0, ze1003, none, none, ze483, none, ze74, ze134, ze1013, none, none, ze106, ze0],
  [ze1003, none, none, ze1014, none, ze74, ze134, ze1013, none, none, ze106, ze620, none, none, ze933, none],
  [none, ze1015, ze169, ze635, ze52, ze272, none, none, ze0, ze1003, none, none, ze1016, none, none, ze74],
  [ze134, ze1013, none, none, ze106, ze620, none, none, ze515, none, none, ze419, ze169, ze635, ze240, none],
  [none, ze272, none, none, ze0, ze1003, none, none, ze1017, none, none, ze74, ze134, ze1013, none, none],
  [ze106, ze620, none, none, ze250, none, none, ze77]]
noncomputable def pm201 : xM := (⟨"WorkMeterModel", "<init>", "()V"⟩, prog_14_method_3_code, 2, none, x_at pt201)
-- 202: WorkMeterModel.phases(II)Z
noncomputable def pt202 : List (List (Option xI)) := [
  [ze0, ze1018, none, none, ze1019, none, none, ze74, ze186, ze198, ze1007, none, none, ze1020, none, none],
  [ze447, none, none, ze73, ze186, ze1021, none, none, ze1022, none, none, ze1020, none, none, ze1023, none],
  [none, ze73, ze52, ze142, ze126, none, none, ze143, ze127, ze128, ze1003, none, none, ze82, ze74, ze186],
  [ze106, ze0, ze1003, none, none, ze178, ze73, ze186, ze106, ze0, ze1003, none, none, ze138, ze145, ze106],
  [ze1024, none, ze69, ze1025, ze1026, none, none, ze673, none, none, ze0, ze1003, none, none, ze71, ze145],
  [ze106, ze107, none, none, ze1027, none, none, ze509, ze127]]
noncomputable def pm202 : xM := (⟨"WorkMeterModel", "phases", "(II)Z"⟩, prog_14_method_9_code, 4, (some .boolean), x_at pt202)
-- 203: WorkMeterModel.isShut()Z
noncomputable def pt203 : List (List (Option xI)) := [
  [ze0, ze1003, none, none, ze1028, none, none, ze184, ze185, ze0, ze1003, none, none, ze1029, none, none],
  [ze185, ze187, ze106, ze0, ze1003, none, none, ze1029, none, none, ze185, ze198, ze203, ze267, none, none],
  [ze82, ze263, none, none, ze143, ze265]]
noncomputable def pm203 : xM := (⟨"WorkMeterModel", "isShut", "()Z"⟩, prog_14_method_8_code, 1, (some .boolean), x_at pt203)
-- 204: WorkMeterModel.isIn(JJJ)Z
noncomputable def pt204 : List (List (Option xI)) := [
  [ze202, ze190, ze203, ze806, none, none, ze202, ze192, none, ze203, ze418, none, none, ze82, ze263, none],
  [none, ze143, ze265]]
noncomputable def pm204 : xM := (⟨"WorkMeterModel", "isIn", "(JJJ)Z"⟩, prog_14_method_1_code, 6, (some .boolean), x_at pt204)
-- 205: WorkMeterModel.sample(II)I
noncomputable def pt205 : List (List (Option xI)) := [
  [ze74, ze186, ze1030, none, none, ze1031, none, none, ze1020, none, none, ze705, none, none, ze73, ze186],
  [ze1030, none, none, ze1031, none, none, ze1020, none, none, ze342, none, none, ze155, ze127, ze128, ze1003],
  [none, none, ze138, ze185, ze374, ze69, ze0, ze1003, none, none, ze1026, none, none, ze71, ze0, ze1032],
  [none, none, ze142, ze71, ze0, ze1032, none, none, ze168, ze1033, none, none, ze74, ze186, ze106, ze0],
  [ze1003, none, none, ze1034, none, none, ze71, ze0, ze1032, none, none, ze142, ze71, ze0, ze1032, none],
  [none, ze168, ze1033, none, none, ze73, ze186, ze106, ze0, ze1003, none, none, ze138, ze184, ze185, ze198],
  [ze187, ze106, ze0, ze1003, none, none, ze138, ze185, ze0, ze1003, none, none, ze82, ze185, ze0, ze1003],
  [none, none, ze178, ze185, ze191, ze203, ze1035, none, none, ze0, ze1003, none, none, ze138, ze185, ze374],
  [ze127, ze136, ze1003, none, none, ze138, ze145, ze106, ze43, ze102, none, ze1036, none, ze924, none, ze487],
  [none, none, ze0, ze1003, none, none, ze1024, none, ze104, none, ze134, ze0, ze1003, none, none, ze1026],
  [none, none, ze104, none, ze134, ze185, ze106, ze179, none, none, ze749, none, none, ze136, ze1037, none],
  [none, ze43, ze127]]
noncomputable def pm205 : xM := (⟨"WorkMeterModel", "sample", "(II)I"⟩, prog_14_method_10_code, 5, (some .int), x_at pt205)
-- 206: WorkMeterModel.p()I
noncomputable def pt206 : List (List (Option xI)) := [
  [ze0, ze1003, none, none, ze82, ze185, ze374, ze127]]
noncomputable def pm206 : xM := (⟨"WorkMeterModel", "p", "()I"⟩, prog_14_method_5_code, 1, (some .int), x_at pt206)
-- 207: WorkMeterModel.at(III)I
noncomputable def pt207 : List (List (Option xI)) := [
  [ze547, ze56, none, ze74, ze165, ze134, ze73, ze134, ze127]]
noncomputable def pm207 : xM := (⟨"WorkMeterModel", "at", "(III)I"⟩, prog_14_method_7_code, 3, (some .int), x_at pt207)
-- 208: WorkMeterModel.meters()V
noncomputable def pt208 : List (List (Option xI)) := [
  [ze0, ze1003, none, none, ze309, none, ze185, ze198, ze203, ze267, none, none, ze145, ze1038, none, none],
  [ze136, ze43, ze1039, none, none, ze1040, ze0, ze1003, none, none, ze309, none, ze185, ze198, ze203, ze267],
  [none, none, ze145, ze1038, none, none, ze244, ze82, ze1039, none, none, ze1041, ze105, ze105, ze191, ze359],
  [ze359, ze191, ze187, ze1042, none, none, ze200, none, ze0, ze1003, none, none, ze39, none, ze184, ze185],
  [ze198, ze187, ze106, ze0, ze1003, none, none, ze195, none, ze184, ze185, ze198, ze187, ze106, ze105, ze1043],
  [none, none, ze0, ze1003, none, none, ze52, ze185, ze203, ze1044, none, none, ze359, ze1043, none, none],
  [ze0, ze1003, none, none, ze52, ze185, ze203, ze1045, none, none, ze0, ze1003, none, none, ze552, none],
  [ze184, ze185, ze198, ze187, ze106, ze1046, none, none, ze1047, ze105, ze359, ze201, none, ze1048, none, none],
  [ze136, ze1049, none, none, ze0, ze1050, none, none, ze0, ze1051, none, none, ze11]]
noncomputable def pm208 : xM := (⟨"WorkMeterModel", "meters", "()V"⟩, prog_14_method_70_code, 7, none, x_at pt208)
-- 209: WorkMeterModel.together(I)J
noncomputable def pt209 : List (List (Option xI)) := [
  [ze145, ze188, ze43, ze102, none, ze1052, none, ze0, ze1032, none, none, ze1053, none, none, ze190, ze74],
  [ze1054, none, none, ze0, ze104, none, ze1055, none, none, ze1056, none, none, ze1057, ze82, ze529, none],
  [none, ze0, ze104, none, ze1058, none, none, ze460, none, none, ze1057, ze178, ze959, none, none, ze0],
  [ze1024, none, ze104, none, ze1059, none, none, ze1060, none, none, ze670, ze1061, none, none, ze104, none],
  [ze1059, none, none, ze1062, ze188, ze179, none, none, ze1063, none, none, ze207, ze194]]
noncomputable def pm209 : xM := (⟨"WorkMeterModel", "together", "(I)J"⟩, prog_14_method_14_code, 5, (some .long), x_at pt209)
-- 210: WorkMeterModel.active(I)J
noncomputable def pt210 : List (List (Option xI)) := [
  [ze145, ze188, ze43, ze102, none, ze1052, none, ze0, ze1064, none, none, ze1065, none, none, ze190, ze0],
  [ze1003, none, none, ze1024, none, ze74, ze104, none, ze1033, none, none, ze185, ze0, ze1003, none, none],
  [ze1061, none, none, ze74, ze104, none, ze1033, none, none, ze185, ze191, ze187, ze188, ze179, none, none],
  [ze590, none, none, ze207, ze194]]
noncomputable def pm210 : xM := (⟨"WorkMeterModel", "active", "(I)J"⟩, prog_14_method_11_code, 5, (some .long), x_at pt210)
-- 211: WorkMeterModel.n()I
noncomputable def pt211 : List (List (Option xI)) := [
  [ze0, ze1003, none, none, ze178, ze185, ze374, ze127]]
noncomputable def pm211 : xM := (⟨"WorkMeterModel", "n", "()I"⟩, prog_14_method_6_code, 1, (some .int), x_at pt211)
-- 212: WorkMeterModel.reactive(I)J
noncomputable def pt212 : List (List (Option xI)) := [
  [ze145, ze188, ze43, ze102, none, ze1052, none, ze0, ze1064, none, none, ze1066, none, none, ze190, ze0],
  [ze1003, none, none, ze1024, none, ze74, ze104, none, ze1033, none, none, ze185, ze0, ze1003, none, none],
  [ze1061, none, none, ze74, ze104, none, ze0, ze1064, none, none, ze52, ze168, ze134, ze0, ze1064, none],
  [none, ze142, ze1033, none, none, ze185, ze191, ze187, ze188, ze179, none, none, ze957, none, none, ze207],
  [ze194]]
noncomputable def pm212 : xM := (⟨"WorkMeterModel", "reactive", "(I)J"⟩, prog_14_method_12_code, 5, (some .long), x_at pt212)
-- 213: WorkMeterModel.squares(II)J
noncomputable def pt213 : List (List (Option xI)) := [
  [ze145, ze353, ze43, ze174, none, ze511, none, ze0, ze1064, none, none, ze1067, none, none, ze359, ze0],
  [ze1003, none, none, ze74, ze73, ze175, none, ze1033, none, none, ze185, ze0, ze1003, none, none, ze74],
  [ze73, ze175, none, ze1033, none, none, ze185, ze191, ze187, ze353, ze514, none, none, ze1068, none, none],
  [ze516, ze194]]
noncomputable def pm213 : xM := (⟨"WorkMeterModel", "squares", "(II)J"⟩, prog_14_method_13_code, 6, (some .long), x_at pt213)
-- 214: WorkMeterModel.root(J)J
noncomputable def pt214 : List (List (Option xI)) := [
  [ze145, ze188, ze1069, none, none, ze189, none, ze1070, ze192, none, ze203, ze1071, none, none, ze190, ze192],
  [none, ze187, ze198, ze187, ze1072, none, none, ze366, ze367, none, ze371, none, ze371, none, ze191, ze202],
  [ze203, ze1073, none, none, ze371, none, ze188, ze873, none, none, ze1074, none, ze198, ze365, ze189, none],
  [ze1075, none, none, ze207, ze194]]
noncomputable def pm214 : xM := (⟨"WorkMeterModel", "root", "(J)J"⟩, prog_14_method_15_code, 8, (some .long), x_at pt214)
-- 215: WorkMeterModel.size(J)J
noncomputable def pt215 : List (List (Option xI)) := [
  [ze202, ze145, ze203, ze1076, none, none, ze202, ze1077, ze263, none, none, ze1078, ze790]]
noncomputable def pm215 : xM := (⟨"WorkMeterModel", "size", "(J)J"⟩, prog_14_method_17_code, 2, (some .long), x_at pt215)
-- 216: WorkMeterModel.registers(JJJ)V
noncomputable def pt216 : List (List (Option xI)) := [
  [ze0, ze0, ze1003, none, none, ze43, ze185, ze374, ze1079, none, none, ze278, none, ze0, ze1003, none],
  [none, ze541, none, ze281, none, ze134, ze185, ze0, ze1003, none, none, ze110, ze185, ze366, ze282, none],
  [ze105, ze145, ze203, ze1080, none, none, ze0, ze43, ze281, none, ze105, ze1081, none, none, ze1082, ze145],
  [ze203, ze1083, none, none, ze0, ze82, ze281, none, ze105, ze1077, ze1081, none, none, ze1084, ze82, ze105],
  [ze359, ze1085, none, none, ze134, ze281, none, ze359, ze1043, none, none, ze1081, none, none, ze0, ze271],
  [none, ze281, none, ze201, none, ze1081, none, none, ze0, ze1003, none, none, ze463, none, ze184, ze185],
  [ze0, ze1003, none, none, ze541, none, ze281, none, ze134, ze185, ze0, ze1003, none, none, ze110, ze185],
  [ze366, ze284, none, ze365, ze0, ze1003, none, none, ze54, none, ze281, none, ze134, ze185, ze191, ze365],
  [ze106, ze0, ze1003, none, none, ze423, none, ze184, ze185, ze105, ze145, ze203, ze299, none, none, ze105],
  [ze263, none, none, ze1086, ze1087, ze106, ze0, ze1003, none, none, ze666, none, ze184, ze185, ze105, ze145],
  [ze203, ze1076, none, none, ze105, ze1077, ze263, none, none, ze1088, ze1089, ze106, ze0, ze1003, none, none],
  [ze403, none, ze184, ze185, ze201, none, ze187, ze106, ze11]]
noncomputable def pm216 : xM := (⟨"WorkMeterModel", "registers", "(JJJ)V"⟩, prog_14_method_63_code, 10, none, x_at pt216)
-- 217: WorkMeterModel.tariff(I)I
noncomputable def pt217 : List (List (Option xI)) := [
  [ze0, ze74, ze1090, none, ze168, ze1091, none, none, ze67, ze43, ze69, ze43, ze102, none, ze172, none],
  [ze186, ze0, ze1003, none, none, ze1092, none, none, ze73, ze134, ze185, ze203, ze1093, none, none, ze0],
  [ze1003, none, none, ze1094, none, none, ze271, none, ze73, ze165, ze134, ze104, none, ze134, ze185, ze74],
  [ze1090, none, ze142, ze186, ze203, ze1095, none, none, ze0, ze1003, none, none, ze1096, none, none, ze271],
  [none, ze73, ze165, ze134, ze104, none, ze134, ze185, ze374, ze69, ze259, none, none, ze928, none, none],
  [ze655, ze127]]
noncomputable def pm217 : xM := (⟨"WorkMeterModel", "tariff", "(I)I"⟩, prog_14_method_23_code, 5, (some .int), x_at pt217)
-- 218: WorkMeterModel.tableAt(I)I
noncomputable def pt218 : List (List (Option xI)) := [
  [ze74, ze240, none, none, ze142, ze67, ze0, ze1003, none, none, ze1017, none, none, ze73, ze134, ze185],
  [ze1013, none, none, ze203, ze436, none, none, ze0, ze1003, none, none, ze1017, none, none, ze73, ze134],
  [ze185, ze374, ze127, ze128, ze1003, none, none, ze1097, none, none, ze246, none, ze0, ze73, ze1098, none],
  [none, ze165, ze134, ze74, ze246, none, ze142, ze134, ze185, ze374, ze127]]
noncomputable def pm218 : xM := (⟨"WorkMeterModel", "tableAt", "(I)I"⟩, prog_14_method_22_code, 3, (some .int), x_at pt218)
-- 219: WorkMeterModel.seasonOf(I)I
noncomputable def pt219 : List (List (Option xI)) := [
  [ze63, ze67, ze43, ze69, ze43, ze102, none, ze172, none, ze52, ze1099, none, none, ze0, ze1003, none],
  [none, ze1016, none, none, ze104, none, ze134, ze185, ze200, none, ze201, none, ze1013, none, none, ze203],
  [ze1100, none, none, ze1101, none, none, ze1102, none, ze74, ze186, ze203, ze1103, none, none, ze73, ze63],
  [ze256, none, none, ze201, none, ze0, ze1003, none, none, ze1016, none, none, ze73, ze134, ze185, ze203],
  [ze1104, none, none, ze1105, none, ze67, ze1102, none, ze0, ze1003, none, none, ze1016, none, none, ze71],
  [ze134, ze185, ze203, ze1104, none, none, ze104, none, ze69, ze259, none, none, ze1106, none, none, ze261],
  [ze63, ze262, none, none, ze71, ze263, none, none, ze264, ze265]]
noncomputable def pm219 : xM := (⟨"WorkMeterModel", "seasonOf", "(I)I"⟩, prog_14_method_21_code, 7, (some .int), x_at pt219)
-- 220: WorkMeterModel.counts(IIJ)V
noncomputable def pt220 : List (List (Option xI)) := [
  [ze0, ze1003, none, none, ze541, none, ze110, ze74, ze165, ze134, ze73, ze134, ze184, ze185, ze359, ze187],
  [ze106, ze0, ze1003, none, none, ze541, none, ze110, ze74, ze165, ze134, ze52, ze134, ze184, ze185, ze359],
  [ze187, ze106, ze11]]
noncomputable def pm220 : xM := (⟨"WorkMeterModel", "counts", "(IIJ)V"⟩, prog_14_method_62_code, 5, none, x_at pt220)
-- 221: WorkMeterModel.quadrant(JJ)I
noncomputable def pt221 : List (List (Option xI)) := [
  [ze202, ze145, ze203, ze1107, none, none, ze190, ze145, ze203, ze405, none, none, ze82, ze1108, none, none],
  [ze406, ze1109, none, none, ze207, ze145, ze203, ze405, none, none, ze178, ze263, none, none, ze407, ze265]]
noncomputable def pm221 : xM := (⟨"WorkMeterModel", "quadrant", "(JJ)I"⟩, prog_14_method_16_code, 4, (some .int), x_at pt221)
-- 222: WorkMeterModel.switches()V
noncomputable def pt222 : List (List (Option xI)) := [
  [ze0, ze1003, none, none, ze1110, none, ze185, ze198, ze203, ze813, none, none, ze0, ze1003, none, none],
  [ze463, none, ze185, ze145, ze203, ze418, none, none, ze82, ze263, none, none, ze419, ze420, ze0, ze1003],
  [none, none, ze309, none, ze185, ze74, ze186, ze203, ze494, none, none, ze11, ze244, ze1003, none, none],
  [ze309, none, ze74, ze186, ze106, ze0, ze74, ze82, ze1111, none, none, ze423, none, ze331, none, none],
  [ze424, none, ze888, ze1112, none, none, ze11]]
noncomputable def pm222 : xM := (⟨"WorkMeterModel", "switches", "()V"⟩, prog_14_method_82_code, 2, none, x_at pt222)
-- 223: WorkMeterModel.logs(IJ)V
noncomputable def pt223 : List (List (Option xI)) := [
  [ze0, ze1003, none, none, ze56, none, ze185, ze1011, none, none, ze203, ze1113, none, none, ze138, ze102],
  [none, ze1052, none, ze114, none, ze931, none, none, ze0, ze1003, none, none, ze1114, none, none, ze104],
  [none, ze134, ze138, ze212, ze0, ze1003, none, none, ze1114, none, none, ze104, none, ze134, ze185, ze106],
  [ze179, none, none, ze1115, none, none, ze1116, none, none, ze138, ze0, ze1003, none, none, ze56, none],
  [ze185, ze1011, none, none, ze203, ze1117, none, none, ze0, ze1003, none, none, ze56, none, ze185, ze788],
  [none, none, ze1118, none, none, ze1119, ze165, ze134, ze102, none, ze0, ze1003, none, none, ze104, none],
  [ze0, ze1003, none, none, ze43, ze185, ze106, ze0, ze1003, none, none, ze104, none, ze82, ze134, ze74],
  [ze186, ze106, ze0, ze1003, none, none, ze104, none, ze178, ze134, ze190, ze106, ze0, ze1003, none, none],
  [ze56, none, ze184, ze185, ze198, ze187, ze106, ze11]]
noncomputable def pm223 : xM := (⟨"WorkMeterModel", "logs", "(IJ)V"⟩, prog_14_method_4_code, 5, none, x_at pt223)
-- 224: WorkMeterModel.marks()V
noncomputable def pt224 : List (List (Option xI)) := [
  [ze178, ze169, ze635, ze110, ze1120, none, none, ze74, ze178, ze1121, none, none, ze0, ze1122, none, none],
  [ze440, none, none, ze635, ze138, ze1121, none, none, ze0, ze1123, none, none, ze1124, none, none, ze244],
  [ze1125, none, none, ze1126, ze0, ze1003, none, none, ze1127, none, ze74, ze134, ze73, ze705, none, none],
  [ze0, ze1003, none, none, ze1127, none, ze74, ze134, ze185, ze198, ze187, ze263, none, none, ze1128, ze1129],
  [ze0, ze1003, none, none, ze1127, none, ze74, ze134, ze185, ze0, ze1003, none, none, ze246, none, ze185],
  [ze203, ze299, none, none, ze82, ze263, none, none, ze502, ze779, ze71, ze728, none, none, ze0, ze1003],
  [none, none, ze428, none, ze74, ze134, ze185, ze145, ze203, ze288, none, none, ze0, ze74, ze1130, none],
  [none, ze170, ze308, none, none, ze0, ze1003, none, none, ze428, none, ze74, ze134, ze185, ze198, ze203],
  [ze288, none, none, ze0, ze74, ze1131, none, none, ze1132, none, none, ze1133, none, none, ze419, ze169],
  [ze635, ze110, ze487, none, none, ze0, ze1003, none, none, ze991, none, ze74, ze134, ze184, ze185, ze0],
  [ze1003, none, none, ze428, none, ze74, ze134, ze185, ze187, ze106, ze620, none, none, ze206, none, none],
  [ze77]]
noncomputable def pm224 : xM := (⟨"WorkMeterModel", "marks", "()V"⟩, prog_14_method_67_code, 4, none, x_at pt224)
-- 225: WorkMeterModel.isMissing()Z
noncomputable def pt225 : List (List (Option xI)) := [
  [ze43, ze169, ze43, ze67, ze43, ze69, ze208, ze0, ze1032, none, none, ze1134, none, none, ze0, ze1024],
  [none, ze71, ze1059, none, none, ze0, ze1003, none, none, ze178, ze185, ze0, ze1003, none, none, ze271],
  [none, ze185, ze191, ze203, ze285, none, none, ze82, ze263, none, none, ze1135, ze1136, none, ze74, ze288],
  [none, none, ze104, none, ze290, none, none, ze1137, ze263, none, none, ze1138, ze1139, ze73, ze288, none],
  [none, ze104, none, ze267, none, none, ze1140, ze263, none, none, ze1141, ze1142, ze107, none, none, ze1143],
  [none, none, ze539, ze157, none, none, ze73, ze290, none, none, ze82, ze263, none, none, ze143, ze265]]
noncomputable def pm225 : xM := (⟨"WorkMeterModel", "isMissing", "()Z"⟩, prog_14_method_64_code, 5, (some .boolean), x_at pt225)
-- 226: WorkMeterModel.isReversed()Z
noncomputable def pt226 : List (List (Option xI)) := [
  [ze43, ze169, ze43, ze67, ze43, ze69, ze208, ze0, ze1032, none, none, ze914, none, none, ze74, ze1144],
  [none, none, ze0, ze71, ze1055, none, none, ze145, ze203, ze285, none, none, ze1145, ze263, none, none],
  [ze1146, ze1147, ze73, ze1144, none, none, ze0, ze71, ze1055, none, none, ze145, ze203, ze299, none, none],
  [ze1140, ze263, none, none, ze1141, ze1142, ze107, none, none, ze621, none, none, ze539, ze157, none, none],
  [ze73, ze290, none, none, ze82, ze263, none, none, ze143, ze265]]
noncomputable def pm226 : xM := (⟨"WorkMeterModel", "isReversed", "()Z"⟩, prog_14_method_65_code, 4, (some .boolean), x_at pt226)
-- 227: WorkMeterModel.isStrange()Z
noncomputable def pt227 : List (List (Option xI)) := [
  [ze43, ze169, ze635, ze0, ze1032, none, none, ze791, none, none, ze0, ze1061, none, none, ze74, ze1059],
  [none, none, ze145, ze203, ze210, none, none, ze0, ze1024, none, ze74, ze1059, none, none, ze145, ze203],
  [ze342, none, none, ze82, ze127, ze1132, none, none, ze1148, none, none, ze143, ze127]]
noncomputable def pm227 : xM := (⟨"WorkMeterModel", "isStrange", "()Z"⟩, prog_14_method_66_code, 2, (some .boolean), x_at pt227)
-- 228: WorkMeterModel.turnsOn(I)V
noncomputable def pt228 : List (List (Option xI)) := [
  [ze0, ze1003, none, none, ze428, none, ze74, ze134, ze198, ze106, ze0, ze1003, none, none, ze1149, none],
  [ze74, ze134, ze184, ze185, ze198, ze187, ze106, ze0, ze74, ze145, ze1112, none, none, ze11]]
noncomputable def pm228 : xM := (⟨"WorkMeterModel", "turnsOn", "(I)V"⟩, prog_14_method_68_code, 2, none, x_at pt228)
-- 229: WorkMeterModel.turnsOff(I)V
noncomputable def pt229 : List (List (Option xI)) := [
  [ze0, ze1003, none, none, ze428, none, ze74, ze134, ze145, ze106, ze0, ze463, none, ze74, ze134, ze145],
  [ze1112, none, none, ze11]]
noncomputable def pm229 : xM := (⟨"WorkMeterModel", "turnsOff", "(I)V"⟩, prog_14_method_69_code, 2, none, x_at pt229)
-- 230: WorkMeterModel.goes()V
noncomputable def pt230 : List (List (Option xI)) := [
  [ze0, ze1003, none, none, ze1150, none, ze184, ze185, ze0, ze1151, none, none, ze1152, ze106, ze0, ze1003],
  [none, none, ze43, ze185, ze1153, none, none, ze203, ze494, none, none, ze11, ze136, ze1003, none, none],
  [ze43, ze184, ze185, ze198, ze187, ze106, ze0, ze1003, none, none, ze43, ze185, ze0, ze1003, none, none],
  [ze47, none, ze185, ze877, ze145, ze203, ze288, none, none, ze0, ze145, ze1154, none, none, ze77]]
noncomputable def pm230 : xM := (⟨"WorkMeterModel", "goes", "()V"⟩, prog_14_method_71_code, 1, none, x_at pt230)
-- 231: WorkMeterModel.marksOn()J
noncomputable def pt231 : List (List (Option xI)) := [
  [ze145, ze905, ze43, ze69, ze678, ze110, ze1155, none, none, ze105, ze0, ze1003, none, none, ze428, none],
  [ze71, ze134, ze185, ze71, ze199, ze1152, ze905, ze107, none, none, ze1156, none, none, ze909, ze194]]
noncomputable def pm231 : xM := (⟨"WorkMeterModel", "marksOn", "()J"⟩, prog_14_method_101_code, 4, (some .long), x_at pt231)
-- 232: WorkMeterModel.ends(J)V
noncomputable def pt232 : List (List (Option xI)) := [
  [ze0, ze1003, none, none, ze195, none, ze185, ze0, ze1003, none, none, ze1157, none, ze185, ze187, ze145],
  [ze203, ze288, none, none, ze0, ze1158, none, none, ze11, ze244, ze1003, none, none, ze1150, none, ze185],
  [ze0, ze1003, none, none, ze1157, none, ze185, ze145, ze203, ze482, none, none, ze483, none, ze263, none],
  [none, ze1159, ze1160, ze1152, ze105, ze1152, ze0, ze1003, none, none, ze739, none, ze185, ze198, ze203, ze728],
  [none, none, ze0, ze1003, none, none, ze43, ze185, ze0, ze1003, none, none, ze47, none, ze185, ze877],
  [ze145, ze203, ze1023, none, none, ze1161, none, none, ze263, none, none, ze1159, ze1160, ze1152, ze353, ze0],
  [ze1003, none, none, ze1162, none, ze185, ze1163, none, none, ze203, ze1164, none, none, ze43, ze174, none],
  [ze525, none, ze52, ze748, none, none, ze0, ze1003, none, none, ze1165, none, none, ze175, none, ze134],
  [ze184, ze185, ze0, ze43, ze82, ze175, none, ze134, ze1166, none, none, ze187, ze106, ze514, none, none],
  [ze933, none, none, ze1167, none, ze174, none, ze525, none, ze89, none, none, ze1168, none, none, ze0],
  [ze1003, none, none, ze1169, none, none, ze175, none, ze134, ze271, none, ze212, ze0, ze1003, none, none],
  [ze1169, none, none, ze175, none, ze134, ze185, ze106, ze514, none, none, ze1170, none, none, ze1171, none],
  [none, ze271, none, ze0, ze1172, none, none, ze486, none, ze1173, none, none, ze0, ze1172, none, none],
  [ze331, none, none, ze1174, none, ze1175, ze134, ze174, none, ze0, ze1003, none, none, ze1162, none, ze184],
  [ze185, ze198, ze187, ze106, ze0, ze1003, none, none, ze175, none, ze0, ze1003, none, none, ze43, ze185],
  [ze106, ze0, ze1003, none, none, ze175, none, ze82, ze134, ze0, ze1003, none, none, ze423, none, ze185],
  [ze106, ze0, ze1003, none, none, ze175, none, ze178, ze134, ze0, ze1003, none, none, ze666, none, ze185],
  [ze106, ze0, ze1003, none, none, ze175, none, ze138, ze134, ze0, ze1003, none, none, ze403, none, ze185],
  [ze106, ze0, ze1003, none, none, ze175, none, ze52, ze134, ze0, ze1003, none, none, ze195, none, ze185],
  [ze106, ze0, ze1003, none, none, ze175, none, ze110, ze134, ze359, ze106, ze0, ze1158, none, none, ze105],
  [ze145, ze203, ze267, none, none, ze0, ze1176, none, none, ze77]]
noncomputable def pm232 : xM := (⟨"WorkMeterModel", "ends", "(J)V"⟩, prog_14_method_75_code, 6, none, x_at pt232)
-- 233: WorkMeterModel.beginsBlock()V
noncomputable def pt233 : List (List (Option xI)) := [
  [ze423, none, ze169, ze635, ze1150, none, ze787, none, none, ze0, ze1003, none, none, ze74, ze145, ze106],
  [ze620, none, none, ze1177, none, none, ze136, ze1003, none, none, ze739, none, ze0, ze1003, none, none],
  [ze43, ze185, ze0, ze1003, none, none, ze47, none, ze185, ze877, ze145, ze203, ze267, none, none, ze145],
  [ze263, none, none, ze880, ze1178, ze11]]
noncomputable def pm233 : xM := (⟨"WorkMeterModel", "beginsBlock", "()V"⟩, prog_14_method_72_code, 2, none, x_at pt233)
-- 234: WorkMeterModel.line(II)J
noncomputable def pt234 : List (List (Option xI)) := [
  [ze0, ze1003, none, none, ze1169, none, none, ze271, none, ze74, ze165, ze134, ze73, ze134, ze185, ze194]]
noncomputable def pm234 : xM := (⟨"WorkMeterModel", "line", "(II)J"⟩, prog_14_method_73_code, 3, (some .long), x_at pt234)
-- 235: WorkMeterModel.lines()I
noncomputable def pt235 : List (List (Option xI)) := [
  [ze0, ze1003, none, none, ze1162, none, ze185, ze1163, none, none, ze203, ze1117, none, none, ze0, ze1003],
  [none, none, ze1162, none, ze185, ze788, none, none, ze1179, none, none, ze1180, ze127]]
noncomputable def pm235 : xM := (⟨"WorkMeterModel", "lines", "()I"⟩, prog_14_method_74_code, 1, (some .int), x_at pt235)
-- 236: WorkMeterModel.demands()V
noncomputable def pt236 : List (List (Option xI)) := [
  [ze0, ze1172, none, none, ze169, ze74, ze186, ze0, ze1003, none, none, ze1009, none, ze185, ze203, ze1181],
  [none, none, ze11, ze524, ze188, ze43, ze102, none, ze1052, none, ze186, ze0, ze1003, none, none, ze1009],
  [none, ze185, ze203, ze1182, none, none, ze74, ze82, ze212, ze104, none, ze212, ze174, none, ze0, ze175],
  [none, ze110, ze1166, none, none, ze1183, none, none, ze505, ze145, ze203, ze468, none, none, ze104, none],
  [ze1184, none, none, ze0, ze175, none, ze82, ze134, ze43, ze1166, none, none, ze0, ze1003, none, none],
  [ze47, none, ze185, ze365, ze0, ze175, none, ze43, ze1166, none, none, ze203, ze386, none, none, ze77],
  [ze1185, ze0, ze175, none, ze82, ze1166, none, none, ze187, ze188, ze179, none, none, ze1106, none, none],
  [ze730, ze1003, none, none, ze1012, none, ze190, ze106, ze0, ze1003, none, none, ze554, none, ze0, ze1003],
  [none, none, ze43, ze185, ze106, ze0, ze0, ze1003, none, none, ze43, ze185, ze374, ze82, ze212, ze1079],
  [none, none, ze102, none, ze190, ze0, ze1003, none, none, ze483, none, ze104, none, ze134, ze185, ze203],
  [ze1186, none, none, ze11, ze235, ze1003, none, none, ze483, none, ze104, none, ze134, ze190, ze106, ze0],
  [ze1003, none, none, ze1014, none, ze104, none, ze134, ze0, ze1003, none, none, ze43, ze185, ze106, ze11]]
noncomputable def pm236 : xM := (⟨"WorkMeterModel", "demands", "()V"⟩, prog_14_method_76_code, 6, none, x_at pt236)
-- 237: WorkMeterModel.period(II)J
noncomputable def pt237 : List (List (Option xI)) := [
  [ze74, ze63, ze1187, none, none, ze74, ze186, ze145, ze0, ze1032, none, none, ze82, ze212, ze186, ze1020],
  [none, none, ze267, none, none, ze1188, none, none, ze194, ze531, ze63, ze262, none, none, ze82, ze263],
  [none, none, ze502, ze779, ze71, ze157, none, none, ze0, ze43, ze1039, none, none, ze1038, none, none],
  [ze323, ze74, ze1055, none, none, ze1189, none, ze71, ze157, none, none, ze0, ze82, ze1039, none, none],
  [ze1038, none, none, ze254, ze74, ze1058, none, none, ze1190, none, ze192, none, ze192, none, ze191, ze371],
  [none, ze371, none, ze191, ze187, ze1042, none, none, ze282, none, ze73, ze1191, none, none, none, none],
  [none, none, none, none, none, none, none, none, none, none, none, none, none, none, none, none],
  [none, none, none, none, none, none, none, none, none, none, none, none, none, none, none, none],
  [none, none, none, none, none, none, none, none, none, none, none, none, ze879, none, ze194, ze919],
  [none, ze194, ze678, ze157, none, none, ze0, ze178, ze1039, none, none, ze376, none, none, ze244, ze1024],
  [none, ze74, ze1059, none, none, ze790, ze678, ze157, none, none, ze0, ze138, ze1039, none, none, ze1046],
  [none, none, ze244, ze1061, none, none, ze74, ze1059, none, none, ze790, ze1192, none, ze194, ze1193, none],
  [ze371, none, ze1085, none, none, ze186, ze194, ze678, ze476, none, none, ze0, ze1024, none, ze1194, none],
  [none, ze440, none, none, ze244, ze1024, none, ze74, ze1059, none, none, ze0, ze1064, none, none, ze186],
  [ze366, ze1042, none, none, ze790, ze678, ze132, none, none, ze0, ze1061, none, none, ze1194, none, none],
  [ze1195, none, none, ze244, ze1061, none, none, ze74, ze1059, none, none, ze0, ze1064, none, none, ze186],
  [ze366, ze1042, none, none, ze790, ze1196, none, ze284, none, ze1197, none, none, ze194, ze1198, none, none],
  [ze194]]
noncomputable def pm237 : xM := (⟨"WorkMeterModel", "period", "(II)J"⟩, prog_14_method_20_code, 10, (some .long), x_at pt237)
-- 238: WorkMeterModel.greatestRoot(I)J
noncomputable def pt238 : List (List (Option xI)) := [
  [ze145, ze188, ze43, ze102, none, ze1052, none, ze0, ze1032, none, none, ze679, none, none, ze0, ze74],
  [ze104, none, ze1059, none, none, ze0, ze1064, none, none, ze186, ze366, ze1042, none, none, ze200, none],
  [ze201, none, ze190, ze203, ze482, none, none, ze201, none, ze263, none, none, ze1199, ze1200, ze179, none],
  [none, ze1201, none, none, ze207, ze194]]
noncomputable def pm238 : xM := (⟨"WorkMeterModel", "greatestRoot", "(I)J"⟩, prog_14_method_19_code, 7, (some .long), x_at pt238)
-- 239: WorkMeterModel.thousandths(JJ)J
noncomputable def pt239 : List (List (Option xI)) := [
  [ze190, ze145, ze203, ze267, none, none, ze145, ze460, none, none, ze1202, ze145, ze203, ze1203, none, none],
  [ze1005, none, none, ze202, ze1077, ze191, ze190, ze366, ze1077, ze376, none, none, ze1204, none, none, ze202],
  [ze191, ze190, ze366, ze790]]
noncomputable def pm239 : xM := (⟨"WorkMeterModel", "thousandths", "(JJ)J"⟩, prog_14_method_18_code, 4, (some .long), x_at pt239)
-- 240: WorkMeterModel.table(III)I
noncomputable def pt240 : List (List (Option xI)) := [
  [ze0, ze1018, none, none, ze1205, none, none, ze74, ze1206, none, none, ze728, none, none, ze73, ze186],
  [ze145, ze1207, none, none, ze1020, none, none, ze341, none, none, ze71, ze1208, none, none, ze342, none],
  [none, ze155, ze127, ze323, ze74, ze73, ze71, ze1209, none, none, ze127]]
noncomputable def pm240 : xM := (⟨"WorkMeterModel", "table", "(III)I"⟩, prog_14_method_26_code, 4, (some .int), x_at pt240)
-- 241: WorkMeterModel.isTable(I)Z
noncomputable def pt241 : List (List (Option xI)) := [
  [ze547, ze186, ze145, ze1210, none, none, ze1020, none, none, ze127]]
noncomputable def pm241 : xM := (⟨"WorkMeterModel", "isTable", "(I)Z"⟩, prog_14_method_24_code, 1, (some .boolean), x_at pt241)
-- 242: WorkMeterModel.isTariff(I)Z
noncomputable def pt242 : List (List (Option xI)) := [
  [ze547, ze186, ze145, ze1007, none, none, ze1020, none, none, ze127]]
noncomputable def pm242 : xM := (⟨"WorkMeterModel", "isTariff", "(I)Z"⟩, prog_14_method_25_code, 1, (some .boolean), x_at pt242)
-- 243: WorkMeterModel.puts(III)I
noncomputable def pt243 : List (List (Option xI)) := [
  [ze271, none, ze74, ze165, ze102, none, ze0, ze1003, none, none, ze1092, none, none, ze74, ze134, ze185],
  [ze374, ze174, none, ze43, ze277, none, ze431, none, ze175, none, ze1211, none, none, ze0, ze1003, none],
  [none, ze1094, none, none, ze104, none, ze134, ze306, none, ze134, ze185, ze73, ze186, ze203, ze1212, none],
  [none, ze1213, none, none, ze490, none, none, ze431, none, ze175, none, ze1214, none, none, ze0, ze1003],
  [none, none, ze1094, none, none, ze104, none, ze134, ze306, none, ze134, ze185, ze73, ze186, ze203, ze267],
  [none, none, ze82, ze263, none, none, ze1215, ze1216, none, ze281, none, ze1054, none, none, ze175, none],
  [ze271, none, ze249, none, none, ze63, ze127, ze1217, none, ze400, none, ze1218, none, ze306, none, ze1219],
  [none, none, ze281, none, ze1220, none, none, ze0, ze1003, none, none, ze1094, none, none, ze104, none],
  [ze134, ze401, none, ze134, ze0, ze1003, none, none, ze1094, none, none, ze104, none, ze134, ze401, none],
  [ze134, ze82, ze212, ze185, ze106, ze0, ze1003, none, none, ze1096, none, none, ze104, none, ze134, ze401],
  [none, ze134, ze0, ze1003, none, none, ze1096, none, none, ze104, none, ze134, ze401, none, ze134, ze82],
  [ze212, ze185, ze106, ze1221, none, none, ze1222, none, none, ze1223, ze1003, none, none, ze1094, none, none],
  [ze104, none, ze134, ze306, none, ze134, ze73, ze186, ze106, ze0, ze1003, none, none, ze1096, none, none],
  [ze104, none, ze134, ze306, none, ze134, ze71, ze186, ze106, ze0, ze1003, none, none, ze1092, none, none],
  [ze74, ze134, ze184, ze185, ze281, none, ze290, none, none, ze145, ze263, none, none, ze1224, ze1225, ze106],
  [ze0, ze1003, none, none, ze1092, none, none, ze74, ze134, ze185, ze374, ze127]]
noncomputable def pm243 : xM := (⟨"WorkMeterModel", "puts", "(III)I"⟩, prog_14_method_27_code, 9, (some .int), x_at pt243)
-- 244: WorkMeterModel.wipe(I)I
noncomputable def pt244 : List (List (Option xI)) := [
  [ze0, ze1018, none, none, ze297, none, none, ze74, ze1206, none, none, ze342, none, none, ze155, ze127],
  [ze244, ze1003, none, none, ze1092, none, none, ze74, ze134, ze185, ze374, ze67, ze0, ze1003, none, none],
  [ze1092, none, none, ze74, ze134, ze145, ze106, ze73, ze127]]
noncomputable def pm244 : xM := (⟨"WorkMeterModel", "wipe", "(I)I"⟩, prog_14_method_28_code, 3, (some .int), x_at pt244)
-- 245: WorkMeterModel.season(II)Z
noncomputable def pt245 : List (List (Option xI)) := [
  [ze0, ze1018, none, none, ze615, none, none, ze74, ze1226, none, none, ze345, none, none, ze73, ze186],
  [ze74, ze267, none, none, ze145, ze788, none, none, ze1227, none, none, ze1228, none, none, ze1020, none],
  [none, ze342, none, none, ze143, ze127, ze128, ze1003, none, none, ze1016, none, none, ze74, ze134, ze73],
  [ze186, ze106, ze82, ze127]]
noncomputable def pm245 : xM := (⟨"WorkMeterModel", "season", "(II)Z"⟩, prog_14_method_30_code, 3, (some .boolean), x_at pt245)
-- 246: WorkMeterModel.isSeason(I)Z
noncomputable def pt246 : List (List (Option xI)) := [
  [ze547, ze186, ze145, ze1007, none, none, ze1020, none, none, ze127]]
noncomputable def pm246 : xM := (⟨"WorkMeterModel", "isSeason", "(I)Z"⟩, prog_14_method_29_code, 1, (some .boolean), x_at pt246)
-- 247: WorkMeterModel.week(III)Z
noncomputable def pt247 : List (List (Option xI)) := [
  [ze0, ze1018, none, none, ze1205, none, none, ze74, ze1226, none, none, ze728, none, none, ze73, ze186],
  [ze145, ze1229, none, none, ze1020, none, none, ze341, none, none, ze71, ze1206, none, none, ze342, none],
  [none, ze143, ze127, ze323, ze1003, none, none, ze1097, none, none, ze246, none, ze74, ze165, ze134, ze73],
  [ze134, ze71, ze186, ze106, ze82, ze127]]
noncomputable def pm247 : xM := (⟨"WorkMeterModel", "week", "(III)Z"⟩, prog_14_method_31_code, 4, (some .boolean), x_at pt247)
-- 248: WorkMeterModel.special(II)Z
noncomputable def pt248 : List (List (Option xI)) := [
  [ze0, ze1018, none, none, ze1230, none, none, ze74, ze186, ze145, ze1231, none, none, ze1020, none, none],
  [ze436, none, none, ze73, ze63, ze1232, none, none, ze73, ze1206, none, none, ze342, none, none, ze143],
  [ze127, ze128, ze1003, none, none, ze1017, none, none, ze74, ze134, ze185, ze1013, none, none, ze203, ze290],
  [none, none, ze82, ze263, none, none, ze502, ze779, ze73, ze63, ze1121, none, none, ze71, ze358, none],
  [none, ze268, none, none, ze208, ze698, none, none, ze0, ze1233, none, none, ze56, none, ze249, none],
  [none, ze143, ze127, ze128, ze1003, none, none, ze1017, none, none, ze74, ze134, ze73, ze186, ze106, ze82],
  [ze127]]
noncomputable def pm248 : xM := (⟨"WorkMeterModel", "special", "(II)Z"⟩, prog_14_method_33_code, 4, (some .boolean), x_at pt248)
-- 249: WorkMeterModel.specials()I
noncomputable def pt249 : List (List (Option xI)) := [
  [ze43, ze169, ze43, ze67, ze170, ze240, none, none, ze1168, none, none, ze74, ze0, ze1003, none, none],
  [ze1017, none, none, ze73, ze134, ze185, ze1013, none, none, ze203, ze267, none, none, ze43, ze263, none],
  [none, ze1234, ze1235, ze169, ze75, none, none, ze623, none, none, ze602, ze127]]
noncomputable def pm249 : xM := (⟨"WorkMeterModel", "specials", "()I"⟩, prog_14_method_32_code, 3, (some .int), x_at pt249)
-- 250: WorkMeterModel.tariffAt(I)I
noncomputable def pt250 : List (List (Option xI)) := [
  [ze74, ze186, ze145, ze1153, none, none, ze1020, none, none, ze157, none, none, ze0, ze74, ze1079, none],
  [none, ze263, none, none, ze155, ze265]]
noncomputable def pm250 : xM := (⟨"WorkMeterModel", "tariffAt", "(I)I"⟩, prog_14_method_34_code, 2, (some .int), x_at pt250)
-- 251: WorkMeterModel.tableOf(I)I
noncomputable def pt251 : List (List (Option xI)) := [
  [ze74, ze186, ze145, ze1236, none, none, ze1020, none, none, ze157, none, none, ze0, ze74, ze1091, none],
  [none, ze263, none, none, ze155, ze265]]
noncomputable def pm251 : xM := (⟨"WorkMeterModel", "tableOf", "(I)I"⟩, prog_14_method_35_code, 2, (some .int), x_at pt251)
-- 252: WorkMeterModel.switching(III)I
noncomputable def pt252 : List (List (Option xI)) := [
  [ze74, ze1206, none, none, ze342, none, none, ze63, ze127, ze70, ze63, ze652, none, none, ze0, ze1003],
  [none, none, ze1092, none, none, ze74, ze134, ze185, ze374, ze127, ze70, ze186, ze145, ze0, ze1003, none],
  [none, ze1092, none, none, ze74, ze134, ze185, ze198, ze365, ze1020, none, none, ze132, none, none, ze71],
  [ze186, ze145, ze198, ze1020, none, none, ze342, none, none, ze155, ze127, ze323, ze1003, none, none, ze71],
  [ze1237, none, none, ze1094, none, none, ze788, none, none, ze1238, none, none, ze1239, none, ze74, ze165],
  [ze134, ze73, ze134, ze185, ze374, ze127]]
noncomputable def pm252 : xM := (⟨"WorkMeterModel", "switching", "(III)I"⟩, prog_14_method_36_code, 4, (some .int), x_at pt252)
-- 253: WorkMeterModel.holds(II)I
noncomputable def pt253 : List (List (Option xI)) := [
  [ze74, ze186, ze145, ze1236, none, none, ze1020, none, none, ze341, none, none, ze73, ze1208, none, none],
  [ze342, none, none, ze155, ze127, ze128, ze74, ze1091, none, none, ze69, ze0, ze1003, none, none, ze1092],
  [none, none, ze71, ze134, ze185, ze374, ze102, none, ze43, ze174, none, ze43, ze277, none, ze43, ze278],
  [none, ze43, ze400, none, ze1240, none, ze104, none, ze1241, none, none, ze401, none, ze104, none, ze1155],
  [none, none, ze0, ze1003, none, none, ze1094, none, none, ze271, none, ze71, ze165, ze134, ze401, none],
  [ze134, ze185, ze374, ze331, none, none, ze1242, none, ze1243, none, ze175, none, ze306, none, ze73, ze1244],
  [none, none, ze917, none, ze281, none, ze212, ze263, none, none, ze1245, ze1246, ze174, none, ze917, none],
  [ze278, none, ze401, none, ze104, none, ze272, none, none, ze0, ze1003, none, none, ze1096, none, none],
  [ze271, none, ze71, ze165, ze134, ze401, none, ze134, ze185, ze374, ze277, none, ze1247, none, none, ze1248],
  [none, none, ze1249, none, ze127]]
noncomputable def pm253 : xM := (⟨"WorkMeterModel", "holds", "(II)I"⟩, prog_14_method_37_code, 10, (some .int), x_at pt253)
-- 254: WorkMeterModel.next(I)I
noncomputable def pt254 : List (List (Option xI)) := [
  [ze0, ze1250, none, none, ze67, ze73, ze63, ze262, none, none, ze63, ze1251, none, none, ze531, ze267],
  [none, none, ze73, ze857, none, none, ze531, ze82, ze1244, none, none, ze0, ze73, ze1079, none, none],
  [ze263, none, none, ze155, ze265]]
noncomputable def pm254 : xM := (⟨"WorkMeterModel", "next", "(I)I"⟩, prog_14_method_39_code, 3, (some .int), x_at pt254)
-- 255: WorkMeterModel.nextTime()I
noncomputable def pt255 : List (List (Option xI)) := [
  [ze0, ze1003, none, none, ze43, ze185, ze374, ze1090, none, ze168, ze169, ze74, ze67, ze170, ze74, ze552],
  [none, ze134, ze1252, none, none, ze73, ze186, ze1253, none, none, ze191, ze1153, none, none, ze203, ze530],
  [none, none, ze63, ze127, ze128, ze73, ze1091, none, none, ze69, ze63, ze102, none, ze172, none, ze186],
  [ze0, ze1003, none, none, ze1092, none, none, ze71, ze134, ze185, ze203, ze1254, none, none, ze73, ze186],
  [ze1253, none, none, ze191, ze104, none, ze285, none, none, ze145, ze440, none, none, ze254, ze1003, none],
  [none, ze1094, none, none, ze271, none, ze71, ze165, ze134, ze104, none, ze134, ze185, ze1255, ze200, none],
  [ze201, none, ze0, ze1003, none, none, ze43, ze185, ze203, ze1256, none, none, ze201, none, ze1153, none],
  [none, ze203, ze1257, none, none, ze0, ze201, none, ze374, ze1079, none, none, ze0, ze201, none, ze374],
  [ze82, ze212, ze1079, none, none, ze685, none, none, ze201, none, ze374, ze127, ze259, none, none, ze1258],
  [none, none, ze181, none, none, ze1259, none, none, ze155, ze127]]
noncomputable def pm255 : xM := (⟨"WorkMeterModel", "nextTime", "()I"⟩, prog_14_method_38_code, 7, (some .int), x_at pt255)
-- 256: WorkMeterModel.feed(IIIII)I
noncomputable def pt256 : List (List (Option xI)) := [
  [ze0, ze1260, none, none, ze554, none, ze134, ze116, none, none, ze154, none, none, ze63, ze127, ze569],
  [ze74, ze1261, none, none, ze0, ze73, ze1261, none, none, ze0, ze71, ze1261, none, none, ze0, ze104],
  [none, ze1261, none, none, ze0, ze175, none, ze1261, none, none, ze0, ze1260, none, none, ze127]]
noncomputable def pm256 : xM := (⟨"WorkMeterModel", "feed", "(IIIII)I"⟩, prog_14_method_41_code, 6, (some .int), x_at pt256)
-- 257: WorkMeterModel.comes(I)V
noncomputable def pt257 : List (List (Option xI)) := [
  [ze403, none, ze67, ze170, ze1262, none, none, ze0, ze1263, none, none, ze0, ze1260, none, none, ze74],
  [ze73, ze586, ze1264, ze1265, ze0, ze3, ze1260, none, none, ze82, ze134, ze1266, none, none, ze589, none],
  [none, ze490, none, none, ze77]]
noncomputable def pm257 : xM := (⟨"WorkMeterModel", "comes", "(I)V"⟩, prog_14_method_40_code, 3, none, x_at pt257)
-- 258: WorkMeterModel.end(I)Z
noncomputable def pt258 : List (List (Option xI)) := [
  [ze74, ze186, ze145, ze0, ze1260, none, none, ze186, ze1020, none, none, ze342, none, none, ze43, ze127],
  [ze244, ze74, ze1266, none, none, ze82, ze127]]
noncomputable def pm258 : xM := (⟨"WorkMeterModel", "end", "(I)Z"⟩, prog_14_method_42_code, 2, (some .boolean), x_at pt258)
-- 259: WorkMeterModel.fault(I)I
noncomputable def pt259 : List (List (Option xI)) := [
  [ze74, ze297, none, none, ze0, ze1267, none, none, ze268, none, none, ze635, ze82, ze1121, none, none],
  [ze0, ze1268, none, none, ze263, none, none, ze155, ze265]]
noncomputable def pm259 : xM := (⟨"WorkMeterModel", "fault", "(I)I"⟩, prog_14_method_43_code, 2, (some .int), x_at pt259)
-- 260: WorkMeterModel.calendar()I
noncomputable def pt260 : List (List (Option xI)) := [
  [ze0, ze43, ze1269, none, none, ze0, ze63, ze999, none, none, ze0, ze1018, none, none, ze341, none],
  [none, ze0, ze43, ze1266, none, none, ze63, ze127, ze136, ze1003, none, none, ze0, ze1270, none, none],
  [ze1271, none, none, ze0, ze43, ze1272, none, none, ze0, ze43, ze1273, none, none, ze0, ze1274, none],
  [none, ze43, ze169, ze0, ze1275, none, none, ze244, ze1276, none, none, ze0, ze1260, none, none, ze1277],
  [none, none, ze0, ze1278, none, none, ze725, none, none, ze0, ze1279, none, none, ze620, none, none],
  [ze0, ze1275, none, none, ze206, none, none, ze244, ze43, ze1266, none, none, ze0, ze1278, none, none],
  [ze342, none, none, ze74, ze127, ze136, ze1270, none, none, ze0, ze1003, none, none, ze1271, none, none],
  [ze63, ze127]]
noncomputable def pm260 : xM := (⟨"WorkMeterModel", "calendar", "()I"⟩, prog_14_method_58_code, 2, (some .int), x_at pt260)
-- 261: WorkMeterModel.copies([J[J)V
noncomputable def pt261 : List (List (Option xI)) := [
  [ze43, ze67, ze170, ze993, none, none, ze1280, none, none, ze492, ze73, ze0, ze73, ze185, ze106, ze75],
  [none, none, ze1177, none, none, ze77]]
noncomputable def pm261 : xM := (⟨"WorkMeterModel", "copies", "([J[J)V"⟩, prog_14_method_2_code, 3, none, x_at pt261)
-- 262: WorkMeterModel.clears()V
noncomputable def pt262 : List (List (Option xI)) := [
  [ze43, ze169, ze635, ze47, none, ze1214, none, none, ze0, ze1003, none, none, ze1092, none, none, ze74],
  [ze134, ze145, ze106, ze0, ze1281, none, none, ze74, ze43, ze1265, ze620, none, none, ze275, none, none],
  [ze419, ze169, ze635, ze52, ze1067, none, none, ze0, ze1003, none, none, ze1016, none, none, ze74, ze134],
  [ze74, ze267, none, none, ze145, ze788, none, none, ze1282, none, none, ze1283, ze0, ze1284, none, none],
  [ze74, ze43, ze1265, ze620, none, none, ze1170, none, none, ze419, ze169, ze635, ze54, none, ze906, none],
  [none, ze0, ze1003, none, none, ze1097, none, none, ze74, ze134, ze145, ze106, ze620, none, none, ze213],
  [none, none, ze419, ze169, ze635, ze240, none, none, ze272, none, none, ze0, ze1003, none, none, ze1017],
  [none, none, ze74, ze134, ze1013, none, none, ze106, ze620, none, none, ze250, none, none, ze136, ze43],
  [ze1285, none, none, ze0, ze43, ze1286, none, none, ze11]]
noncomputable def pm262 : xM := (⟨"WorkMeterModel", "clears", "()V"⟩, prog_14_method_52_code, 2, none, x_at pt262)
-- 263: WorkMeterModel.blanks()V
noncomputable def pt263 : List (List (Option xI)) := [
  [ze136, ze1276, none, none, ze0, ze1260, none, none, ze487, none, none, ze0, ze1263, none, none, ze0],
  [ze1276, none, none, ze1287, ze483, none, ze622, none, none, ze0, ze3, ze1276, none, none, ze82, ze134],
  [ze1273, none, none, ze623, none, none, ze77]]
noncomputable def pm263 : xM := (⟨"WorkMeterModel", "blanks", "()V"⟩, prog_14_method_45_code, 1, none, x_at pt263)
-- 264: WorkMeterModel.line()V
noncomputable def pt264 : List (List (Option xI)) := [
  [ze0, ze1276, none, none, ze169, ze0, ze1288, none, none, ze67, ze73, ze1237, none, none, ze0, ze82],
  [ze74, ze1289, none, none, ze170, ze138, ze955, none, none, ze0, ze1290, none, none, ze56, none, ze973],
  [none, none, ze0, ze52, ze74, ze1289, none, none, ze170, ze52, ze622, none, none, ze0, ze1291, none],
  [none, ze1023, none, none, ze0, ze138, ze74, ze1289, none, none, ze730, ze0, ze1292, none, none, ze1273],
  [none, none, ze0, ze1278, none, none, ze386, none, none, ze11, ze1293, ze82, ze262, none, none, ze0],
  [ze1294, none, none, ze1293, ze178, ze262, none, none, ze0, ze1295, none, none, ze1293, ze138, ze845, none],
  [none, ze0, ze3, ze1290, none, none, ze82, ze134, ze1285, none, none, ze0, ze1296, none, none, ze1293],
  [ze52, ze1297, none, none, ze0, ze82, ze1286, none, none, ze43, ze69, ze1025, ze52, ze1298, none, none],
  [ze0, ze1003, none, none, ze54, none, ze71, ze134, ze0, ze43, ze688, none, ze1299, none, none, ze186],
  [ze106, ze107, none, none, ze1300, none, none, ze136, ze618, none, ze1301, none, none, ze11]]
noncomputable def pm264 : xM := (⟨"WorkMeterModel", "line", "()V"⟩, prog_14_method_57_code, 4, none, x_at pt264)
-- 265: WorkMeterModel.word()I
noncomputable def pt265 : List (List (Option xI)) := [
  [ze0, ze110, ze1302, none, ze637, none, ze1303, none, ze1304, none, ze1305, none, ze43, ze43, ze1306, none],
  [none, ze126, none, none, ze82, ze127, ze136, ze271, none, ze1307, none, ze1305, none, ze637, none, ze1307],
  [none, ze1308, none, ze1309, none, ze43, ze1306, none, none, ze126, none, none, ze178, ze127, ze136, ze246],
  [none, ze1307, none, ze1310, none, ze1305, none, ze1311, none, ze823, none, ze637, none, ze1304, none, ze1306],
  [none, none, ze126, none, none, ze138, ze127, ze136, ze110, ze1310, none, ze1312, none, ze823, none, ze1311],
  [none, ze1305, none, ze43, ze43, ze1306, none, none, ze290, none, none, ze52, ze263, none, none, ze143],
  [ze265]]
noncomputable def pm265 : xM := (⟨"WorkMeterModel", "word", "()I"⟩, prog_14_method_51_code, 1, (some .int), x_at pt265)
-- 266: WorkMeterModel.spells(IIIIIIII)Z
noncomputable def pt266 : List (List (Option xI)) := [
  [ze0, ze1292, none, none, ze0, ze1276, none, none, ze74, ze134, ze1313, none, none, ze0, ze1263, none],
  [none, ze0, ze1276, none, none, ze1287, ze73, ze1314, none, none, ze0, ze1263, none, none, ze0, ze1276],
  [none, none, ze82, ze134, ze1287, ze71, ze1315, none, none, ze0, ze1263, none, none, ze0, ze1276, none],
  [none, ze178, ze134, ze1287, ze104, none, ze1316, none, none, ze0, ze1263, none, none, ze0, ze1276, none],
  [none, ze138, ze134, ze1287, ze175, none, ze708, none, none, ze0, ze1263, none, none, ze0, ze1276, none],
  [none, ze52, ze134, ze1287, ze306, none, ze643, none, none, ze143, ze127, ze1317, ze271, none, ze1318, none],
  [none, ze0, ze1263, none, none, ze0, ze1276, none, none, ze110, ze134, ze1287, ze281, none, ze1319, none],
  [none, ze1320, ze246, none, ze638, none, none, ze0, ze1263, none, none, ze0, ze1276, none, none, ze271],
  [none, ze134, ze1287, ze401, none, ze262, none, none, ze509, ze263, none, none, ze143, ze265]]
noncomputable def pm266 : xM := (⟨"WorkMeterModel", "spells", "(IIIIIIII)Z"⟩, prog_14_method_50_code, 9, (some .boolean), x_at pt266)
-- 267: WorkMeterModel.wordEnd()I
noncomputable def pt267 : List (List (Option xI)) := [
  [ze0, ze1276, none, none, ze169, ze635, ze0, ze1260, none, none, ze932, none, none, ze0, ze1263, none],
  [none, ze74, ze1287, ze186, ze1321, none, none, ze1322, none, none, ze1020, none, none, ze1023, none, none],
  [ze620, none, none, ze490, none, none, ze602, ze127]]
noncomputable def pm267 : xM := (⟨"WorkMeterModel", "wordEnd", "()I"⟩, prog_14_method_49_code, 2, (some .int), x_at pt267)
-- 268: WorkMeterModel.wrong(II)V
noncomputable def pt268 : List (List (Option xI)) := [
  [ze0, ze1278, none, none, ze386, none, none, ze11, ze128, ze82, ze1272, none, none, ze0, ze74, ze1269],
  [none, none, ze0, ze73, ze999, none, none, ze11]]
noncomputable def pm268 : xM := (⟨"WorkMeterModel", "wrong", "(II)V"⟩, prog_14_method_44_code, 3, none, x_at pt268)
-- 269: WorkMeterModel.tableLine()V
noncomputable def pt269 : List (List (Option xI)) := [
  [ze0, ze43, ze246, none, ze1299, none, none, ze169, ze0, ze1278, none, none, ze358, none, none, ze0],
  [ze1281, none, none, ze74, ze1287, ze476, none, none, ze0, ze138, ze0, ze1323, none, none, ze1289, none],
  [none, ze244, ze1281, none, none, ze74, ze82, ze1265, ze244, ze1278, none, none, ze1324, none, none, ze0],
  [ze1325, none, none, ze1326, none, none, ze0, ze43, ze666, none, ze1299, none, none, ze67, ze0, ze1278],
  [none, none, ze1205, none, none, ze0, ze1003, none, none, ze1092, none, none, ze74, ze134, ze185, ze1229],
  [none, none, ze203, ze1054, none, none, ze0, ze52, ze0, ze1323, none, none, ze1289, none, none, ze128],
  [ze668, none, ze1301, none, none, ze0, ze43, ze618, none, ze1299, none, none, ze69, ze546, none, none],
  [ze73, ze165, ze541, none, ze71, ze165, ze134, ze102, none, ze0, ze1278, none, none, ze308, none, none],
  [ze0, ze74, ze104, none, ze1327, none, none, ze476, none, none, ze0, ze138, ze0, ze1323, none, none],
  [ze1289, none, none, ze670, ze43, ze138, ze1299, none, none, ze174, none, ze0, ze1278, none, none, ze1144],
  [none, none, ze0, ze74, ze104, none, ze175, none, ze1209, none, none, ze654, ze1328, none, none, ze77]]
noncomputable def pm269 : xM := (⟨"WorkMeterModel", "tableLine", "()V"⟩, prog_14_method_54_code, 6, none, x_at pt269)
-- 270: WorkMeterModel.number(II)I
noncomputable def pt270 : List (List (Option xI)) := [
  [ze0, ze1278, none, none, ze126, none, none, ze43, ze127, ze128, ze1275, none, none, ze0, ze0, ze1276],
  [none, none, ze1329, none, none, ze43, ze69, ze323, ze1276, none, none, ze0, ze1260, none, none, ze1330],
  [none, none, ze0, ze1263, none, none, ze0, ze1276, none, none, ze1287, ze186, ze1331, none, none, ze1332],
  [none, none, ze1020, none, none, ze1333, none, none, ze71, ze1334, none, ze518, none, none, ze71, ze1195],
  [none, none, ze1335, none, ze71, ze165, ze0, ze1263, none, none, ze0, ze1276, none, none, ze1287, ze134],
  [ze49, none, ze212, ze779, ze0, ze3, ze1276, none, none, ze82, ze134, ze1273, none, none, ze1336, none],
  [none, ze323, ze1276, none, none, ze0, ze1323, none, none, ze652, none, none, ze0, ze82, ze0, ze1276],
  [none, none, ze1289, none, none, ze1337, none, none, ze208, ze186, ze74, ze186, ze73, ze186, ze1020, none],
  [none, ze1054, none, none, ze0, ze178, ze0, ze1323, none, none, ze1289, none, none, ze414, ze1278, none],
  [none, ze290, none, none, ze43, ze263, none, none, ze655, ze265]]
noncomputable def pm270 : xM := (⟨"WorkMeterModel", "number", "(II)I"⟩, prog_14_method_47_code, 4, (some .int), x_at pt270)
-- 271: WorkMeterModel.isDigitNext()Z
noncomputable def pt271 : List (List (Option xI)) := [
  [ze0, ze1275, none, none, ze0, ze1276, none, none, ze0, ze1260, none, none, ze1211, none, none, ze0],
  [ze1263, none, none, ze0, ze1276, none, none, ze1287, ze186, ze1331, none, none, ze1332, none, none, ze1020],
  [none, none, ze290, none, none, ze82, ze263, none, none, ze143, ze265]]
noncomputable def pm271 : xM := (⟨"WorkMeterModel", "isDigitNext", "()Z"⟩, prog_14_method_46_code, 1, (some .boolean), x_at pt271)
-- 272: WorkMeterModel.must(C)V
noncomputable def pt272 : List (List (Option xI)) := [
  [ze0, ze1275, none, none, ze0, ze1276, none, none, ze0, ze1260, none, none, ze1211, none, none, ze0],
  [ze1263, none, none, ze0, ze1276, none, none, ze1287, ze74, ze622, none, none, ze0, ze3, ze1276, none],
  [none, ze82, ze134, ze1273, none, none, ze1060, none, none, ze136, ze82, ze0, ze1276, none, none, ze1289],
  [none, none, ze77]]
noncomputable def pm272 : xM := (⟨"WorkMeterModel", "must", "(C)V"⟩, prog_14_method_48_code, 2, none, x_at pt272)
-- 273: WorkMeterModel.isSwitch(II)Z
noncomputable def pt273 : List (List (Option xI)) := [
  [ze43, ze69, ze208, ze186, ze0, ze1003, none, none, ze1092, none, none, ze74, ze134, ze185, ze203, ze1338],
  [none, none, ze0, ze1003, none, none, ze1094, none, none, ze271, none, ze74, ze165, ze134, ze71, ze134],
  [ze185, ze73, ze186, ze203, ze342, none, none, ze82, ze127, ze507, none, none, ze574, none, none, ze143],
  [ze127]]
noncomputable def pm273 : xM := (⟨"WorkMeterModel", "isSwitch", "(II)Z"⟩, prog_14_method_53_code, 4, (some .boolean), x_at pt273)
-- 274: WorkMeterModel.seasonLine()V
noncomputable def pt274 : List (List (Option xI)) := [
  [ze0, ze43, ze138, ze1299, none, none, ze169, ze0, ze1278, none, none, ze358, none, none, ze0, ze1284],
  [none, none, ze74, ze1287, ze476, none, none, ze0, ze138, ze0, ze1323, none, none, ze1289, none, none],
  [ze244, ze1284, none, none, ze74, ze82, ze1265, ze0, ze1003, none, none, ze1016, none, none, ze74, ze134],
  [ze0, ze43, ze676, none, none, ze1299, none, none, ze186, ze106, ze43, ze67, ze170, ze246, none, ze748],
  [none, none, ze0, ze1003, none, none, ze1097, none, none, ze246, none, ze74, ze165, ze134, ze73, ze134],
  [ze0, ze43, ze246, none, ze1299, none, none, ze186, ze106, ze75, none, none, ze933, none, none, ze77]]
noncomputable def pm274 : xM := (⟨"WorkMeterModel", "seasonLine", "()V"⟩, prog_14_method_55_code, 3, none, x_at pt274)
-- 275: WorkMeterModel.specialLine()V
noncomputable def pt275 : List (List (Option xI)) := [
  [ze0, ze43, ze676, none, none, ze1299, none, none, ze169, ze0, ze1278, none, none, ze1205, none, none],
  [ze0, ze1003, none, none, ze1017, none, none, ze74, ze134, ze185, ze1013, none, none, ze203, ze476, none],
  [none, ze0, ze138, ze0, ze1323, none, none, ze1289, none, none, ze244, ze1003, none, none, ze1017, none],
  [none, ze74, ze134, ze0, ze43, ze246, none, ze1299, none, none, ze186, ze106, ze11]]
noncomputable def pm275 : xM := (⟨"WorkMeterModel", "specialLine", "()V"⟩, prog_14_method_56_code, 2, none, x_at pt275)
-- 276: WorkMeterModel.seal(I)Z
noncomputable def pt276 : List (List (Option xI)) := [
  [ze0, ze1003, none, none, ze1029, none, none, ze185, ze198, ze203, ze436, none, none, ze74, ze186, ze145],
  [ze1339, none, none, ze1020, none, none, ze342, none, none, ze143, ze127, ze244, ze1003, none, none, ze1029],
  [none, none, ze198, ze106, ze0, ze1003, none, none, ze1340, none, none, ze74, ze186, ze106, ze0, ze696],
  [none, ze145, ze1112, none, none, ze82, ze127]]
noncomputable def pm276 : xM := (⟨"WorkMeterModel", "seal", "(I)Z"⟩, prog_14_method_60_code, 2, (some .boolean), x_at pt276)
-- 277: WorkMeterModel.open(I)Z
noncomputable def pt277 : List (List (Option xI)) := [
  [ze0, ze1003, none, none, ze1029, none, none, ze185, ze145, ze203, ze476, none, none, ze0, ze1341, none],
  [none, ze145, ze203, ze530, none, none, ze143, ze127, ze635, ze186, ze0, ze1003, none, none, ze1340, none],
  [none, ze185, ze203, ze1342, none, none, ze0, ze1003, none, none, ze1029, none, none, ze145, ze106, ze0],
  [ze1003, none, none, ze1343, none, none, ze145, ze106, ze0, ze1003, none, none, ze1344, none, none, ze145],
  [ze106, ze0, ze710, none, ze145, ze1112, none, none, ze82, ze127, ze136, ze1003, none, none, ze1343, none],
  [none, ze184, ze185, ze198, ze187, ze106, ze0, ze483, none, ze0, ze1003, none, none, ze1343, none, none],
  [ze185, ze1112, none, none, ze0, ze1003, none, none, ze1343, none, none, ze185, ze1007, none, none, ze203],
  [ze1345, none, none, ze43, ze127, ze136, ze1003, none, none, ze1343, none, none, ze145, ze106, ze0, ze1003],
  [none, none, ze1344, none, none, ze0, ze1003, none, none, ze43, ze185, ze1346, none, none, ze187, ze106],
  [ze0, ze716, none, ze145, ze1112, none, none, ze43, ze127]]
noncomputable def pm277 : xM := (⟨"WorkMeterModel", "open", "(I)Z"⟩, prog_14_method_61_code, 2, (some .boolean), x_at pt277)
-- 278: WorkMeterModel.lockedFor()J
noncomputable def pt278 : List (List (Option xI)) := [
  [ze0, ze1003, none, none, ze1344, none, none, ze185, ze0, ze1003, none, none, ze43, ze185, ze203, ze1347],
  [none, none, ze0, ze1003, none, none, ze1344, none, none, ze185, ze0, ze1003, none, none, ze43, ze185],
  [ze365, ze263, none, none, ze888, ze790]]
noncomputable def pm278 : xM := (⟨"WorkMeterModel", "lockedFor", "()J"⟩, prog_14_method_59_code, 1, (some .long), x_at pt278)
-- 279: WorkMeterModel.again(I)J
noncomputable def pt279 : List (List (Option xI)) := [
  [ze74, ze186, ze198, ze1008, none, none, ze1020, none, none, ze267, none, none, ze1013, none, none, ze194],
  [ze1159, ze67, ze170, ze74, ze72, none, none, ze0, ze1037, none, none, ze75, none, none, ze76, none],
  [none, ze136, ze1003, none, none, ze486, none, ze185, ze0, ze1003, none, none, ze110, ze185, ze366, ze194]]
noncomputable def pm279 : xM := (⟨"WorkMeterModel", "again", "(I)J"⟩, prog_14_method_77_code, 3, (some .long), x_at pt279)
-- 280: WorkMeterModel.set(II)Z
noncomputable def pt280 : List (List (Option xI)) := [
  [ze0, ze1018, none, none, ze126, none, none, ze43, ze127, ze531, ze1348, none, none, none, none, none],
  [none, none, none, none, none, none, none, none, none, none, none, none, none, none, none, none],
  [none, none, none, none, none, none, none, none, none, none, none, none, none, none, none, none],
  [none, none, none, none, none, none, none, none, none, none, none, none, none, none, none, none],
  [none, none, none, none, none, none, none, none, none, none, none, none, none, none, none, none],
  [none, none, none, none, none, none, none, none, none, none, none, none, none, none, none, none],
  [none, none, none, none, none, none, none, none, none, none, none, none, none, none, none, none],
  [none, none, none, none, ze1293, ze186, ze145, ze1349, none, none, ze1020, none, none, ze342, none, none],
  [ze43, ze127, ze730, ze1003, none, none, ze52, ze73, ze186, ze106, ze82, ze127, ze1293, ze186, ze198, ze1349],
  [none, none, ze1020, none, none, ze436, none, none, ze0, ze1003, none, none, ze39, none, ze185, ze145],
  [ze203, ze530, none, none, ze143, ze127, ze730, ze1003, none, none, ze110, ze73, ze186, ze106, ze82, ze127],
  [ze1293, ze186, ze145, ze1350, none, none, ze1020, none, none, ze342, none, none, ze43, ze127, ze730, ze1003],
  [none, none, ze271, none, ze73, ze186, ze106, ze82, ze127, ze1293, ze186, ze145, ze1351, none, none, ze1020],
  [none, none, ze342, none, none, ze43, ze127, ze730, ze1003, none, none, ze246, none, ze73, ze186, ze106],
  [ze82, ze127, ze1293, ze541, none, ze1352, none, none, ze73, ze116, none, none, ze1353, none, none, ze73],
  [ze517, none, none, ze256, none, none, ze73, ze545, none, none, ze1232, none, none, ze73, ze546, none],
  [none, ze643, none, none, ze43, ze127, ze730, ze1163, none, none, ze1154, none, none, ze0, ze1003, none],
  [none, ze47, none, ze73, ze186, ze106, ze0, ze1158, none, none, ze82, ze127, ze1293, ze186, ze198, ze1229],
  [none, none, ze1020, none, none, ze342, none, none, ze43, ze127, ze730, ze1003, none, none, ze1009, none],
  [ze73, ze186, ze106, ze82, ze127, ze170, ze186, ze145, ze74, ze739, none, ze973, none, none, ze1354, none],
  [none, ze788, none, none, ze1355, none, none, ze1356, none, none, ze342, none, none, ze43, ze127, ze128],
  [ze1003, none, none, ze1357, none, none, ze74, ze134, ze554, none, ze212, ze73, ze186, ze106, ze82, ze127],
  [ze531, ze186, ze1358, none, none, ze1359, none, none, ze1020, none, none, ze436, none, none, ze73, ze186],
  [ze145, ze1006, none, none, ze1020, none, none, ze342, none, none, ze143, ze127, ze128, ze1003, none, none],
  [ze54, none, ze74, ze134, ze463, none, ze212, ze73, ze186, ze106, ze82, ze127]]
noncomputable def pm280 : xM := (⟨"WorkMeterModel", "set", "(II)Z"⟩, prog_14_method_78_code, 3, (some .boolean), x_at pt280)
-- 281: WorkMeterModel.move(I)I
noncomputable def pt281 : List (List (Option xI)) := [
  [ze0, ze1018, none, none, ze1360, none, none, ze74, ze186, ze145, ze1153, none, none, ze1020, none, none],
  [ze342, none, none, ze155, ze127, ze244, ze1003, none, none, ze43, ze185, ze374, ze67, ze0, ze1163, none],
  [none, ze1154, none, none, ze0, ze1003, none, none, ze43, ze74, ze186, ze106, ze0, ze1158, none, none],
  [ze0, ze554, none, ze73, ze186, ze1112, none, none, ze73, ze127]]
noncomputable def pm281 : xM := (⟨"WorkMeterModel", "move", "(I)I"⟩, prog_14_method_79_code, 3, (some .int), x_at pt281)
-- 282: WorkMeterModel.off(I)I
noncomputable def pt282 : List (List (Option xI)) := [
  [ze74, ze186, ze198, ze1361, none, none, ze1020, none, none, ze617, none, none, ze0, ze1003, none, none],
  [ze43, ze185, ze74, ze186, ze187, ze1153, none, none, ze203, ze530, none, none, ze155, ze127, ze244, ze739],
  [none, ze74, ze186, ze1112, none, none, ze0, ze1003, none, none, ze138, ze145, ze106, ze178, ze67, ze170],
  [ze110, ze1362, none, none, ze0, ze1003, none, none, ze1127, none, ze73, ze134, ze145, ze106, ze0, ze1003],
  [none, none, ze428, none, ze73, ze134, ze185, ze198, ze203, ze288, none, none, ze0, ze73, ze1131, none],
  [none, ze181, none, none, ze827, none, none, ze1159, ze67, ze170, ze74, ze584, none, none, ze0, ze1003],
  [none, none, ze966, none, ze184, ze185, ze198, ze187, ze106, ze0, ze1003, none, none, ze1157, none, ze184],
  [ze185, ze198, ze187, ze106, ze0, ze1051, none, none, ze75, none, none, ze1115, none, none, ze136, ze1003],
  [none, none, ze43, ze185, ze374, ze127]]
noncomputable def pm282 : xM := (⟨"WorkMeterModel", "off", "(I)I"⟩, prog_14_method_80_code, 3, (some .int), x_at pt282)
-- 283: WorkMeterModel.mark(IZ)Z
noncomputable def pt283 : List (List (Option xI)) := [
  [ze74, ze186, ze145, ze198, ze1020, none, none, ze1363, none, none, ze0, ze1003, none, none, ze428, none],
  [ze74, ze134, ze185, ze198, ze203, ze267, none, none, ze82, ze263, none, none, ze502, ze170, ze249, none],
  [none, ze143, ze127, ze170, ze157, none, none, ze0, ze74, ze1130, none, none, ze1038, none, none, ze244],
  [ze74, ze1131, none, none, ze509, ze127]]
noncomputable def pm283 : xM := (⟨"WorkMeterModel", "mark", "(IZ)Z"⟩, prog_14_method_81_code, 3, (some .boolean), x_at pt283)
-- 284: WorkMeterModel.prepaid(Z)Z
noncomputable def pt284 : List (List (Option xI)) := [
  [ze0, ze1003, none, none, ze1110, none, ze185, ze198, ze203, ze267, none, none, ze82, ze263, none, none],
  [ze1159, ze635, ze249, none, none, ze43, ze127, ze244, ze1003, none, none, ze1110, none, ze74, ze290, none],
  [none, ze198, ze263, none, none, ze1364, ze1365, ze0, ze1049, none, none, ze82, ze127]]
noncomputable def pm284 : xM := (⟨"WorkMeterModel", "prepaid", "(Z)Z"⟩, prog_14_method_83_code, 2, (some .boolean), x_at pt284)
-- 285: WorkMeterModel.pay(I)J
noncomputable def pt285 : List (List (Option xI)) := [
  [ze74, ze186, ze145, ze1366, none, none, ze1020, none, none, ze267, none, none, ze1188, none, none, ze194],
  [ze244, ze1003, none, none, ze463, none, ze184, ze185, ze74, ze186, ze187, ze106, ze0, ze1049, none, none],
  [ze0, ze1003, none, none, ze463, none, ze185, ze194]]
noncomputable def pm285 : xM := (⟨"WorkMeterModel", "pay", "(I)J"⟩, prog_14_method_84_code, 2, (some .long), x_at pt285)
-- 286: WorkMeterModel.bill()I
noncomputable def pt286 : List (List (Option xI)) := [
  [ze0, ze1003, none, none, ze1367, none, ze185, ze1210, none, none, ze203, ze1368, none, none, ze1149, none],
  [ze169, ze635, ze1369, none, none, ze748, none, none, ze0, ze1003, none, none, ze1370, none, none, ze74],
  [ze134, ze1149, none, ze212, ze0, ze1003, none, none, ze1370, none, none, ze74, ze134, ze185, ze106, ze620],
  [none, none, ze640, none, none, ze1371, none, none, ze1149, none, ze0, ze1372, none, none, ze246, none],
  [ze1173, none, none, ze0, ze1372, none, none, ze331, none, none, ze1373, none, ze1374, ze134, ze169, ze0],
  [ze1003, none, none, ze1367, none, ze184, ze185, ze198, ze187, ze106, ze0, ze1003, none, none, ze74, ze0],
  [ze1003, none, none, ze43, ze185, ze106, ze43, ze67, ze170, ze1375, none, ze932, none, none, ze0, ze1003],
  [none, none, ze74, ze82, ze134, ze73, ze134, ze0, ze1003, none, none, ze541, none, ze73, ze134, ze185],
  [ze106, ze75, none, none, ze1376, none, none, ze1159, ze67, ze170, ze52, ze503, none, none, ze0, ze1003],
  [none, none, ze74, ze1014, none, ze134, ze73, ze134, ze0, ze1003, none, none, ze483, none, ze73, ze134],
  [ze185, ze106, ze0, ze1003, none, none, ze483, none, ze73, ze134, ze1013, none, none, ze106, ze0, ze1003],
  [none, none, ze1014, none, ze73, ze134, ze1013, none, none, ze106, ze75, none, none, ze508, none, none],
  [ze136, ze403, none, ze145, ze1112, none, none, ze0, ze1003, none, none, ze1367, none, ze185, ze374, ze127]]
noncomputable def pm286 : xM := (⟨"WorkMeterModel", "bill", "()I"⟩, prog_14_method_86_code, 3, (some .int), x_at pt286)
-- 287: WorkMeterModel.billMany()I
noncomputable def pt287 : List (List (Option xI)) := [
  [ze0, ze1003, none, none, ze1367, none, ze185, ze1210, none, none, ze203, ze1117, none, none, ze0, ze1003],
  [none, none, ze1367, none, ze185, ze788, none, none, ze1377, none, none, ze1180, ze127]]
noncomputable def pm287 : xM := (⟨"WorkMeterModel", "billMany", "()I"⟩, prog_14_method_85_code, 1, (some .int), x_at pt287)
-- 288: WorkMeterModel.billed(III)J
noncomputable def pt288 : List (List (Option xI)) := [
  [ze0, ze74, ze1378, none, none, ze102, none, ze104, none, ze63, ze1379, none, none, ze73, ze71, ze1380],
  [none, none, ze267, none, none, ze1381, none, none, ze194, ze1137, ze73, ze71, ze1382, none, none, ze134],
  [ze174, none, ze0, ze1003, none, none, ze104, none, ze175, none, ze134, ze185, ze104, none, ze1370, none],
  [none, ze262, none, none, ze145, ze268, none, none, ze1383, ze1003, none, none, ze104, none, ze1149, none],
  [ze212, ze175, none, ze134, ze185, ze1384, ze194]]
noncomputable def pm288 : xM := (⟨"WorkMeterModel", "billed", "(III)J"⟩, prog_14_method_90_code, 6, (some .long), x_at pt288)
-- 289: WorkMeterModel.billAt(I)I
noncomputable def pt289 : List (List (Option xI)) := [
  [ze0, ze1003, none, none, ze1367, none, ze185, ze1229, none, none, ze203, ze1117, none, none, ze0, ze1003],
  [none, none, ze1367, none, ze185, ze788, none, none, ze1385, none, none, ze1386, ze67, ze74, ze186, ze145],
  [ze73, ze82, ze212, ze186, ze1020, none, none, ze714, none, none, ze1370, none, none, ze1149, none, ze0],
  [ze1372, none, none, ze82, ze212, ze74, ze212, ze165, ze134, ze263, none, none, ze155, ze265]]
noncomputable def pm289 : xM := (⟨"WorkMeterModel", "billAt", "(I)I"⟩, prog_14_method_87_code, 3, (some .int), x_at pt289)
-- 290: WorkMeterModel.isRegister(II)Z
noncomputable def pt290 : List (List (Option xI)) := [
  [ze547, ze186, ze145, ze1229, none, none, ze1020, none, none, ze617, none, none, ze74, ze63, ze242, none],
  [none, ze74, ze1208, none, none, ze290, none, none, ze509, ze263, none, none, ze143, ze265]]
noncomputable def pm290 : xM := (⟨"WorkMeterModel", "isRegister", "(II)Z"⟩, prog_14_method_89_code, 2, (some .boolean), x_at pt290)
-- 291: WorkMeterModel.rawAt(II)I
noncomputable def pt291 : List (List (Option xI)) := [
  [ze110, ze547, ze165, ze74, ze63, ze262, none, none, ze52, ze263, none, none, ze602, ze1387, ze127]]
noncomputable def pm291 : xM := (⟨"WorkMeterModel", "rawAt", "(II)I"⟩, prog_14_method_88_code, 2, (some .int), x_at pt291)
-- 292: WorkMeterModel.bills(II)J
noncomputable def pt292 : List (List (Option xI)) := [
  [ze0, ze74, ze1378, none, none, ze69, ze71, ze63, ze1388, none, none, ze73, ze186, ze145, ze1021, none],
  [none, ze1020, none, none, ze267, none, none, ze1381, none, none, ze194, ze785, ze1054, none, none, ze0],
  [ze1003, none, none, ze71, ze185, ze1109, none, none, ze1389, ze1003, none, none, ze71, ze1375, none, ze134],
  [ze73, ze134, ze185, ze790]]
noncomputable def pm292 : xM := (⟨"WorkMeterModel", "bills", "(II)J"⟩, prog_14_method_91_code, 4, (some .long), x_at pt292)
-- 293: WorkMeterModel.money(II)J
noncomputable def pt293 : List (List (Option xI)) := [
  [ze0, ze74, ze1378, none, none, ze69, ze71, ze63, ze674, none, none, ze73, ze186, ze145, ze198, ze1020],
  [none, none, ze267, none, none, ze1381, none, none, ze194, ze1390, ze189, none, ze145, ze367, none, ze43],
  [ze400, none, ze1391, none, ze52, ze1392, none, none, ze192, none, ze0, ze74, ze43, ze401, none, ze1393],
  [none, none, ze0, ze1003, none, none, ze54, none, ze401, none, ze134, ze185, ze191, ze187, ze189, none],
  [ze0, ze1003, none, none, ze71, ze1014, none, ze134, ze401, none, ze134, ze185, ze371, none, ze203, ze395],
  [none, none, ze0, ze1003, none, none, ze71, ze1014, none, ze134, ze401, none, ze134, ze185, ze331, none],
  [none, ze1394, none, ze1395, none, ze878, none, none, ze1396, none, none, ze1397, none, none, ze0, ze74],
  [ze178, ze63, ze1393, none, none, ze0, ze74, ze110, ze63, ze1393, none, none, ze187, ze191, ze0, ze74],
  [ze43, ze63, ze1393, none, none, ze0, ze1003, none, none, ze1010, none, none, ze185, ze191, ze365, ze282],
  [none, ze1006, none, none, ze192, none, ze371, none, ze0, ze1003, none, none, ze1357, none, none, ze185],
  [ze191, ze187, ze191, ze284, none, ze145, ze203, ze482, none, none, ze284, none, ze263, none, none, ze1398],
  [ze730, ze1003, none, none, ze1399, none, none, ze185, ze191, ze187, ze283, none, ze1006, none, none, ze0],
  [ze1003, none, none, ze110, ze185, ze191, ze1400, none, ze1401, none, ze298, none, ze1402, none, none, ze1403],
  [none, ze73, ze288, none, none, ze298, none, ze331, none, none, ze1404, none, ze1405, none, ze366, ze194]]
noncomputable def pm293 : xM := (⟨"WorkMeterModel", "money", "(II)J"⟩, prog_14_method_93_code, 16, (some .long), x_at pt293)
-- 294: WorkMeterModel.divisor(JJ)J
noncomputable def pt294 : List (List (Option xI)) := [
  [ze190, ze145, ze203, ze267, none, none, ze202, ze376, none, none, ze1406, ze202, ze190, ze877, ze1402, none],
  [none, ze790]]
noncomputable def pm294 : xM := (⟨"WorkMeterModel", "divisor", "(JJ)J"⟩, prog_14_method_92_code, 4, (some .long), x_at pt294)
-- 295: WorkMeterModel.raw(II)J
noncomputable def pt295 : List (List (Option xI)) := [
  [ze74, ze73, ze1380, none, none, ze617, none, none, ze0, ze1003, none, none, ze541, none, ze74, ze73],
  [ze1382, none, none, ze134, ze185, ze788, none, none, ze1381, none, none, ze790]]
noncomputable def pm295 : xM := (⟨"WorkMeterModel", "raw", "(II)J"⟩, prog_14_method_94_code, 3, (some .long), x_at pt295)
-- 296: WorkMeterModel.reading(II)J
noncomputable def pt296 : List (List (Option xI)) := [
  [ze74, ze73, ze1380, none, none, ze1363, none, none, ze0, ze1003, none, none, ze541, none, ze74, ze73],
  [ze1382, none, none, ze134, ze185, ze0, ze1003, none, none, ze110, ze185, ze366, ze788, none, none, ze1381],
  [none, none, ze790]]
noncomputable def pm296 : xM := (⟨"WorkMeterModel", "reading", "(II)J"⟩, prog_14_method_95_code, 3, (some .long), x_at pt296)
-- 297: WorkMeterModel.marked(II)I
noncomputable def pt297 : List (List (Option xI)) := [
  [ze74, ze186, ze145, ze1021, none, none, ze1020, none, none, ze342, none, none, ze63, ze127, ze170, ze1407],
  [none, none, none, none, none, none, none, none, none, none, none, none, none, none, none, none],
  [none, none, none, none, none, none, none, none, none, none, none, none, ze244, ze1003, none, none],
  [ze428, none, ze74, ze134, ze185, ze374, ze127, ze244, ze1003, none, none, ze1149, none, ze74, ze134, ze185],
  [ze374, ze127, ze244, ze1003, none, none, ze991, none, ze74, ze134, ze185, ze374, ze127, ze244, ze1003, none],
  [none, ze1127, none, ze74, ze134, ze185, ze374, ze127, ze155, ze127]]
noncomputable def pm297 : xM := (⟨"WorkMeterModel", "marked", "(II)I"⟩, prog_14_method_96_code, 3, (some .int), x_at pt297)
-- 298: WorkMeterModel.load(II)J
noncomputable def pt298 : List (List (Option xI)) := [
  [ze74, ze63, ze973, none, none, ze0, ze1172, none, none, ze186, ze194, ze531, ze186, ze145, ze0, ze1172],
  [none, none, ze82, ze212, ze186, ze1020, none, none, ze1408, none, none, ze73, ze186, ze145, ze1409, none],
  [none, ze1020, none, none, ze617, none, none, ze0, ze0, ze1172, none, none, ze82, ze212, ze74, ze212],
  [ze73, ze1166, none, none, ze788, none, none, ze1381, none, none, ze790]]
noncomputable def pm298 : xM := (⟨"WorkMeterModel", "load", "(II)J"⟩, prog_14_method_97_code, 3, (some .long), x_at pt298)
-- 299: WorkMeterModel.block(I)J
noncomputable def pt299 : List (List (Option xI)) := [
  [ze74, ze1410, none, none, none, none, none, none, none, none, none, none, none, none, none, none],
  [none, none, none, none, none, none, none, none, none, none, none, none, none, none, none, none],
  [none, none, none, none, none, none, none, none, ze136, ze1003, none, none, ze423, none, ze185, ze194],
  [ze136, ze1003, none, none, ze666, none, ze185, ze194, ze136, ze1003, none, none, ze403, none, ze185, ze194],
  [ze136, ze1003, none, none, ze195, none, ze185, ze194, ze136, ze1003, none, none, ze1157, none, ze185, ze194],
  [ze136, ze1003, none, none, ze1150, none, ze185, ze0, ze1003, none, none, ze1157, none, ze185, ze145, ze203],
  [ze482, none, none, ze483, none, ze263, none, none, ze419, ze1411, ze1152, ze0, ze1003, none, none, ze739],
  [none, ze185, ze198, ze203, ze1237, none, none, ze477, none, none, ze263, none, none, ze143, ze1412, ze1152],
  [ze194, ze1381, none, none, ze194]]
noncomputable def pm299 : xM := (⟨"WorkMeterModel", "block", "(I)J"⟩, prog_14_method_98_code, 2, (some .long), x_at pt299)
-- 300: WorkMeterModel.demand(I)J
noncomputable def pt300 : List (List (Option xI)) := [
  [ze74, ze1144, none, none, ze0, ze1003, none, none, ze1012, none, ze185, ze962, none, none, ze635, ze82],
  [ze693, none, none, ze0, ze1003, none, none, ze554, none, ze185, ze788, none, none, ze1381, none, none],
  [ze790]]
noncomputable def pm300 : xM := (⟨"WorkMeterModel", "demand", "(I)J"⟩, prog_14_method_99_code, 2, (some .long), x_at pt300)
-- 301: WorkMeterModel.greatest(II)J
noncomputable def pt301 : List (List (Option xI)) := [
  [ze74, ze1208, none, none, ze267, none, none, ze1013, none, none, ze194, ze170, ze1360, none, none, ze0],
  [ze1003, none, none, ze483, none, ze74, ze134, ze185, ze1413, none, none, ze170, ze82, ze652, none, none],
  [ze0, ze1003, none, none, ze1014, none, ze74, ze134, ze185, ze788, none, none, ze1381, none, none, ze790]]
noncomputable def pm301 : xM := (⟨"WorkMeterModel", "greatest", "(II)J"⟩, prog_14_method_100_code, 3, (some .long), x_at pt301)
-- 302: WorkMeterModel.would(II)J
noncomputable def pt302 : List (List (Option xI)) := [
  [ze74, ze186, ze198, ze1008, none, none, ze1020, none, none, ze436, none, none, ze73, ze186, ze145, ze1229],
  [none, none, ze1020, none, none, ze267, none, none, ze1198, none, none, ze194, ze128, ze1003, none, none],
  [ze0, ze1270, none, none, ze1271, none, none, ze43, ze69, ze208, ze74, ze72, none, none, ze0, ze1037],
  [none, none, ze107, none, none, ze76, none, none, ze730, ze73, ze1414, none, none, ze353, ze0, ze1270],
  [none, none, ze0, ze1003, none, none, ze1271, none, none, ze359, ze194]]
noncomputable def pm302 : xM := (⟨"WorkMeterModel", "would", "(II)J"⟩, prog_14_method_104_code, 5, (some .long), x_at pt302)
-- 303: WorkMeterModel.seen(I)J
noncomputable def pt303 : List (List (Option xI)) := [
  [ze74, ze1415, none, none, none, none, none, none, none, none, none, none, none, none, none, none],
  [none, none, none, none, none, none, none, none, none, none, none, none, none, none, none, none],
  [none, none, none, none, none, none, none, none, ze136, ze1003, none, none, ze486, none, ze185, ze0],
  [ze1003, none, none, ze110, ze185, ze366, ze194, ze136, ze1003, none, none, ze1416, none, ze185, ze0, ze1003],
  [none, none, ze110, ze185, ze366, ze194, ze136, ze1003, none, none, ze463, none, ze185, ze194, ze136, ze1417],
  [none, none, ze194, ze136, ze1151, none, none, ze194, ze136, ze1003, none, none, ze309, none, ze185, ze194],
  [ze136, ze1003, none, none, ze43, ze185, ze194]]
noncomputable def pm303 : xM := (⟨"WorkMeterModel", "seen", "(I)J"⟩, prog_14_method_103_code, 2, (some .long), x_at pt303)
-- 304: WorkMeterModel.greatestOfAll()J
noncomputable def pt304 : List (List (Option xI)) := [
  [ze1013, none, none, ze905, ze43, ze69, ze678, ze52, ze1067, none, none, ze0, ze1003, none, none, ze483],
  [none, ze71, ze134, ze185, ze105, ze203, ze360, none, none, ze0, ze1003, none, none, ze483, none, ze71],
  [ze134, ze185, ze263, none, none, ze1418, ze1419, ze107, none, none, ze1170, none, none, ze909, ze194]]
noncomputable def pm304 : xM := (⟨"WorkMeterModel", "greatestOfAll", "()J"⟩, prog_14_method_102_code, 4, (some .long), x_at pt304)
-- 305: WorkMeterModel.cost(I)J
noncomputable def pt305 : List (List (Option xI)) := [
  [ze74, ze186, ze198, ze1361, none, none, ze1020, none, none, ze442, none, none, ze0, ze1003, none, none],
  [ze43, ze185, ze74, ze186, ze187, ze1153, none, none, ze203, ze1420, none, none, ze0, ze0, ze1003, none],
  [none, ze43, ze185, ze374, ze74, ze1421, none, none, ze788, none, none, ze1381, none, none, ze790]]
noncomputable def pm305 : xM := (⟨"WorkMeterModel", "cost", "(I)J"⟩, prog_14_method_107_code, 2, (some .long), x_at pt305)
-- 306: WorkMeterModel.costFrom(II)J
noncomputable def pt306 : List (List (Option xI)) := [
  [ze145, ze353, ze74, ze174, none, ze511, none, ze74, ze73, ze134, ze1422, none, none, ze175, none, ze1090],
  [none, ze168, ze277, none, ze74, ze73, ze134, ze306, none, ze1090, none, ze165, ze212, ze1090, none, ze1280],
  [none, none, ze74, ze73, ze134, ze306, none, ze1090, none, ze165, ze212, ze331, none, none, ze1423, none],
  [ze1424, none, ze359, ze0, ze306, none, ze175, none, ze1090, none, ze142, ze281, none, ze1425, none, none],
  [ze187, ze353, ze306, none, ze1090, none, ze165, ze281, none, ze134, ze174, none, ze1336, none, none, ze516],
  [ze194]]
noncomputable def pm306 : xM := (⟨"WorkMeterModel", "costFrom", "(II)J"⟩, prog_14_method_106_code, 8, (some .long), x_at pt306)
-- 307: WorkMeterModel.costOfDay(III)J
noncomputable def pt307 : List (List (Option xI)) := [
  [ze0, ze74, ze1091, none, none, ze102, none, ze145, ze200, none, ze43, ze278, none, ze43, ze400, none],
  [ze43, ze915, none, ze1426, none, ze186, ze0, ze1003, none, none, ze1092, none, none, ze104, none, ze134],
  [ze185, ze203, ze1427, none, none, ze917, none, ze186, ze0, ze1003, none, none, ze1092, none, none, ze104],
  [none, ze134, ze185, ze203, ze1428, none, none, ze0, ze1003, none, none, ze1094, none, none, ze271, none],
  [ze104, none, ze165, ze134, ze917, none, ze134, ze185, ze374, ze331, none, none, ze1429, none, ze1430, none],
  [ze401, none, ze73, ze1431, none, none, ze401, none, ze263, none, none, ze1432, ze1433, none, ze1434, none],
  [ze71, ze1435, none, none, ze1434, none, ze263, none, none, ze1436, ze1437, none, ze289, none, ze1438, none],
  [ze1439, none, none, ze201, none, ze289, none, ze1438, none, ze212, ze186, ze0, ze1003, none, none, ze54],
  [none, ze281, none, ze134, ze185, ze191, ze187, ze200, none, ze1440, none, ze400, none, ze917, none, ze186],
  [ze0, ze1003, none, none, ze1092, none, none, ze104, none, ze134, ze185, ze203, ze1441, none, none, ze0],
  [ze1003, none, none, ze1096, none, none, ze271, none, ze104, none, ze165, ze134, ze917, none, ze134, ze185],
  [ze374, ze278, none, ze1442, none, none, ze1443, none, none, ze1444, none, ze194]]
noncomputable def pm307 : xM := (⟨"WorkMeterModel", "costOfDay", "(III)J"⟩, prog_14_method_105_code, 13, (some .long), x_at pt307)
-- 308: WorkMeterModel.cheapest(II)J
noncomputable def pt308 : List (List (Option xI)) := [
  [ze74, ze186, ze198, ze1361, none, none, ze1020, none, none, ze1445, none, none, ze0, ze1003, none, none],
  [ze43, ze185, ze1446, none, none, ze187, ze74, ze186, ze187, ze1153, none, none, ze203, ze1447, none, none],
  [ze73, ze186, ze145, ze198, ze1020, none, none, ze267, none, none, ze1381, none, none, ze194, ze128, ze1003],
  [none, none, ze43, ze185, ze374, ze69, ze82, ze102, none, ze172, none, ze924, none, ze1448, none, none],
  [ze0, ze1003, none, none, ze43, ze185, ze374, ze517, none, none, ze104, none, ze165, ze134, ze174, none],
  [ze0, ze175, none, ze74, ze1421, none, none, ze0, ze71, ze74, ze1421, none, none, ze203, ze1449, none],
  [none, ze175, none, ze69, ze259, none, none, ze1450, none, none, ze70, ze288, none, none, ze71, ze186],
  [ze873, none, none, ze269, ze71, ze74, ze1421, none, none, ze790]]
noncomputable def pm308 : xM := (⟨"WorkMeterModel", "cheapest", "(II)J"⟩, prog_14_method_108_code, 6, (some .long), x_at pt308)
-- 309: WorkMeterModel.lasts()I
noncomputable def pt309 : List (List (Option xI)) := [
  [ze0, ze1003, none, none, ze0, ze1270, none, none, ze1271, none, none, ze43, ze169, ze635, ze546, none],
  [none, ze1451, none, none, ze0, ze1003, none, none, ze309, none, ze185, ze145, ze203, ze1144, none, none],
  [ze0, ze1037, none, none, ze620, none, none, ze650, none, none, ze244, ze1003, none, none, ze309, none],
  [ze185, ze198, ze203, ze267, none, none, ze82, ze263, none, none, ze1159, ze1126, ze0, ze1270, none, none],
  [ze0, ze1003, none, none, ze1271, none, none, ze73, ze290, none, none, ze74, ze263, none, none, ze155],
  [ze265]]
noncomputable def pm309 : xM := (⟨"WorkMeterModel", "lasts", "()I"⟩, prog_14_method_109_code, 3, (some .int), x_at pt309)
-- 310: WorkMeterModel.lost(I)J
noncomputable def pt310 : List (List (Option xI)) := [
  [ze74, ze186, ze145, ze1007, none, none, ze1020, none, none, ze417, none, none, ze0, ze1003, none, none],
  [ze1165, none, none, ze74, ze134, ze185, ze788, none, none, ze1381, none, none, ze790]]
noncomputable def pm310 : xM := (⟨"WorkMeterModel", "lost", "(I)J"⟩, prog_14_method_110_code, 2, (some .long), x_at pt310)
-- 311: WorkMeterModel.best(II)J
noncomputable def pt311 : List (List (Option xI)) := [
  [ze74, ze186, ze198, ze0, ze1172, none, none, ze186, ze1020, none, none, ze132, none, none, ze73, ze186],
  [ze145, ze198, ze1020, none, none, ze267, none, none, ze1381, none, none, ze194, ze1227, none, none, ze353],
  [ze43, ze174, none, ze43, ze277, none, ze571, none, ze74, ze134, ze0, ze1172, none, none, ze1452, none],
  [none, ze145, ze388, none, ze43, ze915, none, ze1453, none, ze74, ze1277, none, none, ze390, none, ze0],
  [ze306, none, ze917, none, ze134, ze82, ze1166, none, none, ze187, ze388, none, ze1454, none, none, ze1455],
  [none, none, ze1456, none, ze359, ze203, ze1449, none, none, ze1109, none, none, ze1457, none, ze353, ze306],
  [none, ze74, ze134, ze82, ze212, ze174, none, ze947, none, none, ze1458, none, none, ze1459, ze267, none],
  [none, ze359, ze376, none, none, ze815, ze175, none, ze43, ze1166, none, none, ze790]]
noncomputable def pm311 : xM := (⟨"WorkMeterModel", "best", "(II)J"⟩, prog_14_method_111_code, 10, (some .long), x_at pt311)
-- 312: WorkMeterModel.between(II)J
noncomputable def pt312 : List (List (Option xI)) := [
  [ze145, ze353, ze43, ze174, none, ze511, none, ze0, ze1172, none, none, ze914, none, none, ze359, ze0],
  [ze175, none, ze43, ze1166, none, none, ze74, ze186, ze203, ze506, none, none, ze0, ze175, none, ze43],
  [ze1166, none, none, ze73, ze186, ze203, ze1447, none, none, ze0, ze175, none, ze82, ze1166, none, none],
  [ze263, none, none, ze1460, ze1461, ze353, ze514, none, none, ze508, none, none, ze516, ze194]]
noncomputable def pm312 : xM := (⟨"WorkMeterModel", "between", "(II)J"⟩, prog_14_method_112_code, 6, (some .long), x_at pt312)
-- 313: WorkMeterModel.log(II)I
noncomputable def pt313 : List (List (Option xI)) := [
  [ze0, ze1003, none, none, ze56, none, ze185, ze1011, none, none, ze203, ze1117, none, none, ze0, ze1003],
  [none, none, ze56, none, ze185, ze788, none, none, ze1462, none, none, ze1119, ze69, ze74, ze186, ze145],
  [ze71, ze82, ze212, ze186, ze1020, none, none, ze1463, none, none, ze73, ze186, ze145, ze1072, none, none],
  [ze1020, none, none, ze345, none, none, ze0, ze1003, none, none, ze1114, none, none, ze138, ze71, ze82],
  [ze212, ze74, ze212, ze165, ze134, ze73, ze134, ze185, ze374, ze263, none, none, ze155, ze265]]
noncomputable def pm313 : xM := (⟨"WorkMeterModel", "log", "(II)I"⟩, prog_14_method_113_code, 4, (some .int), x_at pt313)
-- 314: WorkMeterModel.image(Z)Z
noncomputable def pt314 : List (List (Option xI)) := [
  [ze74, ze1054, none, none, ze0, ze1464, none, none, ze342, none, none, ze43, ze127, ze635, ze705, none],
  [none, ze0, ze1003, none, none, ze0, ze1465, none, none, ze1271, none, none, ze1109, none, none, ze136],
  [ze1465, none, none, ze0, ze1003, none, none, ze1271, none, none, ze136, ze82, ze1466, none, none, ze82],
  [ze127]]
noncomputable def pm314 : xM := (⟨"WorkMeterModel", "image", "(Z)Z"⟩, prog_14_method_114_code, 2, (some .boolean), x_at pt314)
-- 315: WorkMeterModel.look(I)J
noncomputable def pt315 : List (List (Option xI)) := [
  [ze74, ze186, ze1467, none, none, ze1468, none, none, ze1020, none, none, ze417, none, none, ze0, ze1003],
  [none, none, ze54, none, ze74, ze134, ze696, none, ze212, ze185, ze194, ze635, ze186, ze1011, none, none],
  [ze1469, none, none, ze1020, none, none, ze705, none, none, ze0, ze1003, none, none, ze1016, none, none],
  [ze74, ze134, ze428, none, ze212, ze185, ze194, ze635, ze186, ze1470, none, none, ze1471, none, none, ze1020],
  [none, none, ze436, none, none, ze0, ze1003, none, none, ze52, ze74, ze134, ze554, none, ze212, ze185],
  [ze194, ze635, ze186, ze1472, none, none, ze1473, none, none, ze1020, none, none, ze705, none, none, ze0],
  [ze1003, none, none, ze1357, none, none, ze74, ze134, ze991, none, ze212, ze185, ze194, ze635, ze1474, none],
  [none, none, none, none, none, none, none, none, none, none, none, none, none, none, none, none],
  [none, none, none, none, none, none, none, none, none, none, none, none, none, none, none, none],
  [none, none, none, none, none, none, none, none, none, none, none, none, none, none, none, none],
  [none, none, none, none, none, none, none, none, none, none, none, none, none, none, none, none],
  [none, none, none, none, none, none, none, none, none, none, none, none, none, none, none, none],
  [none, none, none, none, none, none, none, none, none, none, none, none, none, none, none, none],
  [none, none, none, none, none, none, none, none, none, none, none, none, none, none, none, none],
  [none, none, none, none, none, none, none, none, none, none, none, none, none, none, none, none],
  [none, none, none, none, none, none, none, none, none, none, none, none, none, none, none, none],
  [none, none, none, none, none, none, none, none, none, none, none, none, none, none, none, none],
  [none, none, none, none, none, none, none, none, none, none, none, none, none, none, none, none],
  [none, none, none, none, none, none, none, none, none, none, none, none, none, none, none, none],
  [none, none, none, none, none, none, none, none, none, none, none, none, none, none, none, none],
  [none, none, none, none, none, none, none, none, none, none, none, none, none, none, none, none],
  [none, none, none, none, none, none, none, none, none, none, none, none, none, none, none, none],
  [none, none, none, none, ze136, ze1003, none, none, ze43, ze185, ze194, ze136, ze0, ze1003, none, none],
  [ze43, ze185, ze374, ze1079, none, none, ze186, ze194, ze136, ze1003, none, none, ze463, none, ze185, ze194],
  [ze136, ze1003, none, none, ze1110, none, ze185, ze194, ze136, ze1003, none, none, ze309, none, ze185, ze194],
  [ze136, ze1003, none, none, ze39, none, ze185, ze194, ze136, ze1003, none, none, ze552, none, ze185, ze194],
  [ze136, ze1003, none, none, ze966, none, ze185, ze194, ze136, ze1151, none, none, ze194, ze136, ze1003, none],
  [none, ze56, none, ze185, ze194, ze136, ze1003, none, none, ze1162, none, ze185, ze194, ze136, ze1003, none],
  [none, ze1367, none, ze185, ze194, ze136, ze1003, none, none, ze82, ze185, ze194, ze136, ze1003, none, none],
  [ze178, ze185, ze194, ze136, ze1003, none, none, ze138, ze185, ze194, ze136, ze1233, none, none, ze186, ze194],
  [ze136, ze1003, none, none, ze1029, none, none, ze185, ze194, ze136, ze1003, none, none, ze1343, none, none],
  [ze185, ze194, ze136, ze1341, none, none, ze194, ze136, ze1003, none, none, ze1028, none, none, ze185, ze194],
  [ze136, ze1260, none, none, ze186, ze194, ze1198, none, none, ze194]]
noncomputable def pm315 : xM := (⟨"WorkMeterModel", "look", "(I)J"⟩, prog_14_method_115_code, 2, (some .long), x_at pt315)
-- 316: WorkMeterLaw.law([I)Z
noncomputable def pt316 : List (List (Option xI)) := [
  [ze1475, none, none, ze3, ze1476, none, none, ze1477, ze1478, none, none, ze3, ze1479, none, none, ze1480],
  [ze43, ze69, ze208, ze0, ze68, ze271, none, ze212, ze1481, none, none, ze0, ze71, ze176, ze1482, none],
  [ze337, ze1483, none, none, none, none, none, none, none, none, none, none, none, none, none, none],
  [none, none, none, none, none, none, none, none, none, none, none, none, none, none, none, none],
  [none, none, none, none, none, none, none, none, none, none, none, none, none, none, none, none],
  [none, none, none, none, none, none, none, none, none, none, none, none, none, none, none, none],
  [none, none, none, none, none, none, none, none, none, none, none, none, none, none, none, none],
  [none, none, none, none, none, none, none, none, none, none, none, none, none, none, none, none],
  [none, none, none, none, none, none, none, none, none, none, none, none, none, none, none, none],
  [none, none, none, none, none, none, none, none, none, none, none, none, none, none, none, none],
  [none, none, none, none, none, none, none, none, none, none, none, none, none, none, none, none],
  [none, none, none, none, none, none, none, none, none, none, none, none, none, none, none, none],
  [none, none, none, none, none, none, none, none, none, none, none, none, none, none, none, none],
  [none, none, none, none, none, none, none, none, none, none, none, none, none, none, none, none],
  [none, none, none, none, none, none, none, none, none, none, none, none, ze1484, ze0, ze71, ze82],
  [ze134, ze176, ze0, ze71, ze178, ze134, ze176, ze1485, none, none, ze654, ze867, ze0, ze71, ze82, ze134],
  [ze176, ze0, ze71, ze178, ze134, ze176, ze1486, none, none, ze654, ze1487, none, none, ze1484, ze0, ze71],
  [ze82, ze134, ze176, ze0, ze71, ze178, ze134, ze176, ze1488, none, none, ze654, ze867, ze0, ze71, ze82],
  [ze134, ze176, ze0, ze71, ze178, ze134, ze176, ze1489, none, none, ze654, ze1490, none, none, ze1484, ze0],
  [ze71, ze82, ze134, ze176, ze1491, none, none, ze1492, ze867, ze0, ze71, ze82, ze134, ze176, ze1493, none],
  [none, ze1492, ze1494, none, none, ze1484, ze0, ze71, ze82, ze134, ze176, ze0, ze71, ze178, ze134, ze176],
  [ze1495, none, none, ze654, ze867, ze0, ze71, ze82, ze134, ze176, ze0, ze71, ze178, ze134, ze176, ze1496],
  [none, none, ze654, ze1497, none, none, ze1484, ze0, ze71, ze82, ze134, ze176, ze0, ze71, ze178, ze134],
  [ze176, ze0, ze71, ze138, ze134, ze176, ze1498, none, none, ze654, ze867, ze0, ze71, ze82, ze134, ze176],
  [ze0, ze71, ze178, ze134, ze176, ze0, ze71, ze138, ze134, ze176, ze1499, none, none, ze654, ze1500, none],
  [none, ze1484, ze0, ze71, ze82, ze134, ze176, ze1501, none, none, ze654, ze867, ze0, ze71, ze82, ze134],
  [ze176, ze1502, none, none, ze654, ze1503, none, none, ze1484, ze0, ze71, ze82, ze134, ze176, ze0, ze71],
  [ze178, ze134, ze176, ze0, ze71, ze138, ze134, ze176, ze0, ze71, ze52, ze134, ze176, ze0, ze71, ze110],
  [ze134, ze176, ze1504, none, none, ze654, ze867, ze0, ze71, ze82, ze134, ze176, ze0, ze71, ze178, ze134],
  [ze176, ze0, ze71, ze138, ze134, ze176, ze0, ze71, ze52, ze134, ze176, ze0, ze71, ze110, ze134, ze176],
  [ze1505, none, none, ze654, ze1506, none, none, ze1484, ze0, ze71, ze82, ze134, ze176, ze1507, none, none],
  [ze654, ze867, ze0, ze71, ze82, ze134, ze176, ze1508, none, none, ze654, ze1509, none, none, ze1484, ze1510],
  [none, none, ze654, ze867, ze1511, none, none, ze654, ze1512, none, none, ze1484, ze0, ze71, ze82, ze134],
  [ze176, ze1513, none, none, ze654, ze867, ze0, ze71, ze82, ze134, ze176, ze1514, none, none, ze654, ze1515],
  [none, none, ze1484, ze0, ze71, ze82, ze134, ze176, ze1516, none, none, ze654, ze867, ze0, ze71, ze82],
  [ze134, ze176, ze1517, none, none, ze654, ze1518, none, none, ze1484, ze0, ze71, ze82, ze134, ze176, ze1519],
  [none, none, ze654, ze867, ze0, ze71, ze82, ze134, ze176, ze1520, none, none, ze654, ze1521, none, none],
  [ze1484, ze0, ze71, ze82, ze134, ze176, ze0, ze71, ze178, ze134, ze176, ze1522, none, none, ze654, ze867],
  [ze0, ze71, ze82, ze134, ze176, ze0, ze71, ze178, ze134, ze176, ze1523, none, none, ze654, ze1524, none],
  [none, ze1484, ze0, ze71, ze82, ze134, ze176, ze0, ze71, ze178, ze134, ze176, ze0, ze71, ze138, ze134],
  [ze176, ze1525, none, none, ze654, ze867, ze0, ze71, ze82, ze134, ze176, ze0, ze71, ze178, ze134, ze176],
  [ze0, ze71, ze138, ze134, ze176, ze1526, none, none, ze654, ze1527, none, none, ze1484, ze0, ze71, ze82],
  [ze134, ze176, ze0, ze71, ze178, ze134, ze176, ze1528, none, none, ze654, ze867, ze0, ze71, ze82, ze134],
  [ze176, ze0, ze71, ze178, ze134, ze176, ze1529, none, none, ze654, ze1530, none, none, ze1484, ze0, ze71],
  [ze82, ze134, ze176, ze1531, none, none, ze654, ze867, ze0, ze71, ze82, ze134, ze176, ze1532, none, none],
  [ze654, ze1533, none, none, ze1484, ze0, ze71, ze82, ze134, ze176, ze1534, none, none, ze654, ze867, ze0],
  [ze71, ze82, ze134, ze176, ze1535, none, none, ze654, ze1536, none, none, ze1484, ze0, ze71, ze82, ze134],
  [ze176, ze0, ze71, ze178, ze134, ze176, ze290, none, none, ze82, ze263, none, none, ze1135, ze1537, none],
  [none, ze654, ze867, ze0, ze71, ze82, ze134, ze176, ze0, ze71, ze178, ze134, ze176, ze290, none, none],
  [ze82, ze263, none, none, ze1135, ze1538, none, none, ze654, ze1539, none, none, ze1484, ze0, ze71, ze82],
  [ze134, ze176, ze290, none, none, ze82, ze263, none, none, ze1135, ze1540, none, none, ze654, ze867, ze0],
  [ze71, ze82, ze134, ze176, ze290, none, none, ze82, ze263, none, none, ze1135, ze1541, none, none, ze654],
  [ze1542, none, none, ze1484, ze0, ze71, ze82, ze134, ze176, ze1543, none, none, ze1492, ze867, ze0, ze71],
  [ze82, ze134, ze176, ze1544, none, none, ze1492, ze1545, none, none, ze1484, ze1546, none, none, ze654, ze867],
  [ze1547, none, none, ze654, ze1548, none, none, ze1484, ze0, ze71, ze82, ze134, ze176, ze0, ze71, ze178],
  [ze134, ze176, ze1549, none, none, ze867, ze0, ze71, ze82, ze134, ze176, ze0, ze71, ze178, ze134, ze176],
  [ze1550, none, none, ze203, ze1551, none, none, ze43, ze127, ze1484, ze0, ze71, ze82, ze134, ze176, ze0],
  [ze71, ze178, ze134, ze176, ze1552, none, none, ze1492, ze867, ze0, ze71, ze82, ze134, ze176, ze0, ze71],
  [ze178, ze134, ze176, ze1553, none, none, ze1492, ze1554, none, none, ze1484, ze0, ze71, ze82, ze134, ze176],
  [ze0, ze71, ze178, ze134, ze176, ze1555, none, none, ze1492, ze867, ze0, ze71, ze82, ze134, ze176, ze0],
  [ze71, ze178, ze134, ze176, ze1556, none, none, ze1492, ze1557, none, none, ze1484, ze0, ze71, ze82, ze134],
  [ze176, ze1558, none, none, ze654, ze867, ze0, ze71, ze82, ze134, ze176, ze1559, none, none, ze654, ze1560],
  [none, none, ze1484, ze0, ze71, ze82, ze134, ze176, ze1561, none, none, ze654, ze867, ze0, ze71, ze82],
  [ze134, ze176, ze1562, none, none, ze654, ze1563, none, none, ze1484, ze0, ze71, ze82, ze134, ze176, ze0],
  [ze71, ze178, ze134, ze176, ze0, ze71, ze138, ze134, ze176, ze1564, none, none, ze654, ze867, ze0, ze71],
  [ze82, ze134, ze176, ze0, ze71, ze178, ze134, ze176, ze0, ze71, ze138, ze134, ze176, ze1565, none, none],
  [ze654, ze1566, none, none, ze1484, ze0, ze71, ze82, ze134, ze176, ze1567, none, none, ze654, ze867, ze0],
  [ze71, ze82, ze134, ze176, ze1568, none, none, ze654, ze1569, none, none, ze1484, ze0, ze71, ze82, ze134],
  [ze176, ze0, ze71, ze178, ze134, ze176, ze1570, none, none, ze654, ze867, ze0, ze71, ze82, ze134, ze176],
  [ze0, ze71, ze178, ze134, ze176, ze1571, none, none, ze654, ze1572, none, none, ze1484, ze0, ze71, ze82],
  [ze134, ze176, ze0, ze71, ze178, ze134, ze176, ze1573, none, none, ze1492, ze867, ze0, ze71, ze82, ze134],
  [ze176, ze0, ze71, ze178, ze134, ze176, ze1574, none, none, ze1492, ze1575, none, none, ze1484, ze0, ze71],
  [ze82, ze134, ze176, ze1576, none, none, ze1492, ze867, ze0, ze71, ze82, ze134, ze176, ze1577, none, none],
  [ze1492, ze1578, none, none, ze1484, ze0, ze71, ze82, ze134, ze176, ze1579, none, none, ze1492, ze867, ze0],
  [ze71, ze82, ze134, ze176, ze1580, none, none, ze1492, ze1581, none, none, ze1484, ze0, ze71, ze82, ze134],
  [ze176, ze0, ze71, ze178, ze134, ze176, ze1582, none, none, ze1492, ze867, ze0, ze71, ze82, ze134, ze176],
  [ze0, ze71, ze178, ze134, ze176, ze1583, none, none, ze1492, ze1584, none, none, ze1484, ze0, ze71, ze82],
  [ze134, ze176, ze0, ze71, ze178, ze134, ze176, ze0, ze71, ze138, ze134, ze176, ze1585, none, none, ze1492],
  [ze867, ze0, ze71, ze82, ze134, ze176, ze0, ze71, ze178, ze134, ze176, ze0, ze71, ze138, ze134, ze176],
  [ze1586, none, none, ze1492, ze1587, none, none, ze1484, ze0, ze71, ze82, ze134, ze176, ze0, ze71, ze178],
  [ze134, ze176, ze1588, none, none, ze1492, ze867, ze0, ze71, ze82, ze134, ze176, ze0, ze71, ze178, ze134],
  [ze176, ze1589, none, none, ze1492, ze1590, none, none, ze1484, ze0, ze71, ze82, ze134, ze176, ze0, ze71],
  [ze178, ze134, ze176, ze1591, none, none, ze1492, ze867, ze0, ze71, ze82, ze134, ze176, ze0, ze71, ze178],
  [ze134, ze176, ze1592, none, none, ze1492, ze1593, none, none, ze1484, ze0, ze71, ze82, ze134, ze176, ze0],
  [ze71, ze178, ze134, ze176, ze1594, none, none, ze1492, ze867, ze0, ze71, ze82, ze134, ze176, ze0, ze71],
  [ze178, ze134, ze176, ze1595, none, none, ze1492, ze1596, none, none, ze1484, ze0, ze71, ze82, ze134, ze176],
  [ze1597, none, none, ze1492, ze867, ze0, ze71, ze82, ze134, ze176, ze1598, none, none, ze1492, ze1599, none],
  [none, ze1484, ze0, ze71, ze82, ze134, ze176, ze0, ze71, ze178, ze134, ze176, ze1600, none, none, ze1492],
  [ze867, ze0, ze71, ze82, ze134, ze176, ze0, ze71, ze178, ze134, ze176, ze1601, none, none, ze1492, ze1602],
  [none, none, ze1484, ze1603, none, none, ze654, ze867, ze1604, none, none, ze654, ze1605, none, none, ze1484],
  [ze0, ze71, ze82, ze134, ze176, ze1606, none, none, ze1492, ze867, ze0, ze71, ze82, ze134, ze176, ze1607],
  [none, none, ze1492, ze1608, none, none, ze1484, ze0, ze71, ze82, ze134, ze176, ze0, ze71, ze178, ze134],
  [ze176, ze1609, none, none, ze1492, ze867, ze0, ze71, ze82, ze134, ze176, ze0, ze71, ze178, ze134, ze176],
  [ze1610, none, none, ze1492, ze1611, none, none, ze1484, ze0, ze71, ze82, ze134, ze176, ze0, ze71, ze178],
  [ze134, ze176, ze1612, none, none, ze1492, ze867, ze0, ze71, ze82, ze134, ze176, ze0, ze71, ze178, ze134],
  [ze176, ze1613, none, none, ze1492, ze1614, none, none, ze1484, ze0, ze71, ze82, ze134, ze176, ze0, ze71],
  [ze178, ze134, ze176, ze1615, none, none, ze654, ze867, ze0, ze71, ze82, ze134, ze176, ze0, ze71, ze178],
  [ze134, ze176, ze1616, none, none, ze654, ze1617, none, none, ze1484, ze0, ze71, ze82, ze134, ze176, ze0],
  [ze71, ze178, ze134, ze176, ze1618, none, none, ze654, ze867, ze0, ze71, ze82, ze134, ze176, ze0, ze71],
  [ze178, ze134, ze176, ze1619, none, none, ze654, ze1620, none, none, ze1484, ze0, ze71, ze82, ze134, ze176],
  [ze290, none, none, ze82, ze263, none, none, ze1135, ze1621, none, none, ze654, ze867, ze0, ze71, ze82],
  [ze134, ze176, ze290, none, none, ze82, ze263, none, none, ze1135, ze1622, none, none, ze654, ze1623, none],
  [none, ze1484, ze0, ze71, ze82, ze134, ze176, ze1624, none, none, ze1492, ze867, ze0, ze71, ze82, ze134],
  [ze176, ze1625, none, none, ze1492, ze1626, none, none, ze1627, none, none, ze1628, none, none, ze509, ze127]]
noncomputable def pm316 : xM := (⟨"WorkMeterLaw", "law", "([I)Z"⟩, code, 4, (some .boolean), x_at pt316)
noncomputable def pTab : List (List xM) := [[pm0, pm1, pm2, pm3, pm4, pm5, pm6, pm7, pm8, pm9, pm10, pm11, pm12, pm13, pm14, pm15],
  [pm16, pm17, pm18, pm19, pm20, pm21, pm22, pm23, pm24, pm25, pm26, pm27, pm28, pm29, pm30, pm31],
  [pm32, pm33, pm34, pm35, pm36, pm37, pm38, pm39, pm40, pm41, pm42, pm43, pm44, pm45, pm46, pm47],
  [pm48, pm49, pm50, pm51, pm52, pm53, pm54, pm55, pm56, pm57, pm58, pm59, pm60, pm61, pm62, pm63],
  [pm64, pm65, pm66, pm67, pm68, pm69, pm70, pm71, pm72, pm73, pm74, pm75, pm76, pm77, pm78, pm79],
  [pm80, pm81, pm82, pm83, pm84, pm85, pm86, pm87, pm88, pm89, pm90, pm91, pm92, pm93, pm94, pm95],
  [pm96, pm97, pm98, pm99, pm100, pm101, pm102, pm103, pm104, pm105, pm106, pm107, pm108, pm109, pm110, pm111],
  [pm112, pm113, pm114, pm115, pm116, pm117, pm118, pm119, pm120, pm121, pm122, pm123, pm124, pm125, pm126, pm127],
  [pm128, pm129, pm130, pm131, pm132, pm133, pm134, pm135, pm136, pm137, pm138, pm139, pm140, pm141, pm142, pm143],
  [pm144, pm145, pm146, pm147, pm148, pm149, pm150, pm151, pm152, pm153, pm154, pm155, pm156, pm157, pm158, pm159],
  [pm160, pm161, pm162, pm163, pm164, pm165, pm166, pm167, pm168, pm169, pm170, pm171, pm172, pm173, pm174, pm175],
  [pm176, pm177, pm178, pm179, pm180, pm181, pm182, pm183, pm184, pm185, pm186, pm187, pm188, pm189, pm190, pm191],
  [pm192, pm193, pm194, pm195, pm196, pm197, pm198, pm199, pm200, pm201, pm202, pm203, pm204, pm205, pm206, pm207],
  [pm208, pm209, pm210, pm211, pm212, pm213, pm214, pm215, pm216, pm217, pm218, pm219, pm220, pm221, pm222, pm223],
  [pm224, pm225, pm226, pm227, pm228, pm229, pm230, pm231, pm232, pm233, pm234, pm235, pm236, pm237, pm238, pm239],
  [pm240, pm241, pm242, pm243, pm244, pm245, pm246, pm247, pm248, pm249, pm250, pm251, pm252, pm253, pm254, pm255],
  [pm256, pm257, pm258, pm259, pm260, pm261, pm262, pm263, pm264, pm265, pm266, pm267, pm268, pm269, pm270, pm271],
  [pm272, pm273, pm274, pm275, pm276, pm277, pm278, pm279, pm280, pm281, pm282, pm283, pm284, pm285, pm286, pm287],
  [pm288, pm289, pm290, pm291, pm292, pm293, pm294, pm295, pm296, pm297, pm298, pm299, pm300, pm301, pm302, pm303],
  [pm304, pm305, pm306, pm307, pm308, pm309, pm310, pm311, pm312, pm313, pm314, pm315, pm316]]
noncomputable def pP (j : Nat) : Option xM := match pTab[j / 16]? with
  | some r => r[j % 16]?
  | none => none
def lK : List zK := [.inl (6, [.inr (.inl 9), .inr (.inl 11), .inr (.inl 19), .inr (.inl 23), .inr (.inl 27), .inr (.inl 30), .inr (.inl 33), .inr (.inl 37), .inr (.inl 39), .inl 0, .inl 1, .inl 2, .inl 2, .inl 0, .inl 0, .inl 0]),
  .inl (9, [.inr (.inl 10)]),
  .inr (0, 13),
  .inl (0, [.inr (.inl 12), .inr (.inl 13), .inr (.inl 14), .inr (.inl 15), .inr (.inl 16), .inr (.inl 17), .inr (.inl 18), .inl 0]),
  .inr (0, 8),
  .inr (0, 48),
  .inr (0, 48),
  .inr (0, 4),
  .inr (0, 28),
  .inr (0, 16),
  .inr (0, 16),
  .inl (10, [.inr (.inl 20), .inr (.inl 21), .inr (.inl 22), .inl 0, .inl 0, .inl 0, .inl 1]),
  .inr (0, 48),
  .inr (0, 48),
  .inr (1, 16),
  .inl (7, [.inr (.inl 24), .inr (.inl 25), .inr (.inl 26), .inl 0]),
  .inr (1, 28),
  .inr (1, 28),
  .inr (1, 198),
  .inl (3, [.inr (.inl 28), .inr (.inl 29), .inl 0, .inl 1, .inl 1, .inl 1, .inl 0, .inl 0, .inl 0, .inl 0]),
  .inr (1, 384),
  .inr (1, 4),
  .inl (2, [.inr (.inl 31), .inr (.inl 32), .inl 1, .inl 0]),
  .inr (1, 4),
  .inr (0, 4),
  .inl (5, [.inr (.inl 34), .inr (.inl 35), .inr (.inl 36), .inl 0]),
  .inr (0, 5),
  .inr (0, 5),
  .inr (0, 5),
  .inl (4, [.inr (.inl 38), .inl 0]),
  .inr (0, 120),
  .inl (8, [.inl 2, .inl 0, .inl 0, .inl 0, .inl 0]),
  .inl (11, [.inr (.inr (0, 8)), .inr (.inr (1, 8)), .inr (.inr (2, 8)), .inr (.inr (4, 41)), .inl 2]),
  .inl (1, [.inr (.inr (4, 42)), .inr (.inr (3, 11)), .inr (.inr (4, 43)), .inl 0, .inl 0, .inl 0, .inl 2, .inl 0, .inl 0, .inl 0, .inl 0]),
  .inr (0, 300),
  .inr (0, 4),
  .inl (12, [.inr (.inr (4, 45)), .inr (.inr (4, 46)), .inr (.inr (4, 47)), .inl 2, .inr (.inr (4, 48)), .inl 0, .inl 0, .inl 0, .inl 0, .inl 2, .inl 0, .inr (.inr (4, 49)), .inr (.inr (4, 50)), .inl 0, .inl 2]),
  .inr (1, 1619),
  .inr (1, 1619),
  .inr (1, 1619),
  .inr (2, 300),
  .inr (3, 8),
  .inr (3, 4)]
def lPos (g k : Nat) : Nat := if k < 40 then ([1, 33, 65, 96].getD g 1000) + (k - 8) else [0, 97, 98, 107, 108, 109, 110, 111, 112, 113, 114].getD (k - 40) 1000
def lInv : List (Nat × Nat) := [(4, 40), (0, 8), (0, 9), (0, 10), (0, 11), (0, 12), (0, 13), (0, 14), (0, 15), (0, 16), (0, 17), (0, 18), (0, 19), (0, 20), (0, 21), (0, 22), (0, 23), (0, 24), (0, 25), (0, 26), (0, 27), (0, 28), (0, 29), (0, 30), (0, 31), (0, 32), (0, 33), (0, 34), (0, 35), (0, 36), (0, 37), (0, 38), (0, 39), (1, 8), (1, 9), (1, 10), (1, 11), (1, 12), (1, 13), (1, 14), (1, 15), (1, 16), (1, 17), (1, 18), (1, 19), (1, 20), (1, 21), (1, 22), (1, 23), (1, 24), (1, 25), (1, 26), (1, 27), (1, 28), (1, 29), (1, 30), (1, 31), (1, 32), (1, 33), (1, 34), (1, 35), (1, 36), (1, 37), (1, 38), (1, 39), (2, 8), (2, 9), (2, 10), (2, 11), (2, 12), (2, 13), (2, 14), (2, 15), (2, 16), (2, 17), (2, 18), (2, 19), (2, 20), (2, 21), (2, 22), (2, 23), (2, 24), (2, 25), (2, 26), (2, 27), (2, 28), (2, 29), (2, 30), (2, 31), (2, 32), (2, 33), (2, 34), (2, 35), (2, 36), (2, 37), (2, 38), (2, 39), (4, 41), (4, 42), (3, 11), (3, 12), (3, 13), (3, 14), (3, 15), (3, 16), (3, 17), (3, 18), (4, 43), (4, 44), (4, 45), (4, 46), (4, 47), (4, 48), (4, 49), (4, 50)]
def lL : zL := (fun k => if k < 8 then none else lK[k - 8]?, lPos, fun i => lInv.getD i (0, 0), 115)
/-- the script, the three rows of Settings; the four words -/
def sA1 : List Int32 := [0, 1000, 100, 3, 900, 3, 0, 0, 0, 0, 0, 40, 0]
def sA2 : List Int32 := [0, 1, 0, 0, 60, 1, 0, 0, 0, 0, 0, 0, 0]
def sA3 : List Int32 := [1000000, 1000000, 250000, 60, 3600, 6, 100, 100, 100, 100, 100, 200, 100]
def sW4 : List Int32 := [116, 97, 98, 108, 101]
def sW5 : List Int32 := [115, 101, 97, 115, 111, 110]
def sW6 : List Int32 := [115, 112, 101, 99, 105, 97, 108]
def sW7 : List Int32 := [112, 114, 105, 99, 101]
def sZ (s : Nat × (Nat → Int32)) : xZ := (fun p => match p with
  | 0 => s
  | 1 => (13, fun i => sA1.getD i 0)
  | 2 => (13, fun i => sA2.getD i 0)
  | _ => (13, fun i => sA3.getD i 0), fun p => match p with
  | 4 => sW4
  | 5 => sW5
  | 6 => sW6
  | _ => sW7)
noncomputable def EE (s : Nat × (Nat → Int32)) : zE := (sZ s, pDf, pP, lL)
