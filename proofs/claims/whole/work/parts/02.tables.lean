/-! tables: classes, methods, links (written by wip/whole/gen_tables.py) -/
def ta_F0 : u_T := fun k => match k with
  | 0 => ("SkyTailor$Book", "kinds", "[I", true)
  | 1 => ("SkyTailor$Book", "draft", "[I", true)
  | 2 => ("SkyTailor$Book", "chances", "[I", true)
  | 3 => ("SkyTailor$Book", "lines", "I", false)
  | _ => ("SkyTailor$Book", "drafted", "I", false)
def ta_F1 : u_T := fun k => match k with
  | 0 => ("SkyTailor$Fitting", "shop", "LSkyTailor$Shop;", true)
  | 1 => ("SkyTailor$Fitting", "patterns", "LSkyTailor$Patterns;", true)
  | 2 => ("SkyTailor$Fitting", "bestRow", "[I", true)
  | 3 => ("SkyTailor$Fitting", "worths", "[I", true)
  | _ => ("SkyTailor$Fitting", "fits", "[I", true)
def ta_F2 : u_T := fun k => match k with
  | 0 => ("SkyTailor$Moths", "codes", "[I", true)
  | 1 => ("SkyTailor$Moths", "draft", "[I", true)
  | 2 => ("SkyTailor$Moths", "pile", "[I", true)
  | 3 => ("SkyTailor$Moths", "facts", "[I", true)
  | 4 => ("SkyTailor$Moths", "length", "I", false)
  | _ => ("SkyTailor$Moths", "drafted", "I", false)
def ta_F3 : u_T := fun k => match k with
  | 0 => ("SkyTailor$Past", "workRow", "[I", true)
  | 1 => ("SkyTailor$Past", "imageRow", "[I", true)
  | 2 => ("SkyTailor$Past", "worksThen", "[I", true)
  | 3 => ("SkyTailor$Past", "works", "I", false)
  | _ => ("SkyTailor$Past", "images", "I", false)
def ta_F4 : u_T := fun k => match k with
  | 0 => ("SkyTailor$Patterns", "rows", "[I", true)
  | 1 => ("SkyTailor$Patterns", "made", "[I", true)
  | 2 => ("SkyTailor$Patterns", "lengths", "[I", true)
  | _ => ("SkyTailor$Patterns", "toldOnes", "I", false)
def ta_F5 : u_T := fun k => match k with
  | 0 => ("SkyTailor$Plan", "steps", "[I", true)
  | 1 => ("SkyTailor$Plan", "size", "I", false)
  | 2 => ("SkyTailor$Plan", "begun", "I", false)
  | 3 => ("SkyTailor$Plan", "done", "I", false)
  | _ => ("SkyTailor$Plan", "refused", "I", false)
def ta_F6 : u_T := fun k => match k with
  | 0 => ("SkyTailor$Shop", "boltKinds", "[I", true)
  | 1 => ("SkyTailor$Shop", "boltHours", "[I", true)
  | 2 => ("SkyTailor$Shop", "streets", "[I", true)
  | 3 => ("SkyTailor$Shop", "wantRow", "[I", true)
  | 4 => ("SkyTailor$Shop", "orderRow", "[I", true)
  | 5 => ("SkyTailor$Shop", "bolts", "I", false)
  | 6 => ("SkyTailor$Shop", "clients", "I", false)
  | 7 => ("SkyTailor$Shop", "wants", "I", false)
  | 8 => ("SkyTailor$Shop", "orders", "I", false)
  | 9 => ("SkyTailor$Shop", "seam", "I", false)
  | _ => ("SkyTailor$Shop", "hands", "I", false)
def ta_F7 : u_T := fun k => match k with
  | _ => ("SkyTailor$Stand", "row", "[I", true)
def ta_F8 : u_T := fun k => match k with
  | 0 => ("SkyTailor$Tape", "bytes", "[B", true)
  | 1 => ("SkyTailor$Tape", "used", "I", false)
  | 2 => ("SkyTailor$Tape", "at", "I", false)
  | 3 => ("SkyTailor$Tape", "end", "I", false)
  | 4 => ("SkyTailor$Tape", "start", "I", false)
  | 5 => ("SkyTailor$Tape", "flaw", "I", false)
  | _ => ("SkyTailor$Tape", "place", "I", false)
def ta_F9 : u_T := fun k => match k with
  | 0 => ("SkyTailor$Tasks", "shop", "LSkyTailor$Shop;", true)
  | 1 => ("SkyTailor$Tasks", "now", "LSkyTailor$Stand;", true)
  | 2 => ("SkyTailor$Tasks", "patterns", "LSkyTailor$Patterns;", true)
  | 3 => ("SkyTailor$Tasks", "runs", "[I", true)
  | 4 => ("SkyTailor$Tasks", "sizes", "[I", true)
  | 5 => ("SkyTailor$Tasks", "packed", "[I", true)
  | 6 => ("SkyTailor$Tasks", "runCount", "I", false)
  | _ => ("SkyTailor$Tasks", "sizeCount", "I", false)
def ta_F10 : u_T := fun k => match k with
  | 0 => ("SkyTailor$Trade", "shop", "LSkyTailor$Shop;", true)
  | 1 => ("SkyTailor$Trade", "now", "LSkyTailor$Stand;", true)
  | 2 => ("SkyTailor$Trade", "trial", "LSkyTailor$Stand;", true)
  | 3 => ("SkyTailor$Trade", "patterns", "LSkyTailor$Patterns;", true)
  | 4 => ("SkyTailor$Trade", "moths", "LSkyTailor$Moths;", true)
  | _ => ("SkyTailor$Trade", "seed", "I", false)
def ta_F11 : u_T := fun k => match k with
  | 0 => ("SkyTailor", "tape", "LSkyTailor$Tape;", true)
  | 1 => ("SkyTailor", "shop", "LSkyTailor$Shop;", true)
  | 2 => ("SkyTailor", "draft", "LSkyTailor$Shop;", true)
  | 3 => ("SkyTailor", "now", "LSkyTailor$Stand;", true)
  | 4 => ("SkyTailor", "trial", "LSkyTailor$Stand;", true)
  | 5 => ("SkyTailor", "patterns", "LSkyTailor$Patterns;", true)
  | 6 => ("SkyTailor", "moths", "LSkyTailor$Moths;", true)
  | 7 => ("SkyTailor", "trade", "LSkyTailor$Trade;", true)
  | 8 => ("SkyTailor", "plan", "LSkyTailor$Plan;", true)
  | 9 => ("SkyTailor", "past", "LSkyTailor$Past;", true)
  | 10 => ("SkyTailor", "seen", "LSkyTailor$Book;", true)
  | 11 => ("SkyTailor", "fitting", "LSkyTailor$Fitting;", true)
  | 12 => ("SkyTailor", "tasks", "LSkyTailor$Tasks;", true)
  | 13 => ("SkyTailor", "stepsRefused", "I", false)
  | 14 => ("SkyTailor", "elementsRefused", "I", false)
  | 15 => ("SkyTailor", "argumentsRefused", "I", false)
  | _ => ("SkyTailor", "statesRefused", "I", false)
def ta_F12 : u_T := fun k => match k with
  | 0 => ("SkyTailorModel", "thrown", "I", false)
  | 1 => ("SkyTailorModel", "tape", "I", false)
  | 2 => ("SkyTailorModel", "size", "I", false)
  | 3 => ("SkyTailorModel", "place", "I", false)
  | 4 => ("SkyTailorModel", "at", "I", false)
  | 5 => ("SkyTailorModel", "fault", "I", false)
  | 6 => ("SkyTailorModel", "faultAt", "I", false)
  | 7 => ("SkyTailorModel", "clauses", "I", false)
  | 8 => ("SkyTailorModel", "open", "I", false)
  | 9 => ("SkyTailorModel", "fed", "[I", true)
  | 10 => ("SkyTailorModel", "refused", "[I", true)
  | 11 => ("SkyTailorModel", "readTold", "[I", true)
  | 12 => ("SkyTailorModel", "told", "[I", true)
  | 13 => ("SkyTailorModel", "readStreet", "[I", true)
  | 14 => ("SkyTailorModel", "street", "[I", true)
  | 15 => ("SkyTailorModel", "readBolt", "[[I", true)
  | 16 => ("SkyTailorModel", "bolt", "[[I", true)
  | 17 => ("SkyTailorModel", "readWant", "[[I", true)
  | 18 => ("SkyTailorModel", "want", "[[I", true)
  | 19 => ("SkyTailorModel", "readOrder", "[[I", true)
  | 20 => ("SkyTailorModel", "order", "[[I", true)
  | 21 => ("SkyTailorModel", "pattern", "[[I", true)
  | 22 => ("SkyTailorModel", "isTold", "[Z", true)
  | 23 => ("SkyTailorModel", "readHours", "[[I", true)
  | 24 => ("SkyTailorModel", "readMany", "[I", true)
  | 25 => ("SkyTailorModel", "lawMany", "I", false)
  | 26 => ("SkyTailorModel", "readLawMany", "I", false)
  | 27 => ("SkyTailorModel", "law", "[[I", true)
  | 28 => ("SkyTailorModel", "readLaw", "[[I", true)
  | 29 => ("SkyTailorModel", "book", "[[I", true)
  | 30 => ("SkyTailorModel", "readBook", "[[I", true)
  | 31 => ("SkyTailorModel", "stack", "[I", true)
  | 32 => ("SkyTailorModel", "known", "[I", true)
  | 33 => ("SkyTailorModel", "step", "[[I", true)
  | 34 => ("SkyTailorModel", "steps", "I", false)
  | 35 => ("SkyTailorModel", "now", "[I", true)
  | 36 => ("SkyTailorModel", "trial", "[I", true)
  | 37 => ("SkyTailorModel", "before", "[[I", true)
  | 38 => ("SkyTailorModel", "kept", "[[I", true)
  | 39 => ("SkyTailorModel", "lines", "I", false)
  | 40 => ("SkyTailorModel", "works", "I", false)
  | 41 => ("SkyTailorModel", "refusedSteps", "I", false)
  | 42 => ("SkyTailorModel", "images", "I", false)
  | 43 => ("SkyTailorModel", "spot", "I", false)
  | 44 => ("SkyTailorModel", "cutRow", "[I", true)
  | 45 => ("SkyTailorModel", "isEaten", "[Z", true)
  | 46 => ("SkyTailorModel", "begun", "I", false)
  | 47 => ("SkyTailorModel", "doneSteps", "I", false)
  | 48 => ("SkyTailorModel", "gains", "[[[I", true)
  | 49 => ("SkyTailorModel", "bestRow", "[I", true)
  | 50 => ("SkyTailorModel", "runKind", "[I", true)
  | 51 => ("SkyTailorModel", "runHours", "[I", true)
  | 52 => ("SkyTailorModel", "room", "[I", true)
  | 53 => ("SkyTailorModel", "runMany", "I", false)
  | 54 => ("SkyTailorModel", "seen", "[I", true)
  | _ => ("SkyTailorModel", "lots", "I", false)
def ta_nm : Nat → String := fun k => match k with
  | 0 => "SkyTailor$Book"
  | 1 => "SkyTailor$Fitting"
  | 2 => "SkyTailor$Moths"
  | 3 => "SkyTailor$Past"
  | 4 => "SkyTailor$Patterns"
  | 5 => "SkyTailor$Plan"
  | 6 => "SkyTailor$Shop"
  | 7 => "SkyTailor$Stand"
  | 8 => "SkyTailor$Tape"
  | 9 => "SkyTailor$Tasks"
  | 10 => "SkyTailor$Trade"
  | 11 => "SkyTailor"
  | 12 => "SkyTailorModel"
  | _ => "SkyTailorLaw"
def ta_cl : List vw_C := [(ta_nm 0, ta_F0, 5), (ta_nm 1, ta_F1, 5), (ta_nm 2, ta_F2, 6), (ta_nm 3, ta_F3, 5), (ta_nm 4, ta_F4, 4), (ta_nm 5, ta_F5, 5), (ta_nm 6, ta_F6, 11), (ta_nm 7, ta_F7, 1), (ta_nm 8, ta_F8, 7), (ta_nm 9, ta_F9, 8), (ta_nm 10, ta_F10, 6), (ta_nm 11, ta_F11, 17), (ta_nm 12, ta_F12, 56)]
/-- method: name, bytes, locals, answer, class, handlers -/
abbrev ta_Me : Type := MethodName × ByteArray × Nat × Option FieldType × Nat × List (Nat × Nat × Nat × Nat)
def ta_M0 : List ta_Me := [
  (⟨"SkyTailor", "<init>", "()V"⟩, prog_1_method_1_code, 1, none, 11, []),
  (⟨"SkyTailor$Tape", "<init>", "()V"⟩, prog_10_method_1_code, 1, none, 8, []),
  (⟨"SkyTailor$Shop", "<init>", "()V"⟩, prog_8_method_1_code, 1, none, 6, []),
  (⟨"SkyTailor$Stand", "<init>", "()V"⟩, prog_9_method_1_code, 1, none, 7, []),
  (⟨"SkyTailor$Patterns", "<init>", "()V"⟩, prog_6_method_1_code, 1, none, 4, []),
  (⟨"SkyTailor$Moths", "<init>", "()V"⟩, prog_4_method_1_code, 1, none, 2, []),
  (⟨"SkyTailor$Trade", "<init>", "(LSkyTailor$Shop;LSkyTailor$Stand;LSkyTailor$Stand;LSkyTailor$Patterns;LSkyTailor$Moths;)V"⟩, prog_12_method_1_code, 6, none, 10, []),
  (⟨"SkyTailor$Plan", "<init>", "()V"⟩, prog_7_method_1_code, 1, none, 5, []),
  (⟨"SkyTailor$Past", "<init>", "()V"⟩, prog_5_method_1_code, 1, none, 3, []),
  (⟨"SkyTailor$Book", "<init>", "()V"⟩, prog_2_method_1_code, 1, none, 0, []),
  (⟨"SkyTailor", "fill", "([II)V"⟩, prog_1_method_64_code, 3, none, 11, []),
  (⟨"SkyTailor$Fitting", "<init>", "(LSkyTailor$Shop;LSkyTailor$Patterns;)V"⟩, prog_3_method_1_code, 3, none, 1, []),
  (⟨"SkyTailor$Tasks", "<init>", "(LSkyTailor$Shop;LSkyTailor$Stand;LSkyTailor$Patterns;)V"⟩, prog_11_method_1_code, 4, none, 9, []),
  (⟨"SkyTailor$Stand", "begin", "(LSkyTailor$Shop;)V"⟩, prog_9_method_2_code, 3, none, 7, []),
  (⟨"SkyTailor$Stand", "strip", "(I)V"⟩, prog_9_method_18_code, 2, none, 7, []),
  (⟨"SkyTailor", "put", "([III)V"⟩, prog_1_method_63_code, 3, none, 11, []),
  (⟨"SkyTailor", "at", "([II)I"⟩, prog_1_method_62_code, 2, some FieldType.int, 11, []),
  (⟨"SkyTailor", "feed", "(IIIII)I"⟩, prog_1_method_2_code, 6, some FieldType.int, 11, []),
  (⟨"SkyTailor$Tape", "append", "(I)V"⟩, prog_10_method_2_code, 3, none, 8, []),
  (⟨"SkyTailor", "fault", "()I"⟩, prog_1_method_8_code, 1, some FieldType.int, 11, []),
  (⟨"SkyTailor", "undo", "()I"⟩, prog_1_method_9_code, 1, some FieldType.int, 11, []),
  (⟨"SkyTailor$Past", "takeWork", "(LSkyTailor$Stand;)V"⟩, prog_5_method_5_code, 2, none, 3, []),
  (⟨"SkyTailor", "copy", "([II[III)V"⟩, prog_1_method_65_code, 5, none, 11, []),
  (⟨"SkyTailor", "which", "()I"⟩, prog_1_method_32_code, 3, some FieldType.int, 11, []),
  (⟨"SkyTailor$Book", "skiesOf", "(LSkyTailor$Patterns;I)I"⟩, prog_2_method_5_code, 5, some FieldType.int, 0, []),
  (⟨"SkyTailor$Patterns", "isTold", "(I)Z"⟩, prog_6_method_3_code, 2, some FieldType.boolean, 4, []),
  (⟨"SkyTailor", "holds", "(II)Z"⟩, prog_1_method_70_code, 2, some FieldType.boolean, 11, []),
  (⟨"SkyTailor$Book", "isSo", "(LSkyTailor$Patterns;II)Z"⟩, prog_2_method_6_code, 6, some FieldType.boolean, 0, []),
  (⟨"SkyTailor$Book", "kindLater", "(LSkyTailor$Patterns;III)I"⟩, prog_2_method_7_code, 4, some FieldType.int, 0, []),
  (⟨"SkyTailor", "image", "()I"⟩, prog_1_method_39_code, 1, some FieldType.int, 11, []),
  (⟨"SkyTailor$Past", "keepImage", "(LSkyTailor$Stand;)Z"⟩, prog_5_method_6_code, 3, some FieldType.boolean, 3, []),
  (⟨"SkyTailor", "restore", "()I"⟩, prog_1_method_40_code, 1, some FieldType.int, 11, []),
  (⟨"SkyTailor$Past", "takeImage", "(LSkyTailor$Stand;)V"⟩, prog_5_method_7_code, 3, none, 3, []),
  (⟨"SkyTailor", "status", "(I)I"⟩, prog_1_method_41_code, 2, some FieldType.int, 11, []),
  (⟨"SkyTailor", "count", "(I)I"⟩, prog_1_method_42_code, 2, some FieldType.int, 11, []),
  (⟨"SkyTailorLaw", "shop", "(LSkyTailor;I[J)I"⟩, method_3_code, 4, some FieldType.int, 13, [(0, 9, 12, 13)]),
  (⟨"SkyTailor", "shop", "(I)I"⟩, prog_1_method_3_code, 2, some FieldType.int, 11, []),
  (⟨"SkyTailor", "needText", "(II)V"⟩, prog_1_method_49_code, 3, none, 11, []),
  (⟨"SkyTailor", "needWithin", "(III)V"⟩, prog_1_method_48_code, 4, none, 11, []),
  (⟨"SkyTailor", "refuseArgument", "()V"⟩, prog_1_method_44_code, 1, none, 11, [])]
def ta_M1 : List ta_Me := [
  (⟨"SkyTailor$Tape", "open", "(I)V"⟩, prog_10_method_3_code, 2, none, 8, []),
  (⟨"SkyTailor$Shop", "readFrom", "(LSkyTailor$Tape;)V"⟩, prog_8_method_3_code, 3, none, 6, []),
  (⟨"SkyTailor$Tape", "hasMore", "()Z"⟩, prog_10_method_9_code, 1, some FieldType.boolean, 8, []),
  (⟨"SkyTailor$Tape", "next", "()I"⟩, prog_10_method_7_code, 1, some FieldType.int, 8, []),
  (⟨"SkyTailor$Shop", "readClause", "(LSkyTailor$Tape;I)V"⟩, prog_8_method_4_code, 4, none, 6, []),
  (⟨"SkyTailor$Tape", "word", "(Ljava/lang/String;)I"⟩, prog_10_method_16_code, 3, some FieldType.int, 8, []),
  (⟨"SkyTailor$Tape", "byteAt", "(I)I"⟩, prog_10_method_8_code, 2, some FieldType.int, 8, []),
  (⟨"SkyTailor$Tape", "isLetter", "(I)Z"⟩, prog_10_method_13_code, 1, some FieldType.boolean, 8, []),
  (⟨"SkyTailor$Tape", "placeIn", "(Ljava/lang/String;)I"⟩, prog_10_method_17_code, 5, some FieldType.int, 8, []),
  (⟨"SkyTailor$Tape", "isSpelt", "(Ljava/lang/String;II)Z"⟩, prog_10_method_18_code, 5, some FieldType.boolean, 8, []),
  (⟨"SkyTailor$Tape", "fail", "(II)V"⟩, prog_10_method_6_code, 3, none, 8, []),
  (⟨"SkyTailor$Shop", "readBolt", "(LSkyTailor$Tape;)V"⟩, prog_8_method_6_code, 2, none, 6, []),
  (⟨"SkyTailor$Shop", "needRoom", "(LSkyTailor$Tape;II)V"⟩, prog_8_method_5_code, 3, none, 6, []),
  (⟨"SkyTailor$Tape", "number", "(II)I"⟩, prog_10_method_15_code, 4, some FieldType.int, 8, []),
  (⟨"SkyTailor$Tape", "isDigit", "(I)Z"⟩, prog_10_method_12_code, 1, some FieldType.boolean, 8, []),
  (⟨"SkyTailor$Shop", "readClient", "(LSkyTailor$Tape;)V"⟩, prog_8_method_7_code, 2, none, 6, []),
  (⟨"SkyTailor$Shop", "readWant", "(LSkyTailor$Tape;)V"⟩, prog_8_method_8_code, 4, none, 6, []),
  (⟨"SkyTailor$Shop", "readOrder", "(LSkyTailor$Tape;)V"⟩, prog_8_method_9_code, 3, none, 6, []),
  (⟨"SkyTailor$Tape", "sign", "(C)V"⟩, prog_10_method_14_code, 3, none, 8, []),
  (⟨"SkyTailor$Tape", "isSound", "()Z"⟩, prog_10_method_5_code, 1, some FieldType.boolean, 8, []),
  (⟨"SkyTailor$Shop", "copyFrom", "(LSkyTailor$Shop;)V"⟩, prog_8_method_2_code, 2, none, 6, []),
  (⟨"SkyTailor$Patterns", "forget", "()V"⟩, prog_6_method_2_code, 1, none, 4, []),
  (⟨"SkyTailor$Moths", "forget", "()V"⟩, prog_4_method_2_code, 1, none, 2, []),
  (⟨"SkyTailor$Book", "forget", "()V"⟩, prog_2_method_2_code, 1, none, 0, []),
  (⟨"SkyTailor$Past", "forget", "()V"⟩, prog_5_method_2_code, 1, none, 3, []),
  (⟨"SkyTailor$Tape", "close", "(I)I"⟩, prog_10_method_4_code, 2, some FieldType.int, 8, []),
  (⟨"SkyTailorLaw", "pattern", "(LSkyTailor;II[J)I"⟩, method_4_code, 5, some FieldType.int, 13, [(0, 10, 13, 19), (0, 10, 17, 13)]),
  (⟨"SkyTailor", "pattern", "(II)I"⟩, prog_1_method_4_code, 3, some FieldType.int, 11, []),
  (⟨"SkyTailor", "needPattern", "(I)V"⟩, prog_1_method_47_code, 2, none, 11, []),
  (⟨"SkyTailor", "needElement", "(II)V"⟩, prog_1_method_46_code, 3, none, 11, []),
  (⟨"SkyTailor", "refuseElement", "()V"⟩, prog_1_method_43_code, 1, none, 11, []),
  (⟨"SkyTailor$Patterns", "readFrom", "(LSkyTailor$Tape;)V"⟩, prog_6_method_6_code, 2, none, 4, []),
  (⟨"SkyTailor$Patterns", "readParts", "(LSkyTailor$Tape;I)V"⟩, prog_6_method_7_code, 4, none, 4, []),
  (⟨"SkyTailor$Tape", "isNext", "(C)Z"⟩, prog_10_method_10_code, 2, some FieldType.boolean, 8, []),
  (⟨"SkyTailor$Tape", "isNumberNext", "()Z"⟩, prog_10_method_11_code, 1, some FieldType.boolean, 8, []),
  (⟨"SkyTailor$Patterns", "readHours", "(LSkyTailor$Tape;I)V"⟩, prog_6_method_8_code, 6, none, 4, []),
  (⟨"SkyTailor$Patterns", "addHour", "(II)V"⟩, prog_6_method_10_code, 4, none, 4, []),
  (⟨"SkyTailor$Patterns", "readAgain", "(LSkyTailor$Tape;I)V"⟩, prog_6_method_9_code, 7, none, 4, []),
  (⟨"SkyTailor$Patterns", "keep", "(I)V"⟩, prog_6_method_5_code, 2, none, 4, []),
  (⟨"SkyTailor", "runsOf", "([II)I"⟩, prog_1_method_67_code, 6, some FieldType.int, 11, [])]
def ta_M2 : List ta_Me := [
  (⟨"SkyTailorLaw", "law", "(LSkyTailor;I[J)I"⟩, method_5_code, 4, some FieldType.int, 13, [(0, 9, 12, 13)]),
  (⟨"SkyTailor", "law", "(I)I"⟩, prog_1_method_5_code, 2, some FieldType.int, 11, []),
  (⟨"SkyTailor$Moths", "readFrom", "(LSkyTailor$Tape;)V"⟩, prog_4_method_4_code, 2, none, 2, []),
  (⟨"SkyTailor$Moths", "readSum", "(LSkyTailor$Tape;I)V"⟩, prog_4_method_6_code, 5, none, 2, []),
  (⟨"SkyTailor$Moths", "readProduct", "(LSkyTailor$Tape;I)V"⟩, prog_4_method_7_code, 5, none, 2, []),
  (⟨"SkyTailor$Moths", "readUnit", "(LSkyTailor$Tape;I)V"⟩, prog_4_method_8_code, 3, none, 2, []),
  (⟨"SkyTailor$Moths", "write", "(I)V"⟩, prog_4_method_5_code, 2, none, 2, []),
  (⟨"SkyTailor$Moths", "needRoom", "(LSkyTailor$Tape;I)V"⟩, prog_4_method_10_code, 3, none, 2, []),
  (⟨"SkyTailor$Moths", "readInside", "(LSkyTailor$Tape;I)V"⟩, prog_4_method_11_code, 3, none, 2, []),
  (⟨"SkyTailor$Moths", "readNamed", "(LSkyTailor$Tape;II)V"⟩, prog_4_method_9_code, 4, none, 2, []),
  (⟨"SkyTailor$Moths", "keep", "()V"⟩, prog_4_method_3_code, 1, none, 2, []),
  (⟨"SkyTailorLaw", "work", "(LSkyTailor;I[J)I"⟩, method_6_code, 4, some FieldType.int, 13, [(0, 9, 12, 13)]),
  (⟨"SkyTailor", "work", "(I)I"⟩, prog_1_method_6_code, 2, some FieldType.int, 11, []),
  (⟨"SkyTailor$Past", "isFull", "()Z"⟩, prog_5_method_3_code, 1, some FieldType.boolean, 3, []),
  (⟨"SkyTailor$Plan", "readFrom", "(LSkyTailor$Tape;LSkyTailor$Shop;)V"⟩, prog_7_method_2_code, 3, none, 5, []),
  (⟨"SkyTailor$Plan", "readSteps", "(LSkyTailor$Tape;LSkyTailor$Shop;I)V"⟩, prog_7_method_3_code, 5, none, 5, []),
  (⟨"SkyTailor$Plan", "readStep", "(LSkyTailor$Tape;LSkyTailor$Shop;I)V"⟩, prog_7_method_4_code, 6, none, 5, []),
  (⟨"SkyTailor$Plan", "write", "(III)V"⟩, prog_7_method_6_code, 4, none, 5, []),
  (⟨"SkyTailor$Plan", "readAgain", "(LSkyTailor$Tape;LSkyTailor$Shop;II)V"⟩, prog_7_method_5_code, 5, none, 5, []),
  (⟨"SkyTailor$Past", "keepWork", "(LSkyTailor$Stand;)V"⟩, prog_5_method_4_code, 2, none, 3, []),
  (⟨"SkyTailor$Plan", "begin", "()V"⟩, prog_7_method_8_code, 1, none, 5, []),
  (⟨"SkyTailor$Plan", "doSteps", "(LSkyTailor$Trade;III)V"⟩, prog_7_method_9_code, 6, none, 5, []),
  (⟨"SkyTailor$Plan", "part", "(II)I"⟩, prog_7_method_7_code, 3, some FieldType.int, 5, []),
  (⟨"SkyTailor$Plan", "doAgain", "(LSkyTailor$Trade;II)V"⟩, prog_7_method_10_code, 5, none, 5, []),
  (⟨"SkyTailor$Trade", "step", "(IIII)Z"⟩, prog_12_method_2_code, 5, some FieldType.boolean, 10, []),
  (⟨"SkyTailor$Trade", "cutSuit", "(II)Z"⟩, prog_12_method_4_code, 3, some FieldType.boolean, 10, []),
  (⟨"SkyTailor$Trade", "allowsCut", "(II)Z"⟩, prog_12_method_3_code, 3, some FieldType.boolean, 10, []),
  (⟨"SkyTailor$Stand", "copyFrom", "(LSkyTailor$Stand;)V"⟩, prog_9_method_3_code, 2, none, 7, []),
  (⟨"SkyTailor$Stand", "hasSuit", "(I)Z"⟩, prog_9_method_10_code, 2, some FieldType.boolean, 7, []),
  (⟨"SkyTailor$Stand", "takePattern", "(LSkyTailor$Shop;LSkyTailor$Patterns;I)Z"⟩, prog_9_method_25_code, 7, some FieldType.boolean, 7, []),
  (⟨"SkyTailor$Patterns", "kindAt", "(II)I"⟩, prog_6_method_4_code, 3, some FieldType.int, 4, []),
  (⟨"SkyTailor$Stand", "take", "(LSkyTailor$Shop;II)Z"⟩, prog_9_method_24_code, 8, some FieldType.boolean, 7, []),
  (⟨"SkyTailor$Stand", "dress", "(I[II)V"⟩, prog_9_method_17_code, 4, none, 7, []),
  (⟨"SkyTailor$Stand", "day", "()I"⟩, prog_9_method_4_code, 1, some FieldType.int, 7, []),
  (⟨"SkyTailor$Stand", "suitAt", "(I)I"⟩, prog_9_method_12_code, 2, some FieldType.int, 7, []),
  (⟨"SkyTailor$Trade", "alterHour", "(III)Z"⟩, prog_12_method_5_code, 4, some FieldType.boolean, 10, []),
  (⟨"SkyTailor$Stand", "wornAt", "(II)I"⟩, prog_9_method_13_code, 3, some FieldType.int, 7, []),
  (⟨"SkyTailor$Stand", "alter", "(III)V"⟩, prog_9_method_19_code, 4, none, 7, []),
  (⟨"SkyTailor$Trade", "turnSuit", "(I)Z"⟩, prog_12_method_6_code, 2, some FieldType.boolean, 10, []),
  (⟨"SkyTailor$Stand", "turn", "(I)V"⟩, prog_9_method_20_code, 4, none, 7, [])]
def ta_M3 : List ta_Me := [
  (⟨"SkyTailor$Trade", "stripSuit", "(I)Z"⟩, prog_12_method_7_code, 2, some FieldType.boolean, 10, []),
  (⟨"SkyTailor$Trade", "sellOrder", "(I)Z"⟩, prog_12_method_10_code, 2, some FieldType.boolean, 10, []),
  (⟨"SkyTailor$Trade", "allowsSale", "(I)Z"⟩, prog_12_method_9_code, 4, some FieldType.boolean, 10, []),
  (⟨"SkyTailor$Shop", "orderPart", "(II)I"⟩, prog_8_method_13_code, 3, some FieldType.int, 6, []),
  (⟨"SkyTailor$Trade", "stateOf", "(I)I"⟩, prog_12_method_8_code, 2, some FieldType.int, 10, []),
  (⟨"SkyTailor$Stand", "isSold", "(I)Z"⟩, prog_9_method_21_code, 2, some FieldType.boolean, 7, []),
  (⟨"SkyTailor", "alike", "([II[II)Z"⟩, prog_1_method_69_code, 5, some FieldType.boolean, 11, []),
  (⟨"SkyTailor$Stand", "sell", "(II)V"⟩, prog_9_method_22_code, 3, none, 7, []),
  (⟨"SkyTailor$Stand", "pence", "()I"⟩, prog_9_method_5_code, 1, some FieldType.int, 7, []),
  (⟨"SkyTailor$Trade", "passDay", "(LSkyTailor$Stand;)Z"⟩, prog_12_method_11_code, 3, some FieldType.boolean, 10, []),
  (⟨"SkyTailor$Stand", "nextDay", "()V"⟩, prog_9_method_23_code, 1, none, 7, []),
  (⟨"SkyTailor$Moths", "eat", "(LSkyTailor$Stand;I)V"⟩, prog_4_method_12_code, 4, none, 2, []),
  (⟨"SkyTailor$Stand", "ageOf", "(I)I"⟩, prog_9_method_14_code, 2, some FieldType.int, 7, []),
  (⟨"SkyTailor", "seamsOf", "([II)I"⟩, prog_1_method_66_code, 4, some FieldType.int, 11, []),
  (⟨"SkyTailor$Moths", "value", "()I"⟩, prog_4_method_13_code, 4, some FieldType.int, 2, []),
  (⟨"SkyTailor$Moths", "reckon", "(III)I"⟩, prog_4_method_14_code, 3, some FieldType.int, 2, []),
  (⟨"SkyTailorLaw", "book", "(LSkyTailor;I[J)I"⟩, method_7_code, 4, some FieldType.int, 13, [(0, 9, 12, 13)]),
  (⟨"SkyTailor", "book", "(I)I"⟩, prog_1_method_7_code, 2, some FieldType.int, 11, []),
  (⟨"SkyTailor$Book", "readFrom", "(LSkyTailor$Tape;)V"⟩, prog_2_method_4_code, 4, none, 0, []),
  (⟨"SkyTailor$Book", "keep", "()V"⟩, prog_2_method_3_code, 1, none, 0, []),
  (⟨"SkyTailorLaw", "told", "(LSkyTailor;I[J)I"⟩, method_8_code, 4, some FieldType.int, 13, [(0, 9, 12, 13)]),
  (⟨"SkyTailor", "told", "(I)I"⟩, prog_1_method_10_code, 2, some FieldType.int, 11, []),
  (⟨"SkyTailor$Stand", "hoursLeft", "()I"⟩, prog_9_method_7_code, 3, some FieldType.int, 7, []),
  (⟨"SkyTailor$Stand", "leftOn", "(I)I"⟩, prog_9_method_6_code, 2, some FieldType.int, 7, []),
  (⟨"SkyTailor$Stand", "suits", "()I"⟩, prog_9_method_11_code, 3, some FieldType.int, 7, []),
  (⟨"SkyTailorLaw", "bolt", "(LSkyTailor;II[J)I"⟩, method_9_code, 5, some FieldType.int, 13, [(0, 10, 13, 19), (0, 10, 17, 13)]),
  (⟨"SkyTailor", "bolt", "(II)I"⟩, prog_1_method_11_code, 3, some FieldType.int, 11, []),
  (⟨"SkyTailor$Shop", "boltKind", "(I)I"⟩, prog_8_method_10_code, 2, some FieldType.int, 6, []),
  (⟨"SkyTailorLaw", "client", "(LSkyTailor;II[J)I"⟩, method_10_code, 5, some FieldType.int, 13, [(0, 10, 13, 19), (0, 10, 17, 13)]),
  (⟨"SkyTailor", "client", "(II)I"⟩, prog_1_method_12_code, 3, some FieldType.int, 11, []),
  (⟨"SkyTailor$Shop", "streetOf", "(I)I"⟩, prog_8_method_11_code, 2, some FieldType.int, 6, []),
  (⟨"SkyTailor$Shop", "wantsOf", "(I)I"⟩, prog_8_method_15_code, 4, some FieldType.int, 6, []),
  (⟨"SkyTailor$Shop", "wantPart", "(II)I"⟩, prog_8_method_12_code, 3, some FieldType.int, 6, []),
  (⟨"SkyTailor", "suitFact", "(II)I"⟩, prog_1_method_53_code, 3, some FieldType.int, 11, []),
  (⟨"SkyTailor$Stand", "bareHours", "(I)I"⟩, prog_9_method_15_code, 2, some FieldType.int, 7, []),
  (⟨"SkyTailor", "hoursOf", "([III)I"⟩, prog_1_method_68_code, 5, some FieldType.int, 11, []),
  (⟨"SkyTailorLaw", "want", "(LSkyTailor;II[J)I"⟩, method_11_code, 5, some FieldType.int, 13, [(0, 10, 13, 19), (0, 10, 17, 13)]),
  (⟨"SkyTailor", "want", "(II)I"⟩, prog_1_method_13_code, 4, some FieldType.int, 11, []),
  (⟨"SkyTailor$Shop", "isMet", "(I[II)Z"⟩, prog_8_method_17_code, 6, some FieldType.boolean, 6, []),
  (⟨"SkyTailorLaw", "order", "(LSkyTailor;II[J)I"⟩, method_12_code, 5, some FieldType.int, 13, [(0, 10, 13, 19), (0, 10, 17, 13)])]
def ta_M4 : List ta_Me := [
  (⟨"SkyTailor", "order", "(II)I"⟩, prog_1_method_14_code, 3, some FieldType.int, 11, []),
  (⟨"SkyTailorLaw", "wears", "(LSkyTailor;II[J)I"⟩, method_13_code, 5, some FieldType.int, 13, [(0, 10, 13, 19), (0, 10, 17, 13)]),
  (⟨"SkyTailor", "wears", "(II)I"⟩, prog_1_method_15_code, 4, some FieldType.int, 11, []),
  (⟨"SkyTailorLaw", "sky", "(LSkyTailor;II[J)I"⟩, method_14_code, 5, some FieldType.int, 13, [(0, 10, 13, 19), (0, 10, 17, 13)]),
  (⟨"SkyTailor", "sky", "(II)I"⟩, prog_1_method_16_code, 3, some FieldType.int, 11, []),
  (⟨"SkyTailorLaw", "cloth", "(LSkyTailor;II[J)I"⟩, method_15_code, 5, some FieldType.int, 13, [(0, 10, 13, 13)]),
  (⟨"SkyTailor", "cloth", "(II)I"⟩, prog_1_method_17_code, 3, some FieldType.int, 11, []),
  (⟨"SkyTailor", "clothOnBolts", "(I)I"⟩, prog_1_method_56_code, 4, some FieldType.int, 11, []),
  (⟨"SkyTailor", "clothInSuits", "(I)I"⟩, prog_1_method_57_code, 4, some FieldType.int, 11, []),
  (⟨"SkyTailor", "clothInOrders", "(I)I"⟩, prog_1_method_58_code, 5, some FieldType.int, 11, []),
  (⟨"SkyTailorLaw", "can", "(LSkyTailor;II[J)I"⟩, method_16_code, 5, some FieldType.int, 13, [(0, 17, 20, 19)]),
  (⟨"SkyTailor", "can", "(II)Z"⟩, prog_1_method_18_code, 3, some FieldType.boolean, 11, []),
  (⟨"SkyTailorLaw", "ready", "(LSkyTailor;I[J)I"⟩, method_17_code, 4, some FieldType.int, 13, [(0, 16, 19, 19)]),
  (⟨"SkyTailor", "ready", "(I)Z"⟩, prog_1_method_19_code, 2, some FieldType.boolean, 11, []),
  (⟨"SkyTailorLaw", "fit", "(LSkyTailor;I[J)I"⟩, method_18_code, 4, some FieldType.int, 13, [(0, 9, 12, 19)]),
  (⟨"SkyTailor", "fit", "(I)I"⟩, prog_1_method_20_code, 2, some FieldType.int, 11, []),
  (⟨"SkyTailor", "fitOfSuit", "(LSkyTailor$Stand;I)I"⟩, prog_1_method_54_code, 3, some FieldType.int, 11, []),
  (⟨"SkyTailor$Shop", "fitOf", "(I[II)I"⟩, prog_8_method_18_code, 6, some FieldType.int, 6, []),
  (⟨"SkyTailorLaw", "tries", "(LSkyTailor;II[J)I"⟩, method_19_code, 5, some FieldType.int, 13, [(0, 10, 13, 19), (0, 10, 17, 68)]),
  (⟨"SkyTailor", "tries", "(II)I"⟩, prog_1_method_21_code, 3, some FieldType.int, 11, []),
  (⟨"SkyTailor", "needTold", "(I)V"⟩, prog_1_method_52_code, 2, none, 11, []),
  (⟨"SkyTailor", "refuseState", "()V"⟩, prog_1_method_45_code, 1, none, 11, []),
  (⟨"SkyTailorLaw", "best", "(LSkyTailor;I[J)I"⟩, method_20_code, 4, some FieldType.int, 13, [(0, 9, 12, 19)]),
  (⟨"SkyTailor", "best", "(I)I"⟩, prog_1_method_22_code, 2, some FieldType.int, 11, []),
  (⟨"SkyTailor$Fitting", "findBest", "(I)I"⟩, prog_3_method_2_code, 6, some FieldType.int, 1, []),
  (⟨"SkyTailor$Fitting", "gain", "(IIII)I"⟩, prog_3_method_4_code, 8, some FieldType.int, 1, []),
  (⟨"SkyTailor$Fitting", "onward", "(III)I"⟩, prog_3_method_5_code, 4, some FieldType.int, 1, []),
  (⟨"SkyTailor$Fitting", "onwardKind", "(III)I"⟩, prog_3_method_6_code, 6, some FieldType.int, 1, []),
  (⟨"SkyTailor$Fitting", "worthOf", "(IIII)I"⟩, prog_3_method_7_code, 5, some FieldType.int, 1, []),
  (⟨"SkyTailor$Fitting", "cell", "(III)I"⟩, prog_3_method_3_code, 3, some FieldType.int, 1, []),
  (⟨"SkyTailor$Fitting", "follow", "(I)V"⟩, prog_3_method_8_code, 6, none, 1, []),
  (⟨"SkyTailorLaw", "bestAt", "(LSkyTailor;II[J)I"⟩, method_21_code, 5, some FieldType.int, 13, [(0, 10, 13, 19), (0, 10, 17, 13)]),
  (⟨"SkyTailor", "bestAt", "(II)I"⟩, prog_1_method_23_code, 3, some FieldType.int, 11, []),
  (⟨"SkyTailorLaw", "clashes", "(LSkyTailor;I[J)I"⟩, method_22_code, 4, some FieldType.int, 13, [(0, 9, 12, 19)]),
  (⟨"SkyTailor", "clashes", "(I)I"⟩, prog_1_method_24_code, 2, some FieldType.int, 11, []),
  (⟨"SkyTailor$Shop", "clashesAmong", "(I)I"⟩, prog_8_method_20_code, 5, some FieldType.int, 6, []),
  (⟨"SkyTailor$Shop", "clash", "(II)Z"⟩, prog_8_method_19_code, 3, some FieldType.boolean, 6, []),
  (⟨"SkyTailorLaw", "mend", "(LSkyTailor;II[J)I"⟩, method_23_code, 5, some FieldType.int, 13, [(0, 10, 13, 19), (0, 10, 17, 13)]),
  (⟨"SkyTailor", "mend", "(II)I"⟩, prog_1_method_25_code, 6, some FieldType.int, 11, []),
  (⟨"SkyTailor", "needBits", "(II)V"⟩, prog_1_method_50_code, 3, none, 11, [])]
def ta_M5 : List ta_Me := [
  (⟨"SkyTailor$Shop", "kindWanted", "(II)I"⟩, prog_8_method_21_code, 4, some FieldType.int, 6, []),
  (⟨"SkyTailor$Shop", "covers", "(II)Z"⟩, prog_8_method_16_code, 3, some FieldType.boolean, 6, []),
  (⟨"SkyTailorLaw", "pieces", "(LSkyTailor;I[J)I"⟩, method_24_code, 4, some FieldType.int, 13, [(0, 9, 12, 13), (0, 9, 15, 68)]),
  (⟨"SkyTailor", "pieces", "(I)I"⟩, prog_1_method_26_code, 2, some FieldType.int, 11, []),
  (⟨"SkyTailor$Shop", "allOrders", "()I"⟩, prog_8_method_14_code, 1, some FieldType.int, 6, []),
  (⟨"SkyTailor$Tasks", "canBePacked", "(I)Z"⟩, prog_11_method_3_code, 4, some FieldType.boolean, 9, []),
  (⟨"SkyTailor$Tasks", "patternOf", "(I)I"⟩, prog_11_method_2_code, 2, some FieldType.int, 9, []),
  (⟨"SkyTailor$Tasks", "fewestBolts", "(I)I"⟩, prog_11_method_4_code, 5, some FieldType.int, 9, []),
  (⟨"SkyTailor$Tasks", "gatherRuns", "(II)V"⟩, prog_11_method_5_code, 4, none, 9, []),
  (⟨"SkyTailor$Tasks", "addRuns", "(II)V"⟩, prog_11_method_6_code, 5, none, 9, []),
  (⟨"SkyTailor$Tasks", "gatherSizes", "(I)V"⟩, prog_11_method_7_code, 4, none, 9, []),
  (⟨"SkyTailor$Tasks", "pack", "()I"⟩, prog_11_method_8_code, 5, some FieldType.int, 9, []),
  (⟨"SkyTailor$Tasks", "addRun", "(II)I"⟩, prog_11_method_9_code, 5, some FieldType.int, 9, []),
  (⟨"SkyTailorLaw", "sewn", "(LSkyTailor;II[J)I"⟩, method_25_code, 5, some FieldType.int, 13, [(0, 10, 13, 13)]),
  (⟨"SkyTailor", "sewn", "(II)I"⟩, prog_1_method_27_code, 4, some FieldType.int, 11, []),
  (⟨"SkyTailor$Tasks", "bestInTime", "(I)I"⟩, prog_11_method_10_code, 5, some FieldType.int, 9, []),
  (⟨"SkyTailor$Tasks", "isInTime", "(I)Z"⟩, prog_11_method_12_code, 4, some FieldType.boolean, 9, []),
  (⟨"SkyTailor$Tasks", "hoursDueBy", "(II)I"⟩, prog_11_method_13_code, 6, some FieldType.int, 9, []),
  (⟨"SkyTailor$Tasks", "together", "(II)I"⟩, prog_11_method_11_code, 5, some FieldType.int, 9, []),
  (⟨"SkyTailorLaw", "words", "(LSkyTailor;I[J)I"⟩, method_26_code, 4, some FieldType.int, 13, [(0, 9, 12, 13)]),
  (⟨"SkyTailor", "words", "(I)I"⟩, prog_1_method_28_code, 5, some FieldType.int, 11, []),
  (⟨"SkyTailor$Stand", "unlikeHours", "(II)I"⟩, prog_9_method_16_code, 7, some FieldType.int, 7, []),
  (⟨"SkyTailorLaw", "offers", "(LSkyTailor;II[J)I"⟩, method_27_code, 5, some FieldType.int, 13, [(0, 9, 12, 13)]),
  (⟨"SkyTailor", "offers", "(II)J"⟩, prog_1_method_29_code, 3, some FieldType.long, 11, []),
  (⟨"SkyTailor", "meanPrice", "(II)J"⟩, prog_1_method_59_code, 12, some FieldType.long, 11, []),
  (⟨"SkyTailor", "wholeOf", "(JJ)I"⟩, prog_1_method_60_code, 4, some FieldType.int, 11, []),
  (⟨"SkyTailor", "commonPart", "(JJ)J"⟩, prog_1_method_61_code, 11, some FieldType.long, 11, []),
  (⟨"SkyTailorLaw", "line", "(LSkyTailor;I[J)I"⟩, method_28_code, 4, some FieldType.int, 13, [(0, 9, 12, 13)]),
  (⟨"SkyTailor", "line", "(I)I"⟩, prog_1_method_30_code, 2, some FieldType.int, 11, []),
  (⟨"SkyTailorLaw", "skies", "(LSkyTailor;I[J)I"⟩, method_29_code, 4, some FieldType.int, 13, [(0, 9, 12, 19)]),
  (⟨"SkyTailor", "skies", "(I)I"⟩, prog_1_method_31_code, 2, some FieldType.int, 11, []),
  (⟨"SkyTailorLaw", "look", "(LSkyTailor;I[J)I"⟩, method_30_code, 4, some FieldType.int, 13, [(0, 9, 12, 13)]),
  (⟨"SkyTailor", "look", "(I)I"⟩, prog_1_method_33_code, 3, some FieldType.int, 11, []),
  (⟨"SkyTailor$Book", "hourToLookAt", "(LSkyTailor$Patterns;)I"⟩, prog_2_method_8_code, 5, some FieldType.int, 0, []),
  (⟨"SkyTailor$Book", "countChances", "(LSkyTailor$Patterns;)V"⟩, prog_2_method_10_code, 5, none, 0, []),
  (⟨"SkyTailor$Book", "countSky", "(LSkyTailor$Patterns;II)V"⟩, prog_2_method_11_code, 6, none, 0, []),
  (⟨"SkyTailor$Book", "leftAtWorst", "(I)I"⟩, prog_2_method_9_code, 4, some FieldType.int, 0, []),
  (⟨"SkyTailorLaw", "tailors", "(LSkyTailor;I[J)I"⟩, method_31_code, 4, some FieldType.int, 13, [(0, 9, 12, 13)]),
  (⟨"SkyTailor", "tailors", "(I)I"⟩, prog_1_method_34_code, 3, some FieldType.int, 11, []),
  (⟨"SkyTailor$Fitting", "compare", "()V"⟩, prog_3_method_9_code, 3, none, 1, [])]
def ta_M6 : List ta_Me := [
  (⟨"SkyTailor$Fitting", "rests", "()I"⟩, prog_3_method_13_code, 4, some FieldType.int, 1, []),
  (⟨"SkyTailor$Fitting", "rest", "(II)Z"⟩, prog_3_method_12_code, 3, some FieldType.boolean, 1, []),
  (⟨"SkyTailor$Fitting", "isBestAgainst", "(II)Z"⟩, prog_3_method_11_code, 4, some FieldType.boolean, 1, []),
  (⟨"SkyTailor$Fitting", "share", "(II)I"⟩, prog_3_method_10_code, 7, some FieldType.int, 1, []),
  (⟨"SkyTailor$Fitting", "firstRest", "()I"⟩, prog_3_method_14_code, 3, some FieldType.int, 1, []),
  (⟨"SkyTailorLaw", "gets", "(LSkyTailor;II[J)I"⟩, method_32_code, 5, some FieldType.int, 13, [(0, 10, 13, 19), (0, 10, 17, 68)]),
  (⟨"SkyTailor", "gets", "(II)I"⟩, prog_1_method_35_code, 3, some FieldType.int, 11, []),
  (⟨"SkyTailorLaw", "ahead", "(LSkyTailor;III[J)I"⟩, method_33_code, 6, some FieldType.int, 13, [(0, 12, 15, 19), (0, 12, 19, 13)]),
  (⟨"SkyTailor", "ahead", "(III)I"⟩, prog_1_method_36_code, 4, some FieldType.int, 11, []),
  (⟨"SkyTailor$Trade", "passDays", "(LSkyTailor$Stand;I)V"⟩, prog_12_method_12_code, 4, none, 10, []),
  (⟨"SkyTailorLaw", "years", "(LSkyTailor;IIII[J)I"⟩, method_34_code, 7, some FieldType.int, 13, [(0, 14, 17, 13)]),
  (⟨"SkyTailor", "years", "(IIII)I"⟩, prog_1_method_37_code, 5, some FieldType.int, 11, []),
  (⟨"SkyTailor", "needYears", "(III)V"⟩, prog_1_method_51_code, 4, none, 11, []),
  (⟨"SkyTailor", "allBareHours", "(LSkyTailor$Stand;)I"⟩, prog_1_method_55_code, 4, some FieldType.int, 11, []),
  (⟨"SkyTailor$Trade", "shorten", "(LSkyTailor$Stand;III)V"⟩, prog_12_method_13_code, 6, none, 10, []),
  (⟨"SkyTailor$Trade", "draw", "(I)I"⟩, prog_12_method_14_code, 2, some FieldType.int, 10, []),
  (⟨"SkyTailor$Stand", "shortenBolt", "(I)V"⟩, prog_9_method_9_code, 2, none, 7, []),
  (⟨"SkyTailor$Stand", "emptyBolts", "(I)I"⟩, prog_9_method_8_code, 4, some FieldType.int, 7, []),
  (⟨"SkyTailorLaw", "span", "(LSkyTailor;IIIIII[J)I"⟩, method_35_code, 9, some FieldType.int, 13, [(0, 18, 21, 13)]),
  (⟨"SkyTailor", "span", "(IIIIII)I"⟩, prog_1_method_38_code, 11, some FieldType.int, 11, []),
  (⟨"SkyTailorModel", "<init>", "()V"⟩, prog_14_method_1_code, 1, none, 12, []),
  (⟨"SkyTailorModel", "tellsNothing", "()V"⟩, prog_14_method_2_code, 2, none, 12, []),
  (⟨"SkyTailorModel", "stands", "()V"⟩, prog_14_method_31_code, 2, none, 12, []),
  (⟨"SkyTailorModel", "lays", "([[I[[II)V"⟩, prog_14_method_30_code, 5, none, 12, []),
  (⟨"SkyTailorModel", "in", "(III)Z"⟩, prog_14_method_5_code, 3, some FieldType.boolean, 12, []),
  (⟨"SkyTailorModel", "thrown", "()I"⟩, prog_14_method_3_code, 1, some FieldType.int, 12, []),
  (⟨"SkyTailorModel", "feed", "(IIIII)I"⟩, prog_14_method_9_code, 8, some FieldType.int, 12, []),
  (⟨"SkyTailorModel", "shop", "(I)I"⟩, prog_14_method_29_code, 2, some FieldType.int, 12, []),
  (⟨"SkyTailorModel", "bad", "(ZII)Z"⟩, prog_14_method_4_code, 4, some FieldType.boolean, 12, []),
  (⟨"SkyTailorModel", "starts", "(I)V"⟩, prog_14_method_23_code, 2, none, 12, []),
  (⟨"SkyTailorModel", "blanks", "()V"⟩, prog_14_method_11_code, 1, none, 12, []),
  (⟨"SkyTailorModel", "byteAt", "(I)I"⟩, prog_14_method_10_code, 2, some FieldType.int, 12, []),
  (⟨"SkyTailorModel", "clause", "()V"⟩, prog_14_method_28_code, 3, none, 12, []),
  (⟨"SkyTailorModel", "kindHere", "()I"⟩, prog_14_method_26_code, 1, some FieldType.int, 12, []),
  (⟨"SkyTailorModel", "isWord", "(IIIIII)Z"⟩, prog_14_method_18_code, 7, some FieldType.boolean, 12, []),
  (⟨"SkyTailorModel", "wordHere", "()I"⟩, prog_14_method_16_code, 3, some FieldType.int, 12, []),
  (⟨"SkyTailorModel", "isSmall", "(I)Z"⟩, prog_14_method_14_code, 1, some FieldType.boolean, 12, []),
  (⟨"SkyTailorModel", "six", "(IIIIII)I"⟩, prog_14_method_17_code, 7, some FieldType.int, 12, []),
  (⟨"SkyTailorModel", "wrong", "(II)V"⟩, prog_14_method_12_code, 3, none, 12, []),
  (⟨"SkyTailorModel", "isFull", "(I)Z"⟩, prog_14_method_27_code, 2, some FieldType.boolean, 12, [])]
def ta_M7 : List ta_Me := [
  (⟨"SkyTailorModel", "skipWord", "()V"⟩, prog_14_method_19_code, 1, none, 12, []),
  (⟨"SkyTailorModel", "skyHere", "()I"⟩, prog_14_method_25_code, 1, some FieldType.int, 12, []),
  (⟨"SkyTailorModel", "takes", "(IIIIII)Z"⟩, prog_14_method_20_code, 8, some FieldType.boolean, 12, []),
  (⟨"SkyTailorModel", "number", "(II)I"⟩, prog_14_method_15_code, 5, some FieldType.int, 12, []),
  (⟨"SkyTailorModel", "isDigit", "(I)Z"⟩, prog_14_method_13_code, 1, some FieldType.boolean, 12, []),
  (⟨"SkyTailorModel", "sign", "(I)V"⟩, prog_14_method_21_code, 2, none, 12, []),
  (⟨"SkyTailorModel", "ends", "()I"⟩, prog_14_method_24_code, 1, some FieldType.int, 12, []),
  (⟨"SkyTailorModel", "pattern", "(II)I"⟩, prog_14_method_35_code, 4, some FieldType.int, 12, []),
  (⟨"SkyTailorModel", "isPattern", "(I)Z"⟩, prog_14_method_34_code, 2, some FieldType.boolean, 12, []),
  (⟨"SkyTailorModel", "part", "(I)V"⟩, prog_14_method_33_code, 6, none, 12, []),
  (⟨"SkyTailorModel", "opens", "()Z"⟩, prog_14_method_32_code, 1, some FieldType.boolean, 12, []),
  (⟨"SkyTailorModel", "runsOf", "([II)I"⟩, prog_14_method_36_code, 4, some FieldType.int, 12, []),
  (⟨"SkyTailorModel", "law", "(I)I"⟩, prog_14_method_44_code, 2, some FieldType.int, 12, []),
  (⟨"SkyTailorModel", "sum", "()V"⟩, prog_14_method_40_code, 2, none, 12, []),
  (⟨"SkyTailorModel", "product", "()V"⟩, prog_14_method_41_code, 2, none, 12, []),
  (⟨"SkyTailorModel", "one", "()V"⟩, prog_14_method_43_code, 3, none, 12, []),
  (⟨"SkyTailorModel", "notes", "(II)V"⟩, prog_14_method_39_code, 3, none, 12, []),
  (⟨"SkyTailorModel", "knownHere", "()I"⟩, prog_14_method_42_code, 1, some FieldType.int, 12, []),
  (⟨"SkyTailorModel", "takesSign", "(I)Z"⟩, prog_14_method_22_code, 3, some FieldType.boolean, 12, []),
  (⟨"SkyTailorModel", "work", "(I)I"⟩, prog_14_method_61_code, 2, some FieldType.int, 12, []),
  (⟨"SkyTailorModel", "readsStep", "()V"⟩, prog_14_method_48_code, 3, none, 12, []),
  (⟨"SkyTailorModel", "stepHere", "()I"⟩, prog_14_method_47_code, 1, some FieldType.int, 12, []),
  (⟨"SkyTailorModel", "copies", "([I[I)V"⟩, prog_14_method_51_code, 3, none, 12, []),
  (⟨"SkyTailorModel", "goes", "(II)V"⟩, prog_14_method_60_code, 5, none, 12, []),
  (⟨"SkyTailorModel", "does", "([I[I)Z"⟩, prog_14_method_59_code, 6, some FieldType.boolean, 12, []),
  (⟨"SkyTailorModel", "hasSuit", "([II)Z"⟩, prog_14_method_53_code, 2, some FieldType.boolean, 12, []),
  (⟨"SkyTailorModel", "canCut", "([III)Z"⟩, prog_14_method_54_code, 4, some FieldType.boolean, 12, []),
  (⟨"SkyTailorModel", "cuts", "([II)Z"⟩, prog_14_method_50_code, 6, some FieldType.boolean, 12, []),
  (⟨"SkyTailorModel", "runAt", "([III)I"⟩, prog_14_method_38_code, 4, some FieldType.int, 12, []),
  (⟨"SkyTailorModel", "boltFor", "([III)I"⟩, prog_14_method_49_code, 6, some FieldType.int, 12, []),
  (⟨"SkyTailorModel", "suitOf", "(I)I"⟩, prog_14_method_52_code, 1, some FieldType.int, 12, []),
  (⟨"SkyTailorModel", "isReady", "([II)Z"⟩, prog_14_method_56_code, 6, some FieldType.boolean, 12, []),
  (⟨"SkyTailorModel", "stateOf", "([II)I"⟩, prog_14_method_55_code, 3, some FieldType.int, 12, []),
  (⟨"SkyTailorModel", "has", "(II)Z"⟩, prog_14_method_8_code, 2, some FieldType.boolean, 12, []),
  (⟨"SkyTailorModel", "dayEnds", "([I)Z"⟩, prog_14_method_58_code, 3, some FieldType.boolean, 12, []),
  (⟨"SkyTailorModel", "eats", "([II)V"⟩, prog_14_method_57_code, 5, none, 12, []),
  (⟨"SkyTailorModel", "seamsOf", "([II)I"⟩, prog_14_method_37_code, 4, some FieldType.int, 12, []),
  (⟨"SkyTailorModel", "byLaw", "()I"⟩, prog_14_method_46_code, 3, some FieldType.int, 12, []),
  (⟨"SkyTailorModel", "by", "(III)I"⟩, prog_14_method_45_code, 3, some FieldType.int, 12, []),
  (⟨"SkyTailorModel", "less", "(II)I"⟩, prog_14_method_6_code, 2, some FieldType.int, 12, [])]
def ta_M8 : List ta_Me := [
  (⟨"SkyTailorModel", "more", "(II)I"⟩, prog_14_method_7_code, 2, some FieldType.int, 12, []),
  (⟨"SkyTailorModel", "undo", "()I"⟩, prog_14_method_62_code, 1, some FieldType.int, 12, []),
  (⟨"SkyTailorModel", "book", "(I)I"⟩, prog_14_method_63_code, 7, some FieldType.int, 12, []),
  (⟨"SkyTailorModel", "fault", "()I"⟩, prog_14_method_64_code, 1, some FieldType.int, 12, []),
  (⟨"SkyTailorModel", "told", "(I)I"⟩, prog_14_method_66_code, 4, some FieldType.int, 12, []),
  (⟨"SkyTailorModel", "onBolts", "([I)I"⟩, prog_14_method_65_code, 4, some FieldType.int, 12, []),
  (⟨"SkyTailorModel", "bolt", "(II)I"⟩, prog_14_method_70_code, 3, some FieldType.int, 12, []),
  (⟨"SkyTailorModel", "client", "(II)I"⟩, prog_14_method_73_code, 3, some FieldType.int, 12, []),
  (⟨"SkyTailorModel", "isClient", "(I)Z"⟩, prog_14_method_67_code, 2, some FieldType.boolean, 12, []),
  (⟨"SkyTailorModel", "wantsOf", "(I)I"⟩, prog_14_method_71_code, 4, some FieldType.int, 12, []),
  (⟨"SkyTailorModel", "bareOf", "([II)I"⟩, prog_14_method_72_code, 4, some FieldType.int, 12, []),
  (⟨"SkyTailorModel", "want", "(II)I"⟩, prog_14_method_75_code, 3, some FieldType.int, 12, []),
  (⟨"SkyTailorModel", "isMet", "([III)Z"⟩, prog_14_method_74_code, 5, some FieldType.boolean, 12, []),
  (⟨"SkyTailorModel", "order", "(II)I"⟩, prog_14_method_76_code, 3, some FieldType.int, 12, []),
  (⟨"SkyTailorModel", "isOrder", "(I)Z"⟩, prog_14_method_68_code, 2, some FieldType.boolean, 12, []),
  (⟨"SkyTailorModel", "wears", "(II)I"⟩, prog_14_method_77_code, 3, some FieldType.int, 12, []),
  (⟨"SkyTailorModel", "isHour", "(I)Z"⟩, prog_14_method_69_code, 1, some FieldType.boolean, 12, []),
  (⟨"SkyTailorModel", "sky", "(II)I"⟩, prog_14_method_78_code, 3, some FieldType.int, 12, []),
  (⟨"SkyTailorModel", "cloth", "(II)I"⟩, prog_14_method_79_code, 6, some FieldType.int, 12, []),
  (⟨"SkyTailorModel", "can", "(II)Z"⟩, prog_14_method_80_code, 3, some FieldType.boolean, 12, []),
  (⟨"SkyTailorModel", "ready", "(I)Z"⟩, prog_14_method_81_code, 2, some FieldType.boolean, 12, []),
  (⟨"SkyTailorModel", "fit", "(I)I"⟩, prog_14_method_83_code, 2, some FieldType.int, 12, []),
  (⟨"SkyTailorModel", "fitOf", "([III)I"⟩, prog_14_method_82_code, 6, some FieldType.int, 12, []),
  (⟨"SkyTailorModel", "tries", "(II)I"⟩, prog_14_method_84_code, 3, some FieldType.int, 12, []),
  (⟨"SkyTailorModel", "best", "(I)I"⟩, prog_14_method_88_code, 2, some FieldType.int, 12, []),
  (⟨"SkyTailorModel", "laysBest", "(I)I"⟩, prog_14_method_87_code, 6, some FieldType.int, 12, []),
  (⟨"SkyTailorModel", "gainOf", "(IIIII)I"⟩, prog_14_method_86_code, 7, some FieldType.int, 12, []),
  (⟨"SkyTailorModel", "endsIn", "(IIII)I"⟩, prog_14_method_85_code, 7, some FieldType.int, 12, []),
  (⟨"SkyTailorModel", "bestAt", "(II)I"⟩, prog_14_method_89_code, 3, some FieldType.int, 12, []),
  (⟨"SkyTailorModel", "clashes", "(I)I"⟩, prog_14_method_91_code, 5, some FieldType.int, 12, []),
  (⟨"SkyTailorModel", "isClash", "(II)Z"⟩, prog_14_method_90_code, 3, some FieldType.boolean, 12, []),
  (⟨"SkyTailorModel", "mend", "(II)I"⟩, prog_14_method_92_code, 7, some FieldType.int, 12, []),
  (⟨"SkyTailorModel", "pieces", "(I)I"⟩, prog_14_method_97_code, 4, some FieldType.int, 12, []),
  (⟨"SkyTailorModel", "areOrders", "(I)Z"⟩, prog_14_method_93_code, 2, some FieldType.boolean, 12, []),
  (⟨"SkyTailorModel", "laysRuns", "(I)Z"⟩, prog_14_method_94_code, 5, some FieldType.boolean, 12, []),
  (⟨"SkyTailorModel", "ones", "(I)I"⟩, prog_14_method_96_code, 3, some FieldType.int, 12, []),
  (⟨"SkyTailorModel", "packs", "(II)Z"⟩, prog_14_method_95_code, 5, some FieldType.boolean, 12, []),
  (⟨"SkyTailorModel", "sewn", "(II)I"⟩, prog_14_method_99_code, 9, some FieldType.int, 12, []),
  (⟨"SkyTailorModel", "isSewn", "(I)Z"⟩, prog_14_method_98_code, 5, some FieldType.boolean, 12, []),
  (⟨"SkyTailorModel", "words", "(I)I"⟩, prog_14_method_100_code, 8, some FieldType.int, 12, [])]
def ta_M9 : List ta_Me := [
  (⟨"SkyTailorModel", "offers", "(II)J"⟩, prog_14_method_103_code, 11, some FieldType.long, 12, []),
  (⟨"SkyTailorModel", "meanOf", "(I)J"⟩, prog_14_method_101_code, 10, some FieldType.long, 12, []),
  (⟨"SkyTailorModel", "tens", "(I)J"⟩, prog_14_method_102_code, 4, some FieldType.long, 12, []),
  (⟨"SkyTailorModel", "line", "(I)I"⟩, prog_14_method_104_code, 2, some FieldType.int, 12, []),
  (⟨"SkyTailorModel", "skies", "(I)I"⟩, prog_14_method_107_code, 2, some FieldType.int, 12, []),
  (⟨"SkyTailorModel", "skiesOf", "(I)I"⟩, prog_14_method_106_code, 6, some FieldType.int, 12, []),
  (⟨"SkyTailorModel", "skyAt", "(III)I"⟩, prog_14_method_105_code, 4, some FieldType.int, 12, []),
  (⟨"SkyTailorModel", "which", "()I"⟩, prog_14_method_108_code, 3, some FieldType.int, 12, []),
  (⟨"SkyTailorModel", "look", "(I)I"⟩, prog_14_method_111_code, 6, some FieldType.int, 12, []),
  (⟨"SkyTailorModel", "isInBook", "(I)Z"⟩, prog_14_method_110_code, 3, some FieldType.boolean, 12, []),
  (⟨"SkyTailorModel", "worstAt", "(I)I"⟩, prog_14_method_109_code, 5, some FieldType.int, 12, []),
  (⟨"SkyTailorModel", "tailors", "(I)I"⟩, prog_14_method_114_code, 6, some FieldType.int, 12, []),
  (⟨"SkyTailorModel", "isBest", "(II)Z"⟩, prog_14_method_113_code, 4, some FieldType.boolean, 12, []),
  (⟨"SkyTailorModel", "getsOf", "(II)I"⟩, prog_14_method_112_code, 7, some FieldType.int, 12, []),
  (⟨"SkyTailorModel", "gets", "(II)I"⟩, prog_14_method_115_code, 3, some FieldType.int, 12, []),
  (⟨"SkyTailorModel", "ahead", "(III)I"⟩, prog_14_method_116_code, 5, some FieldType.int, 12, []),
  (⟨"SkyTailorModel", "years", "(IIII)I"⟩, prog_14_method_119_code, 7, some FieldType.int, 12, []),
  (⟨"SkyTailorModel", "shortens", "(III)V"⟩, prog_14_method_118_code, 6, none, 12, []),
  (⟨"SkyTailorModel", "draw", "(I)I"⟩, prog_14_method_117_code, 2, some FieldType.int, 12, []),
  (⟨"SkyTailorModel", "span", "(IIIIII)I"⟩, prog_14_method_120_code, 12, some FieldType.int, 12, []),
  (⟨"SkyTailorModel", "image", "()I"⟩, prog_14_method_123_code, 1, some FieldType.int, 12, []),
  (⟨"SkyTailorModel", "putsAll", "([IZ)V"⟩, prog_14_method_122_code, 5, none, 12, []),
  (⟨"SkyTailorModel", "puts", "([IIZ)I"⟩, prog_14_method_121_code, 4, some FieldType.int, 12, []),
  (⟨"SkyTailorModel", "restore", "()I"⟩, prog_14_method_124_code, 1, some FieldType.int, 12, []),
  (⟨"SkyTailorModel", "status", "(I)I"⟩, prog_14_method_125_code, 2, some FieldType.int, 12, []),
  (⟨"SkyTailorModel", "count", "(I)I"⟩, prog_14_method_126_code, 2, some FieldType.int, 12, []),
  (⟨"SkyTailorLaw", "law", "([I)Z"⟩, code, 8, some (FieldType.boolean), 13, [])]
def ta_M : List ta_Me := ta_M0 ++ (ta_M1 ++ (ta_M2 ++ (ta_M3 ++ (ta_M4 ++ (ta_M5 ++ (ta_M6 ++ (ta_M7 ++ (ta_M8 ++ (ta_M9)))))))))
def ta_P : List (Nat × Nat × Nat × Nat × Nat) := [(165, 2, 164, 0, 136), (173, 2, 172, 0, 137), (211, 2, 210, 0, 138), (269, 2, 268, 0, 139), (283, 2, 282, 0, 140), (307, 2, 306, 0, 141), (332, 2, 331, 0, 142), (357, 2, 356, 0, 143), (382, 2, 381, 0, 144), (406, 2, 405, 0, 145), (410, 1, 409, 0, 136), (432, 2, 431, 0, 146), (455, 2, 454, 0, 147), (485, 0, 483, 484, 139), (490, 0, 488, 489, 139), (493, 1, 492, 0, 136), (496, 1, 495, 0, 136), (552, 0, 550, 551, 136), (556, 0, 554, 555, 137), (560, 0, 558, 559, 136), (564, 0, 562, 563, 136), (568, 0, 566, 567, 144), (571, 1, 570, 0, 136), (578, 0, 576, 577, 136), (582, 0, 580, 581, 145), (586, 0, 584, 585, 140), (589, 1, 588, 0, 136), (593, 0, 592, 0, 145), (597, 1, 596, 0, 145), (601, 0, 599, 600, 136), (605, 0, 603, 604, 144), (610, 0, 608, 609, 136), (614, 0, 612, 613, 144), (619, 0, 617, 618, 136), (623, 0, 621, 622, 136), (626, 1, 625, 0, 135), (631, 0, 629, 630, 136), (635, 0, 634, 1, 136), (642, 0, 641, 2, 136), (646, 0, 645, 3, 136), (713, 0, 711, 712, 137), (717, 0, 715, 716, 138), (721, 0, 719, 720, 137), (725, 0, 724, 5, 137), (729, 0, 728, 6, 138), (734, 0, 732, 733, 137), (738, 0, 737, 7, 137), (741, 1, 740, 0, 137), (745, 0, 744, 8, 137), (797, 0, 796, 9, 137), (801, 0, 799, 800, 137), (806, 0, 805, 10, 138), (809, 1, 808, 0, 138), (815, 0, 813, 814, 137), (818, 1, 817, 0, 137), (824, 0, 823, 11, 138), (828, 0, 827, 12, 138), (832, 0, 831, 13, 138), (836, 0, 834, 835, 137), (840, 0, 838, 839, 137), (844, 0, 842, 843, 138), (849, 0, 847, 848, 140), (853, 0, 851, 852, 141), (857, 0, 855, 856, 145), (861, 0, 859, 860, 144), (865, 0, 863, 864, 137), (868, 1, 867, 0, 135), (873, 0, 871, 872, 136), (877, 0, 876, 14, 136), (881, 0, 880, 15, 136), (885, 0, 884, 16, 136), (904, 0, 902, 903, 140), (908, 0, 907, 17, 140), (914, 0, 912, 913, 137), (918, 0, 916, 917, 137), (922, 0, 921, 18, 140), (932, 0, 931, 19, 140), (936, 0, 935, 20, 140), (942, 0, 940, 941, 140), (946, 1, 945, 0, 136), (950, 1, 949, 0, 135), (954, 0, 952, 953, 136), (958, 0, 956, 957, 141), (962, 0, 961, 21, 141), (966, 0, 965, 22, 141), (970, 0, 969, 23, 141), (976, 0, 975, 24, 141), (983, 0, 982, 25, 141), (988, 0, 987, 26, 141), (995, 0, 994, 27, 141), (1000, 0, 998, 999, 141), (1004, 1, 1003, 0, 135), (1008, 0, 1006, 1007, 136), (1012, 0, 1010, 1011, 144), (1016, 0, 1014, 1015, 143), (1020, 0, 1019, 28, 143), (1026, 0, 1025, 29, 143), (1032, 0, 1031, 30, 143), (1037, 0, 1036, 31, 143), (1046, 0, 1044, 1045, 144), (1050, 0, 1048, 1049, 143), (1054, 0, 1053, 32, 143), (1058, 0, 1057, 33, 143), (1063, 0, 1062, 34, 143), (1071, 0, 1069, 1070, 142), (1075, 0, 1074, 35, 142), (1079, 0, 1077, 1078, 142), (1083, 0, 1081, 1082, 139), (1088, 0, 1086, 1087, 139), (1092, 0, 1090, 1091, 139), (1097, 0, 1095, 1096, 140), (1101, 0, 1099, 1100, 139), (1105, 0, 1103, 1104, 139), (1109, 0, 1107, 1108, 139), (1113, 0, 1111, 1112, 139), (1117, 0, 1116, 36, 142), (1121, 0, 1119, 1120, 139), (1126, 0, 1124, 1125, 139), (1130, 0, 1129, 37, 142), (1134, 0, 1132, 1133, 139), (1140, 0, 1139, 38, 142), (1145, 0, 1144, 39, 142), (1149, 0, 1147, 1148, 142), (1153, 0, 1151, 1152, 138), (1158, 0, 1156, 1157, 142), (1162, 0, 1160, 1161, 139), (1169, 1, 1168, 0, 136), (1173, 0, 1171, 1172, 139), (1177, 0, 1175, 1176, 139), (1181, 0, 1180, 40, 142), (1185, 0, 1183, 1184, 139), (1189, 0, 1187, 1188, 141), (1193, 0, 1191, 1192, 139), (1198, 1, 1197, 0, 136), (1203, 0, 1202, 41, 141), (1207, 1, 1206, 0, 141), (1213, 1, 1212, 0, 135), (1217, 0, 1215, 1216, 136), (1221, 0, 1219, 1220, 145), (1232, 0, 1230, 1231, 145), (1236, 1, 1235, 0, 135), (1240, 0, 1238, 1239, 136), (1246, 0, 1244, 1245, 139), (1250, 0, 1248, 1249, 139), (1254, 0, 1252, 1253, 139), (1258, 1, 1257, 0, 135), (1262, 0, 1260, 1261, 136), (1266, 0, 1264, 1265, 138), (1270, 1, 1269, 0, 135), (1274, 0, 1272, 1273, 136), (1278, 0, 1276, 1277, 138), (1282, 0, 1280, 1281, 138), (1286, 0, 1284, 1285, 138), (1291, 0, 1290, 42, 136), (1296, 0, 1294, 1295, 139), (1299, 1, 1298, 0, 136), (1304, 1, 1303, 0, 135), (1308, 0, 1306, 1307, 136), (1313, 0, 1311, 1312, 138), (1317, 1, 1316, 0, 135), (1321, 0, 1319, 1320, 136), (1326, 1, 1325, 0, 135), (1330, 0, 1328, 1329, 136), (1334, 1, 1333, 0, 135), (1338, 0, 1336, 1337, 136), (1343, 1, 1342, 0, 135), (1347, 0, 1345, 1346, 136), (1351, 0, 1350, 43, 136), (1355, 0, 1354, 44, 136), (1360, 0, 1359, 45, 136), (1363, 1, 1362, 0, 135), (1367, 0, 1365, 1366, 136), (1371, 1, 1370, 0, 135), (1375, 0, 1373, 1374, 136), (1379, 1, 1378, 0, 135), (1383, 0, 1381, 1382, 136), (1387, 0, 1386, 46, 136), (1391, 0, 1389, 1390, 138), (1396, 1, 1395, 0, 135), (1401, 0, 1399, 1400, 136), (1405, 0, 1404, 47, 136), (1409, 0, 1408, 48, 136), (1427, 1, 1426, 0, 135), (1431, 0, 1429, 1430, 136), (1435, 0, 1433, 1434, 146), (1439, 0, 1438, 49, 146), (1444, 0, 1443, 50, 146), (1448, 0, 1447, 51, 146), (1452, 0, 1451, 52, 146), (1455, 1, 1454, 0, 146), (1461, 0, 1460, 53, 146), (1464, 1, 1463, 0, 135), (1468, 0, 1466, 1467, 136), (1471, 1, 1470, 0, 135), (1475, 0, 1473, 1474, 136), (1479, 0, 1477, 1478, 138), (1484, 0, 1483, 54, 138), (1487, 1, 1486, 0, 135), (1491, 0, 1489, 1490, 136), (1495, 0, 1494, 55, 136), (1499, 0, 1497, 1498, 138), (1503, 0, 1501, 1502, 138), (1506, 1, 1505, 0, 135), (1510, 0, 1508, 1509, 136), (1514, 0, 1512, 1513, 138), (1518, 0, 1516, 1517, 147), (1523, 0, 1522, 56, 147), (1530, 0, 1528, 1529, 147), (1534, 0, 1533, 57, 147), (1538, 0, 1537, 58, 147), (1544, 0, 1543, 59, 147), (1550, 0, 1549, 60, 147), (1555, 0, 1554, 61, 147), (1559, 1, 1558, 0, 135), (1563, 0, 1561, 1562, 136), (1567, 0, 1565, 1566, 147), (1572, 0, 1571, 62, 147), (1576, 0, 1575, 63, 147), (1581, 0, 1579, 1580, 147), (1585, 1, 1584, 0, 135), (1589, 0, 1587, 1588, 136), (1593, 0, 1591, 1592, 139), (1596, 1, 1595, 0, 135), (1600, 0, 1598, 1599, 136), (1603, 1, 1602, 0, 136), (1608, 1, 1607, 0, 136), (1612, 1, 1611, 0, 136), (1615, 1, 1614, 0, 135), (1619, 0, 1617, 1618, 136), (1622, 1, 1621, 0, 135), (1626, 0, 1624, 1625, 136), (1629, 1, 1628, 0, 135), (1633, 0, 1631, 1632, 136), (1637, 0, 1635, 1636, 145), (1641, 0, 1640, 64, 145), (1647, 0, 1646, 65, 145), (1651, 0, 1649, 1650, 145), (1656, 1, 1655, 0, 135), (1660, 0, 1658, 1659, 136), (1664, 0, 1662, 1663, 146), (1670, 0, 1668, 1669, 146), (1674, 0, 1673, 66, 146), (1678, 0, 1677, 67, 146), (1682, 0, 1680, 1681, 146), (1686, 0, 1684, 1685, 146), (1690, 1, 1689, 0, 135), (1694, 0, 1692, 1693, 136), (1697, 1, 1696, 0, 135), (1701, 0, 1699, 1700, 136), (1706, 0, 1704, 1705, 142), (1709, 1, 1708, 0, 135), (1713, 0, 1711, 1712, 136), (1717, 0, 1716, 68, 136), (1721, 0, 1720, 69, 136), (1725, 0, 1723, 1724, 142), (1729, 0, 1728, 70, 142), (1734, 0, 1732, 1733, 139), (1739, 0, 1737, 1738, 139), (1742, 1, 1741, 0, 135), (1746, 0, 1744, 1745, 136), (1754, 2, 1753, 0, 148), (1763, 0, 1762, 71, 148), (1767, 0, 1766, 72, 148), (1770, 1, 1769, 0, 148), (1773, 1, 1772, 0, 148), (1947, 0, 1945, 1946, 148), (1951, 0, 1949, 1950, 148), (1955, 0, 1953, 1954, 148), (1959, 0, 1958, 73, 148), (1963, 0, 1962, 74, 148), (1967, 0, 1966, 75, 148), (1971, 0, 1970, 76, 148), (1975, 0, 1974, 77, 148), (1979, 0, 1978, 78, 148), (1983, 0, 1982, 79, 148), (1987, 0, 1986, 80, 148), (1990, 1, 1989, 0, 148), (1993, 1, 1992, 0, 148), (1997, 0, 1996, 81, 148), (2001, 0, 2000, 82, 148), (2005, 0, 2004, 83, 148), (2009, 0, 2008, 84, 148), (2013, 0, 2012, 85, 148), (2017, 0, 2016, 86, 148), (2020, 1, 2019, 0, 148), (2025, 0, 2024, 87, 148), (2029, 0, 2028, 88, 148), (2033, 0, 2031, 2032, 148), (2037, 0, 2036, 89, 148), (2041, 0, 2040, 90, 148), (2045, 0, 2044, 91, 148), (2048, 1, 2047, 0, 148), (2052, 0, 2050, 2051, 148), (2056, 0, 2055, 92, 148), (2060, 0, 2059, 93, 148), (2064, 0, 2063, 94, 148), (2068, 0, 2067, 95, 148), (2072, 0, 2071, 96, 148), (2076, 0, 2075, 97, 148), (2080, 0, 2078, 2079, 148), (2084, 0, 2083, 98, 148), (2088, 0, 2087, 99, 148), (2091, 1, 2090, 0, 148), (2095, 0, 2094, 100, 148), (2099, 0, 2098, 101, 148), (2102, 1, 2101, 0, 148), (2106, 0, 2105, 102, 148), (2110, 0, 2109, 103, 148), (2113, 1, 2112, 0, 148), (2117, 0, 2116, 104, 148), (2120, 1, 2119, 0, 148), (2124, 0, 2123, 105, 148), (2128, 0, 2127, 106, 148), (2131, 1, 2130, 0, 148), (2135, 0, 2134, 107, 148), (2139, 0, 2138, 108, 148), (2142, 1, 2141, 0, 148), (2146, 0, 2145, 109, 148), (2149, 1, 2148, 0, 148), (2152, 1, 2151, 0, 148), (2155, 1, 2154, 0, 148), (2159, 0, 2157, 2158, 148), (2163, 0, 2161, 2162, 148), (2167, 0, 2165, 2166, 148), (2171, 0, 2169, 2170, 148), (2175, 0, 2174, 110, 148), (2179, 0, 2177, 2178, 148), (2183, 0, 2181, 2182, 148), (2187, 0, 2186, 111, 148), (2191, 0, 2190, 112, 148), (2194, 1, 2193, 0, 148), (2198, 0, 2196, 2197, 148), (2202, 0, 2201, 113, 148), (2206, 0, 2204, 2205, 148), (2210, 0, 2209, 114, 148), (2214, 0, 2212, 2213, 148), (2217, 1, 2216, 0, 148), (2221, 0, 2219, 2220, 148), (2225, 0, 2223, 2224, 148), (2229, 0, 2227, 2228, 148), (2233, 0, 2231, 2232, 148), (2237, 0, 2235, 2236, 148), (2241, 0, 2240, 115, 148), (2245, 0, 2243, 2244, 148), (2249, 0, 2247, 2248, 148), (2253, 0, 2252, 116, 148), (2257, 0, 2256, 117, 148), (2261, 0, 2260, 118, 148), (2265, 0, 2263, 2264, 148), (2269, 0, 2267, 2268, 148), (2273, 0, 2272, 119, 148), (2277, 0, 2275, 2276, 148), (2281, 0, 2279, 2280, 148), (2285, 0, 2284, 120, 148), (2289, 0, 2288, 121, 148), (2292, 1, 2291, 0, 148), (2296, 0, 2295, 122, 148), (2300, 0, 2298, 2299, 148), (2304, 0, 2303, 123, 148), (2308, 0, 2306, 2307, 148), (2312, 0, 2310, 2311, 148), (2316, 0, 2315, 124, 148), (2321, 1, 2320, 0, 148), (2325, 0, 2323, 2324, 148), (2329, 0, 2327, 2328, 148), (2333, 0, 2332, 125, 148), (2337, 0, 2336, 126, 148), (2341, 0, 2339, 2340, 148), (2345, 0, 2343, 2344, 148), (2349, 0, 2348, 127, 148), (2353, 0, 2352, 128, 148), (2357, 0, 2355, 2356, 148), (2361, 0, 2360, 129, 148), (2365, 0, 2364, 130, 148), (2369, 0, 2367, 2368, 148), (2373, 0, 2371, 2372, 148), (2377, 0, 2375, 2376, 148), (2381, 0, 2380, 131, 148), (2385, 0, 2384, 132, 148), (2390, 0, 2388, 2389, 148), (2394, 0, 2392, 2393, 148), (2398, 0, 2397, 133, 148), (2402, 0, 2401, 134, 148), (2406, 0, 2404, 2405, 148), (2410, 0, 2408, 2409, 148), (2414, 0, 2412, 2413, 148)]
def ta_LM : List (Nat × Nat × Nat × Nat × Nat) := [(13, 122, 4, 0, 163), (11, 1, 6, 0, 166), (11, 9, 5, 1, 171), (8, 3, 6, 0, 174), (11, 18, 5, 2, 209), (6, 3, 6, 0, 212), (11, 28, 5, 3, 267), (7, 5, 6, 0, 270), (11, 38, 5, 4, 281), (4, 3, 6, 0, 284), (11, 45, 5, 5, 305), (2, 3, 6, 0, 308), (11, 52, 4, 6, 330), (10, 3, 6, 0, 333), (11, 61, 5, 7, 355), (5, 3, 6, 0, 358), (11, 68, 5, 8, 380), (3, 5, 6, 0, 383), (11, 75, 4, 9, 404), (0, 3, 6, 0, 407), (0, 21, 3, 10, 408), (11, 82, 4, 11, 430), (1, 3, 6, 0, 433), (11, 91, 4, 12, 453), (9, 5, 6, 0, 456), (11, 98, 0, 13, 482), (7, 15, 3, 10, 486), (7, 19, 0, 14, 487), (7, 36, 3, 15, 491), (7, 32, 3, 16, 494), (13, 126, 0, 17, 549), (11, 106, 0, 18, 553), (13, 154, 0, 19, 557), (13, 158, 0, 20, 561), (11, 198, 0, 21, 565), (3, 31, 3, 22, 569), (11, 465, 9, 0, 572), (13, 228, 0, 23, 575), (11, 352, 0, 24, 579), (0, 71, 0, 25, 583), (4, 25, 3, 26, 587), (0, 77, 0, 27, 590), (0, 46, 3, 16, 594), (0, 81, 2, 28, 595), (13, 253, 0, 29, 598), (11, 411, 0, 30, 602), (3, 37, 3, 15, 606), (13, 257, 0, 31, 607), (11, 418, 0, 32, 611), (3, 41, 3, 16, 615), (13, 261, 0, 33, 616), (13, 265, 0, 34, 620), (13, 131, 12, 35, 624), (13, 7, 0, 36, 628), (11, 110, 0, 37, 632), (11, 399, 8, 0, 636), (11, 201, 0, 38, 639), (11, 442, 0, 39, 643), (11, 114, 0, 40, 710), (11, 117, 0, 41, 714), (6, 50, 0, 42, 718), (8, 34, 0, 43, 722), (6, 56, 0, 44, 726), (6, 66, 0, 45, 731), (8, 46, 0, 46, 735), (8, 57, 2, 47, 739), (8, 60, 0, 48, 742), (8, 64, 10, 0, 746), (8, 69, 11, 0, 756), (8, 73, 0, 49, 794), (8, 42, 0, 50, 798), (6, 73, 0, 50, 802), (6, 77, 0, 51, 803), (6, 94, 2, 52, 807), (6, 100, 3, 15, 811), (6, 90, 0, 53, 812), (8, 38, 2, 54, 816), (8, 51, 8, 0, 820), (6, 81, 0, 55, 821), (6, 84, 0, 56, 825), (6, 87, 0, 57, 829), (6, 60, 0, 58, 833), (11, 121, 0, 59, 837), (11, 125, 0, 60, 841), (6, 34, 3, 22, 845), (11, 128, 0, 61, 846), (11, 131, 0, 62, 850), (11, 132, 0, 63, 854), (11, 133, 0, 64, 858), (11, 140, 0, 65, 862), (13, 141, 12, 66, 866), (13, 15, 0, 67, 870), (11, 144, 0, 68, 874), (11, 227, 0, 69, 878), (11, 439, 0, 70, 882), (11, 147, 0, 71, 901), (4, 37, 0, 72, 905), (4, 50, 3, 15, 909), (4, 54, 0, 42, 910), (4, 58, 0, 73, 911), (4, 62, 0, 74, 915), (4, 65, 0, 75, 919), (4, 75, 0, 53, 923), (4, 29, 3, 16, 924), (4, 46, 0, 50, 925), (4, 84, 0, 45, 927), (4, 88, 0, 59, 928), (4, 91, 0, 76, 929), (4, 68, 0, 77, 933), (4, 71, 0, 58, 938), (11, 148, 0, 78, 939), (4, 33, 3, 22, 943), (11, 155, 2, 79, 944), (11, 311, 2, 16, 947), (13, 145, 12, 80, 948), (13, 21, 0, 81, 951), (11, 159, 0, 82, 955), (2, 35, 0, 83, 959), (2, 56, 0, 84, 963), (2, 71, 0, 85, 967), (2, 74, 0, 74, 971), (2, 77, 0, 53, 972), (2, 67, 0, 86, 973), (2, 52, 3, 15, 977), (2, 59, 0, 73, 978), (2, 63, 0, 58, 979), (2, 81, 0, 87, 980), (2, 48, 0, 50, 984), (2, 84, 0, 88, 985), (2, 100, 0, 59, 989), (2, 89, 0, 45, 991), (2, 93, 0, 89, 992), (2, 39, 0, 42, 996), (11, 160, 0, 90, 997), (2, 31, 3, 22, 1001), (13, 148, 12, 91, 1002), (13, 24, 0, 92, 1005), (11, 162, 0, 93, 1009), (11, 165, 0, 94, 1013), (5, 19, 0, 95, 1017), (5, 23, 0, 42, 1021), (5, 29, 0, 73, 1022), (5, 33, 0, 96, 1023), (5, 42, 0, 45, 1028), (5, 46, 0, 97, 1029), (5, 78, 3, 15, 1033), (5, 50, 0, 98, 1034), (5, 71, 0, 50, 1038), (5, 59, 0, 53, 1039), (5, 36, 0, 58, 1040), (5, 75, 0, 59, 1041), (11, 168, 0, 99, 1043), (11, 172, 0, 100, 1047), (11, 177, 1, 101, 1051), (5, 95, 0, 102, 1055), (5, 82, 3, 16, 1059), (5, 98, 0, 103, 1060), (5, 113, 0, 101, 1064), (5, 102, 7, 0, 1065), (5, 107, 0, 104, 1068), (10, 30, 0, 105, 1072), (10, 65, 0, 106, 1076), (10, 52, 0, 107, 1080), (7, 40, 3, 22, 1084), (10, 58, 0, 108, 1085), (10, 61, 0, 109, 1089), (7, 86, 0, 25, 1093), (7, 91, 0, 110, 1094), (7, 94, 0, 111, 1098), (10, 74, 0, 112, 1102), (7, 61, 0, 113, 1106), (7, 58, 0, 114, 1110), (10, 34, 0, 115, 1114), (10, 78, 0, 116, 1118), (10, 82, 0, 111, 1122), (10, 86, 0, 117, 1123), (10, 38, 0, 118, 1127), (10, 90, 0, 119, 1131), (7, 69, 0, 116, 1135), (7, 72, 0, 117, 1136), (10, 42, 0, 120, 1137), (10, 94, 0, 14, 1141), (10, 45, 0, 121, 1142), (10, 126, 0, 122, 1146), (10, 106, 0, 123, 1150), (6, 104, 3, 16, 1154), (10, 109, 0, 124, 1155), (10, 97, 0, 125, 1159), (7, 76, 3, 26, 1163), (10, 100, 0, 113, 1164), (10, 113, 0, 25, 1165), (10, 119, 0, 114, 1166), (10, 122, 3, 126, 1167), (10, 129, 0, 127, 1170), (7, 80, 0, 128, 1174), (10, 48, 0, 129, 1178), (10, 133, 0, 130, 1182), (10, 140, 0, 131, 1186), (2, 103, 0, 132, 1190), (2, 109, 0, 113, 1194), (2, 116, 0, 114, 1195), (2, 119, 3, 133, 1196), (2, 123, 0, 116, 1199), (2, 126, 0, 134, 1200), (2, 133, 3, 16, 1204), (2, 135, 2, 135, 1205), (2, 139, 8, 0, 1208), (2, 144, 7, 0, 1209), (2, 129, 0, 117, 1210), (13, 151, 12, 136, 1211), (13, 27, 0, 137, 1214), (11, 187, 0, 138, 1218), (0, 36, 0, 42, 1222), (0, 42, 0, 53, 1223), (0, 53, 0, 50, 1224), (0, 59, 0, 45, 1226), (0, 63, 3, 15, 1227), (0, 67, 0, 58, 1228), (11, 188, 0, 139, 1229), (0, 32, 3, 22, 1233), (13, 162, 12, 140, 1234), (13, 30, 0, 141, 1237), (11, 214, 0, 113, 1241), (11, 218, 0, 128, 1242), (11, 221, 0, 142, 1243), (7, 44, 0, 143, 1247), (11, 224, 0, 144, 1251), (7, 54, 0, 108, 1255), (13, 165, 12, 145, 1256), (13, 33, 0, 146, 1259), (11, 230, 0, 147, 1263), (11, 233, 0, 143, 1267), (13, 168, 12, 148, 1268), (13, 36, 0, 149, 1271), (11, 236, 0, 150, 1275), (11, 239, 0, 151, 1279), (6, 108, 0, 152, 1283), (11, 242, 0, 108, 1287), (11, 246, 0, 153, 1288), (11, 445, 0, 132, 1292), (11, 381, 0, 154, 1293), (7, 65, 3, 155, 1297), (11, 256, 0, 114, 1300), (11, 448, 2, 133, 1301), (13, 171, 12, 156, 1302), (13, 39, 0, 157, 1305), (11, 250, 0, 152, 1309), (11, 259, 0, 158, 1310), (6, 111, 8, 0, 1314), (13, 174, 12, 159, 1315), (13, 42, 0, 160, 1318), (11, 263, 0, 123, 1322), (11, 266, 0, 124, 1323), (13, 177, 12, 161, 1324), (13, 45, 0, 162, 1327), (11, 269, 0, 116, 1331), (13, 180, 12, 163, 1332), (13, 48, 0, 164, 1335), (11, 272, 0, 25, 1339), (11, 275, 0, 110, 1340), (13, 183, 12, 165, 1341), (13, 51, 0, 166, 1344), (11, 278, 0, 167, 1348), (11, 281, 0, 168, 1352), (11, 451, 2, 155, 1356), (11, 284, 0, 169, 1357), (13, 186, 12, 170, 1361), (13, 54, 0, 171, 1364), (11, 287, 0, 106, 1368), (13, 189, 12, 172, 1369), (13, 58, 0, 173, 1372), (11, 291, 0, 122, 1376), (13, 192, 12, 174, 1377), (13, 62, 0, 175, 1380), (11, 294, 0, 176, 1384), (11, 301, 0, 177, 1388), (6, 116, 3, 133, 1392), (6, 119, 0, 158, 1393), (13, 195, 12, 178, 1394), (13, 65, 0, 179, 1398), (11, 298, 0, 180, 1402), (11, 329, 0, 181, 1406), (13, 198, 12, 182, 1425), (13, 70, 0, 183, 1428), (11, 305, 0, 184, 1432), (1, 29, 0, 185, 1436), (1, 58, 0, 152, 1440), (1, 33, 0, 186, 1441), (1, 62, 0, 187, 1445), (1, 65, 0, 188, 1449), (1, 37, 2, 189, 1453), (1, 44, 3, 16, 1456), (1, 40, 3, 15, 1457), (1, 48, 0, 190, 1458), (13, 201, 12, 191, 1462), (13, 73, 0, 192, 1465), (13, 204, 12, 193, 1469), (13, 76, 0, 194, 1472), (11, 314, 0, 195, 1476), (6, 123, 3, 26, 1480), (6, 127, 0, 196, 1481), (13, 207, 12, 197, 1485), (13, 79, 0, 198, 1488), (11, 317, 0, 199, 1492), (11, 320, 0, 200, 1496), (6, 130, 0, 201, 1500), (13, 210, 12, 202, 1504), (13, 82, 0, 203, 1507), (11, 323, 0, 204, 1511), (11, 326, 0, 205, 1515), (9, 43, 3, 26, 1519), (9, 47, 0, 206, 1520), (9, 35, 0, 123, 1524), (9, 51, 0, 25, 1525), (9, 60, 3, 79, 1526), (11, 332, 0, 207, 1527), (9, 64, 0, 208, 1531), (9, 79, 0, 209, 1535), (9, 82, 3, 16, 1539), (9, 85, 3, 15, 1540), (9, 68, 0, 210, 1541), (9, 95, 0, 147, 1545), (9, 98, 0, 143, 1546), (9, 75, 0, 211, 1547), (9, 104, 0, 212, 1552), (9, 107, 8, 0, 1556), (13, 213, 12, 213, 1557), (13, 85, 0, 214, 1560), (11, 335, 0, 215, 1564), (9, 112, 0, 204, 1568), (9, 115, 0, 216, 1569), (9, 121, 0, 217, 1573), (9, 124, 0, 113, 1577), (9, 118, 0, 218, 1578), (11, 338, 0, 218, 1582), (13, 216, 12, 219, 1583), (13, 88, 0, 220, 1586), (11, 341, 0, 221, 1590), (13, 219, 12, 222, 1594), (13, 91, 0, 223, 1597), (11, 344, 2, 224, 1601), (11, 348, 2, 225, 1606), (11, 461, 2, 226, 1610), (13, 222, 12, 227, 1613), (13, 95, 0, 228, 1616), (13, 225, 12, 229, 1620), (13, 98, 0, 230, 1623), (13, 232, 12, 231, 1627), (13, 101, 0, 232, 1630), (11, 356, 0, 233, 1634), (0, 88, 0, 234, 1638), (0, 101, 0, 24, 1642), (0, 105, 3, 26, 1643), (0, 109, 0, 235, 1644), (0, 92, 0, 236, 1648), (0, 96, 7, 0, 1652), (11, 360, 0, 236, 1653), (13, 235, 12, 237, 1654), (13, 104, 0, 238, 1657), (11, 363, 0, 239, 1661), (1, 74, 0, 25, 1665), (1, 83, 0, 177, 1666), (11, 366, 0, 240, 1667), (1, 94, 0, 241, 1671), (1, 90, 0, 242, 1675), (1, 87, 0, 243, 1679), (11, 369, 0, 244, 1683), (11, 372, 0, 243, 1687), (13, 238, 12, 245, 1688), (13, 107, 0, 246, 1691), (13, 241, 12, 247, 1695), (13, 110, 0, 248, 1698), (11, 375, 0, 107, 1702), (11, 377, 0, 249, 1703), (13, 245, 12, 250, 1707), (13, 114, 0, 251, 1710), (11, 384, 0, 252, 1714), (11, 387, 0, 253, 1718), (11, 391, 0, 254, 1722), (10, 152, 0, 255, 1726), (10, 155, 0, 256, 1731), (7, 48, 7, 0, 1735), (11, 395, 0, 257, 1736), (13, 249, 12, 258, 1740), (13, 118, 0, 259, 1743), (11, 404, 7, 0, 1748), (11, 407, 0, 109, 1749), (13, 125, 4, 260, 1752), (12, 1, 6, 0, 1755), (12, 124, 0, 261, 1760), (12, 127, 0, 262, 1764), (12, 225, 2, 263, 1768), (12, 164, 2, 264, 1771), (13, 137, 0, 265, 1944), (13, 130, 0, 266, 1948), (13, 136, 0, 267, 1952), (12, 212, 0, 268, 1956), (12, 216, 0, 269, 1960), (12, 152, 0, 270, 1964), (12, 142, 0, 271, 1968), (12, 219, 0, 272, 1972), (12, 195, 0, 273, 1976), (12, 179, 0, 274, 1980), (12, 171, 0, 275, 1984), (12, 168, 2, 276, 1988), (12, 175, 2, 277, 1991), (12, 159, 0, 278, 1994), (12, 198, 0, 279, 1998), (12, 183, 0, 280, 2002), (12, 201, 0, 281, 2006), (12, 192, 0, 282, 2010), (12, 204, 0, 283, 2014), (12, 155, 2, 284, 2018), (12, 208, 0, 285, 2022), (12, 222, 0, 286, 2026), (13, 144, 0, 287, 2030), (12, 251, 0, 288, 2034), (12, 248, 0, 289, 2038), (12, 244, 0, 290, 2042), (12, 254, 2, 291, 2046), (13, 147, 0, 292, 2049), (12, 273, 0, 293, 2053), (12, 261, 0, 294, 2057), (12, 270, 0, 295, 2061), (12, 267, 0, 296, 2065), (12, 276, 0, 297, 2069), (12, 264, 0, 298, 2073), (13, 150, 0, 299, 2077), (12, 295, 0, 300, 2081), (12, 289, 0, 301, 2085), (12, 298, 2, 302, 2089), (12, 350, 0, 303, 2092), (12, 353, 0, 304, 2096), (12, 309, 2, 305, 2100), (12, 336, 0, 306, 2103), (12, 313, 0, 307, 2107), (12, 302, 2, 308, 2111), (12, 306, 0, 309, 2114), (12, 323, 2, 310, 2118), (12, 340, 0, 311, 2121), (12, 320, 0, 312, 2125), (12, 316, 2, 313, 2129), (12, 343, 0, 314, 2132), (12, 332, 0, 315, 2136), (12, 326, 2, 316, 2140), (12, 329, 0, 317, 2143), (12, 285, 2, 318, 2147), (12, 279, 2, 319, 2150), (12, 282, 2, 320, 2153), (13, 161, 0, 321, 2156), (13, 153, 0, 322, 2160), (13, 157, 0, 323, 2164), (13, 164, 0, 324, 2168), (12, 360, 0, 325, 2172), (13, 167, 0, 326, 2176), (13, 170, 0, 327, 2180), (12, 364, 0, 328, 2184), (12, 367, 0, 329, 2188), (12, 370, 2, 330, 2192), (13, 173, 0, 331, 2195), (12, 373, 0, 332, 2199), (13, 176, 0, 333, 2203), (12, 376, 0, 334, 2207), (13, 179, 0, 335, 2211), (12, 379, 2, 336, 2215), (13, 182, 0, 337, 2218), (13, 185, 0, 338, 2222), (13, 188, 0, 339, 2226), (13, 191, 0, 340, 2230), (13, 194, 0, 341, 2234), (12, 382, 0, 342, 2238), (13, 197, 0, 343, 2242), (13, 200, 0, 344, 2246), (12, 393, 0, 345, 2250), (12, 389, 0, 346, 2254), (12, 385, 0, 347, 2258), (13, 203, 0, 348, 2262), (13, 206, 0, 349, 2266), (12, 396, 0, 350, 2270), (13, 209, 0, 351, 2274), (13, 212, 0, 352, 2278), (12, 405, 0, 353, 2282), (12, 408, 0, 354, 2286), (12, 411, 2, 355, 2290), (12, 402, 0, 356, 2293), (13, 215, 0, 357, 2297), (12, 414, 0, 358, 2301), (13, 218, 0, 359, 2305), (13, 221, 0, 360, 2309), (12, 421, 0, 361, 2313), (12, 425, 2, 362, 2319), (13, 224, 0, 363, 2322), (13, 227, 0, 364, 2326), (12, 431, 0, 365, 2330), (12, 428, 0, 366, 2334), (13, 231, 0, 367, 2338), (13, 234, 0, 368, 2342), (12, 434, 0, 369, 2346), (12, 437, 0, 370, 2350), (13, 237, 0, 371, 2354), (12, 443, 0, 372, 2358), (12, 440, 0, 373, 2362), (13, 240, 0, 374, 2366), (13, 244, 0, 375, 2370), (13, 248, 0, 376, 2374), (12, 453, 0, 377, 2378), (12, 450, 0, 378, 2382), (13, 252, 0, 379, 2387), (13, 256, 0, 380, 2391), (12, 464, 0, 381, 2395), (12, 460, 0, 382, 2399), (13, 260, 0, 383, 2403), (13, 264, 0, 384, 2407), (13, 268, 0, 385, 2411)]
def ta_LF : List (Nat × Nat × Nat × Nat × Nat × Nat) := [(8, 9, 8, 0, 0, 175), (11, 102, 8, 1, 1, 176), (8, 19, 8, 1, 0, 177), (8, 22, 8, 2, 0, 178), (2, 45, 8, 2, 1, 179), (8, 28, 8, 3, 0, 180), (4, 43, 8, 3, 1, 181), (8, 25, 8, 4, 0, 182), (6, 70, 8, 4, 1, 183), (0, 50, 8, 4, 1, 184), (5, 68, 8, 4, 1, 185), (4, 79, 8, 4, 1, 186), (2, 97, 8, 4, 1, 187), (8, 31, 8, 5, 0, 188), (8, 15, 8, 6, 0, 189), (11, 192, 8, 6, 1, 190), (6, 9, 6, 0, 0, 213), (7, 83, 6, 0, 1, 214), (6, 15, 6, 1, 0, 215), (7, 29, 6, 1, 1, 216), (6, 18, 6, 2, 0, 217), (6, 21, 6, 3, 0, 218), (6, 24, 6, 4, 0, 219), (7, 23, 6, 5, 1, 220), (6, 38, 6, 5, 0, 221), (9, 92, 6, 5, 1, 222), (11, 205, 6, 5, 1, 223), (10, 149, 6, 5, 1, 224), (6, 41, 6, 6, 0, 225), (11, 137, 6, 6, 1, 226), (5, 63, 6, 6, 1, 227), (1, 71, 6, 6, 1, 228), (10, 136, 6, 6, 1, 229), (6, 44, 6, 7, 0, 230), (1, 52, 6, 7, 1, 231), (11, 208, 6, 7, 1, 232), (6, 47, 6, 8, 0, 233), (9, 39, 6, 8, 1, 234), (5, 54, 6, 8, 1, 235), (11, 211, 6, 8, 1, 236), (6, 27, 6, 9, 0, 237), (1, 68, 6, 9, 1, 238), (6, 31, 6, 10, 0, 239), (9, 127, 6, 10, 1, 240), (7, 11, 7, 0, 0, 271), (3, 28, 7, 0, 1, 272), (10, 116, 7, 0, 1, 273), (2, 113, 7, 0, 1, 274), (11, 253, 7, 0, 1, 275), (4, 9, 4, 0, 0, 285), (9, 57, 4, 0, 1, 286), (10, 68, 4, 0, 1, 287), (11, 151, 4, 0, 1, 288), (0, 85, 4, 0, 1, 289), (1, 80, 4, 0, 1, 290), (4, 15, 4, 1, 0, 291), (4, 18, 4, 2, 0, 292), (4, 21, 4, 3, 0, 293), (2, 9, 2, 0, 0, 309), (2, 15, 2, 1, 0, 310), (2, 18, 2, 2, 0, 311), (2, 21, 2, 3, 0, 312), (2, 24, 2, 4, 0, 313), (2, 28, 2, 5, 0, 314), (10, 9, 10, 0, 0, 334), (10, 15, 10, 1, 0, 335), (10, 19, 10, 2, 0, 336), (10, 22, 10, 3, 0, 337), (10, 26, 10, 4, 0, 338), (10, 146, 10, 5, 0, 339), (5, 11, 5, 0, 0, 359), (5, 15, 5, 1, 0, 360), (11, 174, 5, 1, 1, 361), (5, 86, 5, 2, 0, 362), (11, 184, 5, 3, 1, 363), (5, 89, 5, 3, 0, 364), (11, 181, 5, 4, 1, 365), (5, 92, 5, 4, 0, 366), (3, 11, 3, 0, 0, 384), (3, 15, 3, 1, 0, 385), (3, 18, 3, 2, 0, 386), (3, 21, 3, 3, 0, 387), (11, 195, 3, 3, 1, 388), (3, 25, 3, 4, 0, 389), (11, 415, 3, 4, 1, 390), (0, 9, 0, 0, 0, 411), (0, 15, 0, 1, 0, 412), (0, 18, 0, 2, 0, 413), (0, 25, 0, 3, 0, 414), (11, 189, 0, 3, 1, 415), (0, 29, 0, 4, 0, 416), (1, 21, 1, 0, 0, 434), (1, 25, 1, 1, 0, 435), (1, 9, 1, 2, 0, 436), (11, 308, 1, 2, 1, 437), (1, 15, 1, 3, 0, 438), (1, 18, 1, 4, 0, 439), (9, 21, 9, 0, 0, 457), (9, 25, 9, 1, 0, 458), (9, 29, 9, 2, 0, 459), (9, 11, 9, 3, 0, 460), (9, 15, 9, 4, 0, 461), (9, 18, 9, 5, 0, 462), (9, 72, 9, 6, 0, 463), (9, 89, 9, 7, 0, 464), (11, 10, 11, 0, 0, 497), (11, 19, 11, 1, 0, 498), (11, 23, 11, 2, 0, 499), (11, 29, 11, 3, 0, 500), (11, 33, 11, 4, 0, 501), (11, 39, 11, 5, 0, 502), (11, 46, 11, 6, 0, 503), (11, 55, 11, 7, 0, 504), (11, 62, 11, 8, 0, 505), (11, 69, 11, 9, 0, 506), (11, 76, 11, 10, 0, 507), (11, 85, 11, 11, 0, 508), (11, 94, 11, 12, 0, 509), (11, 134, 11, 13, 0, 510), (11, 421, 11, 14, 0, 511), (11, 424, 11, 15, 0, 512), (11, 427, 11, 16, 0, 513), (12, 130, 12, 0, 0, 1774), (12, 133, 12, 1, 0, 1775), (12, 136, 12, 2, 0, 1776), (12, 9, 12, 3, 0, 1777), (12, 139, 12, 4, 0, 1778), (12, 146, 12, 5, 0, 1779), (12, 149, 12, 6, 0, 1780), (12, 186, 12, 7, 0, 1781), (12, 189, 12, 8, 0, 1782), (12, 13, 12, 9, 0, 1783), (12, 17, 12, 10, 0, 1784), (12, 20, 12, 11, 0, 1785), (12, 23, 12, 12, 0, 1786), (12, 26, 12, 13, 0, 1787), (12, 29, 12, 14, 0, 1788), (12, 34, 12, 15, 0, 1789), (12, 37, 12, 16, 0, 1790), (12, 40, 12, 17, 0, 1791), (12, 43, 12, 18, 0, 1792), (12, 46, 12, 19, 0, 1793), (12, 49, 12, 20, 0, 1794), (12, 52, 12, 21, 0, 1795), (12, 55, 12, 22, 0, 1796), (12, 59, 12, 23, 0, 1797), (12, 62, 12, 24, 0, 1798), (12, 229, 12, 25, 0, 1799), (12, 258, 12, 26, 0, 1800), (12, 65, 12, 27, 0, 1801), (12, 68, 12, 28, 0, 1802), (12, 71, 12, 29, 0, 1803), (12, 74, 12, 30, 0, 1804), (12, 77, 12, 31, 0, 1805), (12, 80, 12, 32, 0, 1806), (12, 83, 12, 33, 0, 1807), (12, 292, 12, 34, 0, 1808), (12, 86, 12, 35, 0, 1809), (12, 89, 12, 36, 0, 1810), (12, 92, 12, 37, 0, 1811), (12, 95, 12, 38, 0, 1812), (12, 232, 12, 39, 0, 1813), (12, 235, 12, 40, 0, 1814), (12, 238, 12, 41, 0, 1815), (12, 241, 12, 42, 0, 1816), (12, 457, 12, 43, 0, 1817), (12, 98, 12, 44, 0, 1818), (12, 101, 12, 45, 0, 1819), (12, 347, 12, 46, 0, 1820), (12, 357, 12, 47, 0, 1821), (12, 106, 12, 48, 0, 1822), (12, 109, 12, 49, 0, 1823), (12, 112, 12, 50, 0, 1824), (12, 115, 12, 51, 0, 1825), (12, 118, 12, 52, 0, 1826), (12, 399, 12, 53, 0, 1827), (12, 121, 12, 54, 0, 1828), (12, 446, 12, 55, 0, 1829)]
def ta_LI : List (Nat × Nat × Int32 × Nat) := [(8, 50, 1000000, 819), (9, 103, 1000000, 1551), (10, 158, 1103515245, 1730), (11, 398, 1000000, 1747), (12, 163, 100000, 2021), (12, 449, 1103515245, 2386)]
def ta_LJ : List (Nat × Nat × Int64 × Nat) := [(11, 455, 9, 1604), (11, 457, 2, 1605), (11, 459, 10, 1609), (12, 417, 45, 2317), (12, 419, 10, 2318)]
def ta_tx : Nat → String := fun k => match k with
  | 0 => "bolt client wants order seam hands"
  | 1 => "sun rain grey wind frost fog"
  | 2 => "sun rain grey wind frost fog"
  | 3 => "again"
  | 4 => "hour kind age day client seams least most"
  | 5 => "cut alter turn strip sell day again"
  | 6 => "sun rain grey wind frost fog"
  | 7 => "sun rain grey wind frost fog"
  | _ => ""
def ta_LS : List (Nat × Nat × Nat × Nat) := [(6, 64, 0, 730), (6, 98, 1, 810), (4, 82, 2, 926), (4, 94, 3, 937), (2, 87, 4, 990), (5, 40, 5, 1027), (5, 66, 6, 1042), (0, 57, 7, 1225)]
def ta_LN : List (Nat × Nat × Nat × Nat) := [(13, 8, 11, 161), (11, 7, 8, 169), (11, 16, 6, 207), (11, 26, 7, 265), (11, 36, 4, 279), (11, 43, 2, 303), (11, 50, 10, 328), (11, 59, 5, 353), (11, 66, 3, 378), (11, 73, 0, 402), (11, 80, 1, 428), (11, 89, 9, 451), (13, 123, 12, 1750)]
def ta_LA : List (Nat × Nat × Nat × Nat) := [(12, 32, 2, 1756), (12, 104, 3, 1758)]
def ta_ex : Nat → String := fun k => match k with
  | 0 => "java/util/NoSuchElementException"
  | 1 => "java/lang/IllegalArgumentException"
  | _ => "java/lang/IllegalStateException"
/-- exceptions: class, its classLink, its constructor link, which, places -/
def ta_LX : List (Nat × Nat × Nat × Nat × Nat × Nat) := [(11, 433, 435, 1, 647, 688), (11, 430, 432, 0, 886, 895), (11, 436, 438, 2, 1410, 1419)]
def ta_LH : List (Nat × Nat × Nat) := [(13, 1, 627), (19, 0, 869), (68, 2, 1397)]
def ta_Q2 : List (Nat × Nat) := [(164, 0), (172, 1), (210, 2), (268, 3), (282, 4), (306, 5), (331, 6), (356, 7), (381, 8), (405, 9), (409, 10), (431, 11), (454, 12), (483, 13), (488, 14), (492, 15), (495, 16), (550, 17), (554, 18), (558, 19), (562, 20), (566, 21), (570, 22), (576, 23), (580, 24), (584, 25), (588, 26), (592, 27), (596, 28), (599, 29), (603, 30), (608, 31), (612, 32), (617, 33), (621, 34), (625, 35), (629, 36), (634, 37), (641, 38), (645, 39), (711, 40), (715, 41), (719, 42), (724, 43), (728, 44), (732, 45), (737, 46), (740, 47), (744, 48), (796, 49), (799, 50), (805, 51), (808, 52), (813, 53), (817, 54), (823, 55), (827, 56), (831, 57), (834, 58), (838, 59), (842, 60), (847, 61), (851, 62), (855, 63), (859, 64), (863, 65), (867, 66), (871, 67), (876, 68), (880, 69), (884, 70), (902, 71), (907, 72), (912, 73), (916, 74), (921, 75), (931, 76), (935, 77), (940, 78), (945, 79), (949, 80), (952, 81), (956, 82), (961, 83), (965, 84), (969, 85), (975, 86), (982, 87), (987, 88), (994, 89), (998, 90), (1003, 91), (1006, 92), (1010, 93), (1014, 94), (1019, 95), (1025, 96), (1031, 97), (1036, 98), (1044, 99), (1048, 100), (1053, 101), (1057, 102), (1062, 103), (1069, 104), (1074, 105), (1077, 106), (1081, 107), (1086, 108), (1090, 109), (1095, 110), (1099, 111), (1103, 112), (1107, 113), (1111, 114), (1116, 115), (1119, 116), (1124, 117), (1129, 118), (1132, 119), (1139, 120), (1144, 121), (1147, 122), (1151, 123), (1156, 124), (1160, 125), (1168, 126), (1171, 127), (1175, 128), (1180, 129), (1183, 130), (1187, 131), (1191, 132), (1197, 133), (1202, 134), (1206, 135), (1212, 136), (1215, 137), (1219, 138), (1230, 139), (1235, 140), (1238, 141), (1244, 142), (1248, 143), (1252, 144), (1257, 145), (1260, 146), (1264, 147), (1269, 148), (1272, 149), (1276, 150), (1280, 151), (1284, 152), (1290, 153), (1294, 154), (1298, 155), (1303, 156), (1306, 157), (1311, 158), (1316, 159), (1319, 160), (1325, 161), (1328, 162), (1333, 163), (1336, 164), (1342, 165), (1345, 166), (1350, 167), (1354, 168), (1359, 169), (1362, 170), (1365, 171), (1370, 172), (1373, 173), (1378, 174), (1381, 175), (1386, 176), (1389, 177), (1395, 178), (1399, 179), (1404, 180), (1408, 181), (1426, 182), (1429, 183), (1433, 184), (1438, 185), (1443, 186), (1447, 187), (1451, 188), (1454, 189), (1460, 190), (1463, 191), (1466, 192), (1470, 193), (1473, 194), (1477, 195), (1483, 196), (1486, 197), (1489, 198), (1494, 199), (1497, 200), (1501, 201), (1505, 202), (1508, 203), (1512, 204), (1516, 205), (1522, 206), (1528, 207), (1533, 208), (1537, 209), (1543, 210), (1549, 211), (1554, 212), (1558, 213), (1561, 214), (1565, 215), (1571, 216), (1575, 217), (1579, 218), (1584, 219), (1587, 220), (1591, 221), (1595, 222), (1598, 223), (1602, 224), (1607, 225), (1611, 226), (1614, 227), (1617, 228), (1621, 229), (1624, 230), (1628, 231), (1631, 232), (1635, 233), (1640, 234), (1646, 235), (1649, 236), (1655, 237), (1658, 238), (1662, 239), (1668, 240), (1673, 241), (1677, 242), (1680, 243), (1684, 244), (1689, 245), (1692, 246), (1696, 247), (1699, 248), (1704, 249), (1708, 250), (1711, 251), (1716, 252), (1720, 253), (1723, 254), (1728, 255), (1732, 256), (1737, 257), (1741, 258), (1744, 259), (1753, 260), (1762, 261), (1766, 262), (1769, 263), (1772, 264), (1945, 265), (1949, 266), (1953, 267), (1958, 268), (1962, 269), (1966, 270), (1970, 271), (1974, 272), (1978, 273), (1982, 274), (1986, 275), (1989, 276), (1992, 277), (1996, 278), (2000, 279), (2004, 280), (2008, 281), (2012, 282), (2016, 283), (2019, 284), (2024, 285), (2028, 286), (2031, 287), (2036, 288), (2040, 289), (2044, 290), (2047, 291), (2050, 292), (2055, 293), (2059, 294), (2063, 295), (2067, 296), (2071, 297), (2075, 298), (2078, 299), (2083, 300), (2087, 301), (2090, 302), (2094, 303), (2098, 304), (2101, 305), (2105, 306), (2109, 307), (2112, 308), (2116, 309), (2119, 310), (2123, 311), (2127, 312), (2130, 313), (2134, 314), (2138, 315), (2141, 316), (2145, 317), (2148, 318), (2151, 319), (2154, 320), (2157, 321), (2161, 322), (2165, 323), (2169, 324), (2174, 325), (2177, 326), (2181, 327), (2186, 328), (2190, 329), (2193, 330), (2196, 331), (2201, 332), (2204, 333), (2209, 334), (2212, 335), (2216, 336), (2219, 337), (2223, 338), (2227, 339), (2231, 340), (2235, 341), (2240, 342), (2243, 343), (2247, 344), (2252, 345), (2256, 346), (2260, 347), (2263, 348), (2267, 349), (2272, 350), (2275, 351), (2279, 352), (2284, 353), (2288, 354), (2291, 355), (2295, 356), (2298, 357), (2303, 358), (2306, 359), (2310, 360), (2315, 361), (2320, 362), (2323, 363), (2327, 364), (2332, 365), (2336, 366), (2339, 367), (2343, 368), (2348, 369), (2352, 370), (2355, 371), (2360, 372), (2364, 373), (2367, 374), (2371, 375), (2375, 376), (2380, 377), (2384, 378), (2388, 379), (2392, 380), (2397, 381), (2401, 382), (2404, 383), (2408, 384), (2412, 385)]
def ta_Q3 : List (Nat × Nat) := [(0, 27), (1, 37), (2, 38), (3, 39), (5, 43), (6, 44), (7, 46), (8, 48), (9, 49), (10, 51), (11, 55), (12, 56), (13, 57), (14, 68), (15, 69), (16, 70), (17, 72), (18, 75), (19, 76), (20, 77), (21, 83), (22, 84), (23, 85), (24, 86), (25, 87), (26, 88), (27, 89), (28, 95), (29, 96), (30, 97), (31, 98), (32, 101), (33, 102), (34, 103), (35, 105), (36, 115), (37, 118), (38, 120), (39, 121), (40, 129), (41, 134), (42, 153), (43, 167), (44, 168), (45, 169), (46, 176), (47, 180), (48, 181), (49, 185), (50, 186), (51, 187), (52, 188), (53, 190), (54, 196), (55, 199), (56, 206), (57, 208), (58, 209), (59, 210), (60, 211), (61, 212), (62, 216), (63, 217), (64, 234), (65, 235), (66, 241), (67, 242), (68, 252), (69, 253), (70, 255), (71, 261), (72, 262), (73, 268), (74, 269), (75, 270), (76, 271), (77, 272), (78, 273), (79, 274), (80, 275), (81, 278), (82, 279), (83, 280), (84, 281), (85, 282), (86, 283), (87, 285), (88, 286), (89, 288), (90, 289), (91, 290), (92, 293), (93, 294), (94, 295), (95, 296), (96, 297), (97, 298), (98, 300), (99, 301), (100, 303), (101, 304), (102, 306), (103, 307), (104, 309), (105, 311), (106, 312), (107, 314), (108, 315), (109, 317), (110, 325), (111, 328), (112, 329), (113, 332), (114, 334), (115, 342), (116, 345), (117, 346), (118, 347), (119, 350), (120, 353), (121, 354), (122, 356), (123, 358), (124, 361), (125, 365), (126, 366), (127, 369), (128, 370), (129, 372), (130, 373), (131, 377), (132, 378), (133, 381), (134, 382), (484, 13), (489, 14), (551, 17), (555, 18), (559, 19), (563, 20), (567, 21), (577, 23), (581, 24), (585, 25), (600, 29), (604, 30), (609, 31), (613, 32), (618, 33), (622, 34), (630, 36), (712, 40), (716, 41), (720, 42), (733, 45), (800, 50), (814, 53), (835, 58), (839, 59), (843, 60), (848, 61), (852, 62), (856, 63), (860, 64), (864, 65), (872, 67), (903, 71), (913, 73), (917, 74), (941, 78), (953, 81), (957, 82), (999, 90), (1007, 92), (1011, 93), (1015, 94), (1045, 99), (1049, 100), (1070, 104), (1078, 106), (1082, 107), (1087, 108), (1091, 109), (1096, 110), (1100, 111), (1104, 112), (1108, 113), (1112, 114), (1120, 116), (1125, 117), (1133, 119), (1148, 122), (1152, 123), (1157, 124), (1161, 125), (1172, 127), (1176, 128), (1184, 130), (1188, 131), (1192, 132), (1216, 137), (1220, 138), (1231, 139), (1239, 141), (1245, 142), (1249, 143), (1253, 144), (1261, 146), (1265, 147), (1273, 149), (1277, 150), (1281, 151), (1285, 152), (1295, 154), (1307, 157), (1312, 158), (1320, 160), (1329, 162), (1337, 164), (1346, 166), (1366, 171), (1374, 173), (1382, 175), (1390, 177), (1400, 179), (1430, 183), (1434, 184), (1467, 192), (1474, 194), (1478, 195), (1490, 198), (1498, 200), (1502, 201), (1509, 203), (1513, 204), (1517, 205), (1529, 207), (1562, 214), (1566, 215), (1580, 218), (1588, 220), (1592, 221), (1599, 223), (1618, 228), (1625, 230), (1632, 232), (1636, 233), (1650, 236), (1659, 238), (1663, 239), (1669, 240), (1681, 243), (1685, 244), (1693, 246), (1700, 248), (1705, 249), (1712, 251), (1724, 254), (1733, 256), (1738, 257), (1745, 259), (1946, 265), (1950, 266), (1954, 267), (2032, 287), (2051, 292), (2079, 299), (2158, 321), (2162, 322), (2166, 323), (2170, 324), (2178, 326), (2182, 327), (2197, 331), (2205, 333), (2213, 335), (2220, 337), (2224, 338), (2228, 339), (2232, 340), (2236, 341), (2244, 343), (2248, 344), (2264, 348), (2268, 349), (2276, 351), (2280, 352), (2299, 357), (2307, 359), (2311, 360), (2324, 363), (2328, 364), (2340, 367), (2344, 368), (2356, 371), (2368, 374), (2372, 375), (2376, 376), (2389, 379), (2393, 380), (2405, 383), (2409, 384), (2413, 385)]
def ta_Q4 : List (Nat × Nat) := [(135, 13), (136, 11), (137, 8), (138, 6), (139, 7), (140, 4), (141, 2), (142, 10), (143, 5), (144, 3), (145, 0), (146, 1), (147, 9), (148, 12)]
def ta_Q5 : List (Nat × Nat × Nat) := [(191, 8, 0), (193, 8, 1), (195, 8, 2), (197, 8, 3), (199, 8, 4), (201, 8, 5), (203, 8, 6), (241, 6, 0), (243, 6, 1), (245, 6, 2), (247, 6, 3), (249, 6, 4), (251, 6, 5), (253, 6, 6), (255, 6, 7), (257, 6, 8), (259, 6, 9), (261, 6, 10), (276, 7, 0), (294, 4, 0), (296, 4, 1), (298, 4, 2), (300, 4, 3), (315, 2, 0), (317, 2, 1), (319, 2, 2), (321, 2, 3), (323, 2, 4), (325, 2, 5), (340, 10, 0), (342, 10, 1), (344, 10, 2), (346, 10, 3), (348, 10, 4), (350, 10, 5), (367, 5, 0), (369, 5, 1), (371, 5, 2), (373, 5, 3), (375, 5, 4), (391, 3, 0), (393, 3, 1), (395, 3, 2), (397, 3, 3), (399, 3, 4), (417, 0, 0), (419, 0, 1), (421, 0, 2), (423, 0, 3), (425, 0, 4), (440, 1, 0), (442, 1, 1), (444, 1, 2), (446, 1, 3), (448, 1, 4), (465, 9, 0), (467, 9, 1), (469, 9, 2), (471, 9, 3), (473, 9, 4), (475, 9, 5), (477, 9, 6), (479, 9, 7), (514, 11, 0), (516, 11, 1), (518, 11, 2), (520, 11, 3), (522, 11, 4), (524, 11, 5), (526, 11, 6), (528, 11, 7), (530, 11, 8), (532, 11, 9), (534, 11, 10), (536, 11, 11), (538, 11, 12), (540, 11, 13), (542, 11, 14), (544, 11, 15), (546, 11, 16), (1830, 12, 0), (1832, 12, 1), (1834, 12, 2), (1836, 12, 3), (1838, 12, 4), (1840, 12, 5), (1842, 12, 6), (1844, 12, 7), (1846, 12, 8), (1848, 12, 9), (1850, 12, 10), (1852, 12, 11), (1854, 12, 12), (1856, 12, 13), (1858, 12, 14), (1860, 12, 15), (1862, 12, 16), (1864, 12, 17), (1866, 12, 18), (1868, 12, 19), (1870, 12, 20), (1872, 12, 21), (1874, 12, 22), (1876, 12, 23), (1878, 12, 24), (1880, 12, 25), (1882, 12, 26), (1884, 12, 27), (1886, 12, 28), (1888, 12, 29), (1890, 12, 30), (1892, 12, 31), (1894, 12, 32), (1896, 12, 33), (1898, 12, 34), (1900, 12, 35), (1902, 12, 36), (1904, 12, 37), (1906, 12, 38), (1908, 12, 39), (1910, 12, 40), (1912, 12, 41), (1914, 12, 42), (1916, 12, 43), (1918, 12, 44), (1920, 12, 45), (1922, 12, 46), (1924, 12, 47), (1926, 12, 48), (1928, 12, 49), (1930, 12, 50), (1932, 12, 51), (1934, 12, 52), (1936, 12, 53), (1938, 12, 54), (1940, 12, 55)]
def ta_Q6 : List (Nat × Nat) := [(162, 11), (170, 8), (208, 6), (266, 7), (280, 4), (304, 2), (329, 10), (354, 5), (379, 3), (403, 0), (429, 1), (452, 9), (1751, 12)]
/-- one walk over the words: each needed word stands at its place -/
def ta_wk : List Cond → Nat → List (Nat × Cond) → Bool
  | _, _, [] => true
  | [], _, _ :: _ => false
  | c :: cs, k, (p, w) :: r => if k == p then decide (c = w) && ta_wk cs (k + 1) r else ta_wk cs (k + 1) ((p, w) :: r)
theorem ta_wk_mem : ∀ (cs : List Cond) (k : Nat) (ns : List (Nat × Cond)), ta_wk cs k ns = true → ∀ e ∈ ns, e.2 ∈ cs
  | _, _, [], _, _, he => absurd he List.not_mem_nil
  | [], _, _ :: _, h, _, _ => by simp [ta_wk] at h
  | c :: cs, k, (p, w) :: r, h, e, he => by
    unfold ta_wk at h
    split at h
    · rw [Bool.and_eq_true, decide_eq_true_eq] at h
      rcases List.mem_cons.mp he with rfl | he
      · exact h.1 ▸ List.mem_cons_self
      · exact List.mem_cons_of_mem _ (ta_wk_mem cs (k + 1) r h.2 e he)
    · exact List.mem_cons_of_mem _ (ta_wk_mem cs (k + 1) ((p, w) :: r) h e he)
theorem ta_wkm {α : Type} {l : List α} {f : α → Nat × Cond} (h : ta_wk lw_tbl 0 (l.map f) = true) : ∀ e ∈ l, (f e).2 ∈ lw_tbl :=
  fun e he => ta_wk_mem _ _ _ h (f e) (List.mem_map.mpr ⟨e, he, rfl⟩)
def ta_wM (me : ta_Me) : Cond := if me.2.2.2.2.2 = [] then .code me.1 me.2.1 me.2.2.1 me.2.2.2.1 else .codeWith me.1 me.2.1 me.2.2.1 me.2.2.2.1 me.2.2.2.2.2
def ta_me (y : Nat) : ta_Me := (ta_M[y]?).getD (⟨"", "", ""⟩, ByteArray.empty, 0, none, 0, [])
def ta_kd (y : Nat) : Nat := ((ta_P[y]?).getD (0, 0, 0, 0, 0)).2.1
def ta_w2 (y : Nat) : Cond := if ta_kd y = 1 then .static (ta_me y).1 else .instanceMethod (ta_me y).1
def ta_wF (e : Nat × Nat × Nat × Nat × Nat × Nat) : Cond := match e with
  | (c, i, ci, k, ne, _) => match ta_cl[ci]? with
    | none => .initialized ""
    | some q => if ne = 0 then .fieldLink (ta_nm c) i q.1 (q.2.1 k).2.1 (q.2.1 k).2.2.1 else .fieldLinkNest (ta_nm c) i q.1 (q.2.1 k).2.1 (q.2.1 k).2.2.1 "SkyTailor"
def ta_wL (e : Nat × Nat × Nat × Nat × Nat) : Cond := match e with
  | (c, i, kd, y, _) => match kd with
    | 6 => .methodLink (ta_nm c) i Lib.objectInit
    | 7 => .methodLink (ta_nm c) i Lib.Math.max.name
    | 8 => .methodLink (ta_nm c) i Lib.Math.min.name
    | 9 => .methodLink (ta_nm c) i arraycopyName
    | 10 => .methodLink (ta_nm c) i ⟨"java/lang/String", "length", "()I"⟩
    | 11 => .methodLink (ta_nm c) i ⟨"java/lang/String", "charAt", "(I)C"⟩
    | _ => if kd = 1 ∨ kd = 3 ∨ kd = 5 then .methodLinkNest (ta_nm c) i (ta_me y).1 "SkyTailor" else .methodLink (ta_nm c) i (ta_me y).1
def ta_n (y : MethodName) : Option Nat := (parseMethodDescriptor y.desc).map (fun d => d.parameters.length)
def ta_good (e : ta_Me) : Bool := decide (e.1.cls = ta_nm e.2.2.2.2.1) && plainName e.1.cls && decide (e.1.cls ≠ "java/lang/invoke/MethodHandle") && decide (e.1.cls ≠ "java/lang/invoke/VarHandle")
theorem ta_k1 {w : Cond} (i : Nat) (h : tables_1_1[i]? = some w) : w ∈ lw_tbl := List.mem_append_right _ (List.mem_append_left _ (List.mem_of_getElem? h))
theorem ta_k2 {w : Cond} (i : Nat) (h : tables_1_2[i]? = some w) : w ∈ lw_tbl := List.mem_append_right _ (List.mem_append_right _ (List.mem_append_left _ (List.mem_of_getElem? h)))
theorem ta_k3 {w : Cond} (i : Nat) (h : tables_1_3[i]? = some w) : w ∈ lw_tbl := List.mem_append_right _ (List.mem_append_right _ (List.mem_append_right _ (List.mem_append_left _ (List.mem_of_getElem? h))))
theorem ta_k4 {w : Cond} (i : Nat) (h : tables_1_4[i]? = some w) : w ∈ lw_tbl := List.mem_append_right _ (List.mem_append_right _ (List.mem_append_right _ (List.mem_append_right _ (List.mem_append_left _ (List.mem_of_getElem? h)))))
theorem ta_k5 {w : Cond} (i : Nat) (h : tables_1_5[i]? = some w) : w ∈ lw_tbl := List.mem_append_right _ (List.mem_append_right _ (List.mem_append_right _ (List.mem_append_right _ (List.mem_append_right _ (List.mem_append_left _ (List.mem_of_getElem? h))))))
theorem ta_k6 {w : Cond} (i : Nat) (h : tables_1_6[i]? = some w) : w ∈ lw_tbl := List.mem_append_right _ (List.mem_append_right _ (List.mem_append_right _ (List.mem_append_right _ (List.mem_append_right _ (List.mem_append_right _ (List.mem_append_left _ (List.mem_of_getElem? h)))))))
theorem ta_k7 {w : Cond} (i : Nat) (h : tables_1_7[i]? = some w) : w ∈ lw_tbl := List.mem_append_right _ (List.mem_append_right _ (List.mem_append_right _ (List.mem_append_right _ (List.mem_append_right _ (List.mem_append_right _ (List.mem_append_right _ (List.mem_append_left _ (List.mem_of_getElem? h))))))))
theorem ta_k8 {w : Cond} (i : Nat) (h : tables_1_8[i]? = some w) : w ∈ lw_tbl := List.mem_append_right _ (List.mem_append_right _ (List.mem_append_right _ (List.mem_append_right _ (List.mem_append_right _ (List.mem_append_right _ (List.mem_append_right _ (List.mem_append_right _ (List.mem_append_left _ (List.mem_of_getElem? h)))))))))
theorem ta_k9 {w : Cond} (i : Nat) (h : tables_1_9[i]? = some w) : w ∈ lw_tbl := List.mem_append_right _ (List.mem_append_right _ (List.mem_append_right _ (List.mem_append_right _ (List.mem_append_right _ (List.mem_append_right _ (List.mem_append_right _ (List.mem_append_right _ (List.mem_append_right _ (List.mem_append_left _ (List.mem_of_getElem? h))))))))))
theorem ta_k10 {w : Cond} (i : Nat) (h : tables_1_10[i]? = some w) : w ∈ lw_tbl := List.mem_append_right _ (List.mem_append_right _ (List.mem_append_right _ (List.mem_append_right _ (List.mem_append_right _ (List.mem_append_right _ (List.mem_append_right _ (List.mem_append_right _ (List.mem_append_right _ (List.mem_append_right _ (List.mem_of_getElem? h))))))))))
set_option maxRecDepth 1000000 in
theorem ta_Mw0 : ∀ e ∈ ta_M0, ta_wM e ∈ lw_tbl := List.forall_mem_cons.mpr ⟨ta_k1 30 rfl, List.forall_mem_cons.mpr ⟨ta_k1 38 rfl, List.forall_mem_cons.mpr ⟨ta_k1 76 rfl, List.forall_mem_cons.mpr ⟨ta_k1 134 rfl, List.forall_mem_cons.mpr ⟨ta_k1 148 rfl, List.forall_mem_cons.mpr ⟨ta_k1 172 rfl, List.forall_mem_cons.mpr ⟨ta_k1 197 rfl, List.forall_mem_cons.mpr ⟨ta_k1 222 rfl, List.forall_mem_cons.mpr ⟨ta_k2 7 rfl, List.forall_mem_cons.mpr ⟨ta_k2 31 rfl, List.forall_mem_cons.mpr ⟨ta_k2 35 rfl, List.forall_mem_cons.mpr ⟨ta_k2 57 rfl, List.forall_mem_cons.mpr ⟨ta_k2 80 rfl, List.forall_mem_cons.mpr ⟨ta_k2 110 rfl, List.forall_mem_cons.mpr ⟨ta_k2 115 rfl, List.forall_mem_cons.mpr ⟨ta_k2 118 rfl, List.forall_mem_cons.mpr ⟨ta_k2 121 rfl, List.forall_mem_cons.mpr ⟨ta_k2 177 rfl, List.forall_mem_cons.mpr ⟨ta_k2 181 rfl, List.forall_mem_cons.mpr ⟨ta_k2 185 rfl, List.forall_mem_cons.mpr ⟨ta_k2 189 rfl, List.forall_mem_cons.mpr ⟨ta_k2 193 rfl, List.forall_mem_cons.mpr ⟨ta_k2 196 rfl, List.forall_mem_cons.mpr ⟨ta_k2 203 rfl, List.forall_mem_cons.mpr ⟨ta_k2 207 rfl, List.forall_mem_cons.mpr ⟨ta_k2 211 rfl, List.forall_mem_cons.mpr ⟨ta_k2 214 rfl, List.forall_mem_cons.mpr ⟨ta_k2 218 rfl, List.forall_mem_cons.mpr ⟨ta_k2 222 rfl, List.forall_mem_cons.mpr ⟨ta_k2 226 rfl, List.forall_mem_cons.mpr ⟨ta_k2 230 rfl, List.forall_mem_cons.mpr ⟨ta_k2 235 rfl, List.forall_mem_cons.mpr ⟨ta_k2 239 rfl, List.forall_mem_cons.mpr ⟨ta_k3 4 rfl, List.forall_mem_cons.mpr ⟨ta_k3 8 rfl, List.forall_mem_cons.mpr ⟨ta_k3 11 rfl, List.forall_mem_cons.mpr ⟨ta_k3 16 rfl, List.forall_mem_cons.mpr ⟨ta_k3 20 rfl, List.forall_mem_cons.mpr ⟨ta_k3 27 rfl, List.forall_mem_cons.mpr ⟨ta_k3 31 rfl, fun _ h => absurd h List.not_mem_nil⟩⟩⟩⟩⟩⟩⟩⟩⟩⟩⟩⟩⟩⟩⟩⟩⟩⟩⟩⟩⟩⟩⟩⟩⟩⟩⟩⟩⟩⟩⟩⟩⟩⟩⟩⟩⟩⟩⟩⟩
set_option maxRecDepth 1000000 in
theorem ta_Mw1 : ∀ e ∈ ta_M1, ta_wM e ∈ lw_tbl := List.forall_mem_cons.mpr ⟨ta_k3 98 rfl, List.forall_mem_cons.mpr ⟨ta_k3 102 rfl, List.forall_mem_cons.mpr ⟨ta_k3 106 rfl, List.forall_mem_cons.mpr ⟨ta_k3 110 rfl, List.forall_mem_cons.mpr ⟨ta_k3 114 rfl, List.forall_mem_cons.mpr ⟨ta_k3 119 rfl, List.forall_mem_cons.mpr ⟨ta_k3 123 rfl, List.forall_mem_cons.mpr ⟨ta_k3 126 rfl, List.forall_mem_cons.mpr ⟨ta_k3 130 rfl, List.forall_mem_cons.mpr ⟨ta_k3 182 rfl, List.forall_mem_cons.mpr ⟨ta_k3 186 rfl, List.forall_mem_cons.mpr ⟨ta_k3 191 rfl, List.forall_mem_cons.mpr ⟨ta_k3 194 rfl, List.forall_mem_cons.mpr ⟨ta_k3 200 rfl, List.forall_mem_cons.mpr ⟨ta_k3 203 rfl, List.forall_mem_cons.mpr ⟨ta_k3 209 rfl, List.forall_mem_cons.mpr ⟨ta_k3 213 rfl, List.forall_mem_cons.mpr ⟨ta_k3 217 rfl, List.forall_mem_cons.mpr ⟨ta_k3 221 rfl, List.forall_mem_cons.mpr ⟨ta_k3 225 rfl, List.forall_mem_cons.mpr ⟨ta_k3 229 rfl, List.forall_mem_cons.mpr ⟨ta_k3 234 rfl, List.forall_mem_cons.mpr ⟨ta_k3 238 rfl, List.forall_mem_cons.mpr ⟨ta_k4 2 rfl, List.forall_mem_cons.mpr ⟨ta_k4 6 rfl, List.forall_mem_cons.mpr ⟨ta_k4 10 rfl, List.forall_mem_cons.mpr ⟨ta_k4 13 rfl, List.forall_mem_cons.mpr ⟨ta_k4 18 rfl, List.forall_mem_cons.mpr ⟨ta_k4 22 rfl, List.forall_mem_cons.mpr ⟨ta_k4 26 rfl, List.forall_mem_cons.mpr ⟨ta_k4 30 rfl, List.forall_mem_cons.mpr ⟨ta_k4 49 rfl, List.forall_mem_cons.mpr ⟨ta_k4 53 rfl, List.forall_mem_cons.mpr ⟨ta_k4 59 rfl, List.forall_mem_cons.mpr ⟨ta_k4 63 rfl, List.forall_mem_cons.mpr ⟨ta_k4 67 rfl, List.forall_mem_cons.mpr ⟨ta_k4 77 rfl, List.forall_mem_cons.mpr ⟨ta_k4 81 rfl, List.forall_mem_cons.mpr ⟨ta_k4 87 rfl, List.forall_mem_cons.mpr ⟨ta_k4 91 rfl, fun _ h => absurd h List.not_mem_nil⟩⟩⟩⟩⟩⟩⟩⟩⟩⟩⟩⟩⟩⟩⟩⟩⟩⟩⟩⟩⟩⟩⟩⟩⟩⟩⟩⟩⟩⟩⟩⟩⟩⟩⟩⟩⟩⟩⟩⟩
set_option maxRecDepth 1000000 in
theorem ta_Mw2 : ∀ e ∈ ta_M2, ta_wM e ∈ lw_tbl := List.forall_mem_cons.mpr ⟨ta_k4 95 rfl, List.forall_mem_cons.mpr ⟨ta_k4 99 rfl, List.forall_mem_cons.mpr ⟨ta_k4 103 rfl, List.forall_mem_cons.mpr ⟨ta_k4 107 rfl, List.forall_mem_cons.mpr ⟨ta_k4 111 rfl, List.forall_mem_cons.mpr ⟨ta_k4 115 rfl, List.forall_mem_cons.mpr ⟨ta_k4 121 rfl, List.forall_mem_cons.mpr ⟨ta_k4 128 rfl, List.forall_mem_cons.mpr ⟨ta_k4 133 rfl, List.forall_mem_cons.mpr ⟨ta_k4 140 rfl, List.forall_mem_cons.mpr ⟨ta_k4 145 rfl, List.forall_mem_cons.mpr ⟨ta_k4 149 rfl, List.forall_mem_cons.mpr ⟨ta_k4 153 rfl, List.forall_mem_cons.mpr ⟨ta_k4 157 rfl, List.forall_mem_cons.mpr ⟨ta_k4 161 rfl, List.forall_mem_cons.mpr ⟨ta_k4 165 rfl, List.forall_mem_cons.mpr ⟨ta_k4 171 rfl, List.forall_mem_cons.mpr ⟨ta_k4 177 rfl, List.forall_mem_cons.mpr ⟨ta_k4 182 rfl, List.forall_mem_cons.mpr ⟨ta_k4 191 rfl, List.forall_mem_cons.mpr ⟨ta_k4 195 rfl, List.forall_mem_cons.mpr ⟨ta_k4 199 rfl, List.forall_mem_cons.mpr ⟨ta_k4 203 rfl, List.forall_mem_cons.mpr ⟨ta_k4 208 rfl, List.forall_mem_cons.mpr ⟨ta_k4 216 rfl, List.forall_mem_cons.mpr ⟨ta_k4 220 rfl, List.forall_mem_cons.mpr ⟨ta_k4 224 rfl, List.forall_mem_cons.mpr ⟨ta_k4 228 rfl, List.forall_mem_cons.mpr ⟨ta_k4 233 rfl, List.forall_mem_cons.mpr ⟨ta_k4 237 rfl, List.forall_mem_cons.mpr ⟨ta_k5 2 rfl, List.forall_mem_cons.mpr ⟨ta_k5 6 rfl, List.forall_mem_cons.mpr ⟨ta_k5 10 rfl, List.forall_mem_cons.mpr ⟨ta_k5 14 rfl, List.forall_mem_cons.mpr ⟨ta_k5 18 rfl, List.forall_mem_cons.mpr ⟨ta_k5 22 rfl, List.forall_mem_cons.mpr ⟨ta_k5 26 rfl, List.forall_mem_cons.mpr ⟨ta_k5 31 rfl, List.forall_mem_cons.mpr ⟨ta_k5 35 rfl, List.forall_mem_cons.mpr ⟨ta_k5 39 rfl, fun _ h => absurd h List.not_mem_nil⟩⟩⟩⟩⟩⟩⟩⟩⟩⟩⟩⟩⟩⟩⟩⟩⟩⟩⟩⟩⟩⟩⟩⟩⟩⟩⟩⟩⟩⟩⟩⟩⟩⟩⟩⟩⟩⟩⟩⟩
set_option maxRecDepth 1000000 in
theorem ta_Mw3 : ∀ e ∈ ta_M3, ta_wM e ∈ lw_tbl := List.forall_mem_cons.mpr ⟨ta_k5 45 rfl, List.forall_mem_cons.mpr ⟨ta_k5 50 rfl, List.forall_mem_cons.mpr ⟨ta_k5 54 rfl, List.forall_mem_cons.mpr ⟨ta_k5 58 rfl, List.forall_mem_cons.mpr ⟨ta_k5 63 rfl, List.forall_mem_cons.mpr ⟨ta_k5 67 rfl, List.forall_mem_cons.mpr ⟨ta_k5 74 rfl, List.forall_mem_cons.mpr ⟨ta_k5 78 rfl, List.forall_mem_cons.mpr ⟨ta_k5 82 rfl, List.forall_mem_cons.mpr ⟨ta_k5 86 rfl, List.forall_mem_cons.mpr ⟨ta_k5 90 rfl, List.forall_mem_cons.mpr ⟨ta_k5 94 rfl, List.forall_mem_cons.mpr ⟨ta_k5 98 rfl, List.forall_mem_cons.mpr ⟨ta_k5 103 rfl, List.forall_mem_cons.mpr ⟨ta_k5 108 rfl, List.forall_mem_cons.mpr ⟨ta_k5 112 rfl, List.forall_mem_cons.mpr ⟨ta_k5 118 rfl, List.forall_mem_cons.mpr ⟨ta_k5 122 rfl, List.forall_mem_cons.mpr ⟨ta_k5 126 rfl, List.forall_mem_cons.mpr ⟨ta_k5 137 rfl, List.forall_mem_cons.mpr ⟨ta_k5 141 rfl, List.forall_mem_cons.mpr ⟨ta_k5 145 rfl, List.forall_mem_cons.mpr ⟨ta_k5 151 rfl, List.forall_mem_cons.mpr ⟨ta_k5 155 rfl, List.forall_mem_cons.mpr ⟨ta_k5 159 rfl, List.forall_mem_cons.mpr ⟨ta_k5 163 rfl, List.forall_mem_cons.mpr ⟨ta_k5 167 rfl, List.forall_mem_cons.mpr ⟨ta_k5 171 rfl, List.forall_mem_cons.mpr ⟨ta_k5 175 rfl, List.forall_mem_cons.mpr ⟨ta_k5 179 rfl, List.forall_mem_cons.mpr ⟨ta_k5 183 rfl, List.forall_mem_cons.mpr ⟨ta_k5 187 rfl, List.forall_mem_cons.mpr ⟨ta_k5 191 rfl, List.forall_mem_cons.mpr ⟨ta_k5 196 rfl, List.forall_mem_cons.mpr ⟨ta_k5 201 rfl, List.forall_mem_cons.mpr ⟨ta_k5 204 rfl, List.forall_mem_cons.mpr ⟨ta_k5 209 rfl, List.forall_mem_cons.mpr ⟨ta_k5 213 rfl, List.forall_mem_cons.mpr ⟨ta_k5 218 rfl, List.forall_mem_cons.mpr ⟨ta_k5 222 rfl, fun _ h => absurd h List.not_mem_nil⟩⟩⟩⟩⟩⟩⟩⟩⟩⟩⟩⟩⟩⟩⟩⟩⟩⟩⟩⟩⟩⟩⟩⟩⟩⟩⟩⟩⟩⟩⟩⟩⟩⟩⟩⟩⟩⟩⟩⟩
set_option maxRecDepth 1000000 in
theorem ta_Mw4 : ∀ e ∈ ta_M4, ta_wM e ∈ lw_tbl := List.forall_mem_cons.mpr ⟨ta_k5 226 rfl, List.forall_mem_cons.mpr ⟨ta_k5 231 rfl, List.forall_mem_cons.mpr ⟨ta_k5 235 rfl, List.forall_mem_cons.mpr ⟨ta_k5 239 rfl, List.forall_mem_cons.mpr ⟨ta_k6 3 rfl, List.forall_mem_cons.mpr ⟨ta_k6 8 rfl, List.forall_mem_cons.mpr ⟨ta_k6 12 rfl, List.forall_mem_cons.mpr ⟨ta_k6 16 rfl, List.forall_mem_cons.mpr ⟨ta_k6 20 rfl, List.forall_mem_cons.mpr ⟨ta_k6 25 rfl, List.forall_mem_cons.mpr ⟨ta_k6 28 rfl, List.forall_mem_cons.mpr ⟨ta_k6 32 rfl, List.forall_mem_cons.mpr ⟨ta_k6 36 rfl, List.forall_mem_cons.mpr ⟨ta_k6 40 rfl, List.forall_mem_cons.mpr ⟨ta_k6 44 rfl, List.forall_mem_cons.mpr ⟨ta_k6 48 rfl, List.forall_mem_cons.mpr ⟨ta_k6 52 rfl, List.forall_mem_cons.mpr ⟨ta_k6 56 rfl, List.forall_mem_cons.mpr ⟨ta_k6 61 rfl, List.forall_mem_cons.mpr ⟨ta_k6 66 rfl, List.forall_mem_cons.mpr ⟨ta_k6 70 rfl, List.forall_mem_cons.mpr ⟨ta_k6 74 rfl, List.forall_mem_cons.mpr ⟨ta_k6 92 rfl, List.forall_mem_cons.mpr ⟨ta_k6 96 rfl, List.forall_mem_cons.mpr ⟨ta_k6 100 rfl, List.forall_mem_cons.mpr ⟨ta_k6 104 rfl, List.forall_mem_cons.mpr ⟨ta_k6 109 rfl, List.forall_mem_cons.mpr ⟨ta_k6 113 rfl, List.forall_mem_cons.mpr ⟨ta_k6 117 rfl, List.forall_mem_cons.mpr ⟨ta_k6 120 rfl, List.forall_mem_cons.mpr ⟨ta_k6 126 rfl, List.forall_mem_cons.mpr ⟨ta_k6 129 rfl, List.forall_mem_cons.mpr ⟨ta_k6 133 rfl, List.forall_mem_cons.mpr ⟨ta_k6 136 rfl, List.forall_mem_cons.mpr ⟨ta_k6 140 rfl, List.forall_mem_cons.mpr ⟨ta_k6 144 rfl, List.forall_mem_cons.mpr ⟨ta_k6 149 rfl, List.forall_mem_cons.mpr ⟨ta_k6 152 rfl, List.forall_mem_cons.mpr ⟨ta_k6 156 rfl, List.forall_mem_cons.mpr ⟨ta_k6 160 rfl, fun _ h => absurd h List.not_mem_nil⟩⟩⟩⟩⟩⟩⟩⟩⟩⟩⟩⟩⟩⟩⟩⟩⟩⟩⟩⟩⟩⟩⟩⟩⟩⟩⟩⟩⟩⟩⟩⟩⟩⟩⟩⟩⟩⟩⟩⟩
set_option maxRecDepth 1000000 in
theorem ta_Mw5 : ∀ e ∈ ta_M5, ta_wM e ∈ lw_tbl := List.forall_mem_cons.mpr ⟨ta_k6 164 rfl, List.forall_mem_cons.mpr ⟨ta_k6 168 rfl, List.forall_mem_cons.mpr ⟨ta_k6 171 rfl, List.forall_mem_cons.mpr ⟨ta_k6 175 rfl, List.forall_mem_cons.mpr ⟨ta_k6 179 rfl, List.forall_mem_cons.mpr ⟨ta_k6 183 rfl, List.forall_mem_cons.mpr ⟨ta_k6 188 rfl, List.forall_mem_cons.mpr ⟨ta_k6 195 rfl, List.forall_mem_cons.mpr ⟨ta_k6 199 rfl, List.forall_mem_cons.mpr ⟨ta_k6 203 rfl, List.forall_mem_cons.mpr ⟨ta_k6 209 rfl, List.forall_mem_cons.mpr ⟨ta_k6 215 rfl, List.forall_mem_cons.mpr ⟨ta_k6 220 rfl, List.forall_mem_cons.mpr ⟨ta_k6 224 rfl, List.forall_mem_cons.mpr ⟨ta_k6 228 rfl, List.forall_mem_cons.mpr ⟨ta_k6 232 rfl, List.forall_mem_cons.mpr ⟨ta_k6 237 rfl, List.forall_mem_cons.mpr ⟨ta_k7 1 rfl, List.forall_mem_cons.mpr ⟨ta_k7 6 rfl, List.forall_mem_cons.mpr ⟨ta_k7 10 rfl, List.forall_mem_cons.mpr ⟨ta_k7 14 rfl, List.forall_mem_cons.mpr ⟨ta_k7 18 rfl, List.forall_mem_cons.mpr ⟨ta_k7 21 rfl, List.forall_mem_cons.mpr ⟨ta_k7 25 rfl, List.forall_mem_cons.mpr ⟨ta_k7 28 rfl, List.forall_mem_cons.mpr ⟨ta_k7 33 rfl, List.forall_mem_cons.mpr ⟨ta_k7 37 rfl, List.forall_mem_cons.mpr ⟨ta_k7 40 rfl, List.forall_mem_cons.mpr ⟨ta_k7 44 rfl, List.forall_mem_cons.mpr ⟨ta_k7 47 rfl, List.forall_mem_cons.mpr ⟨ta_k7 51 rfl, List.forall_mem_cons.mpr ⟨ta_k7 54 rfl, List.forall_mem_cons.mpr ⟨ta_k7 58 rfl, List.forall_mem_cons.mpr ⟨ta_k7 62 rfl, List.forall_mem_cons.mpr ⟨ta_k7 66 rfl, List.forall_mem_cons.mpr ⟨ta_k7 72 rfl, List.forall_mem_cons.mpr ⟨ta_k7 76 rfl, List.forall_mem_cons.mpr ⟨ta_k7 81 rfl, List.forall_mem_cons.mpr ⟨ta_k7 85 rfl, List.forall_mem_cons.mpr ⟨ta_k7 89 rfl, fun _ h => absurd h List.not_mem_nil⟩⟩⟩⟩⟩⟩⟩⟩⟩⟩⟩⟩⟩⟩⟩⟩⟩⟩⟩⟩⟩⟩⟩⟩⟩⟩⟩⟩⟩⟩⟩⟩⟩⟩⟩⟩⟩⟩⟩⟩
set_option maxRecDepth 1000000 in
theorem ta_Mw6 : ∀ e ∈ ta_M6, ta_wM e ∈ lw_tbl := List.forall_mem_cons.mpr ⟨ta_k7 95 rfl, List.forall_mem_cons.mpr ⟨ta_k7 99 rfl, List.forall_mem_cons.mpr ⟨ta_k7 103 rfl, List.forall_mem_cons.mpr ⟨ta_k7 107 rfl, List.forall_mem_cons.mpr ⟨ta_k7 111 rfl, List.forall_mem_cons.mpr ⟨ta_k7 115 rfl, List.forall_mem_cons.mpr ⟨ta_k7 119 rfl, List.forall_mem_cons.mpr ⟨ta_k7 122 rfl, List.forall_mem_cons.mpr ⟨ta_k7 126 rfl, List.forall_mem_cons.mpr ⟨ta_k7 131 rfl, List.forall_mem_cons.mpr ⟨ta_k7 134 rfl, List.forall_mem_cons.mpr ⟨ta_k7 138 rfl, List.forall_mem_cons.mpr ⟨ta_k7 142 rfl, List.forall_mem_cons.mpr ⟨ta_k7 146 rfl, List.forall_mem_cons.mpr ⟨ta_k7 150 rfl, List.forall_mem_cons.mpr ⟨ta_k7 154 rfl, List.forall_mem_cons.mpr ⟨ta_k7 159 rfl, List.forall_mem_cons.mpr ⟨ta_k7 164 rfl, List.forall_mem_cons.mpr ⟨ta_k7 167 rfl, List.forall_mem_cons.mpr ⟨ta_k7 171 rfl, List.forall_mem_cons.mpr ⟨ta_k7 179 rfl, List.forall_mem_cons.mpr ⟨ta_k7 188 rfl, List.forall_mem_cons.mpr ⟨ta_k7 192 rfl, List.forall_mem_cons.mpr ⟨ta_k7 195 rfl, List.forall_mem_cons.mpr ⟨ta_k7 198 rfl, List.forall_mem_cons.mpr ⟨ta_k8 132 rfl, List.forall_mem_cons.mpr ⟨ta_k8 136 rfl, List.forall_mem_cons.mpr ⟨ta_k8 140 rfl, List.forall_mem_cons.mpr ⟨ta_k8 144 rfl, List.forall_mem_cons.mpr ⟨ta_k8 148 rfl, List.forall_mem_cons.mpr ⟨ta_k8 152 rfl, List.forall_mem_cons.mpr ⟨ta_k8 156 rfl, List.forall_mem_cons.mpr ⟨ta_k8 160 rfl, List.forall_mem_cons.mpr ⟨ta_k8 164 rfl, List.forall_mem_cons.mpr ⟨ta_k8 168 rfl, List.forall_mem_cons.mpr ⟨ta_k8 172 rfl, List.forall_mem_cons.mpr ⟨ta_k8 175 rfl, List.forall_mem_cons.mpr ⟨ta_k8 178 rfl, List.forall_mem_cons.mpr ⟨ta_k8 182 rfl, List.forall_mem_cons.mpr ⟨ta_k8 186 rfl, fun _ h => absurd h List.not_mem_nil⟩⟩⟩⟩⟩⟩⟩⟩⟩⟩⟩⟩⟩⟩⟩⟩⟩⟩⟩⟩⟩⟩⟩⟩⟩⟩⟩⟩⟩⟩⟩⟩⟩⟩⟩⟩⟩⟩⟩⟩
set_option maxRecDepth 1000000 in
theorem ta_Mw7 : ∀ e ∈ ta_M7, ta_wM e ∈ lw_tbl := List.forall_mem_cons.mpr ⟨ta_k8 190 rfl, List.forall_mem_cons.mpr ⟨ta_k8 194 rfl, List.forall_mem_cons.mpr ⟨ta_k8 198 rfl, List.forall_mem_cons.mpr ⟨ta_k8 202 rfl, List.forall_mem_cons.mpr ⟨ta_k8 205 rfl, List.forall_mem_cons.mpr ⟨ta_k8 210 rfl, List.forall_mem_cons.mpr ⟨ta_k8 214 rfl, List.forall_mem_cons.mpr ⟨ta_k8 218 rfl, List.forall_mem_cons.mpr ⟨ta_k8 222 rfl, List.forall_mem_cons.mpr ⟨ta_k8 226 rfl, List.forall_mem_cons.mpr ⟨ta_k8 230 rfl, List.forall_mem_cons.mpr ⟨ta_k8 233 rfl, List.forall_mem_cons.mpr ⟨ta_k8 237 rfl, List.forall_mem_cons.mpr ⟨ta_k9 1 rfl, List.forall_mem_cons.mpr ⟨ta_k9 5 rfl, List.forall_mem_cons.mpr ⟨ta_k9 9 rfl, List.forall_mem_cons.mpr ⟨ta_k9 13 rfl, List.forall_mem_cons.mpr ⟨ta_k9 17 rfl, List.forall_mem_cons.mpr ⟨ta_k9 21 rfl, List.forall_mem_cons.mpr ⟨ta_k9 25 rfl, List.forall_mem_cons.mpr ⟨ta_k9 29 rfl, List.forall_mem_cons.mpr ⟨ta_k9 33 rfl, List.forall_mem_cons.mpr ⟨ta_k9 36 rfl, List.forall_mem_cons.mpr ⟨ta_k9 40 rfl, List.forall_mem_cons.mpr ⟨ta_k9 44 rfl, List.forall_mem_cons.mpr ⟨ta_k9 47 rfl, List.forall_mem_cons.mpr ⟨ta_k9 51 rfl, List.forall_mem_cons.mpr ⟨ta_k9 55 rfl, List.forall_mem_cons.mpr ⟨ta_k9 58 rfl, List.forall_mem_cons.mpr ⟨ta_k9 62 rfl, List.forall_mem_cons.mpr ⟨ta_k9 65 rfl, List.forall_mem_cons.mpr ⟨ta_k9 69 rfl, List.forall_mem_cons.mpr ⟨ta_k9 73 rfl, List.forall_mem_cons.mpr ⟨ta_k9 76 rfl, List.forall_mem_cons.mpr ⟨ta_k9 80 rfl, List.forall_mem_cons.mpr ⟨ta_k9 84 rfl, List.forall_mem_cons.mpr ⟨ta_k9 87 rfl, List.forall_mem_cons.mpr ⟨ta_k9 91 rfl, List.forall_mem_cons.mpr ⟨ta_k9 94 rfl, List.forall_mem_cons.mpr ⟨ta_k9 97 rfl, fun _ h => absurd h List.not_mem_nil⟩⟩⟩⟩⟩⟩⟩⟩⟩⟩⟩⟩⟩⟩⟩⟩⟩⟩⟩⟩⟩⟩⟩⟩⟩⟩⟩⟩⟩⟩⟩⟩⟩⟩⟩⟩⟩⟩⟩⟩
set_option maxRecDepth 1000000 in
theorem ta_Mw8 : ∀ e ∈ ta_M8, ta_wM e ∈ lw_tbl := List.forall_mem_cons.mpr ⟨ta_k9 100 rfl, List.forall_mem_cons.mpr ⟨ta_k9 104 rfl, List.forall_mem_cons.mpr ⟨ta_k9 108 rfl, List.forall_mem_cons.mpr ⟨ta_k9 112 rfl, List.forall_mem_cons.mpr ⟨ta_k9 116 rfl, List.forall_mem_cons.mpr ⟨ta_k9 120 rfl, List.forall_mem_cons.mpr ⟨ta_k9 124 rfl, List.forall_mem_cons.mpr ⟨ta_k9 128 rfl, List.forall_mem_cons.mpr ⟨ta_k9 132 rfl, List.forall_mem_cons.mpr ⟨ta_k9 136 rfl, List.forall_mem_cons.mpr ⟨ta_k9 139 rfl, List.forall_mem_cons.mpr ⟨ta_k9 143 rfl, List.forall_mem_cons.mpr ⟨ta_k9 147 rfl, List.forall_mem_cons.mpr ⟨ta_k9 151 rfl, List.forall_mem_cons.mpr ⟨ta_k9 155 rfl, List.forall_mem_cons.mpr ⟨ta_k9 159 rfl, List.forall_mem_cons.mpr ⟨ta_k9 162 rfl, List.forall_mem_cons.mpr ⟨ta_k9 166 rfl, List.forall_mem_cons.mpr ⟨ta_k9 170 rfl, List.forall_mem_cons.mpr ⟨ta_k9 174 rfl, List.forall_mem_cons.mpr ⟨ta_k9 178 rfl, List.forall_mem_cons.mpr ⟨ta_k9 182 rfl, List.forall_mem_cons.mpr ⟨ta_k9 186 rfl, List.forall_mem_cons.mpr ⟨ta_k9 190 rfl, List.forall_mem_cons.mpr ⟨ta_k9 194 rfl, List.forall_mem_cons.mpr ⟨ta_k9 198 rfl, List.forall_mem_cons.mpr ⟨ta_k9 202 rfl, List.forall_mem_cons.mpr ⟨ta_k9 206 rfl, List.forall_mem_cons.mpr ⟨ta_k9 210 rfl, List.forall_mem_cons.mpr ⟨ta_k9 214 rfl, List.forall_mem_cons.mpr ⟨ta_k9 218 rfl, List.forall_mem_cons.mpr ⟨ta_k9 222 rfl, List.forall_mem_cons.mpr ⟨ta_k9 226 rfl, List.forall_mem_cons.mpr ⟨ta_k9 230 rfl, List.forall_mem_cons.mpr ⟨ta_k9 234 rfl, List.forall_mem_cons.mpr ⟨ta_k9 237 rfl, List.forall_mem_cons.mpr ⟨ta_k10 1 rfl, List.forall_mem_cons.mpr ⟨ta_k10 5 rfl, List.forall_mem_cons.mpr ⟨ta_k10 9 rfl, List.forall_mem_cons.mpr ⟨ta_k10 13 rfl, fun _ h => absurd h List.not_mem_nil⟩⟩⟩⟩⟩⟩⟩⟩⟩⟩⟩⟩⟩⟩⟩⟩⟩⟩⟩⟩⟩⟩⟩⟩⟩⟩⟩⟩⟩⟩⟩⟩⟩⟩⟩⟩⟩⟩⟩⟩
set_option maxRecDepth 1000000 in
theorem ta_Mw9 : ∀ e ∈ ta_M9.take 26, ta_wM e ∈ lw_tbl := List.forall_mem_cons.mpr ⟨ta_k10 17 rfl, List.forall_mem_cons.mpr ⟨ta_k10 21 rfl, List.forall_mem_cons.mpr ⟨ta_k10 26 rfl, List.forall_mem_cons.mpr ⟨ta_k10 30 rfl, List.forall_mem_cons.mpr ⟨ta_k10 34 rfl, List.forall_mem_cons.mpr ⟨ta_k10 38 rfl, List.forall_mem_cons.mpr ⟨ta_k10 42 rfl, List.forall_mem_cons.mpr ⟨ta_k10 46 rfl, List.forall_mem_cons.mpr ⟨ta_k10 50 rfl, List.forall_mem_cons.mpr ⟨ta_k10 54 rfl, List.forall_mem_cons.mpr ⟨ta_k10 58 rfl, List.forall_mem_cons.mpr ⟨ta_k10 62 rfl, List.forall_mem_cons.mpr ⟨ta_k10 66 rfl, List.forall_mem_cons.mpr ⟨ta_k10 70 rfl, List.forall_mem_cons.mpr ⟨ta_k10 74 rfl, List.forall_mem_cons.mpr ⟨ta_k10 78 rfl, List.forall_mem_cons.mpr ⟨ta_k10 82 rfl, List.forall_mem_cons.mpr ⟨ta_k10 86 rfl, List.forall_mem_cons.mpr ⟨ta_k10 90 rfl, List.forall_mem_cons.mpr ⟨ta_k10 95 rfl, List.forall_mem_cons.mpr ⟨ta_k10 99 rfl, List.forall_mem_cons.mpr ⟨ta_k10 103 rfl, List.forall_mem_cons.mpr ⟨ta_k10 107 rfl, List.forall_mem_cons.mpr ⟨ta_k10 111 rfl, List.forall_mem_cons.mpr ⟨ta_k10 115 rfl, List.forall_mem_cons.mpr ⟨ta_k10 119 rfl, fun _ h => absurd h List.not_mem_nil⟩⟩⟩⟩⟩⟩⟩⟩⟩⟩⟩⟩⟩⟩⟩⟩⟩⟩⟩⟩⟩⟩⟩⟩⟩⟩
set_option maxRecDepth 1000000 in
theorem ta_G_ok : ta_M.all ta_good = true := by decide +kernel
set_option maxRecDepth 1000000 in
theorem ta_Q2_ok : ta_wk lw_tbl 0 (ta_Q2.map (fun e => (e.1, ta_w2 e.2))) = true := by decide +kernel
set_option maxRecDepth 1000000 in
theorem ta_Q3_ok : ta_wk lw_tbl 0 (ta_Q3.map (fun e => (e.1, .selects (ta_me e.2).1.cls (ta_me e.2).1 (ta_me e.2).1))) = true := by decide +kernel
set_option maxRecDepth 1000000 in
theorem ta_Q4_ok : ta_wk lw_tbl 0 (ta_Q4.map (fun e => (e.1, .initialized (ta_nm e.2)))) = true := by decide +kernel
set_option maxRecDepth 1000000 in
theorem ta_Q5_ok : ta_wk lw_tbl 0 (ta_Q5.map (fun e => (e.1, match ta_cl[e.2.1]? with | none => .initialized "" | some q => u_lay q.1 q.2.1 e.2.2))) = true := by decide +kernel
set_option maxRecDepth 1000000 in
theorem ta_Q6_ok : ta_wk lw_tbl 0 (ta_Q6.map (fun e => (e.1, match ta_cl[e.2]? with | none => .initialized "" | some q => .instantiable q.1 q.2.2))) = true := by decide +kernel
set_option maxRecDepth 1000000 in
theorem ta_LF_ok : ta_wk lw_tbl 0 (ta_LF.map (fun e => (e.2.2.2.2.2, ta_wF e))) = true := by decide +kernel
set_option maxRecDepth 1000000 in
theorem ta_LM_ok : ta_wk lw_tbl 0 (ta_LM.map (fun e => (e.2.2.2.2, ta_wL e))) = true := by decide +kernel
set_option maxRecDepth 1000000 in
theorem ta_LI_ok : ta_wk lw_tbl 0 (ta_LI.map (fun e => (e.2.2.2, .constant (ta_nm e.1) e.2.1 e.2.2.1))) = true := by decide +kernel
set_option maxRecDepth 1000000 in
theorem ta_LJ_ok : ta_wk lw_tbl 0 (ta_LJ.map (fun e => (e.2.2.2, .constantLong (ta_nm e.1) e.2.1 e.2.2.1))) = true := by decide +kernel
set_option maxRecDepth 1000000 in
theorem ta_LS_ok : ta_wk lw_tbl 0 (ta_LS.map (fun e => (e.2.2.2, .stringRef (ta_nm e.1) e.2.1 (ta_tx e.2.2.1)))) = true := by decide +kernel
set_option maxRecDepth 1000000 in
theorem ta_LN_ok : ta_wk lw_tbl 0 (ta_LN.map (fun e => (e.2.2.2, .classLink (ta_nm e.1) e.2.1 (ta_nm e.2.2.1)))) = true := by decide +kernel
set_option maxRecDepth 1000000 in
theorem ta_LX_ok : ta_wk lw_tbl 0 (ta_LX.map (fun e => (e.2.2.2.2.1, .classLink (ta_nm e.1) e.2.1 (ta_ex e.2.2.2.1)))) = true := by decide +kernel
set_option maxRecDepth 1000000 in
theorem ta_LH_ok : ta_wk lw_tbl 0 (ta_LH.map (fun e => (e.2.2, .classLink (ta_nm 13) e.1 (ta_ex e.2.1)))) = true := by decide +kernel
set_option maxRecDepth 1000000 in
theorem ta_LA_ok : ta_wk lw_tbl 0 (ta_LA.map (fun e => (e.2.2.2, .classLink (ta_nm e.1) e.2.1 (if e.2.2.1 = 2 then "[[I" else "[[[I")))) = true := by decide +kernel
