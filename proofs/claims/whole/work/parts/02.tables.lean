/-! the machine's tables: written by wip/whole/gen_tables.py out of javap's listing and the tables' words -/
def mT0 : u_T := fun k => match k with
  | 0 => ("EscapeCells$Flight", "storey", "LEscapeCells$Storey;", true)
  | 1 => ("EscapeCells$Flight", "numbers", "LEscapeCells$Numbers;", true)
  | 2 => ("EscapeCells$Flight", "people", "LEscapeCells$People;", true)
  | 3 => ("EscapeCells$Flight", "state", "[I", true)
  | 4 => ("EscapeCells$Flight", "since", "[I", true)
  | 5 => ("EscapeCells$Flight", "exitTaken", "[I", true)
  | 6 => ("EscapeCells$Flight", "steps", "[I", true)
  | 7 => ("EscapeCells$Flight", "cameInAll", "[I", true)
  | 8 => ("EscapeCells$Flight", "last", "I", false)
  | 9 => ("EscapeCells$Flight", "here", "[I", true)
  | 10 => ("EscapeCells$Flight", "goal", "[I", true)
  | 11 => ("EscapeCells$Flight", "mayStepFrom", "[I", true)
  | 12 => ("EscapeCells$Flight", "stepSecond", "[[I", true)
  | 13 => ("EscapeCells$Flight", "stepCell", "[[I", true)
  | 14 => ("EscapeCells$Flight", "inCell", "[I", true)
  | 15 => ("EscapeCells$Flight", "cameNow", "[I", true)
  | 16 => ("EscapeCells$Flight", "cameSecond", "[I", true)
  | 17 => ("EscapeCells$Flight", "order", "[I", true)
  | _ => ("EscapeCells$Flight", "waiting", "I", false)
def mY0 : Nat → FieldType := fun k => match k with
  | 0 => .object "EscapeCells$Storey"
  | 1 => .object "EscapeCells$Numbers"
  | 2 => .object "EscapeCells$People"
  | 3 => .array .int
  | 4 => .array .int
  | 5 => .array .int
  | 6 => .array .int
  | 7 => .array .int
  | 8 => .int
  | 9 => .array .int
  | 10 => .array .int
  | 11 => .array .int
  | 12 => .array (.array .int)
  | 13 => .array (.array .int)
  | 14 => .array .int
  | 15 => .array .int
  | 16 => .array .int
  | 17 => .array .int
  | _ => .int
def mT1 : u_T := fun k => match k with
  | 0 => ("EscapeCells$Numbers", "storey", "LEscapeCells$Storey;", true)
  | 1 => ("EscapeCells$Numbers", "rows", "[[I", true)
  | 2 => ("EscapeCells$Numbers", "known", "[Z", true)
  | _ => ("EscapeCells$Numbers", "queue", "[I", true)
def mY1 : Nat → FieldType := fun k => match k with
  | 0 => .object "EscapeCells$Storey"
  | 1 => .array (.array .int)
  | 2 => .array .boolean
  | _ => .array .int
def mT2 : u_T := fun k => match k with
  | 0 => ("EscapeCells$People", "cell", "[I", true)
  | 1 => ("EscapeCells$People", "pace", "[I", true)
  | 2 => ("EscapeCells$People", "delay", "[I", true)
  | 3 => ("EscapeCells$People", "habit", "[I", true)
  | 4 => ("EscapeCells$People", "inCell", "[I", true)
  | _ => ("EscapeCells$People", "count", "I", false)
def mY2 : Nat → FieldType := fun k => match k with
  | 0 => .array .int
  | 1 => .array .int
  | 2 => .array .int
  | 3 => .array .int
  | 4 => .array .int
  | _ => .int
def mT3 : u_T := fun k => match k with
  | 0 => ("EscapeCells$Signposts", "storey", "LEscapeCells$Storey;", true)
  | 1 => ("EscapeCells$Signposts", "turnCell", "[I", true)
  | 2 => ("EscapeCells$Signposts", "shown", "[I", true)
  | 3 => ("EscapeCells$Signposts", "showings", "[I", true)
  | _ => ("EscapeCells$Signposts", "least", "[I", true)
def mY3 : Nat → FieldType := fun k => match k with
  | 0 => .object "EscapeCells$Storey"
  | 1 => .array .int
  | 2 => .array .int
  | 3 => .array .int
  | _ => .array .int
def mT4 : u_T := fun k => match k with
  | 0 => ("EscapeCells$Storey", "width", "I", true)
  | 1 => ("EscapeCells$Storey", "height", "I", true)
  | 2 => ("EscapeCells$Storey", "cells", "I", true)
  | 3 => ("EscapeCells$Storey", "kind", "[I", true)
  | 4 => ("EscapeCells$Storey", "rate", "[I", true)
  | 5 => ("EscapeCells$Storey", "barredFrom", "[I", true)
  | 6 => ("EscapeCells$Storey", "exitIn", "[I", true)
  | 7 => ("EscapeCells$Storey", "exitCell", "[I", true)
  | 8 => ("EscapeCells$Storey", "xOf", "[I", true)
  | 9 => ("EscapeCells$Storey", "yOf", "[I", true)
  | 10 => ("EscapeCells$Storey", "besides", "[I", true)
  | _ => ("EscapeCells$Storey", "exits", "I", false)
def mY4 : Nat → FieldType := fun k => match k with
  | 0 => .int
  | 1 => .int
  | 2 => .int
  | 3 => .array .int
  | 4 => .array .int
  | 5 => .array .int
  | 6 => .array .int
  | 7 => .array .int
  | 8 => .array .int
  | 9 => .array .int
  | 10 => .array .int
  | _ => .int
def mT5 : u_T := fun k => match k with
  | 0 => ("EscapeCells", "storey", "LEscapeCells$Storey;", true)
  | 1 => ("EscapeCells", "numbers", "LEscapeCells$Numbers;", true)
  | 2 => ("EscapeCells", "people", "LEscapeCells$People;", true)
  | 3 => ("EscapeCells", "flight", "LEscapeCells$Flight;", true)
  | 4 => ("EscapeCells", "signposts", "LEscapeCells$Signposts;", true)
  | _ => ("EscapeCells", "ran", "Z", false)
def mY5 : Nat → FieldType := fun k => match k with
  | 0 => .object "EscapeCells$Storey"
  | 1 => .object "EscapeCells$Numbers"
  | 2 => .object "EscapeCells$People"
  | 3 => .object "EscapeCells$Flight"
  | 4 => .object "EscapeCells$Signposts"
  | _ => .boolean
def mT6 : u_T := fun k => match k with
  | 0 => ("EscapeCellsModel", "thrown", "I", false)
  | 1 => ("EscapeCellsModel", "wide", "I", true)
  | 2 => ("EscapeCellsModel", "high", "I", true)
  | 3 => ("EscapeCellsModel", "walls", "[Z", true)
  | 4 => ("EscapeCellsModel", "exitOf", "[I", true)
  | 5 => ("EscapeCellsModel", "rates", "[I", true)
  | 6 => ("EscapeCellsModel", "bars", "[I", true)
  | 7 => ("EscapeCellsModel", "exits", "I", false)
  | 8 => ("EscapeCellsModel", "exitCells", "[I", true)
  | 9 => ("EscapeCellsModel", "persons", "I", false)
  | 10 => ("EscapeCellsModel", "starts", "[I", true)
  | 11 => ("EscapeCellsModel", "paces", "[I", true)
  | 12 => ("EscapeCellsModel", "delays", "[I", true)
  | 13 => ("EscapeCellsModel", "habits", "[I", true)
  | 14 => ("EscapeCellsModel", "known", "Z", false)
  | 15 => ("EscapeCellsModel", "numbers", "[I", true)
  | 16 => ("EscapeCellsModel", "ring", "[I", true)
  | 17 => ("EscapeCellsModel", "ran", "Z", false)
  | 18 => ("EscapeCellsModel", "last", "I", false)
  | 19 => ("EscapeCellsModel", "states", "[I", true)
  | 20 => ("EscapeCellsModel", "ends", "[I", true)
  | 21 => ("EscapeCellsModel", "byExit", "[I", true)
  | 22 => ("EscapeCellsModel", "steps", "[I", true)
  | 23 => ("EscapeCellsModel", "stepSeconds", "[I", true)
  | 24 => ("EscapeCellsModel", "stepCells", "[I", true)
  | 25 => ("EscapeCellsModel", "places", "[I", true)
  | 26 => ("EscapeCellsModel", "who", "[I", true)
  | 27 => ("EscapeCellsModel", "came", "[I", true)
  | 28 => ("EscapeCellsModel", "now", "[I", true)
  | 29 => ("EscapeCellsModel", "gone", "[Z", true)
  | _ => ("EscapeCellsModel", "fewest", "[I", true)
def mY6 : Nat → FieldType := fun k => match k with
  | 0 => .int
  | 1 => .int
  | 2 => .int
  | 3 => .array .boolean
  | 4 => .array .int
  | 5 => .array .int
  | 6 => .array .int
  | 7 => .int
  | 8 => .array .int
  | 9 => .int
  | 10 => .array .int
  | 11 => .array .int
  | 12 => .array .int
  | 13 => .array .int
  | 14 => .boolean
  | 15 => .array .int
  | 16 => .array .int
  | 17 => .boolean
  | 18 => .int
  | 19 => .array .int
  | 20 => .array .int
  | 21 => .array .int
  | 22 => .array .int
  | 23 => .array .int
  | 24 => .array .int
  | 25 => .array .int
  | 26 => .array .int
  | 27 => .array .int
  | 28 => .array .int
  | 29 => .array .boolean
  | _ => .array .int
/-- the classes whose objects the machine holds -/
def m_cls : List vw_C := [("EscapeCells$Flight", mT0, 19), ("EscapeCells$Numbers", mT1, 4), ("EscapeCells$People", mT2, 6), ("EscapeCells$Signposts", mT3, 5), ("EscapeCells$Storey", mT4, 12), ("EscapeCells", mT5, 6), ("EscapeCellsModel", mT6, 31)]
/-- the types of their fields -/
def m_tys : List (Nat → FieldType) := [mY0, mY1, mY2, mY3, mY4, mY5, mY6]
/-- the names of all classes: 0 to 6 those of m_cls, 7 and 8 the exceptions', 9 the law's, 10 Arrays -/
def m_R (o : Nat) : String := (["EscapeCells$Flight", "EscapeCells$Numbers", "EscapeCells$People", "EscapeCells$Signposts", "EscapeCells$Storey", "EscapeCells", "EscapeCellsModel", "java/lang/IllegalArgumentException", "java/lang/IllegalStateException", "EscapeCellsLaw", "java/util/Arrays"] : List String).getD o ""
/-- the methods: class, name, descriptor -/
def m_mns : List MethodName := [
  ⟨"EscapeCells$Flight", "<init>", "(LEscapeCells$Storey;LEscapeCells$Numbers;LEscapeCells$People;)V"⟩,
  ⟨"EscapeCells$Flight", "goAll", "()V"⟩,
  ⟨"EscapeCells$Flight", "begin", "()V"⟩,
  ⟨"EscapeCells$Flight", "goalOf", "(I)I"⟩,
  ⟨"EscapeCells$Flight", "nextChange", "(I)I"⟩,
  ⟨"EscapeCells$Flight", "endInSmoke", "(I)Z"⟩,
  ⟨"EscapeCells$Flight", "stepAll", "(I)Z"⟩,
  ⟨"EscapeCells$Flight", "lineUp", "(I)I"⟩,
  ⟨"EscapeCells$Flight", "numberOf", "(I)I"⟩,
  ⟨"EscapeCells$Flight", "stepOne", "(II)Z"⟩,
  ⟨"EscapeCells$Flight", "mayEnter", "(II)Z"⟩,
  ⟨"EscapeCells$Flight", "cameIn", "(II)I"⟩,
  ⟨"EscapeCells$Flight", "move", "(III)V"⟩,
  ⟨"EscapeCells$Flight", "end", "(III)V"⟩,
  ⟨"EscapeCells$Flight", "isInCellBehind", "(II)Z"⟩,
  ⟨"EscapeCells$Flight", "cellBehind", "(II)I"⟩,
  ⟨"EscapeCells$Flight", "countBehind", "(I)I"⟩,
  ⟨"EscapeCells$Numbers", "<init>", "(LEscapeCells$Storey;)V"⟩,
  ⟨"EscapeCells$Numbers", "forget", "()V"⟩,
  ⟨"EscapeCells$Numbers", "rowTo", "(I)[I"⟩,
  ⟨"EscapeCells$Numbers", "findAll", "()V"⟩,
  ⟨"EscapeCells$Numbers", "foundRowTo", "(I)[I"⟩,
  ⟨"EscapeCells$Numbers", "find", "(I[I)V"⟩,
  ⟨"EscapeCells$Numbers", "spread", "(I[II)I"⟩,
  ⟨"EscapeCells$People", "<init>", "(I)V"⟩,
  ⟨"EscapeCells$People", "has", "(I)Z"⟩,
  ⟨"EscapeCells$People", "add", "(III)I"⟩,
  ⟨"EscapeCells$Signposts", "<init>", "(LEscapeCells$Storey;)V"⟩,
  ⟨"EscapeCells$Signposts", "countTurns", "([I)I"⟩,
  ⟨"EscapeCells$Signposts", "countLeast", "([I)I"⟩,
  ⟨"EscapeCells$Signposts", "isTurn", "(I[I)Z"⟩,
  ⟨"EscapeCells$Signposts", "showTurns", "(I)V"⟩,
  ⟨"EscapeCells$Signposts", "showBeside", "(II)V"⟩,
  ⟨"EscapeCells$Signposts", "listShowings", "()I"⟩,
  ⟨"EscapeCells$Signposts", "isListed", "(II)Z"⟩,
  ⟨"EscapeCells$Signposts", "leastOf", "(II)I"⟩,
  ⟨"EscapeCells$Storey", "<init>", "(II)V"⟩,
  ⟨"EscapeCells$Storey", "layCell", "(II)V"⟩,
  ⟨"EscapeCells$Storey", "cellOf", "(II)I"⟩,
  ⟨"EscapeCells$Storey", "openBeside", "(II)I"⟩,
  ⟨"EscapeCells$Storey", "isWall", "(I)Z"⟩,
  ⟨"EscapeCells$Storey", "isExit", "(I)Z"⟩,
  ⟨"EscapeCells$Storey", "hasRate", "(I)Z"⟩,
  ⟨"EscapeCells$Storey", "isBarred", "(II)Z"⟩,
  ⟨"EscapeCells$Storey", "isExitNumberOrNone", "(I)Z"⟩,
  ⟨"EscapeCells$Storey", "makeWall", "(I)V"⟩,
  ⟨"EscapeCells$Storey", "makeFree", "(I)V"⟩,
  ⟨"EscapeCells$Storey", "makeExit", "(I)V"⟩,
  ⟨"EscapeCells", "<init>", "(II)V"⟩,
  ⟨"EscapeCells", "wall", "(IIZ)Z"⟩,
  ⟨"EscapeCells", "exit", "(III)I"⟩,
  ⟨"EscapeCells", "door", "(III)V"⟩,
  ⟨"EscapeCells", "smoke", "(III)I"⟩,
  ⟨"EscapeCells", "person", "(IIII)I"⟩,
  ⟨"EscapeCells", "habit", "(II)I"⟩,
  ⟨"EscapeCells", "ways", "()I"⟩,
  ⟨"EscapeCells", "walk", "(III)I"⟩,
  ⟨"EscapeCells", "run", "()I"⟩,
  ⟨"EscapeCells", "told", "(II)I"⟩,
  ⟨"EscapeCells", "at", "(III)I"⟩,
  ⟨"EscapeCells", "through", "(II)I"⟩,
  ⟨"EscapeCells", "left", "(I)I"⟩,
  ⟨"EscapeCells", "turns", "()I"⟩,
  ⟨"EscapeCells", "signs", "()I"⟩,
  ⟨"EscapeCells", "sideOf", "(I)I"⟩,
  ⟨"EscapeCells", "isWithin", "(III)Z"⟩,
  ⟨"EscapeCellsModel", "<init>", "(II)V"⟩,
  ⟨"EscapeCellsModel", "thrown", "()I"⟩,
  ⟨"EscapeCellsModel", "refuses", "(I)Z"⟩,
  ⟨"EscapeCellsModel", "isCell", "(II)Z"⟩,
  ⟨"EscapeCellsModel", "cell", "(II)I"⟩,
  ⟨"EscapeCellsModel", "hasPerson", "(I)Z"⟩,
  ⟨"EscapeCellsModel", "changed", "()V"⟩,
  ⟨"EscapeCellsModel", "wall", "(IIZ)Z"⟩,
  ⟨"EscapeCellsModel", "exit", "(III)I"⟩,
  ⟨"EscapeCellsModel", "door", "(III)V"⟩,
  ⟨"EscapeCellsModel", "smoke", "(III)I"⟩,
  ⟨"EscapeCellsModel", "person", "(IIII)I"⟩,
  ⟨"EscapeCellsModel", "habit", "(II)I"⟩,
  ⟨"EscapeCellsModel", "beside", "(II)I"⟩,
  ⟨"EscapeCellsModel", "isGoal", "(II)Z"⟩,
  ⟨"EscapeCellsModel", "find", "(I)V"⟩,
  ⟨"EscapeCellsModel", "learn", "()V"⟩,
  ⟨"EscapeCellsModel", "numberOf", "(II)I"⟩,
  ⟨"EscapeCellsModel", "ways", "()I"⟩,
  ⟨"EscapeCellsModel", "walk", "(III)I"⟩,
  ⟨"EscapeCellsModel", "goal", "(I)I"⟩,
  ⟨"EscapeCellsModel", "isBarred", "(II)Z"⟩,
  ⟨"EscapeCellsModel", "maySteps", "(II)Z"⟩,
  ⟨"EscapeCellsModel", "nextOne", "(I)I"⟩,
  ⟨"EscapeCellsModel", "go", "(II)V"⟩,
  ⟨"EscapeCellsModel", "step", "(IIIZ)V"⟩,
  ⟨"EscapeCellsModel", "second", "(I)V"⟩,
  ⟨"EscapeCellsModel", "anyWaits", "()Z"⟩,
  ⟨"EscapeCellsModel", "run", "()I"⟩,
  ⟨"EscapeCellsModel", "told", "(II)I"⟩,
  ⟨"EscapeCellsModel", "placeAt", "(II)I"⟩,
  ⟨"EscapeCellsModel", "at", "(III)I"⟩,
  ⟨"EscapeCellsModel", "through", "(II)I"⟩,
  ⟨"EscapeCellsModel", "left", "(I)I"⟩,
  ⟨"EscapeCellsModel", "isTurn", "(I)Z"⟩,
  ⟨"EscapeCellsModel", "turns", "()I"⟩,
  ⟨"EscapeCellsModel", "isNear", "(II)Z"⟩,
  ⟨"EscapeCellsModel", "signs", "()I"⟩,
  ⟨"EscapeCellsModel", "shownBy", "(II)I"⟩,
  ⟨"EscapeCellsLaw", "cell", "([II)I"⟩,
  ⟨"EscapeCellsLaw", "wall", "(LEscapeCells;IIZ[J)I"⟩,
  ⟨"EscapeCellsLaw", "exit", "(LEscapeCells;III[J)I"⟩,
  ⟨"EscapeCellsLaw", "door", "(LEscapeCells;III)I"⟩,
  ⟨"EscapeCellsLaw", "smoke", "(LEscapeCells;III[J)I"⟩,
  ⟨"EscapeCellsLaw", "person", "(LEscapeCells;IIII[J)I"⟩,
  ⟨"EscapeCellsLaw", "habit", "(LEscapeCells;II[J)I"⟩,
  ⟨"EscapeCellsLaw", "walk", "(LEscapeCells;III[J)I"⟩,
  ⟨"EscapeCellsLaw", "told", "(LEscapeCells;II[J)I"⟩,
  ⟨"EscapeCellsLaw", "at", "(LEscapeCells;III[J)I"⟩,
  ⟨"EscapeCellsLaw", "through", "(LEscapeCells;II[J)I"⟩,
  ⟨"EscapeCellsLaw", "left", "(LEscapeCells;I[J)I"⟩,
  ⟨"EscapeCellsLaw", "law", "([I)Z"⟩,
  ⟨"java/util/Arrays", "fill", "([II)V"⟩]
def m_mn (y : Nat) : MethodName := m_mns.getD y ⟨"", "", ""⟩
def m_o (y : Nat) : Nat := ([0, 0, 0, 0, 0, 0, 0, 0, 0, 0, 0, 0, 0, 0, 0, 0, 0, 1, 1, 1, 1, 1, 1, 1, 2, 2, 2, 3, 3, 3, 3, 3, 3, 3, 3, 3, 4, 4, 4, 4, 4, 4, 4, 4, 4, 4, 4, 4, 5, 5, 5, 5, 5, 5, 5, 5, 5, 5, 5, 5, 5, 5, 5, 5, 5, 5, 6, 6, 6, 6, 6, 6, 6, 6, 6, 6, 6, 6, 6, 6, 6, 6, 6, 6, 6, 6, 6, 6, 6, 6, 6, 6, 6, 6, 6, 6, 6, 6, 6, 6, 6, 6, 6, 6, 6, 9, 9, 9, 9, 9, 9, 9, 9, 9, 9, 9, 9, 9, 10] : List Nat).getD y 99
def m_bys : List ByteArray := [prog_2_method_1_code, prog_2_method_2_code, prog_2_method_3_code, prog_2_method_4_code, prog_2_method_5_code, prog_2_method_6_code, prog_2_method_7_code, prog_2_method_8_code, prog_2_method_9_code, prog_2_method_10_code, prog_2_method_11_code, prog_2_method_12_code, prog_2_method_13_code, prog_2_method_14_code, prog_2_method_15_code, prog_2_method_16_code, prog_2_method_17_code, prog_3_method_1_code, prog_3_method_2_code, prog_3_method_3_code, prog_3_method_4_code, prog_3_method_5_code, prog_3_method_6_code, prog_3_method_7_code, prog_4_method_1_code, prog_4_method_2_code, prog_4_method_3_code, prog_5_method_1_code, prog_5_method_2_code, prog_5_method_3_code, prog_5_method_4_code, prog_5_method_5_code, prog_5_method_6_code, prog_5_method_7_code, prog_5_method_8_code, prog_5_method_9_code, prog_6_method_1_code, prog_6_method_2_code, prog_6_method_3_code, prog_6_method_4_code, prog_6_method_5_code, prog_6_method_6_code, prog_6_method_7_code, prog_6_method_8_code, prog_6_method_9_code, prog_6_method_10_code, prog_6_method_11_code, prog_6_method_12_code, prog_1_method_1_code, prog_1_method_2_code, prog_1_method_3_code, prog_1_method_4_code, prog_1_method_5_code, prog_1_method_6_code, prog_1_method_7_code, prog_1_method_8_code, prog_1_method_9_code, prog_1_method_10_code, prog_1_method_11_code, prog_1_method_12_code, prog_1_method_13_code, prog_1_method_14_code, prog_1_method_15_code, prog_1_method_16_code, prog_1_method_17_code, prog_1_method_18_code, prog_8_method_1_code, prog_8_method_2_code, prog_8_method_3_code, prog_8_method_4_code, prog_8_method_5_code, prog_8_method_6_code, prog_8_method_7_code, prog_8_method_8_code, prog_8_method_9_code, prog_8_method_10_code, prog_8_method_11_code, prog_8_method_12_code, prog_8_method_13_code, prog_8_method_14_code, prog_8_method_15_code, prog_8_method_16_code, prog_8_method_17_code, prog_8_method_18_code, prog_8_method_19_code, prog_8_method_20_code, prog_8_method_21_code, prog_8_method_22_code, prog_8_method_23_code, prog_8_method_24_code, prog_8_method_25_code, prog_8_method_26_code, prog_8_method_27_code, prog_8_method_28_code, prog_8_method_29_code, prog_8_method_30_code, prog_8_method_31_code, prog_8_method_32_code, prog_8_method_33_code, prog_8_method_34_code, prog_8_method_35_code, prog_8_method_36_code, prog_8_method_37_code, prog_8_method_38_code, prog_8_method_39_code, method_2_code, method_3_code, method_4_code, method_5_code, method_6_code, method_7_code, method_8_code, method_9_code, method_10_code, method_11_code, method_12_code, method_13_code, code, prog_17_method_103_code]
def m_by (y : Nat) : ByteArray := m_bys.getD y ⟨#[]⟩
def m_ml (y : Nat) : Nat := ([4, 5, 2, 3, 6, 4, 5, 6, 2, 7, 3, 3, 5, 4, 3, 5, 4, 2, 2, 3, 2, 2, 6, 7, 2, 2, 5, 2, 4, 4, 6, 7, 5, 3, 4, 9, 5, 5, 3, 4, 2, 2, 2, 3, 2, 3, 2, 2, 3, 6, 5, 5, 6, 6, 4, 4, 5, 1, 3, 5, 4, 2, 1, 1, 1, 3, 4, 1, 2, 3, 2, 4, 1, 6, 7, 6, 5, 7, 4, 5, 3, 6, 2, 3, 3, 4, 3, 3, 4, 6, 8, 5, 3, 3, 2, 3, 5, 6, 3, 4, 6, 3, 7, 8, 5, 2, 6, 6, 5, 6, 7, 5, 6, 5, 6, 5, 4, 7, 4] : List Nat).getD y 0
def m_rts : List (Option FieldType) := [none, none, none, (some FieldType.int), (some FieldType.int), (some FieldType.boolean), (some FieldType.boolean), (some FieldType.int), (some FieldType.int), (some FieldType.boolean), (some FieldType.boolean), (some FieldType.int), none, none, (some FieldType.boolean), (some FieldType.int), (some FieldType.int), none, none, (some (FieldType.array FieldType.int)), none, (some (FieldType.array FieldType.int)), none, (some FieldType.int), none, (some FieldType.boolean), (some FieldType.int), none, (some FieldType.int), (some FieldType.int), (some FieldType.boolean), none, none, (some FieldType.int), (some FieldType.boolean), (some FieldType.int), none, none, (some FieldType.int), (some FieldType.int), (some FieldType.boolean), (some FieldType.boolean), (some FieldType.boolean), (some FieldType.boolean), (some FieldType.boolean), none, none, none, none, (some FieldType.boolean), (some FieldType.int), none, (some FieldType.int), (some FieldType.int), (some FieldType.int), (some FieldType.int), (some FieldType.int), (some FieldType.int), (some FieldType.int), (some FieldType.int), (some FieldType.int), (some FieldType.int), (some FieldType.int), (some FieldType.int), (some FieldType.int), (some FieldType.boolean), none, (some FieldType.int), (some FieldType.boolean), (some FieldType.boolean), (some FieldType.int), (some FieldType.boolean), none, (some FieldType.boolean), (some FieldType.int), none, (some FieldType.int), (some FieldType.int), (some FieldType.int), (some FieldType.int), (some FieldType.boolean), none, none, (some FieldType.int), (some FieldType.int), (some FieldType.int), (some FieldType.int), (some FieldType.boolean), (some FieldType.boolean), (some FieldType.int), none, none, none, (some FieldType.boolean), (some FieldType.int), (some FieldType.int), (some FieldType.int), (some FieldType.int), (some FieldType.int), (some FieldType.int), (some FieldType.boolean), (some FieldType.int), (some FieldType.boolean), (some FieldType.int), (some FieldType.int), (some FieldType.int), (some FieldType.int), (some FieldType.int), (some FieldType.int), (some FieldType.int), (some FieldType.int), (some FieldType.int), (some FieldType.int), (some FieldType.int), (some FieldType.int), (some FieldType.int), (some FieldType.int), ret, none]
def m_rt (y : Nat) : Option FieldType := m_rts.getD y none
/-- how many arguments, the receiver counted -/
def m_na (y : Nat) : Nat := ([4, 1, 1, 2, 2, 2, 2, 2, 2, 3, 3, 3, 4, 4, 3, 3, 2, 2, 1, 2, 1, 2, 3, 4, 2, 2, 4, 2, 2, 2, 3, 2, 3, 1, 3, 3, 3, 3, 3, 3, 2, 2, 2, 3, 2, 2, 2, 2, 3, 4, 4, 4, 4, 5, 3, 1, 4, 1, 3, 4, 3, 2, 1, 1, 1, 3, 3, 1, 2, 3, 2, 2, 1, 4, 4, 4, 4, 5, 3, 3, 3, 2, 1, 3, 1, 4, 2, 3, 3, 2, 3, 5, 2, 1, 1, 3, 3, 4, 3, 2, 2, 1, 3, 1, 3, 2, 5, 5, 4, 5, 6, 4, 5, 4, 5, 4, 3, 1, 2] : List Nat).getD y 0
def m_st (y : Nat) : Bool := ([false, false, false, false, false, false, false, false, false, false, false, false, false, false, false, false, false, false, false, false, false, false, false, false, false, false, false, false, false, false, false, false, false, false, false, false, false, false, false, false, false, false, false, false, false, false, false, false, false, false, false, false, false, false, false, false, false, false, false, false, false, false, false, false, true, true, false, false, false, false, true, false, false, false, false, false, false, false, false, false, false, false, false, false, false, false, false, false, false, false, false, false, false, false, false, false, false, false, false, false, false, false, false, false, false, true, true, true, true, true, true, true, true, true, true, true, true, true, true] : List Bool).getD y true
/-- the frames and the words that a method asks above its own -/
def m_nf (y : Nat) : Nat := ([1, 4, 2, 1, 1, 1, 3, 2, 1, 2, 1, 0, 1, 0, 0, 1, 1, 1, 0, 4, 5, 0, 3, 2, 1, 0, 0, 1, 3, 4, 2, 3, 2, 1, 0, 1, 2, 1, 0, 1, 0, 0, 0, 0, 0, 0, 0, 0, 3, 6, 6, 6, 6, 6, 6, 5, 6, 6, 6, 6, 6, 6, 5, 5, 1, 0, 1, 0, 0, 0, 0, 0, 0, 1, 1, 1, 1, 1, 1, 1, 0, 2, 3, 0, 4, 4, 1, 0, 0, 2, 2, 0, 3, 0, 4, 1, 0, 1, 1, 1, 2, 4, 2, 5, 3, 0, 7, 7, 7, 7, 7, 7, 7, 7, 7, 7, 7, 10, 0] : List Nat).getD y 0
def m_nw (y : Nat) : Nat := ([12, 66, 29, 13, 13, 15, 50, 26, 13, 32, 14, 0, 16, 0, 0, 14, 14, 12, 0, 63, 77, 0, 46, 28, 15, 0, 0, 12, 45, 62, 28, 44, 28, 15, 0, 15, 32, 16, 0, 13, 0, 0, 0, 0, 0, 0, 0, 0, 50, 82, 82, 82, 82, 82, 82, 77, 82, 90, 82, 82, 82, 82, 78, 78, 14, 0, 12, 0, 0, 0, 0, 0, 0, 16, 15, 14, 15, 16, 13, 14, 0, 30, 47, 0, 60, 60, 14, 0, 0, 29, 30, 0, 49, 0, 63, 13, 0, 16, 15, 17, 30, 60, 30, 74, 49, 0, 101, 100, 98, 101, 101, 99, 100, 98, 100, 99, 97, 352, 0] : List Nat).getD y 0
/-- a method's handlers: from, to, handler, the number of the class that it takes -/
def m_hd (y : Nat) : List (Nat × Nat × Nat × Nat) := ([[], [], [], [], [], [], [], [], [], [], [], [], [], [], [], [], [], [], [], [], [], [], [], [], [], [], [], [], [], [], [], [], [], [], [], [], [], [], [], [], [], [], [], [], [], [], [], [], [], [], [], [], [], [], [], [], [], [], [], [], [], [], [], [], [], [], [], [], [], [], [], [], [], [], [], [], [], [], [], [], [], [], [], [], [], [], [], [], [], [], [], [], [], [], [], [], [], [], [], [], [], [], [], [], [], [], [(0, 19, 22, 7), (0, 19, 26, 8)], [(0, 12, 15, 7), (0, 12, 19, 8)], [(0, 7, 10, 7), (0, 7, 14, 8)], [(0, 12, 15, 7)], [(0, 14, 17, 7), (0, 14, 21, 8)], [(0, 10, 13, 7)], [(0, 12, 15, 7)], [(0, 10, 13, 7), (0, 10, 17, 8)], [(0, 12, 15, 7), (0, 12, 19, 8)], [(0, 10, 13, 7), (0, 10, 17, 8)], [(0, 9, 12, 7), (0, 9, 15, 8)], [], []] : List (List (Nat × Nat × Nat × Nat))).getD y []
/-- the same as the tables' words have them: the last number is the entry of the class in the pool -/
def m_hw (y : Nat) : List (Nat × Nat × Nat × Nat) := ([[], [], [], [], [], [], [], [], [], [], [], [], [], [], [], [], [], [], [], [], [], [], [], [], [], [], [], [], [], [], [], [], [], [], [], [], [], [], [], [], [], [], [], [], [], [], [], [], [], [], [], [], [], [], [], [], [], [], [], [], [], [], [], [], [], [], [], [], [], [], [], [], [], [], [], [], [], [], [], [], [], [], [], [], [], [], [], [], [], [], [], [], [], [], [], [], [], [], [], [], [], [], [], [], [], [], [(0, 19, 22, 13), (0, 19, 26, 15)], [(0, 12, 15, 13), (0, 12, 19, 15)], [(0, 7, 10, 13), (0, 7, 14, 15)], [(0, 12, 15, 13)], [(0, 14, 17, 13), (0, 14, 21, 15)], [(0, 10, 13, 13)], [(0, 12, 15, 13)], [(0, 10, 13, 13), (0, 10, 17, 15)], [(0, 12, 15, 13), (0, 12, 19, 15)], [(0, 10, 13, 13), (0, 10, 17, 15)], [(0, 9, 12, 13), (0, 9, 15, 15)], [], []] : List (List (Nat × Nat × Nat × Nat))).getD y []
/-- the entries of fields, a class a list: entry, class, place -/
def m_fls : List (List (Nat × Nat × Nat)) := [[(9, 0, 0), (15, 0, 1), (19, 0, 2), (23, 0, 3), (27, 0, 4), (30, 0, 5), (33, 0, 6), (36, 4, 2), (42, 0, 7), (45, 0, 9), (48, 0, 10), (51, 0, 11), (56, 0, 12), (59, 0, 13), (62, 0, 14), (65, 0, 15), (68, 0, 16), (71, 0, 17), (74, 0, 18), (77, 0, 8), (100, 2, 4), (115, 2, 5), (118, 2, 0), (124, 2, 2), (127, 2, 1), (130, 2, 3), (142, 4, 5), (171, 4, 6), (180, 4, 4)], [(9, 1, 0), (15, 4, 2), (23, 1, 1), (26, 1, 2), (30, 1, 3), (38, 4, 11), (51, 4, 7)], [(9, 2, 0), (15, 2, 1), (18, 2, 2), (21, 2, 3), (24, 2, 4), (27, 2, 5)], [(9, 3, 0), (15, 3, 1), (19, 4, 2), (25, 3, 2), (28, 3, 3), (31, 3, 4)], [(9, 4, 0), (15, 4, 1), (18, 4, 2), (21, 4, 3), (25, 4, 4), (28, 4, 5), (31, 4, 6), (34, 4, 7), (37, 4, 8), (40, 4, 9), (43, 4, 10), (46, 4, 11)], [(18, 5, 0), (27, 5, 1), (33, 4, 2), (40, 5, 2), (49, 5, 3), (56, 5, 4), (60, 5, 5), (75, 2, 4), (108, 4, 11), (116, 4, 4), (119, 4, 6), (124, 4, 3), (129, 4, 5), (134, 2, 5), (151, 2, 3), (166, 0, 8), (173, 0, 3), (176, 0, 4), (179, 0, 5), (182, 0, 6), (190, 4, 8), (193, 4, 9), (196, 0, 7)], [(7, 6, 3), (13, 6, 4), (17, 6, 5), (20, 6, 6), (23, 6, 8), (26, 6, 10), (29, 6, 11), (32, 6, 12), (35, 6, 13), (38, 6, 15), (41, 6, 16), (44, 6, 19), (47, 6, 20), (50, 6, 21), (53, 6, 22), (57, 6, 23), (60, 6, 24), (63, 6, 25), (66, 6, 26), (69, 6, 27), (72, 6, 28), (75, 6, 29), (78, 6, 30), (81, 6, 1), (85, 6, 2), (88, 6, 0), (91, 6, 9), (94, 6, 14), (98, 6, 17), (119, 6, 7), (160, 6, 18)], [], [], [], []]
def m_fl (o ix : Nat) : Option (Nat × Nat) := (m_fls.getD o []).lookup ix
/-- the entries of methods that the machine walks: entry, method -/
def m_clss : List (List (Nat × Nat)) := [[(80, 2), (83, 4), (93, 5), (97, 6), (109, 118), (121, 3), (133, 21), (145, 43), (149, 13), (153, 7), (156, 9), (159, 8), (162, 39), (165, 10), (168, 12), (174, 42), (177, 11), (183, 14)], [(34, 22), (41, 19), (45, 118), (54, 23), (58, 39)], [(31, 118)], [(34, 30), (38, 31), (42, 33), (46, 35), (50, 39), (53, 118), (59, 32), (63, 34)], [(49, 118), (55, 37), (65, 38), (69, 40)], [(11, 64), (15, 36), (24, 17), (37, 24), (46, 0), (55, 27), (64, 38), (84, 40), (88, 45), (91, 46), (94, 18), (97, 65), (105, 41), (113, 47), (139, 26), (143, 25), (146, 44), (154, 19), (160, 20), (163, 1), (187, 15), (201, 16), (204, 28), (208, 29)], [(101, 69), (105, 70), (109, 71), (113, 68), (116, 72), (122, 80), (125, 79), (128, 81), (132, 82), (135, 83), (138, 88), (141, 86), (146, 87), (149, 91), (153, 89), (156, 90), (163, 93), (167, 92), (170, 96), (173, 100), (176, 101), (180, 104), (183, 102)], [], [], [(7, 49), (17, 50), (21, 51), (25, 52), (28, 53), (32, 54), (36, 56), (39, 58), (42, 59), (45, 60), (48, 61), (52, 105), (58, 48), (63, 66), (64, 106), (67, 73), (68, 67), (72, 107), (75, 74), (76, 108), (79, 75), (80, 109), (82, 76), (83, 110), (86, 77), (87, 111), (90, 78), (91, 55), (94, 84), (95, 112), (97, 85), (98, 57), (101, 94), (102, 113), (104, 95), (105, 114), (107, 97), (108, 115), (110, 98), (111, 116), (114, 99), (115, 62), (118, 101), (119, 63), (122, 103)], []]
def m_cl (o ix : Nat) : Option Nat := (m_clss.getD o []).lookup ix
/-- the entries of calls that are one step: 1 Object(), 2 an exception's own, 3 max, 4 min, 5 arraycopy -/
def m_prs : List (List (Nat × Nat)) := [[(3, 1), (87, 3), (103, 5), (139, 4)], [(3, 1)], [(3, 1)], [(3, 1), (67, 4)], [(3, 1)], [(3, 1), (72, 2), (83, 2), (211, 4), (216, 3)], [(1, 1)], [], [], [], []]
def m_pr (o ix : Nat) : Option Nat := (m_prs.getD o []).lookup ix
/-- the entries of classes of which an object is made -/
def m_nes : List (List (Nat × Nat)) := [[], [], [], [], [], [(9, 4), (22, 1), (31, 2), (44, 0), (53, 3), (68, 7), (79, 8)], [], [], [], [(8, 5), (61, 6)], []]
def m_ne (o ix : Nat) : Option Nat := (m_nes.getD o []).lookup ix
/-- the entries of the statics -/
def m_gss : List (List (Nat × Nat)) := [[], [], [], [], [(59, 0), (62, 1)], [], [], [], [], [], []]
def m_gs (o ix : Nat) : Option Nat := (m_gss.getD o []).lookup ix
/-- where the numbers of cells begin that were there before: the two static arrays, the script, the texts -/
def m_sB : Nat := 1000000000
/-- the constants -/
def m_lcs : List (List (Nat × Value)) := [[], [], [], [], [], [(70, .ref 1000000100), (81, .ref 1000000101), (101, .ref 1000000102), (103, .ref 1000000103), (111, .ref 1000000104), (122, .ref 1000000105), (127, .ref 1000000106), (132, .ref 1000000107), (137, .ref 1000000108), (149, .ref 1000000109), (158, .ref 1000000110), (169, .ref 1000000111), (171, .ref 1000000112), (185, .ref 1000000113), (199, .ref 1000000114)], [(56, .int 36000), (145, .int 100000)], [], [], [], []]
def m_lc (o ix : Nat) : Option Value := (m_lcs.getD o []).lookup ix
/-- the entries of int[][] -/
def m_mas : List (List (Nat)) := [[54], [21], [], [], [], [], [], [], [], [], []]
def m_ma (o ix : Nat) : Bool := (m_mas.getD o []).contains ix
abbrev y_Flight_init : Nat := 0
abbrev y_Flight_goAll : Nat := 1
abbrev y_Flight_begin : Nat := 2
abbrev y_Flight_goalOf : Nat := 3
abbrev y_Flight_nextChange : Nat := 4
abbrev y_Flight_endInSmoke : Nat := 5
abbrev y_Flight_stepAll : Nat := 6
abbrev y_Flight_lineUp : Nat := 7
abbrev y_Flight_numberOf : Nat := 8
abbrev y_Flight_stepOne : Nat := 9
abbrev y_Flight_mayEnter : Nat := 10
abbrev y_Flight_cameIn : Nat := 11
abbrev y_Flight_move : Nat := 12
abbrev y_Flight_end : Nat := 13
abbrev y_Flight_isInCellBehind : Nat := 14
abbrev y_Flight_cellBehind : Nat := 15
abbrev y_Flight_countBehind : Nat := 16
abbrev y_Numbers_init : Nat := 17
abbrev y_Numbers_forget : Nat := 18
abbrev y_Numbers_rowTo : Nat := 19
abbrev y_Numbers_findAll : Nat := 20
abbrev y_Numbers_foundRowTo : Nat := 21
abbrev y_Numbers_find : Nat := 22
abbrev y_Numbers_spread : Nat := 23
abbrev y_People_init : Nat := 24
abbrev y_People_has : Nat := 25
abbrev y_People_add : Nat := 26
abbrev y_Signposts_init : Nat := 27
abbrev y_Signposts_countTurns : Nat := 28
abbrev y_Signposts_countLeast : Nat := 29
abbrev y_Signposts_isTurn : Nat := 30
abbrev y_Signposts_showTurns : Nat := 31
abbrev y_Signposts_showBeside : Nat := 32
abbrev y_Signposts_listShowings : Nat := 33
abbrev y_Signposts_isListed : Nat := 34
abbrev y_Signposts_leastOf : Nat := 35
abbrev y_Storey_init : Nat := 36
abbrev y_Storey_layCell : Nat := 37
abbrev y_Storey_cellOf : Nat := 38
abbrev y_Storey_openBeside : Nat := 39
abbrev y_Storey_isWall : Nat := 40
abbrev y_Storey_isExit : Nat := 41
abbrev y_Storey_hasRate : Nat := 42
abbrev y_Storey_isBarred : Nat := 43
abbrev y_Storey_isExitNumberOrNone : Nat := 44
abbrev y_Storey_makeWall : Nat := 45
abbrev y_Storey_makeFree : Nat := 46
abbrev y_Storey_makeExit : Nat := 47
abbrev y_Esc_init : Nat := 48
abbrev y_Esc_wall : Nat := 49
abbrev y_Esc_exit : Nat := 50
abbrev y_Esc_door : Nat := 51
abbrev y_Esc_smoke : Nat := 52
abbrev y_Esc_person : Nat := 53
abbrev y_Esc_habit : Nat := 54
abbrev y_Esc_ways : Nat := 55
abbrev y_Esc_walk : Nat := 56
abbrev y_Esc_run : Nat := 57
abbrev y_Esc_told : Nat := 58
abbrev y_Esc_at : Nat := 59
abbrev y_Esc_through : Nat := 60
abbrev y_Esc_left : Nat := 61
abbrev y_Esc_turns : Nat := 62
abbrev y_Esc_signs : Nat := 63
abbrev y_Esc_sideOf : Nat := 64
abbrev y_Esc_isWithin : Nat := 65
abbrev y_Model_init : Nat := 66
abbrev y_Model_thrown : Nat := 67
abbrev y_Model_refuses : Nat := 68
abbrev y_Model_isCell : Nat := 69
abbrev y_Model_cell : Nat := 70
abbrev y_Model_hasPerson : Nat := 71
abbrev y_Model_changed : Nat := 72
abbrev y_Model_wall : Nat := 73
abbrev y_Model_exit : Nat := 74
abbrev y_Model_door : Nat := 75
abbrev y_Model_smoke : Nat := 76
abbrev y_Model_person : Nat := 77
abbrev y_Model_habit : Nat := 78
abbrev y_Model_beside : Nat := 79
abbrev y_Model_isGoal : Nat := 80
abbrev y_Model_find : Nat := 81
abbrev y_Model_learn : Nat := 82
abbrev y_Model_numberOf : Nat := 83
abbrev y_Model_ways : Nat := 84
abbrev y_Model_walk : Nat := 85
abbrev y_Model_goal : Nat := 86
abbrev y_Model_isBarred : Nat := 87
abbrev y_Model_maySteps : Nat := 88
abbrev y_Model_nextOne : Nat := 89
abbrev y_Model_go : Nat := 90
abbrev y_Model_step : Nat := 91
abbrev y_Model_second : Nat := 92
abbrev y_Model_anyWaits : Nat := 93
abbrev y_Model_run : Nat := 94
abbrev y_Model_told : Nat := 95
abbrev y_Model_placeAt : Nat := 96
abbrev y_Model_at : Nat := 97
abbrev y_Model_through : Nat := 98
abbrev y_Model_left : Nat := 99
abbrev y_Model_isTurn : Nat := 100
abbrev y_Model_turns : Nat := 101
abbrev y_Model_isNear : Nat := 102
abbrev y_Model_signs : Nat := 103
abbrev y_Model_shownBy : Nat := 104
abbrev y_Law_cell : Nat := 105
abbrev y_Law_wall : Nat := 106
abbrev y_Law_exit : Nat := 107
abbrev y_Law_door : Nat := 108
abbrev y_Law_smoke : Nat := 109
abbrev y_Law_person : Nat := 110
abbrev y_Law_habit : Nat := 111
abbrev y_Law_walk : Nat := 112
abbrev y_Law_told : Nat := 113
abbrev y_Law_at : Nat := 114
abbrev y_Law_through : Nat := 115
abbrev y_Law_left : Nat := 116
abbrev y_Law_law : Nat := 117
abbrev y_Arrays_fill : Nat := 118
/-- the constructors -/
def m_ini (y : Nat) : Bool := ([true, false, false, false, false, false, false, false, false, false, false, false, false, false, false, false, false, true, false, false, false, false, false, false, true, false, false, true, false, false, false, false, false, false, false, false, true, false, false, false, false, false, false, false, false, false, false, false, true, false, false, false, false, false, false, false, false, false, false, false, false, false, false, false, false, false, true, false, false, false, false, false, false, false, false, false, false, false, false, false, false, false, false, false, false, false, false, false, false, false, false, false, false, false, false, false, false, false, false, false, false, false, false, false, false, false, false, false, false, false, false, false, false, false, false, false, false, false, false] : List Bool).getD y false
/-- what a new object holds; its slots -/
def m_df (ci : Nat) : List Value := ([[.null, .null, .null, .null, .null, .null, .null, .null, .int 0, .null, .null, .null, .null, .null, .null, .null, .null, .null, .int 0], [.null, .null, .null, .null], [.null, .null, .null, .null, .null, .int 0], [.null, .null, .null, .null, .null], [.int 0, .int 0, .int 0, .null, .null, .null, .null, .null, .null, .null, .null, .int 0], [.null, .null, .null, .null, .null, .int 0], [.int 0, .int 0, .int 0, .null, .null, .null, .null, .int 0, .null, .int 0, .null, .null, .null, .null, .int 0, .null, .null, .int 0, .int 0, .null, .null, .null, .null, .null, .null, .null, .null, .null, .null, .null, .null], [], []] : List (List Value)).getD ci []
def m_sz (ci : Nat) : Nat := ([19, 4, 6, 5, 12, 6, 31, 6, 6] : List Nat).getD ci 0
/-- is a field final; its type -/
def m_fin (ci k : Nat) : Bool := (([[true, true, true, true, true, true, true, true, false, true, true, true, true, true, true, true, true, true, false], [true, true, true, true], [true, true, true, true, true, false], [true, true, true, true, true], [true, true, true, true, true, true, true, true, true, true, true, false], [true, true, true, true, true, false], [false, true, true, true, true, true, true, false, true, false, true, true, true, true, false, true, true, false, false, true, true, true, true, true, true, true, true, true, true, true, true]] : List (List Bool)).getD ci []).getD k true
def m_ty (ci k : Nat) : FieldType := (m_tys.getD ci (fun _ => .int)) k
/-- a row of the code: it decodes so, and its target is where it leads -/
def m_tg (pc : Nat) (i : Instr) (t : Nat) : Bool := match i with
  | .if_icmp _ off => decide ((pc : Int) + off = (t : Int))
  | .ifCond _ off => decide ((pc : Int) + off = (t : Int))
  | .goto off => decide ((pc : Int) + off = (t : Int))
  | _ => true
def m_okI (b : ByteArray) (q : Nat × Instr × Nat × Nat) : Bool := decide (decode b q.1 = .ok (q.2.1, q.2.2.1)) && m_tg q.1 q.2.1 q.2.2.2
