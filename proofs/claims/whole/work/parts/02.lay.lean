/-! THE LAYOUT (printed by wip/whole/gen_lay.py): classes, fields, kinds of cells -/
def jT0 : u_T := fun k => match k with
  | 0 => ("JellyCathedral", "status", "I", false)
  | 1 => ("JellyCathedral", "fractionTop", "J", false)
  | 2 => ("JellyCathedral", "fractionBottom", "J", false)
  | 3 => ("JellyCathedral", "faultKind", "I", false)
  | 4 => ("JellyCathedral", "faultPlace", "I", false)
  | 5 => ("JellyCathedral", "now", "LJellyCathedral$See;", false)
  | 6 => ("JellyCathedral", "spare", "LJellyCathedral$See;", false)
  | 7 => ("JellyCathedral", "marked", "I", false)
  | 8 => ("JellyCathedral", "hasLived", "Z", false)
  | 9 => ("JellyCathedral", "trays", "[LJellyCathedral$Tray;", true)
  | 10 => ("JellyCathedral", "marks", "[LJellyCathedral$See;", true)
  | 11 => ("JellyCathedral", "text", "LJellyCathedral$Text;", true)
  | 12 => ("JellyCathedral", "seeReader", "LJellyCathedral$SeeReader;", true)
  | 13 => ("JellyCathedral", "feastsReader", "LJellyCathedral$FeastsReader;", true)
  | 14 => ("JellyCathedral", "filler", "LJellyCathedral$Fillings;", true)
  | 15 => ("JellyCathedral", "player", "LJellyCathedral$Game;", true)
  | 16 => ("JellyCathedral", "living", "LJellyCathedral$Living;", true)
  | _ => ("JellyCathedral", "livedNumbers", "[I", true)
def jY0 : Nat → FieldType := fun k => match k with
  | 0 => .int
  | 1 => .long
  | 2 => .long
  | 3 => .int
  | 4 => .int
  | 5 => (.object "JellyCathedral$See")
  | 6 => (.object "JellyCathedral$See")
  | 7 => .int
  | 8 => .boolean
  | 9 => (.array (.object "JellyCathedral$Tray"))
  | 10 => (.array (.object "JellyCathedral$See"))
  | 11 => (.object "JellyCathedral$Text")
  | 12 => (.object "JellyCathedral$SeeReader")
  | 13 => (.object "JellyCathedral$FeastsReader")
  | 14 => (.object "JellyCathedral$Fillings")
  | 15 => (.object "JellyCathedral$Game")
  | 16 => (.object "JellyCathedral$Living")
  | _ => (.array .int)
def jT1 : u_T := fun k => match k with
  | 0 => ("JellyCathedral$Tray", "there", "Z", false)
  | 1 => ("JellyCathedral$Tray", "sort", "I", false)
  | 2 => ("JellyCathedral$Tray", "length", "I", false)
  | _ => ("JellyCathedral$Tray", "numbers", "[J", true)
def jY1 : Nat → FieldType := fun k => match k with
  | 0 => .boolean
  | 1 => .int
  | 2 => .int
  | _ => (.array .long)
def jT2 : u_T := fun k => match k with
  | 0 => ("JellyCathedral$Mould", "height", "I", false)
  | 1 => ("JellyCathedral$Mould", "room", "I", false)
  | 2 => ("JellyCathedral$Mould", "place", "I", false)
  | 3 => ("JellyCathedral$Mould", "state", "I", false)
  | 4 => ("JellyCathedral$Mould", "firm", "I", false)
  | 5 => ("JellyCathedral$Mould", "strength", "I", false)
  | 6 => ("JellyCathedral$Mould", "filled", "I", false)
  | 7 => ("JellyCathedral$Mould", "falls", "I", false)
  | _ => ("JellyCathedral$Mould", "parts", "[I", true)
def jY2 : Nat → FieldType := fun k => match k with
  | 0 => .int
  | 1 => .int
  | 2 => .int
  | 3 => .int
  | 4 => .int
  | 5 => .int
  | 6 => .int
  | 7 => .int
  | _ => (.array .int)
def jT3 : u_T := fun k => match k with
  | 0 => ("JellyCathedral$See", "heat", "I", false)
  | 1 => ("JellyCathedral$See", "odds", "I", false)
  | 2 => ("JellyCathedral$See", "minute", "I", false)
  | 3 => ("JellyCathedral$See", "spent", "I", false)
  | 4 => ("JellyCathedral$See", "stuffs", "I", false)
  | 5 => ("JellyCathedral$See", "places", "I", false)
  | 6 => ("JellyCathedral$See", "moulds", "I", false)
  | 7 => ("JellyCathedral$See", "walks", "I", false)
  | 8 => ("JellyCathedral$See", "names", "I", false)
  | 9 => ("JellyCathedral$See", "set", "[I", true)
  | 10 => ("JellyCathedral$See", "cost", "[I", true)
  | 11 => ("JellyCathedral$See", "stock", "[I", true)
  | 12 => ("JellyCathedral$See", "mouldRow", "[LJellyCathedral$Mould;", true)
  | 13 => ("JellyCathedral$See", "near", "[I", true)
  | 14 => ("JellyCathedral$See", "nameRow", "[J", true)
  | 15 => ("JellyCathedral$See", "nameKind", "[I", true)
  | 16 => ("JellyCathedral$See", "nameIndex", "[I", true)
  | _ => ("JellyCathedral$See", "program", "LJellyCathedral$Feasts;", true)
def jY3 : Nat → FieldType := fun k => match k with
  | 0 => .int
  | 1 => .int
  | 2 => .int
  | 3 => .int
  | 4 => .int
  | 5 => .int
  | 6 => .int
  | 7 => .int
  | 8 => .int
  | 9 => (.array .int)
  | 10 => (.array .int)
  | 11 => (.array .int)
  | 12 => (.array (.object "JellyCathedral$Mould"))
  | 13 => (.array .int)
  | 14 => (.array .long)
  | 15 => (.array .int)
  | 16 => (.array .int)
  | _ => (.object "JellyCathedral$Feasts")
def jT4 : u_T := fun k => match k with
  | 0 => ("JellyCathedral$Feasts", "there", "Z", false)
  | 1 => ("JellyCathedral$Feasts", "steps", "I", false)
  | 2 => ("JellyCathedral$Feasts", "lines", "I", false)
  | 3 => ("JellyCathedral$Feasts", "deed", "[I", true)
  | 4 => ("JellyCathedral$Feasts", "first", "[I", true)
  | 5 => ("JellyCathedral$Feasts", "second", "[I", true)
  | 6 => ("JellyCathedral$Feasts", "number", "[I", true)
  | _ => ("JellyCathedral$Feasts", "partner", "[I", true)
def jY4 : Nat → FieldType := fun k => match k with
  | 0 => .boolean
  | 1 => .int
  | 2 => .int
  | 3 => (.array .int)
  | 4 => (.array .int)
  | 5 => (.array .int)
  | 6 => (.array .int)
  | _ => (.array .int)
def jT5 : u_T := fun k => match k with
  | 0 => ("JellyCathedral$Text", "held", "I", false)
  | 1 => ("JellyCathedral$Text", "length", "I", false)
  | 2 => ("JellyCathedral$Text", "next", "I", false)
  | 3 => ("JellyCathedral$Text", "at", "I", false)
  | 4 => ("JellyCathedral$Text", "sort", "I", false)
  | 5 => ("JellyCathedral$Text", "word", "I", false)
  | 6 => ("JellyCathedral$Text", "value", "I", false)
  | 7 => ("JellyCathedral$Text", "name", "J", false)
  | 8 => ("JellyCathedral$Text", "fault", "I", false)
  | 9 => ("JellyCathedral$Text", "place", "I", false)
  | _ => ("JellyCathedral$Text", "tape", "[B", true)
def jY5 : Nat → FieldType := fun k => match k with
  | 0 => .int
  | 1 => .int
  | 2 => .int
  | 3 => .int
  | 4 => .int
  | 5 => .int
  | 6 => .int
  | 7 => .long
  | 8 => .int
  | 9 => .int
  | _ => (.array .byte)
def jT6 : u_T := fun k => match k with
  | 0 => ("JellyCathedral$SeeReader", "text", "LJellyCathedral$Text;", false)
  | 1 => ("JellyCathedral$SeeReader", "see", "LJellyCathedral$See;", false)
  | 2 => ("JellyCathedral$SeeReader", "heatTold", "Z", false)
  | _ => ("JellyCathedral$SeeReader", "oddsTold", "Z", false)
def jY6 : Nat → FieldType := fun k => match k with
  | 0 => (.object "JellyCathedral$Text")
  | 1 => (.object "JellyCathedral$See")
  | 2 => .boolean
  | _ => .boolean
def jT7 : u_T := fun k => match k with
  | 0 => ("JellyCathedral$FeastsReader", "text", "LJellyCathedral$Text;", false)
  | 1 => ("JellyCathedral$FeastsReader", "see", "LJellyCathedral$See;", false)
  | 2 => ("JellyCathedral$FeastsReader", "out", "LJellyCathedral$Feasts;", false)
  | 3 => ("JellyCathedral$FeastsReader", "nested", "I", false)
  | _ => ("JellyCathedral$FeastsReader", "open", "[I", true)
def jY7 : Nat → FieldType := fun k => match k with
  | 0 => (.object "JellyCathedral$Text")
  | 1 => (.object "JellyCathedral$See")
  | 2 => (.object "JellyCathedral$Feasts")
  | 3 => .int
  | _ => (.array .int)
def jT8 : u_T := fun k => match k with
  | 0 => ("JellyCathedral$Fillings", "stuffs", "I", false)
  | 1 => ("JellyCathedral$Fillings", "bestCost", "I", false)
  | 2 => ("JellyCathedral$Fillings", "parts", "[I", true)
  | 3 => ("JellyCathedral$Fillings", "most", "[I", true)
  | 4 => ("JellyCathedral$Fillings", "best", "[I", true)
  | 5 => ("JellyCathedral$Fillings", "ways", "[I", true)
  | _ => ("JellyCathedral$Fillings", "groups", "[I", true)
def jY8 : Nat → FieldType := fun k => match k with
  | 0 => .int
  | 1 => .int
  | 2 => (.array .int)
  | 3 => (.array .int)
  | 4 => (.array .int)
  | 5 => (.array .int)
  | _ => (.array .int)
def jT9 : u_T := fun k => match k with
  | 0 => ("JellyCathedral$Game", "stuffs", "I", false)
  | 1 => ("JellyCathedral$Game", "move", "I", false)
  | 2 => ("JellyCathedral$Game", "set", "[I", true)
  | 3 => ("JellyCathedral$Game", "stock", "[I", true)
  | 4 => ("JellyCathedral$Game", "left", "[I", true)
  | _ => ("JellyCathedral$Game", "strength", "[I", true)
def jY9 : Nat → FieldType := fun k => match k with
  | 0 => .int
  | 1 => .int
  | 2 => (.array .int)
  | 3 => (.array .int)
  | 4 => (.array .int)
  | _ => (.array .int)
def jT10 : u_T := fun k => match k with
  | 0 => ("JellyCathedral$Living", "see", "LJellyCathedral$See;", false)
  | 1 => ("JellyCathedral$Living", "program", "LJellyCathedral$Feasts;", false)
  | 2 => ("JellyCathedral$Living", "drawn", "I", false)
  | 3 => ("JellyCathedral$Living", "steps", "I", false)
  | 4 => ("JellyCathedral$Living", "missed", "I", false)
  | 5 => ("JellyCathedral$Living", "left", "I", false)
  | _ => ("JellyCathedral$Living", "rounds", "[I", true)
def jY10 : Nat → FieldType := fun k => match k with
  | 0 => (.object "JellyCathedral$See")
  | 1 => (.object "JellyCathedral$Feasts")
  | 2 => .int
  | 3 => .int
  | 4 => .int
  | 5 => .int
  | _ => (.array .int)
def jT11 : u_T := fun k => match k with
  | 0 => ("JellyCathedralModel", "status", "I", false)
  | 1 => ("JellyCathedralModel", "thrown", "I", false)
  | 2 => ("JellyCathedralModel", "above", "J", false)
  | 3 => ("JellyCathedralModel", "under", "J", false)
  | 4 => ("JellyCathedralModel", "traySort", "[I", true)
  | 5 => ("JellyCathedralModel", "trayMany", "[I", true)
  | 6 => ("JellyCathedralModel", "numbers", "[J", true)
  | 7 => ("JellyCathedralModel", "tape", "[B", true)
  | 8 => ("JellyCathedralModel", "taped", "I", false)
  | 9 => ("JellyCathedralModel", "textEnd", "I", false)
  | 10 => ("JellyCathedralModel", "faultKind", "I", false)
  | 11 => ("JellyCathedralModel", "faultAt", "I", false)
  | 12 => ("JellyCathedralModel", "bad", "I", false)
  | 13 => ("JellyCathedralModel", "badAt", "I", false)
  | 14 => ("JellyCathedralModel", "token", "I", false)
  | 15 => ("JellyCathedralModel", "at", "I", false)
  | 16 => ("JellyCathedralModel", "behind", "I", false)
  | 17 => ("JellyCathedralModel", "number", "I", false)
  | 18 => ("JellyCathedralModel", "letters", "I", false)
  | 19 => ("JellyCathedralModel", "word", "J", false)
  | 20 => ("JellyCathedralModel", "c", "[I", true)
  | 21 => ("JellyCathedralModel", "aside", "[I", true)
  | 22 => ("JellyCathedralModel", "before", "[I", true)
  | 23 => ("JellyCathedralModel", "words", "[J", true)
  | 24 => ("JellyCathedralModel", "markMany", "I", false)
  | 25 => ("JellyCathedralModel", "toldOnce", "I", false)
  | 26 => ("JellyCathedralModel", "newSteps", "I", false)
  | 27 => ("JellyCathedralModel", "fars", "[I", true)
  | 28 => ("JellyCathedralModel", "trial", "[I", true)
  | 29 => ("JellyCathedralModel", "bestMix", "[I", true)
  | 30 => ("JellyCathedralModel", "fills", "[I", true)
  | 31 => ("JellyCathedralModel", "leastCost", "I", false)
  | 32 => ("JellyCathedralModel", "mostSet", "I", false)
  | 33 => ("JellyCathedralModel", "alike", "[I", true)
  | 34 => ("JellyCathedralModel", "firstMove", "I", false)
  | 35 => ("JellyCathedralModel", "chances", "[J", true)
  | 36 => ("JellyCathedralModel", "livedLast", "[I", true)
  | 37 => ("JellyCathedralModel", "hasLived", "Z", false)
  | 38 => ("JellyCathedralModel", "isOver", "Z", false)
  | 39 => ("JellyCathedralModel", "random", "I", false)
  | 40 => ("JellyCathedralModel", "done", "I", false)
  | 41 => ("JellyCathedralModel", "missed", "I", false)
  | 42 => ("JellyCathedralModel", "passed", "I", false)
  | 43 => ("JellyCathedralModel", "fellAhead", "I", false)
  | 44 => ("JellyCathedralModel", "spentAhead", "I", false)
  | _ => ("JellyCathedralModel", "leftOver", "I", false)
def jY11 : Nat → FieldType := fun k => match k with
  | 0 => .int
  | 1 => .int
  | 2 => .long
  | 3 => .long
  | 4 => (.array .int)
  | 5 => (.array .int)
  | 6 => (.array .long)
  | 7 => (.array .byte)
  | 8 => .int
  | 9 => .int
  | 10 => .int
  | 11 => .int
  | 12 => .int
  | 13 => .int
  | 14 => .int
  | 15 => .int
  | 16 => .int
  | 17 => .int
  | 18 => .int
  | 19 => .long
  | 20 => (.array .int)
  | 21 => (.array .int)
  | 22 => (.array .int)
  | 23 => (.array .long)
  | 24 => .int
  | 25 => .int
  | 26 => .int
  | 27 => (.array .int)
  | 28 => (.array .int)
  | 29 => (.array .int)
  | 30 => (.array .int)
  | 31 => .int
  | 32 => .int
  | 33 => (.array .int)
  | 34 => .int
  | 35 => (.array .long)
  | 36 => (.array .int)
  | 37 => .boolean
  | 38 => .boolean
  | 39 => .int
  | 40 => .int
  | 41 => .int
  | 42 => .int
  | 43 => .int
  | 44 => .int
  | _ => .int
def jcl : List vw_C := [("JellyCathedral", jT0, 18), ("JellyCathedral$Tray", jT1, 4), ("JellyCathedral$Mould", jT2, 9), ("JellyCathedral$See", jT3, 18), ("JellyCathedral$Feasts", jT4, 8), ("JellyCathedral$Text", jT5, 11), ("JellyCathedral$SeeReader", jT6, 4), ("JellyCathedral$FeastsReader", jT7, 5), ("JellyCathedral$Fillings", jT8, 7), ("JellyCathedral$Game", jT9, 6), ("JellyCathedral$Living", jT10, 7), ("JellyCathedralModel", jT11, 46)]
def jYs : List (Nat → FieldType) := [jY0, jY1, jY2, jY3, jY4, jY5, jY6, jY7, jY8, jY9, jY10, jY11]
/-- of a class, by its slots: sort (0 int, 1 long, 2 boolean, 3 a reference that stays, 4 one that changes), how far, kind -/
def jfields : List (List (Nat × Int × Nat)) := [[(0, 0, 0), (1, 0, 0), (1, 0, 0), (0, 0, 0), (0, 0, 0), (4, 0, 3), (4, 0, 3), (0, 0, 0), (2, 0, 0), (3, 1, 20), (3, 10, 21), (3, 11, 5), (3, 13, 6), (3, 14, 7), (3, 16, 8), (3, 22, 9), (3, 27, 10), (3, 29, 22)],
  [(2, 0, 0), (0, 0, 0), (0, 0, 0), (3, 1, 23)],
  [(0, 0, 0), (0, 0, 0), (0, 0, 0), (0, 0, 0), (0, 0, 0), (0, 0, 0), (0, 0, 0), (0, 0, 0), (3, 1, 22)],
  [(0, 0, 0), (0, 0, 0), (0, 0, 0), (0, 0, 0), (0, 0, 0), (0, 0, 0), (0, 0, 0), (0, 0, 0), (0, 0, 0), (3, 1, 22), (3, 2, 22), (3, 3, 22), (3, 4, 24), (3, 5, 25), (3, 6, 26), (3, 7, 27), (3, 8, 27), (3, 9, 4)],
  [(2, 0, 0), (0, 0, 0), (0, 0, 0), (3, 1, 28), (3, 2, 28), (3, 3, 28), (3, 4, 28), (3, 5, 28)],
  [(0, 0, 0), (0, 0, 0), (0, 0, 0), (0, 0, 0), (0, 0, 0), (0, 0, 0), (0, 0, 0), (1, 0, 0), (0, 0, 0), (0, 0, 0), (3, 1, 29)],
  [(4, 0, 5), (4, 0, 3), (2, 0, 0), (2, 0, 0)],
  [(4, 0, 5), (4, 0, 3), (4, 0, 4), (0, 0, 0), (3, 1, 30)],
  [(0, 0, 0), (0, 0, 0), (3, 1, 22), (3, 2, 22), (3, 3, 22), (3, 4, 31), (3, 5, 32)],
  [(0, 0, 0), (0, 0, 0), (3, 1, 22), (3, 2, 22), (3, 3, 33), (3, 4, 33)],
  [(4, 0, 3), (4, 0, 4), (0, 0, 0), (0, 0, 0), (0, 0, 0), (0, 0, 0), (3, 1, 28)],
  [(0, 0, 0), (0, 0, 0), (1, 0, 0), (1, 0, 0), (3, 1, 34), (3, 2, 34), (3, 3, 35), (3, 4, 29), (0, 0, 0), (0, 0, 0), (0, 0, 0), (0, 0, 0), (0, 0, 0), (0, 0, 0), (0, 0, 0), (0, 0, 0), (0, 0, 0), (0, 0, 0), (0, 0, 0), (1, 0, 0), (3, 5, 36), (3, 6, 37), (3, 7, 37), (3, 8, 38), (0, 0, 0), (0, 0, 0), (0, 0, 0), (3, 9, 25), (3, 10, 22), (3, 11, 22), (3, 12, 31), (0, 0, 0), (0, 0, 0), (3, 13, 39), (0, 0, 0), (3, 14, 40), (3, 15, 22), (2, 0, 0), (2, 0, 0), (0, 0, 0), (0, 0, 0), (0, 0, 0), (0, 0, 0), (0, 0, 0), (0, 0, 0), (0, 0, 0)]]
/-- kinds of arrays from 20 on: sort of its numbers (0 int, 1 long, 2 byte, 3 references), length, and of references where they lie -/
def jarrs : List (Nat × Nat × Int × Int × Nat) := [(3, 4, 1, 2, 1), (3, 3, 70, 25, 3), (0, 5, 0, 0, 0), (1, 60, 0, 0, 0), (3, 5, 11, 2, 2), (0, 36, 0, 0, 0), (1, 16, 0, 0, 0), (0, 16, 0, 0, 0), (0, 60, 0, 0, 0), (2, 900, 0, 0, 0), (0, 3, 0, 0, 0), (0, 82, 0, 0, 0), (0, 83, 0, 0, 0), (0, 2, 0, 0, 0), (0, 4, 0, 0, 0), (1, 240, 0, 0, 0), (0, 1905, 0, 0, 0), (0, 109, 0, 0, 0), (1, 80, 0, 0, 0), (0, 100, 0, 0, 0), (1, 13, 0, 0, 0)]
def jarr (t : Nat) : Option (Nat × Nat × Int × Int × Nat) := bif Nat.ble 20 t then jarrs[t - 20]? else none
def jcells : List Nat := [0, 20, 1, 23, 1, 23, 1, 23, 1, 23, 21, 5, 29, 6, 7, 30, 8, 22, 22, 22, 31, 32, 9, 22, 22, 33, 33, 10, 28, 22, 3, 22, 22, 22, 24, 25, 26, 27, 27, 4, 28, 28, 28, 28, 28, 2, 22, 2, 22, 2, 22, 2, 22, 2, 22, 3, 22, 22, 22, 24, 25, 26, 27, 27, 4, 28, 28, 28, 28, 28, 2, 22, 2, 22, 2, 22, 2, 22, 2, 22, 3, 22, 22, 22, 24, 25, 26, 27, 27, 4, 28, 28, 28, 28, 28, 2, 22, 2, 22, 2, 22, 2, 22, 2, 22, 3, 22, 22, 22, 24, 25, 26, 27, 27, 4, 28, 28, 28, 28, 28, 2, 22, 2, 22, 2, 22, 2, 22, 2, 22, 3, 22, 22, 22, 24, 25, 26, 27, 27, 4, 28, 28, 28, 28, 28, 2, 22, 2, 22, 2, 22, 2, 22, 2, 22, 11, 34, 34, 35, 29, 36, 37, 37, 38, 25, 22, 22, 31, 39, 40, 22]
def jN : Nat := 171
def jkws : List Int := [1751474548, 1868850291, 495875090022, 1936028787, 427071599731, 495874696043, 482854658917, 2002873451, 126892148221299, 470021401700, 1751738216, 448545973363, 24948, 1886352754, 1987012964, 461414294379, 500086170472, 426836652665, 120299592184933, 6385273, 2003330414, 126943688025203, 1718186605, 1819242352, 6647396, 1937010544]
def jkw (i : Int) : Int := jkws.getD i.toNat 0
/-- the two words on nest mates that methods use -/
def jnF : Cond := .fieldLinkNest "JellyCathedral$Text" (56 : Nat) "JellyCathedral" "KEPT_WORDS" "[J" "JellyCathedral"
def jnM : Cond := .methodLinkNest "JellyCathedral$Fillings" (74 : Nat) ({ cls := "JellyCathedral", name := "lasting", desc := "(III)I" } : Jvm.MethodName) "JellyCathedral"
/-- the words of the tables that hold at any state of the launch -/
def jT : List Cond := lw_tbl.filter goodWord
def jtb (n : Nat) : List Cond := match n with
  | 0 => k2_sels lw_privs
  | 1 => tables_1_1
  | 2 => tables_1_2
  | 3 => tables_1_3
  | 4 => tables_1_4
  | 5 => tables_1_5
  | 6 => tables_1_6
  | 7 => tables_1_7
  | _ => tables_1_8
/-- the word at a place: a thousand of the chunk and the place in it -/
def jw (p : Nat) (w : Cond) : Bool := decide ((jtb (p / 1000))[p % 1000]? = some w) && goodWord w
theorem jtb_mem {n : Nat} {w : Cond} (h : w ∈ jtb n) : w ∈ lw_tbl := by
  show w ∈ k2_sels lw_privs ++ tables_1
  show w ∈ k2_sels lw_privs ++ (tables_1_1 ++ (tables_1_2 ++ (tables_1_3 ++ (tables_1_4 ++ (tables_1_5 ++ (tables_1_6 ++ (tables_1_7 ++ tables_1_8)))))))
  simp only [List.mem_append]
  match n, h with
  | 0, h => exact Or.inl h
  | 1, h => exact Or.inr (Or.inl h)
  | 2, h => exact Or.inr (Or.inr (Or.inl h))
  | 3, h => exact Or.inr (Or.inr (Or.inr (Or.inl h)))
  | 4, h => exact Or.inr (Or.inr (Or.inr (Or.inr (Or.inl h))))
  | 5, h => exact Or.inr (Or.inr (Or.inr (Or.inr (Or.inr (Or.inl h)))))
  | 6, h => exact Or.inr (Or.inr (Or.inr (Or.inr (Or.inr (Or.inr (Or.inl h))))))
  | 7, h => exact Or.inr (Or.inr (Or.inr (Or.inr (Or.inr (Or.inr (Or.inr (Or.inl h)))))))
  | n + 8, h => exact Or.inr (Or.inr (Or.inr (Or.inr (Or.inr (Or.inr (Or.inr (Or.inr h)))))))
theorem jw_mem {p : Nat} {w : Cond} (h : jw p w = true) : w ∈ jT := by
  simp only [jw, Bool.and_eq_true, decide_eq_true_eq] at h
  exact List.mem_filter.mpr ⟨jtb_mem (List.mem_of_getElem? h.1), h.2⟩
theorem jT_good {w : Cond} (h : w ∈ jT) : w ∈ lw_tbl ∧ goodWord w = true := List.mem_filter.mp h
