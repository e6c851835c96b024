/-! names, fields: as the printed names have them -/
def RX0 : String := "BagTrees$Counter"
def TX0 : u_T := fun k => match k with
  | 0 => ("BagTrees$Counter", "graph", "LBagTrees$Graph;", true)
  | 1 => ("BagTrees$Counter", "row", "[J", false)
  | 2 => ("BagTrees$Counter", "spare", "[J", false)
  | _ => ("BagTrees$Counter", "arms", "[J", true)
def tyX0 : Nat → FieldType := fun k => match k with
  | 0 => .object "BagTrees$Graph"
  | 1 => .array .long
  | 2 => .array .long
  | _ => .array .long
abbrev wsX00 : List Cond := u_ws RX0 TX0 4
theorem nmX0 : ∀ a, a < 4 → ∀ b, b < 4 → a ≠ b → (TX0 a).2.1 ≠ (TX0 b).2.1 := by decide +kernel
theorem tyX0_ok : ∀ k, k < 4 → parseFieldDescriptor (TX0 k).2.2.1 = some (tyX0 k) := by decide +kernel
def RX1 : String := "BagTrees$Finder"
def TX1 : u_T := fun k => match k with
  | _ => ("BagTrees$Finder", "graph", "LBagTrees$Graph;", true)
def tyX1 : Nat → FieldType := fun k => match k with
  | _ => .object "BagTrees$Graph"
abbrev wsX10 : List Cond := u_ws RX1 TX1 1
theorem nmX1 : ∀ a, a < 1 → ∀ b, b < 1 → a ≠ b → (TX1 a).2.1 ≠ (TX1 b).2.1 := by decide +kernel
theorem tyX1_ok : ∀ k, k < 1 → parseFieldDescriptor (TX1 k).2.2.1 = some (tyX1 k) := by decide +kernel
def RX2 : String := "BagTrees$Graph"
def TX2 : u_T := fun k => match k with
  | 0 => ("BagTrees$Graph", "linked", "[I", true)
  | 1 => ("BagTrees$Graph", "weights", "[I", true)
  | 2 => ("BagTrees$Graph", "reach", "[I", true)
  | 3 => ("BagTrees$Graph", "inside", "[I", true)
  | 4 => ("BagTrees$Graph", "piece", "[I", true)
  | 5 => ("BagTrees$Graph", "vertices", "I", false)
  | 6 => ("BagTrees$Graph", "edges", "I", false)
  | 7 => ("BagTrees$Graph", "changes", "I", false)
  | _ => ("BagTrees$Graph", "changesAtRows", "I", false)
def tyX2 : Nat → FieldType := fun k => match k with
  | 0 => .array .int
  | 1 => .array .int
  | 2 => .array .int
  | 3 => .array .int
  | 4 => .array .int
  | 5 => .int
  | 6 => .int
  | 7 => .int
  | _ => .int
abbrev wsX20 : List Cond := u_ws RX2 TX2 9
theorem nmX2 : ∀ a, a < 9 → ∀ b, b < 9 → a ≠ b → (TX2 a).2.1 ≠ (TX2 b).2.1 := by decide +kernel
theorem tyX2_ok : ∀ k, k < 9 → parseFieldDescriptor (TX2 k).2.2.1 = some (tyX2 k) := by decide +kernel
def RX3 : String := "BagTrees$Heights"
def TX3 : u_T := fun k => match k with
  | 0 => ("BagTrees$Heights", "graph", "LBagTrees$Graph;", true)
  | 1 => ("BagTrees$Heights", "sees", "[I", true)
  | 2 => ("BagTrees$Heights", "height", "[I", true)
  | 3 => ("BagTrees$Heights", "below", "[I", true)
  | 4 => ("BagTrees$Heights", "reach", "[I", true)
  | _ => ("BagTrees$Heights", "least", "[I", true)
def tyX3 : Nat → FieldType := fun k => match k with
  | 0 => .object "BagTrees$Graph"
  | 1 => .array .int
  | 2 => .array .int
  | 3 => .array .int
  | 4 => .array .int
  | _ => .array .int
abbrev wsX30 : List Cond := u_ws RX3 TX3 6
theorem nmX3 : ∀ a, a < 6 → ∀ b, b < 6 → a ≠ b → (TX3 a).2.1 ≠ (TX3 b).2.1 := by decide +kernel
theorem tyX3_ok : ∀ k, k < 6 → parseFieldDescriptor (TX3 k).2.2.1 = some (tyX3 k) := by decide +kernel
def RX4 : String := "BagTrees$Orders"
def TX4 : u_T := fun k => match k with
  | 0 => ("BagTrees$Orders", "graph", "LBagTrees$Graph;", true)
  | 1 => ("BagTrees$Orders", "heights", "LBagTrees$Heights;", true)
  | 2 => ("BagTrees$Orders", "rows", "[[I", true)
  | 3 => ("BagTrees$Orders", "costs", "[I", true)
  | 4 => ("BagTrees$Orders", "least", "[I", true)
  | 5 => ("BagTrees$Orders", "settled", "I", false)
  | _ => ("BagTrees$Orders", "changesAtSettled", "I", false)
def tyX4 : Nat → FieldType := fun k => match k with
  | 0 => .object "BagTrees$Graph"
  | 1 => .object "BagTrees$Heights"
  | 2 => .array (.array .int)
  | 3 => .array .int
  | 4 => .array .int
  | 5 => .int
  | _ => .int
abbrev wsX40 : List Cond := u_ws RX4 TX4 7
theorem nmX4 : ∀ a, a < 7 → ∀ b, b < 7 → a ≠ b → (TX4 a).2.1 ≠ (TX4 b).2.1 := by decide +kernel
theorem tyX4_ok : ∀ k, k < 7 → parseFieldDescriptor (TX4 k).2.2.1 = some (tyX4 k) := by decide +kernel
def RX5 : String := "BagTrees"
def TX5 : u_T := fun k => match k with
  | 0 => ("BagTrees", "graph", "LBagTrees$Graph;", true)
  | 1 => ("BagTrees", "orders", "LBagTrees$Orders;", true)
  | 2 => ("BagTrees", "finder", "LBagTrees$Finder;", true)
  | _ => ("BagTrees", "counter", "LBagTrees$Counter;", true)
def tyX5 : Nat → FieldType := fun k => match k with
  | 0 => .object "BagTrees$Graph"
  | 1 => .object "BagTrees$Orders"
  | 2 => .object "BagTrees$Finder"
  | _ => .object "BagTrees$Counter"
abbrev wsX50 : List Cond := u_ws RX5 TX5 4
theorem nmX5 : ∀ a, a < 4 → ∀ b, b < 4 → a ≠ b → (TX5 a).2.1 ≠ (TX5 b).2.1 := by decide +kernel
theorem tyX5_ok : ∀ k, k < 4 → parseFieldDescriptor (TX5 k).2.2.1 = some (tyX5 k) := by decide +kernel
def RX6 : String := "BagTreesModel"
def TX6 : u_T := fun k => match k with
  | 0 => ("BagTreesModel", "n", "I", false)
  | 1 => ("BagTreesModel", "near", "[I", true)
  | 2 => ("BagTreesModel", "weight", "[I", true)
  | 3 => ("BagTreesModel", "edges", "I", false)
  | 4 => ("BagTreesModel", "behind", "[I", true)
  | 5 => ("BagTreesModel", "row", "[I", true)
  | 6 => ("BagTreesModel", "high", "[I", true)
  | 7 => ("BagTreesModel", "best", "[I", true)
  | 8 => ("BagTreesModel", "joined", "[I", true)
  | 9 => ("BagTreesModel", "placeOf", "[I", true)
  | 10 => ("BagTreesModel", "kept", "[I", true)
  | 11 => ("BagTreesModel", "table", "[J", true)
  | 12 => ("BagTreesModel", "other", "[J", true)
  | 13 => ("BagTreesModel", "ways", "[J", true)
  | 14 => ("BagTreesModel", "square", "[J", true)
  | _ => ("BagTreesModel", "found", "I", false)
def tyX6 : Nat → FieldType := fun k => match k with
  | 0 => .int
  | 1 => .array .int
  | 2 => .array .int
  | 3 => .int
  | 4 => .array .int
  | 5 => .array .int
  | 6 => .array .int
  | 7 => .array .int
  | 8 => .array .int
  | 9 => .array .int
  | 10 => .array .int
  | 11 => .array .long
  | 12 => .array .long
  | 13 => .array .long
  | 14 => .array .long
  | _ => .int
abbrev wsX60 : List Cond := u_ws RX6 TX6 16
theorem nmX6 : ∀ a, a < 16 → ∀ b, b < 16 → a ≠ b → (TX6 a).2.1 ≠ (TX6 b).2.1 := by decide +kernel
theorem tyX6_ok : ∀ k, k < 16 → parseFieldDescriptor (TX6 k).2.2.1 = some (tyX6 k) := by decide +kernel
abbrev vwCl : List vw_C := [(RX0, TX0, 4), (RX1, TX1, 1), (RX2, TX2, 9), (RX3, TX3, 6), (RX4, TX4, 7), (RX5, TX5, 4), (RX6, TX6, 16)]
def mv_ty (c : Nat) : Nat → FieldType := match c with
  | 0 => tyX0
  | 1 => tyX1
  | 2 => tyX2
  | 3 => tyX3
  | 4 => tyX4
  | 5 => tyX5
  | _ => tyX6
def mv_nm (c : Nat) : String := match c with
  | 0 => RX0
  | 1 => RX1
  | 2 => RX2
  | 3 => RX3
  | 4 => RX4
  | 5 => RX5
  | 6 => RX6
  | 7 => "BagTreesLaw"
  | 8 => "java/lang/Integer"
  | _ => "java/lang/Math"
/-- a field of a class: (number of the using class, index in its pool, class of the field, its place) -/
def mv_flds : List (Nat × Nat × Nat × Nat) := [(2, 9, 2, 0), (1, 21, 2, 0), (4, 106, 2, 0), (5, 85, 2, 0), (0, 105, 2, 0), (2, 15, 2, 1), (5, 65, 2, 1), (2, 18, 2, 2), (0, 83, 2, 2), (4, 97, 2, 2), (1, 60, 2, 2), (2, 21, 2, 3), (0, 79, 2, 3), (4, 103, 2, 3), (1, 51, 2, 3), (2, 24, 2, 4), (1, 63, 2, 4), (2, 31, 2, 5), (1, 15, 2, 5), (4, 40, 2, 5), (5, 39, 2, 5), (3, 35, 2, 5), (0, 93, 2, 5), (5, 55, 2, 6), (2, 34, 2, 6), (4, 100, 2, 6), (0, 129, 2, 6), (4, 52, 2, 7), (2, 37, 2, 7), (2, 27, 2, 8), (3, 27, 3, 0), (3, 9, 3, 1), (3, 15, 3, 2), (3, 18, 3, 3), (3, 21, 3, 4), (3, 24, 3, 5), (4, 27, 4, 0), (4, 36, 4, 1), (4, 11, 4, 2), (5, 97, 4, 2), (4, 16, 4, 3), (5, 94, 4, 3), (4, 20, 4, 4), (4, 55, 4, 5), (4, 23, 4, 6), (1, 9, 1, 0), (0, 21, 0, 0), (0, 9, 0, 1), (0, 15, 0, 2), (0, 18, 0, 3), (5, 12, 5, 0), (5, 21, 5, 1), (5, 28, 5, 2), (5, 35, 5, 3), (6, 50, 6, 0), (6, 7, 6, 1), (6, 13, 6, 2), (6, 58, 6, 3), (6, 16, 6, 4), (6, 19, 6, 5), (6, 22, 6, 6), (6, 25, 6, 7), (6, 28, 6, 8), (6, 31, 6, 9), (6, 34, 6, 10), (6, 37, 6, 11), (6, 41, 6, 12), (6, 44, 6, 13), (6, 47, 6, 14), (6, 182, 6, 15)]
/-- the methods: class, name, code, locals, result, kind (0 static, 1 of an object, 2 constructor), parameters -/
abbrev mv_T : Type := Nat × MethodName × ByteArray × Nat × Option FieldType × Nat × Nat
def mv_y0 : MethodName := ⟨"BagTrees", "<init>", "()V"⟩
def mv_y1 : MethodName := ⟨"BagTrees$Graph", "<init>", "()V"⟩
def mv_y2 : MethodName := ⟨"BagTrees$Orders", "<init>", "(LBagTrees$Graph;)V"⟩
def mv_y3 : MethodName := ⟨"BagTrees$Heights", "<init>", "(LBagTrees$Graph;)V"⟩
def mv_y4 : MethodName := ⟨"BagTrees$Finder", "<init>", "(LBagTrees$Graph;)V"⟩
def mv_y5 : MethodName := ⟨"BagTrees$Counter", "<init>", "(LBagTrees$Graph;)V"⟩
def mv_y6 : MethodName := ⟨"BagTrees", "begin", "(I)I"⟩
def mv_y7 : MethodName := ⟨"BagTrees$Graph", "startOver", "(I)V"⟩
def mv_y8 : MethodName := ⟨"BagTrees", "join", "(II)I"⟩
def mv_y9 : MethodName := ⟨"BagTrees$Graph", "has", "(I)Z"⟩
def mv_y10 : MethodName := ⟨"BagTrees$Graph", "areLinked", "(II)Z"⟩
def mv_y11 : MethodName := ⟨"BagTrees$Graph", "link", "(II)V"⟩
def mv_y12 : MethodName := ⟨"BagTrees", "part", "(II)I"⟩
def mv_y13 : MethodName := ⟨"BagTrees$Graph", "unlink", "(II)V"⟩
def mv_y14 : MethodName := ⟨"BagTrees", "weigh", "(II)I"⟩
def mv_y15 : MethodName := ⟨"BagTrees", "count", "(I)I"⟩
def mv_y16 : MethodName := ⟨"BagTrees$Graph", "pieces", "()I"⟩
def mv_y17 : MethodName := ⟨"BagTrees$Graph", "makeRows", "()V"⟩
def mv_y18 : MethodName := ⟨"BagTrees$Graph", "all", "()I"⟩
def mv_y19 : MethodName := ⟨"BagTrees", "lowest", "(I)I"⟩
def mv_y20 : MethodName := ⟨"java/lang/Integer", "bitCount", "(I)I"⟩
def mv_y21 : MethodName := ⟨"BagTrees$Graph", "spread", "([II)I"⟩
def mv_y22 : MethodName := ⟨"BagTrees$Finder", "mostLinks", "()I"⟩
def mv_y23 : MethodName := ⟨"BagTrees$Finder", "densestCore", "()I"⟩
def mv_y24 : MethodName := ⟨"BagTrees$Finder", "loosest", "(I)I"⟩
def mv_y25 : MethodName := ⟨"BagTrees$Finder", "holes", "()I"⟩
def mv_y26 : MethodName := ⟨"BagTrees$Finder", "isHole", "(I)Z"⟩
def mv_y27 : MethodName := ⟨"BagTrees$Graph", "hangsTogether", "(I)Z"⟩
def mv_y28 : MethodName := ⟨"BagTrees$Finder", "shortestHole", "()I"⟩
def mv_y29 : MethodName := ⟨"BagTrees", "near", "(I)I"⟩
def mv_y30 : MethodName := ⟨"BagTrees", "width", "(I)I"⟩
def mv_y31 : MethodName := ⟨"BagTrees", "isKind", "(I)Z"⟩
def mv_y32 : MethodName := ⟨"BagTrees$Orders", "settle", "(I)V"⟩
def mv_y33 : MethodName := ⟨"BagTrees$Heights", "layLeast", "([I)I"⟩
def mv_y34 : MethodName := ⟨"BagTrees$Heights", "leastBehind", "(I)I"⟩
def mv_y35 : MethodName := ⟨"BagTrees$Graph", "seesPast", "(II)I"⟩
def mv_y36 : MethodName := ⟨"BagTrees$Graph", "touched", "(II)I"⟩
def mv_y37 : MethodName := ⟨"BagTrees$Heights", "tallest", "(I)I"⟩
def mv_y38 : MethodName := ⟨"BagTrees$Heights", "leastBelow", "(I)I"⟩
def mv_y39 : MethodName := ⟨"BagTrees$Heights", "staysWithin", "(III)Z"⟩
def mv_y40 : MethodName := ⟨"BagTrees$Orders", "fillLeast", "(I)V"⟩
def mv_y41 : MethodName := ⟨"BagTrees$Orders", "costFrom", "(III)I"⟩
def mv_y42 : MethodName := ⟨"BagTrees$Orders", "ownCost", "(III)I"⟩
def mv_y43 : MethodName := ⟨"BagTrees$Orders", "layBand", "([I)I"⟩
def mv_y44 : MethodName := ⟨"BagTrees$Orders", "layBandBehind", "([IIII)Z"⟩
def mv_y45 : MethodName := ⟨"BagTrees$Orders", "hasRoom", "([IIII)Z"⟩
def mv_y46 : MethodName := ⟨"BagTrees$Orders", "layLeast", "(I[I)I"⟩
def mv_y47 : MethodName := ⟨"BagTrees", "order", "(II)I"⟩
def mv_y48 : MethodName := ⟨"BagTrees", "seen", "(II)I"⟩
def mv_y49 : MethodName := ⟨"BagTrees$Orders", "seenFrom", "(II)I"⟩
def mv_y50 : MethodName := ⟨"BagTrees", "separator", "(I)I"⟩
def mv_y51 : MethodName := ⟨"BagTrees$Finder", "separatorAt", "(I)I"⟩
def mv_y52 : MethodName := ⟨"BagTrees$Finder", "isSeparator", "(I)Z"⟩
def mv_y53 : MethodName := ⟨"BagTrees", "clique", "(I)I"⟩
def mv_y54 : MethodName := ⟨"BagTrees$Finder", "cliqueAt", "(I)I"⟩
def mv_y55 : MethodName := ⟨"BagTrees$Finder", "isClique", "(I)Z"⟩
def mv_y56 : MethodName := ⟨"BagTrees", "total", "(II)J"⟩
def mv_y57 : MethodName := ⟨"BagTrees$Counter", "tell", "(II)J"⟩
def mv_y58 : MethodName := ⟨"BagTrees$Counter", "setsApart", "()J"⟩
def mv_y59 : MethodName := ⟨"BagTrees$Counter", "colourings", "(I)J"⟩
def mv_y60 : MethodName := ⟨"BagTrees$Counter", "clearRows", "()V"⟩
def mv_y61 : MethodName := ⟨"BagTrees$Counter", "colourOneClass", "(I)V"⟩
def mv_y62 : MethodName := ⟨"BagTrees$Counter", "takeClasses", "(IJ)V"⟩
def mv_y63 : MethodName := ⟨"BagTrees$Counter", "matchings", "(Z)J"⟩
def mv_y64 : MethodName := ⟨"BagTrees$Counter", "coveringSets", "()J"⟩
def mv_y65 : MethodName := ⟨"BagTrees$Counter", "rings", "()J"⟩
def mv_y66 : MethodName := ⟨"BagTrees$Counter", "fillArms", "()V"⟩
def mv_y67 : MethodName := ⟨"BagTrees$Counter", "armsTo", "(II)J"⟩
def mv_y68 : MethodName := ⟨"BagTrees$Counter", "waysThrough", "()J"⟩
def mv_y69 : MethodName := ⟨"BagTrees$Counter", "trees", "()J"⟩
def mv_y70 : MethodName := ⟨"BagTrees$Counter", "treesOn", "(I)J"⟩
def mv_y71 : MethodName := ⟨"BagTrees$Counter", "forests", "()J"⟩
def mv_y72 : MethodName := ⟨"BagTrees$Counter", "joiningEdgeSets", "()J"⟩
def mv_y73 : MethodName := ⟨"BagTrees$Counter", "edgeCovers", "()J"⟩
def mv_y74 : MethodName := ⟨"BagTrees$Counter", "setsTogether", "()J"⟩
def mv_y75 : MethodName := ⟨"BagTrees$Counter", "evenEdgeSets", "()J"⟩
def mv_y76 : MethodName := ⟨"BagTrees", "best", "(I)I"⟩
def mv_y77 : MethodName := ⟨"BagTrees$Finder", "bestSet", "(I)I"⟩
def mv_y78 : MethodName := ⟨"BagTrees$Finder", "isSuch", "(II)Z"⟩
def mv_y79 : MethodName := ⟨"BagTrees$Graph", "weightOf", "(I)I"⟩
def mv_y80 : MethodName := ⟨"BagTrees", "which", "(I)I"⟩
def mv_y81 : MethodName := ⟨"BagTrees", "fewest", "(I)I"⟩
def mv_y82 : MethodName := ⟨"BagTrees$Finder", "fewestJoining", "(I)I"⟩
def mv_y83 : MethodName := ⟨"BagTreesModel", "<init>", "()V"⟩
def mv_y84 : MethodName := ⟨"BagTreesModel", "begin", "(I)I"⟩
def mv_y85 : MethodName := ⟨"BagTreesModel", "isIn", "(III)Z"⟩
def mv_y86 : MethodName := ⟨"BagTreesModel", "join", "(II)I"⟩
def mv_y87 : MethodName := ⟨"BagTreesModel", "isVertex", "(I)Z"⟩
def mv_y88 : MethodName := ⟨"BagTreesModel", "isEdge", "(II)Z"⟩
def mv_y89 : MethodName := ⟨"BagTreesModel", "part", "(II)I"⟩
def mv_y90 : MethodName := ⟨"BagTreesModel", "weigh", "(II)I"⟩
def mv_y91 : MethodName := ⟨"BagTreesModel", "near", "(I)I"⟩
def mv_y92 : MethodName := ⟨"BagTreesModel", "count", "(I)I"⟩
def mv_y93 : MethodName := ⟨"BagTreesModel", "all", "()I"⟩
def mv_y94 : MethodName := ⟨"BagTreesModel", "parts", "(I)I"⟩
def mv_y95 : MethodName := ⟨"BagTreesModel", "lowest", "(I)I"⟩
def mv_y96 : MethodName := ⟨"BagTreesModel", "hang", "(II)I"⟩
def mv_y97 : MethodName := ⟨"BagTreesModel", "ones", "(I)I"⟩
def mv_y98 : MethodName := ⟨"BagTreesModel", "leastDegree", "(I)I"⟩
def mv_y99 : MethodName := ⟨"BagTreesModel", "isHole", "(I)Z"⟩
def mv_y100 : MethodName := ⟨"BagTreesModel", "isWhole", "(I)Z"⟩
def mv_y101 : MethodName := ⟨"BagTreesModel", "separator", "(I)I"⟩
def mv_y102 : MethodName := ⟨"BagTreesModel", "isSeparator", "(I)Z"⟩
def mv_y103 : MethodName := ⟨"BagTreesModel", "around", "(I)I"⟩
def mv_y104 : MethodName := ⟨"BagTreesModel", "clique", "(I)I"⟩
def mv_y105 : MethodName := ⟨"BagTreesModel", "isClique", "(I)Z"⟩
def mv_y106 : MethodName := ⟨"BagTreesModel", "width", "(I)I"⟩
def mv_y107 : MethodName := ⟨"BagTreesModel", "lay", "(I)I"⟩
def mv_y108 : MethodName := ⟨"BagTreesModel", "layBand", "()I"⟩
def mv_y109 : MethodName := ⟨"BagTreesModel", "stands", "(II)Z"⟩
def mv_y110 : MethodName := ⟨"BagTreesModel", "isBand", "(II)Z"⟩
def mv_y111 : MethodName := ⟨"BagTreesModel", "layHigh", "()I"⟩
def mv_y112 : MethodName := ⟨"BagTreesModel", "tellHigh", "(I)V"⟩
def mv_y113 : MethodName := ⟨"BagTreesModel", "top", "(I)I"⟩
def mv_y114 : MethodName := ⟨"BagTreesModel", "tellBehind", "(I)V"⟩
def mv_y115 : MethodName := ⟨"BagTreesModel", "cost", "(III)I"⟩
def mv_y116 : MethodName := ⟨"BagTreesModel", "sees", "(II)I"⟩
def mv_y117 : MethodName := ⟨"BagTreesModel", "isNext", "(IIII)Z"⟩
def mv_y118 : MethodName := ⟨"BagTreesModel", "order", "(II)I"⟩
def mv_y119 : MethodName := ⟨"BagTreesModel", "seen", "(II)I"⟩
def mv_y120 : MethodName := ⟨"BagTreesModel", "total", "(II)J"⟩
def mv_y121 : MethodName := ⟨"BagTreesModel", "colours", "(I)J"⟩
def mv_y122 : MethodName := ⟨"BagTreesModel", "isApart", "(I)Z"⟩
def mv_y123 : MethodName := ⟨"BagTreesModel", "matchings", "(Z)J"⟩
def mv_y124 : MethodName := ⟨"BagTreesModel", "ways", "(Z)J"⟩
def mv_y125 : MethodName := ⟨"BagTreesModel", "trees", "(I)J"⟩
def mv_y126 : MethodName := ⟨"BagTreesModel", "products", "()J"⟩
def mv_y127 : MethodName := ⟨"BagTreesModel", "wholes", "()J"⟩
def mv_y128 : MethodName := ⟨"BagTreesModel", "edgesIn", "(I)I"⟩
def mv_y129 : MethodName := ⟨"BagTreesModel", "directions", "()J"⟩
def mv_y130 : MethodName := ⟨"BagTreesModel", "isNearAll", "(I)Z"⟩
def mv_y131 : MethodName := ⟨"BagTreesModel", "best", "(I)I"⟩
def mv_y132 : MethodName := ⟨"BagTreesModel", "seek", "(I)I"⟩
def mv_y133 : MethodName := ⟨"BagTreesModel", "isGood", "(II)Z"⟩
def mv_y134 : MethodName := ⟨"BagTreesModel", "isCover", "(I)Z"⟩
def mv_y135 : MethodName := ⟨"BagTreesModel", "weightOf", "(I)I"⟩
def mv_y136 : MethodName := ⟨"BagTreesModel", "which", "(I)I"⟩
def mv_y137 : MethodName := ⟨"BagTreesModel", "fewest", "(I)I"⟩
def mv_prog_0 : List mv_T := [(5, mv_y0, prog_1_method_1_code, 1, none, 2, 0), (2, mv_y1, prog_4_method_1_code, 1, none, 2, 0), (4, mv_y2, prog_6_method_1_code, 2, none, 2, 1), (3, mv_y3, prog_5_method_1_code, 2, none, 2, 1), (1, mv_y4, prog_3_method_1_code, 2, none, 2, 1), (0, mv_y5, prog_2_method_1_code, 2, none, 2, 1), (5, mv_y6, prog_1_method_2_code, 3, (some .int), 1, 1), (2, mv_y7, prog_4_method_4_code, 3, none, 1, 1), (5, mv_y8, prog_1_method_3_code, 3, (some .int), 1, 2), (2, mv_y9, prog_4_method_3_code, 2, (some .boolean), 1, 1), (2, mv_y10, prog_4_method_5_code, 3, (some .boolean), 1, 2), (2, mv_y11, prog_4_method_6_code, 3, none, 1, 2), (5, mv_y12, prog_1_method_4_code, 3, (some .int), 1, 2), (2, mv_y13, prog_4_method_7_code, 3, none, 1, 2), (5, mv_y14, prog_1_method_5_code, 4, (some .int), 1, 2), (5, mv_y15, prog_1_method_6_code, 2, (some .int), 1, 1), (2, mv_y16, prog_4_method_11_code, 3, (some .int), 1, 0), (2, mv_y17, prog_4_method_9_code, 5, none, 1, 0), (2, mv_y18, prog_4_method_2_code, 1, (some .int), 1, 0), (5, mv_y19, prog_1_method_18_code, 1, (some .int), 0, 1)]
def mv_prog_1 : List mv_T := [(8, mv_y20, prog_9_method_49_code, 1, (some .int), 0, 1), (2, mv_y21, prog_4_method_10_code, 5, (some .int), 0, 2), (1, mv_y22, prog_3_method_2_code, 3, (some .int), 1, 0), (1, mv_y23, prog_3_method_3_code, 5, (some .int), 1, 0), (1, mv_y24, prog_3_method_4_code, 6, (some .int), 1, 1), (1, mv_y25, prog_3_method_5_code, 4, (some .int), 1, 0), (1, mv_y26, prog_3_method_7_code, 4, (some .boolean), 1, 1), (2, mv_y27, prog_4_method_12_code, 2, (some .boolean), 1, 1), (1, mv_y28, prog_3_method_6_code, 4, (some .int), 1, 0), (5, mv_y29, prog_1_method_7_code, 2, (some .int), 1, 1), (5, mv_y30, prog_1_method_8_code, 2, (some .int), 1, 1), (5, mv_y31, prog_1_method_17_code, 1, (some .boolean), 0, 1), (4, mv_y32, prog_6_method_3_code, 2, none, 1, 1), (3, mv_y33, prog_5_method_2_code, 6, (some .int), 1, 1), (3, mv_y34, prog_5_method_5_code, 7, (some .int), 1, 1), (2, mv_y35, prog_4_method_14_code, 3, (some .int), 1, 2), (2, mv_y36, prog_4_method_13_code, 5, (some .int), 1, 2), (3, mv_y37, prog_5_method_4_code, 4, (some .int), 1, 1), (3, mv_y38, prog_5_method_6_code, 4, (some .int), 1, 1), (3, mv_y39, prog_5_method_3_code, 4, (some .boolean), 1, 3)]
def mv_prog_2 : List mv_T := [(4, mv_y40, prog_6_method_4_code, 6, none, 1, 1), (4, mv_y41, prog_6_method_5_code, 6, (some .int), 1, 3), (4, mv_y42, prog_6_method_6_code, 6, (some .int), 1, 3), (4, mv_y43, prog_6_method_8_code, 3, (some .int), 1, 1), (4, mv_y44, prog_6_method_9_code, 7, (some .boolean), 1, 4), (4, mv_y45, prog_6_method_10_code, 7, (some .boolean), 1, 4), (4, mv_y46, prog_6_method_7_code, 7, (some .int), 1, 2), (5, mv_y47, prog_1_method_9_code, 3, (some .int), 1, 2), (5, mv_y48, prog_1_method_10_code, 3, (some .int), 1, 2), (4, mv_y49, prog_6_method_2_code, 5, (some .int), 1, 2), (5, mv_y50, prog_1_method_11_code, 2, (some .int), 1, 1), (1, mv_y51, prog_3_method_8_code, 5, (some .int), 1, 1), (1, mv_y52, prog_3_method_9_code, 4, (some .boolean), 1, 1), (5, mv_y53, prog_1_method_12_code, 2, (some .int), 1, 1), (1, mv_y54, prog_3_method_10_code, 5, (some .int), 1, 1), (1, mv_y55, prog_3_method_11_code, 4, (some .boolean), 1, 1), (5, mv_y56, prog_1_method_13_code, 3, (some .long), 1, 2), (0, mv_y57, prog_2_method_2_code, 3, (some .long), 1, 2), (0, mv_y58, prog_2_method_3_code, 5, (some .long), 1, 0), (0, mv_y59, prog_2_method_6_code, 5, (some .long), 1, 1)]
def mv_prog_3 : List mv_T := [(0, mv_y60, prog_2_method_7_code, 3, none, 1, 0), (0, mv_y61, prog_2_method_8_code, 4, none, 1, 1), (0, mv_y62, prog_2_method_9_code, 7, none, 1, 2), (0, mv_y63, prog_2_method_10_code, 8, (some .long), 1, 1), (0, mv_y64, prog_2_method_4_code, 5, (some .long), 1, 0), (0, mv_y65, prog_2_method_11_code, 3, (some .long), 1, 0), (0, mv_y66, prog_2_method_13_code, 8, none, 1, 0), (0, mv_y67, prog_2_method_14_code, 6, (some .long), 1, 2), (0, mv_y68, prog_2_method_12_code, 5, (some .long), 1, 0), (0, mv_y69, prog_2_method_15_code, 3, (some .long), 1, 0), (0, mv_y70, prog_2_method_16_code, 10, (some .long), 1, 1), (0, mv_y71, prog_2_method_17_code, 7, (some .long), 1, 0), (0, mv_y72, prog_2_method_18_code, 7, (some .long), 1, 0), (0, mv_y73, prog_2_method_19_code, 7, (some .long), 1, 0), (0, mv_y74, prog_2_method_5_code, 5, (some .long), 1, 0), (0, mv_y75, prog_2_method_20_code, 1, (some .long), 1, 0), (5, mv_y76, prog_1_method_14_code, 3, (some .int), 1, 1), (1, mv_y77, prog_3_method_12_code, 8, (some .int), 1, 1), (1, mv_y78, prog_3_method_13_code, 4, (some .boolean), 1, 2), (2, mv_y79, prog_4_method_8_code, 4, (some .int), 1, 1)]
def mv_prog_4 : List mv_T := [(5, mv_y80, prog_1_method_15_code, 2, (some .int), 1, 1), (5, mv_y81, prog_1_method_16_code, 2, (some .int), 1, 1), (1, mv_y82, prog_3_method_14_code, 6, (some .int), 1, 1), (6, mv_y83, prog_8_method_1_code, 1, none, 2, 0), (6, mv_y84, prog_8_method_6_code, 4, (some .int), 1, 1), (6, mv_y85, prog_8_method_2_code, 3, (some .boolean), 0, 3), (6, mv_y86, prog_8_method_9_code, 3, (some .int), 1, 2), (6, mv_y87, prog_8_method_7_code, 2, (some .boolean), 1, 1), (6, mv_y88, prog_8_method_8_code, 3, (some .boolean), 1, 2), (6, mv_y89, prog_8_method_10_code, 3, (some .int), 1, 2), (6, mv_y90, prog_8_method_11_code, 4, (some .int), 1, 2), (6, mv_y91, prog_8_method_24_code, 2, (some .int), 1, 1), (6, mv_y92, prog_8_method_26_code, 5, (some .int), 1, 1), (6, mv_y93, prog_8_method_5_code, 1, (some .int), 1, 0), (6, mv_y94, prog_8_method_23_code, 4, (some .int), 1, 1), (6, mv_y95, prog_8_method_4_code, 2, (some .int), 0, 1), (6, mv_y96, prog_8_method_12_code, 7, (some .int), 1, 2), (6, mv_y97, prog_8_method_3_code, 3, (some .int), 0, 1), (6, mv_y98, prog_8_method_25_code, 5, (some .int), 1, 1), (6, mv_y99, prog_8_method_19_code, 4, (some .boolean), 1, 1)]
def mv_prog_5 : List mv_T := [(6, mv_y100, prog_8_method_13_code, 2, (some .boolean), 1, 1), (6, mv_y101, prog_8_method_27_code, 4, (some .int), 1, 1), (6, mv_y102, prog_8_method_20_code, 6, (some .boolean), 1, 1), (6, mv_y103, prog_8_method_14_code, 4, (some .int), 1, 1), (6, mv_y104, prog_8_method_28_code, 4, (some .int), 1, 1), (6, mv_y105, prog_8_method_18_code, 5, (some .boolean), 1, 1), (6, mv_y106, prog_8_method_40_code, 2, (some .int), 1, 1), (6, mv_y107, prog_8_method_32_code, 7, (some .int), 1, 1), (6, mv_y108, prog_8_method_35_code, 3, (some .int), 1, 0), (6, mv_y109, prog_8_method_36_code, 5, (some .boolean), 1, 2), (6, mv_y110, prog_8_method_34_code, 7, (some .boolean), 1, 2), (6, mv_y111, prog_8_method_39_code, 10, (some .int), 1, 0), (6, mv_y112, prog_8_method_37_code, 6, none, 1, 1), (6, mv_y113, prog_8_method_38_code, 7, (some .int), 1, 1), (6, mv_y114, prog_8_method_31_code, 8, none, 1, 1), (6, mv_y115, prog_8_method_30_code, 8, (some .int), 1, 3), (6, mv_y116, prog_8_method_29_code, 3, (some .int), 1, 2), (6, mv_y117, prog_8_method_33_code, 7, (some .boolean), 1, 4), (6, mv_y118, prog_8_method_41_code, 3, (some .int), 1, 2), (6, mv_y119, prog_8_method_42_code, 5, (some .int), 1, 2)]
def mv_prog_6 : List mv_T := [(6, mv_y120, prog_8_method_50_code, 6, (some .long), 1, 2), (6, mv_y121, prog_8_method_45_code, 11, (some .long), 1, 1), (6, mv_y122, prog_8_method_15_code, 4, (some .boolean), 1, 1), (6, mv_y123, prog_8_method_46_code, 8, (some .long), 1, 1), (6, mv_y124, prog_8_method_47_code, 9, (some .long), 1, 1), (6, mv_y125, prog_8_method_43_code, 11, (some .long), 1, 1), (6, mv_y126, prog_8_method_44_code, 6, (some .long), 1, 0), (6, mv_y127, prog_8_method_48_code, 6, (some .long), 1, 0), (6, mv_y128, prog_8_method_21_code, 4, (some .int), 1, 1), (6, mv_y129, prog_8_method_49_code, 5, (some .long), 1, 0), (6, mv_y130, prog_8_method_17_code, 2, (some .boolean), 1, 1), (6, mv_y131, prog_8_method_53_code, 2, (some .int), 1, 1), (6, mv_y132, prog_8_method_52_code, 6, (some .int), 1, 1), (6, mv_y133, prog_8_method_51_code, 3, (some .boolean), 1, 2), (6, mv_y134, prog_8_method_16_code, 2, (some .boolean), 1, 1), (6, mv_y135, prog_8_method_22_code, 4, (some .int), 1, 1), (6, mv_y136, prog_8_method_54_code, 2, (some .int), 1, 1), (6, mv_y137, prog_8_method_55_code, 5, (some .int), 1, 1)]
def mv_prog : List mv_T := mv_prog_0 ++ (mv_prog_1 ++ (mv_prog_2 ++ (mv_prog_3 ++ (mv_prog_4 ++ (mv_prog_5 ++ (mv_prog_6))))))
def mv_mths : List (Nat × Nat × Nat) := [(7, 9, 0), (5, 18, 2), (4, 33, 3), (5, 27, 4), (5, 34, 5), (7, 13, 6), (5, 43, 7), (7, 18, 8), (5, 47, 9), (5, 51, 10), (5, 58, 11), (7, 23, 12), (5, 62, 13), (7, 27, 14), (7, 31, 15), (5, 69, 16), (2, 57, 17), (2, 40, 18), (5, 130, 20), (2, 48, 20), (2, 53, 21), (5, 73, 22), (1, 25, 20), (5, 76, 23), (1, 37, 18), (1, 41, 24), (5, 79, 25), (1, 44, 17), (1, 47, 26), (1, 54, 27), (5, 82, 28), (7, 35, 29), (7, 39, 30), (5, 88, 31), (5, 91, 32), (4, 49, 17), (4, 58, 33), (3, 31, 34), (3, 57, 18), (3, 61, 35), (2, 60, 36), (3, 45, 36), (3, 49, 37), (3, 64, 20), (3, 72, 21), (3, 76, 38), (3, 41, 39), (4, 62, 40), (4, 72, 18), (4, 76, 41), (4, 85, 42), (4, 45, 35), (4, 91, 20), (4, 66, 43), (4, 109, 44), (4, 113, 45), (4, 69, 46), (7, 43, 47), (7, 47, 48), (5, 101, 49), (7, 51, 50), (5, 105, 51), (1, 57, 52), (7, 55, 53), (5, 109, 54), (1, 66, 55), (7, 59, 56), (5, 114, 57), (0, 25, 17), (0, 30, 58), (0, 75, 18), (0, 34, 59), (0, 90, 60), (0, 97, 61), (0, 101, 62), (0, 38, 63), (0, 42, 64), (0, 45, 65), (0, 112, 66), (0, 115, 67), (0, 48, 68), (0, 51, 69), (0, 86, 27), (0, 121, 70), (0, 124, 20), (0, 54, 71), (0, 57, 72), (0, 66, 73), (0, 69, 74), (0, 72, 75), (0, 132, 16), (7, 64, 76), (5, 118, 77), (1, 69, 78), (1, 73, 79), (5, 121, 79), (7, 68, 80), (7, 72, 81), (5, 124, 18), (5, 127, 82), (7, 12, 83), (7, 17, 84), (6, 54, 85), (7, 22, 86), (6, 61, 87), (6, 65, 88), (7, 26, 89), (7, 30, 90), (7, 38, 91), (7, 34, 92), (6, 77, 93), (6, 93, 94), (6, 69, 95), (6, 73, 96), (6, 87, 97), (6, 96, 98), (6, 99, 99), (6, 90, 100), (7, 54, 101), (6, 102, 102), (6, 84, 103), (7, 58, 104), (6, 105, 105), (7, 42, 106), (6, 141, 107), (6, 115, 108), (6, 129, 109), (6, 132, 110), (6, 118, 111), (6, 138, 112), (6, 135, 113), (6, 121, 114), (6, 111, 115), (6, 108, 116), (6, 125, 117), (7, 46, 118), (7, 50, 119), (7, 63, 120), (6, 153, 121), (6, 81, 122), (6, 157, 123), (6, 161, 124), (6, 163, 125), (6, 166, 126), (6, 170, 127), (6, 148, 128), (6, 173, 129), (6, 176, 130), (7, 67, 131), (6, 191, 132), (6, 185, 133), (6, 179, 134), (6, 188, 135), (7, 71, 136), (7, 75, 137)]
def mv_nest : List (Nat × Nat × Nat) := [(5, 11, 1), (2, 44, 19), (3, 69, 19), (0, 108, 19)]
def mv_news : List (Nat × Nat × Nat) := [(7, 7, 5), (5, 9, 2), (5, 16, 4), (4, 31, 3), (5, 25, 1), (5, 32, 0), (7, 10, 6)]
def mv_ldcs : List (Nat × Nat × Int32) := [(8, 265, 1431655765), (8, 266, 858993459), (8, 267, 252645135)]
def mv_ldc2 : List (Nat × Nat × Int64) := [(5, 112, -2), (0, 119, 2), (6, 151, -2), (6, 146, 2), (6, 144, -1)]
def mv_objs : List (Nat × Nat) := [(5, 3), (2, 3), (4, 3), (3, 3), (1, 3), (0, 3), (6, 1)]
def mv_maths : List (Nat × Nat × Nat) := [(1, 31, 0), (3, 52, 0), (3, 79, 1), (4, 88, 0), (4, 80, 1), (0, 60, 2)]
def mv_mn (k : Nat) : MethodName := match k with
  | 0 => Lib.Math.max.name
  | 1 => Lib.Math.min.name
  | _ => Lib.MathLoose.abs_long.x
def mv_Ts8 : List Cond := mv_maths.map (fun f => Cond.methodLink (mv_nm f.1) f.2.1 (mv_mn f.2.2)) ++ [Cond.static Lib.Math.max.name, Cond.static Lib.Math.min.name, Cond.static Lib.MathLoose.abs_long.x]
def mv_Ts9 : List Cond := [Cond.code Lib.Math.max.name Lib.Math.max.code 2 (some .int), Cond.code Lib.Math.min.name Lib.Math.min.code 2 (some .int), Cond.code Lib.MathLoose.abs_long.x Lib.MathLoose.abs_long.code 2 (some .long)]
def mv_cl (c : Nat) : vw_C := vwCl.getD c (RX6, TX6, 16)
def mv_y (j : Nat) : MethodName := match mv_prog[j]? with
  | some M => M.2.1
  | none => mv_y0
def mv_kw (M : mv_T) : List Cond := match M.2.2.2.2.2.1 with
  | 0 => [.static M.2.1]
  | 1 => [.instanceMethod M.2.1, .selects (mv_nm M.1) M.2.1 M.2.1]
  | _ => [.instanceMethod M.2.1]
/-- all words that the methods rest on, but the two lists of 'arrayClass' and the nest links -/
def mv_Ts1 : List Cond := mv_flds.map (fun f => Cond.fieldLink (mv_nm f.1) f.2.1 ((mv_cl f.2.2.1).2.1 f.2.2.2).1 ((mv_cl f.2.2.1).2.1 f.2.2.2).2.1 ((mv_cl f.2.2.1).2.1 f.2.2.2).2.2.1)
def mv_Ts2 : List Cond := mv_mths.map (fun f => Cond.methodLink (mv_nm f.1) f.2.1 (mv_y f.2.2))
def mv_Ts3 : List Cond := mv_prog.map (fun M => Cond.code M.2.1 M.2.2.1 M.2.2.2.1 M.2.2.2.2.1)
def mv_Ts4 : List Cond := mv_prog.flatMap mv_kw
def mv_Ts5 : List Cond := mv_news.map (fun f => Cond.classLink (mv_nm f.1) f.2.1 (mv_nm f.2.2)) ++ (List.range 7).map (fun c => Cond.instantiable (mv_nm c) (mv_cl c).2.2) ++ (List.range 10).map (fun c => Cond.initialized (mv_nm c)) ++ mv_ldcs.map (fun f => Cond.constant (mv_nm f.1) f.2.1 f.2.2) ++ mv_ldc2.map (fun f => Cond.constantLong (mv_nm f.1) f.2.1 f.2.2) ++ mv_objs.map (fun f => Cond.methodLink (mv_nm f.1) f.2 objectInit) ++ [Cond.instanceMethod objectInit, Cond.arrayClass .int, Cond.arrayClass .long, Cond.classLink "BagTrees$Orders" 9 "[[I"]
def mv_Ts6 : List Cond := vwCl.flatMap (fun q => u_ws q.1 q.2.1 q.2.2)
def mv_Ts7 : List Cond := [Cond.code objectInit ⟨#[0xb1]⟩ 1 none]
def mv_Ts : List Cond := mv_Ts1 ++ (mv_Ts2 ++ (mv_Ts3 ++ (mv_Ts4 ++ (mv_Ts5 ++ (mv_Ts6 ++ (mv_Ts7 ++ (mv_Ts8 ++ mv_Ts9)))))))
set_option maxRecDepth 100000 in
theorem mv_in1 : ∀ w ∈ mv_Ts1, w ∈ lw_tbl := by
  have h : mv_Ts1 = ([94, 95, 96, 97, 98, 99, 100, 101, 102, 103, 104, 105, 106, 107, 108, 109, 110, 111, 112, 113, 114, 115, 116, 117, 118, 119, 120, 121, 122, 123, 158, 159, 160, 161, 162, 163, 177, 178, 179, 180, 181, 182, 183, 184, 185, 207, 217, 218, 219, 220, 231, 232, 233, 234, 592, 593, 594, 595, 596, 597, 598, 599, 600, 601, 602, 603, 604, 605, 606, 607] : List Nat).filterMap (fun i => lw_tbl[i]?) := by rfl
  intro w hw
  rw [h] at hw
  obtain ⟨i, -, hi⟩ := List.mem_filterMap.mp hw
  exact List.mem_of_getElem? hi
set_option maxRecDepth 100000 in
theorem mv_ok1 : mv_Ts1.all goodWord = true := by decide +kernel
set_option maxRecDepth 100000 in
theorem mv_in2 : ∀ w ∈ mv_Ts2, w ∈ lw_tbl := by
  have h : mv_Ts2 = ([82, 146, 154, 203, 213, 244, 248, 252, 256, 260, 264, 268, 272, 276, 280, 284, 288, 292, 299, 305, 306, 309, 313, 317, 321, 322, 326, 330, 331, 335, 339, 343, 347, 351, 354, 358, 359, 363, 367, 368, 372, 376, 377, 382, 384, 385, 392, 396, 400, 401, 405, 409, 410, 413, 417, 421, 425, 429, 433, 437, 441, 445, 449, 453, 457, 461, 465, 470, 474, 475, 479, 480, 484, 488, 492, 497, 501, 505, 509, 513, 518, 522, 526, 527, 531, 532, 536, 543, 547, 551, 555, 556, 560, 564, 568, 572, 573, 577, 581, 582, 588, 641, 645, 648, 652, 656, 660, 664, 668, 672, 676, 680, 684, 687, 691, 694, 698, 702, 706, 710, 714, 718, 722, 726, 730, 734, 738, 742, 746, 750, 754, 758, 762, 766, 770, 774, 778, 782, 787, 791, 795, 799, 804, 809, 813, 817, 821, 825, 829, 833, 837, 841, 845, 849, 853] : List Nat).filterMap (fun i => lw_tbl[i]?) := by rfl
  intro w hw
  rw [h] at hw
  obtain ⟨i, -, hi⟩ := List.mem_filterMap.mp hw
  exact List.mem_of_getElem? hi
set_option maxRecDepth 100000 in
theorem mv_ok2 : mv_Ts2.all goodWord = true := by decide +kernel
set_option maxRecDepth 100000 in
theorem mv_in3 : ∀ w ∈ mv_Ts3, w ∈ lw_tbl := by
  have h : mv_Ts3 = ([84, 92, 148, 156, 205, 215, 247, 251, 255, 259, 263, 267, 271, 275, 279, 283, 287, 291, 295, 298, 301, 308, 312, 320, 325, 329, 334, 338, 342, 346, 350, 353, 357, 362, 366, 371, 375, 380, 388, 395, 399, 404, 408, 416, 420, 424, 428, 432, 436, 440, 444, 448, 452, 456, 460, 464, 468, 473, 478, 483, 487, 491, 495, 500, 504, 508, 512, 516, 521, 525, 530, 535, 539, 546, 550, 554, 559, 563, 567, 571, 576, 580, 585, 590, 644, 647, 651, 655, 659, 663, 667, 671, 675, 679, 683, 686, 690, 693, 697, 701, 705, 709, 713, 717, 721, 725, 729, 733, 737, 741, 745, 749, 753, 757, 761, 765, 769, 773, 777, 781, 785, 790, 794, 798, 802, 807, 812, 816, 820, 824, 828, 832, 836, 840, 844, 848, 852, 856] : List Nat).filterMap (fun i => lw_tbl[i]?) := by rfl
  intro w hw
  rw [h] at hw
  obtain ⟨i, -, hi⟩ := List.mem_filterMap.mp hw
  exact List.mem_of_getElem? hi
set_option maxRecDepth 100000 in
theorem mv_ok3 : mv_Ts3.all goodWord = true := by decide +kernel
set_option maxRecDepth 100000 in
theorem mv_in4 : ∀ w ∈ mv_Ts4, w ∈ lw_tbl := by
  have h : mv_Ts4 = ([83, 91, 147, 155, 204, 214, 245, 246, 249, 250, 253, 254, 257, 258, 261, 262, 265, 266, 269, 270, 273, 274, 277, 278, 281, 282, 285, 286, 289, 290, 293, 294, 297, 300, 307, 310, 311, 318, 319, 324, 0, 327, 328, 333, 1, 336, 337, 340, 341, 344, 345, 348, 349, 352, 355, 356, 360, 361, 365, 2, 369, 370, 373, 374, 379, 3, 387, 4, 394, 5, 398, 6, 403, 7, 407, 8, 415, 9, 419, 10, 423, 11, 427, 12, 430, 431, 434, 435, 438, 439, 442, 443, 446, 447, 451, 13, 454, 455, 458, 459, 463, 14, 466, 467, 471, 472, 477, 15, 482, 16, 486, 17, 490, 18, 494, 19, 499, 20, 503, 21, 507, 22, 511, 23, 515, 24, 520, 25, 524, 26, 529, 27, 534, 28, 538, 29, 545, 30, 549, 31, 553, 32, 557, 558, 561, 562, 566, 33, 569, 570, 574, 575, 578, 579, 583, 584, 589, 642, 643, 646, 649, 650, 654, 34, 658, 35, 661, 662, 665, 666, 669, 670, 673, 674, 678, 36, 682, 37, 685, 689, 38, 692, 696, 39, 700, 40, 704, 41, 707, 708, 712, 42, 716, 43, 719, 720, 724, 44, 727, 728, 732, 45, 736, 46, 740, 47, 744, 48, 748, 49, 752, 50, 756, 51, 760, 52, 764, 53, 768, 54, 772, 55, 775, 776, 779, 780, 783, 784, 789, 56, 793, 57, 797, 58, 801, 59, 806, 60, 811, 61, 815, 62, 819, 63, 823, 64, 827, 65, 830, 831, 835, 66, 839, 67, 843, 68, 847, 69, 850, 851, 854, 855] : List Nat).filterMap (fun i => lw_tbl[i]?) := by rfl
  intro w hw
  rw [h] at hw
  obtain ⟨i, -, hi⟩ := List.mem_filterMap.mp hw
  exact List.mem_of_getElem? hi
set_option maxRecDepth 100000 in
theorem mv_ok4 : mv_Ts4.all goodWord = true := by decide +kernel
set_option maxRecDepth 100000 in
theorem mv_in5 : ∀ w ∈ mv_Ts5, w ∈ lw_tbl := by
  have h : mv_Ts5 = ([80, 88, 144, 152, 201, 211, 586, 212, 202, 89, 153, 145, 81, 587, 76, 75, 72, 74, 73, 71, 77, 70, 78, 79, 302, 303, 304, 469, 517, 786, 803, 808, 85, 93, 149, 157, 206, 216, 591, 86, 143, 230, 150] : List Nat).filterMap (fun i => lw_tbl[i]?) := by rfl
  intro w hw
  rw [h] at hw
  obtain ⟨i, -, hi⟩ := List.mem_filterMap.mp hw
  exact List.mem_of_getElem? hi
set_option maxRecDepth 100000 in
theorem mv_ok5 : mv_Ts5.all goodWord = true := by decide +kernel
set_option maxRecDepth 100000 in
theorem mv_in6 : ∀ w ∈ mv_Ts6, w ∈ lw_tbl := by
  have h : mv_Ts6 = ([221, 223, 225, 227, 208, 124, 126, 128, 130, 132, 134, 136, 138, 140, 164, 166, 168, 170, 172, 174, 186, 188, 190, 192, 194, 196, 198, 235, 237, 239, 241, 608, 610, 612, 614, 616, 618, 620, 622, 624, 626, 628, 630, 632, 634, 636, 638] : List Nat).filterMap (fun i => lw_tbl[i]?) := by rfl
  intro w hw
  rw [h] at hw
  obtain ⟨i, -, hi⟩ := List.mem_filterMap.mp hw
  exact List.mem_of_getElem? hi
set_option maxRecDepth 100000 in
theorem mv_ok6 : mv_Ts6.all goodWord = true := by decide +kernel
set_option maxRecDepth 100000 in
theorem mv_in7 : ∀ w ∈ mv_Ts7, w ∈ lw_tbl := by
  have h : mv_Ts7 = ([87] : List Nat).filterMap (fun i => lw_tbl[i]?) := by rfl
  intro w hw
  rw [h] at hw
  obtain ⟨i, -, hi⟩ := List.mem_filterMap.mp hw
  exact List.mem_of_getElem? hi
set_option maxRecDepth 100000 in
theorem mv_ok7 : mv_Ts7.all goodWord = true := by decide +kernel
set_option maxRecDepth 100000 in
theorem mv_in8 : ∀ w ∈ mv_Ts8, w ∈ lw_tbl := by
  have h : mv_Ts8 = ([314, 381, 389, 411, 412, 540, 315, 390, 541] : List Nat).filterMap (fun i => lw_tbl[i]?) := by rfl
  intro w hw
  rw [h] at hw
  obtain ⟨i, -, hi⟩ := List.mem_filterMap.mp hw
  exact List.mem_of_getElem? hi
set_option maxRecDepth 100000 in
theorem mv_ok8 : mv_Ts8.all goodWord = true := by decide +kernel
set_option maxRecDepth 100000 in
theorem mv_in9 : ∀ w ∈ mv_Ts9, w ∈ lw_tbl := by
  have h : mv_Ts9 = ([316, 391, 542] : List Nat).filterMap (fun i => lw_tbl[i]?) := by rfl
  intro w hw
  rw [h] at hw
  obtain ⟨i, -, hi⟩ := List.mem_filterMap.mp hw
  exact List.mem_of_getElem? hi
set_option maxRecDepth 100000 in
theorem mv_ok9 : mv_Ts9.all goodWord = true := by decide +kernel
theorem mv_in : ∀ w ∈ mv_Ts, w ∈ lw_tbl := by
  unfold mv_Ts
  intro w hw
  simp only [List.mem_append] at hw
  rcases hw with h | h | h | h | h | h | h | h | h
  · exact mv_in1 w h
  · exact mv_in2 w h
  · exact mv_in3 w h
  · exact mv_in4 w h
  · exact mv_in5 w h
  · exact mv_in6 w h
  · exact mv_in7 w h
  · exact mv_in8 w h
  · exact mv_in9 w h
theorem mv_ok : mv_Ts.all goodWord = true := by
  unfold mv_Ts
  simp only [List.all_append, mv_ok1, mv_ok2, mv_ok3, mv_ok4, mv_ok5, mv_ok6, mv_ok7, mv_ok8, mv_ok9, Bool.and_self]
