/-! ===== BEGIN printed: names, fields, word lists, decode rows ===== -/
def RX0 : String := "Swervewright$Arcs"
def TX0 : u_T := fun k => match k with
  | 0 => ("Swervewright$Arcs", "xs", "[I", true)
  | _ => ("Swervewright$Arcs", "ys", "[I", true)
def tyX0 : Nat → FieldType := fun k => match k with
  | 0 => .array .int
  | _ => .array .int
abbrev wsX00 : List Cond := u_ws RX0 TX0 2
theorem nmX0 : ∀ a, a < 2 → ∀ b, b < 2 → a ≠ b → (TX0 a).2.1 ≠ (TX0 b).2.1 := by decide +kernel
theorem tyX0_ok : ∀ k, k < 2 → parseFieldDescriptor (TX0 k).2.2.1 = some (tyX0 k) := by decide +kernel
abbrev cX0_init : ByteArray := prog_2_method_1_code
def yX0_init : MethodName := ⟨RX0, "<init>", "()V"⟩
abbrev cX0_fill : ByteArray := prog_2_method_2_code
def yX0_fill : MethodName := ⟨RX0, "fill", "(II)V"⟩
abbrev cX0_placeOf : ByteArray := prog_2_method_3_code
def yX0_placeOf : MethodName := ⟨RX0, "placeOf", "(III)I"⟩
abbrev cX0_x : ByteArray := prog_2_method_4_code
def yX0_x : MethodName := ⟨RX0, "x", "(III)I"⟩
abbrev cX0_y : ByteArray := prog_2_method_5_code
def yX0_y : MethodName := ⟨RX0, "y", "(III)I"⟩
def RX1 : String := "Swervewright$Field"
def TX1 : u_T := fun k => match k with
  | 0 => ("Swervewright$Field", "polygons", "[LSwervewright$Polygon;", true)
  | 1 => ("Swervewright$Field", "polygonCount", "I", false)
  | 2 => ("Swervewright$Field", "covers", "[I", true)
  | 3 => ("Swervewright$Field", "clears", "[I", true)
  | 4 => ("Swervewright$Field", "opens", "[Z", true)
  | 5 => ("Swervewright$Field", "front", "I", false)
  | _ => ("Swervewright$Field", "behind", "I", false)
def tyX1 : Nat → FieldType := fun k => match k with
  | 0 => .array (.object "Swervewright$Polygon")
  | 1 => .int
  | 2 => .array .int
  | 3 => .array .int
  | 4 => .array .boolean
  | 5 => .int
  | _ => .int
abbrev wsX10 : List Cond := u_ws RX1 TX1 7
theorem nmX1 : ∀ a, a < 7 → ∀ b, b < 7 → a ≠ b → (TX1 a).2.1 ≠ (TX1 b).2.1 := by decide +kernel
theorem tyX1_ok : ∀ k, k < 7 → parseFieldDescriptor (TX1 k).2.2.1 = some (tyX1 k) := by decide +kernel
abbrev cX1_init : ByteArray := prog_3_method_1_code
def yX1_init : MethodName := ⟨RX1, "<init>", "()V"⟩
abbrev cX1_polygonCount : ByteArray := prog_3_method_2_code
def yX1_polygonCount : MethodName := ⟨RX1, "polygonCount", "()I"⟩
abbrev cX1_isGone : ByteArray := prog_3_method_3_code
def yX1_isGone : MethodName := ⟨RX1, "isGone", "(I)Z"⟩
abbrev cX1_add : ByteArray := prog_3_method_4_code
def yX1_add : MethodName := ⟨RX1, "add", "(LSwervewright$Polygon;)I"⟩
abbrev cX1_remove : ByteArray := prog_3_method_5_code
def yX1_remove : MethodName := ⟨RX1, "remove", "(I)I"⟩
abbrev cX1_cover : ByteArray := prog_3_method_6_code
def yX1_cover : MethodName := ⟨RX1, "cover", "(LSwervewright$Polygon;I)I"⟩
abbrev cX1_setVehicle : ByteArray := prog_3_method_7_code
def yX1_setVehicle : MethodName := ⟨RX1, "setVehicle", "(II)V"⟩
abbrev cX1_survey : ByteArray := prog_3_method_8_code
def yX1_survey : MethodName := ⟨RX1, "survey", "()V"⟩
abbrev cX1_measureClears : ByteArray := prog_3_method_9_code
def yX1_measureClears : MethodName := ⟨RX1, "measureClears", "()V"⟩
abbrev cX1_nearTo : ByteArray := prog_3_method_10_code
def yX1_nearTo : MethodName := ⟨RX1, "nearTo", "(III)V"⟩
abbrev cX1_judgePoses : ByteArray := prog_3_method_11_code
def yX1_judgePoses : MethodName := ⟨RX1, "judgePoses", "()V"⟩
abbrev cX1_isClear : ByteArray := prog_3_method_12_code
def yX1_isClear : MethodName := ⟨RX1, "isClear", "(III)Z"⟩
abbrev cX1_isBlocked : ByteArray := prog_3_method_13_code
def yX1_isBlocked : MethodName := ⟨RX1, "isBlocked", "(I)Z"⟩
abbrev cX1_clearOf : ByteArray := prog_3_method_14_code
def yX1_clearOf : MethodName := ⟨RX1, "clearOf", "(I)I"⟩
abbrev cX1_isOpen : ByteArray := prog_3_method_15_code
def yX1_isOpen : MethodName := ⟨RX1, "isOpen", "(I)Z"⟩
abbrev cX1_driven : ByteArray := prog_3_method_16_code
def yX1_driven : MethodName := ⟨RX1, "driven", "(II)I"⟩
abbrev cX1_canDrive : ByteArray := prog_3_method_17_code
def yX1_canDrive : MethodName := ⟨RX1, "canDrive", "(LSwervewright$Route;)Z"⟩
def RX2 : String := "Swervewright$Lattice"
def TX2 : u_T := fun k => match k with
  | _ => ("", "", "", false)
def tyX2 : Nat → FieldType := fun k => match k with
  | _ => .int
abbrev wsX20 : List Cond := u_ws RX2 TX2 0
theorem nmX2 : ∀ a, a < 0 → ∀ b, b < 0 → a ≠ b → (TX2 a).2.1 ≠ (TX2 b).2.1 := by decide +kernel
theorem tyX2_ok : ∀ k, k < 0 → parseFieldDescriptor (TX2 k).2.2.1 = some (tyX2 k) := by decide +kernel
abbrev cX2_numberOf : ByteArray := prog_4_method_2_code
def yX2_numberOf : MethodName := ⟨RX2, "numberOf", "(III)I"⟩
abbrev cX2_xOf : ByteArray := prog_4_method_3_code
def yX2_xOf : MethodName := ⟨RX2, "xOf", "(I)I"⟩
abbrev cX2_yOf : ByteArray := prog_4_method_4_code
def yX2_yOf : MethodName := ⟨RX2, "yOf", "(I)I"⟩
abbrev cX2_cellOf : ByteArray := prog_4_method_5_code
def yX2_cellOf : MethodName := ⟨RX2, "cellOf", "(I)I"⟩
abbrev cX2_headingOf : ByteArray := prog_4_method_6_code
def yX2_headingOf : MethodName := ⟨RX2, "headingOf", "(I)I"⟩
abbrev cX2_stepX : ByteArray := prog_4_method_7_code
def yX2_stepX : MethodName := ⟨RX2, "stepX", "(I)I"⟩
abbrev cX2_stepY : ByteArray := prog_4_method_8_code
def yX2_stepY : MethodName := ⟨RX2, "stepY", "(I)I"⟩
abbrev cX2_isEven : ByteArray := prog_4_method_9_code
def yX2_isEven : MethodName := ⟨RX2, "isEven", "(I)Z"⟩
abbrev cX2_isBack : ByteArray := prog_4_method_10_code
def yX2_isBack : MethodName := ⟨RX2, "isBack", "(I)Z"⟩
abbrev cX2_wayOf : ByteArray := prog_4_method_11_code
def yX2_wayOf : MethodName := ⟨RX2, "wayOf", "(I)I"⟩
abbrev cX2_isArc : ByteArray := prog_4_method_12_code
def yX2_isArc : MethodName := ⟨RX2, "isArc", "(I)Z"⟩
abbrev cX2_turnOf : ByteArray := prog_4_method_13_code
def yX2_turnOf : MethodName := ⟨RX2, "turnOf", "(I)I"⟩
abbrev cX2_oppositeOf : ByteArray := prog_4_method_14_code
def yX2_oppositeOf : MethodName := ⟨RX2, "oppositeOf", "(I)I"⟩
abbrev cX2_isCusp : ByteArray := prog_4_method_15_code
def yX2_isCusp : MethodName := ⟨RX2, "isCusp", "(II)Z"⟩
abbrev cX2_stepped : ByteArray := prog_4_method_16_code
def yX2_stepped : MethodName := ⟨RX2, "stepped", "(II)I"⟩
abbrev cX2_turned : ByteArray := prog_4_method_17_code
def yX2_turned : MethodName := ⟨RX2, "turned", "(II)I"⟩
abbrev cX2_ended : ByteArray := prog_4_method_18_code
def yX2_ended : MethodName := ⟨RX2, "ended", "(II)I"⟩
abbrev cX2_stepsCost : ByteArray := prog_4_method_19_code
def yX2_stepsCost : MethodName := ⟨RX2, "stepsCost", "(II)I"⟩
def RX3 : String := "Swervewright$Pace"
def TX3 : u_T := fun k => match k with
  | 0 => ("Swervewright$Pace", "straight", "I", false)
  | 1 => ("Swervewright$Pace", "arc", "I", false)
  | 2 => ("Swervewright$Pace", "faster", "I", false)
  | 3 => ("Swervewright$Pace", "slower", "I", false)
  | _ => ("Swervewright$Pace", "squares", "[F", false)
def tyX3 : Nat → FieldType := fun k => match k with
  | 0 => .int
  | 1 => .int
  | 2 => .int
  | 3 => .int
  | _ => .array .float
abbrev wsX30 : List Cond := u_ws RX3 TX3 5
theorem nmX3 : ∀ a, a < 5 → ∀ b, b < 5 → a ≠ b → (TX3 a).2.1 ≠ (TX3 b).2.1 := by decide +kernel
theorem tyX3_ok : ∀ k, k < 5 → parseFieldDescriptor (TX3 k).2.2.1 = some (tyX3 k) := by decide +kernel
abbrev cX3_init : ByteArray := prog_5_method_1_code
def yX3_init : MethodName := ⟨RX3, "<init>", "()V"⟩
abbrev cX3_set : ByteArray := prog_5_method_2_code
def yX3_set : MethodName := ⟨RX3, "set", "(IIII)V"⟩
abbrev cX3_squareAt : ByteArray := prog_5_method_3_code
def yX3_squareAt : MethodName := ⟨RX3, "squareAt", "(I)F"⟩
abbrev cX3_put : ByteArray := prog_5_method_4_code
def yX3_put : MethodName := ⟨RX3, "put", "(IF)V"⟩
abbrev cX3_reckon : ByteArray := prog_5_method_5_code
def yX3_reckon : MethodName := ⟨RX3, "reckon", "(LSwervewright$Route;)V"⟩
abbrev cX3_greatest : ByteArray := prog_5_method_6_code
def yX3_greatest : MethodName := ⟨RX3, "greatest", "(LSwervewright$Route;)F"⟩
abbrev cX3_isRest : ByteArray := prog_5_method_7_code
def yX3_isRest : MethodName := ⟨RX3, "isRest", "(LSwervewright$Route;I)Z"⟩
abbrev cX3_fromBefore : ByteArray := prog_5_method_8_code
def yX3_fromBefore : MethodName := ⟨RX3, "fromBefore", "(LSwervewright$Route;I)F"⟩
abbrev cX3_limitOf : ByteArray := prog_5_method_9_code
def yX3_limitOf : MethodName := ⟨RX3, "limitOf", "(I)F"⟩
abbrev cX3_change : ByteArray := prog_5_method_10_code
def yX3_change : MethodName := ⟨RX3, "change", "(LSwervewright$Route;II)F"⟩
abbrev cX3_lengthOf : ByteArray := prog_5_method_11_code
def yX3_lengthOf : MethodName := ⟨RX3, "lengthOf", "(II)F"⟩
abbrev cX3_lesser : ByteArray := prog_5_method_12_code
def yX3_lesser : MethodName := ⟨RX3, "lesser", "(FF)F"⟩
def RX4 : String := "Swervewright$Polygon"
def TX4 : u_T := fun k => match k with
  | 0 => ("Swervewright$Polygon", "xs", "[I", true)
  | 1 => ("Swervewright$Polygon", "ys", "[I", true)
  | _ => ("Swervewright$Polygon", "count", "I", false)
def tyX4 : Nat → FieldType := fun k => match k with
  | 0 => .array .int
  | 1 => .array .int
  | _ => .int
abbrev wsX40 : List Cond := u_ws RX4 TX4 3
theorem nmX4 : ∀ a, a < 3 → ∀ b, b < 3 → a ≠ b → (TX4 a).2.1 ≠ (TX4 b).2.1 := by decide +kernel
theorem tyX4_ok : ∀ k, k < 3 → parseFieldDescriptor (TX4 k).2.2.1 = some (tyX4 k) := by decide +kernel
abbrev cX4_init : ByteArray := prog_6_method_1_code
def yX4_init : MethodName := ⟨RX4, "<init>", "()V"⟩
abbrev cX4_count : ByteArray := prog_6_method_2_code
def yX4_count : MethodName := ⟨RX4, "count", "()I"⟩
abbrev cX4_clear : ByteArray := prog_6_method_3_code
def yX4_clear : MethodName := ⟨RX4, "clear", "()V"⟩
abbrev cX4_add : ByteArray := prog_6_method_4_code
def yX4_add : MethodName := ⟨RX4, "add", "(II)V"⟩
abbrev cX4_xAt : ByteArray := prog_6_method_5_code
def yX4_xAt : MethodName := ⟨RX4, "xAt", "(I)I"⟩
abbrev cX4_yAt : ByteArray := prog_6_method_6_code
def yX4_yAt : MethodName := ⟨RX4, "yAt", "(I)I"⟩
abbrev cX4_blocks : ByteArray := prog_6_method_7_code
def yX4_blocks : MethodName := ⟨RX4, "blocks", "(II)Z"⟩
abbrev cX4_isCrossed : ByteArray := prog_6_method_8_code
def yX4_isCrossed : MethodName := ⟨RX4, "isCrossed", "(IIII)Z"⟩
def RX5 : String := "Swervewright$Prices"
def TX5 : u_T := fun k => match k with
  | 0 => ("Swervewright$Prices", "field", "LSwervewright$Field;", true)
  | 1 => ("Swervewright$Prices", "cuspCost", "I", false)
  | _ => ("Swervewright$Prices", "marginCells", "I", false)
def tyX5 : Nat → FieldType := fun k => match k with
  | 0 => .object "Swervewright$Field"
  | 1 => .int
  | _ => .int
abbrev wsX50 : List Cond := u_ws RX5 TX5 3
theorem nmX5 : ∀ a, a < 3 → ∀ b, b < 3 → a ≠ b → (TX5 a).2.1 ≠ (TX5 b).2.1 := by decide +kernel
theorem tyX5_ok : ∀ k, k < 3 → parseFieldDescriptor (TX5 k).2.2.1 = some (tyX5 k) := by decide +kernel
abbrev cX5_init : ByteArray := prog_7_method_1_code
def yX5_init : MethodName := ⟨RX5, "<init>", "(LSwervewright$Field;)V"⟩
abbrev cX5_setCuspCost : ByteArray := prog_7_method_2_code
def yX5_setCuspCost : MethodName := ⟨RX5, "setCuspCost", "(I)I"⟩
abbrev cX5_setMarginCells : ByteArray := prog_7_method_3_code
def yX5_setMarginCells : MethodName := ⟨RX5, "setMarginCells", "(I)I"⟩
abbrev cX5_turnaround : ByteArray := prog_7_method_4_code
def yX5_turnaround : MethodName := ⟨RX5, "turnaround", "(II)I"⟩
abbrev cX5_cuspCost : ByteArray := prog_7_method_5_code
def yX5_cuspCost : MethodName := ⟨RX5, "cuspCost", "()I"⟩
abbrev cX5_ofMove : ByteArray := prog_7_method_6_code
def yX5_ofMove : MethodName := ⟨RX5, "ofMove", "(III)I"⟩
abbrev cX5_costOf : ByteArray := prog_7_method_7_code
def yX5_costOf : MethodName := ⟨RX5, "costOf", "(LSwervewright$Route;)I"⟩
abbrev cX5_between : ByteArray := prog_7_method_8_code
def yX5_between : MethodName := ⟨RX5, "between", "(LSwervewright$Route;II)I"⟩
def RX6 : String := "Swervewright$Queue"
def TX6 : u_T := fun k => match k with
  | 0 => ("Swervewright$Queue", "costs", "[I", true)
  | 1 => ("Swervewright$Queue", "after", "[I", true)
  | 2 => ("Swervewright$Queue", "ahead", "[I", true)
  | 3 => ("Swervewright$Queue", "firsts", "[I", true)
  | 4 => ("Swervewright$Queue", "waiting", "I", false)
  | _ => ("Swervewright$Queue", "level", "I", false)
def tyX6 : Nat → FieldType := fun k => match k with
  | 0 => .array .int
  | 1 => .array .int
  | 2 => .array .int
  | 3 => .array .int
  | 4 => .int
  | _ => .int
abbrev wsX60 : List Cond := u_ws RX6 TX6 6
theorem nmX6 : ∀ a, a < 6 → ∀ b, b < 6 → a ≠ b → (TX6 a).2.1 ≠ (TX6 b).2.1 := by decide +kernel
theorem tyX6_ok : ∀ k, k < 6 → parseFieldDescriptor (TX6 k).2.2.1 = some (tyX6 k) := by decide +kernel
abbrev cX6_init : ByteArray := prog_8_method_1_code
def yX6_init : MethodName := ⟨RX6, "<init>", "()V"⟩
abbrev cX6_clear : ByteArray := prog_8_method_2_code
def yX6_clear : MethodName := ⟨RX6, "clear", "()V"⟩
abbrev cX6_isState : ByteArray := prog_8_method_3_code
def yX6_isState : MethodName := ⟨RX6, "isState", "(I)Z"⟩
abbrev cX6_costOf : ByteArray := prog_8_method_4_code
def yX6_costOf : MethodName := ⟨RX6, "costOf", "(I)I"⟩
abbrev cX6_lower : ByteArray := prog_8_method_5_code
def yX6_lower : MethodName := ⟨RX6, "lower", "(II)V"⟩
abbrev cX6_take : ByteArray := prog_8_method_6_code
def yX6_take : MethodName := ⟨RX6, "take", "()I"⟩
abbrev cX6_link : ByteArray := prog_8_method_7_code
def yX6_link : MethodName := ⟨RX6, "link", "(I)V"⟩
abbrev cX6_unlink : ByteArray := prog_8_method_8_code
def yX6_unlink : MethodName := ⟨RX6, "unlink", "(I)V"⟩
def RX7 : String := "Swervewright$Route"
def TX7 : u_T := fun k => match k with
  | 0 => ("Swervewright$Route", "poses", "[I", false)
  | 1 => ("Swervewright$Route", "moves", "[I", false)
  | _ => ("Swervewright$Route", "count", "I", false)
def tyX7 : Nat → FieldType := fun k => match k with
  | 0 => .array .int
  | 1 => .array .int
  | _ => .int
abbrev wsX70 : List Cond := u_ws RX7 TX7 3
theorem nmX7 : ∀ a, a < 3 → ∀ b, b < 3 → a ≠ b → (TX7 a).2.1 ≠ (TX7 b).2.1 := by decide +kernel
theorem tyX7_ok : ∀ k, k < 3 → parseFieldDescriptor (TX7 k).2.2.1 = some (tyX7 k) := by decide +kernel
abbrev cX7_init : ByteArray := prog_9_method_1_code
def yX7_init : MethodName := ⟨RX7, "<init>", "()V"⟩
abbrev cX7_count : ByteArray := prog_9_method_2_code
def yX7_count : MethodName := ⟨RX7, "count", "()I"⟩
abbrev cX7_restart : ByteArray := prog_9_method_3_code
def yX7_restart : MethodName := ⟨RX7, "restart", "(I)V"⟩
abbrev cX7_cutAt : ByteArray := prog_9_method_4_code
def yX7_cutAt : MethodName := ⟨RX7, "cutAt", "(I)V"⟩
abbrev cX7_add : ByteArray := prog_9_method_5_code
def yX7_add : MethodName := ⟨RX7, "add", "(II)V"⟩
abbrev cX7_grow : ByteArray := prog_9_method_6_code
def yX7_grow : MethodName := ⟨RX7, "grow", "()V"⟩
abbrev cX7_copied : ByteArray := prog_9_method_7_code
def yX7_copied : MethodName := ⟨RX7, "copied", "()LSwervewright$Route;"⟩
abbrev cX7_addFrom : ByteArray := prog_9_method_8_code
def yX7_addFrom : MethodName := ⟨RX7, "addFrom", "(LSwervewright$Route;I)V"⟩
abbrev cX7_moveAt : ByteArray := prog_9_method_9_code
def yX7_moveAt : MethodName := ⟨RX7, "moveAt", "(I)I"⟩
abbrev cX7_poseAt : ByteArray := prog_9_method_10_code
def yX7_poseAt : MethodName := ⟨RX7, "poseAt", "(I)I"⟩
abbrev cX7_lastMove : ByteArray := prog_9_method_11_code
def yX7_lastMove : MethodName := ⟨RX7, "lastMove", "()I"⟩
abbrev cX7_lastPose : ByteArray := prog_9_method_12_code
def yX7_lastPose : MethodName := ⟨RX7, "lastPose", "()I"⟩
abbrev cX7_isCuspAt : ByteArray := prog_9_method_13_code
def yX7_isCuspAt : MethodName := ⟨RX7, "isCuspAt", "(I)Z"⟩
abbrev cX7_cuspCount : ByteArray := prog_9_method_14_code
def yX7_cuspCount : MethodName := ⟨RX7, "cuspCount", "()I"⟩
abbrev cX7_segmentCount : ByteArray := prog_9_method_15_code
def yX7_segmentCount : MethodName := ⟨RX7, "segmentCount", "()I"⟩
abbrev cX7_segmentStart : ByteArray := prog_9_method_16_code
def yX7_segmentStart : MethodName := ⟨RX7, "segmentStart", "(I)I"⟩
abbrev cX7_alikeFrom : ByteArray := prog_9_method_17_code
def yX7_alikeFrom : MethodName := ⟨RX7, "alikeFrom", "(I)I"⟩
def RX8 : String := "Swervewright$Shortener"
def TX8 : u_T := fun k => match k with
  | 0 => ("Swervewright$Shortener", "field", "LSwervewright$Field;", true)
  | 1 => ("Swervewright$Shortener", "prices", "LSwervewright$Prices;", true)
  | 2 => ("Swervewright$Shortener", "word", "LSwervewright$Word;", true)
  | _ => ("Swervewright$Shortener", "rest", "LSwervewright$Route;", true)
def tyX8 : Nat → FieldType := fun k => match k with
  | 0 => .object "Swervewright$Field"
  | 1 => .object "Swervewright$Prices"
  | 2 => .object "Swervewright$Word"
  | _ => .object "Swervewright$Route"
abbrev wsX80 : List Cond := u_ws RX8 TX8 4
theorem nmX8 : ∀ a, a < 4 → ∀ b, b < 4 → a ≠ b → (TX8 a).2.1 ≠ (TX8 b).2.1 := by decide +kernel
theorem tyX8_ok : ∀ k, k < 4 → parseFieldDescriptor (TX8 k).2.2.1 = some (tyX8 k) := by decide +kernel
abbrev cX8_init : ByteArray := prog_10_method_1_code
def yX8_init : MethodName := ⟨RX8, "<init>", "(LSwervewright$Field;LSwervewright$Prices;LSwervewright$Arcs;)V"⟩
abbrev cX8_saveOn : ByteArray := prog_10_method_2_code
def yX8_saveOn : MethodName := ⟨RX8, "saveOn", "(LSwervewright$Route;)I"⟩
abbrev cX8_saveFrom : ByteArray := prog_10_method_3_code
def yX8_saveFrom : MethodName := ⟨RX8, "saveFrom", "(LSwervewright$Route;I)V"⟩
abbrev cX8_wordBetween : ByteArray := prog_10_method_4_code
def yX8_wordBetween : MethodName := ⟨RX8, "wordBetween", "(LSwervewright$Route;II)I"⟩
abbrev cX8_put : ByteArray := prog_10_method_5_code
def yX8_put : MethodName := ⟨RX8, "put", "(LSwervewright$Route;II)V"⟩
def RX9 : String := "Swervewright$Ways"
def TX9 : u_T := fun k => match k with
  | 0 => ("Swervewright$Ways", "field", "LSwervewright$Field;", true)
  | 1 => ("Swervewright$Ways", "prices", "LSwervewright$Prices;", true)
  | 2 => ("Swervewright$Ways", "queue", "LSwervewright$Queue;", true)
  | _ => ("Swervewright$Ways", "traced", "LSwervewright$Route;", true)
def tyX9 : Nat → FieldType := fun k => match k with
  | 0 => .object "Swervewright$Field"
  | 1 => .object "Swervewright$Prices"
  | 2 => .object "Swervewright$Queue"
  | _ => .object "Swervewright$Route"
abbrev wsX90 : List Cond := u_ws RX9 TX9 4
theorem nmX9 : ∀ a, a < 4 → ∀ b, b < 4 → a ≠ b → (TX9 a).2.1 ≠ (TX9 b).2.1 := by decide +kernel
theorem tyX9_ok : ∀ k, k < 4 → parseFieldDescriptor (TX9 k).2.2.1 = some (tyX9 k) := by decide +kernel
abbrev cX9_init : ByteArray := prog_11_method_1_code
def yX9_init : MethodName := ⟨RX9, "<init>", "(LSwervewright$Field;LSwervewright$Prices;)V"⟩
abbrev cX9_costFromEnd : ByteArray := prog_11_method_2_code
def yX9_costFromEnd : MethodName := ⟨RX9, "costFromEnd", "(IIZ)I"⟩
abbrev cX9_costFromStart : ByteArray := prog_11_method_3_code
def yX9_costFromStart : MethodName := ⟨RX9, "costFromStart", "(IIZ)I"⟩
abbrev cX9_stateOf : ByteArray := prog_11_method_4_code
def yX9_stateOf : MethodName := ⟨RX9, "stateOf", "(IZ)I"⟩
abbrev cX9_searched : ByteArray := prog_11_method_5_code
def yX9_searched : MethodName := ⟨RX9, "searched", "(IIZZ)I"⟩
abbrev cX9_spreadAlong : ByteArray := prog_11_method_6_code
def yX9_spreadAlong : MethodName := ⟨RX9, "spreadAlong", "(IZZ)V"⟩
abbrev cX9_spreadAgainst : ByteArray := prog_11_method_7_code
def yX9_spreadAgainst : MethodName := ⟨RX9, "spreadAgainst", "(IZZ)V"⟩
abbrev cX9_trace : ByteArray := prog_11_method_8_code
def yX9_trace : MethodName := ⟨RX9, "trace", "(IIZ)LSwervewright$Route;"⟩
abbrev cX9_lowestMove : ByteArray := prog_11_method_9_code
def yX9_lowestMove : MethodName := ⟨RX9, "lowestMove", "(IZ)I"⟩
def RX10 : String := "Swervewright$Word"
def TX10 : u_T := fun k => match k with
  | 0 => ("Swervewright$Word", "arcs", "LSwervewright$Arcs;", true)
  | 1 => ("Swervewright$Word", "kind", "I", false)
  | 2 => ("Swervewright$Word", "first", "I", false)
  | 3 => ("Swervewright$Word", "second", "I", false)
  | 4 => ("Swervewright$Word", "third", "I", false)
  | _ => ("Swervewright$Word", "cost", "I", false)
def tyX10 : Nat → FieldType := fun k => match k with
  | 0 => .object "Swervewright$Arcs"
  | 1 => .int
  | 2 => .int
  | 3 => .int
  | 4 => .int
  | _ => .int
abbrev wsX100 : List Cond := u_ws RX10 TX10 6
theorem nmX10 : ∀ a, a < 6 → ∀ b, b < 6 → a ≠ b → (TX10 a).2.1 ≠ (TX10 b).2.1 := by decide +kernel
theorem tyX10_ok : ∀ k, k < 6 → parseFieldDescriptor (TX10 k).2.2.1 = some (tyX10 k) := by decide +kernel
abbrev cX10_init : ByteArray := prog_12_method_1_code
def yX10_init : MethodName := ⟨RX10, "<init>", "(LSwervewright$Arcs;)V"⟩
abbrev cX10_firstMove : ByteArray := prog_12_method_2_code
def yX10_firstMove : MethodName := ⟨RX10, "firstMove", "(I)I"⟩
abbrev cX10_secondMove : ByteArray := prog_12_method_3_code
def yX10_secondMove : MethodName := ⟨RX10, "secondMove", "(I)I"⟩
abbrev cX10_thirdMove : ByteArray := prog_12_method_4_code
def yX10_thirdMove : MethodName := ⟨RX10, "thirdMove", "(I)I"⟩
abbrev cX10_costOrNone : ByteArray := prog_12_method_5_code
def yX10_costOrNone : MethodName := ⟨RX10, "costOrNone", "()I"⟩
abbrev cX10_tell : ByteArray := prog_12_method_6_code
def yX10_tell : MethodName := ⟨RX10, "tell", "(I)I"⟩
abbrev cX10_length : ByteArray := prog_12_method_7_code
def yX10_length : MethodName := ⟨RX10, "length", "()I"⟩
abbrev cX10_moveAt : ByteArray := prog_12_method_8_code
def yX10_moveAt : MethodName := ⟨RX10, "moveAt", "(I)I"⟩
abbrev cX10_find : ByteArray := prog_12_method_9_code
def yX10_find : MethodName := ⟨RX10, "find", "(II)V"⟩
abbrev cX10_tryStraights : ByteArray := prog_12_method_10_code
def yX10_tryStraights : MethodName := ⟨RX10, "tryStraights", "(IIII)V"⟩
abbrev cX10_tryArcs : ByteArray := prog_12_method_11_code
def yX10_tryArcs : MethodName := ⟨RX10, "tryArcs", "(IIII)V"⟩
abbrev cX10_arcsBetween : ByteArray := prog_12_method_12_code
def yX10_arcsBetween : MethodName := ⟨RX10, "arcsBetween", "(III)I"⟩
abbrev cX10_offer : ByteArray := prog_12_method_13_code
def yX10_offer : MethodName := ⟨RX10, "offer", "(IIIII)V"⟩
def RX11 : String := "Swervewright"
def TX11 : u_T := fun k => match k with
  | 0 => ("Swervewright", "field", "LSwervewright$Field;", true)
  | 1 => ("Swervewright", "prices", "LSwervewright$Prices;", true)
  | 2 => ("Swervewright", "ways", "LSwervewright$Ways;", true)
  | 3 => ("Swervewright", "lastWord", "LSwervewright$Word;", true)
  | 4 => ("Swervewright", "shortener", "LSwervewright$Shortener;", true)
  | 5 => ("Swervewright", "pace", "LSwervewright$Pace;", true)
  | 6 => ("Swervewright", "plans", "[LSwervewright$Route;", true)
  | 7 => ("Swervewright", "planCount", "I", false)
  | 8 => ("Swervewright", "recorded", "LSwervewright$Route;", true)
  | 9 => ("Swervewright", "isRecording", "Z", false)
  | _ => ("Swervewright", "outline", "LSwervewright$Polygon;", false)
def tyX11 : Nat → FieldType := fun k => match k with
  | 0 => .object "Swervewright$Field"
  | 1 => .object "Swervewright$Prices"
  | 2 => .object "Swervewright$Ways"
  | 3 => .object "Swervewright$Word"
  | 4 => .object "Swervewright$Shortener"
  | 5 => .object "Swervewright$Pace"
  | 6 => .array (.object "Swervewright$Route")
  | 7 => .int
  | 8 => .object "Swervewright$Route"
  | 9 => .boolean
  | _ => .object "Swervewright$Polygon"
abbrev wsX110 : List Cond := u_ws RX11 TX11 11
theorem nmX11 : ∀ a, a < 11 → ∀ b, b < 11 → a ≠ b → (TX11 a).2.1 ≠ (TX11 b).2.1 := by decide +kernel
theorem tyX11_ok : ∀ k, k < 11 → parseFieldDescriptor (TX11 k).2.2.1 = some (tyX11 k) := by decide +kernel
abbrev cX11_init : ByteArray := prog_1_method_1_code
def yX11_init : MethodName := ⟨RX11, "<init>", "()V"⟩
abbrev cX11_corner : ByteArray := prog_1_method_2_code
def yX11_corner : MethodName := ⟨RX11, "corner", "(II)I"⟩
abbrev cX11_polygon : ByteArray := prog_1_method_3_code
def yX11_polygon : MethodName := ⟨RX11, "polygon", "()I"⟩
abbrev cX11_forget : ByteArray := prog_1_method_4_code
def yX11_forget : MethodName := ⟨RX11, "forget", "()I"⟩
abbrev cX11_takeAway : ByteArray := prog_1_method_5_code
def yX11_takeAway : MethodName := ⟨RX11, "takeAway", "(I)I"⟩
abbrev cX11_vehicle : ByteArray := prog_1_method_6_code
def yX11_vehicle : MethodName := ⟨RX11, "vehicle", "(II)V"⟩
abbrev cX11_cusp : ByteArray := prog_1_method_7_code
def yX11_cusp : MethodName := ⟨RX11, "cusp", "(I)I"⟩
abbrev cX11_margin : ByteArray := prog_1_method_8_code
def yX11_margin : MethodName := ⟨RX11, "margin", "(I)I"⟩
abbrev cX11_clearance : ByteArray := prog_1_method_9_code
def yX11_clearance : MethodName := ⟨RX11, "clearance", "(II)I"⟩
abbrev cX11_isFree : ByteArray := prog_1_method_10_code
def yX11_isFree : MethodName := ⟨RX11, "isFree", "(III)Z"⟩
abbrev cX11_word : ByteArray := prog_1_method_11_code
def yX11_word : MethodName := ⟨RX11, "word", "(IIIIII)I"⟩
abbrev cX11_found : ByteArray := prog_1_method_12_code
def yX11_found : MethodName := ⟨RX11, "found", "(I)I"⟩
abbrev cX11_cheapest : ByteArray := prog_1_method_13_code
def yX11_cheapest : MethodName := ⟨RX11, "cheapest", "(IIIIIIZ)I"⟩
abbrev cX11_cheapestAnew : ByteArray := prog_1_method_14_code
def yX11_cheapestAnew : MethodName := ⟨RX11, "cheapestAnew", "(IIIIIIZ)I"⟩
abbrev cX11_plan : ByteArray := prog_1_method_15_code
def yX11_plan : MethodName := ⟨RX11, "plan", "(IIIIIIZ)I"⟩
abbrev cX11_begin : ByteArray := prog_1_method_16_code
def yX11_begin : MethodName := ⟨RX11, "begin", "(III)V"⟩
abbrev cX11_drive : ByteArray := prog_1_method_17_code
def yX11_drive : MethodName := ⟨RX11, "drive", "(I)I"⟩
abbrev cX11_keep : ByteArray := prog_1_method_18_code
def yX11_keep : MethodName := ⟨RX11, "keep", "()I"⟩
abbrev cX11_shorten : ByteArray := prog_1_method_19_code
def yX11_shorten : MethodName := ⟨RX11, "shorten", "(I)I"⟩
abbrev cX11_planOf : ByteArray := prog_1_method_20_code
def yX11_planOf : MethodName := ⟨RX11, "planOf", "(II)I"⟩
abbrev cX11_moveOf : ByteArray := prog_1_method_21_code
def yX11_moveOf : MethodName := ⟨RX11, "moveOf", "(II)I"⟩
abbrev cX11_poseOf : ByteArray := prog_1_method_22_code
def yX11_poseOf : MethodName := ⟨RX11, "poseOf", "(II)I"⟩
abbrev cX11_segment : ByteArray := prog_1_method_23_code
def yX11_segment : MethodName := ⟨RX11, "segment", "(II)I"⟩
abbrev cX11_speeds : ByteArray := prog_1_method_24_code
def yX11_speeds : MethodName := ⟨RX11, "speeds", "(IIII)V"⟩
abbrev cX11_speed : ByteArray := prog_1_method_25_code
def yX11_speed : MethodName := ⟨RX11, "speed", "(II)F"⟩
abbrev cX11_peak : ByteArray := prog_1_method_26_code
def yX11_peak : MethodName := ⟨RX11, "peak", "(I)I"⟩
abbrev cX11_isOutside : ByteArray := prog_1_method_27_code
def yX11_isOutside : MethodName := ⟨RX11, "isOutside", "(III)Z"⟩
abbrev cX11_requirePose : ByteArray := prog_1_method_28_code
def yX11_requirePose : MethodName := ⟨RX11, "requirePose", "(III)I"⟩
abbrev cX11_requirePlan : ByteArray := prog_1_method_29_code
def yX11_requirePlan : MethodName := ⟨RX11, "requirePlan", "(I)LSwervewright$Route;"⟩
abbrev cX11_requirePlanPose : ByteArray := prog_1_method_30_code
def yX11_requirePlanPose : MethodName := ⟨RX11, "requirePlanPose", "(LSwervewright$Route;I)I"⟩
abbrev cX11_requireRecording : ByteArray := prog_1_method_31_code
def yX11_requireRecording : MethodName := ⟨RX11, "requireRecording", "()V"⟩
abbrev cX11_requireRoomForPlan : ByteArray := prog_1_method_32_code
def yX11_requireRoomForPlan : MethodName := ⟨RX11, "requireRoomForPlan", "()V"⟩
abbrev cX11_addPlan : ByteArray := prog_1_method_33_code
def yX11_addPlan : MethodName := ⟨RX11, "addPlan", "(LSwervewright$Route;)I"⟩
def RX12 : String := "SwervewrightModel"
def TX12 : u_T := fun k => match k with
  | 0 => ("SwervewrightModel", "corners", "I", false)
  | 1 => ("SwervewrightModel", "cornerX", "[I", true)
  | 2 => ("SwervewrightModel", "cornerY", "[I", true)
  | 3 => ("SwervewrightModel", "polygons", "I", false)
  | 4 => ("SwervewrightModel", "sides", "[I", true)
  | 5 => ("SwervewrightModel", "isGone", "[Z", true)
  | 6 => ("SwervewrightModel", "atX", "[I", true)
  | 7 => ("SwervewrightModel", "atY", "[I", true)
  | 8 => ("SwervewrightModel", "front", "I", false)
  | 9 => ("SwervewrightModel", "behind", "I", false)
  | 10 => ("SwervewrightModel", "cuspCost", "I", false)
  | 11 => ("SwervewrightModel", "margin", "I", false)
  | 12 => ("SwervewrightModel", "fastStraight", "I", false)
  | 13 => ("SwervewrightModel", "fastArc", "I", false)
  | 14 => ("SwervewrightModel", "faster", "I", false)
  | 15 => ("SwervewrightModel", "slower", "I", false)
  | 16 => ("SwervewrightModel", "isBlocked", "[Z", true)
  | 17 => ("SwervewrightModel", "clear", "[I", true)
  | 18 => ("SwervewrightModel", "can", "[Z", true)
  | 19 => ("SwervewrightModel", "still", "[I", true)
  | 20 => ("SwervewrightModel", "queueFrom", "I", false)
  | 21 => ("SwervewrightModel", "waiting", "I", false)
  | 22 => ("SwervewrightModel", "queue", "[I", true)
  | 23 => ("SwervewrightModel", "isWaiting", "[Z", true)
  | 24 => ("SwervewrightModel", "word", "I", false)
  | 25 => ("SwervewrightModel", "one", "I", false)
  | 26 => ("SwervewrightModel", "two", "I", false)
  | 27 => ("SwervewrightModel", "three", "I", false)
  | 28 => ("SwervewrightModel", "toldWord", "I", false)
  | 29 => ("SwervewrightModel", "toldOne", "I", false)
  | 30 => ("SwervewrightModel", "toldTwo", "I", false)
  | 31 => ("SwervewrightModel", "toldThree", "I", false)
  | 32 => ("SwervewrightModel", "plans", "I", false)
  | 33 => ("SwervewrightModel", "begins", "[I", true)
  | 34 => ("SwervewrightModel", "many", "[I", true)
  | 35 => ("SwervewrightModel", "moves", "[I", true)
  | 36 => ("SwervewrightModel", "isRecording", "Z", false)
  | 37 => ("SwervewrightModel", "recordedFrom", "I", false)
  | 38 => ("SwervewrightModel", "recordedAt", "I", false)
  | 39 => ("SwervewrightModel", "recorded", "I", false)
  | 40 => ("SwervewrightModel", "record", "[I", true)
  | 41 => ("SwervewrightModel", "tried", "I", false)
  | 42 => ("SwervewrightModel", "trial", "[I", true)
  | 43 => ("SwervewrightModel", "poses", "[I", true)
  | 44 => ("SwervewrightModel", "speeds", "[F", true)
  | _ => ("SwervewrightModel", "thrown", "I", false)
def tyX12 : Nat → FieldType := fun k => match k with
  | 0 => .int
  | 1 => .array .int
  | 2 => .array .int
  | 3 => .int
  | 4 => .array .int
  | 5 => .array .boolean
  | 6 => .array .int
  | 7 => .array .int
  | 8 => .int
  | 9 => .int
  | 10 => .int
  | 11 => .int
  | 12 => .int
  | 13 => .int
  | 14 => .int
  | 15 => .int
  | 16 => .array .boolean
  | 17 => .array .int
  | 18 => .array .boolean
  | 19 => .array .int
  | 20 => .int
  | 21 => .int
  | 22 => .array .int
  | 23 => .array .boolean
  | 24 => .int
  | 25 => .int
  | 26 => .int
  | 27 => .int
  | 28 => .int
  | 29 => .int
  | 30 => .int
  | 31 => .int
  | 32 => .int
  | 33 => .array .int
  | 34 => .array .int
  | 35 => .array .int
  | 36 => .boolean
  | 37 => .int
  | 38 => .int
  | 39 => .int
  | 40 => .array .int
  | 41 => .int
  | 42 => .array .int
  | 43 => .array .int
  | 44 => .array .float
  | _ => .int
abbrev wsX120 : List Cond := u_ws RX12 TX12 46
theorem nmX12 : ∀ a, a < 46 → ∀ b, b < 46 → a ≠ b → (TX12 a).2.1 ≠ (TX12 b).2.1 := by decide +kernel
theorem tyX12_ok : ∀ k, k < 46 → parseFieldDescriptor (TX12 k).2.2.1 = some (tyX12 k) := by decide +kernel
abbrev cX12_init : ByteArray := prog_14_method_1_code
def yX12_init : MethodName := ⟨RX12, "<init>", "()V"⟩
abbrev cX12_thrown : ByteArray := prog_14_method_2_code
def yX12_thrown : MethodName := ⟨RX12, "thrown", "()I"⟩
abbrev cX12_in : ByteArray := prog_14_method_3_code
def yX12_in : MethodName := ⟨RX12, "in", "(III)Z"⟩
abbrev cX12_goes : ByteArray := prog_14_method_4_code
def yX12_goes : MethodName := ⟨RX12, "goes", "(ZZZ)Z"⟩
abbrev cX12_isCell : ByteArray := prog_14_method_5_code
def yX12_isCell : MethodName := ⟨RX12, "isCell", "(II)Z"⟩
abbrev cX12_isPose : ByteArray := prog_14_method_6_code
def yX12_isPose : MethodName := ⟨RX12, "isPose", "(III)Z"⟩
abbrev cX12_poseAt : ByteArray := prog_14_method_7_code
def yX12_poseAt : MethodName := ⟨RX12, "poseAt", "(III)I"⟩
abbrev cX12_stepX : ByteArray := prog_14_method_8_code
def yX12_stepX : MethodName := ⟨RX12, "stepX", "(I)I"⟩
abbrev cX12_stepY : ByteArray := prog_14_method_9_code
def yX12_stepY : MethodName := ⟨RX12, "stepY", "(I)I"⟩
abbrev cX12_isReverse : ByteArray := prog_14_method_10_code
def yX12_isReverse : MethodName := ⟨RX12, "isReverse", "(I)Z"⟩
abbrev cX12_turn : ByteArray := prog_14_method_11_code
def yX12_turn : MethodName := ⟨RX12, "turn", "(I)I"⟩
abbrev cX12_headingBehind : ByteArray := prog_14_method_12_code
def yX12_headingBehind : MethodName := ⟨RX12, "headingBehind", "(II)I"⟩
abbrev cX12_farX : ByteArray := prog_14_method_13_code
def yX12_farX : MethodName := ⟨RX12, "farX", "(II)I"⟩
abbrev cX12_farY : ByteArray := prog_14_method_14_code
def yX12_farY : MethodName := ⟨RX12, "farY", "(II)I"⟩
abbrev cX12_endOf : ByteArray := prog_14_method_15_code
def yX12_endOf : MethodName := ⟨RX12, "endOf", "(II)I"⟩
abbrev cX12_steps : ByteArray := prog_14_method_16_code
def yX12_steps : MethodName := ⟨RX12, "steps", "(II)I"⟩
abbrev cX12_lengthOf : ByteArray := prog_14_method_17_code
def yX12_lengthOf : MethodName := ⟨RX12, "lengthOf", "(II)F"⟩
abbrev cX12_isFreeAt : ByteArray := prog_14_method_18_code
def yX12_isFreeAt : MethodName := ⟨RX12, "isFreeAt", "(III)Z"⟩
abbrev cX12_crosses : ByteArray := prog_14_method_19_code
def yX12_crosses : MethodName := ⟨RX12, "crosses", "(IIIIII)Z"⟩
abbrev cX12_blocks : ByteArray := prog_14_method_20_code
def yX12_blocks : MethodName := ⟨RX12, "blocks", "(III)Z"⟩
abbrev cX12_apart : ByteArray := prog_14_method_21_code
def yX12_apart : MethodName := ⟨RX12, "apart", "(II)I"⟩
abbrev cX12_clearOf : ByteArray := prog_14_method_22_code
def yX12_clearOf : MethodName := ⟨RX12, "clearOf", "(II)I"⟩
abbrev cX12_canDrive : ByteArray := prog_14_method_23_code
def yX12_canDrive : MethodName := ⟨RX12, "canDrive", "(II)Z"⟩
abbrev cX12_fields : ByteArray := prog_14_method_24_code
def yX12_fields : MethodName := ⟨RX12, "fields", "()I"⟩
abbrev cX12_corner : ByteArray := prog_14_method_25_code
def yX12_corner : MethodName := ⟨RX12, "corner", "(II)I"⟩
abbrev cX12_polygon : ByteArray := prog_14_method_26_code
def yX12_polygon : MethodName := ⟨RX12, "polygon", "()I"⟩
abbrev cX12_forget : ByteArray := prog_14_method_27_code
def yX12_forget : MethodName := ⟨RX12, "forget", "()I"⟩
abbrev cX12_takeAway : ByteArray := prog_14_method_28_code
def yX12_takeAway : MethodName := ⟨RX12, "takeAway", "(I)I"⟩
abbrev cX12_vehicle : ByteArray := prog_14_method_29_code
def yX12_vehicle : MethodName := ⟨RX12, "vehicle", "(II)V"⟩
abbrev cX12_cusp : ByteArray := prog_14_method_30_code
def yX12_cusp : MethodName := ⟨RX12, "cusp", "(I)I"⟩
abbrev cX12_margin : ByteArray := prog_14_method_31_code
def yX12_margin : MethodName := ⟨RX12, "margin", "(I)I"⟩
abbrev cX12_clearance : ByteArray := prog_14_method_32_code
def yX12_clearance : MethodName := ⟨RX12, "clearance", "(II)I"⟩
abbrev cX12_isFree : ByteArray := prog_14_method_33_code
def yX12_isFree : MethodName := ⟨RX12, "isFree", "(III)Z"⟩
abbrev cX12_kindOf : ByteArray := prog_14_method_34_code
def yX12_kindOf : MethodName := ⟨RX12, "kindOf", "(II)I"⟩
abbrev cX12_findsWord : ByteArray := prog_14_method_35_code
def yX12_findsWord : MethodName := ⟨RX12, "findsWord", "(II)I"⟩
abbrev cX12_are : ByteArray := prog_14_method_36_code
def yX12_are : MethodName := ⟨RX12, "are", "(IIIIII)Z"⟩
abbrev cX12_word : ByteArray := prog_14_method_37_code
def yX12_word : MethodName := ⟨RX12, "word", "(IIIIII)I"⟩
abbrev cX12_found : ByteArray := prog_14_method_38_code
def yX12_found : MethodName := ⟨RX12, "found", "(I)I"⟩
abbrev cX12_costOf : ByteArray := prog_14_method_39_code
def yX12_costOf : MethodName := ⟨RX12, "costOf", "(II)I"⟩
abbrev cX12_by : ByteArray := prog_14_method_40_code
def yX12_by : MethodName := ⟨RX12, "by", "(III)I"⟩
abbrev cX12_leastBy : ByteArray := prog_14_method_41_code
def yX12_leastBy : MethodName := ⟨RX12, "leastBy", "(III)I"⟩
abbrev cX12_lowers : ByteArray := prog_14_method_42_code
def yX12_lowers : MethodName := ⟨RX12, "lowers", "(II)V"⟩
abbrev cX12_goesBack : ByteArray := prog_14_method_43_code
def yX12_goesBack : MethodName := ⟨RX12, "goesBack", "(II)V"⟩
abbrev cX12_ways : ByteArray := prog_14_method_44_code
def yX12_ways : MethodName := ⟨RX12, "ways", "(III)I"⟩
abbrev cX12_cheapest : ByteArray := prog_14_method_45_code
def yX12_cheapest : MethodName := ⟨RX12, "cheapest", "(IIIIIIZ)I"⟩
abbrev cX12_cheapestAnew : ByteArray := prog_14_method_46_code
def yX12_cheapestAnew : MethodName := ⟨RX12, "cheapestAnew", "(IIIIIIZ)I"⟩
abbrev cX12_writes : ByteArray := prog_14_method_47_code
def yX12_writes : MethodName := ⟨RX12, "writes", "(IIII)I"⟩
abbrev cX12_plan : ByteArray := prog_14_method_48_code
def yX12_plan : MethodName := ⟨RX12, "plan", "(IIIIIIZ)I"⟩
abbrev cX12_begin : ByteArray := prog_14_method_49_code
def yX12_begin : MethodName := ⟨RX12, "begin", "(III)V"⟩
abbrev cX12_drive : ByteArray := prog_14_method_50_code
def yX12_drive : MethodName := ⟨RX12, "drive", "(I)I"⟩
abbrev cX12_keep : ByteArray := prog_14_method_51_code
def yX12_keep : MethodName := ⟨RX12, "keep", "()I"⟩
abbrev cX12_isPlan : ByteArray := prog_14_method_52_code
def yX12_isPlan : MethodName := ⟨RX12, "isPlan", "(I)Z"⟩
abbrev cX12_moveAt : ByteArray := prog_14_method_53_code
def yX12_moveAt : MethodName := ⟨RX12, "moveAt", "(II)I"⟩
abbrev cX12_goesThrough : ByteArray := prog_14_method_54_code
def yX12_goesThrough : MethodName := ⟨RX12, "goesThrough", "(I)V"⟩
abbrev cX12_isCusp : ByteArray := prog_14_method_55_code
def yX12_isCusp : MethodName := ⟨RX12, "isCusp", "(II)Z"⟩
abbrev cX12_planCost : ByteArray := prog_14_method_56_code
def yX12_planCost : MethodName := ⟨RX12, "planCost", "(I)I"⟩
abbrev cX12_isDriven : ByteArray := prog_14_method_57_code
def yX12_isDriven : MethodName := ⟨RX12, "isDriven", "(I)Z"⟩
abbrev cX12_trialCost : ByteArray := prog_14_method_58_code
def yX12_trialCost : MethodName := ⟨RX12, "trialCost", "(I)I"⟩
abbrev cX12_tries : ByteArray := prog_14_method_59_code
def yX12_tries : MethodName := ⟨RX12, "tries", "(III)Z"⟩
abbrev cX12_shortens : ByteArray := prog_14_method_60_code
def yX12_shortens : MethodName := ⟨RX12, "shortens", "(II)Z"⟩
abbrev cX12_shorten : ByteArray := prog_14_method_61_code
def yX12_shorten : MethodName := ⟨RX12, "shorten", "(I)I"⟩
abbrev cX12_cusps : ByteArray := prog_14_method_62_code
def yX12_cusps : MethodName := ⟨RX12, "cusps", "(I)I"⟩
abbrev cX12_segments : ByteArray := prog_14_method_63_code
def yX12_segments : MethodName := ⟨RX12, "segments", "(I)I"⟩
abbrev cX12_planOf : ByteArray := prog_14_method_64_code
def yX12_planOf : MethodName := ⟨RX12, "planOf", "(II)I"⟩
abbrev cX12_isAt : ByteArray := prog_14_method_65_code
def yX12_isAt : MethodName := ⟨RX12, "isAt", "(III)Z"⟩
abbrev cX12_moveOf : ByteArray := prog_14_method_66_code
def yX12_moveOf : MethodName := ⟨RX12, "moveOf", "(II)I"⟩
abbrev cX12_poseOf : ByteArray := prog_14_method_67_code
def yX12_poseOf : MethodName := ⟨RX12, "poseOf", "(II)I"⟩
abbrev cX12_segment : ByteArray := prog_14_method_68_code
def yX12_segment : MethodName := ⟨RX12, "segment", "(II)I"⟩
abbrev cX12_speeds : ByteArray := prog_14_method_69_code
def yX12_speeds : MethodName := ⟨RX12, "speeds", "(IIII)V"⟩
abbrev cX12_greatest : ByteArray := prog_14_method_70_code
def yX12_greatest : MethodName := ⟨RX12, "greatest", "(II)F"⟩
abbrev cX12_lesser : ByteArray := prog_14_method_71_code
def yX12_lesser : MethodName := ⟨RX12, "lesser", "(FF)F"⟩
abbrev cX12_between : ByteArray := prog_14_method_72_code
def yX12_between : MethodName := ⟨RX12, "between", "(II)F"⟩
abbrev cX12_findsSpeeds : ByteArray := prog_14_method_73_code
def yX12_findsSpeeds : MethodName := ⟨RX12, "findsSpeeds", "(I)V"⟩
abbrev cX12_speed : ByteArray := prog_14_method_74_code
def yX12_speed : MethodName := ⟨RX12, "speed", "(II)F"⟩
abbrev cX12_peak : ByteArray := prog_14_method_75_code
def yX12_peak : MethodName := ⟨RX12, "peak", "(I)I"⟩
def RJx145de : String := "java/io/Serializable"
def TJx145de : u_T := fun k => match k with
  | _ => ("", "", "", false)
def tyJx145de : Nat → FieldType := fun k => match k with
  | _ => .int
abbrev wsJx145de0 : List Cond := u_ws RJx145de TJx145de 0
theorem nmJx145de : ∀ a, a < 0 → ∀ b, b < 0 → a ≠ b → (TJx145de a).2.1 ≠ (TJx145de b).2.1 := by decide +kernel
theorem tyJx145de_ok : ∀ k, k < 0 → parseFieldDescriptor (TJx145de k).2.2.1 = some (tyJx145de k) := by decide +kernel
def RJx8e188 : String := "java/lang/Cloneable"
def TJx8e188 : u_T := fun k => match k with
  | _ => ("", "", "", false)
def tyJx8e188 : Nat → FieldType := fun k => match k with
  | _ => .int
abbrev wsJx8e1880 : List Cond := u_ws RJx8e188 TJx8e188 0
theorem nmJx8e188 : ∀ a, a < 0 → ∀ b, b < 0 → a ≠ b → (TJx8e188 a).2.1 ≠ (TJx8e188 b).2.1 := by decide +kernel
theorem tyJx8e188_ok : ∀ k, k < 0 → parseFieldDescriptor (TJx8e188 k).2.2.1 = some (tyJx8e188 k) := by decide +kernel
def RJ9 : String := "java/lang/Math"
def TJ9 : u_T := fun k => match k with
  | _ => ("", "", "", false)
def tyJ9 : Nat → FieldType := fun k => match k with
  | _ => .int
abbrev wsJ90 : List Cond := u_ws RJ9 TJ9 0
theorem nmJ9 : ∀ a, a < 0 → ∀ b, b < 0 → a ≠ b → (TJ9 a).2.1 ≠ (TJ9 b).2.1 := by decide +kernel
theorem tyJ9_ok : ∀ k, k < 0 → parseFieldDescriptor (TJ9 k).2.2.1 = some (tyJ9 k) := by decide +kernel
abbrev cJ9_abs_0f7a4 : ByteArray := prog_20_method_59_code
def yJ9_abs_0f7a4 : MethodName := ⟨RJ9, "abs", "(I)I"⟩
abbrev cJ9_max_7cf53 : ByteArray := prog_20_method_65_code
def yJ9_max_7cf53 : MethodName := ⟨RJ9, "max", "(II)I"⟩
abbrev cJ9_min_7cf53 : ByteArray := prog_20_method_69_code
def yJ9_min_7cf53 : MethodName := ⟨RJ9, "min", "(II)I"⟩
def RJ0 : String := "java/lang/String"
def TJ0 : u_T := fun k => match k with
  | _ => ("", "", "", false)
def tyJ0 : Nat → FieldType := fun k => match k with
  | _ => .int
abbrev wsJ00 : List Cond := u_ws RJ0 TJ0 0
theorem nmJ0 : ∀ a, a < 0 → ∀ b, b < 0 → a ≠ b → (TJ0 a).2.1 ≠ (TJ0 b).2.1 := by decide +kernel
theorem tyJ0_ok : ∀ k, k < 0 → parseFieldDescriptor (TJ0 k).2.2.1 = some (tyJ0 k) := by decide +kernel
def RJ10 : String := "java/lang/System"
def TJ10 : u_T := fun k => match k with
  | _ => ("", "", "", false)
def tyJ10 : Nat → FieldType := fun k => match k with
  | _ => .int
abbrev wsJ100 : List Cond := u_ws RJ10 TJ10 0
theorem nmJ10 : ∀ a, a < 0 → ∀ b, b < 0 → a ≠ b → (TJ10 a).2.1 ≠ (TJ10 b).2.1 := by decide +kernel
theorem tyJ10_ok : ∀ k, k < 0 → parseFieldDescriptor (TJ10 k).2.2.1 = some (tyJ10 k) := by decide +kernel
def RJ7 : String := "java/util/Arrays"
def TJ7 : u_T := fun k => match k with
  | _ => ("", "", "", false)
def tyJ7 : Nat → FieldType := fun k => match k with
  | _ => .int
abbrev wsJ70 : List Cond := u_ws RJ7 TJ7 0
theorem nmJ7 : ∀ a, a < 0 → ∀ b, b < 0 → a ≠ b → (TJ7 a).2.1 ≠ (TJ7 b).2.1 := by decide +kernel
theorem tyJ7_ok : ∀ k, k < 0 → parseFieldDescriptor (TJ7 k).2.2.1 = some (tyJ7 k) := by decide +kernel
abbrev cJ7_fill_53178 : ByteArray := prog_25_method_103_code
def yJ7_fill_53178 : MethodName := ⟨RJ7, "fill", "([II)V"⟩
abbrev cJ7_copyOf_59c91 : ByteArray := prog_25_method_123_code
def yJ7_copyOf_59c91 : MethodName := ⟨RJ7, "copyOf", "([II)[I"⟩
def RL : String := "SwervewrightLaw"
abbrev cL_corner : ByteArray := method_3_code
def yL_corner : MethodName := ⟨RL, "corner", "(LSwervewright;II[J)I"⟩
abbrev cL_polygon : ByteArray := method_4_code
def yL_polygon : MethodName := ⟨RL, "polygon", "(LSwervewright;[J)I"⟩
abbrev cL_takeAway : ByteArray := method_5_code
def yL_takeAway : MethodName := ⟨RL, "takeAway", "(LSwervewright;I[J)I"⟩
abbrev cL_vehicle : ByteArray := method_6_code
def yL_vehicle : MethodName := ⟨RL, "vehicle", "(LSwervewright;II)I"⟩
abbrev cL_cusp : ByteArray := method_7_code
def yL_cusp : MethodName := ⟨RL, "cusp", "(LSwervewright;I[J)I"⟩
abbrev cL_margin : ByteArray := method_8_code
def yL_margin : MethodName := ⟨RL, "margin", "(LSwervewright;I[J)I"⟩
abbrev cL_clearance : ByteArray := method_9_code
def yL_clearance : MethodName := ⟨RL, "clearance", "(LSwervewright;II[J)I"⟩
abbrev cL_isFree : ByteArray := method_10_code
def yL_isFree : MethodName := ⟨RL, "isFree", "(LSwervewright;III[J)I"⟩
abbrev cL_word : ByteArray := method_11_code
def yL_word : MethodName := ⟨RL, "word", "(LSwervewright;IIIIII[J)I"⟩
abbrev cL_found : ByteArray := method_12_code
def yL_found : MethodName := ⟨RL, "found", "(LSwervewright;I[J)I"⟩
abbrev cL_cheapest : ByteArray := method_13_code
def yL_cheapest : MethodName := ⟨RL, "cheapest", "(LSwervewright;IIIIIIZ[J)I"⟩
abbrev cL_cheapestAnew : ByteArray := method_14_code
def yL_cheapestAnew : MethodName := ⟨RL, "cheapestAnew", "(LSwervewright;IIIIIIZ[J)I"⟩
abbrev cL_plan : ByteArray := method_15_code
def yL_plan : MethodName := ⟨RL, "plan", "(LSwervewright;IIIIIIZ[J)I"⟩
abbrev cL_begin : ByteArray := method_16_code
def yL_begin : MethodName := ⟨RL, "begin", "(LSwervewright;III)I"⟩
abbrev cL_drive : ByteArray := method_17_code
def yL_drive : MethodName := ⟨RL, "drive", "(LSwervewright;I[J)I"⟩
abbrev cL_keep : ByteArray := method_18_code
def yL_keep : MethodName := ⟨RL, "keep", "(LSwervewright;[J)I"⟩
abbrev cL_shorten : ByteArray := method_19_code
def yL_shorten : MethodName := ⟨RL, "shorten", "(LSwervewright;I[J)I"⟩
abbrev cL_planOf : ByteArray := method_20_code
def yL_planOf : MethodName := ⟨RL, "planOf", "(LSwervewright;II[J)I"⟩
abbrev cL_moveOf : ByteArray := method_21_code
def yL_moveOf : MethodName := ⟨RL, "moveOf", "(LSwervewright;II[J)I"⟩
abbrev cL_poseOf : ByteArray := method_22_code
def yL_poseOf : MethodName := ⟨RL, "poseOf", "(LSwervewright;II[J)I"⟩
abbrev cL_segment : ByteArray := method_23_code
def yL_segment : MethodName := ⟨RL, "segment", "(LSwervewright;II[J)I"⟩
abbrev cL_speeds : ByteArray := method_24_code
def yL_speeds : MethodName := ⟨RL, "speeds", "(LSwervewright;IIII)I"⟩
abbrev cL_speed : ByteArray := method_25_code
def yL_speed : MethodName := ⟨RL, "speed", "(LSwervewright;II[D)I"⟩
abbrev cL_peak : ByteArray := method_26_code
def yL_peak : MethodName := ⟨RL, "peak", "(LSwervewright;I[J)I"⟩
abbrev cL_law : ByteArray := code
def yL_law : MethodName := ⟨RL, "law", "([I)Z"⟩
abbrev vwCl : List vw_C := [(RX0, TX0, 2), (RX1, TX1, 7), (RX3, TX3, 5), (RX4, TX4, 3), (RX5, TX5, 3), (RX6, TX6, 6), (RX7, TX7, 3), (RX8, TX8, 4), (RX9, TX9, 4), (RX10, TX10, 6), (RX11, TX11, 11), (RX12, TX12, 46)]
def wsL_law0_r1 : List Cond := [Cond.classLink RL 8 RX11, Cond.instantiable RX11 11, Cond.initialized RX11, Cond.classLink RL 98 RX12, Cond.instantiable RX12 46, Cond.initialized RX12, Cond.arrayClass .long, Cond.arrayClass .double, Cond.methodLink RL 97 yX11_init, Cond.instanceMethod yX11_init, Cond.code yX11_init cX11_init 2 none, Cond.methodLink RX11 3 objectInit, Cond.instanceMethod objectInit, Cond.code objectInit ⟨#[0xb1]⟩ 1 none, Cond.classLink RX11 9 RX0, Cond.instantiable RX0 2, Cond.initialized RX0, Cond.classLink RX11 12 RX1, Cond.instantiable RX1 7, Cond.initialized RX1, Cond.fieldLink RX11 15 "Swervewright" "field" "LSwervewright$Field;", Cond.classLink RX11 19 RX5, Cond.instantiable RX5 3, Cond.initialized RX5]
def wsL_law0_r2 : List Cond := [Cond.fieldLink RX11 24 "Swervewright" "prices" "LSwervewright$Prices;", Cond.classLink RX11 28 RX9, Cond.instantiable RX9 4, Cond.initialized RX9, Cond.fieldLink RX11 33 "Swervewright" "ways" "LSwervewright$Ways;", Cond.classLink RX11 37 RX10, Cond.instantiable RX10 6, Cond.initialized RX10, Cond.fieldLink RX11 42 "Swervewright" "lastWord" "LSwervewright$Word;", Cond.classLink RX11 46 RX8, Cond.instantiable RX8 4, Cond.initialized RX8, Cond.fieldLink RX11 51 "Swervewright" "shortener" "LSwervewright$Shortener;", Cond.classLink RX11 55 RX3, Cond.instantiable RX3 5, Cond.initialized RX3, Cond.fieldLink RX11 58 "Swervewright" "pace" "LSwervewright$Pace;", Cond.classLink RX11 62 RX7, Cond.fieldLink RX11 64 "Swervewright" "plans" "[LSwervewright$Route;", Cond.instantiable RX7 3, Cond.initialized RX7, Cond.fieldLink RX11 69 "Swervewright" "recorded" "LSwervewright$Route;", Cond.classLink RX11 73 RX4, Cond.instantiable RX4 3]
def wsL_law0_r3 : List Cond := [Cond.initialized RX4, Cond.fieldLink RX11 76 "Swervewright" "outline" "LSwervewright$Polygon;", Cond.methodLink RX11 11 yX0_init, Cond.instanceMethod yX0_init, Cond.code yX0_init cX0_init 2 none, Cond.methodLink RX0 3 objectInit, Cond.arrayClass .int, Cond.fieldLink RX0 11 "Swervewright$Arcs" "xs" "[I", Cond.fieldLink RX0 15 "Swervewright$Arcs" "ys" "[I", Cond.methodLink RX0 18 yX0_fill, Cond.instanceMethod yX0_fill, Cond.selects RX0 yX0_fill yX0_fill, Cond.code yX0_fill cX0_fill 8 none, Cond.methodLink RX0 22 yX0_placeOf, Cond.static yX0_placeOf, Cond.code yX0_placeOf cX0_placeOf 3 (some .int), Cond.methodLink RX0 26 yX2_stepX, Cond.static yX2_stepX, Cond.initialized RX2, Cond.code yX2_stepX cX2_stepX 1 (some .int), Cond.fieldLink RX2 11 "Swervewright$Lattice" "STEP_X" "[I", Cond.methodLink RX0 32 yX2_stepY, Cond.static yX2_stepY, Cond.code yX2_stepY cX2_stepY 1 (some .int)]
def wsL_law0_r4 : List Cond := [Cond.fieldLink RX2 15 "Swervewright$Lattice" "STEP_Y" "[I", Cond.methodLink RX11 14 yX1_init, Cond.instanceMethod yX1_init, Cond.code yX1_init cX1_init 1 none, Cond.methodLink RX1 3 objectInit, Cond.classLink RX1 9 RX4, Cond.fieldLink RX1 11 "Swervewright$Field" "polygons" "[LSwervewright$Polygon;", Cond.fieldLink RX1 17 "Swervewright$Field" "covers" "[I", Cond.fieldLink RX1 21 "Swervewright$Field" "clears" "[I", Cond.arrayClass .boolean, Cond.fieldLink RX1 24 "Swervewright$Field" "opens" "[Z", Cond.fieldLink RX1 28 "Swervewright$Field" "front" "I", Cond.fieldLink RX1 32 "Swervewright$Field" "behind" "I", Cond.methodLink RX1 35 yX1_survey, Cond.instanceMethod yX1_survey, Cond.selects RX1 yX1_survey yX1_survey, Cond.code yX1_survey cX1_survey 1 none, Cond.methodLink RX1 61 yX1_measureClears, Cond.instanceMethod yX1_measureClears, Cond.selects RX1 yX1_measureClears yX1_measureClears, Cond.code yX1_measureClears cX1_measureClears 2 none, Cond.methodLink RX1 64 yX1_isBlocked, Cond.instanceMethod yX1_isBlocked, Cond.selects RX1 yX1_isBlocked yX1_isBlocked]
def wsL_law0_r5 : List Cond := [Cond.code yX1_isBlocked cX1_isBlocked 3 (some .boolean), Cond.methodLink RX1 92 yX2_cellOf, Cond.static yX2_cellOf, Cond.code yX2_cellOf cX2_cellOf 1 (some .int), Cond.methodLink RX1 68 yX1_nearTo, Cond.instanceMethod yX1_nearTo, Cond.selects RX1 yX1_nearTo yX1_nearTo, Cond.code yX1_nearTo cX1_nearTo 5 none, Cond.methodLink RX1 79 Lib.Math.min.name, Cond.static Lib.Math.min.name, Cond.initialized "java/lang/Math", Cond.code Lib.Math.min.name Lib.Math.min.code 2 (some .int), Cond.methodLink RX1 45 yX2_xOf, Cond.static yX2_xOf, Cond.code yX2_xOf cX2_xOf 1 (some .int), Cond.methodLink RX1 51 yX2_yOf, Cond.static yX2_yOf, Cond.code yX2_yOf cX2_yOf 1 (some .int), Cond.methodLink RX1 72 yX2_numberOf, Cond.static yX2_numberOf, Cond.code yX2_numberOf cX2_numberOf 5 (some .int), Cond.methodLink RX1 76 yX1_clearOf, Cond.instanceMethod yX1_clearOf, Cond.selects RX1 yX1_clearOf yX1_clearOf]
def wsL_law0_r6 : List Cond := [Cond.code yX1_clearOf cX1_clearOf 3 (some .int), Cond.methodLink RX1 58 yX1_judgePoses, Cond.instanceMethod yX1_judgePoses, Cond.selects RX1 yX1_judgePoses yX1_judgePoses, Cond.code yX1_judgePoses cX1_judgePoses 2 none, Cond.methodLink RX1 85 yX1_isClear, Cond.instanceMethod yX1_isClear, Cond.selects RX1 yX1_isClear yX1_isClear, Cond.code yX1_isClear cX1_isClear 6 (some .boolean), Cond.methodLink RX1 89 yX2_stepped, Cond.static yX2_stepped, Cond.code yX2_stepped cX2_stepped 3 (some .int), Cond.methodLink RX2 22 yX2_headingOf, Cond.static yX2_headingOf, Cond.code yX2_headingOf cX2_headingOf 1 (some .int), Cond.methodLink RX2 26 yX2_xOf, Cond.methodLink RX2 29 yX2_stepX, Cond.methodLink RX2 32 yX2_yOf, Cond.methodLink RX2 35 yX2_stepY, Cond.methodLink RX2 38 yX2_numberOf, Cond.methodLink RX11 21 yX5_init, Cond.instanceMethod yX5_init, Cond.code yX5_init cX5_init 2 none, Cond.methodLink RX5 1 objectInit]
def wsL_law0_r7 : List Cond := [Cond.fieldLink RX5 7 "Swervewright$Prices" "cuspCost" "I", Cond.fieldLink RX5 13 "Swervewright$Prices" "field" "LSwervewright$Field;", Cond.methodLink RX11 30 yX9_init, Cond.instanceMethod yX9_init, Cond.code yX9_init cX9_init 3 none, Cond.methodLink RX9 3 objectInit, Cond.classLink RX9 9 RX6, Cond.instantiable RX6 6, Cond.initialized RX6, Cond.fieldLink RX9 12 "Swervewright$Ways" "queue" "LSwervewright$Queue;", Cond.classLink RX9 18 RX7, Cond.fieldLink RX9 21 "Swervewright$Ways" "traced" "LSwervewright$Route;", Cond.fieldLink RX9 25 "Swervewright$Ways" "field" "LSwervewright$Field;", Cond.fieldLink RX9 29 "Swervewright$Ways" "prices" "LSwervewright$Prices;", Cond.instanceMethod yX6_init, Cond.code yX6_init cX6_init 1 none, Cond.methodLink RX6 3 objectInit, Cond.fieldLink RX6 9 "Swervewright$Queue" "costs" "[I", Cond.fieldLink RX6 15 "Swervewright$Queue" "after" "[I", Cond.fieldLink RX6 18 "Swervewright$Queue" "ahead" "[I", Cond.fieldLink RX6 21 "Swervewright$Queue" "firsts" "[I", Cond.instanceMethod yX7_init, Cond.code yX7_init cX7_init 1 none, Cond.methodLink RX7 3 objectInit]
def wsL_law0_r8 : List Cond := [Cond.fieldLink RX7 9 "Swervewright$Route" "poses" "[I", Cond.fieldLink RX7 15 "Swervewright$Route" "moves" "[I", Cond.methodLink RX11 39 yX10_init, Cond.instanceMethod yX10_init, Cond.code yX10_init cX10_init 2 none, Cond.methodLink RX10 3 objectInit, Cond.fieldLink RX10 9 "Swervewright$Word" "kind" "I", Cond.constant RX10 15 (536870912), Cond.fieldLink RX10 16 "Swervewright$Word" "cost" "I", Cond.fieldLink RX10 19 "Swervewright$Word" "arcs" "LSwervewright$Arcs;", Cond.methodLink RX11 48 yX8_init, Cond.instanceMethod yX8_init, Cond.code yX8_init cX8_init 4 none, Cond.methodLink RX8 3 objectInit, Cond.classLink RX8 9 RX7, Cond.fieldLink RX8 12 "Swervewright$Shortener" "rest" "LSwervewright$Route;", Cond.fieldLink RX8 18 "Swervewright$Shortener" "field" "LSwervewright$Field;", Cond.fieldLink RX8 22 "Swervewright$Shortener" "prices" "LSwervewright$Prices;", Cond.classLink RX8 26 RX10, Cond.fieldLink RX8 31 "Swervewright$Shortener" "word" "LSwervewright$Word;", Cond.methodLink RX8 28 yX10_init, Cond.instanceMethod yX3_init, Cond.code yX3_init cX3_init 1 none, Cond.methodLink RX3 1 objectInit]
def wsL_law0_r9 : List Cond := [Cond.fieldLink RX3 7 "Swervewright$Pace" "straight" "I", Cond.fieldLink RX3 13 "Swervewright$Pace" "arc" "I", Cond.fieldLink RX3 16 "Swervewright$Pace" "faster" "I", Cond.fieldLink RX3 19 "Swervewright$Pace" "slower" "I", Cond.arrayClass .float, Cond.fieldLink RX3 22 "Swervewright$Pace" "squares" "[F", Cond.instanceMethod yX4_init, Cond.code yX4_init cX4_init 1 none, Cond.methodLink RX4 3 objectInit, Cond.fieldLink RX4 9 "Swervewright$Polygon" "xs" "[I", Cond.fieldLink RX4 15 "Swervewright$Polygon" "ys" "[I", Cond.methodLink RL 100 yX12_init, Cond.instanceMethod yX12_init, Cond.code yX12_init cX12_init 1 none, Cond.methodLink RX12 1 objectInit, Cond.fieldLink RX12 7 "SwervewrightModel" "cornerX" "[I", Cond.fieldLink RX12 13 "SwervewrightModel" "cornerY" "[I", Cond.fieldLink RX12 16 "SwervewrightModel" "sides" "[I", Cond.fieldLink RX12 19 "SwervewrightModel" "isGone" "[Z", Cond.fieldLink RX12 23 "SwervewrightModel" "atX" "[I", Cond.fieldLink RX12 26 "SwervewrightModel" "atY" "[I", Cond.fieldLink RX12 29 "SwervewrightModel" "isBlocked" "[Z", Cond.fieldLink RX12 32 "SwervewrightModel" "clear" "[I", Cond.fieldLink RX12 35 "SwervewrightModel" "can" "[Z"]
def wsL_law0_r10 : List Cond := [Cond.fieldLink RX12 38 "SwervewrightModel" "still" "[I", Cond.fieldLink RX12 41 "SwervewrightModel" "queue" "[I", Cond.fieldLink RX12 44 "SwervewrightModel" "isWaiting" "[Z", Cond.fieldLink RX12 47 "SwervewrightModel" "begins" "[I", Cond.fieldLink RX12 50 "SwervewrightModel" "many" "[I", Cond.fieldLink RX12 53 "SwervewrightModel" "moves" "[I", Cond.fieldLink RX12 56 "SwervewrightModel" "record" "[I", Cond.fieldLink RX12 59 "SwervewrightModel" "trial" "[I", Cond.fieldLink RX12 62 "SwervewrightModel" "poses" "[I", Cond.fieldLink RX12 65 "SwervewrightModel" "speeds" "[F", Cond.fieldLink RX12 69 "SwervewrightModel" "front" "I", Cond.fieldLink RX12 73 "SwervewrightModel" "behind" "I", Cond.fieldLink RX12 76 "SwervewrightModel" "cuspCost" "I", Cond.fieldLink RX12 79 "SwervewrightModel" "fastStraight" "I", Cond.fieldLink RX12 82 "SwervewrightModel" "fastArc" "I", Cond.fieldLink RX12 85 "SwervewrightModel" "faster" "I", Cond.fieldLink RX12 88 "SwervewrightModel" "slower" "I", Cond.fieldLink RX12 91 "SwervewrightModel" "toldWord" "I", Cond.fieldLink RX12 94 "SwervewrightModel" "toldOne" "I", Cond.fieldLink RX12 97 "SwervewrightModel" "toldTwo" "I", Cond.fieldLink RX12 100 "SwervewrightModel" "toldThree" "I", Cond.methodLink RX12 103 yX12_fields, Cond.instanceMethod yX12_fields, Cond.selects RX12 yX12_fields yX12_fields]
def wsL_law0_r11 : List Cond := [Cond.code yX12_fields cX12_fields 4 (some .int), Cond.fieldLink RX12 161 "SwervewrightModel" "polygons" "I", Cond.methodLink RX12 164 yX12_blocks, Cond.instanceMethod yX12_blocks, Cond.selects RX12 yX12_blocks yX12_blocks, Cond.code yX12_blocks cX12_blocks 8 (some .boolean), Cond.methodLink RX12 148 yX12_crosses, Cond.static yX12_crosses, Cond.code yX12_crosses cX12_crosses 11 (some .boolean), Cond.methodLink RX12 167 yX12_clearOf, Cond.instanceMethod yX12_clearOf, Cond.selects RX12 yX12_clearOf yX12_clearOf, Cond.code yX12_clearOf cX12_clearOf 6 (some .int), Cond.methodLink RX12 152 yX12_apart, Cond.static yX12_apart, Cond.code yX12_apart cX12_apart 2 (some .int), Cond.methodLink RX12 170 yX12_canDrive, Cond.instanceMethod yX12_canDrive, Cond.selects RX12 yX12_canDrive yX12_canDrive, Cond.code yX12_canDrive cX12_canDrive 10 (some .boolean), Cond.methodLink RX12 155 yX12_endOf, Cond.static yX12_endOf, Cond.code yX12_endOf cX12_endOf 5 (some .int), Cond.methodLink RX12 136 yX12_farX]
def wsL_law0_r12 : List Cond := [Cond.static yX12_farX, Cond.code yX12_farX cX12_farX 4 (some .int), Cond.methodLink RX12 122 yX12_isReverse, Cond.static yX12_isReverse, Cond.code yX12_isReverse cX12_isReverse 1 (some .boolean), Cond.methodLink RX12 129 yX12_headingBehind, Cond.static yX12_headingBehind, Cond.code yX12_headingBehind cX12_headingBehind 2 (some .int), Cond.methodLink RX12 126 yX12_turn, Cond.static yX12_turn, Cond.code yX12_turn cX12_turn 1 (some .int), Cond.methodLink RX12 118 yX12_stepX, Cond.static yX12_stepX, Cond.code yX12_stepX cX12_stepX 1 (some .int), Cond.methodLink RX12 110 yX12_in, Cond.static yX12_in, Cond.code yX12_in cX12_in 3 (some .boolean), Cond.methodLink RX12 139 yX12_farY, Cond.static yX12_farY, Cond.code yX12_farY cX12_farY 4 (some .int), Cond.methodLink RX12 133 yX12_stepY, Cond.static yX12_stepY, Cond.code yX12_stepY cX12_stepY 1 (some .int), Cond.methodLink RX12 114 yX12_isCell]
def wsL_law0_r13 : List Cond := [Cond.static yX12_isCell, Cond.code yX12_isCell cX12_isCell 2 (some .boolean), Cond.methodLink RX12 142 yX12_poseAt, Cond.static yX12_poseAt, Cond.code yX12_poseAt cX12_poseAt 3 (some .int), Cond.methodLink RX12 158 yX12_isFreeAt, Cond.instanceMethod yX12_isFreeAt, Cond.selects RX12 yX12_isFreeAt yX12_isFreeAt, Cond.code yX12_isFreeAt cX12_isFreeAt 8 (some .boolean), Cond.methodLink RL 101 yL_corner, Cond.static yL_corner, Cond.initialized RL, Cond.codeWith yL_corner cL_corner 5 (some .int) [(0, 10, 13, 13), (0, 10, 17, 15)], Cond.classLink RL 13 "java/lang/IllegalArgumentException", Cond.methodLink RL 7 yX11_corner, Cond.instanceMethod yX11_corner, Cond.selects RX11 yX11_corner yX11_corner, Cond.code yX11_corner cX11_corner 3 (some .int), Cond.classLink RX11 84 "java/lang/IllegalArgumentException", Cond.initialized "java/lang/IllegalArgumentException", Cond.classLink RX11 95 "java/lang/IllegalStateException", Cond.initialized "java/lang/IllegalStateException", Cond.methodLink RX11 80 yX11_isOutside, Cond.static yX11_isOutside]
def wsL_law0_r14 : List Cond := [Cond.code yX11_isOutside cX11_isOutside 3 (some .boolean), Cond.methodLink RX11 91 yX4_count, Cond.instanceMethod yX4_count, Cond.selects RX4 yX4_count yX4_count, Cond.code yX4_count cX4_count 1 (some .int), Cond.fieldLink RX4 18 "Swervewright$Polygon" "count" "I", Cond.methodLink RX11 100 yX4_add, Cond.instanceMethod yX4_add, Cond.selects RX4 yX4_add yX4_add, Cond.code yX4_add cX4_add 3 none, Cond.methodLink RL 106 yX12_corner, Cond.instanceMethod yX12_corner, Cond.selects RX12 yX12_corner yX12_corner, Cond.code yX12_corner cX12_corner 3 (some .int), Cond.fieldLink RX12 173 "SwervewrightModel" "corners" "I", Cond.methodLink RX12 176 yX12_goes, Cond.instanceMethod yX12_goes, Cond.selects RX12 yX12_goes yX12_goes, Cond.code yX12_goes cX12_goes 4 (some .boolean), Cond.fieldLink RX12 107 "SwervewrightModel" "thrown" "I", Cond.methodLink RL 107 yX12_thrown, Cond.instanceMethod yX12_thrown, Cond.selects RX12 yX12_thrown yX12_thrown, Cond.code yX12_thrown cX12_thrown 1 (some .int)]
def wsL_law0_r15 : List Cond := [Cond.methodLink RL 110 yL_polygon, Cond.static yL_polygon, Cond.codeWith yL_polygon cL_polygon 3 (some .int) [(0, 8, 11, 15)], Cond.classLink RL 15 "java/lang/IllegalStateException", Cond.methodLink RL 17 yX11_polygon, Cond.instanceMethod yX11_polygon, Cond.selects RX11 yX11_polygon yX11_polygon, Cond.code yX11_polygon cX11_polygon 2 (some .int), Cond.methodLink RX11 106 yX1_polygonCount, Cond.instanceMethod yX1_polygonCount, Cond.selects RX1 yX1_polygonCount yX1_polygonCount, Cond.code yX1_polygonCount cX1_polygonCount 1 (some .int), Cond.fieldLink RX1 38 "Swervewright$Field" "polygonCount" "I", Cond.methodLink RX11 111 yX1_add, Cond.instanceMethod yX1_add, Cond.selects RX1 yX1_add yX1_add, Cond.code yX1_add cX1_add 3 (some .int), Cond.methodLink RX1 41 yX1_cover, Cond.instanceMethod yX1_cover, Cond.selects RX1 yX1_cover yX1_cover, Cond.code yX1_cover cX1_cover 5 (some .int), Cond.methodLink RX1 54 yX4_blocks, Cond.instanceMethod yX4_blocks, Cond.selects RX4 yX4_blocks yX4_blocks]
def wsL_law0_r16 : List Cond := [Cond.code yX4_blocks cX4_blocks 7 (some .boolean), Cond.methodLink RX4 22 yX4_yAt, Cond.instanceMethod yX4_yAt, Cond.selects RX4 yX4_yAt yX4_yAt, Cond.code yX4_yAt cX4_yAt 2 (some .int), Cond.methodLink RX4 26 yX4_isCrossed, Cond.instanceMethod yX4_isCrossed, Cond.selects RX4 yX4_isCrossed yX4_isCrossed, Cond.code yX4_isCrossed cX4_isCrossed 9 (some .boolean), Cond.methodLink RX4 30 yX4_xAt, Cond.instanceMethod yX4_xAt, Cond.selects RX4 yX4_xAt yX4_xAt, Cond.code yX4_xAt cX4_xAt 2 (some .int), Cond.methodLink RL 113 yX12_polygon, Cond.instanceMethod yX12_polygon, Cond.selects RX12 yX12_polygon yX12_polygon, Cond.code yX12_polygon cX12_polygon 2 (some .int), Cond.methodLink RL 114 yX11_forget, Cond.instanceMethod yX11_forget, Cond.selects RX11 yX11_forget yX11_forget, Cond.code yX11_forget cX11_forget 2 (some .int), Cond.methodLink RX11 114 yX4_clear, Cond.instanceMethod yX4_clear, Cond.selects RX4 yX4_clear yX4_clear]
def wsL_law0_r17 : List Cond := [Cond.code yX4_clear cX4_clear 1 none, Cond.methodLink RL 117 yX12_forget, Cond.instanceMethod yX12_forget, Cond.selects RX12 yX12_forget yX12_forget, Cond.code yX12_forget cX12_forget 2 (some .int), Cond.methodLink RL 118 yL_takeAway, Cond.static yL_takeAway, Cond.codeWith yL_takeAway cL_takeAway 4 (some .int) [(0, 9, 12, 25), (0, 9, 15, 15)], Cond.classLink RL 25 "java/lang/IndexOutOfBoundsException", Cond.methodLink RL 21 yX11_takeAway, Cond.instanceMethod yX11_takeAway, Cond.selects RX11 yX11_takeAway yX11_takeAway, Cond.code yX11_takeAway cX11_takeAway 2 (some .int), Cond.classLink RX11 117 "java/lang/IndexOutOfBoundsException", Cond.initialized "java/lang/IndexOutOfBoundsException", Cond.methodLink RX11 122 yX1_isGone, Cond.instanceMethod yX1_isGone, Cond.selects RX1 yX1_isGone yX1_isGone, Cond.code yX1_isGone cX1_isGone 2 (some .boolean), Cond.methodLink RX11 128 yX1_remove, Cond.instanceMethod yX1_remove, Cond.selects RX1 yX1_remove yX1_remove, Cond.code yX1_remove cX1_remove 4 (some .int), Cond.methodLink RL 121 yX12_takeAway]
def wsL_law0_r18 : List Cond := [Cond.instanceMethod yX12_takeAway, Cond.selects RX12 yX12_takeAway yX12_takeAway, Cond.code yX12_takeAway cX12_takeAway 4 (some .int), Cond.methodLink RL 122 yL_vehicle, Cond.static yL_vehicle, Cond.codeWith yL_vehicle cL_vehicle 4 (some .int) [(0, 6, 9, 13)], Cond.methodLink RL 27 yX11_vehicle, Cond.instanceMethod yX11_vehicle, Cond.selects RX11 yX11_vehicle yX11_vehicle, Cond.code yX11_vehicle cX11_vehicle 3 none, Cond.methodLink RX11 134 yX1_setVehicle, Cond.instanceMethod yX1_setVehicle, Cond.selects RX1 yX1_setVehicle yX1_setVehicle, Cond.code yX1_setVehicle cX1_setVehicle 3 none, Cond.methodLink RL 125 yX12_vehicle, Cond.instanceMethod yX12_vehicle, Cond.selects RX12 yX12_vehicle yX12_vehicle, Cond.code yX12_vehicle cX12_vehicle 4 none, Cond.methodLink RL 126 yL_cusp, Cond.static yL_cusp, Cond.codeWith yL_cusp cL_cusp 4 (some .int) [(0, 9, 12, 13)], Cond.methodLink RL 31 yX11_cusp, Cond.instanceMethod yX11_cusp, Cond.selects RX11 yX11_cusp yX11_cusp]
def wsL_law0_r19 : List Cond := [Cond.code yX11_cusp cX11_cusp 2 (some .int), Cond.methodLink RX11 139 yX5_setCuspCost, Cond.instanceMethod yX5_setCuspCost, Cond.selects RX5 yX5_setCuspCost yX5_setCuspCost, Cond.code yX5_setCuspCost cX5_setCuspCost 3 (some .int), Cond.methodLink RL 128 yX12_cusp, Cond.instanceMethod yX12_cusp, Cond.selects RX12 yX12_cusp yX12_cusp, Cond.code yX12_cusp cX12_cusp 3 (some .int), Cond.methodLink RL 129 yL_margin, Cond.static yL_margin, Cond.codeWith yL_margin cL_margin 4 (some .int) [(0, 9, 12, 13)], Cond.methodLink RL 34 yX11_margin, Cond.instanceMethod yX11_margin, Cond.selects RX11 yX11_margin yX11_margin, Cond.code yX11_margin cX11_margin 2 (some .int), Cond.methodLink RX11 144 yX5_setMarginCells, Cond.instanceMethod yX5_setMarginCells, Cond.selects RX5 yX5_setMarginCells yX5_setMarginCells, Cond.code yX5_setMarginCells cX5_setMarginCells 3 (some .int), Cond.fieldLink RX5 17 "Swervewright$Prices" "marginCells" "I", Cond.methodLink RL 131 yX12_margin, Cond.instanceMethod yX12_margin, Cond.selects RX12 yX12_margin yX12_margin]
def wsL_law0_r20 : List Cond := [Cond.code yX12_margin cX12_margin 3 (some .int), Cond.fieldLink RX12 180 "SwervewrightModel" "margin" "I", Cond.methodLink RL 132 yL_clearance, Cond.static yL_clearance, Cond.codeWith yL_clearance cL_clearance 5 (some .int) [(0, 10, 13, 25)], Cond.methodLink RL 37 yX11_clearance, Cond.instanceMethod yX11_clearance, Cond.selects RX11 yX11_clearance yX11_clearance, Cond.code yX11_clearance cX11_clearance 3 (some .int), Cond.methodLink RX11 147 yX11_requirePose, Cond.static yX11_requirePose, Cond.code yX11_requirePose cX11_requirePose 4 (some .int), Cond.methodLink RX11 283 yX2_numberOf, Cond.methodLink RX11 151 yX1_clearOf, Cond.methodLink RL 134 yX12_clearance, Cond.instanceMethod yX12_clearance, Cond.selects RX12 yX12_clearance yX12_clearance, Cond.code yX12_clearance cX12_clearance 3 (some .int), Cond.methodLink RL 135 yL_isFree, Cond.static yL_isFree, Cond.codeWith yL_isFree cL_isFree 6 (some .int) [(0, 19, 22, 25)], Cond.methodLink RL 40 yX11_isFree, Cond.instanceMethod yX11_isFree, Cond.selects RX11 yX11_isFree yX11_isFree]
def wsL_law0_r21 : List Cond := [Cond.code yX11_isFree cX11_isFree 4 (some .boolean), Cond.methodLink RX11 154 yX1_isOpen, Cond.instanceMethod yX1_isOpen, Cond.selects RX1 yX1_isOpen yX1_isOpen, Cond.code yX1_isOpen cX1_isOpen 2 (some .boolean), Cond.methodLink RL 138 yX12_isFree, Cond.instanceMethod yX12_isFree, Cond.selects RX12 yX12_isFree yX12_isFree, Cond.code yX12_isFree cX12_isFree 4 (some .boolean), Cond.methodLink RX12 183 yX12_isPose, Cond.static yX12_isPose, Cond.code yX12_isPose cX12_isPose 3 (some .boolean), Cond.methodLink RL 139 yL_word, Cond.static yL_word, Cond.codeWith yL_word cL_word 9 (some .int) [(0, 18, 21, 25)], Cond.methodLink RL 44 yX11_word, Cond.instanceMethod yX11_word, Cond.selects RX11 yX11_word yX11_word, Cond.code yX11_word cX11_word 9 (some .int), Cond.methodLink RX11 157 yX10_find, Cond.instanceMethod yX10_find, Cond.selects RX10 yX10_find yX10_find, Cond.code yX10_find cX10_find 5 none, Cond.methodLink RX10 54 yX10_tryStraights]
def wsL_law0_r22 : List Cond := [Cond.instanceMethod yX10_tryStraights, Cond.selects RX10 yX10_tryStraights yX10_tryStraights, Cond.code yX10_tryStraights cX10_tryStraights 14 none, Cond.methodLink RX10 85 Lib.Math.abs.name, Cond.static Lib.Math.abs.name, Cond.code Lib.Math.abs.name Lib.Math.abs.code 1 (some .int), Cond.methodLink RX10 90 Lib.Math.max.name, Cond.static Lib.Math.max.name, Cond.code Lib.Math.max.name Lib.Math.max.code 2 (some .int), Cond.methodLink RX10 61 yX2_headingOf, Cond.methodLink RX10 42 yX10_firstMove, Cond.static yX10_firstMove, Cond.code yX10_firstMove cX10_firstMove 1 (some .int), Cond.fieldLink RX10 23 "Swervewright$Word" "FIRST" "[I", Cond.methodLink RX10 64 yX2_turnOf, Cond.static yX2_turnOf, Cond.code yX2_turnOf cX2_turnOf 1 (some .int), Cond.methodLink RX10 49 yX10_thirdMove, Cond.static yX10_thirdMove, Cond.code yX10_thirdMove cX10_thirdMove 1 (some .int), Cond.fieldLink RX10 30 "Swervewright$Word" "THIRD" "[I", Cond.methodLink RX10 67 yX10_arcsBetween, Cond.static yX10_arcsBetween, Cond.code yX10_arcsBetween cX10_arcsBetween 3 (some .int)]
def wsL_law0_r23 : List Cond := [Cond.methodLink RX10 71 yX2_xOf, Cond.methodLink RX10 74 yX0_x, Cond.instanceMethod yX0_x, Cond.selects RX0 yX0_x yX0_x, Cond.code yX0_x cX0_x 5 (some .int), Cond.methodLink RX10 79 yX2_yOf, Cond.methodLink RX10 82 yX0_y, Cond.instanceMethod yX0_y, Cond.selects RX0 yX0_y yX0_y, Cond.code yX0_y cX0_y 5 (some .int), Cond.methodLink RX10 94 yX2_stepX, Cond.methodLink RX10 97 yX2_stepY, Cond.methodLink RX10 100 yX2_stepsCost, Cond.static yX2_stepsCost, Cond.code yX2_stepsCost cX2_stepsCost 2 (some .int), Cond.methodLink RX2 55 yX2_isArc, Cond.static yX2_isArc, Cond.code yX2_isArc cX2_isArc 1 (some .boolean), Cond.methodLink RX2 61 yX2_isEven, Cond.static yX2_isEven, Cond.code yX2_isEven cX2_isEven 1 (some .boolean), Cond.methodLink RX10 103 yX10_offer, Cond.instanceMethod yX10_offer, Cond.selects RX10 yX10_offer yX10_offer]
def wsL_law0_r24 : List Cond := [Cond.code yX10_offer cX10_offer 6 none, Cond.fieldLink RX10 33 "Swervewright$Word" "first" "I", Cond.fieldLink RX10 36 "Swervewright$Word" "second" "I", Cond.fieldLink RX10 39 "Swervewright$Word" "third" "I", Cond.methodLink RX10 58 yX10_tryArcs, Cond.instanceMethod yX10_tryArcs, Cond.selects RX10 yX10_tryArcs yX10_tryArcs, Cond.code yX10_tryArcs cX10_tryArcs 13 none, Cond.methodLink RX11 160 yX10_costOrNone, Cond.instanceMethod yX10_costOrNone, Cond.selects RX10 yX10_costOrNone yX10_costOrNone, Cond.code yX10_costOrNone cX10_costOrNone 1 (some .int), Cond.methodLink RL 142 yX12_word, Cond.instanceMethod yX12_word, Cond.selects RX12 yX12_word yX12_word, Cond.code yX12_word cX12_word 8 (some .int), Cond.fieldLink RX12 186 "SwervewrightModel" "word" "I", Cond.fieldLink RX12 189 "SwervewrightModel" "one" "I", Cond.fieldLink RX12 192 "SwervewrightModel" "two" "I", Cond.fieldLink RX12 195 "SwervewrightModel" "three" "I", Cond.methodLink RX12 204 yX12_are, Cond.static yX12_are, Cond.code yX12_are cX12_are 6 (some .boolean), Cond.methodLink RX12 207 yX12_findsWord]
def wsL_law0_r25 : List Cond := [Cond.instanceMethod yX12_findsWord, Cond.selects RX12 yX12_findsWord yX12_findsWord, Cond.code yX12_findsWord cX12_findsWord 24 (some .int), Cond.methodLink RX12 198 yX12_kindOf, Cond.static yX12_kindOf, Cond.code yX12_kindOf cX12_kindOf 2 (some .int), Cond.methodLink RX12 201 yX12_steps, Cond.static yX12_steps, Cond.code yX12_steps cX12_steps 2 (some .int), Cond.methodLink RL 143 yL_found, Cond.static yL_found, Cond.codeWith yL_found cL_found 4 (some .int) [(0, 9, 12, 13)], Cond.methodLink RL 48 yX11_found, Cond.instanceMethod yX11_found, Cond.selects RX11 yX11_found yX11_found, Cond.code yX11_found cX11_found 2 (some .int), Cond.methodLink RX11 165 yX10_tell, Cond.instanceMethod yX10_tell, Cond.selects RX10 yX10_tell yX10_tell, Cond.code yX10_tell cX10_tell 2 (some .int), Cond.methodLink RL 145 yX12_found, Cond.instanceMethod yX12_found, Cond.selects RX12 yX12_found yX12_found, Cond.code yX12_found cX12_found 2 (some .int)]
def wsL_law0_r26 : List Cond := [Cond.methodLink RL 146 yL_cheapest, Cond.static yL_cheapest, Cond.codeWith yL_cheapest cL_cheapest 10 (some .int) [(0, 20, 23, 25)], Cond.methodLink RL 51 yX11_cheapest, Cond.instanceMethod yX11_cheapest, Cond.selects RX11 yX11_cheapest yX11_cheapest, Cond.code yX11_cheapest cX11_cheapest 10 (some .int), Cond.methodLink RX11 168 yX9_costFromEnd, Cond.instanceMethod yX9_costFromEnd, Cond.selects RX9 yX9_costFromEnd yX9_costFromEnd, Cond.code yX9_costFromEnd cX9_costFromEnd 4 (some .int), Cond.methodLink RX9 33 yX9_searched, Cond.instanceMethod yX9_searched, Cond.selects RX9 yX9_searched yX9_searched, Cond.code yX9_searched cX9_searched 9 (some .int), Cond.methodLink RX9 37 yX1_isOpen, Cond.methodLink RX9 43 yX6_clear, Cond.instanceMethod yX6_clear, Cond.selects RX6 yX6_clear yX6_clear, Cond.code yX6_clear cX6_clear 1 none, Cond.constant RX6 24 (536870912), Cond.fieldLink RX6 31 "Swervewright$Queue" "waiting" "I", Cond.fieldLink RX6 35 "Swervewright$Queue" "level" "I", Cond.methodLink RX6 25 yJ7_fill_53178]
def wsL_law0_r27 : List Cond := [Cond.static yJ7_fill_53178, Cond.initialized RJ7, Cond.code yJ7_fill_53178 cJ7_fill_53178 4 none, Cond.methodLink RX9 46 yX9_stateOf, Cond.static yX9_stateOf, Cond.code yX9_stateOf cX9_stateOf 2 (some .int), Cond.methodLink RX9 50 yX6_lower, Cond.instanceMethod yX6_lower, Cond.selects RX6 yX6_lower yX6_lower, Cond.code yX6_lower cX6_lower 3 none, Cond.methodLink RX6 38 yX6_isState, Cond.instanceMethod yX6_isState, Cond.selects RX6 yX6_isState yX6_isState, Cond.code yX6_isState cX6_isState 2 (some .boolean), Cond.methodLink RX6 42 yX6_unlink, Cond.instanceMethod yX6_unlink, Cond.selects RX6 yX6_unlink yX6_unlink, Cond.code yX6_unlink cX6_unlink 4 none, Cond.methodLink RX6 46 yX6_link, Cond.instanceMethod yX6_link, Cond.selects RX6 yX6_link yX6_link, Cond.code yX6_link cX6_link 4 none, Cond.methodLink RX9 54 yX6_take, Cond.instanceMethod yX6_take]
def wsL_law0_r28 : List Cond := [Cond.selects RX6 yX6_take yX6_take, Cond.code yX6_take cX6_take 3 (some .int), Cond.methodLink RX9 58 yX6_costOf, Cond.instanceMethod yX6_costOf, Cond.selects RX6 yX6_costOf yX6_costOf, Cond.code yX6_costOf cX6_costOf 2 (some .int), Cond.methodLink RX9 62 yX9_spreadAgainst, Cond.instanceMethod yX9_spreadAgainst, Cond.selects RX9 yX9_spreadAgainst yX9_spreadAgainst, Cond.code yX9_spreadAgainst cX9_spreadAgainst 9 none, Cond.methodLink RX9 87 yX2_oppositeOf, Cond.static yX2_oppositeOf, Cond.code yX2_oppositeOf cX2_oppositeOf 1 (some .int), Cond.methodLink RX2 18 yX2_isBack, Cond.static yX2_isBack, Cond.code yX2_isBack cX2_isBack 1 (some .boolean), Cond.methodLink RX9 69 yX1_driven, Cond.instanceMethod yX1_driven, Cond.selects RX1 yX1_driven yX1_driven, Cond.code yX1_driven cX1_driven 7 (some .int), Cond.methodLink RX1 95 yX2_wayOf, Cond.static yX2_wayOf, Cond.code yX2_wayOf cX2_wayOf 1 (some .int), Cond.methodLink RX1 98 yX1_isOpen]
def wsL_law0_r29 : List Cond := [Cond.methodLink RX1 101 yX2_isArc, Cond.methodLink RX1 104 yX2_turned, Cond.static yX2_turned, Cond.code yX2_turned cX2_turned 3 (some .int), Cond.methodLink RX2 42 yX2_wayOf, Cond.methodLink RX2 45 yX2_turnOf, Cond.methodLink RX2 48 yX2_cellOf, Cond.methodLink RX9 83 yX5_ofMove, Cond.instanceMethod yX5_ofMove, Cond.selects RX5 yX5_ofMove yX5_ofMove, Cond.code yX5_ofMove cX5_ofMove 5 (some .int), Cond.methodLink RX5 32 Lib.Math.max.name, Cond.methodLink RX5 26 yX1_clearOf, Cond.methodLink RX5 38 yX2_headingOf, Cond.methodLink RX5 41 yX2_stepsCost, Cond.methodLink RX9 78 yX5_cuspCost, Cond.instanceMethod yX5_cuspCost, Cond.selects RX5 yX5_cuspCost yX5_cuspCost, Cond.code yX5_cuspCost cX5_cuspCost 1 (some .int), Cond.methodLink RX9 66 yX9_spreadAlong, Cond.instanceMethod yX9_spreadAlong, Cond.selects RX9 yX9_spreadAlong yX9_spreadAlong, Cond.code yX9_spreadAlong cX9_spreadAlong 10 none, Cond.methodLink RX9 73 yX2_isBack]
def wsL_law0_r30 : List Cond := [Cond.methodLink RL 149 yX12_cheapest, Cond.instanceMethod yX12_cheapest, Cond.selects RX12 yX12_cheapest yX12_cheapest, Cond.code yX12_cheapest cX12_cheapest 8 (some .int), Cond.methodLink RX12 233 yX12_ways, Cond.instanceMethod yX12_ways, Cond.selects RX12 yX12_ways yX12_ways, Cond.code yX12_ways cX12_ways 5 (some .int), Cond.constant RX12 213 (1000000), Cond.fieldLink RX12 220 "SwervewrightModel" "waiting" "I", Cond.fieldLink RX12 217 "SwervewrightModel" "queueFrom" "I", Cond.methodLink RX12 223 yX12_lowers, Cond.instanceMethod yX12_lowers, Cond.selects RX12 yX12_lowers yX12_lowers, Cond.code yX12_lowers cX12_lowers 3 none, Cond.methodLink RX12 227 yX12_goesBack, Cond.instanceMethod yX12_goesBack, Cond.selects RX12 yX12_goesBack yX12_goesBack, Cond.code yX12_goesBack cX12_goesBack 7 none, Cond.methodLink RX12 210 yX12_costOf, Cond.instanceMethod yX12_costOf, Cond.selects RX12 yX12_costOf yX12_costOf, Cond.code yX12_costOf cX12_costOf 5 (some .int), Cond.methodLink RX12 230 yX12_leastBy]
def wsL_law0_r31 : List Cond := [Cond.instanceMethod yX12_leastBy, Cond.selects RX12 yX12_leastBy yX12_leastBy, Cond.code yX12_leastBy cX12_leastBy 7 (some .int), Cond.methodLink RX12 214 yX12_by, Cond.instanceMethod yX12_by, Cond.selects RX12 yX12_by yX12_by, Cond.code yX12_by cX12_by 6 (some .int), Cond.methodLink RL 150 yL_cheapestAnew, Cond.static yL_cheapestAnew, Cond.codeWith yL_cheapestAnew cL_cheapestAnew 10 (some .int) [(0, 20, 23, 25)], Cond.methodLink RL 55 yX11_cheapestAnew, Cond.instanceMethod yX11_cheapestAnew, Cond.selects RX11 yX11_cheapestAnew yX11_cheapestAnew, Cond.code yX11_cheapestAnew cX11_cheapestAnew 10 (some .int), Cond.methodLink RX11 172 yX9_costFromStart, Cond.instanceMethod yX9_costFromStart, Cond.selects RX9 yX9_costFromStart yX9_costFromStart, Cond.code yX9_costFromStart cX9_costFromStart 4 (some .int), Cond.methodLink RL 152 yX12_cheapestAnew, Cond.instanceMethod yX12_cheapestAnew, Cond.selects RX12 yX12_cheapestAnew yX12_cheapestAnew, Cond.code yX12_cheapestAnew cX12_cheapestAnew 8 (some .int), Cond.methodLink RX12 236 yX12_cheapest, Cond.methodLink RL 153 yL_plan]
def wsL_law0_r32 : List Cond := [Cond.static yL_plan, Cond.codeWith yL_plan cL_plan 10 (some .int) [(0, 20, 23, 25), (0, 20, 27, 15)], Cond.methodLink RL 58 yX11_plan, Cond.instanceMethod yX11_plan, Cond.selects RX11 yX11_plan yX11_plan, Cond.code yX11_plan cX11_plan 10 (some .int), Cond.methodLink RX11 175 yX11_requireRoomForPlan, Cond.instanceMethod yX11_requireRoomForPlan, Cond.selects RX11 yX11_requireRoomForPlan yX11_requireRoomForPlan, Cond.code yX11_requireRoomForPlan cX11_requireRoomForPlan 1 none, Cond.fieldLink RX11 297 "Swervewright" "planCount" "I", Cond.methodLink RX11 180 yX9_trace, Cond.instanceMethod yX9_trace, Cond.selects RX9 yX9_trace yX9_trace, Cond.code yX9_trace cX9_trace 8 (some (.object "Swervewright$Route")), Cond.methodLink RX9 94 Lib.Math.min.name, Cond.methodLink RX9 90 yX7_restart, Cond.instanceMethod yX7_restart, Cond.selects RX7 yX7_restart yX7_restart, Cond.code yX7_restart cX7_restart 2 none, Cond.fieldLink RX7 18 "Swervewright$Route" "count" "I", Cond.methodLink RX9 99 yX7_lastPose, Cond.instanceMethod yX7_lastPose, Cond.selects RX7 yX7_lastPose yX7_lastPose]
def wsL_law0_r33 : List Cond := [Cond.code yX7_lastPose cX7_lastPose 1 (some .int), Cond.methodLink RX7 33 yX7_poseAt, Cond.instanceMethod yX7_poseAt, Cond.selects RX7 yX7_poseAt yX7_poseAt, Cond.code yX7_poseAt cX7_poseAt 2 (some .int), Cond.methodLink RX9 102 yX9_lowestMove, Cond.instanceMethod yX9_lowestMove, Cond.selects RX9 yX9_lowestMove yX9_lowestMove, Cond.code yX9_lowestMove cX9_lowestMove 8 (some .int), Cond.methodLink RX9 111 yX7_lastMove, Cond.instanceMethod yX7_lastMove, Cond.selects RX7 yX7_lastMove yX7_lastMove, Cond.code yX7_lastMove cX7_lastMove 1 (some .int), Cond.methodLink RX7 48 yX7_moveAt, Cond.instanceMethod yX7_moveAt, Cond.selects RX7 yX7_moveAt yX7_moveAt, Cond.code yX7_moveAt cX7_moveAt 2 (some .int), Cond.methodLink RX9 114 yX5_turnaround, Cond.instanceMethod yX5_turnaround, Cond.selects RX5 yX5_turnaround yX5_turnaround, Cond.code yX5_turnaround cX5_turnaround 3 (some .int), Cond.methodLink RX5 20 yX2_isCusp, Cond.static yX2_isCusp, Cond.code yX2_isCusp cX2_isCusp 2 (some .boolean)]
def wsL_law0_r34 : List Cond := [Cond.methodLink RX9 105 yX2_ended, Cond.static yX2_ended, Cond.code yX2_ended cX2_ended 3 (some .int), Cond.methodLink RX2 51 yX2_stepped, Cond.methodLink RX2 58 yX2_turned, Cond.methodLink RX9 108 yX7_add, Cond.instanceMethod yX7_add, Cond.selects RX7 yX7_add yX7_add, Cond.code yX7_add cX7_add 3 none, Cond.methodLink RX7 22 yX7_grow, Cond.instanceMethod yX7_grow, Cond.selects RX7 yX7_grow yX7_grow, Cond.code yX7_grow cX7_grow 1 none, Cond.constant RX7 25 (65536), Cond.methodLink RX7 26 yJ7_copyOf_59c91, Cond.static yJ7_copyOf_59c91, Cond.code yJ7_copyOf_59c91 cJ7_copyOf_59c91 3 (some (.array .int)), Cond.methodLink RJ7 316 ⟨"[I", "clone", "()Ljava/lang/Object;"⟩, Cond.sameMethod "[I" "java/lang/Object" "clone" "()Ljava/lang/Object;", Cond.native ⟨"java/lang/Object", "clone", "()Ljava/lang/Object;"⟩, Cond.instanceMethod ⟨"java/lang/Object", "clone", "()Ljava/lang/Object;"⟩, Cond.selects "[I" ⟨"[I", "clone", "()Ljava/lang/Object;"⟩ ⟨"java/lang/Object", "clone", "()Ljava/lang/Object;"⟩, Cond.classLink RJ7 317 "[I", Cond.methodLink RJ7 304 Lib.Math.min.name]
def wsL_law0_r35 : List Cond := [Cond.methodLink RJ7 150 arraycopyName, Cond.native arraycopyName, Cond.static arraycopyName, Cond.initialized "java/lang/System", Cond.methodLink RX11 184 yX11_addPlan, Cond.instanceMethod yX11_addPlan, Cond.selects RX11 yX11_addPlan yX11_addPlan, Cond.code yX11_addPlan cX11_addPlan 3 (some .int), Cond.methodLink RX11 303 yX7_copied, Cond.instanceMethod yX7_copied, Cond.selects RX7 yX7_copied yX7_copied, Cond.code yX7_copied cX7_copied 2 (some (.object "Swervewright$Route")), Cond.classLink RX7 10 RX7, Cond.methodLink RX7 32 yX7_init, Cond.methodLink RX7 37 yX7_restart, Cond.methodLink RX7 41 yX7_addFrom, Cond.instanceMethod yX7_addFrom, Cond.selects RX7 yX7_addFrom yX7_addFrom, Cond.code yX7_addFrom cX7_addFrom 5 none, Cond.methodLink RX7 45 yX7_count, Cond.instanceMethod yX7_count, Cond.selects RX7 yX7_count yX7_count, Cond.code yX7_count cX7_count 1 (some .int), Cond.methodLink RX7 51 yX7_add]
def wsL_law0_r36 : List Cond := [Cond.methodLink RL 155 yX12_plan, Cond.instanceMethod yX12_plan, Cond.selects RX12 yX12_plan yX12_plan, Cond.code yX12_plan cX12_plan 12 (some .int), Cond.fieldLink RX12 240 "SwervewrightModel" "plans" "I", Cond.methodLink RX12 243 yX12_writes, Cond.instanceMethod yX12_writes, Cond.selects RX12 yX12_writes yX12_writes, Cond.code yX12_writes cX12_writes 11 (some .int), Cond.methodLink RL 156 yL_begin, Cond.static yL_begin, Cond.codeWith yL_begin cL_begin 5 (some .int) [(0, 7, 10, 25), (0, 7, 14, 15)], Cond.methodLink RL 61 yX11_begin, Cond.instanceMethod yX11_begin, Cond.selects RX11 yX11_begin yX11_begin, Cond.code yX11_begin cX11_begin 5 none, Cond.fieldLink RX11 194 "Swervewright" "isRecording" "Z", Cond.methodLink RX11 190 yX7_restart, Cond.methodLink RL 159 yX12_begin, Cond.instanceMethod yX12_begin, Cond.selects RX12 yX12_begin yX12_begin, Cond.code yX12_begin cX12_begin 5 none, Cond.fieldLink RX12 247 "SwervewrightModel" "isRecording" "Z", Cond.fieldLink RX12 251 "SwervewrightModel" "recordedFrom" "I"]
def wsL_law0_r37 : List Cond := [Cond.fieldLink RX12 254 "SwervewrightModel" "recordedAt" "I", Cond.fieldLink RX12 257 "SwervewrightModel" "recorded" "I", Cond.methodLink RL 160 yL_drive, Cond.static yL_drive, Cond.codeWith yL_drive cL_drive 4 (some .int) [(0, 9, 12, 25), (0, 9, 15, 15)], Cond.methodLink RL 65 yX11_drive, Cond.instanceMethod yX11_drive, Cond.selects RX11 yX11_drive yX11_drive, Cond.code yX11_drive cX11_drive 3 (some .int), Cond.methodLink RX11 200 yX11_requireRecording, Cond.instanceMethod yX11_requireRecording, Cond.selects RX11 yX11_requireRecording yX11_requireRecording, Cond.code yX11_requireRecording cX11_requireRecording 1 none, Cond.methodLink RX11 203 yX7_count, Cond.methodLink RX11 206 yX7_lastPose, Cond.methodLink RX11 209 yX1_driven, Cond.methodLink RX11 215 yX7_add, Cond.methodLink RL 162 yX12_drive, Cond.instanceMethod yX12_drive, Cond.selects RX12 yX12_drive yX12_drive, Cond.code yX12_drive cX12_drive 3 (some .int), Cond.methodLink RL 163 yL_keep, Cond.static yL_keep, Cond.codeWith yL_keep cL_keep 3 (some .int) [(0, 8, 11, 15)]]
def wsL_law0_r38 : List Cond := [Cond.methodLink RL 68 yX11_keep, Cond.instanceMethod yX11_keep, Cond.selects RX11 yX11_keep yX11_keep, Cond.code yX11_keep cX11_keep 1 (some .int), Cond.methodLink RL 165 yX12_keep, Cond.instanceMethod yX12_keep, Cond.selects RX12 yX12_keep yX12_keep, Cond.code yX12_keep cX12_keep 2 (some .int), Cond.methodLink RL 166 yL_shorten, Cond.static yL_shorten, Cond.codeWith yL_shorten cL_shorten 4 (some .int) [(0, 9, 12, 25), (0, 9, 15, 15)], Cond.methodLink RL 71 yX11_shorten, Cond.instanceMethod yX11_shorten, Cond.selects RX11 yX11_shorten yX11_shorten, Cond.code yX11_shorten cX11_shorten 3 (some .int), Cond.methodLink RX11 216 yX11_requirePlan, Cond.instanceMethod yX11_requirePlan, Cond.selects RX11 yX11_requirePlan yX11_requirePlan, Cond.code yX11_requirePlan cX11_requirePlan 3 (some (.object "Swervewright$Route")), Cond.methodLink RX11 220 yX1_canDrive, Cond.instanceMethod yX1_canDrive, Cond.selects RX1 yX1_canDrive yX1_canDrive, Cond.code yX1_canDrive cX1_canDrive 4 (some .boolean), Cond.methodLink RX1 107 yX7_poseAt]
def wsL_law0_r39 : List Cond := [Cond.methodLink RX1 112 yX7_count, Cond.methodLink RX1 116 yX7_moveAt, Cond.methodLink RX1 119 yX1_driven, Cond.methodLink RX11 226 yX8_saveOn, Cond.instanceMethod yX8_saveOn, Cond.selects RX8 yX8_saveOn yX8_saveOn, Cond.code yX8_saveOn cX8_saveOn 4 (some .int), Cond.constant RX8 41 (1000000), Cond.methodLink RX8 35 yX5_costOf, Cond.instanceMethod yX5_costOf, Cond.selects RX5 yX5_costOf yX5_costOf, Cond.code yX5_costOf cX5_costOf 2 (some .int), Cond.methodLink RX5 44 yX7_count, Cond.methodLink RX5 50 yX5_between, Cond.instanceMethod yX5_between, Cond.selects RX5 yX5_between yX5_between, Cond.code yX5_between cX5_between 7 (some .int), Cond.methodLink RX5 54 yX7_moveAt, Cond.methodLink RX5 57 yX5_turnaround, Cond.methodLink RX5 60 yX7_poseAt, Cond.methodLink RX5 63 yX5_ofMove, Cond.methodLink RX8 42 yX7_count, Cond.methodLink RX8 46 yX8_saveFrom, Cond.instanceMethod yX8_saveFrom]
def wsL_law0_r40 : List Cond := [Cond.selects RX8 yX8_saveFrom yX8_saveFrom, Cond.code yX8_saveFrom cX8_saveFrom 5 none, Cond.methodLink RX8 50 yX7_poseAt, Cond.methodLink RX8 54 yX10_find, Cond.methodLink RX8 58 yX8_wordBetween, Cond.instanceMethod yX8_wordBetween, Cond.selects RX8 yX8_wordBetween yX8_wordBetween, Cond.code yX8_wordBetween cX8_wordBetween 10 (some .int), Cond.methodLink RX8 69 yX10_costOrNone, Cond.methodLink RX8 72 yX7_moveAt, Cond.methodLink RX8 75 yX10_length, Cond.instanceMethod yX10_length, Cond.selects RX10 yX10_length yX10_length, Cond.code yX10_length cX10_length 1 (some .int), Cond.methodLink RX8 78 yX10_moveAt, Cond.instanceMethod yX10_moveAt, Cond.selects RX10 yX10_moveAt yX10_moveAt, Cond.code yX10_moveAt cX10_moveAt 2 (some .int), Cond.methodLink RX10 46 yX10_secondMove, Cond.static yX10_secondMove, Cond.code yX10_secondMove cX10_secondMove 1 (some .int), Cond.fieldLink RX10 27 "Swervewright$Word" "SECOND" "[I", Cond.methodLink RX8 79 yX1_driven, Cond.methodLink RX8 85 yX5_ofMove]
def wsL_law0_r41 : List Cond := [Cond.methodLink RX8 89 yX5_turnaround, Cond.methodLink RX8 62 yX5_between, Cond.methodLink RX8 65 yX8_put, Cond.instanceMethod yX8_put, Cond.selects RX8 yX8_put yX8_put, Cond.code yX8_put cX8_put 6 none, Cond.methodLink RX8 92 yX7_restart, Cond.methodLink RX8 96 yX7_addFrom, Cond.methodLink RX8 99 yX7_cutAt, Cond.instanceMethod yX7_cutAt, Cond.selects RX7 yX7_cutAt yX7_cutAt, Cond.code yX7_cutAt cX7_cutAt 2 none, Cond.methodLink RX8 102 yX7_lastPose, Cond.methodLink RX8 105 yX2_ended, Cond.methodLink RX8 110 yX7_add, Cond.methodLink RL 168 yX12_shorten, Cond.instanceMethod yX12_shorten, Cond.selects RX12 yX12_shorten yX12_shorten, Cond.code yX12_shorten cX12_shorten 5 (some .int), Cond.methodLink RX12 282 yX12_isPlan, Cond.instanceMethod yX12_isPlan, Cond.selects RX12 yX12_isPlan yX12_isPlan, Cond.code yX12_isPlan cX12_isPlan 2 (some .boolean), Cond.methodLink RX12 285 yX12_isDriven]
def wsL_law0_r42 : List Cond := [Cond.instanceMethod yX12_isDriven, Cond.selects RX12 yX12_isDriven yX12_isDriven, Cond.code yX12_isDriven cX12_isDriven 5 (some .boolean), Cond.methodLink RX12 263 yX12_goesThrough, Cond.instanceMethod yX12_goesThrough, Cond.selects RX12 yX12_goesThrough yX12_goesThrough, Cond.code yX12_goesThrough cX12_goesThrough 3 none, Cond.methodLink RX12 260 yX12_moveAt, Cond.instanceMethod yX12_moveAt, Cond.selects RX12 yX12_moveAt yX12_moveAt, Cond.code yX12_moveAt cX12_moveAt 3 (some .int), Cond.methodLink RX12 273 yX12_planCost, Cond.instanceMethod yX12_planCost, Cond.selects RX12 yX12_planCost yX12_planCost, Cond.code yX12_planCost cX12_planCost 4 (some .int), Cond.methodLink RX12 267 yX12_isCusp, Cond.instanceMethod yX12_isCusp, Cond.selects RX12 yX12_isCusp yX12_isCusp, Cond.code yX12_isCusp cX12_isCusp 3 (some .boolean), Cond.methodLink RX12 288 yX12_shortens, Cond.instanceMethod yX12_shortens, Cond.selects RX12 yX12_shortens yX12_shortens, Cond.code yX12_shortens cX12_shortens 6 (some .boolean), Cond.fieldLink RX12 270 "SwervewrightModel" "tried" "I"]
def wsL_law0_r43 : List Cond := [Cond.methodLink RX12 276 yX12_tries, Cond.instanceMethod yX12_tries, Cond.selects RX12 yX12_tries yX12_tries, Cond.code yX12_tries cX12_tries 8 (some .boolean), Cond.methodLink RX12 279 yX12_trialCost, Cond.instanceMethod yX12_trialCost, Cond.selects RX12 yX12_trialCost yX12_trialCost, Cond.code yX12_trialCost cX12_trialCost 5 (some .int), Cond.methodLink RL 169 yL_planOf, Cond.static yL_planOf, Cond.codeWith yL_planOf cL_planOf 5 (some .int) [(0, 10, 13, 25), (0, 10, 17, 13)], Cond.methodLink RL 74 yX11_planOf, Cond.instanceMethod yX11_planOf, Cond.selects RX11 yX11_planOf yX11_planOf, Cond.code yX11_planOf cX11_planOf 4 (some .int), Cond.methodLink RX11 229 yX5_costOf, Cond.methodLink RX11 232 yX7_cuspCount, Cond.instanceMethod yX7_cuspCount, Cond.selects RX7 yX7_cuspCount yX7_cuspCount, Cond.code yX7_cuspCount cX7_cuspCount 3 (some .int), Cond.methodLink RX7 61 yX7_isCuspAt, Cond.instanceMethod yX7_isCuspAt, Cond.selects RX7 yX7_isCuspAt yX7_isCuspAt, Cond.code yX7_isCuspAt cX7_isCuspAt 2 (some .boolean)]
def wsL_law0_r44 : List Cond := [Cond.methodLink RX7 55 yX2_isCusp, Cond.methodLink RX11 235 yX7_segmentCount, Cond.instanceMethod yX7_segmentCount, Cond.selects RX7 yX7_segmentCount yX7_segmentCount, Cond.code yX7_segmentCount cX7_segmentCount 3 (some .int), Cond.methodLink RL 171 yX12_planOf, Cond.instanceMethod yX12_planOf, Cond.selects RX12 yX12_planOf yX12_planOf, Cond.code yX12_planOf cX12_planOf 3 (some .int), Cond.methodLink RX12 291 yX12_cusps, Cond.instanceMethod yX12_cusps, Cond.selects RX12 yX12_cusps yX12_cusps, Cond.code yX12_cusps cX12_cusps 4 (some .int), Cond.methodLink RX12 294 yX12_segments, Cond.instanceMethod yX12_segments, Cond.selects RX12 yX12_segments yX12_segments, Cond.code yX12_segments cX12_segments 4 (some .int), Cond.methodLink RL 172 yL_moveOf, Cond.static yL_moveOf, Cond.codeWith yL_moveOf cL_moveOf 5 (some .int) [(0, 10, 13, 25)], Cond.methodLink RL 77 yX11_moveOf, Cond.instanceMethod yX11_moveOf, Cond.selects RX11 yX11_moveOf yX11_moveOf, Cond.code yX11_moveOf cX11_moveOf 4 (some .int)]
def wsL_law0_r45 : List Cond := [Cond.methodLink RX11 240 yX7_moveAt, Cond.methodLink RL 174 yX12_moveOf, Cond.instanceMethod yX12_moveOf, Cond.selects RX12 yX12_moveOf yX12_moveOf, Cond.code yX12_moveOf cX12_moveOf 3 (some .int), Cond.methodLink RX12 297 yX12_isAt, Cond.instanceMethod yX12_isAt, Cond.selects RX12 yX12_isAt yX12_isAt, Cond.code yX12_isAt cX12_isAt 4 (some .boolean), Cond.methodLink RL 175 yL_poseOf, Cond.static yL_poseOf, Cond.codeWith yL_poseOf cL_poseOf 5 (some .int) [(0, 10, 13, 25)], Cond.methodLink RL 80 yX11_poseOf, Cond.instanceMethod yX11_poseOf, Cond.selects RX11 yX11_poseOf yX11_poseOf, Cond.code yX11_poseOf cX11_poseOf 4 (some .int), Cond.methodLink RX11 243 yX11_requirePlanPose, Cond.static yX11_requirePlanPose, Cond.code yX11_requirePlanPose cX11_requirePlanPose 3 (some .int), Cond.methodLink RX11 290 yX7_poseAt, Cond.methodLink RX11 247 yX2_headingOf, Cond.methodLink RX11 252 yX2_cellOf, Cond.methodLink RL 177 yX12_poseOf, Cond.instanceMethod yX12_poseOf]
def wsL_law0_r46 : List Cond := [Cond.selects RX12 yX12_poseOf yX12_poseOf, Cond.code yX12_poseOf cX12_poseOf 3 (some .int), Cond.methodLink RL 178 yL_segment, Cond.static yL_segment, Cond.codeWith yL_segment cL_segment 5 (some .int) [(0, 10, 13, 25)], Cond.methodLink RL 83 yX11_segment, Cond.instanceMethod yX11_segment, Cond.selects RX11 yX11_segment yX11_segment, Cond.code yX11_segment cX11_segment 5 (some .int), Cond.methodLink RX11 255 yX7_segmentStart, Cond.instanceMethod yX7_segmentStart, Cond.selects RX7 yX7_segmentStart yX7_segmentStart, Cond.code yX7_segmentStart cX7_segmentStart 4 (some .int), Cond.methodLink RX11 260 yX7_alikeFrom, Cond.instanceMethod yX7_alikeFrom, Cond.selects RX7 yX7_alikeFrom yX7_alikeFrom, Cond.code yX7_alikeFrom cX7_alikeFrom 4 (some .int), Cond.methodLink RL 180 yX12_segment, Cond.instanceMethod yX12_segment, Cond.selects RX12 yX12_segment yX12_segment, Cond.code yX12_segment cX12_segment 6 (some .int), Cond.methodLink RL 181 yL_speeds, Cond.static yL_speeds, Cond.codeWith yL_speeds cL_speeds 6 (some .int) [(0, 9, 12, 13)]]
def wsL_law0_r47 : List Cond := [Cond.methodLink RL 86 yX11_speeds, Cond.instanceMethod yX11_speeds, Cond.selects RX11 yX11_speeds yX11_speeds, Cond.code yX11_speeds cX11_speeds 5 none, Cond.methodLink RX11 267 yX3_set, Cond.instanceMethod yX3_set, Cond.selects RX3 yX3_set yX3_set, Cond.code yX3_set cX3_set 5 none, Cond.methodLink RL 184 yX12_speeds, Cond.instanceMethod yX12_speeds, Cond.selects RX12 yX12_speeds yX12_speeds, Cond.code yX12_speeds cX12_speeds 5 none, Cond.methodLink RL 185 yL_speed, Cond.static yL_speed, Cond.codeWith yL_speed cL_speed 5 (some .int) [(0, 10, 13, 25)], Cond.methodLink RL 90 yX11_speed, Cond.instanceMethod yX11_speed, Cond.selects RX11 yX11_speed yX11_speed, Cond.code yX11_speed cX11_speed 4 (some .float), Cond.methodLink RX11 271 yX3_reckon, Cond.instanceMethod yX3_reckon, Cond.selects RX3 yX3_reckon yX3_reckon, Cond.code yX3_reckon cX3_reckon 4 none, Cond.methodLink RX3 26 yX7_count]
def wsL_law0_r48 : List Cond := [Cond.methodLink RX3 32 yX3_isRest, Cond.static yX3_isRest, Cond.code yX3_isRest cX3_isRest 2 (some .boolean), Cond.methodLink RX3 56 yX7_isCuspAt, Cond.methodLink RX3 36 yX3_fromBefore, Cond.instanceMethod yX3_fromBefore, Cond.selects RX3 yX3_fromBefore yX3_fromBefore, Cond.code yX3_fromBefore cX3_fromBefore 4 (some .float), Cond.methodLink RX3 60 yX7_moveAt, Cond.methodLink RX3 64 yX3_limitOf, Cond.instanceMethod yX3_limitOf, Cond.selects RX3 yX3_limitOf yX3_limitOf, Cond.code yX3_limitOf cX3_limitOf 2 (some .float), Cond.methodLink RX3 67 yX2_isArc, Cond.methodLink RX3 52 yX3_lesser, Cond.static yX3_lesser, Cond.code yX3_lesser cX3_lesser 2 (some .float), Cond.methodLink RX3 44 yX3_squareAt, Cond.instanceMethod yX3_squareAt, Cond.selects RX3 yX3_squareAt yX3_squareAt, Cond.code yX3_squareAt cX3_squareAt 2 (some .float), Cond.methodLink RX3 48 yX3_change, Cond.static yX3_change, Cond.code yX3_change cX3_change 3 (some .float)]
def wsL_law0_r49 : List Cond := [Cond.methodLink RX3 72 yX7_poseAt, Cond.methodLink RX3 75 yX3_lengthOf, Cond.static yX3_lengthOf, Cond.code yX3_lengthOf cX3_lengthOf 2 (some .float), Cond.constantFloat RX3 79 (1075479162), Cond.constantFloat RX3 86 (1068827891), Cond.methodLink RX3 80 yX2_headingOf, Cond.methodLink RX3 83 yX2_isEven, Cond.methodLink RX3 40 yX3_put, Cond.instanceMethod yX3_put, Cond.selects RX3 yX3_put yX3_put, Cond.code yX3_put cX3_put 3 none, Cond.methodLink RX11 275 yX3_squareAt, Cond.methodLink RL 188 yX12_speed, Cond.instanceMethod yX12_speed, Cond.selects RX12 yX12_speed yX12_speed, Cond.code yX12_speed cX12_speed 3 (some .float), Cond.methodLink RX12 314 yX12_findsSpeeds, Cond.instanceMethod yX12_findsSpeeds, Cond.selects RX12 yX12_findsSpeeds yX12_findsSpeeds, Cond.code yX12_findsSpeeds cX12_findsSpeeds 6 none, Cond.methodLink RX12 304 yX12_between, Cond.instanceMethod yX12_between, Cond.selects RX12 yX12_between yX12_between]
def wsL_law0_r50 : List Cond := [Cond.code yX12_between cX12_between 3 (some .float), Cond.methodLink RX12 300 yX12_lengthOf, Cond.static yX12_lengthOf, Cond.code yX12_lengthOf cX12_lengthOf 2 (some .float), Cond.constantFloat RX12 146 (1075479162), Cond.constantFloat RX12 147 (1068827891), Cond.methodLink RX12 307 yX12_greatest, Cond.instanceMethod yX12_greatest, Cond.selects RX12 yX12_greatest yX12_greatest, Cond.code yX12_greatest cX12_greatest 3 (some .float), Cond.methodLink RX12 310 yX12_lesser, Cond.static yX12_lesser, Cond.code yX12_lesser cX12_lesser 2 (some .float), Cond.methodLink RL 189 yL_peak, Cond.static yL_peak, Cond.codeWith yL_peak cL_peak 4 (some .int) [(0, 9, 12, 25)], Cond.methodLink RL 94 yX11_peak, Cond.instanceMethod yX11_peak, Cond.selects RX11 yX11_peak yX11_peak, Cond.code yX11_peak cX11_peak 3 (some .int), Cond.methodLink RX11 279 yX3_greatest, Cond.instanceMethod yX3_greatest, Cond.selects RX3 yX3_greatest yX3_greatest, Cond.code yX3_greatest cX3_greatest 4 (some .float)]
def wsL_law0_r51 : List Cond := [Cond.methodLink RL 191 yX12_peak, Cond.instanceMethod yX12_peak, Cond.selects RX12 yX12_peak yX12_peak, Cond.code yX12_peak cX12_peak 4 (some .int)]
theorem tb_1 : ∀ w ∈ tables_1_1, w ∈ lw_tbl := fun w h => List.mem_append_right _ (show w ∈ tables_1 from List.mem_append_left _ h)
theorem tb_2 : ∀ w ∈ tables_1_2, w ∈ lw_tbl := fun w h => List.mem_append_right _ (show w ∈ tables_1 from List.mem_append_right _ (List.mem_append_left _ h))
theorem tb_3 : ∀ w ∈ tables_1_3, w ∈ lw_tbl := fun w h => List.mem_append_right _ (show w ∈ tables_1 from List.mem_append_right _ (List.mem_append_right _ (List.mem_append_left _ h)))
theorem tb_4 : ∀ w ∈ tables_1_4, w ∈ lw_tbl := fun w h => List.mem_append_right _ (show w ∈ tables_1 from List.mem_append_right _ (List.mem_append_right _ (List.mem_append_right _ (List.mem_append_left _ h))))
theorem tb_5 : ∀ w ∈ tables_1_5, w ∈ lw_tbl := fun w h => List.mem_append_right _ (show w ∈ tables_1 from List.mem_append_right _ (List.mem_append_right _ (List.mem_append_right _ (List.mem_append_right _ (List.mem_append_left _ h)))))
theorem tb_6 : ∀ w ∈ tables_1_6, w ∈ lw_tbl := fun w h => List.mem_append_right _ (show w ∈ tables_1 from List.mem_append_right _ (List.mem_append_right _ (List.mem_append_right _ (List.mem_append_right _ (List.mem_append_right _ (List.mem_append_left _ h))))))
theorem tb_7 : ∀ w ∈ tables_1_7, w ∈ lw_tbl := fun w h => List.mem_append_right _ (show w ∈ tables_1 from List.mem_append_right _ (List.mem_append_right _ (List.mem_append_right _ (List.mem_append_right _ (List.mem_append_right _ (List.mem_append_right _ (h)))))))
set_option maxRecDepth 20000 in
theorem tr_1 : ∀ w ∈ wsL_law0_r1, w ∈ lw_tbl := List.forall_mem_cons.mpr ⟨tb_1 _ (List.mem_of_getElem? (i := 23) rfl), List.forall_mem_cons.mpr ⟨tb_1 _ (List.mem_of_getElem? (i := 24) rfl), List.forall_mem_cons.mpr ⟨tb_1 _ (List.mem_of_getElem? (i := 1) rfl), List.forall_mem_cons.mpr ⟨tb_5 _ (List.mem_of_getElem? (i := 164) rfl), List.forall_mem_cons.mpr ⟨tb_5 _ (List.mem_of_getElem? (i := 165) rfl), List.forall_mem_cons.mpr ⟨tb_1 _ (List.mem_of_getElem? (i := 14) rfl), List.forall_mem_cons.mpr ⟨tb_7 _ (List.mem_of_getElem? (i := 110) rfl), List.forall_mem_cons.mpr ⟨tb_7 _ (List.mem_of_getElem? (i := 111) rfl), List.forall_mem_cons.mpr ⟨tb_1 _ (List.mem_of_getElem? (i := 25) rfl), List.forall_mem_cons.mpr ⟨tb_1 _ (List.mem_of_getElem? (i := 26) rfl), List.forall_mem_cons.mpr ⟨tb_1 _ (List.mem_of_getElem? (i := 27) rfl), List.forall_mem_cons.mpr ⟨tb_1 _ (List.mem_of_getElem? (i := 28) rfl), List.forall_mem_cons.mpr ⟨tb_1 _ (List.mem_of_getElem? (i := 29) rfl), List.forall_mem_cons.mpr ⟨tb_1 _ (List.mem_of_getElem? (i := 30) rfl), List.forall_mem_cons.mpr ⟨tb_1 _ (List.mem_of_getElem? (i := 31) rfl), List.forall_mem_cons.mpr ⟨tb_1 _ (List.mem_of_getElem? (i := 32) rfl), List.forall_mem_cons.mpr ⟨tb_1 _ (List.mem_of_getElem? (i := 2) rfl), List.forall_mem_cons.mpr ⟨tb_1 _ (List.mem_of_getElem? (i := 62) rfl), List.forall_mem_cons.mpr ⟨tb_1 _ (List.mem_of_getElem? (i := 63) rfl), List.forall_mem_cons.mpr ⟨tb_1 _ (List.mem_of_getElem? (i := 4) rfl), List.forall_mem_cons.mpr ⟨tb_2 _ (List.mem_of_getElem? (i := 74) rfl), List.forall_mem_cons.mpr ⟨tb_1 _ (List.mem_of_getElem? (i := 147) rfl), List.forall_mem_cons.mpr ⟨tb_1 _ (List.mem_of_getElem? (i := 148) rfl), List.forall_mem_cons.mpr ⟨tb_1 _ (List.mem_of_getElem? (i := 6) rfl), fun _ h => absurd h List.not_mem_nil⟩⟩⟩⟩⟩⟩⟩⟩⟩⟩⟩⟩⟩⟩⟩⟩⟩⟩⟩⟩⟩⟩⟩⟩
set_option maxRecDepth 20000 in
theorem tr_2 : ∀ w ∈ wsL_law0_r2, w ∈ lw_tbl := List.forall_mem_cons.mpr ⟨tb_2 _ (List.mem_of_getElem? (i := 75) rfl), List.forall_mem_cons.mpr ⟨tb_1 _ (List.mem_of_getElem? (i := 163) rfl), List.forall_mem_cons.mpr ⟨tb_1 _ (List.mem_of_getElem? (i := 164) rfl), List.forall_mem_cons.mpr ⟨tb_1 _ (List.mem_of_getElem? (i := 7) rfl), List.forall_mem_cons.mpr ⟨tb_2 _ (List.mem_of_getElem? (i := 76) rfl), List.forall_mem_cons.mpr ⟨tb_1 _ (List.mem_of_getElem? (i := 223) rfl), List.forall_mem_cons.mpr ⟨tb_1 _ (List.mem_of_getElem? (i := 224) rfl), List.forall_mem_cons.mpr ⟨tb_1 _ (List.mem_of_getElem? (i := 10) rfl), List.forall_mem_cons.mpr ⟨tb_2 _ (List.mem_of_getElem? (i := 77) rfl), List.forall_mem_cons.mpr ⟨tb_2 _ (List.mem_of_getElem? (i := 9) rfl), List.forall_mem_cons.mpr ⟨tb_2 _ (List.mem_of_getElem? (i := 10) rfl), List.forall_mem_cons.mpr ⟨tb_1 _ (List.mem_of_getElem? (i := 11) rfl), List.forall_mem_cons.mpr ⟨tb_2 _ (List.mem_of_getElem? (i := 78) rfl), List.forall_mem_cons.mpr ⟨tb_2 _ (List.mem_of_getElem? (i := 32) rfl), List.forall_mem_cons.mpr ⟨tb_2 _ (List.mem_of_getElem? (i := 33) rfl), List.forall_mem_cons.mpr ⟨tb_1 _ (List.mem_of_getElem? (i := 12) rfl), List.forall_mem_cons.mpr ⟨tb_2 _ (List.mem_of_getElem? (i := 79) rfl), List.forall_mem_cons.mpr ⟨tb_2 _ (List.mem_of_getElem? (i := 55) rfl), List.forall_mem_cons.mpr ⟨tb_2 _ (List.mem_of_getElem? (i := 80) rfl), List.forall_mem_cons.mpr ⟨tb_1 _ (List.mem_of_getElem? (i := 195) rfl), List.forall_mem_cons.mpr ⟨tb_1 _ (List.mem_of_getElem? (i := 9) rfl), List.forall_mem_cons.mpr ⟨tb_2 _ (List.mem_of_getElem? (i := 82) rfl), List.forall_mem_cons.mpr ⟨tb_2 _ (List.mem_of_getElem? (i := 58) rfl), List.forall_mem_cons.mpr ⟨tb_2 _ (List.mem_of_getElem? (i := 59) rfl), fun _ h => absurd h List.not_mem_nil⟩⟩⟩⟩⟩⟩⟩⟩⟩⟩⟩⟩⟩⟩⟩⟩⟩⟩⟩⟩⟩⟩⟩⟩
set_option maxRecDepth 20000 in
theorem tr_3 : ∀ w ∈ wsL_law0_r3, w ∈ lw_tbl := List.forall_mem_cons.mpr ⟨tb_1 _ (List.mem_of_getElem? (i := 13) rfl), List.forall_mem_cons.mpr ⟨tb_2 _ (List.mem_of_getElem? (i := 84) rfl), List.forall_mem_cons.mpr ⟨tb_1 _ (List.mem_of_getElem? (i := 33) rfl), List.forall_mem_cons.mpr ⟨tb_1 _ (List.mem_of_getElem? (i := 34) rfl), List.forall_mem_cons.mpr ⟨tb_1 _ (List.mem_of_getElem? (i := 35) rfl), List.forall_mem_cons.mpr ⟨tb_1 _ (List.mem_of_getElem? (i := 36) rfl), List.forall_mem_cons.mpr ⟨tb_1 _ (List.mem_of_getElem? (i := 61) rfl), List.forall_mem_cons.mpr ⟨tb_1 _ (List.mem_of_getElem? (i := 54) rfl), List.forall_mem_cons.mpr ⟨tb_1 _ (List.mem_of_getElem? (i := 55) rfl), List.forall_mem_cons.mpr ⟨tb_1 _ (List.mem_of_getElem? (i := 37) rfl), List.forall_mem_cons.mpr ⟨tb_1 _ (List.mem_of_getElem? (i := 39) rfl), List.forall_mem_cons.mpr ⟨List.mem_append_left _ (List.mem_of_getElem? (i := 0) rfl), List.forall_mem_cons.mpr ⟨tb_1 _ (List.mem_of_getElem? (i := 40) rfl), List.forall_mem_cons.mpr ⟨tb_1 _ (List.mem_of_getElem? (i := 41) rfl), List.forall_mem_cons.mpr ⟨tb_1 _ (List.mem_of_getElem? (i := 42) rfl), List.forall_mem_cons.mpr ⟨tb_1 _ (List.mem_of_getElem? (i := 43) rfl), List.forall_mem_cons.mpr ⟨tb_1 _ (List.mem_of_getElem? (i := 44) rfl), List.forall_mem_cons.mpr ⟨tb_1 _ (List.mem_of_getElem? (i := 45) rfl), List.forall_mem_cons.mpr ⟨tb_1 _ (List.mem_of_getElem? (i := 3) rfl), List.forall_mem_cons.mpr ⟨tb_1 _ (List.mem_of_getElem? (i := 46) rfl), List.forall_mem_cons.mpr ⟨tb_1 _ (List.mem_of_getElem? (i := 47) rfl), List.forall_mem_cons.mpr ⟨tb_1 _ (List.mem_of_getElem? (i := 49) rfl), List.forall_mem_cons.mpr ⟨tb_1 _ (List.mem_of_getElem? (i := 50) rfl), List.forall_mem_cons.mpr ⟨tb_1 _ (List.mem_of_getElem? (i := 51) rfl), fun _ h => absurd h List.not_mem_nil⟩⟩⟩⟩⟩⟩⟩⟩⟩⟩⟩⟩⟩⟩⟩⟩⟩⟩⟩⟩⟩⟩⟩⟩
set_option maxRecDepth 20000 in
theorem tr_4 : ∀ w ∈ wsL_law0_r4, w ∈ lw_tbl := List.forall_mem_cons.mpr ⟨tb_1 _ (List.mem_of_getElem? (i := 52) rfl), List.forall_mem_cons.mpr ⟨tb_1 _ (List.mem_of_getElem? (i := 64) rfl), List.forall_mem_cons.mpr ⟨tb_1 _ (List.mem_of_getElem? (i := 65) rfl), List.forall_mem_cons.mpr ⟨tb_1 _ (List.mem_of_getElem? (i := 66) rfl), List.forall_mem_cons.mpr ⟨tb_1 _ (List.mem_of_getElem? (i := 67) rfl), List.forall_mem_cons.mpr ⟨tb_1 _ (List.mem_of_getElem? (i := 68) rfl), List.forall_mem_cons.mpr ⟨tb_1 _ (List.mem_of_getElem? (i := 124) rfl), List.forall_mem_cons.mpr ⟨tb_1 _ (List.mem_of_getElem? (i := 126) rfl), List.forall_mem_cons.mpr ⟨tb_1 _ (List.mem_of_getElem? (i := 127) rfl), List.forall_mem_cons.mpr ⟨tb_1 _ (List.mem_of_getElem? (i := 146) rfl), List.forall_mem_cons.mpr ⟨tb_1 _ (List.mem_of_getElem? (i := 128) rfl), List.forall_mem_cons.mpr ⟨tb_1 _ (List.mem_of_getElem? (i := 129) rfl), List.forall_mem_cons.mpr ⟨tb_1 _ (List.mem_of_getElem? (i := 130) rfl), List.forall_mem_cons.mpr ⟨tb_1 _ (List.mem_of_getElem? (i := 70) rfl), List.forall_mem_cons.mpr ⟨tb_1 _ (List.mem_of_getElem? (i := 72) rfl), List.forall_mem_cons.mpr ⟨List.mem_append_left _ (List.mem_of_getElem? (i := 1) rfl), List.forall_mem_cons.mpr ⟨tb_1 _ (List.mem_of_getElem? (i := 73) rfl), List.forall_mem_cons.mpr ⟨tb_1 _ (List.mem_of_getElem? (i := 74) rfl), List.forall_mem_cons.mpr ⟨tb_1 _ (List.mem_of_getElem? (i := 76) rfl), List.forall_mem_cons.mpr ⟨List.mem_append_left _ (List.mem_of_getElem? (i := 2) rfl), List.forall_mem_cons.mpr ⟨tb_1 _ (List.mem_of_getElem? (i := 77) rfl), List.forall_mem_cons.mpr ⟨tb_1 _ (List.mem_of_getElem? (i := 78) rfl), List.forall_mem_cons.mpr ⟨tb_1 _ (List.mem_of_getElem? (i := 80) rfl), List.forall_mem_cons.mpr ⟨List.mem_append_left _ (List.mem_of_getElem? (i := 3) rfl), fun _ h => absurd h List.not_mem_nil⟩⟩⟩⟩⟩⟩⟩⟩⟩⟩⟩⟩⟩⟩⟩⟩⟩⟩⟩⟩⟩⟩⟩⟩
set_option maxRecDepth 20000 in
theorem tr_5 : ∀ w ∈ wsL_law0_r5, w ∈ lw_tbl := List.forall_mem_cons.mpr ⟨tb_1 _ (List.mem_of_getElem? (i := 81) rfl), List.forall_mem_cons.mpr ⟨tb_1 _ (List.mem_of_getElem? (i := 82) rfl), List.forall_mem_cons.mpr ⟨tb_1 _ (List.mem_of_getElem? (i := 83) rfl), List.forall_mem_cons.mpr ⟨tb_1 _ (List.mem_of_getElem? (i := 84) rfl), List.forall_mem_cons.mpr ⟨tb_1 _ (List.mem_of_getElem? (i := 85) rfl), List.forall_mem_cons.mpr ⟨tb_1 _ (List.mem_of_getElem? (i := 87) rfl), List.forall_mem_cons.mpr ⟨List.mem_append_left _ (List.mem_of_getElem? (i := 4) rfl), List.forall_mem_cons.mpr ⟨tb_1 _ (List.mem_of_getElem? (i := 88) rfl), List.forall_mem_cons.mpr ⟨tb_1 _ (List.mem_of_getElem? (i := 102) rfl), List.forall_mem_cons.mpr ⟨tb_1 _ (List.mem_of_getElem? (i := 103) rfl), List.forall_mem_cons.mpr ⟨tb_1 _ (List.mem_of_getElem? (i := 5) rfl), List.forall_mem_cons.mpr ⟨tb_1 _ (List.mem_of_getElem? (i := 104) rfl), List.forall_mem_cons.mpr ⟨tb_1 _ (List.mem_of_getElem? (i := 89) rfl), List.forall_mem_cons.mpr ⟨tb_1 _ (List.mem_of_getElem? (i := 90) rfl), List.forall_mem_cons.mpr ⟨tb_1 _ (List.mem_of_getElem? (i := 91) rfl), List.forall_mem_cons.mpr ⟨tb_1 _ (List.mem_of_getElem? (i := 92) rfl), List.forall_mem_cons.mpr ⟨tb_1 _ (List.mem_of_getElem? (i := 93) rfl), List.forall_mem_cons.mpr ⟨tb_1 _ (List.mem_of_getElem? (i := 94) rfl), List.forall_mem_cons.mpr ⟨tb_1 _ (List.mem_of_getElem? (i := 95) rfl), List.forall_mem_cons.mpr ⟨tb_1 _ (List.mem_of_getElem? (i := 96) rfl), List.forall_mem_cons.mpr ⟨tb_1 _ (List.mem_of_getElem? (i := 97) rfl), List.forall_mem_cons.mpr ⟨tb_1 _ (List.mem_of_getElem? (i := 98) rfl), List.forall_mem_cons.mpr ⟨tb_1 _ (List.mem_of_getElem? (i := 99) rfl), List.forall_mem_cons.mpr ⟨tb_1 _ (List.mem_of_getElem? (i := 100) rfl), fun _ h => absurd h List.not_mem_nil⟩⟩⟩⟩⟩⟩⟩⟩⟩⟩⟩⟩⟩⟩⟩⟩⟩⟩⟩⟩⟩⟩⟩⟩
set_option maxRecDepth 20000 in
theorem tr_6 : ∀ w ∈ wsL_law0_r6, w ∈ lw_tbl := List.forall_mem_cons.mpr ⟨tb_1 _ (List.mem_of_getElem? (i := 101) rfl), List.forall_mem_cons.mpr ⟨tb_1 _ (List.mem_of_getElem? (i := 105) rfl), List.forall_mem_cons.mpr ⟨tb_1 _ (List.mem_of_getElem? (i := 107) rfl), List.forall_mem_cons.mpr ⟨List.mem_append_left _ (List.mem_of_getElem? (i := 5) rfl), List.forall_mem_cons.mpr ⟨tb_1 _ (List.mem_of_getElem? (i := 108) rfl), List.forall_mem_cons.mpr ⟨tb_1 _ (List.mem_of_getElem? (i := 109) rfl), List.forall_mem_cons.mpr ⟨tb_1 _ (List.mem_of_getElem? (i := 111) rfl), List.forall_mem_cons.mpr ⟨List.mem_append_left _ (List.mem_of_getElem? (i := 6) rfl), List.forall_mem_cons.mpr ⟨tb_1 _ (List.mem_of_getElem? (i := 112) rfl), List.forall_mem_cons.mpr ⟨tb_1 _ (List.mem_of_getElem? (i := 113) rfl), List.forall_mem_cons.mpr ⟨tb_1 _ (List.mem_of_getElem? (i := 114) rfl), List.forall_mem_cons.mpr ⟨tb_1 _ (List.mem_of_getElem? (i := 115) rfl), List.forall_mem_cons.mpr ⟨tb_1 _ (List.mem_of_getElem? (i := 116) rfl), List.forall_mem_cons.mpr ⟨tb_1 _ (List.mem_of_getElem? (i := 117) rfl), List.forall_mem_cons.mpr ⟨tb_1 _ (List.mem_of_getElem? (i := 118) rfl), List.forall_mem_cons.mpr ⟨tb_1 _ (List.mem_of_getElem? (i := 119) rfl), List.forall_mem_cons.mpr ⟨tb_1 _ (List.mem_of_getElem? (i := 120) rfl), List.forall_mem_cons.mpr ⟨tb_1 _ (List.mem_of_getElem? (i := 121) rfl), List.forall_mem_cons.mpr ⟨tb_1 _ (List.mem_of_getElem? (i := 122) rfl), List.forall_mem_cons.mpr ⟨tb_1 _ (List.mem_of_getElem? (i := 123) rfl), List.forall_mem_cons.mpr ⟨tb_1 _ (List.mem_of_getElem? (i := 149) rfl), List.forall_mem_cons.mpr ⟨tb_1 _ (List.mem_of_getElem? (i := 150) rfl), List.forall_mem_cons.mpr ⟨tb_1 _ (List.mem_of_getElem? (i := 151) rfl), List.forall_mem_cons.mpr ⟨tb_1 _ (List.mem_of_getElem? (i := 152) rfl), fun _ h => absurd h List.not_mem_nil⟩⟩⟩⟩⟩⟩⟩⟩⟩⟩⟩⟩⟩⟩⟩⟩⟩⟩⟩⟩⟩⟩⟩⟩
set_option maxRecDepth 20000 in
theorem tr_7 : ∀ w ∈ wsL_law0_r7, w ∈ lw_tbl := List.forall_mem_cons.mpr ⟨tb_1 _ (List.mem_of_getElem? (i := 154) rfl), List.forall_mem_cons.mpr ⟨tb_1 _ (List.mem_of_getElem? (i := 153) rfl), List.forall_mem_cons.mpr ⟨tb_1 _ (List.mem_of_getElem? (i := 165) rfl), List.forall_mem_cons.mpr ⟨tb_1 _ (List.mem_of_getElem? (i := 166) rfl), List.forall_mem_cons.mpr ⟨tb_1 _ (List.mem_of_getElem? (i := 167) rfl), List.forall_mem_cons.mpr ⟨tb_1 _ (List.mem_of_getElem? (i := 168) rfl), List.forall_mem_cons.mpr ⟨tb_1 _ (List.mem_of_getElem? (i := 169) rfl), List.forall_mem_cons.mpr ⟨tb_1 _ (List.mem_of_getElem? (i := 170) rfl), List.forall_mem_cons.mpr ⟨tb_1 _ (List.mem_of_getElem? (i := 8) rfl), List.forall_mem_cons.mpr ⟨tb_1 _ (List.mem_of_getElem? (i := 212) rfl), List.forall_mem_cons.mpr ⟨tb_1 _ (List.mem_of_getElem? (i := 194) rfl), List.forall_mem_cons.mpr ⟨tb_1 _ (List.mem_of_getElem? (i := 213) rfl), List.forall_mem_cons.mpr ⟨tb_1 _ (List.mem_of_getElem? (i := 210) rfl), List.forall_mem_cons.mpr ⟨tb_1 _ (List.mem_of_getElem? (i := 211) rfl), List.forall_mem_cons.mpr ⟨tb_1 _ (List.mem_of_getElem? (i := 172) rfl), List.forall_mem_cons.mpr ⟨tb_1 _ (List.mem_of_getElem? (i := 173) rfl), List.forall_mem_cons.mpr ⟨tb_1 _ (List.mem_of_getElem? (i := 174) rfl), List.forall_mem_cons.mpr ⟨tb_1 _ (List.mem_of_getElem? (i := 175) rfl), List.forall_mem_cons.mpr ⟨tb_1 _ (List.mem_of_getElem? (i := 176) rfl), List.forall_mem_cons.mpr ⟨tb_1 _ (List.mem_of_getElem? (i := 177) rfl), List.forall_mem_cons.mpr ⟨tb_1 _ (List.mem_of_getElem? (i := 178) rfl), List.forall_mem_cons.mpr ⟨tb_1 _ (List.mem_of_getElem? (i := 197) rfl), List.forall_mem_cons.mpr ⟨tb_1 _ (List.mem_of_getElem? (i := 198) rfl), List.forall_mem_cons.mpr ⟨tb_1 _ (List.mem_of_getElem? (i := 199) rfl), fun _ h => absurd h List.not_mem_nil⟩⟩⟩⟩⟩⟩⟩⟩⟩⟩⟩⟩⟩⟩⟩⟩⟩⟩⟩⟩⟩⟩⟩⟩
set_option maxRecDepth 20000 in
theorem tr_8 : ∀ w ∈ wsL_law0_r8, w ∈ lw_tbl := List.forall_mem_cons.mpr ⟨tb_1 _ (List.mem_of_getElem? (i := 200) rfl), List.forall_mem_cons.mpr ⟨tb_1 _ (List.mem_of_getElem? (i := 201) rfl), List.forall_mem_cons.mpr ⟨tb_1 _ (List.mem_of_getElem? (i := 225) rfl), List.forall_mem_cons.mpr ⟨tb_1 _ (List.mem_of_getElem? (i := 226) rfl), List.forall_mem_cons.mpr ⟨tb_1 _ (List.mem_of_getElem? (i := 227) rfl), List.forall_mem_cons.mpr ⟨tb_1 _ (List.mem_of_getElem? (i := 228) rfl), List.forall_mem_cons.mpr ⟨tb_1 _ (List.mem_of_getElem? (i := 231) rfl), List.forall_mem_cons.mpr ⟨tb_1 _ (List.mem_of_getElem? (i := 229) rfl), List.forall_mem_cons.mpr ⟨tb_1 _ (List.mem_of_getElem? (i := 235) rfl), List.forall_mem_cons.mpr ⟨tb_1 _ (List.mem_of_getElem? (i := 230) rfl), List.forall_mem_cons.mpr ⟨tb_2 _ (List.mem_of_getElem? (i := 11) rfl), List.forall_mem_cons.mpr ⟨tb_2 _ (List.mem_of_getElem? (i := 12) rfl), List.forall_mem_cons.mpr ⟨tb_2 _ (List.mem_of_getElem? (i := 13) rfl), List.forall_mem_cons.mpr ⟨tb_2 _ (List.mem_of_getElem? (i := 14) rfl), List.forall_mem_cons.mpr ⟨tb_2 _ (List.mem_of_getElem? (i := 15) rfl), List.forall_mem_cons.mpr ⟨tb_2 _ (List.mem_of_getElem? (i := 22) rfl), List.forall_mem_cons.mpr ⟨tb_2 _ (List.mem_of_getElem? (i := 19) rfl), List.forall_mem_cons.mpr ⟨tb_2 _ (List.mem_of_getElem? (i := 20) rfl), List.forall_mem_cons.mpr ⟨tb_2 _ (List.mem_of_getElem? (i := 17) rfl), List.forall_mem_cons.mpr ⟨tb_2 _ (List.mem_of_getElem? (i := 21) rfl), List.forall_mem_cons.mpr ⟨tb_2 _ (List.mem_of_getElem? (i := 18) rfl), List.forall_mem_cons.mpr ⟨tb_2 _ (List.mem_of_getElem? (i := 35) rfl), List.forall_mem_cons.mpr ⟨tb_2 _ (List.mem_of_getElem? (i := 36) rfl), List.forall_mem_cons.mpr ⟨tb_2 _ (List.mem_of_getElem? (i := 37) rfl), fun _ h => absurd h List.not_mem_nil⟩⟩⟩⟩⟩⟩⟩⟩⟩⟩⟩⟩⟩⟩⟩⟩⟩⟩⟩⟩⟩⟩⟩⟩
set_option maxRecDepth 20000 in
theorem tr_9 : ∀ w ∈ wsL_law0_r9, w ∈ lw_tbl := List.forall_mem_cons.mpr ⟨tb_2 _ (List.mem_of_getElem? (i := 38) rfl), List.forall_mem_cons.mpr ⟨tb_2 _ (List.mem_of_getElem? (i := 39) rfl), List.forall_mem_cons.mpr ⟨tb_2 _ (List.mem_of_getElem? (i := 40) rfl), List.forall_mem_cons.mpr ⟨tb_2 _ (List.mem_of_getElem? (i := 41) rfl), List.forall_mem_cons.mpr ⟨tb_2 _ (List.mem_of_getElem? (i := 54) rfl), List.forall_mem_cons.mpr ⟨tb_2 _ (List.mem_of_getElem? (i := 42) rfl), List.forall_mem_cons.mpr ⟨tb_2 _ (List.mem_of_getElem? (i := 61) rfl), List.forall_mem_cons.mpr ⟨tb_2 _ (List.mem_of_getElem? (i := 62) rfl), List.forall_mem_cons.mpr ⟨tb_2 _ (List.mem_of_getElem? (i := 63) rfl), List.forall_mem_cons.mpr ⟨tb_2 _ (List.mem_of_getElem? (i := 64) rfl), List.forall_mem_cons.mpr ⟨tb_2 _ (List.mem_of_getElem? (i := 65) rfl), List.forall_mem_cons.mpr ⟨tb_5 _ (List.mem_of_getElem? (i := 166) rfl), List.forall_mem_cons.mpr ⟨tb_5 _ (List.mem_of_getElem? (i := 167) rfl), List.forall_mem_cons.mpr ⟨tb_5 _ (List.mem_of_getElem? (i := 168) rfl), List.forall_mem_cons.mpr ⟨tb_5 _ (List.mem_of_getElem? (i := 169) rfl), List.forall_mem_cons.mpr ⟨tb_5 _ (List.mem_of_getElem? (i := 230) rfl), List.forall_mem_cons.mpr ⟨tb_5 _ (List.mem_of_getElem? (i := 231) rfl), List.forall_mem_cons.mpr ⟨tb_5 _ (List.mem_of_getElem? (i := 233) rfl), List.forall_mem_cons.mpr ⟨tb_5 _ (List.mem_of_getElem? (i := 234) rfl), List.forall_mem_cons.mpr ⟨tb_5 _ (List.mem_of_getElem? (i := 235) rfl), List.forall_mem_cons.mpr ⟨tb_5 _ (List.mem_of_getElem? (i := 236) rfl), List.forall_mem_cons.mpr ⟨tb_6 _ (List.mem_of_getElem? (i := 5) rfl), List.forall_mem_cons.mpr ⟨tb_6 _ (List.mem_of_getElem? (i := 6) rfl), List.forall_mem_cons.mpr ⟨tb_6 _ (List.mem_of_getElem? (i := 7) rfl), fun _ h => absurd h List.not_mem_nil⟩⟩⟩⟩⟩⟩⟩⟩⟩⟩⟩⟩⟩⟩⟩⟩⟩⟩⟩⟩⟩⟩⟩⟩
set_option maxRecDepth 20000 in
theorem tr_10 : ∀ w ∈ wsL_law0_r10, w ∈ lw_tbl := List.forall_mem_cons.mpr ⟨tb_6 _ (List.mem_of_getElem? (i := 8) rfl), List.forall_mem_cons.mpr ⟨tb_6 _ (List.mem_of_getElem? (i := 11) rfl), List.forall_mem_cons.mpr ⟨tb_6 _ (List.mem_of_getElem? (i := 12) rfl), List.forall_mem_cons.mpr ⟨tb_6 _ (List.mem_of_getElem? (i := 22) rfl), List.forall_mem_cons.mpr ⟨tb_6 _ (List.mem_of_getElem? (i := 23) rfl), List.forall_mem_cons.mpr ⟨tb_6 _ (List.mem_of_getElem? (i := 24) rfl), List.forall_mem_cons.mpr ⟨tb_6 _ (List.mem_of_getElem? (i := 29) rfl), List.forall_mem_cons.mpr ⟨tb_6 _ (List.mem_of_getElem? (i := 31) rfl), List.forall_mem_cons.mpr ⟨tb_6 _ (List.mem_of_getElem? (i := 32) rfl), List.forall_mem_cons.mpr ⟨tb_6 _ (List.mem_of_getElem? (i := 33) rfl), List.forall_mem_cons.mpr ⟨tb_5 _ (List.mem_of_getElem? (i := 237) rfl), List.forall_mem_cons.mpr ⟨tb_5 _ (List.mem_of_getElem? (i := 238) rfl), List.forall_mem_cons.mpr ⟨tb_5 _ (List.mem_of_getElem? (i := 239) rfl), List.forall_mem_cons.mpr ⟨tb_6 _ (List.mem_of_getElem? (i := 1) rfl), List.forall_mem_cons.mpr ⟨tb_6 _ (List.mem_of_getElem? (i := 2) rfl), List.forall_mem_cons.mpr ⟨tb_6 _ (List.mem_of_getElem? (i := 3) rfl), List.forall_mem_cons.mpr ⟨tb_6 _ (List.mem_of_getElem? (i := 4) rfl), List.forall_mem_cons.mpr ⟨tb_6 _ (List.mem_of_getElem? (i := 17) rfl), List.forall_mem_cons.mpr ⟨tb_6 _ (List.mem_of_getElem? (i := 18) rfl), List.forall_mem_cons.mpr ⟨tb_6 _ (List.mem_of_getElem? (i := 19) rfl), List.forall_mem_cons.mpr ⟨tb_6 _ (List.mem_of_getElem? (i := 20) rfl), List.forall_mem_cons.mpr ⟨tb_5 _ (List.mem_of_getElem? (i := 170) rfl), List.forall_mem_cons.mpr ⟨tb_5 _ (List.mem_of_getElem? (i := 172) rfl), List.forall_mem_cons.mpr ⟨List.mem_append_left _ (List.mem_of_getElem? (i := 33) rfl), fun _ h => absurd h List.not_mem_nil⟩⟩⟩⟩⟩⟩⟩⟩⟩⟩⟩⟩⟩⟩⟩⟩⟩⟩⟩⟩⟩⟩⟩⟩
set_option maxRecDepth 20000 in
theorem tr_11 : ∀ w ∈ wsL_law0_r11, w ∈ lw_tbl := List.forall_mem_cons.mpr ⟨tb_5 _ (List.mem_of_getElem? (i := 173) rfl), List.forall_mem_cons.mpr ⟨tb_5 _ (List.mem_of_getElem? (i := 232) rfl), List.forall_mem_cons.mpr ⟨tb_5 _ (List.mem_of_getElem? (i := 174) rfl), List.forall_mem_cons.mpr ⟨tb_5 _ (List.mem_of_getElem? (i := 176) rfl), List.forall_mem_cons.mpr ⟨List.mem_append_left _ (List.mem_of_getElem? (i := 34) rfl), List.forall_mem_cons.mpr ⟨tb_5 _ (List.mem_of_getElem? (i := 177) rfl), List.forall_mem_cons.mpr ⟨tb_5 _ (List.mem_of_getElem? (i := 178) rfl), List.forall_mem_cons.mpr ⟨tb_5 _ (List.mem_of_getElem? (i := 179) rfl), List.forall_mem_cons.mpr ⟨tb_5 _ (List.mem_of_getElem? (i := 180) rfl), List.forall_mem_cons.mpr ⟨tb_5 _ (List.mem_of_getElem? (i := 181) rfl), List.forall_mem_cons.mpr ⟨tb_5 _ (List.mem_of_getElem? (i := 183) rfl), List.forall_mem_cons.mpr ⟨List.mem_append_left _ (List.mem_of_getElem? (i := 35) rfl), List.forall_mem_cons.mpr ⟨tb_5 _ (List.mem_of_getElem? (i := 184) rfl), List.forall_mem_cons.mpr ⟨tb_5 _ (List.mem_of_getElem? (i := 185) rfl), List.forall_mem_cons.mpr ⟨tb_5 _ (List.mem_of_getElem? (i := 186) rfl), List.forall_mem_cons.mpr ⟨tb_5 _ (List.mem_of_getElem? (i := 187) rfl), List.forall_mem_cons.mpr ⟨tb_5 _ (List.mem_of_getElem? (i := 188) rfl), List.forall_mem_cons.mpr ⟨tb_5 _ (List.mem_of_getElem? (i := 190) rfl), List.forall_mem_cons.mpr ⟨List.mem_append_left _ (List.mem_of_getElem? (i := 36) rfl), List.forall_mem_cons.mpr ⟨tb_5 _ (List.mem_of_getElem? (i := 191) rfl), List.forall_mem_cons.mpr ⟨tb_5 _ (List.mem_of_getElem? (i := 192) rfl), List.forall_mem_cons.mpr ⟨tb_5 _ (List.mem_of_getElem? (i := 193) rfl), List.forall_mem_cons.mpr ⟨tb_5 _ (List.mem_of_getElem? (i := 194) rfl), List.forall_mem_cons.mpr ⟨tb_5 _ (List.mem_of_getElem? (i := 195) rfl), fun _ h => absurd h List.not_mem_nil⟩⟩⟩⟩⟩⟩⟩⟩⟩⟩⟩⟩⟩⟩⟩⟩⟩⟩⟩⟩⟩⟩⟩⟩
set_option maxRecDepth 20000 in
theorem tr_12 : ∀ w ∈ wsL_law0_r12, w ∈ lw_tbl := List.forall_mem_cons.mpr ⟨tb_5 _ (List.mem_of_getElem? (i := 196) rfl), List.forall_mem_cons.mpr ⟨tb_5 _ (List.mem_of_getElem? (i := 197) rfl), List.forall_mem_cons.mpr ⟨tb_5 _ (List.mem_of_getElem? (i := 198) rfl), List.forall_mem_cons.mpr ⟨tb_5 _ (List.mem_of_getElem? (i := 199) rfl), List.forall_mem_cons.mpr ⟨tb_5 _ (List.mem_of_getElem? (i := 200) rfl), List.forall_mem_cons.mpr ⟨tb_5 _ (List.mem_of_getElem? (i := 201) rfl), List.forall_mem_cons.mpr ⟨tb_5 _ (List.mem_of_getElem? (i := 202) rfl), List.forall_mem_cons.mpr ⟨tb_5 _ (List.mem_of_getElem? (i := 203) rfl), List.forall_mem_cons.mpr ⟨tb_5 _ (List.mem_of_getElem? (i := 204) rfl), List.forall_mem_cons.mpr ⟨tb_5 _ (List.mem_of_getElem? (i := 205) rfl), List.forall_mem_cons.mpr ⟨tb_5 _ (List.mem_of_getElem? (i := 206) rfl), List.forall_mem_cons.mpr ⟨tb_5 _ (List.mem_of_getElem? (i := 207) rfl), List.forall_mem_cons.mpr ⟨tb_5 _ (List.mem_of_getElem? (i := 208) rfl), List.forall_mem_cons.mpr ⟨tb_5 _ (List.mem_of_getElem? (i := 209) rfl), List.forall_mem_cons.mpr ⟨tb_5 _ (List.mem_of_getElem? (i := 210) rfl), List.forall_mem_cons.mpr ⟨tb_5 _ (List.mem_of_getElem? (i := 211) rfl), List.forall_mem_cons.mpr ⟨tb_5 _ (List.mem_of_getElem? (i := 212) rfl), List.forall_mem_cons.mpr ⟨tb_5 _ (List.mem_of_getElem? (i := 213) rfl), List.forall_mem_cons.mpr ⟨tb_5 _ (List.mem_of_getElem? (i := 214) rfl), List.forall_mem_cons.mpr ⟨tb_5 _ (List.mem_of_getElem? (i := 215) rfl), List.forall_mem_cons.mpr ⟨tb_5 _ (List.mem_of_getElem? (i := 216) rfl), List.forall_mem_cons.mpr ⟨tb_5 _ (List.mem_of_getElem? (i := 217) rfl), List.forall_mem_cons.mpr ⟨tb_5 _ (List.mem_of_getElem? (i := 218) rfl), List.forall_mem_cons.mpr ⟨tb_5 _ (List.mem_of_getElem? (i := 219) rfl), fun _ h => absurd h List.not_mem_nil⟩⟩⟩⟩⟩⟩⟩⟩⟩⟩⟩⟩⟩⟩⟩⟩⟩⟩⟩⟩⟩⟩⟩⟩
set_option maxRecDepth 20000 in
theorem tr_13 : ∀ w ∈ wsL_law0_r13, w ∈ lw_tbl := List.forall_mem_cons.mpr ⟨tb_5 _ (List.mem_of_getElem? (i := 220) rfl), List.forall_mem_cons.mpr ⟨tb_5 _ (List.mem_of_getElem? (i := 221) rfl), List.forall_mem_cons.mpr ⟨tb_5 _ (List.mem_of_getElem? (i := 222) rfl), List.forall_mem_cons.mpr ⟨tb_5 _ (List.mem_of_getElem? (i := 223) rfl), List.forall_mem_cons.mpr ⟨tb_5 _ (List.mem_of_getElem? (i := 224) rfl), List.forall_mem_cons.mpr ⟨tb_5 _ (List.mem_of_getElem? (i := 225) rfl), List.forall_mem_cons.mpr ⟨tb_5 _ (List.mem_of_getElem? (i := 227) rfl), List.forall_mem_cons.mpr ⟨List.mem_append_left _ (List.mem_of_getElem? (i := 37) rfl), List.forall_mem_cons.mpr ⟨tb_5 _ (List.mem_of_getElem? (i := 228) rfl), List.forall_mem_cons.mpr ⟨tb_2 _ (List.mem_of_getElem? (i := 120) rfl), List.forall_mem_cons.mpr ⟨tb_2 _ (List.mem_of_getElem? (i := 121) rfl), List.forall_mem_cons.mpr ⟨tb_1 _ (List.mem_of_getElem? (i := 0) rfl), List.forall_mem_cons.mpr ⟨tb_2 _ (List.mem_of_getElem? (i := 122) rfl), List.forall_mem_cons.mpr ⟨tb_2 _ (List.mem_of_getElem? (i := 123) rfl), List.forall_mem_cons.mpr ⟨tb_2 _ (List.mem_of_getElem? (i := 125) rfl), List.forall_mem_cons.mpr ⟨tb_2 _ (List.mem_of_getElem? (i := 126) rfl), List.forall_mem_cons.mpr ⟨tb_2 _ (List.mem_of_getElem? (i := 127) rfl), List.forall_mem_cons.mpr ⟨tb_2 _ (List.mem_of_getElem? (i := 128) rfl), List.forall_mem_cons.mpr ⟨tb_2 _ (List.mem_of_getElem? (i := 132) rfl), List.forall_mem_cons.mpr ⟨tb_1 _ (List.mem_of_getElem? (i := 18) rfl), List.forall_mem_cons.mpr ⟨tb_2 _ (List.mem_of_getElem? (i := 200) rfl), List.forall_mem_cons.mpr ⟨tb_1 _ (List.mem_of_getElem? (i := 19) rfl), List.forall_mem_cons.mpr ⟨tb_2 _ (List.mem_of_getElem? (i := 129) rfl), List.forall_mem_cons.mpr ⟨tb_2 _ (List.mem_of_getElem? (i := 130) rfl), fun _ h => absurd h List.not_mem_nil⟩⟩⟩⟩⟩⟩⟩⟩⟩⟩⟩⟩⟩⟩⟩⟩⟩⟩⟩⟩⟩⟩⟩⟩
set_option maxRecDepth 20000 in
theorem tr_14 : ∀ w ∈ wsL_law0_r14, w ∈ lw_tbl := List.forall_mem_cons.mpr ⟨tb_2 _ (List.mem_of_getElem? (i := 131) rfl), List.forall_mem_cons.mpr ⟨tb_2 _ (List.mem_of_getElem? (i := 112) rfl), List.forall_mem_cons.mpr ⟨tb_2 _ (List.mem_of_getElem? (i := 113) rfl), List.forall_mem_cons.mpr ⟨tb_2 _ (List.mem_of_getElem? (i := 114) rfl), List.forall_mem_cons.mpr ⟨tb_2 _ (List.mem_of_getElem? (i := 115) rfl), List.forall_mem_cons.mpr ⟨tb_2 _ (List.mem_of_getElem? (i := 66) rfl), List.forall_mem_cons.mpr ⟨tb_2 _ (List.mem_of_getElem? (i := 216) rfl), List.forall_mem_cons.mpr ⟨tb_2 _ (List.mem_of_getElem? (i := 217) rfl), List.forall_mem_cons.mpr ⟨tb_2 _ (List.mem_of_getElem? (i := 218) rfl), List.forall_mem_cons.mpr ⟨tb_2 _ (List.mem_of_getElem? (i := 219) rfl), List.forall_mem_cons.mpr ⟨tb_6 _ (List.mem_of_getElem? (i := 132) rfl), List.forall_mem_cons.mpr ⟨tb_6 _ (List.mem_of_getElem? (i := 133) rfl), List.forall_mem_cons.mpr ⟨tb_6 _ (List.mem_of_getElem? (i := 134) rfl), List.forall_mem_cons.mpr ⟨tb_6 _ (List.mem_of_getElem? (i := 135) rfl), List.forall_mem_cons.mpr ⟨tb_5 _ (List.mem_of_getElem? (i := 229) rfl), List.forall_mem_cons.mpr ⟨tb_6 _ (List.mem_of_getElem? (i := 136) rfl), List.forall_mem_cons.mpr ⟨tb_6 _ (List.mem_of_getElem? (i := 138) rfl), List.forall_mem_cons.mpr ⟨List.mem_append_left _ (List.mem_of_getElem? (i := 38) rfl), List.forall_mem_cons.mpr ⟨tb_6 _ (List.mem_of_getElem? (i := 139) rfl), List.forall_mem_cons.mpr ⟨tb_6 _ (List.mem_of_getElem? (i := 34) rfl), List.forall_mem_cons.mpr ⟨tb_6 _ (List.mem_of_getElem? (i := 128) rfl), List.forall_mem_cons.mpr ⟨tb_6 _ (List.mem_of_getElem? (i := 129) rfl), List.forall_mem_cons.mpr ⟨tb_6 _ (List.mem_of_getElem? (i := 130) rfl), List.forall_mem_cons.mpr ⟨tb_6 _ (List.mem_of_getElem? (i := 131) rfl), fun _ h => absurd h List.not_mem_nil⟩⟩⟩⟩⟩⟩⟩⟩⟩⟩⟩⟩⟩⟩⟩⟩⟩⟩⟩⟩⟩⟩⟩⟩
set_option maxRecDepth 20000 in
theorem tr_15 : ∀ w ∈ wsL_law0_r15, w ∈ lw_tbl := List.forall_mem_cons.mpr ⟨tb_2 _ (List.mem_of_getElem? (i := 220) rfl), List.forall_mem_cons.mpr ⟨tb_2 _ (List.mem_of_getElem? (i := 221) rfl), List.forall_mem_cons.mpr ⟨tb_2 _ (List.mem_of_getElem? (i := 222) rfl), List.forall_mem_cons.mpr ⟨tb_2 _ (List.mem_of_getElem? (i := 124) rfl), List.forall_mem_cons.mpr ⟨tb_2 _ (List.mem_of_getElem? (i := 223) rfl), List.forall_mem_cons.mpr ⟨tb_2 _ (List.mem_of_getElem? (i := 224) rfl), List.forall_mem_cons.mpr ⟨tb_2 _ (List.mem_of_getElem? (i := 225) rfl), List.forall_mem_cons.mpr ⟨tb_2 _ (List.mem_of_getElem? (i := 226) rfl), List.forall_mem_cons.mpr ⟨tb_2 _ (List.mem_of_getElem? (i := 228) rfl), List.forall_mem_cons.mpr ⟨tb_2 _ (List.mem_of_getElem? (i := 229) rfl), List.forall_mem_cons.mpr ⟨tb_2 _ (List.mem_of_getElem? (i := 230) rfl), List.forall_mem_cons.mpr ⟨tb_2 _ (List.mem_of_getElem? (i := 231) rfl), List.forall_mem_cons.mpr ⟨tb_1 _ (List.mem_of_getElem? (i := 125) rfl), List.forall_mem_cons.mpr ⟨tb_2 _ (List.mem_of_getElem? (i := 233) rfl), List.forall_mem_cons.mpr ⟨tb_2 _ (List.mem_of_getElem? (i := 234) rfl), List.forall_mem_cons.mpr ⟨tb_2 _ (List.mem_of_getElem? (i := 235) rfl), List.forall_mem_cons.mpr ⟨tb_2 _ (List.mem_of_getElem? (i := 236) rfl), List.forall_mem_cons.mpr ⟨tb_2 _ (List.mem_of_getElem? (i := 237) rfl), List.forall_mem_cons.mpr ⟨tb_2 _ (List.mem_of_getElem? (i := 239) rfl), List.forall_mem_cons.mpr ⟨List.mem_append_left _ (List.mem_of_getElem? (i := 8) rfl), List.forall_mem_cons.mpr ⟨tb_3 _ (List.mem_of_getElem? (i := 0) rfl), List.forall_mem_cons.mpr ⟨tb_3 _ (List.mem_of_getElem? (i := 1) rfl), List.forall_mem_cons.mpr ⟨tb_3 _ (List.mem_of_getElem? (i := 2) rfl), List.forall_mem_cons.mpr ⟨tb_3 _ (List.mem_of_getElem? (i := 3) rfl), fun _ h => absurd h List.not_mem_nil⟩⟩⟩⟩⟩⟩⟩⟩⟩⟩⟩⟩⟩⟩⟩⟩⟩⟩⟩⟩⟩⟩⟩⟩
set_option maxRecDepth 20000 in
theorem tr_16 : ∀ w ∈ wsL_law0_r16, w ∈ lw_tbl := List.forall_mem_cons.mpr ⟨tb_3 _ (List.mem_of_getElem? (i := 4) rfl), List.forall_mem_cons.mpr ⟨tb_3 _ (List.mem_of_getElem? (i := 5) rfl), List.forall_mem_cons.mpr ⟨tb_3 _ (List.mem_of_getElem? (i := 7) rfl), List.forall_mem_cons.mpr ⟨List.mem_append_left _ (List.mem_of_getElem? (i := 9) rfl), List.forall_mem_cons.mpr ⟨tb_3 _ (List.mem_of_getElem? (i := 8) rfl), List.forall_mem_cons.mpr ⟨tb_3 _ (List.mem_of_getElem? (i := 9) rfl), List.forall_mem_cons.mpr ⟨tb_3 _ (List.mem_of_getElem? (i := 11) rfl), List.forall_mem_cons.mpr ⟨List.mem_append_left _ (List.mem_of_getElem? (i := 10) rfl), List.forall_mem_cons.mpr ⟨tb_3 _ (List.mem_of_getElem? (i := 12) rfl), List.forall_mem_cons.mpr ⟨tb_3 _ (List.mem_of_getElem? (i := 13) rfl), List.forall_mem_cons.mpr ⟨tb_3 _ (List.mem_of_getElem? (i := 15) rfl), List.forall_mem_cons.mpr ⟨List.mem_append_left _ (List.mem_of_getElem? (i := 11) rfl), List.forall_mem_cons.mpr ⟨tb_3 _ (List.mem_of_getElem? (i := 16) rfl), List.forall_mem_cons.mpr ⟨tb_6 _ (List.mem_of_getElem? (i := 140) rfl), List.forall_mem_cons.mpr ⟨tb_6 _ (List.mem_of_getElem? (i := 141) rfl), List.forall_mem_cons.mpr ⟨tb_6 _ (List.mem_of_getElem? (i := 142) rfl), List.forall_mem_cons.mpr ⟨tb_6 _ (List.mem_of_getElem? (i := 143) rfl), List.forall_mem_cons.mpr ⟨tb_2 _ (List.mem_of_getElem? (i := 108) rfl), List.forall_mem_cons.mpr ⟨tb_2 _ (List.mem_of_getElem? (i := 109) rfl), List.forall_mem_cons.mpr ⟨tb_2 _ (List.mem_of_getElem? (i := 110) rfl), List.forall_mem_cons.mpr ⟨tb_2 _ (List.mem_of_getElem? (i := 111) rfl), List.forall_mem_cons.mpr ⟨tb_2 _ (List.mem_of_getElem? (i := 116) rfl), List.forall_mem_cons.mpr ⟨tb_2 _ (List.mem_of_getElem? (i := 117) rfl), List.forall_mem_cons.mpr ⟨tb_2 _ (List.mem_of_getElem? (i := 118) rfl), fun _ h => absurd h List.not_mem_nil⟩⟩⟩⟩⟩⟩⟩⟩⟩⟩⟩⟩⟩⟩⟩⟩⟩⟩⟩⟩⟩⟩⟩⟩
set_option maxRecDepth 20000 in
theorem tr_17 : ∀ w ∈ wsL_law0_r17, w ∈ lw_tbl := List.forall_mem_cons.mpr ⟨tb_2 _ (List.mem_of_getElem? (i := 119) rfl), List.forall_mem_cons.mpr ⟨tb_6 _ (List.mem_of_getElem? (i := 144) rfl), List.forall_mem_cons.mpr ⟨tb_6 _ (List.mem_of_getElem? (i := 145) rfl), List.forall_mem_cons.mpr ⟨tb_6 _ (List.mem_of_getElem? (i := 146) rfl), List.forall_mem_cons.mpr ⟨tb_6 _ (List.mem_of_getElem? (i := 147) rfl), List.forall_mem_cons.mpr ⟨tb_3 _ (List.mem_of_getElem? (i := 17) rfl), List.forall_mem_cons.mpr ⟨tb_3 _ (List.mem_of_getElem? (i := 18) rfl), List.forall_mem_cons.mpr ⟨tb_3 _ (List.mem_of_getElem? (i := 19) rfl), List.forall_mem_cons.mpr ⟨tb_3 _ (List.mem_of_getElem? (i := 20) rfl), List.forall_mem_cons.mpr ⟨tb_3 _ (List.mem_of_getElem? (i := 21) rfl), List.forall_mem_cons.mpr ⟨tb_3 _ (List.mem_of_getElem? (i := 22) rfl), List.forall_mem_cons.mpr ⟨tb_3 _ (List.mem_of_getElem? (i := 23) rfl), List.forall_mem_cons.mpr ⟨tb_3 _ (List.mem_of_getElem? (i := 24) rfl), List.forall_mem_cons.mpr ⟨tb_3 _ (List.mem_of_getElem? (i := 25) rfl), List.forall_mem_cons.mpr ⟨tb_1 _ (List.mem_of_getElem? (i := 20) rfl), List.forall_mem_cons.mpr ⟨tb_3 _ (List.mem_of_getElem? (i := 41) rfl), List.forall_mem_cons.mpr ⟨tb_3 _ (List.mem_of_getElem? (i := 42) rfl), List.forall_mem_cons.mpr ⟨tb_3 _ (List.mem_of_getElem? (i := 43) rfl), List.forall_mem_cons.mpr ⟨tb_3 _ (List.mem_of_getElem? (i := 44) rfl), List.forall_mem_cons.mpr ⟨tb_3 _ (List.mem_of_getElem? (i := 46) rfl), List.forall_mem_cons.mpr ⟨tb_3 _ (List.mem_of_getElem? (i := 47) rfl), List.forall_mem_cons.mpr ⟨tb_3 _ (List.mem_of_getElem? (i := 48) rfl), List.forall_mem_cons.mpr ⟨tb_3 _ (List.mem_of_getElem? (i := 49) rfl), List.forall_mem_cons.mpr ⟨tb_6 _ (List.mem_of_getElem? (i := 148) rfl), fun _ h => absurd h List.not_mem_nil⟩⟩⟩⟩⟩⟩⟩⟩⟩⟩⟩⟩⟩⟩⟩⟩⟩⟩⟩⟩⟩⟩⟩⟩
set_option maxRecDepth 20000 in
theorem tr_18 : ∀ w ∈ wsL_law0_r18, w ∈ lw_tbl := List.forall_mem_cons.mpr ⟨tb_6 _ (List.mem_of_getElem? (i := 149) rfl), List.forall_mem_cons.mpr ⟨tb_6 _ (List.mem_of_getElem? (i := 150) rfl), List.forall_mem_cons.mpr ⟨tb_6 _ (List.mem_of_getElem? (i := 151) rfl), List.forall_mem_cons.mpr ⟨tb_3 _ (List.mem_of_getElem? (i := 50) rfl), List.forall_mem_cons.mpr ⟨tb_3 _ (List.mem_of_getElem? (i := 51) rfl), List.forall_mem_cons.mpr ⟨tb_3 _ (List.mem_of_getElem? (i := 52) rfl), List.forall_mem_cons.mpr ⟨tb_3 _ (List.mem_of_getElem? (i := 53) rfl), List.forall_mem_cons.mpr ⟨tb_3 _ (List.mem_of_getElem? (i := 54) rfl), List.forall_mem_cons.mpr ⟨tb_3 _ (List.mem_of_getElem? (i := 55) rfl), List.forall_mem_cons.mpr ⟨tb_3 _ (List.mem_of_getElem? (i := 56) rfl), List.forall_mem_cons.mpr ⟨tb_3 _ (List.mem_of_getElem? (i := 58) rfl), List.forall_mem_cons.mpr ⟨tb_3 _ (List.mem_of_getElem? (i := 59) rfl), List.forall_mem_cons.mpr ⟨tb_3 _ (List.mem_of_getElem? (i := 60) rfl), List.forall_mem_cons.mpr ⟨tb_3 _ (List.mem_of_getElem? (i := 61) rfl), List.forall_mem_cons.mpr ⟨tb_6 _ (List.mem_of_getElem? (i := 152) rfl), List.forall_mem_cons.mpr ⟨tb_6 _ (List.mem_of_getElem? (i := 153) rfl), List.forall_mem_cons.mpr ⟨tb_6 _ (List.mem_of_getElem? (i := 154) rfl), List.forall_mem_cons.mpr ⟨tb_6 _ (List.mem_of_getElem? (i := 155) rfl), List.forall_mem_cons.mpr ⟨tb_3 _ (List.mem_of_getElem? (i := 62) rfl), List.forall_mem_cons.mpr ⟨tb_3 _ (List.mem_of_getElem? (i := 63) rfl), List.forall_mem_cons.mpr ⟨tb_3 _ (List.mem_of_getElem? (i := 64) rfl), List.forall_mem_cons.mpr ⟨tb_3 _ (List.mem_of_getElem? (i := 65) rfl), List.forall_mem_cons.mpr ⟨tb_3 _ (List.mem_of_getElem? (i := 66) rfl), List.forall_mem_cons.mpr ⟨tb_3 _ (List.mem_of_getElem? (i := 67) rfl), fun _ h => absurd h List.not_mem_nil⟩⟩⟩⟩⟩⟩⟩⟩⟩⟩⟩⟩⟩⟩⟩⟩⟩⟩⟩⟩⟩⟩⟩⟩
set_option maxRecDepth 20000 in
theorem tr_19 : ∀ w ∈ wsL_law0_r19, w ∈ lw_tbl := List.forall_mem_cons.mpr ⟨tb_3 _ (List.mem_of_getElem? (i := 68) rfl), List.forall_mem_cons.mpr ⟨tb_3 _ (List.mem_of_getElem? (i := 70) rfl), List.forall_mem_cons.mpr ⟨tb_3 _ (List.mem_of_getElem? (i := 71) rfl), List.forall_mem_cons.mpr ⟨tb_3 _ (List.mem_of_getElem? (i := 72) rfl), List.forall_mem_cons.mpr ⟨tb_3 _ (List.mem_of_getElem? (i := 73) rfl), List.forall_mem_cons.mpr ⟨tb_6 _ (List.mem_of_getElem? (i := 156) rfl), List.forall_mem_cons.mpr ⟨tb_6 _ (List.mem_of_getElem? (i := 157) rfl), List.forall_mem_cons.mpr ⟨tb_6 _ (List.mem_of_getElem? (i := 158) rfl), List.forall_mem_cons.mpr ⟨tb_6 _ (List.mem_of_getElem? (i := 159) rfl), List.forall_mem_cons.mpr ⟨tb_3 _ (List.mem_of_getElem? (i := 74) rfl), List.forall_mem_cons.mpr ⟨tb_3 _ (List.mem_of_getElem? (i := 75) rfl), List.forall_mem_cons.mpr ⟨tb_3 _ (List.mem_of_getElem? (i := 76) rfl), List.forall_mem_cons.mpr ⟨tb_3 _ (List.mem_of_getElem? (i := 77) rfl), List.forall_mem_cons.mpr ⟨tb_3 _ (List.mem_of_getElem? (i := 78) rfl), List.forall_mem_cons.mpr ⟨tb_3 _ (List.mem_of_getElem? (i := 79) rfl), List.forall_mem_cons.mpr ⟨tb_3 _ (List.mem_of_getElem? (i := 80) rfl), List.forall_mem_cons.mpr ⟨tb_3 _ (List.mem_of_getElem? (i := 82) rfl), List.forall_mem_cons.mpr ⟨tb_3 _ (List.mem_of_getElem? (i := 83) rfl), List.forall_mem_cons.mpr ⟨tb_3 _ (List.mem_of_getElem? (i := 84) rfl), List.forall_mem_cons.mpr ⟨tb_3 _ (List.mem_of_getElem? (i := 85) rfl), List.forall_mem_cons.mpr ⟨tb_1 _ (List.mem_of_getElem? (i := 155) rfl), List.forall_mem_cons.mpr ⟨tb_6 _ (List.mem_of_getElem? (i := 160) rfl), List.forall_mem_cons.mpr ⟨tb_6 _ (List.mem_of_getElem? (i := 161) rfl), List.forall_mem_cons.mpr ⟨tb_6 _ (List.mem_of_getElem? (i := 162) rfl), fun _ h => absurd h List.not_mem_nil⟩⟩⟩⟩⟩⟩⟩⟩⟩⟩⟩⟩⟩⟩⟩⟩⟩⟩⟩⟩⟩⟩⟩⟩
set_option maxRecDepth 20000 in
theorem tr_20 : ∀ w ∈ wsL_law0_r20, w ∈ lw_tbl := List.forall_mem_cons.mpr ⟨tb_6 _ (List.mem_of_getElem? (i := 163) rfl), List.forall_mem_cons.mpr ⟨tb_6 _ (List.mem_of_getElem? (i := 0) rfl), List.forall_mem_cons.mpr ⟨tb_3 _ (List.mem_of_getElem? (i := 86) rfl), List.forall_mem_cons.mpr ⟨tb_3 _ (List.mem_of_getElem? (i := 87) rfl), List.forall_mem_cons.mpr ⟨tb_3 _ (List.mem_of_getElem? (i := 88) rfl), List.forall_mem_cons.mpr ⟨tb_3 _ (List.mem_of_getElem? (i := 89) rfl), List.forall_mem_cons.mpr ⟨tb_3 _ (List.mem_of_getElem? (i := 90) rfl), List.forall_mem_cons.mpr ⟨tb_3 _ (List.mem_of_getElem? (i := 91) rfl), List.forall_mem_cons.mpr ⟨tb_3 _ (List.mem_of_getElem? (i := 92) rfl), List.forall_mem_cons.mpr ⟨tb_3 _ (List.mem_of_getElem? (i := 93) rfl), List.forall_mem_cons.mpr ⟨tb_3 _ (List.mem_of_getElem? (i := 94) rfl), List.forall_mem_cons.mpr ⟨tb_3 _ (List.mem_of_getElem? (i := 95) rfl), List.forall_mem_cons.mpr ⟨tb_3 _ (List.mem_of_getElem? (i := 96) rfl), List.forall_mem_cons.mpr ⟨tb_3 _ (List.mem_of_getElem? (i := 98) rfl), List.forall_mem_cons.mpr ⟨tb_6 _ (List.mem_of_getElem? (i := 164) rfl), List.forall_mem_cons.mpr ⟨tb_6 _ (List.mem_of_getElem? (i := 165) rfl), List.forall_mem_cons.mpr ⟨tb_6 _ (List.mem_of_getElem? (i := 166) rfl), List.forall_mem_cons.mpr ⟨tb_6 _ (List.mem_of_getElem? (i := 167) rfl), List.forall_mem_cons.mpr ⟨tb_3 _ (List.mem_of_getElem? (i := 99) rfl), List.forall_mem_cons.mpr ⟨tb_3 _ (List.mem_of_getElem? (i := 100) rfl), List.forall_mem_cons.mpr ⟨tb_3 _ (List.mem_of_getElem? (i := 101) rfl), List.forall_mem_cons.mpr ⟨tb_3 _ (List.mem_of_getElem? (i := 102) rfl), List.forall_mem_cons.mpr ⟨tb_3 _ (List.mem_of_getElem? (i := 103) rfl), List.forall_mem_cons.mpr ⟨tb_3 _ (List.mem_of_getElem? (i := 104) rfl), fun _ h => absurd h List.not_mem_nil⟩⟩⟩⟩⟩⟩⟩⟩⟩⟩⟩⟩⟩⟩⟩⟩⟩⟩⟩⟩⟩⟩⟩⟩
set_option maxRecDepth 20000 in
theorem tr_21 : ∀ w ∈ wsL_law0_r21, w ∈ lw_tbl := List.forall_mem_cons.mpr ⟨tb_3 _ (List.mem_of_getElem? (i := 105) rfl), List.forall_mem_cons.mpr ⟨tb_3 _ (List.mem_of_getElem? (i := 106) rfl), List.forall_mem_cons.mpr ⟨tb_3 _ (List.mem_of_getElem? (i := 107) rfl), List.forall_mem_cons.mpr ⟨tb_3 _ (List.mem_of_getElem? (i := 108) rfl), List.forall_mem_cons.mpr ⟨tb_3 _ (List.mem_of_getElem? (i := 109) rfl), List.forall_mem_cons.mpr ⟨tb_6 _ (List.mem_of_getElem? (i := 168) rfl), List.forall_mem_cons.mpr ⟨tb_6 _ (List.mem_of_getElem? (i := 169) rfl), List.forall_mem_cons.mpr ⟨tb_6 _ (List.mem_of_getElem? (i := 170) rfl), List.forall_mem_cons.mpr ⟨tb_6 _ (List.mem_of_getElem? (i := 171) rfl), List.forall_mem_cons.mpr ⟨tb_6 _ (List.mem_of_getElem? (i := 172) rfl), List.forall_mem_cons.mpr ⟨tb_6 _ (List.mem_of_getElem? (i := 173) rfl), List.forall_mem_cons.mpr ⟨tb_6 _ (List.mem_of_getElem? (i := 174) rfl), List.forall_mem_cons.mpr ⟨tb_3 _ (List.mem_of_getElem? (i := 110) rfl), List.forall_mem_cons.mpr ⟨tb_3 _ (List.mem_of_getElem? (i := 111) rfl), List.forall_mem_cons.mpr ⟨tb_3 _ (List.mem_of_getElem? (i := 112) rfl), List.forall_mem_cons.mpr ⟨tb_3 _ (List.mem_of_getElem? (i := 113) rfl), List.forall_mem_cons.mpr ⟨tb_3 _ (List.mem_of_getElem? (i := 114) rfl), List.forall_mem_cons.mpr ⟨tb_3 _ (List.mem_of_getElem? (i := 115) rfl), List.forall_mem_cons.mpr ⟨tb_3 _ (List.mem_of_getElem? (i := 116) rfl), List.forall_mem_cons.mpr ⟨tb_3 _ (List.mem_of_getElem? (i := 117) rfl), List.forall_mem_cons.mpr ⟨tb_3 _ (List.mem_of_getElem? (i := 118) rfl), List.forall_mem_cons.mpr ⟨tb_3 _ (List.mem_of_getElem? (i := 119) rfl), List.forall_mem_cons.mpr ⟨tb_3 _ (List.mem_of_getElem? (i := 120) rfl), List.forall_mem_cons.mpr ⟨tb_3 _ (List.mem_of_getElem? (i := 121) rfl), fun _ h => absurd h List.not_mem_nil⟩⟩⟩⟩⟩⟩⟩⟩⟩⟩⟩⟩⟩⟩⟩⟩⟩⟩⟩⟩⟩⟩⟩⟩
set_option maxRecDepth 20000 in
theorem tr_22 : ∀ w ∈ wsL_law0_r22, w ∈ lw_tbl := List.forall_mem_cons.mpr ⟨tb_3 _ (List.mem_of_getElem? (i := 123) rfl), List.forall_mem_cons.mpr ⟨List.mem_append_left _ (List.mem_of_getElem? (i := 12) rfl), List.forall_mem_cons.mpr ⟨tb_3 _ (List.mem_of_getElem? (i := 124) rfl), List.forall_mem_cons.mpr ⟨tb_3 _ (List.mem_of_getElem? (i := 152) rfl), List.forall_mem_cons.mpr ⟨tb_3 _ (List.mem_of_getElem? (i := 153) rfl), List.forall_mem_cons.mpr ⟨tb_3 _ (List.mem_of_getElem? (i := 154) rfl), List.forall_mem_cons.mpr ⟨tb_3 _ (List.mem_of_getElem? (i := 155) rfl), List.forall_mem_cons.mpr ⟨tb_3 _ (List.mem_of_getElem? (i := 156) rfl), List.forall_mem_cons.mpr ⟨tb_3 _ (List.mem_of_getElem? (i := 157) rfl), List.forall_mem_cons.mpr ⟨tb_3 _ (List.mem_of_getElem? (i := 125) rfl), List.forall_mem_cons.mpr ⟨tb_3 _ (List.mem_of_getElem? (i := 126) rfl), List.forall_mem_cons.mpr ⟨tb_3 _ (List.mem_of_getElem? (i := 127) rfl), List.forall_mem_cons.mpr ⟨tb_3 _ (List.mem_of_getElem? (i := 128) rfl), List.forall_mem_cons.mpr ⟨tb_3 _ (List.mem_of_getElem? (i := 129) rfl), List.forall_mem_cons.mpr ⟨tb_3 _ (List.mem_of_getElem? (i := 131) rfl), List.forall_mem_cons.mpr ⟨tb_3 _ (List.mem_of_getElem? (i := 132) rfl), List.forall_mem_cons.mpr ⟨tb_3 _ (List.mem_of_getElem? (i := 133) rfl), List.forall_mem_cons.mpr ⟨tb_3 _ (List.mem_of_getElem? (i := 134) rfl), List.forall_mem_cons.mpr ⟨tb_3 _ (List.mem_of_getElem? (i := 135) rfl), List.forall_mem_cons.mpr ⟨tb_3 _ (List.mem_of_getElem? (i := 136) rfl), List.forall_mem_cons.mpr ⟨tb_3 _ (List.mem_of_getElem? (i := 137) rfl), List.forall_mem_cons.mpr ⟨tb_3 _ (List.mem_of_getElem? (i := 139) rfl), List.forall_mem_cons.mpr ⟨tb_3 _ (List.mem_of_getElem? (i := 140) rfl), List.forall_mem_cons.mpr ⟨tb_3 _ (List.mem_of_getElem? (i := 141) rfl), fun _ h => absurd h List.not_mem_nil⟩⟩⟩⟩⟩⟩⟩⟩⟩⟩⟩⟩⟩⟩⟩⟩⟩⟩⟩⟩⟩⟩⟩⟩
set_option maxRecDepth 20000 in
theorem tr_23 : ∀ w ∈ wsL_law0_r23, w ∈ lw_tbl := List.forall_mem_cons.mpr ⟨tb_3 _ (List.mem_of_getElem? (i := 142) rfl), List.forall_mem_cons.mpr ⟨tb_3 _ (List.mem_of_getElem? (i := 143) rfl), List.forall_mem_cons.mpr ⟨tb_3 _ (List.mem_of_getElem? (i := 144) rfl), List.forall_mem_cons.mpr ⟨tb_3 _ (List.mem_of_getElem? (i := 145) rfl), List.forall_mem_cons.mpr ⟨tb_3 _ (List.mem_of_getElem? (i := 146) rfl), List.forall_mem_cons.mpr ⟨tb_3 _ (List.mem_of_getElem? (i := 147) rfl), List.forall_mem_cons.mpr ⟨tb_3 _ (List.mem_of_getElem? (i := 148) rfl), List.forall_mem_cons.mpr ⟨tb_3 _ (List.mem_of_getElem? (i := 149) rfl), List.forall_mem_cons.mpr ⟨tb_3 _ (List.mem_of_getElem? (i := 150) rfl), List.forall_mem_cons.mpr ⟨tb_3 _ (List.mem_of_getElem? (i := 151) rfl), List.forall_mem_cons.mpr ⟨tb_3 _ (List.mem_of_getElem? (i := 158) rfl), List.forall_mem_cons.mpr ⟨tb_3 _ (List.mem_of_getElem? (i := 159) rfl), List.forall_mem_cons.mpr ⟨tb_3 _ (List.mem_of_getElem? (i := 160) rfl), List.forall_mem_cons.mpr ⟨tb_3 _ (List.mem_of_getElem? (i := 161) rfl), List.forall_mem_cons.mpr ⟨tb_3 _ (List.mem_of_getElem? (i := 162) rfl), List.forall_mem_cons.mpr ⟨tb_3 _ (List.mem_of_getElem? (i := 163) rfl), List.forall_mem_cons.mpr ⟨tb_3 _ (List.mem_of_getElem? (i := 164) rfl), List.forall_mem_cons.mpr ⟨tb_3 _ (List.mem_of_getElem? (i := 165) rfl), List.forall_mem_cons.mpr ⟨tb_3 _ (List.mem_of_getElem? (i := 166) rfl), List.forall_mem_cons.mpr ⟨tb_3 _ (List.mem_of_getElem? (i := 167) rfl), List.forall_mem_cons.mpr ⟨tb_3 _ (List.mem_of_getElem? (i := 168) rfl), List.forall_mem_cons.mpr ⟨tb_3 _ (List.mem_of_getElem? (i := 169) rfl), List.forall_mem_cons.mpr ⟨tb_3 _ (List.mem_of_getElem? (i := 171) rfl), List.forall_mem_cons.mpr ⟨List.mem_append_left _ (List.mem_of_getElem? (i := 13) rfl), fun _ h => absurd h List.not_mem_nil⟩⟩⟩⟩⟩⟩⟩⟩⟩⟩⟩⟩⟩⟩⟩⟩⟩⟩⟩⟩⟩⟩⟩⟩
set_option maxRecDepth 20000 in
theorem tr_24 : ∀ w ∈ wsL_law0_r24, w ∈ lw_tbl := List.forall_mem_cons.mpr ⟨tb_3 _ (List.mem_of_getElem? (i := 172) rfl), List.forall_mem_cons.mpr ⟨tb_1 _ (List.mem_of_getElem? (i := 232) rfl), List.forall_mem_cons.mpr ⟨tb_1 _ (List.mem_of_getElem? (i := 233) rfl), List.forall_mem_cons.mpr ⟨tb_1 _ (List.mem_of_getElem? (i := 234) rfl), List.forall_mem_cons.mpr ⟨tb_3 _ (List.mem_of_getElem? (i := 173) rfl), List.forall_mem_cons.mpr ⟨tb_3 _ (List.mem_of_getElem? (i := 175) rfl), List.forall_mem_cons.mpr ⟨List.mem_append_left _ (List.mem_of_getElem? (i := 14) rfl), List.forall_mem_cons.mpr ⟨tb_3 _ (List.mem_of_getElem? (i := 176) rfl), List.forall_mem_cons.mpr ⟨tb_3 _ (List.mem_of_getElem? (i := 177) rfl), List.forall_mem_cons.mpr ⟨tb_3 _ (List.mem_of_getElem? (i := 178) rfl), List.forall_mem_cons.mpr ⟨tb_3 _ (List.mem_of_getElem? (i := 179) rfl), List.forall_mem_cons.mpr ⟨tb_3 _ (List.mem_of_getElem? (i := 180) rfl), List.forall_mem_cons.mpr ⟨tb_6 _ (List.mem_of_getElem? (i := 175) rfl), List.forall_mem_cons.mpr ⟨tb_6 _ (List.mem_of_getElem? (i := 176) rfl), List.forall_mem_cons.mpr ⟨tb_6 _ (List.mem_of_getElem? (i := 177) rfl), List.forall_mem_cons.mpr ⟨tb_6 _ (List.mem_of_getElem? (i := 178) rfl), List.forall_mem_cons.mpr ⟨tb_6 _ (List.mem_of_getElem? (i := 13) rfl), List.forall_mem_cons.mpr ⟨tb_6 _ (List.mem_of_getElem? (i := 14) rfl), List.forall_mem_cons.mpr ⟨tb_6 _ (List.mem_of_getElem? (i := 15) rfl), List.forall_mem_cons.mpr ⟨tb_6 _ (List.mem_of_getElem? (i := 16) rfl), List.forall_mem_cons.mpr ⟨tb_6 _ (List.mem_of_getElem? (i := 179) rfl), List.forall_mem_cons.mpr ⟨tb_6 _ (List.mem_of_getElem? (i := 180) rfl), List.forall_mem_cons.mpr ⟨tb_6 _ (List.mem_of_getElem? (i := 181) rfl), List.forall_mem_cons.mpr ⟨tb_6 _ (List.mem_of_getElem? (i := 182) rfl), fun _ h => absurd h List.not_mem_nil⟩⟩⟩⟩⟩⟩⟩⟩⟩⟩⟩⟩⟩⟩⟩⟩⟩⟩⟩⟩⟩⟩⟩⟩
set_option maxRecDepth 20000 in
theorem tr_25 : ∀ w ∈ wsL_law0_r25, w ∈ lw_tbl := List.forall_mem_cons.mpr ⟨tb_6 _ (List.mem_of_getElem? (i := 184) rfl), List.forall_mem_cons.mpr ⟨List.mem_append_left _ (List.mem_of_getElem? (i := 39) rfl), List.forall_mem_cons.mpr ⟨tb_6 _ (List.mem_of_getElem? (i := 185) rfl), List.forall_mem_cons.mpr ⟨tb_6 _ (List.mem_of_getElem? (i := 186) rfl), List.forall_mem_cons.mpr ⟨tb_6 _ (List.mem_of_getElem? (i := 187) rfl), List.forall_mem_cons.mpr ⟨tb_6 _ (List.mem_of_getElem? (i := 188) rfl), List.forall_mem_cons.mpr ⟨tb_6 _ (List.mem_of_getElem? (i := 189) rfl), List.forall_mem_cons.mpr ⟨tb_6 _ (List.mem_of_getElem? (i := 190) rfl), List.forall_mem_cons.mpr ⟨tb_6 _ (List.mem_of_getElem? (i := 191) rfl), List.forall_mem_cons.mpr ⟨tb_3 _ (List.mem_of_getElem? (i := 181) rfl), List.forall_mem_cons.mpr ⟨tb_3 _ (List.mem_of_getElem? (i := 182) rfl), List.forall_mem_cons.mpr ⟨tb_3 _ (List.mem_of_getElem? (i := 183) rfl), List.forall_mem_cons.mpr ⟨tb_3 _ (List.mem_of_getElem? (i := 184) rfl), List.forall_mem_cons.mpr ⟨tb_3 _ (List.mem_of_getElem? (i := 185) rfl), List.forall_mem_cons.mpr ⟨tb_3 _ (List.mem_of_getElem? (i := 186) rfl), List.forall_mem_cons.mpr ⟨tb_3 _ (List.mem_of_getElem? (i := 187) rfl), List.forall_mem_cons.mpr ⟨tb_3 _ (List.mem_of_getElem? (i := 189) rfl), List.forall_mem_cons.mpr ⟨tb_3 _ (List.mem_of_getElem? (i := 190) rfl), List.forall_mem_cons.mpr ⟨tb_3 _ (List.mem_of_getElem? (i := 191) rfl), List.forall_mem_cons.mpr ⟨tb_3 _ (List.mem_of_getElem? (i := 192) rfl), List.forall_mem_cons.mpr ⟨tb_6 _ (List.mem_of_getElem? (i := 192) rfl), List.forall_mem_cons.mpr ⟨tb_6 _ (List.mem_of_getElem? (i := 193) rfl), List.forall_mem_cons.mpr ⟨tb_6 _ (List.mem_of_getElem? (i := 194) rfl), List.forall_mem_cons.mpr ⟨tb_6 _ (List.mem_of_getElem? (i := 195) rfl), fun _ h => absurd h List.not_mem_nil⟩⟩⟩⟩⟩⟩⟩⟩⟩⟩⟩⟩⟩⟩⟩⟩⟩⟩⟩⟩⟩⟩⟩⟩
set_option maxRecDepth 20000 in
theorem tr_26 : ∀ w ∈ wsL_law0_r26, w ∈ lw_tbl := List.forall_mem_cons.mpr ⟨tb_3 _ (List.mem_of_getElem? (i := 193) rfl), List.forall_mem_cons.mpr ⟨tb_3 _ (List.mem_of_getElem? (i := 194) rfl), List.forall_mem_cons.mpr ⟨tb_3 _ (List.mem_of_getElem? (i := 195) rfl), List.forall_mem_cons.mpr ⟨tb_3 _ (List.mem_of_getElem? (i := 196) rfl), List.forall_mem_cons.mpr ⟨tb_3 _ (List.mem_of_getElem? (i := 197) rfl), List.forall_mem_cons.mpr ⟨tb_3 _ (List.mem_of_getElem? (i := 198) rfl), List.forall_mem_cons.mpr ⟨tb_3 _ (List.mem_of_getElem? (i := 199) rfl), List.forall_mem_cons.mpr ⟨tb_3 _ (List.mem_of_getElem? (i := 200) rfl), List.forall_mem_cons.mpr ⟨tb_3 _ (List.mem_of_getElem? (i := 201) rfl), List.forall_mem_cons.mpr ⟨tb_3 _ (List.mem_of_getElem? (i := 202) rfl), List.forall_mem_cons.mpr ⟨tb_3 _ (List.mem_of_getElem? (i := 203) rfl), List.forall_mem_cons.mpr ⟨tb_3 _ (List.mem_of_getElem? (i := 204) rfl), List.forall_mem_cons.mpr ⟨tb_3 _ (List.mem_of_getElem? (i := 206) rfl), List.forall_mem_cons.mpr ⟨List.mem_append_left _ (List.mem_of_getElem? (i := 15) rfl), List.forall_mem_cons.mpr ⟨tb_3 _ (List.mem_of_getElem? (i := 207) rfl), List.forall_mem_cons.mpr ⟨tb_3 _ (List.mem_of_getElem? (i := 208) rfl), List.forall_mem_cons.mpr ⟨tb_3 _ (List.mem_of_getElem? (i := 209) rfl), List.forall_mem_cons.mpr ⟨tb_3 _ (List.mem_of_getElem? (i := 210) rfl), List.forall_mem_cons.mpr ⟨tb_3 _ (List.mem_of_getElem? (i := 211) rfl), List.forall_mem_cons.mpr ⟨tb_3 _ (List.mem_of_getElem? (i := 212) rfl), List.forall_mem_cons.mpr ⟨tb_3 _ (List.mem_of_getElem? (i := 213) rfl), List.forall_mem_cons.mpr ⟨tb_1 _ (List.mem_of_getElem? (i := 179) rfl), List.forall_mem_cons.mpr ⟨tb_1 _ (List.mem_of_getElem? (i := 180) rfl), List.forall_mem_cons.mpr ⟨tb_3 _ (List.mem_of_getElem? (i := 214) rfl), fun _ h => absurd h List.not_mem_nil⟩⟩⟩⟩⟩⟩⟩⟩⟩⟩⟩⟩⟩⟩⟩⟩⟩⟩⟩⟩⟩⟩⟩⟩
set_option maxRecDepth 20000 in
theorem tr_27 : ∀ w ∈ wsL_law0_r27, w ∈ lw_tbl := List.forall_mem_cons.mpr ⟨tb_3 _ (List.mem_of_getElem? (i := 215) rfl), List.forall_mem_cons.mpr ⟨tb_1 _ (List.mem_of_getElem? (i := 21) rfl), List.forall_mem_cons.mpr ⟨tb_3 _ (List.mem_of_getElem? (i := 216) rfl), List.forall_mem_cons.mpr ⟨tb_3 _ (List.mem_of_getElem? (i := 217) rfl), List.forall_mem_cons.mpr ⟨tb_3 _ (List.mem_of_getElem? (i := 218) rfl), List.forall_mem_cons.mpr ⟨tb_3 _ (List.mem_of_getElem? (i := 219) rfl), List.forall_mem_cons.mpr ⟨tb_3 _ (List.mem_of_getElem? (i := 220) rfl), List.forall_mem_cons.mpr ⟨tb_3 _ (List.mem_of_getElem? (i := 221) rfl), List.forall_mem_cons.mpr ⟨tb_3 _ (List.mem_of_getElem? (i := 222) rfl), List.forall_mem_cons.mpr ⟨tb_3 _ (List.mem_of_getElem? (i := 223) rfl), List.forall_mem_cons.mpr ⟨tb_3 _ (List.mem_of_getElem? (i := 224) rfl), List.forall_mem_cons.mpr ⟨tb_3 _ (List.mem_of_getElem? (i := 226) rfl), List.forall_mem_cons.mpr ⟨List.mem_append_left _ (List.mem_of_getElem? (i := 16) rfl), List.forall_mem_cons.mpr ⟨tb_3 _ (List.mem_of_getElem? (i := 227) rfl), List.forall_mem_cons.mpr ⟨tb_3 _ (List.mem_of_getElem? (i := 228) rfl), List.forall_mem_cons.mpr ⟨tb_3 _ (List.mem_of_getElem? (i := 230) rfl), List.forall_mem_cons.mpr ⟨List.mem_append_left _ (List.mem_of_getElem? (i := 17) rfl), List.forall_mem_cons.mpr ⟨tb_3 _ (List.mem_of_getElem? (i := 231) rfl), List.forall_mem_cons.mpr ⟨tb_3 _ (List.mem_of_getElem? (i := 232) rfl), List.forall_mem_cons.mpr ⟨tb_3 _ (List.mem_of_getElem? (i := 234) rfl), List.forall_mem_cons.mpr ⟨List.mem_append_left _ (List.mem_of_getElem? (i := 18) rfl), List.forall_mem_cons.mpr ⟨tb_3 _ (List.mem_of_getElem? (i := 235) rfl), List.forall_mem_cons.mpr ⟨tb_3 _ (List.mem_of_getElem? (i := 236) rfl), List.forall_mem_cons.mpr ⟨tb_3 _ (List.mem_of_getElem? (i := 237) rfl), fun _ h => absurd h List.not_mem_nil⟩⟩⟩⟩⟩⟩⟩⟩⟩⟩⟩⟩⟩⟩⟩⟩⟩⟩⟩⟩⟩⟩⟩⟩
set_option maxRecDepth 20000 in
theorem tr_28 : ∀ w ∈ wsL_law0_r28, w ∈ lw_tbl := List.forall_mem_cons.mpr ⟨tb_3 _ (List.mem_of_getElem? (i := 238) rfl), List.forall_mem_cons.mpr ⟨tb_3 _ (List.mem_of_getElem? (i := 239) rfl), List.forall_mem_cons.mpr ⟨tb_4 _ (List.mem_of_getElem? (i := 0) rfl), List.forall_mem_cons.mpr ⟨tb_4 _ (List.mem_of_getElem? (i := 1) rfl), List.forall_mem_cons.mpr ⟨tb_4 _ (List.mem_of_getElem? (i := 2) rfl), List.forall_mem_cons.mpr ⟨tb_4 _ (List.mem_of_getElem? (i := 3) rfl), List.forall_mem_cons.mpr ⟨tb_4 _ (List.mem_of_getElem? (i := 4) rfl), List.forall_mem_cons.mpr ⟨tb_4 _ (List.mem_of_getElem? (i := 6) rfl), List.forall_mem_cons.mpr ⟨List.mem_append_left _ (List.mem_of_getElem? (i := 19) rfl), List.forall_mem_cons.mpr ⟨tb_4 _ (List.mem_of_getElem? (i := 7) rfl), List.forall_mem_cons.mpr ⟨tb_4 _ (List.mem_of_getElem? (i := 8) rfl), List.forall_mem_cons.mpr ⟨tb_4 _ (List.mem_of_getElem? (i := 9) rfl), List.forall_mem_cons.mpr ⟨tb_4 _ (List.mem_of_getElem? (i := 10) rfl), List.forall_mem_cons.mpr ⟨tb_4 _ (List.mem_of_getElem? (i := 11) rfl), List.forall_mem_cons.mpr ⟨tb_4 _ (List.mem_of_getElem? (i := 12) rfl), List.forall_mem_cons.mpr ⟨tb_4 _ (List.mem_of_getElem? (i := 13) rfl), List.forall_mem_cons.mpr ⟨tb_4 _ (List.mem_of_getElem? (i := 14) rfl), List.forall_mem_cons.mpr ⟨tb_4 _ (List.mem_of_getElem? (i := 15) rfl), List.forall_mem_cons.mpr ⟨tb_4 _ (List.mem_of_getElem? (i := 16) rfl), List.forall_mem_cons.mpr ⟨tb_4 _ (List.mem_of_getElem? (i := 17) rfl), List.forall_mem_cons.mpr ⟨tb_4 _ (List.mem_of_getElem? (i := 18) rfl), List.forall_mem_cons.mpr ⟨tb_4 _ (List.mem_of_getElem? (i := 19) rfl), List.forall_mem_cons.mpr ⟨tb_4 _ (List.mem_of_getElem? (i := 20) rfl), List.forall_mem_cons.mpr ⟨tb_4 _ (List.mem_of_getElem? (i := 21) rfl), fun _ h => absurd h List.not_mem_nil⟩⟩⟩⟩⟩⟩⟩⟩⟩⟩⟩⟩⟩⟩⟩⟩⟩⟩⟩⟩⟩⟩⟩⟩
set_option maxRecDepth 20000 in
theorem tr_29 : ∀ w ∈ wsL_law0_r29, w ∈ lw_tbl := List.forall_mem_cons.mpr ⟨tb_4 _ (List.mem_of_getElem? (i := 22) rfl), List.forall_mem_cons.mpr ⟨tb_4 _ (List.mem_of_getElem? (i := 23) rfl), List.forall_mem_cons.mpr ⟨tb_4 _ (List.mem_of_getElem? (i := 24) rfl), List.forall_mem_cons.mpr ⟨tb_4 _ (List.mem_of_getElem? (i := 25) rfl), List.forall_mem_cons.mpr ⟨tb_4 _ (List.mem_of_getElem? (i := 26) rfl), List.forall_mem_cons.mpr ⟨tb_4 _ (List.mem_of_getElem? (i := 27) rfl), List.forall_mem_cons.mpr ⟨tb_4 _ (List.mem_of_getElem? (i := 28) rfl), List.forall_mem_cons.mpr ⟨tb_4 _ (List.mem_of_getElem? (i := 29) rfl), List.forall_mem_cons.mpr ⟨tb_4 _ (List.mem_of_getElem? (i := 30) rfl), List.forall_mem_cons.mpr ⟨tb_4 _ (List.mem_of_getElem? (i := 31) rfl), List.forall_mem_cons.mpr ⟨tb_4 _ (List.mem_of_getElem? (i := 32) rfl), List.forall_mem_cons.mpr ⟨tb_4 _ (List.mem_of_getElem? (i := 34) rfl), List.forall_mem_cons.mpr ⟨tb_4 _ (List.mem_of_getElem? (i := 33) rfl), List.forall_mem_cons.mpr ⟨tb_4 _ (List.mem_of_getElem? (i := 35) rfl), List.forall_mem_cons.mpr ⟨tb_4 _ (List.mem_of_getElem? (i := 36) rfl), List.forall_mem_cons.mpr ⟨tb_4 _ (List.mem_of_getElem? (i := 37) rfl), List.forall_mem_cons.mpr ⟨tb_4 _ (List.mem_of_getElem? (i := 38) rfl), List.forall_mem_cons.mpr ⟨tb_4 _ (List.mem_of_getElem? (i := 39) rfl), List.forall_mem_cons.mpr ⟨tb_4 _ (List.mem_of_getElem? (i := 40) rfl), List.forall_mem_cons.mpr ⟨tb_4 _ (List.mem_of_getElem? (i := 41) rfl), List.forall_mem_cons.mpr ⟨tb_4 _ (List.mem_of_getElem? (i := 43) rfl), List.forall_mem_cons.mpr ⟨List.mem_append_left _ (List.mem_of_getElem? (i := 20) rfl), List.forall_mem_cons.mpr ⟨tb_4 _ (List.mem_of_getElem? (i := 44) rfl), List.forall_mem_cons.mpr ⟨tb_4 _ (List.mem_of_getElem? (i := 45) rfl), fun _ h => absurd h List.not_mem_nil⟩⟩⟩⟩⟩⟩⟩⟩⟩⟩⟩⟩⟩⟩⟩⟩⟩⟩⟩⟩⟩⟩⟩⟩
set_option maxRecDepth 20000 in
theorem tr_30 : ∀ w ∈ wsL_law0_r30, w ∈ lw_tbl := List.forall_mem_cons.mpr ⟨tb_6 _ (List.mem_of_getElem? (i := 196) rfl), List.forall_mem_cons.mpr ⟨tb_6 _ (List.mem_of_getElem? (i := 197) rfl), List.forall_mem_cons.mpr ⟨tb_6 _ (List.mem_of_getElem? (i := 198) rfl), List.forall_mem_cons.mpr ⟨tb_6 _ (List.mem_of_getElem? (i := 199) rfl), List.forall_mem_cons.mpr ⟨tb_6 _ (List.mem_of_getElem? (i := 200) rfl), List.forall_mem_cons.mpr ⟨tb_6 _ (List.mem_of_getElem? (i := 202) rfl), List.forall_mem_cons.mpr ⟨List.mem_append_left _ (List.mem_of_getElem? (i := 40) rfl), List.forall_mem_cons.mpr ⟨tb_6 _ (List.mem_of_getElem? (i := 203) rfl), List.forall_mem_cons.mpr ⟨tb_6 _ (List.mem_of_getElem? (i := 204) rfl), List.forall_mem_cons.mpr ⟨tb_6 _ (List.mem_of_getElem? (i := 10) rfl), List.forall_mem_cons.mpr ⟨tb_6 _ (List.mem_of_getElem? (i := 9) rfl), List.forall_mem_cons.mpr ⟨tb_6 _ (List.mem_of_getElem? (i := 205) rfl), List.forall_mem_cons.mpr ⟨tb_6 _ (List.mem_of_getElem? (i := 207) rfl), List.forall_mem_cons.mpr ⟨List.mem_append_left _ (List.mem_of_getElem? (i := 41) rfl), List.forall_mem_cons.mpr ⟨tb_6 _ (List.mem_of_getElem? (i := 208) rfl), List.forall_mem_cons.mpr ⟨tb_6 _ (List.mem_of_getElem? (i := 209) rfl), List.forall_mem_cons.mpr ⟨tb_6 _ (List.mem_of_getElem? (i := 211) rfl), List.forall_mem_cons.mpr ⟨List.mem_append_left _ (List.mem_of_getElem? (i := 42) rfl), List.forall_mem_cons.mpr ⟨tb_6 _ (List.mem_of_getElem? (i := 212) rfl), List.forall_mem_cons.mpr ⟨tb_6 _ (List.mem_of_getElem? (i := 213) rfl), List.forall_mem_cons.mpr ⟨tb_6 _ (List.mem_of_getElem? (i := 215) rfl), List.forall_mem_cons.mpr ⟨List.mem_append_left _ (List.mem_of_getElem? (i := 43) rfl), List.forall_mem_cons.mpr ⟨tb_6 _ (List.mem_of_getElem? (i := 216) rfl), List.forall_mem_cons.mpr ⟨tb_6 _ (List.mem_of_getElem? (i := 217) rfl), fun _ h => absurd h List.not_mem_nil⟩⟩⟩⟩⟩⟩⟩⟩⟩⟩⟩⟩⟩⟩⟩⟩⟩⟩⟩⟩⟩⟩⟩⟩
set_option maxRecDepth 20000 in
theorem tr_31 : ∀ w ∈ wsL_law0_r31, w ∈ lw_tbl := List.forall_mem_cons.mpr ⟨tb_6 _ (List.mem_of_getElem? (i := 219) rfl), List.forall_mem_cons.mpr ⟨List.mem_append_left _ (List.mem_of_getElem? (i := 44) rfl), List.forall_mem_cons.mpr ⟨tb_6 _ (List.mem_of_getElem? (i := 220) rfl), List.forall_mem_cons.mpr ⟨tb_6 _ (List.mem_of_getElem? (i := 221) rfl), List.forall_mem_cons.mpr ⟨tb_6 _ (List.mem_of_getElem? (i := 223) rfl), List.forall_mem_cons.mpr ⟨List.mem_append_left _ (List.mem_of_getElem? (i := 45) rfl), List.forall_mem_cons.mpr ⟨tb_6 _ (List.mem_of_getElem? (i := 224) rfl), List.forall_mem_cons.mpr ⟨tb_4 _ (List.mem_of_getElem? (i := 46) rfl), List.forall_mem_cons.mpr ⟨tb_4 _ (List.mem_of_getElem? (i := 47) rfl), List.forall_mem_cons.mpr ⟨tb_4 _ (List.mem_of_getElem? (i := 48) rfl), List.forall_mem_cons.mpr ⟨tb_4 _ (List.mem_of_getElem? (i := 49) rfl), List.forall_mem_cons.mpr ⟨tb_4 _ (List.mem_of_getElem? (i := 50) rfl), List.forall_mem_cons.mpr ⟨tb_4 _ (List.mem_of_getElem? (i := 51) rfl), List.forall_mem_cons.mpr ⟨tb_4 _ (List.mem_of_getElem? (i := 52) rfl), List.forall_mem_cons.mpr ⟨tb_4 _ (List.mem_of_getElem? (i := 53) rfl), List.forall_mem_cons.mpr ⟨tb_4 _ (List.mem_of_getElem? (i := 54) rfl), List.forall_mem_cons.mpr ⟨tb_4 _ (List.mem_of_getElem? (i := 55) rfl), List.forall_mem_cons.mpr ⟨tb_4 _ (List.mem_of_getElem? (i := 56) rfl), List.forall_mem_cons.mpr ⟨tb_6 _ (List.mem_of_getElem? (i := 225) rfl), List.forall_mem_cons.mpr ⟨tb_6 _ (List.mem_of_getElem? (i := 226) rfl), List.forall_mem_cons.mpr ⟨tb_6 _ (List.mem_of_getElem? (i := 227) rfl), List.forall_mem_cons.mpr ⟨tb_6 _ (List.mem_of_getElem? (i := 228) rfl), List.forall_mem_cons.mpr ⟨tb_6 _ (List.mem_of_getElem? (i := 229) rfl), List.forall_mem_cons.mpr ⟨tb_4 _ (List.mem_of_getElem? (i := 57) rfl), fun _ h => absurd h List.not_mem_nil⟩⟩⟩⟩⟩⟩⟩⟩⟩⟩⟩⟩⟩⟩⟩⟩⟩⟩⟩⟩⟩⟩⟩⟩
set_option maxRecDepth 20000 in
theorem tr_32 : ∀ w ∈ wsL_law0_r32, w ∈ lw_tbl := List.forall_mem_cons.mpr ⟨tb_4 _ (List.mem_of_getElem? (i := 58) rfl), List.forall_mem_cons.mpr ⟨tb_4 _ (List.mem_of_getElem? (i := 59) rfl), List.forall_mem_cons.mpr ⟨tb_4 _ (List.mem_of_getElem? (i := 60) rfl), List.forall_mem_cons.mpr ⟨tb_4 _ (List.mem_of_getElem? (i := 61) rfl), List.forall_mem_cons.mpr ⟨tb_4 _ (List.mem_of_getElem? (i := 62) rfl), List.forall_mem_cons.mpr ⟨tb_4 _ (List.mem_of_getElem? (i := 63) rfl), List.forall_mem_cons.mpr ⟨tb_4 _ (List.mem_of_getElem? (i := 64) rfl), List.forall_mem_cons.mpr ⟨tb_4 _ (List.mem_of_getElem? (i := 66) rfl), List.forall_mem_cons.mpr ⟨List.mem_append_left _ (List.mem_of_getElem? (i := 21) rfl), List.forall_mem_cons.mpr ⟨tb_4 _ (List.mem_of_getElem? (i := 67) rfl), List.forall_mem_cons.mpr ⟨tb_2 _ (List.mem_of_getElem? (i := 81) rfl), List.forall_mem_cons.mpr ⟨tb_4 _ (List.mem_of_getElem? (i := 70) rfl), List.forall_mem_cons.mpr ⟨tb_4 _ (List.mem_of_getElem? (i := 71) rfl), List.forall_mem_cons.mpr ⟨tb_4 _ (List.mem_of_getElem? (i := 72) rfl), List.forall_mem_cons.mpr ⟨tb_4 _ (List.mem_of_getElem? (i := 73) rfl), List.forall_mem_cons.mpr ⟨tb_4 _ (List.mem_of_getElem? (i := 78) rfl), List.forall_mem_cons.mpr ⟨tb_4 _ (List.mem_of_getElem? (i := 74) rfl), List.forall_mem_cons.mpr ⟨tb_4 _ (List.mem_of_getElem? (i := 75) rfl), List.forall_mem_cons.mpr ⟨tb_4 _ (List.mem_of_getElem? (i := 76) rfl), List.forall_mem_cons.mpr ⟨tb_4 _ (List.mem_of_getElem? (i := 77) rfl), List.forall_mem_cons.mpr ⟨tb_1 _ (List.mem_of_getElem? (i := 202) rfl), List.forall_mem_cons.mpr ⟨tb_4 _ (List.mem_of_getElem? (i := 79) rfl), List.forall_mem_cons.mpr ⟨tb_4 _ (List.mem_of_getElem? (i := 80) rfl), List.forall_mem_cons.mpr ⟨tb_4 _ (List.mem_of_getElem? (i := 81) rfl), fun _ h => absurd h List.not_mem_nil⟩⟩⟩⟩⟩⟩⟩⟩⟩⟩⟩⟩⟩⟩⟩⟩⟩⟩⟩⟩⟩⟩⟩⟩
set_option maxRecDepth 20000 in
theorem tr_33 : ∀ w ∈ wsL_law0_r33, w ∈ lw_tbl := List.forall_mem_cons.mpr ⟨tb_4 _ (List.mem_of_getElem? (i := 82) rfl), List.forall_mem_cons.mpr ⟨tb_4 _ (List.mem_of_getElem? (i := 83) rfl), List.forall_mem_cons.mpr ⟨tb_4 _ (List.mem_of_getElem? (i := 84) rfl), List.forall_mem_cons.mpr ⟨tb_4 _ (List.mem_of_getElem? (i := 85) rfl), List.forall_mem_cons.mpr ⟨tb_4 _ (List.mem_of_getElem? (i := 86) rfl), List.forall_mem_cons.mpr ⟨tb_4 _ (List.mem_of_getElem? (i := 87) rfl), List.forall_mem_cons.mpr ⟨tb_4 _ (List.mem_of_getElem? (i := 89) rfl), List.forall_mem_cons.mpr ⟨List.mem_append_left _ (List.mem_of_getElem? (i := 22) rfl), List.forall_mem_cons.mpr ⟨tb_4 _ (List.mem_of_getElem? (i := 90) rfl), List.forall_mem_cons.mpr ⟨tb_4 _ (List.mem_of_getElem? (i := 91) rfl), List.forall_mem_cons.mpr ⟨tb_4 _ (List.mem_of_getElem? (i := 92) rfl), List.forall_mem_cons.mpr ⟨tb_4 _ (List.mem_of_getElem? (i := 93) rfl), List.forall_mem_cons.mpr ⟨tb_4 _ (List.mem_of_getElem? (i := 94) rfl), List.forall_mem_cons.mpr ⟨tb_4 _ (List.mem_of_getElem? (i := 95) rfl), List.forall_mem_cons.mpr ⟨tb_4 _ (List.mem_of_getElem? (i := 96) rfl), List.forall_mem_cons.mpr ⟨tb_4 _ (List.mem_of_getElem? (i := 97) rfl), List.forall_mem_cons.mpr ⟨tb_4 _ (List.mem_of_getElem? (i := 98) rfl), List.forall_mem_cons.mpr ⟨tb_4 _ (List.mem_of_getElem? (i := 99) rfl), List.forall_mem_cons.mpr ⟨tb_4 _ (List.mem_of_getElem? (i := 100) rfl), List.forall_mem_cons.mpr ⟨tb_4 _ (List.mem_of_getElem? (i := 101) rfl), List.forall_mem_cons.mpr ⟨tb_4 _ (List.mem_of_getElem? (i := 102) rfl), List.forall_mem_cons.mpr ⟨tb_4 _ (List.mem_of_getElem? (i := 103) rfl), List.forall_mem_cons.mpr ⟨tb_4 _ (List.mem_of_getElem? (i := 104) rfl), List.forall_mem_cons.mpr ⟨tb_4 _ (List.mem_of_getElem? (i := 105) rfl), fun _ h => absurd h List.not_mem_nil⟩⟩⟩⟩⟩⟩⟩⟩⟩⟩⟩⟩⟩⟩⟩⟩⟩⟩⟩⟩⟩⟩⟩⟩
set_option maxRecDepth 20000 in
theorem tr_34 : ∀ w ∈ wsL_law0_r34, w ∈ lw_tbl := List.forall_mem_cons.mpr ⟨tb_4 _ (List.mem_of_getElem? (i := 106) rfl), List.forall_mem_cons.mpr ⟨tb_4 _ (List.mem_of_getElem? (i := 107) rfl), List.forall_mem_cons.mpr ⟨tb_4 _ (List.mem_of_getElem? (i := 108) rfl), List.forall_mem_cons.mpr ⟨tb_4 _ (List.mem_of_getElem? (i := 109) rfl), List.forall_mem_cons.mpr ⟨tb_4 _ (List.mem_of_getElem? (i := 110) rfl), List.forall_mem_cons.mpr ⟨tb_4 _ (List.mem_of_getElem? (i := 111) rfl), List.forall_mem_cons.mpr ⟨tb_4 _ (List.mem_of_getElem? (i := 112) rfl), List.forall_mem_cons.mpr ⟨tb_4 _ (List.mem_of_getElem? (i := 113) rfl), List.forall_mem_cons.mpr ⟨tb_4 _ (List.mem_of_getElem? (i := 114) rfl), List.forall_mem_cons.mpr ⟨tb_4 _ (List.mem_of_getElem? (i := 115) rfl), List.forall_mem_cons.mpr ⟨tb_4 _ (List.mem_of_getElem? (i := 117) rfl), List.forall_mem_cons.mpr ⟨List.mem_append_left _ (List.mem_of_getElem? (i := 23) rfl), List.forall_mem_cons.mpr ⟨tb_4 _ (List.mem_of_getElem? (i := 118) rfl), List.forall_mem_cons.mpr ⟨tb_4 _ (List.mem_of_getElem? (i := 119) rfl), List.forall_mem_cons.mpr ⟨tb_4 _ (List.mem_of_getElem? (i := 120) rfl), List.forall_mem_cons.mpr ⟨tb_4 _ (List.mem_of_getElem? (i := 121) rfl), List.forall_mem_cons.mpr ⟨tb_4 _ (List.mem_of_getElem? (i := 122) rfl), List.forall_mem_cons.mpr ⟨tb_4 _ (List.mem_of_getElem? (i := 123) rfl), List.forall_mem_cons.mpr ⟨tb_4 _ (List.mem_of_getElem? (i := 124) rfl), List.forall_mem_cons.mpr ⟨tb_4 _ (List.mem_of_getElem? (i := 125) rfl), List.forall_mem_cons.mpr ⟨tb_4 _ (List.mem_of_getElem? (i := 126) rfl), List.forall_mem_cons.mpr ⟨tb_4 _ (List.mem_of_getElem? (i := 127) rfl), List.forall_mem_cons.mpr ⟨tb_4 _ (List.mem_of_getElem? (i := 129) rfl), List.forall_mem_cons.mpr ⟨tb_4 _ (List.mem_of_getElem? (i := 130) rfl), fun _ h => absurd h List.not_mem_nil⟩⟩⟩⟩⟩⟩⟩⟩⟩⟩⟩⟩⟩⟩⟩⟩⟩⟩⟩⟩⟩⟩⟩⟩
set_option maxRecDepth 20000 in
theorem tr_35 : ∀ w ∈ wsL_law0_r35, w ∈ lw_tbl := List.forall_mem_cons.mpr ⟨tb_4 _ (List.mem_of_getElem? (i := 131) rfl), List.forall_mem_cons.mpr ⟨tb_4 _ (List.mem_of_getElem? (i := 133) rfl), List.forall_mem_cons.mpr ⟨tb_4 _ (List.mem_of_getElem? (i := 132) rfl), List.forall_mem_cons.mpr ⟨tb_1 _ (List.mem_of_getElem? (i := 22) rfl), List.forall_mem_cons.mpr ⟨tb_4 _ (List.mem_of_getElem? (i := 134) rfl), List.forall_mem_cons.mpr ⟨tb_4 _ (List.mem_of_getElem? (i := 136) rfl), List.forall_mem_cons.mpr ⟨List.mem_append_left _ (List.mem_of_getElem? (i := 24) rfl), List.forall_mem_cons.mpr ⟨tb_4 _ (List.mem_of_getElem? (i := 137) rfl), List.forall_mem_cons.mpr ⟨tb_4 _ (List.mem_of_getElem? (i := 138) rfl), List.forall_mem_cons.mpr ⟨tb_4 _ (List.mem_of_getElem? (i := 139) rfl), List.forall_mem_cons.mpr ⟨tb_4 _ (List.mem_of_getElem? (i := 140) rfl), List.forall_mem_cons.mpr ⟨tb_4 _ (List.mem_of_getElem? (i := 141) rfl), List.forall_mem_cons.mpr ⟨tb_4 _ (List.mem_of_getElem? (i := 142) rfl), List.forall_mem_cons.mpr ⟨tb_4 _ (List.mem_of_getElem? (i := 143) rfl), List.forall_mem_cons.mpr ⟨tb_4 _ (List.mem_of_getElem? (i := 144) rfl), List.forall_mem_cons.mpr ⟨tb_4 _ (List.mem_of_getElem? (i := 145) rfl), List.forall_mem_cons.mpr ⟨tb_4 _ (List.mem_of_getElem? (i := 146) rfl), List.forall_mem_cons.mpr ⟨tb_4 _ (List.mem_of_getElem? (i := 147) rfl), List.forall_mem_cons.mpr ⟨tb_4 _ (List.mem_of_getElem? (i := 148) rfl), List.forall_mem_cons.mpr ⟨tb_4 _ (List.mem_of_getElem? (i := 149) rfl), List.forall_mem_cons.mpr ⟨tb_4 _ (List.mem_of_getElem? (i := 150) rfl), List.forall_mem_cons.mpr ⟨tb_4 _ (List.mem_of_getElem? (i := 151) rfl), List.forall_mem_cons.mpr ⟨tb_4 _ (List.mem_of_getElem? (i := 152) rfl), List.forall_mem_cons.mpr ⟨tb_4 _ (List.mem_of_getElem? (i := 153) rfl), fun _ h => absurd h List.not_mem_nil⟩⟩⟩⟩⟩⟩⟩⟩⟩⟩⟩⟩⟩⟩⟩⟩⟩⟩⟩⟩⟩⟩⟩⟩
set_option maxRecDepth 20000 in
theorem tr_36 : ∀ w ∈ wsL_law0_r36, w ∈ lw_tbl := List.forall_mem_cons.mpr ⟨tb_6 _ (List.mem_of_getElem? (i := 230) rfl), List.forall_mem_cons.mpr ⟨tb_6 _ (List.mem_of_getElem? (i := 231) rfl), List.forall_mem_cons.mpr ⟨tb_6 _ (List.mem_of_getElem? (i := 232) rfl), List.forall_mem_cons.mpr ⟨tb_6 _ (List.mem_of_getElem? (i := 233) rfl), List.forall_mem_cons.mpr ⟨tb_6 _ (List.mem_of_getElem? (i := 21) rfl), List.forall_mem_cons.mpr ⟨tb_6 _ (List.mem_of_getElem? (i := 234) rfl), List.forall_mem_cons.mpr ⟨tb_6 _ (List.mem_of_getElem? (i := 236) rfl), List.forall_mem_cons.mpr ⟨List.mem_append_left _ (List.mem_of_getElem? (i := 46) rfl), List.forall_mem_cons.mpr ⟨tb_6 _ (List.mem_of_getElem? (i := 237) rfl), List.forall_mem_cons.mpr ⟨tb_4 _ (List.mem_of_getElem? (i := 154) rfl), List.forall_mem_cons.mpr ⟨tb_4 _ (List.mem_of_getElem? (i := 155) rfl), List.forall_mem_cons.mpr ⟨tb_4 _ (List.mem_of_getElem? (i := 156) rfl), List.forall_mem_cons.mpr ⟨tb_4 _ (List.mem_of_getElem? (i := 157) rfl), List.forall_mem_cons.mpr ⟨tb_4 _ (List.mem_of_getElem? (i := 158) rfl), List.forall_mem_cons.mpr ⟨tb_4 _ (List.mem_of_getElem? (i := 159) rfl), List.forall_mem_cons.mpr ⟨tb_4 _ (List.mem_of_getElem? (i := 160) rfl), List.forall_mem_cons.mpr ⟨tb_2 _ (List.mem_of_getElem? (i := 83) rfl), List.forall_mem_cons.mpr ⟨tb_4 _ (List.mem_of_getElem? (i := 162) rfl), List.forall_mem_cons.mpr ⟨tb_6 _ (List.mem_of_getElem? (i := 238) rfl), List.forall_mem_cons.mpr ⟨tb_6 _ (List.mem_of_getElem? (i := 239) rfl), List.forall_mem_cons.mpr ⟨tb_7 _ (List.mem_of_getElem? (i := 0) rfl), List.forall_mem_cons.mpr ⟨tb_7 _ (List.mem_of_getElem? (i := 1) rfl), List.forall_mem_cons.mpr ⟨tb_6 _ (List.mem_of_getElem? (i := 25) rfl), List.forall_mem_cons.mpr ⟨tb_6 _ (List.mem_of_getElem? (i := 26) rfl), fun _ h => absurd h List.not_mem_nil⟩⟩⟩⟩⟩⟩⟩⟩⟩⟩⟩⟩⟩⟩⟩⟩⟩⟩⟩⟩⟩⟩⟩⟩
set_option maxRecDepth 20000 in
theorem tr_37 : ∀ w ∈ wsL_law0_r37, w ∈ lw_tbl := List.forall_mem_cons.mpr ⟨tb_6 _ (List.mem_of_getElem? (i := 27) rfl), List.forall_mem_cons.mpr ⟨tb_6 _ (List.mem_of_getElem? (i := 28) rfl), List.forall_mem_cons.mpr ⟨tb_4 _ (List.mem_of_getElem? (i := 163) rfl), List.forall_mem_cons.mpr ⟨tb_4 _ (List.mem_of_getElem? (i := 164) rfl), List.forall_mem_cons.mpr ⟨tb_4 _ (List.mem_of_getElem? (i := 165) rfl), List.forall_mem_cons.mpr ⟨tb_4 _ (List.mem_of_getElem? (i := 166) rfl), List.forall_mem_cons.mpr ⟨tb_4 _ (List.mem_of_getElem? (i := 167) rfl), List.forall_mem_cons.mpr ⟨tb_4 _ (List.mem_of_getElem? (i := 168) rfl), List.forall_mem_cons.mpr ⟨tb_4 _ (List.mem_of_getElem? (i := 169) rfl), List.forall_mem_cons.mpr ⟨tb_4 _ (List.mem_of_getElem? (i := 171) rfl), List.forall_mem_cons.mpr ⟨tb_4 _ (List.mem_of_getElem? (i := 173) rfl), List.forall_mem_cons.mpr ⟨List.mem_append_left _ (List.mem_of_getElem? (i := 25) rfl), List.forall_mem_cons.mpr ⟨tb_4 _ (List.mem_of_getElem? (i := 174) rfl), List.forall_mem_cons.mpr ⟨tb_4 _ (List.mem_of_getElem? (i := 176) rfl), List.forall_mem_cons.mpr ⟨tb_4 _ (List.mem_of_getElem? (i := 178) rfl), List.forall_mem_cons.mpr ⟨tb_4 _ (List.mem_of_getElem? (i := 179) rfl), List.forall_mem_cons.mpr ⟨tb_4 _ (List.mem_of_getElem? (i := 181) rfl), List.forall_mem_cons.mpr ⟨tb_7 _ (List.mem_of_getElem? (i := 2) rfl), List.forall_mem_cons.mpr ⟨tb_7 _ (List.mem_of_getElem? (i := 3) rfl), List.forall_mem_cons.mpr ⟨tb_7 _ (List.mem_of_getElem? (i := 4) rfl), List.forall_mem_cons.mpr ⟨tb_7 _ (List.mem_of_getElem? (i := 5) rfl), List.forall_mem_cons.mpr ⟨tb_4 _ (List.mem_of_getElem? (i := 182) rfl), List.forall_mem_cons.mpr ⟨tb_4 _ (List.mem_of_getElem? (i := 183) rfl), List.forall_mem_cons.mpr ⟨tb_4 _ (List.mem_of_getElem? (i := 184) rfl), fun _ h => absurd h List.not_mem_nil⟩⟩⟩⟩⟩⟩⟩⟩⟩⟩⟩⟩⟩⟩⟩⟩⟩⟩⟩⟩⟩⟩⟩⟩
set_option maxRecDepth 20000 in
theorem tr_38 : ∀ w ∈ wsL_law0_r38, w ∈ lw_tbl := List.forall_mem_cons.mpr ⟨tb_4 _ (List.mem_of_getElem? (i := 185) rfl), List.forall_mem_cons.mpr ⟨tb_4 _ (List.mem_of_getElem? (i := 186) rfl), List.forall_mem_cons.mpr ⟨tb_4 _ (List.mem_of_getElem? (i := 187) rfl), List.forall_mem_cons.mpr ⟨tb_4 _ (List.mem_of_getElem? (i := 188) rfl), List.forall_mem_cons.mpr ⟨tb_7 _ (List.mem_of_getElem? (i := 6) rfl), List.forall_mem_cons.mpr ⟨tb_7 _ (List.mem_of_getElem? (i := 7) rfl), List.forall_mem_cons.mpr ⟨tb_7 _ (List.mem_of_getElem? (i := 8) rfl), List.forall_mem_cons.mpr ⟨tb_7 _ (List.mem_of_getElem? (i := 9) rfl), List.forall_mem_cons.mpr ⟨tb_4 _ (List.mem_of_getElem? (i := 189) rfl), List.forall_mem_cons.mpr ⟨tb_4 _ (List.mem_of_getElem? (i := 190) rfl), List.forall_mem_cons.mpr ⟨tb_4 _ (List.mem_of_getElem? (i := 191) rfl), List.forall_mem_cons.mpr ⟨tb_4 _ (List.mem_of_getElem? (i := 192) rfl), List.forall_mem_cons.mpr ⟨tb_4 _ (List.mem_of_getElem? (i := 193) rfl), List.forall_mem_cons.mpr ⟨tb_4 _ (List.mem_of_getElem? (i := 194) rfl), List.forall_mem_cons.mpr ⟨tb_4 _ (List.mem_of_getElem? (i := 195) rfl), List.forall_mem_cons.mpr ⟨tb_4 _ (List.mem_of_getElem? (i := 196) rfl), List.forall_mem_cons.mpr ⟨tb_4 _ (List.mem_of_getElem? (i := 198) rfl), List.forall_mem_cons.mpr ⟨List.mem_append_left _ (List.mem_of_getElem? (i := 26) rfl), List.forall_mem_cons.mpr ⟨tb_4 _ (List.mem_of_getElem? (i := 199) rfl), List.forall_mem_cons.mpr ⟨tb_4 _ (List.mem_of_getElem? (i := 201) rfl), List.forall_mem_cons.mpr ⟨tb_4 _ (List.mem_of_getElem? (i := 202) rfl), List.forall_mem_cons.mpr ⟨tb_4 _ (List.mem_of_getElem? (i := 203) rfl), List.forall_mem_cons.mpr ⟨tb_4 _ (List.mem_of_getElem? (i := 204) rfl), List.forall_mem_cons.mpr ⟨tb_4 _ (List.mem_of_getElem? (i := 205) rfl), fun _ h => absurd h List.not_mem_nil⟩⟩⟩⟩⟩⟩⟩⟩⟩⟩⟩⟩⟩⟩⟩⟩⟩⟩⟩⟩⟩⟩⟩⟩
set_option maxRecDepth 20000 in
theorem tr_39 : ∀ w ∈ wsL_law0_r39, w ∈ lw_tbl := List.forall_mem_cons.mpr ⟨tb_4 _ (List.mem_of_getElem? (i := 206) rfl), List.forall_mem_cons.mpr ⟨tb_4 _ (List.mem_of_getElem? (i := 207) rfl), List.forall_mem_cons.mpr ⟨tb_4 _ (List.mem_of_getElem? (i := 208) rfl), List.forall_mem_cons.mpr ⟨tb_4 _ (List.mem_of_getElem? (i := 210) rfl), List.forall_mem_cons.mpr ⟨tb_4 _ (List.mem_of_getElem? (i := 211) rfl), List.forall_mem_cons.mpr ⟨tb_4 _ (List.mem_of_getElem? (i := 212) rfl), List.forall_mem_cons.mpr ⟨tb_4 _ (List.mem_of_getElem? (i := 213) rfl), List.forall_mem_cons.mpr ⟨tb_4 _ (List.mem_of_getElem? (i := 227) rfl), List.forall_mem_cons.mpr ⟨tb_4 _ (List.mem_of_getElem? (i := 214) rfl), List.forall_mem_cons.mpr ⟨tb_4 _ (List.mem_of_getElem? (i := 215) rfl), List.forall_mem_cons.mpr ⟨tb_4 _ (List.mem_of_getElem? (i := 216) rfl), List.forall_mem_cons.mpr ⟨tb_4 _ (List.mem_of_getElem? (i := 217) rfl), List.forall_mem_cons.mpr ⟨tb_4 _ (List.mem_of_getElem? (i := 218) rfl), List.forall_mem_cons.mpr ⟨tb_4 _ (List.mem_of_getElem? (i := 219) rfl), List.forall_mem_cons.mpr ⟨tb_4 _ (List.mem_of_getElem? (i := 220) rfl), List.forall_mem_cons.mpr ⟨tb_4 _ (List.mem_of_getElem? (i := 221) rfl), List.forall_mem_cons.mpr ⟨tb_4 _ (List.mem_of_getElem? (i := 222) rfl), List.forall_mem_cons.mpr ⟨tb_4 _ (List.mem_of_getElem? (i := 223) rfl), List.forall_mem_cons.mpr ⟨tb_4 _ (List.mem_of_getElem? (i := 224) rfl), List.forall_mem_cons.mpr ⟨tb_4 _ (List.mem_of_getElem? (i := 225) rfl), List.forall_mem_cons.mpr ⟨tb_4 _ (List.mem_of_getElem? (i := 226) rfl), List.forall_mem_cons.mpr ⟨tb_4 _ (List.mem_of_getElem? (i := 228) rfl), List.forall_mem_cons.mpr ⟨tb_4 _ (List.mem_of_getElem? (i := 229) rfl), List.forall_mem_cons.mpr ⟨tb_4 _ (List.mem_of_getElem? (i := 231) rfl), fun _ h => absurd h List.not_mem_nil⟩⟩⟩⟩⟩⟩⟩⟩⟩⟩⟩⟩⟩⟩⟩⟩⟩⟩⟩⟩⟩⟩⟩⟩
set_option maxRecDepth 20000 in
theorem tr_40 : ∀ w ∈ wsL_law0_r40, w ∈ lw_tbl := List.forall_mem_cons.mpr ⟨List.mem_append_left _ (List.mem_of_getElem? (i := 27) rfl), List.forall_mem_cons.mpr ⟨tb_4 _ (List.mem_of_getElem? (i := 232) rfl), List.forall_mem_cons.mpr ⟨tb_4 _ (List.mem_of_getElem? (i := 233) rfl), List.forall_mem_cons.mpr ⟨tb_4 _ (List.mem_of_getElem? (i := 234) rfl), List.forall_mem_cons.mpr ⟨tb_4 _ (List.mem_of_getElem? (i := 235) rfl), List.forall_mem_cons.mpr ⟨tb_4 _ (List.mem_of_getElem? (i := 237) rfl), List.forall_mem_cons.mpr ⟨List.mem_append_left _ (List.mem_of_getElem? (i := 28) rfl), List.forall_mem_cons.mpr ⟨tb_4 _ (List.mem_of_getElem? (i := 238) rfl), List.forall_mem_cons.mpr ⟨tb_4 _ (List.mem_of_getElem? (i := 239) rfl), List.forall_mem_cons.mpr ⟨tb_5 _ (List.mem_of_getElem? (i := 0) rfl), List.forall_mem_cons.mpr ⟨tb_5 _ (List.mem_of_getElem? (i := 1) rfl), List.forall_mem_cons.mpr ⟨tb_5 _ (List.mem_of_getElem? (i := 2) rfl), List.forall_mem_cons.mpr ⟨tb_5 _ (List.mem_of_getElem? (i := 3) rfl), List.forall_mem_cons.mpr ⟨tb_5 _ (List.mem_of_getElem? (i := 4) rfl), List.forall_mem_cons.mpr ⟨tb_5 _ (List.mem_of_getElem? (i := 5) rfl), List.forall_mem_cons.mpr ⟨tb_5 _ (List.mem_of_getElem? (i := 6) rfl), List.forall_mem_cons.mpr ⟨tb_5 _ (List.mem_of_getElem? (i := 7) rfl), List.forall_mem_cons.mpr ⟨tb_5 _ (List.mem_of_getElem? (i := 8) rfl), List.forall_mem_cons.mpr ⟨tb_5 _ (List.mem_of_getElem? (i := 9) rfl), List.forall_mem_cons.mpr ⟨tb_5 _ (List.mem_of_getElem? (i := 10) rfl), List.forall_mem_cons.mpr ⟨tb_5 _ (List.mem_of_getElem? (i := 11) rfl), List.forall_mem_cons.mpr ⟨tb_5 _ (List.mem_of_getElem? (i := 12) rfl), List.forall_mem_cons.mpr ⟨tb_5 _ (List.mem_of_getElem? (i := 14) rfl), List.forall_mem_cons.mpr ⟨tb_5 _ (List.mem_of_getElem? (i := 15) rfl), fun _ h => absurd h List.not_mem_nil⟩⟩⟩⟩⟩⟩⟩⟩⟩⟩⟩⟩⟩⟩⟩⟩⟩⟩⟩⟩⟩⟩⟩⟩
set_option maxRecDepth 20000 in
theorem tr_41 : ∀ w ∈ wsL_law0_r41, w ∈ lw_tbl := List.forall_mem_cons.mpr ⟨tb_5 _ (List.mem_of_getElem? (i := 16) rfl), List.forall_mem_cons.mpr ⟨tb_5 _ (List.mem_of_getElem? (i := 17) rfl), List.forall_mem_cons.mpr ⟨tb_5 _ (List.mem_of_getElem? (i := 18) rfl), List.forall_mem_cons.mpr ⟨tb_5 _ (List.mem_of_getElem? (i := 20) rfl), List.forall_mem_cons.mpr ⟨List.mem_append_left _ (List.mem_of_getElem? (i := 29) rfl), List.forall_mem_cons.mpr ⟨tb_5 _ (List.mem_of_getElem? (i := 21) rfl), List.forall_mem_cons.mpr ⟨tb_5 _ (List.mem_of_getElem? (i := 22) rfl), List.forall_mem_cons.mpr ⟨tb_5 _ (List.mem_of_getElem? (i := 23) rfl), List.forall_mem_cons.mpr ⟨tb_5 _ (List.mem_of_getElem? (i := 24) rfl), List.forall_mem_cons.mpr ⟨tb_5 _ (List.mem_of_getElem? (i := 25) rfl), List.forall_mem_cons.mpr ⟨tb_5 _ (List.mem_of_getElem? (i := 26) rfl), List.forall_mem_cons.mpr ⟨tb_5 _ (List.mem_of_getElem? (i := 27) rfl), List.forall_mem_cons.mpr ⟨tb_5 _ (List.mem_of_getElem? (i := 28) rfl), List.forall_mem_cons.mpr ⟨tb_5 _ (List.mem_of_getElem? (i := 29) rfl), List.forall_mem_cons.mpr ⟨tb_5 _ (List.mem_of_getElem? (i := 30) rfl), List.forall_mem_cons.mpr ⟨tb_7 _ (List.mem_of_getElem? (i := 10) rfl), List.forall_mem_cons.mpr ⟨tb_7 _ (List.mem_of_getElem? (i := 11) rfl), List.forall_mem_cons.mpr ⟨tb_7 _ (List.mem_of_getElem? (i := 12) rfl), List.forall_mem_cons.mpr ⟨tb_7 _ (List.mem_of_getElem? (i := 13) rfl), List.forall_mem_cons.mpr ⟨tb_7 _ (List.mem_of_getElem? (i := 14) rfl), List.forall_mem_cons.mpr ⟨tb_7 _ (List.mem_of_getElem? (i := 16) rfl), List.forall_mem_cons.mpr ⟨List.mem_append_left _ (List.mem_of_getElem? (i := 47) rfl), List.forall_mem_cons.mpr ⟨tb_7 _ (List.mem_of_getElem? (i := 17) rfl), List.forall_mem_cons.mpr ⟨tb_7 _ (List.mem_of_getElem? (i := 18) rfl), fun _ h => absurd h List.not_mem_nil⟩⟩⟩⟩⟩⟩⟩⟩⟩⟩⟩⟩⟩⟩⟩⟩⟩⟩⟩⟩⟩⟩⟩⟩
set_option maxRecDepth 20000 in
theorem tr_42 : ∀ w ∈ wsL_law0_r42, w ∈ lw_tbl := List.forall_mem_cons.mpr ⟨tb_7 _ (List.mem_of_getElem? (i := 20) rfl), List.forall_mem_cons.mpr ⟨List.mem_append_left _ (List.mem_of_getElem? (i := 48) rfl), List.forall_mem_cons.mpr ⟨tb_7 _ (List.mem_of_getElem? (i := 21) rfl), List.forall_mem_cons.mpr ⟨tb_7 _ (List.mem_of_getElem? (i := 22) rfl), List.forall_mem_cons.mpr ⟨tb_7 _ (List.mem_of_getElem? (i := 24) rfl), List.forall_mem_cons.mpr ⟨List.mem_append_left _ (List.mem_of_getElem? (i := 49) rfl), List.forall_mem_cons.mpr ⟨tb_7 _ (List.mem_of_getElem? (i := 25) rfl), List.forall_mem_cons.mpr ⟨tb_7 _ (List.mem_of_getElem? (i := 26) rfl), List.forall_mem_cons.mpr ⟨tb_7 _ (List.mem_of_getElem? (i := 28) rfl), List.forall_mem_cons.mpr ⟨List.mem_append_left _ (List.mem_of_getElem? (i := 50) rfl), List.forall_mem_cons.mpr ⟨tb_7 _ (List.mem_of_getElem? (i := 29) rfl), List.forall_mem_cons.mpr ⟨tb_7 _ (List.mem_of_getElem? (i := 30) rfl), List.forall_mem_cons.mpr ⟨tb_7 _ (List.mem_of_getElem? (i := 32) rfl), List.forall_mem_cons.mpr ⟨List.mem_append_left _ (List.mem_of_getElem? (i := 51) rfl), List.forall_mem_cons.mpr ⟨tb_7 _ (List.mem_of_getElem? (i := 33) rfl), List.forall_mem_cons.mpr ⟨tb_7 _ (List.mem_of_getElem? (i := 34) rfl), List.forall_mem_cons.mpr ⟨tb_7 _ (List.mem_of_getElem? (i := 36) rfl), List.forall_mem_cons.mpr ⟨List.mem_append_left _ (List.mem_of_getElem? (i := 52) rfl), List.forall_mem_cons.mpr ⟨tb_7 _ (List.mem_of_getElem? (i := 37) rfl), List.forall_mem_cons.mpr ⟨tb_7 _ (List.mem_of_getElem? (i := 38) rfl), List.forall_mem_cons.mpr ⟨tb_7 _ (List.mem_of_getElem? (i := 40) rfl), List.forall_mem_cons.mpr ⟨List.mem_append_left _ (List.mem_of_getElem? (i := 53) rfl), List.forall_mem_cons.mpr ⟨tb_7 _ (List.mem_of_getElem? (i := 41) rfl), List.forall_mem_cons.mpr ⟨tb_6 _ (List.mem_of_getElem? (i := 30) rfl), fun _ h => absurd h List.not_mem_nil⟩⟩⟩⟩⟩⟩⟩⟩⟩⟩⟩⟩⟩⟩⟩⟩⟩⟩⟩⟩⟩⟩⟩⟩
set_option maxRecDepth 20000 in
theorem tr_43 : ∀ w ∈ wsL_law0_r43, w ∈ lw_tbl := List.forall_mem_cons.mpr ⟨tb_7 _ (List.mem_of_getElem? (i := 42) rfl), List.forall_mem_cons.mpr ⟨tb_7 _ (List.mem_of_getElem? (i := 44) rfl), List.forall_mem_cons.mpr ⟨List.mem_append_left _ (List.mem_of_getElem? (i := 54) rfl), List.forall_mem_cons.mpr ⟨tb_7 _ (List.mem_of_getElem? (i := 45) rfl), List.forall_mem_cons.mpr ⟨tb_7 _ (List.mem_of_getElem? (i := 46) rfl), List.forall_mem_cons.mpr ⟨tb_7 _ (List.mem_of_getElem? (i := 48) rfl), List.forall_mem_cons.mpr ⟨List.mem_append_left _ (List.mem_of_getElem? (i := 55) rfl), List.forall_mem_cons.mpr ⟨tb_7 _ (List.mem_of_getElem? (i := 49) rfl), List.forall_mem_cons.mpr ⟨tb_5 _ (List.mem_of_getElem? (i := 31) rfl), List.forall_mem_cons.mpr ⟨tb_5 _ (List.mem_of_getElem? (i := 32) rfl), List.forall_mem_cons.mpr ⟨tb_5 _ (List.mem_of_getElem? (i := 33) rfl), List.forall_mem_cons.mpr ⟨tb_5 _ (List.mem_of_getElem? (i := 34) rfl), List.forall_mem_cons.mpr ⟨tb_5 _ (List.mem_of_getElem? (i := 35) rfl), List.forall_mem_cons.mpr ⟨tb_5 _ (List.mem_of_getElem? (i := 36) rfl), List.forall_mem_cons.mpr ⟨tb_5 _ (List.mem_of_getElem? (i := 37) rfl), List.forall_mem_cons.mpr ⟨tb_5 _ (List.mem_of_getElem? (i := 38) rfl), List.forall_mem_cons.mpr ⟨tb_5 _ (List.mem_of_getElem? (i := 39) rfl), List.forall_mem_cons.mpr ⟨tb_5 _ (List.mem_of_getElem? (i := 40) rfl), List.forall_mem_cons.mpr ⟨tb_5 _ (List.mem_of_getElem? (i := 41) rfl), List.forall_mem_cons.mpr ⟨tb_5 _ (List.mem_of_getElem? (i := 42) rfl), List.forall_mem_cons.mpr ⟨tb_5 _ (List.mem_of_getElem? (i := 43) rfl), List.forall_mem_cons.mpr ⟨tb_5 _ (List.mem_of_getElem? (i := 44) rfl), List.forall_mem_cons.mpr ⟨tb_5 _ (List.mem_of_getElem? (i := 45) rfl), List.forall_mem_cons.mpr ⟨tb_5 _ (List.mem_of_getElem? (i := 46) rfl), fun _ h => absurd h List.not_mem_nil⟩⟩⟩⟩⟩⟩⟩⟩⟩⟩⟩⟩⟩⟩⟩⟩⟩⟩⟩⟩⟩⟩⟩⟩
set_option maxRecDepth 20000 in
theorem tr_44 : ∀ w ∈ wsL_law0_r44, w ∈ lw_tbl := List.forall_mem_cons.mpr ⟨tb_5 _ (List.mem_of_getElem? (i := 47) rfl), List.forall_mem_cons.mpr ⟨tb_5 _ (List.mem_of_getElem? (i := 48) rfl), List.forall_mem_cons.mpr ⟨tb_5 _ (List.mem_of_getElem? (i := 49) rfl), List.forall_mem_cons.mpr ⟨tb_5 _ (List.mem_of_getElem? (i := 50) rfl), List.forall_mem_cons.mpr ⟨tb_5 _ (List.mem_of_getElem? (i := 51) rfl), List.forall_mem_cons.mpr ⟨tb_7 _ (List.mem_of_getElem? (i := 50) rfl), List.forall_mem_cons.mpr ⟨tb_7 _ (List.mem_of_getElem? (i := 51) rfl), List.forall_mem_cons.mpr ⟨tb_7 _ (List.mem_of_getElem? (i := 52) rfl), List.forall_mem_cons.mpr ⟨tb_7 _ (List.mem_of_getElem? (i := 53) rfl), List.forall_mem_cons.mpr ⟨tb_7 _ (List.mem_of_getElem? (i := 54) rfl), List.forall_mem_cons.mpr ⟨tb_7 _ (List.mem_of_getElem? (i := 56) rfl), List.forall_mem_cons.mpr ⟨List.mem_append_left _ (List.mem_of_getElem? (i := 56) rfl), List.forall_mem_cons.mpr ⟨tb_7 _ (List.mem_of_getElem? (i := 57) rfl), List.forall_mem_cons.mpr ⟨tb_7 _ (List.mem_of_getElem? (i := 58) rfl), List.forall_mem_cons.mpr ⟨tb_7 _ (List.mem_of_getElem? (i := 60) rfl), List.forall_mem_cons.mpr ⟨List.mem_append_left _ (List.mem_of_getElem? (i := 57) rfl), List.forall_mem_cons.mpr ⟨tb_7 _ (List.mem_of_getElem? (i := 61) rfl), List.forall_mem_cons.mpr ⟨tb_5 _ (List.mem_of_getElem? (i := 53) rfl), List.forall_mem_cons.mpr ⟨tb_5 _ (List.mem_of_getElem? (i := 54) rfl), List.forall_mem_cons.mpr ⟨tb_5 _ (List.mem_of_getElem? (i := 55) rfl), List.forall_mem_cons.mpr ⟨tb_5 _ (List.mem_of_getElem? (i := 56) rfl), List.forall_mem_cons.mpr ⟨tb_5 _ (List.mem_of_getElem? (i := 57) rfl), List.forall_mem_cons.mpr ⟨tb_5 _ (List.mem_of_getElem? (i := 58) rfl), List.forall_mem_cons.mpr ⟨tb_5 _ (List.mem_of_getElem? (i := 59) rfl), fun _ h => absurd h List.not_mem_nil⟩⟩⟩⟩⟩⟩⟩⟩⟩⟩⟩⟩⟩⟩⟩⟩⟩⟩⟩⟩⟩⟩⟩⟩
set_option maxRecDepth 20000 in
theorem tr_45 : ∀ w ∈ wsL_law0_r45, w ∈ lw_tbl := List.forall_mem_cons.mpr ⟨tb_5 _ (List.mem_of_getElem? (i := 60) rfl), List.forall_mem_cons.mpr ⟨tb_7 _ (List.mem_of_getElem? (i := 62) rfl), List.forall_mem_cons.mpr ⟨tb_7 _ (List.mem_of_getElem? (i := 63) rfl), List.forall_mem_cons.mpr ⟨tb_7 _ (List.mem_of_getElem? (i := 64) rfl), List.forall_mem_cons.mpr ⟨tb_7 _ (List.mem_of_getElem? (i := 65) rfl), List.forall_mem_cons.mpr ⟨tb_7 _ (List.mem_of_getElem? (i := 66) rfl), List.forall_mem_cons.mpr ⟨tb_7 _ (List.mem_of_getElem? (i := 68) rfl), List.forall_mem_cons.mpr ⟨List.mem_append_left _ (List.mem_of_getElem? (i := 58) rfl), List.forall_mem_cons.mpr ⟨tb_7 _ (List.mem_of_getElem? (i := 69) rfl), List.forall_mem_cons.mpr ⟨tb_5 _ (List.mem_of_getElem? (i := 61) rfl), List.forall_mem_cons.mpr ⟨tb_5 _ (List.mem_of_getElem? (i := 62) rfl), List.forall_mem_cons.mpr ⟨tb_5 _ (List.mem_of_getElem? (i := 63) rfl), List.forall_mem_cons.mpr ⟨tb_5 _ (List.mem_of_getElem? (i := 64) rfl), List.forall_mem_cons.mpr ⟨tb_5 _ (List.mem_of_getElem? (i := 65) rfl), List.forall_mem_cons.mpr ⟨tb_5 _ (List.mem_of_getElem? (i := 66) rfl), List.forall_mem_cons.mpr ⟨tb_5 _ (List.mem_of_getElem? (i := 67) rfl), List.forall_mem_cons.mpr ⟨tb_5 _ (List.mem_of_getElem? (i := 68) rfl), List.forall_mem_cons.mpr ⟨tb_5 _ (List.mem_of_getElem? (i := 69) rfl), List.forall_mem_cons.mpr ⟨tb_5 _ (List.mem_of_getElem? (i := 70) rfl), List.forall_mem_cons.mpr ⟨tb_5 _ (List.mem_of_getElem? (i := 71) rfl), List.forall_mem_cons.mpr ⟨tb_5 _ (List.mem_of_getElem? (i := 73) rfl), List.forall_mem_cons.mpr ⟨tb_5 _ (List.mem_of_getElem? (i := 74) rfl), List.forall_mem_cons.mpr ⟨tb_7 _ (List.mem_of_getElem? (i := 70) rfl), List.forall_mem_cons.mpr ⟨tb_7 _ (List.mem_of_getElem? (i := 71) rfl), fun _ h => absurd h List.not_mem_nil⟩⟩⟩⟩⟩⟩⟩⟩⟩⟩⟩⟩⟩⟩⟩⟩⟩⟩⟩⟩⟩⟩⟩⟩
set_option maxRecDepth 20000 in
theorem tr_46 : ∀ w ∈ wsL_law0_r46, w ∈ lw_tbl := List.forall_mem_cons.mpr ⟨tb_7 _ (List.mem_of_getElem? (i := 72) rfl), List.forall_mem_cons.mpr ⟨tb_7 _ (List.mem_of_getElem? (i := 73) rfl), List.forall_mem_cons.mpr ⟨tb_5 _ (List.mem_of_getElem? (i := 75) rfl), List.forall_mem_cons.mpr ⟨tb_5 _ (List.mem_of_getElem? (i := 76) rfl), List.forall_mem_cons.mpr ⟨tb_5 _ (List.mem_of_getElem? (i := 77) rfl), List.forall_mem_cons.mpr ⟨tb_5 _ (List.mem_of_getElem? (i := 78) rfl), List.forall_mem_cons.mpr ⟨tb_5 _ (List.mem_of_getElem? (i := 79) rfl), List.forall_mem_cons.mpr ⟨tb_5 _ (List.mem_of_getElem? (i := 80) rfl), List.forall_mem_cons.mpr ⟨tb_5 _ (List.mem_of_getElem? (i := 81) rfl), List.forall_mem_cons.mpr ⟨tb_5 _ (List.mem_of_getElem? (i := 82) rfl), List.forall_mem_cons.mpr ⟨tb_5 _ (List.mem_of_getElem? (i := 83) rfl), List.forall_mem_cons.mpr ⟨tb_5 _ (List.mem_of_getElem? (i := 84) rfl), List.forall_mem_cons.mpr ⟨tb_5 _ (List.mem_of_getElem? (i := 85) rfl), List.forall_mem_cons.mpr ⟨tb_5 _ (List.mem_of_getElem? (i := 87) rfl), List.forall_mem_cons.mpr ⟨tb_5 _ (List.mem_of_getElem? (i := 88) rfl), List.forall_mem_cons.mpr ⟨tb_5 _ (List.mem_of_getElem? (i := 89) rfl), List.forall_mem_cons.mpr ⟨tb_5 _ (List.mem_of_getElem? (i := 90) rfl), List.forall_mem_cons.mpr ⟨tb_7 _ (List.mem_of_getElem? (i := 74) rfl), List.forall_mem_cons.mpr ⟨tb_7 _ (List.mem_of_getElem? (i := 75) rfl), List.forall_mem_cons.mpr ⟨tb_7 _ (List.mem_of_getElem? (i := 76) rfl), List.forall_mem_cons.mpr ⟨tb_7 _ (List.mem_of_getElem? (i := 77) rfl), List.forall_mem_cons.mpr ⟨tb_5 _ (List.mem_of_getElem? (i := 91) rfl), List.forall_mem_cons.mpr ⟨tb_5 _ (List.mem_of_getElem? (i := 92) rfl), List.forall_mem_cons.mpr ⟨tb_5 _ (List.mem_of_getElem? (i := 93) rfl), fun _ h => absurd h List.not_mem_nil⟩⟩⟩⟩⟩⟩⟩⟩⟩⟩⟩⟩⟩⟩⟩⟩⟩⟩⟩⟩⟩⟩⟩⟩
set_option maxRecDepth 20000 in
theorem tr_47 : ∀ w ∈ wsL_law0_r47, w ∈ lw_tbl := List.forall_mem_cons.mpr ⟨tb_5 _ (List.mem_of_getElem? (i := 94) rfl), List.forall_mem_cons.mpr ⟨tb_5 _ (List.mem_of_getElem? (i := 95) rfl), List.forall_mem_cons.mpr ⟨tb_5 _ (List.mem_of_getElem? (i := 96) rfl), List.forall_mem_cons.mpr ⟨tb_5 _ (List.mem_of_getElem? (i := 97) rfl), List.forall_mem_cons.mpr ⟨tb_5 _ (List.mem_of_getElem? (i := 100) rfl), List.forall_mem_cons.mpr ⟨tb_5 _ (List.mem_of_getElem? (i := 101) rfl), List.forall_mem_cons.mpr ⟨tb_5 _ (List.mem_of_getElem? (i := 102) rfl), List.forall_mem_cons.mpr ⟨tb_5 _ (List.mem_of_getElem? (i := 103) rfl), List.forall_mem_cons.mpr ⟨tb_7 _ (List.mem_of_getElem? (i := 78) rfl), List.forall_mem_cons.mpr ⟨tb_7 _ (List.mem_of_getElem? (i := 79) rfl), List.forall_mem_cons.mpr ⟨tb_7 _ (List.mem_of_getElem? (i := 80) rfl), List.forall_mem_cons.mpr ⟨tb_7 _ (List.mem_of_getElem? (i := 81) rfl), List.forall_mem_cons.mpr ⟨tb_5 _ (List.mem_of_getElem? (i := 104) rfl), List.forall_mem_cons.mpr ⟨tb_5 _ (List.mem_of_getElem? (i := 105) rfl), List.forall_mem_cons.mpr ⟨tb_5 _ (List.mem_of_getElem? (i := 106) rfl), List.forall_mem_cons.mpr ⟨tb_5 _ (List.mem_of_getElem? (i := 107) rfl), List.forall_mem_cons.mpr ⟨tb_5 _ (List.mem_of_getElem? (i := 108) rfl), List.forall_mem_cons.mpr ⟨tb_5 _ (List.mem_of_getElem? (i := 109) rfl), List.forall_mem_cons.mpr ⟨tb_5 _ (List.mem_of_getElem? (i := 110) rfl), List.forall_mem_cons.mpr ⟨tb_5 _ (List.mem_of_getElem? (i := 111) rfl), List.forall_mem_cons.mpr ⟨tb_5 _ (List.mem_of_getElem? (i := 112) rfl), List.forall_mem_cons.mpr ⟨tb_5 _ (List.mem_of_getElem? (i := 113) rfl), List.forall_mem_cons.mpr ⟨tb_5 _ (List.mem_of_getElem? (i := 114) rfl), List.forall_mem_cons.mpr ⟨tb_5 _ (List.mem_of_getElem? (i := 115) rfl), fun _ h => absurd h List.not_mem_nil⟩⟩⟩⟩⟩⟩⟩⟩⟩⟩⟩⟩⟩⟩⟩⟩⟩⟩⟩⟩⟩⟩⟩⟩
set_option maxRecDepth 20000 in
theorem tr_48 : ∀ w ∈ wsL_law0_r48, w ∈ lw_tbl := List.forall_mem_cons.mpr ⟨tb_5 _ (List.mem_of_getElem? (i := 116) rfl), List.forall_mem_cons.mpr ⟨tb_5 _ (List.mem_of_getElem? (i := 117) rfl), List.forall_mem_cons.mpr ⟨tb_5 _ (List.mem_of_getElem? (i := 118) rfl), List.forall_mem_cons.mpr ⟨tb_5 _ (List.mem_of_getElem? (i := 119) rfl), List.forall_mem_cons.mpr ⟨tb_5 _ (List.mem_of_getElem? (i := 120) rfl), List.forall_mem_cons.mpr ⟨tb_5 _ (List.mem_of_getElem? (i := 122) rfl), List.forall_mem_cons.mpr ⟨List.mem_append_left _ (List.mem_of_getElem? (i := 30) rfl), List.forall_mem_cons.mpr ⟨tb_5 _ (List.mem_of_getElem? (i := 123) rfl), List.forall_mem_cons.mpr ⟨tb_5 _ (List.mem_of_getElem? (i := 124) rfl), List.forall_mem_cons.mpr ⟨tb_5 _ (List.mem_of_getElem? (i := 125) rfl), List.forall_mem_cons.mpr ⟨tb_5 _ (List.mem_of_getElem? (i := 127) rfl), List.forall_mem_cons.mpr ⟨List.mem_append_left _ (List.mem_of_getElem? (i := 31) rfl), List.forall_mem_cons.mpr ⟨tb_5 _ (List.mem_of_getElem? (i := 128) rfl), List.forall_mem_cons.mpr ⟨tb_5 _ (List.mem_of_getElem? (i := 129) rfl), List.forall_mem_cons.mpr ⟨tb_5 _ (List.mem_of_getElem? (i := 130) rfl), List.forall_mem_cons.mpr ⟨tb_5 _ (List.mem_of_getElem? (i := 131) rfl), List.forall_mem_cons.mpr ⟨tb_5 _ (List.mem_of_getElem? (i := 132) rfl), List.forall_mem_cons.mpr ⟨tb_5 _ (List.mem_of_getElem? (i := 133) rfl), List.forall_mem_cons.mpr ⟨tb_5 _ (List.mem_of_getElem? (i := 134) rfl), List.forall_mem_cons.mpr ⟨tb_5 _ (List.mem_of_getElem? (i := 135) rfl), List.forall_mem_cons.mpr ⟨tb_5 _ (List.mem_of_getElem? (i := 136) rfl), List.forall_mem_cons.mpr ⟨tb_5 _ (List.mem_of_getElem? (i := 137) rfl), List.forall_mem_cons.mpr ⟨tb_5 _ (List.mem_of_getElem? (i := 138) rfl), List.forall_mem_cons.mpr ⟨tb_5 _ (List.mem_of_getElem? (i := 139) rfl), fun _ h => absurd h List.not_mem_nil⟩⟩⟩⟩⟩⟩⟩⟩⟩⟩⟩⟩⟩⟩⟩⟩⟩⟩⟩⟩⟩⟩⟩⟩
set_option maxRecDepth 20000 in
theorem tr_49 : ∀ w ∈ wsL_law0_r49, w ∈ lw_tbl := List.forall_mem_cons.mpr ⟨tb_5 _ (List.mem_of_getElem? (i := 140) rfl), List.forall_mem_cons.mpr ⟨tb_5 _ (List.mem_of_getElem? (i := 141) rfl), List.forall_mem_cons.mpr ⟨tb_5 _ (List.mem_of_getElem? (i := 142) rfl), List.forall_mem_cons.mpr ⟨tb_5 _ (List.mem_of_getElem? (i := 143) rfl), List.forall_mem_cons.mpr ⟨tb_5 _ (List.mem_of_getElem? (i := 144) rfl), List.forall_mem_cons.mpr ⟨tb_5 _ (List.mem_of_getElem? (i := 147) rfl), List.forall_mem_cons.mpr ⟨tb_5 _ (List.mem_of_getElem? (i := 145) rfl), List.forall_mem_cons.mpr ⟨tb_5 _ (List.mem_of_getElem? (i := 146) rfl), List.forall_mem_cons.mpr ⟨tb_5 _ (List.mem_of_getElem? (i := 148) rfl), List.forall_mem_cons.mpr ⟨tb_5 _ (List.mem_of_getElem? (i := 150) rfl), List.forall_mem_cons.mpr ⟨List.mem_append_left _ (List.mem_of_getElem? (i := 32) rfl), List.forall_mem_cons.mpr ⟨tb_5 _ (List.mem_of_getElem? (i := 151) rfl), List.forall_mem_cons.mpr ⟨tb_5 _ (List.mem_of_getElem? (i := 152) rfl), List.forall_mem_cons.mpr ⟨tb_7 _ (List.mem_of_getElem? (i := 82) rfl), List.forall_mem_cons.mpr ⟨tb_7 _ (List.mem_of_getElem? (i := 83) rfl), List.forall_mem_cons.mpr ⟨tb_7 _ (List.mem_of_getElem? (i := 84) rfl), List.forall_mem_cons.mpr ⟨tb_7 _ (List.mem_of_getElem? (i := 85) rfl), List.forall_mem_cons.mpr ⟨tb_7 _ (List.mem_of_getElem? (i := 86) rfl), List.forall_mem_cons.mpr ⟨tb_7 _ (List.mem_of_getElem? (i := 88) rfl), List.forall_mem_cons.mpr ⟨List.mem_append_left _ (List.mem_of_getElem? (i := 59) rfl), List.forall_mem_cons.mpr ⟨tb_7 _ (List.mem_of_getElem? (i := 89) rfl), List.forall_mem_cons.mpr ⟨tb_7 _ (List.mem_of_getElem? (i := 90) rfl), List.forall_mem_cons.mpr ⟨tb_7 _ (List.mem_of_getElem? (i := 92) rfl), List.forall_mem_cons.mpr ⟨List.mem_append_left _ (List.mem_of_getElem? (i := 60) rfl), fun _ h => absurd h List.not_mem_nil⟩⟩⟩⟩⟩⟩⟩⟩⟩⟩⟩⟩⟩⟩⟩⟩⟩⟩⟩⟩⟩⟩⟩⟩
set_option maxRecDepth 20000 in
theorem tr_50 : ∀ w ∈ wsL_law0_r50, w ∈ lw_tbl := List.forall_mem_cons.mpr ⟨tb_7 _ (List.mem_of_getElem? (i := 93) rfl), List.forall_mem_cons.mpr ⟨tb_7 _ (List.mem_of_getElem? (i := 94) rfl), List.forall_mem_cons.mpr ⟨tb_7 _ (List.mem_of_getElem? (i := 95) rfl), List.forall_mem_cons.mpr ⟨tb_7 _ (List.mem_of_getElem? (i := 96) rfl), List.forall_mem_cons.mpr ⟨tb_7 _ (List.mem_of_getElem? (i := 97) rfl), List.forall_mem_cons.mpr ⟨tb_7 _ (List.mem_of_getElem? (i := 98) rfl), List.forall_mem_cons.mpr ⟨tb_7 _ (List.mem_of_getElem? (i := 99) rfl), List.forall_mem_cons.mpr ⟨tb_7 _ (List.mem_of_getElem? (i := 101) rfl), List.forall_mem_cons.mpr ⟨List.mem_append_left _ (List.mem_of_getElem? (i := 61) rfl), List.forall_mem_cons.mpr ⟨tb_7 _ (List.mem_of_getElem? (i := 102) rfl), List.forall_mem_cons.mpr ⟨tb_7 _ (List.mem_of_getElem? (i := 103) rfl), List.forall_mem_cons.mpr ⟨tb_7 _ (List.mem_of_getElem? (i := 104) rfl), List.forall_mem_cons.mpr ⟨tb_7 _ (List.mem_of_getElem? (i := 105) rfl), List.forall_mem_cons.mpr ⟨tb_5 _ (List.mem_of_getElem? (i := 153) rfl), List.forall_mem_cons.mpr ⟨tb_5 _ (List.mem_of_getElem? (i := 154) rfl), List.forall_mem_cons.mpr ⟨tb_5 _ (List.mem_of_getElem? (i := 155) rfl), List.forall_mem_cons.mpr ⟨tb_5 _ (List.mem_of_getElem? (i := 156) rfl), List.forall_mem_cons.mpr ⟨tb_5 _ (List.mem_of_getElem? (i := 157) rfl), List.forall_mem_cons.mpr ⟨tb_5 _ (List.mem_of_getElem? (i := 158) rfl), List.forall_mem_cons.mpr ⟨tb_5 _ (List.mem_of_getElem? (i := 159) rfl), List.forall_mem_cons.mpr ⟨tb_5 _ (List.mem_of_getElem? (i := 160) rfl), List.forall_mem_cons.mpr ⟨tb_5 _ (List.mem_of_getElem? (i := 161) rfl), List.forall_mem_cons.mpr ⟨tb_5 _ (List.mem_of_getElem? (i := 162) rfl), List.forall_mem_cons.mpr ⟨tb_5 _ (List.mem_of_getElem? (i := 163) rfl), fun _ h => absurd h List.not_mem_nil⟩⟩⟩⟩⟩⟩⟩⟩⟩⟩⟩⟩⟩⟩⟩⟩⟩⟩⟩⟩⟩⟩⟩⟩
set_option maxRecDepth 20000 in
theorem tr_51 : ∀ w ∈ wsL_law0_r51, w ∈ lw_tbl := List.forall_mem_cons.mpr ⟨tb_7 _ (List.mem_of_getElem? (i := 106) rfl), List.forall_mem_cons.mpr ⟨tb_7 _ (List.mem_of_getElem? (i := 107) rfl), List.forall_mem_cons.mpr ⟨tb_7 _ (List.mem_of_getElem? (i := 108) rfl), List.forall_mem_cons.mpr ⟨tb_7 _ (List.mem_of_getElem? (i := 109) rfl), fun _ h => absurd h List.not_mem_nil⟩⟩⟩⟩
theorem tf_X11 : ∀ w ∈ wsX110, w ∈ lw_tbl := by
  intro w h
  obtain ⟨k, hk, rfl⟩ := List.mem_map.mp h
  have hk := List.mem_range.mp hk
  match k, hk with
  | 0, _ => exact tb_2 _ (List.mem_of_getElem? (i := 85) rfl)
  | 1, _ => exact tb_2 _ (List.mem_of_getElem? (i := 87) rfl)
  | 2, _ => exact tb_2 _ (List.mem_of_getElem? (i := 89) rfl)
  | 3, _ => exact tb_2 _ (List.mem_of_getElem? (i := 91) rfl)
  | 4, _ => exact tb_2 _ (List.mem_of_getElem? (i := 93) rfl)
  | 5, _ => exact tb_2 _ (List.mem_of_getElem? (i := 95) rfl)
  | 6, _ => exact tb_2 _ (List.mem_of_getElem? (i := 97) rfl)
  | 7, _ => exact tb_2 _ (List.mem_of_getElem? (i := 99) rfl)
  | 8, _ => exact tb_2 _ (List.mem_of_getElem? (i := 101) rfl)
  | 9, _ => exact tb_2 _ (List.mem_of_getElem? (i := 103) rfl)
  | 10, _ => exact tb_2 _ (List.mem_of_getElem? (i := 105) rfl)
  | k + 11, h => exact absurd h (by omega)
theorem tf_X12 : ∀ w ∈ wsX120, w ∈ lw_tbl := by
  intro w h
  obtain ⟨k, hk, rfl⟩ := List.mem_map.mp h
  have hk := List.mem_range.mp hk
  match k, hk with
  | 0, _ => exact tb_6 _ (List.mem_of_getElem? (i := 35) rfl)
  | 1, _ => exact tb_6 _ (List.mem_of_getElem? (i := 37) rfl)
  | 2, _ => exact tb_6 _ (List.mem_of_getElem? (i := 39) rfl)
  | 3, _ => exact tb_6 _ (List.mem_of_getElem? (i := 41) rfl)
  | 4, _ => exact tb_6 _ (List.mem_of_getElem? (i := 43) rfl)
  | 5, _ => exact tb_6 _ (List.mem_of_getElem? (i := 45) rfl)
  | 6, _ => exact tb_6 _ (List.mem_of_getElem? (i := 47) rfl)
  | 7, _ => exact tb_6 _ (List.mem_of_getElem? (i := 49) rfl)
  | 8, _ => exact tb_6 _ (List.mem_of_getElem? (i := 51) rfl)
  | 9, _ => exact tb_6 _ (List.mem_of_getElem? (i := 53) rfl)
  | 10, _ => exact tb_6 _ (List.mem_of_getElem? (i := 55) rfl)
  | 11, _ => exact tb_6 _ (List.mem_of_getElem? (i := 57) rfl)
  | 12, _ => exact tb_6 _ (List.mem_of_getElem? (i := 59) rfl)
  | 13, _ => exact tb_6 _ (List.mem_of_getElem? (i := 61) rfl)
  | 14, _ => exact tb_6 _ (List.mem_of_getElem? (i := 63) rfl)
  | 15, _ => exact tb_6 _ (List.mem_of_getElem? (i := 65) rfl)
  | 16, _ => exact tb_6 _ (List.mem_of_getElem? (i := 67) rfl)
  | 17, _ => exact tb_6 _ (List.mem_of_getElem? (i := 69) rfl)
  | 18, _ => exact tb_6 _ (List.mem_of_getElem? (i := 71) rfl)
  | 19, _ => exact tb_6 _ (List.mem_of_getElem? (i := 73) rfl)
  | 20, _ => exact tb_6 _ (List.mem_of_getElem? (i := 75) rfl)
  | 21, _ => exact tb_6 _ (List.mem_of_getElem? (i := 77) rfl)
  | 22, _ => exact tb_6 _ (List.mem_of_getElem? (i := 79) rfl)
  | 23, _ => exact tb_6 _ (List.mem_of_getElem? (i := 81) rfl)
  | 24, _ => exact tb_6 _ (List.mem_of_getElem? (i := 83) rfl)
  | 25, _ => exact tb_6 _ (List.mem_of_getElem? (i := 85) rfl)
  | 26, _ => exact tb_6 _ (List.mem_of_getElem? (i := 87) rfl)
  | 27, _ => exact tb_6 _ (List.mem_of_getElem? (i := 89) rfl)
  | 28, _ => exact tb_6 _ (List.mem_of_getElem? (i := 91) rfl)
  | 29, _ => exact tb_6 _ (List.mem_of_getElem? (i := 93) rfl)
  | 30, _ => exact tb_6 _ (List.mem_of_getElem? (i := 95) rfl)
  | 31, _ => exact tb_6 _ (List.mem_of_getElem? (i := 97) rfl)
  | 32, _ => exact tb_6 _ (List.mem_of_getElem? (i := 99) rfl)
  | 33, _ => exact tb_6 _ (List.mem_of_getElem? (i := 101) rfl)
  | 34, _ => exact tb_6 _ (List.mem_of_getElem? (i := 103) rfl)
  | 35, _ => exact tb_6 _ (List.mem_of_getElem? (i := 105) rfl)
  | 36, _ => exact tb_6 _ (List.mem_of_getElem? (i := 107) rfl)
  | 37, _ => exact tb_6 _ (List.mem_of_getElem? (i := 109) rfl)
  | 38, _ => exact tb_6 _ (List.mem_of_getElem? (i := 111) rfl)
  | 39, _ => exact tb_6 _ (List.mem_of_getElem? (i := 113) rfl)
  | 40, _ => exact tb_6 _ (List.mem_of_getElem? (i := 115) rfl)
  | 41, _ => exact tb_6 _ (List.mem_of_getElem? (i := 117) rfl)
  | 42, _ => exact tb_6 _ (List.mem_of_getElem? (i := 119) rfl)
  | 43, _ => exact tb_6 _ (List.mem_of_getElem? (i := 121) rfl)
  | 44, _ => exact tb_6 _ (List.mem_of_getElem? (i := 123) rfl)
  | 45, _ => exact tb_6 _ (List.mem_of_getElem? (i := 125) rfl)
  | k + 46, h => exact absurd h (by omega)
theorem tf_X0 : ∀ w ∈ wsX00, w ∈ lw_tbl := by
  intro w h
  obtain ⟨k, hk, rfl⟩ := List.mem_map.mp h
  have hk := List.mem_range.mp hk
  match k, hk with
  | 0, _ => exact tb_1 _ (List.mem_of_getElem? (i := 56) rfl)
  | 1, _ => exact tb_1 _ (List.mem_of_getElem? (i := 58) rfl)
  | k + 2, h => exact absurd h (by omega)
theorem tf_X1 : ∀ w ∈ wsX10, w ∈ lw_tbl := by
  intro w h
  obtain ⟨k, hk, rfl⟩ := List.mem_map.mp h
  have hk := List.mem_range.mp hk
  match k, hk with
  | 0, _ => exact tb_1 _ (List.mem_of_getElem? (i := 131) rfl)
  | 1, _ => exact tb_1 _ (List.mem_of_getElem? (i := 133) rfl)
  | 2, _ => exact tb_1 _ (List.mem_of_getElem? (i := 135) rfl)
  | 3, _ => exact tb_1 _ (List.mem_of_getElem? (i := 137) rfl)
  | 4, _ => exact tb_1 _ (List.mem_of_getElem? (i := 139) rfl)
  | 5, _ => exact tb_1 _ (List.mem_of_getElem? (i := 141) rfl)
  | 6, _ => exact tb_1 _ (List.mem_of_getElem? (i := 143) rfl)
  | k + 7, h => exact absurd h (by omega)
theorem tf_X5 : ∀ w ∈ wsX50, w ∈ lw_tbl := by
  intro w h
  obtain ⟨k, hk, rfl⟩ := List.mem_map.mp h
  have hk := List.mem_range.mp hk
  match k, hk with
  | 0, _ => exact tb_1 _ (List.mem_of_getElem? (i := 156) rfl)
  | 1, _ => exact tb_1 _ (List.mem_of_getElem? (i := 158) rfl)
  | 2, _ => exact tb_1 _ (List.mem_of_getElem? (i := 160) rfl)
  | k + 3, h => exact absurd h (by omega)
theorem tf_X9 : ∀ w ∈ wsX90, w ∈ lw_tbl := by
  intro w h
  obtain ⟨k, hk, rfl⟩ := List.mem_map.mp h
  have hk := List.mem_range.mp hk
  match k, hk with
  | 0, _ => exact tb_1 _ (List.mem_of_getElem? (i := 214) rfl)
  | 1, _ => exact tb_1 _ (List.mem_of_getElem? (i := 216) rfl)
  | 2, _ => exact tb_1 _ (List.mem_of_getElem? (i := 218) rfl)
  | 3, _ => exact tb_1 _ (List.mem_of_getElem? (i := 220) rfl)
  | k + 4, h => exact absurd h (by omega)
theorem tf_X10 : ∀ w ∈ wsX100, w ∈ lw_tbl := by
  intro w h
  obtain ⟨k, hk, rfl⟩ := List.mem_map.mp h
  have hk := List.mem_range.mp hk
  match k, hk with
  | 0, _ => exact tb_1 _ (List.mem_of_getElem? (i := 236) rfl)
  | 1, _ => exact tb_1 _ (List.mem_of_getElem? (i := 238) rfl)
  | 2, _ => exact tb_2 _ (List.mem_of_getElem? (i := 0) rfl)
  | 3, _ => exact tb_2 _ (List.mem_of_getElem? (i := 2) rfl)
  | 4, _ => exact tb_2 _ (List.mem_of_getElem? (i := 4) rfl)
  | 5, _ => exact tb_2 _ (List.mem_of_getElem? (i := 6) rfl)
  | k + 6, h => exact absurd h (by omega)
theorem tf_X8 : ∀ w ∈ wsX80, w ∈ lw_tbl := by
  intro w h
  obtain ⟨k, hk, rfl⟩ := List.mem_map.mp h
  have hk := List.mem_range.mp hk
  match k, hk with
  | 0, _ => exact tb_2 _ (List.mem_of_getElem? (i := 23) rfl)
  | 1, _ => exact tb_2 _ (List.mem_of_getElem? (i := 25) rfl)
  | 2, _ => exact tb_2 _ (List.mem_of_getElem? (i := 27) rfl)
  | 3, _ => exact tb_2 _ (List.mem_of_getElem? (i := 29) rfl)
  | k + 4, h => exact absurd h (by omega)
theorem tf_X3 : ∀ w ∈ wsX30, w ∈ lw_tbl := by
  intro w h
  obtain ⟨k, hk, rfl⟩ := List.mem_map.mp h
  have hk := List.mem_range.mp hk
  match k, hk with
  | 0, _ => exact tb_2 _ (List.mem_of_getElem? (i := 43) rfl)
  | 1, _ => exact tb_2 _ (List.mem_of_getElem? (i := 45) rfl)
  | 2, _ => exact tb_2 _ (List.mem_of_getElem? (i := 47) rfl)
  | 3, _ => exact tb_2 _ (List.mem_of_getElem? (i := 49) rfl)
  | 4, _ => exact tb_2 _ (List.mem_of_getElem? (i := 51) rfl)
  | k + 5, h => exact absurd h (by omega)
theorem tf_X7 : ∀ w ∈ wsX70, w ∈ lw_tbl := by
  intro w h
  obtain ⟨k, hk, rfl⟩ := List.mem_map.mp h
  have hk := List.mem_range.mp hk
  match k, hk with
  | 0, _ => exact tb_1 _ (List.mem_of_getElem? (i := 203) rfl)
  | 1, _ => exact tb_1 _ (List.mem_of_getElem? (i := 205) rfl)
  | 2, _ => exact tb_1 _ (List.mem_of_getElem? (i := 207) rfl)
  | k + 3, h => exact absurd h (by omega)
theorem tf_X4 : ∀ w ∈ wsX40, w ∈ lw_tbl := by
  intro w h
  obtain ⟨k, hk, rfl⟩ := List.mem_map.mp h
  have hk := List.mem_range.mp hk
  match k, hk with
  | 0, _ => exact tb_2 _ (List.mem_of_getElem? (i := 67) rfl)
  | 1, _ => exact tb_2 _ (List.mem_of_getElem? (i := 69) rfl)
  | 2, _ => exact tb_2 _ (List.mem_of_getElem? (i := 71) rfl)
  | k + 3, h => exact absurd h (by omega)
theorem tf_X6 : ∀ w ∈ wsX60, w ∈ lw_tbl := by
  intro w h
  obtain ⟨k, hk, rfl⟩ := List.mem_map.mp h
  have hk := List.mem_range.mp hk
  match k, hk with
  | 0, _ => exact tb_1 _ (List.mem_of_getElem? (i := 181) rfl)
  | 1, _ => exact tb_1 _ (List.mem_of_getElem? (i := 183) rfl)
  | 2, _ => exact tb_1 _ (List.mem_of_getElem? (i := 185) rfl)
  | 3, _ => exact tb_1 _ (List.mem_of_getElem? (i := 187) rfl)
  | 4, _ => exact tb_1 _ (List.mem_of_getElem? (i := 189) rfl)
  | 5, _ => exact tb_1 _ (List.mem_of_getElem? (i := 191) rfl)
  | k + 6, h => exact absurd h (by omega)
set_option maxRecDepth 20000 in
theorem wsL_law_x0 : ∀ w ∈ (vx_atS RX11 88 "java/lang/IllegalArgumentException" ["java/lang/RuntimeException", "java/lang/Exception"]).filter goodWord, w ∈ lw_tbl := by decide +kernel
set_option maxRecDepth 20000 in
theorem wsL_law_x1 : ∀ w ∈ (vx_atS RX11 99 "java/lang/IllegalStateException" ["java/lang/RuntimeException", "java/lang/Exception"]).filter goodWord, w ∈ lw_tbl := by decide +kernel
set_option maxRecDepth 20000 in
theorem wsL_law_x2 : ∀ w ∈ (vx_atS RX11 121 "java/lang/IndexOutOfBoundsException" ["java/lang/RuntimeException", "java/lang/Exception"]).filter goodWord, w ∈ lw_tbl := by decide +kernel
def gF : List Cond := wsL_law0_r1 ++ (wsL_law0_r2 ++ (wsL_law0_r3 ++ (wsL_law0_r4 ++ (wsL_law0_r5 ++ (wsL_law0_r6 ++ (wsL_law0_r7 ++ (wsL_law0_r8 ++ (wsL_law0_r9 ++ (wsL_law0_r10 ++ (wsL_law0_r11 ++ (wsL_law0_r12 ++ (wsL_law0_r13 ++ (wsL_law0_r14 ++ (wsL_law0_r15 ++ (wsL_law0_r16 ++ (wsL_law0_r17 ++ (wsL_law0_r18 ++ (wsL_law0_r19 ++ (wsL_law0_r20 ++ (wsL_law0_r21 ++ (wsL_law0_r22 ++ (wsL_law0_r23 ++ (wsL_law0_r24 ++ (wsL_law0_r25 ++ (wsL_law0_r26 ++ (wsL_law0_r27 ++ (wsL_law0_r28 ++ (wsL_law0_r29 ++ (wsL_law0_r30 ++ (wsL_law0_r31 ++ (wsL_law0_r32 ++ (wsL_law0_r33 ++ (wsL_law0_r34 ++ (wsL_law0_r35 ++ (wsL_law0_r36 ++ (wsL_law0_r37 ++ (wsL_law0_r38 ++ (wsL_law0_r39 ++ (wsL_law0_r40 ++ (wsL_law0_r41 ++ (wsL_law0_r42 ++ (wsL_law0_r43 ++ (wsL_law0_r44 ++ (wsL_law0_r45 ++ (wsL_law0_r46 ++ (wsL_law0_r47 ++ (wsL_law0_r48 ++ (wsL_law0_r49 ++ (wsL_law0_r50 ++ (wsL_law0_r51 ++ ((vx_atS RX11 88 "java/lang/IllegalArgumentException" ["java/lang/RuntimeException", "java/lang/Exception"]).filter goodWord ++ ((vx_atS RX11 99 "java/lang/IllegalStateException" ["java/lang/RuntimeException", "java/lang/Exception"]).filter goodWord ++ ((vx_atS RX11 121 "java/lang/IndexOutOfBoundsException" ["java/lang/RuntimeException", "java/lang/Exception"]).filter goodWord)))))))))))))))))))))))))))))))))))))))))))))))))))))
theorem gF_in : ∀ w ∈ gF, w ∈ lw_tbl := List.forall_mem_append.mpr ⟨tr_1, List.forall_mem_append.mpr ⟨tr_2, List.forall_mem_append.mpr ⟨tr_3, List.forall_mem_append.mpr ⟨tr_4, List.forall_mem_append.mpr ⟨tr_5, List.forall_mem_append.mpr ⟨tr_6, List.forall_mem_append.mpr ⟨tr_7, List.forall_mem_append.mpr ⟨tr_8, List.forall_mem_append.mpr ⟨tr_9, List.forall_mem_append.mpr ⟨tr_10, List.forall_mem_append.mpr ⟨tr_11, List.forall_mem_append.mpr ⟨tr_12, List.forall_mem_append.mpr ⟨tr_13, List.forall_mem_append.mpr ⟨tr_14, List.forall_mem_append.mpr ⟨tr_15, List.forall_mem_append.mpr ⟨tr_16, List.forall_mem_append.mpr ⟨tr_17, List.forall_mem_append.mpr ⟨tr_18, List.forall_mem_append.mpr ⟨tr_19, List.forall_mem_append.mpr ⟨tr_20, List.forall_mem_append.mpr ⟨tr_21, List.forall_mem_append.mpr ⟨tr_22, List.forall_mem_append.mpr ⟨tr_23, List.forall_mem_append.mpr ⟨tr_24, List.forall_mem_append.mpr ⟨tr_25, List.forall_mem_append.mpr ⟨tr_26, List.forall_mem_append.mpr ⟨tr_27, List.forall_mem_append.mpr ⟨tr_28, List.forall_mem_append.mpr ⟨tr_29, List.forall_mem_append.mpr ⟨tr_30, List.forall_mem_append.mpr ⟨tr_31, List.forall_mem_append.mpr ⟨tr_32, List.forall_mem_append.mpr ⟨tr_33, List.forall_mem_append.mpr ⟨tr_34, List.forall_mem_append.mpr ⟨tr_35, List.forall_mem_append.mpr ⟨tr_36, List.forall_mem_append.mpr ⟨tr_37, List.forall_mem_append.mpr ⟨tr_38, List.forall_mem_append.mpr ⟨tr_39, List.forall_mem_append.mpr ⟨tr_40, List.forall_mem_append.mpr ⟨tr_41, List.forall_mem_append.mpr ⟨tr_42, List.forall_mem_append.mpr ⟨tr_43, List.forall_mem_append.mpr ⟨tr_44, List.forall_mem_append.mpr ⟨tr_45, List.forall_mem_append.mpr ⟨tr_46, List.forall_mem_append.mpr ⟨tr_47, List.forall_mem_append.mpr ⟨tr_48, List.forall_mem_append.mpr ⟨tr_49, List.forall_mem_append.mpr ⟨tr_50, List.forall_mem_append.mpr ⟨tr_51, List.forall_mem_append.mpr ⟨wsL_law_x0, List.forall_mem_append.mpr ⟨wsL_law_x1, wsL_law_x2⟩⟩⟩⟩⟩⟩⟩⟩⟩⟩⟩⟩⟩⟩⟩⟩⟩⟩⟩⟩⟩⟩⟩⟩⟩⟩⟩⟩⟩⟩⟩⟩⟩⟩⟩⟩⟩⟩⟩⟩⟩⟩⟩⟩⟩⟩⟩⟩⟩⟩⟩⟩⟩
