/-! ===== BEGIN printed: names, fields, word lists, decode rows ===== -/
def RX0 : String := "Swervewright$Arcs"
def TX0 : u_T := fun k => match k with
  | 0 => ("Swervewright$Arcs", "xs", "[I", true)
  | _ => ("Swervewright$Arcs", "ys", "[I", true)
def tyX0 : Nat → FieldType := fun k => match k with
  | 0 => .array .int
  | _ => .array .int
abbrev wsX00 : List Cond := u_ws RX0 TX0 2
theorem nmX0 : ∀ a, a < 2 → ∀ b, b < 2 → a ≠ b → (TX0 a).2.1 ≠ (TX0 b).2.1 := by decide +kernel
theorem tyX0_ok : ∀ k, k < 2 → parseFieldDescriptor (TX0 k).2.2.1 = some (tyX0 k) := by decide +kernel
abbrev cX0_init : ByteArray := prog_2_method_1_code
def yX0_init : MethodName := ⟨RX0, "<init>", "()V"⟩
abbrev cX0_fill : ByteArray := prog_2_method_2_code
def yX0_fill : MethodName := ⟨RX0, "fill", "(II)V"⟩
abbrev cX0_placeOf : ByteArray := prog_2_method_3_code
def yX0_placeOf : MethodName := ⟨RX0, "placeOf", "(III)I"⟩
abbrev cX0_x : ByteArray := prog_2_method_4_code
def yX0_x : MethodName := ⟨RX0, "x", "(III)I"⟩
abbrev cX0_y : ByteArray := prog_2_method_5_code
def yX0_y : MethodName := ⟨RX0, "y", "(III)I"⟩
def RX1 : String := "Swervewright$Field"
def TX1 : u_T := fun k => match k with
  | 0 => ("Swervewright$Field", "polygons", "[LSwervewright$Polygon;", true)
  | 1 => ("Swervewright$Field", "polygonCount", "I", false)
  | 2 => ("Swervewright$Field", "covers", "[I", true)
  | 3 => ("Swervewright$Field", "clears", "[I", true)
  | 4 => ("Swervewright$Field", "opens", "[Z", true)
  | 5 => ("Swervewright$Field", "front", "I", false)
  | _ => ("Swervewright$Field", "behind", "I", false)
def tyX1 : Nat → FieldType := fun k => match k with
  | 0 => .array (.object "Swervewright$Polygon")
  | 1 => .int
  | 2 => .array .int
  | 3 => .array .int
  | 4 => .array .boolean
  | 5 => .int
  | _ => .int
abbrev wsX10 : List Cond := u_ws RX1 TX1 7
theorem nmX1 : ∀ a, a < 7 → ∀ b, b < 7 → a ≠ b → (TX1 a).2.1 ≠ (TX1 b).2.1 := by decide +kernel
theorem tyX1_ok : ∀ k, k < 7 → parseFieldDescriptor (TX1 k).2.2.1 = some (tyX1 k) := by decide +kernel
abbrev cX1_init : ByteArray := prog_3_method_1_code
def yX1_init : MethodName := ⟨RX1, "<init>", "()V"⟩
abbrev cX1_polygonCount : ByteArray := prog_3_method_2_code
def yX1_polygonCount : MethodName := ⟨RX1, "polygonCount", "()I"⟩
abbrev cX1_isGone : ByteArray := prog_3_method_3_code
def yX1_isGone : MethodName := ⟨RX1, "isGone", "(I)Z"⟩
abbrev cX1_add : ByteArray := prog_3_method_4_code
def yX1_add : MethodName := ⟨RX1, "add", "(LSwervewright$Polygon;)I"⟩
abbrev cX1_remove : ByteArray := prog_3_method_5_code
def yX1_remove : MethodName := ⟨RX1, "remove", "(I)I"⟩
abbrev cX1_cover : ByteArray := prog_3_method_6_code
def yX1_cover : MethodName := ⟨RX1, "cover", "(LSwervewright$Polygon;I)I"⟩
abbrev cX1_setVehicle : ByteArray := prog_3_method_7_code
def yX1_setVehicle : MethodName := ⟨RX1, "setVehicle", "(II)V"⟩
abbrev cX1_survey : ByteArray := prog_3_method_8_code
def yX1_survey : MethodName := ⟨RX1, "survey", "()V"⟩
abbrev cX1_measureClears : ByteArray := prog_3_method_9_code
def yX1_measureClears : MethodName := ⟨RX1, "measureClears", "()V"⟩
abbrev cX1_nearTo : ByteArray := prog_3_method_10_code
def yX1_nearTo : MethodName := ⟨RX1, "nearTo", "(III)V"⟩
abbrev cX1_judgePoses : ByteArray := prog_3_method_11_code
def yX1_judgePoses : MethodName := ⟨RX1, "judgePoses", "()V"⟩
abbrev cX1_isClear : ByteArray := prog_3_method_12_code
def yX1_isClear : MethodName := ⟨RX1, "isClear", "(III)Z"⟩
abbrev cX1_isBlocked : ByteArray := prog_3_method_13_code
def yX1_isBlocked : MethodName := ⟨RX1, "isBlocked", "(I)Z"⟩
abbrev cX1_clearOf : ByteArray := prog_3_method_14_code
def yX1_clearOf : MethodName := ⟨RX1, "clearOf", "(I)I"⟩
abbrev cX1_isOpen : ByteArray := prog_3_method_15_code
def yX1_isOpen : MethodName := ⟨RX1, "isOpen", "(I)Z"⟩
abbrev cX1_driven : ByteArray := prog_3_method_16_code
def yX1_driven : MethodName := ⟨RX1, "driven", "(II)I"⟩
abbrev cX1_canDrive : ByteArray := prog_3_method_17_code
def yX1_canDrive : MethodName := ⟨RX1, "canDrive", "(LSwervewright$Route;)Z"⟩
def RX2 : String := "Swervewright$Lattice"
def TX2 : u_T := fun k => match k with
  | _ => ("", "", "", false)
def tyX2 : Nat → FieldType := fun k => match k with
  | _ => .int
abbrev wsX20 : List Cond := u_ws RX2 TX2 0
theorem nmX2 : ∀ a, a < 0 → ∀ b, b < 0 → a ≠ b → (TX2 a).2.1 ≠ (TX2 b).2.1 := by decide +kernel
theorem tyX2_ok : ∀ k, k < 0 → parseFieldDescriptor (TX2 k).2.2.1 = some (tyX2 k) := by decide +kernel
abbrev cX2_numberOf : ByteArray := prog_4_method_2_code
def yX2_numberOf : MethodName := ⟨RX2, "numberOf", "(III)I"⟩
abbrev cX2_xOf : ByteArray := prog_4_method_3_code
def yX2_xOf : MethodName := ⟨RX2, "xOf", "(I)I"⟩
abbrev cX2_yOf : ByteArray := prog_4_method_4_code
def yX2_yOf : MethodName := ⟨RX2, "yOf", "(I)I"⟩
abbrev cX2_cellOf : ByteArray := prog_4_method_5_code
def yX2_cellOf : MethodName := ⟨RX2, "cellOf", "(I)I"⟩
abbrev cX2_headingOf : ByteArray := prog_4_method_6_code
def yX2_headingOf : MethodName := ⟨RX2, "headingOf", "(I)I"⟩
abbrev cX2_stepX : ByteArray := prog_4_method_7_code
def yX2_stepX : MethodName := ⟨RX2, "stepX", "(I)I"⟩
abbrev cX2_stepY : ByteArray := prog_4_method_8_code
def yX2_stepY : MethodName := ⟨RX2, "stepY", "(I)I"⟩
abbrev cX2_isEven : ByteArray := prog_4_method_9_code
def yX2_isEven : MethodName := ⟨RX2, "isEven", "(I)Z"⟩
abbrev cX2_isBack : ByteArray := prog_4_method_10_code
def yX2_isBack : MethodName := ⟨RX2, "isBack", "(I)Z"⟩
abbrev cX2_wayOf : ByteArray := prog_4_method_11_code
def yX2_wayOf : MethodName := ⟨RX2, "wayOf", "(I)I"⟩
abbrev cX2_isArc : ByteArray := prog_4_method_12_code
def yX2_isArc : MethodName := ⟨RX2, "isArc", "(I)Z"⟩
abbrev cX2_turnOf : ByteArray := prog_4_method_13_code
def yX2_turnOf : MethodName := ⟨RX2, "turnOf", "(I)I"⟩
abbrev cX2_oppositeOf : ByteArray := prog_4_method_14_code
def yX2_oppositeOf : MethodName := ⟨RX2, "oppositeOf", "(I)I"⟩
abbrev cX2_isCusp : ByteArray := prog_4_method_15_code
def yX2_isCusp : MethodName := ⟨RX2, "isCusp", "(II)Z"⟩
abbrev cX2_stepped : ByteArray := prog_4_method_16_code
def yX2_stepped : MethodName := ⟨RX2, "stepped", "(II)I"⟩
abbrev cX2_turned : ByteArray := prog_4_method_17_code
def yX2_turned : MethodName := ⟨RX2, "turned", "(II)I"⟩
abbrev cX2_ended : ByteArray := prog_4_method_18_code
def yX2_ended : MethodName := ⟨RX2, "ended", "(II)I"⟩
abbrev cX2_stepsCost : ByteArray := prog_4_method_19_code
def yX2_stepsCost : MethodName := ⟨RX2, "stepsCost", "(II)I"⟩
def RX3 : String := "Swervewright$Pace"
def TX3 : u_T := fun k => match k with
  | 0 => ("Swervewright$Pace", "straight", "I", false)
  | 1 => ("Swervewright$Pace", "arc", "I", false)
  | 2 => ("Swervewright$Pace", "faster", "I", false)
  | 3 => ("Swervewright$Pace", "slower", "I", false)
  | _ => ("Swervewright$Pace", "squares", "[F", false)
def tyX3 : Nat → FieldType := fun k => match k with
  | 0 => .int
  | 1 => .int
  | 2 => .int
  | 3 => .int
  | _ => .array .float
abbrev wsX30 : List Cond := u_ws RX3 TX3 5
theorem nmX3 : ∀ a, a < 5 → ∀ b, b < 5 → a ≠ b → (TX3 a).2.1 ≠ (TX3 b).2.1 := by decide +kernel
theorem tyX3_ok : ∀ k, k < 5 → parseFieldDescriptor (TX3 k).2.2.1 = some (tyX3 k) := by decide +kernel
abbrev cX3_init : ByteArray := prog_5_method_1_code
def yX3_init : MethodName := ⟨RX3, "<init>", "()V"⟩
abbrev cX3_set : ByteArray := prog_5_method_2_code
def yX3_set : MethodName := ⟨RX3, "set", "(IIII)V"⟩
abbrev cX3_squareAt : ByteArray := prog_5_method_3_code
def yX3_squareAt : MethodName := ⟨RX3, "squareAt", "(I)F"⟩
abbrev cX3_put : ByteArray := prog_5_method_4_code
def yX3_put : MethodName := ⟨RX3, "put", "(IF)V"⟩
abbrev cX3_reckon : ByteArray := prog_5_method_5_code
def yX3_reckon : MethodName := ⟨RX3, "reckon", "(LSwervewright$Route;)V"⟩
abbrev cX3_greatest : ByteArray := prog_5_method_6_code
def yX3_greatest : MethodName := ⟨RX3, "greatest", "(LSwervewright$Route;)F"⟩
abbrev cX3_isRest : ByteArray := prog_5_method_7_code
def yX3_isRest : MethodName := ⟨RX3, "isRest", "(LSwervewright$Route;I)Z"⟩
abbrev cX3_fromBefore : ByteArray := prog_5_method_8_code
def yX3_fromBefore : MethodName := ⟨RX3, "fromBefore", "(LSwervewright$Route;I)F"⟩
abbrev cX3_limitOf : ByteArray := prog_5_method_9_code
def yX3_limitOf : MethodName := ⟨RX3, "limitOf", "(I)F"⟩
abbrev cX3_change : ByteArray := prog_5_method_10_code
def yX3_change : MethodName := ⟨RX3, "change", "(LSwervewright$Route;II)F"⟩
abbrev cX3_lengthOf : ByteArray := prog_5_method_11_code
def yX3_lengthOf : MethodName := ⟨RX3, "lengthOf", "(II)F"⟩
abbrev cX3_lesser : ByteArray := prog_5_method_12_code
def yX3_lesser : MethodName := ⟨RX3, "lesser", "(FF)F"⟩
def RX4 : String := "Swervewright$Polygon"
def TX4 : u_T := fun k => match k with
  | 0 => ("Swervewright$Polygon", "xs", "[I", true)
  | 1 => ("Swervewright$Polygon", "ys", "[I", true)
  | _ => ("Swervewright$Polygon", "count", "I", false)
def tyX4 : Nat → FieldType := fun k => match k with
  | 0 => .array .int
  | 1 => .array .int
  | _ => .int
abbrev wsX40 : List Cond := u_ws RX4 TX4 3
theorem nmX4 : ∀ a, a < 3 → ∀ b, b < 3 → a ≠ b → (TX4 a).2.1 ≠ (TX4 b).2.1 := by decide +kernel
theorem tyX4_ok : ∀ k, k < 3 → parseFieldDescriptor (TX4 k).2.2.1 = some (tyX4 k) := by decide +kernel
abbrev cX4_init : ByteArray := prog_6_method_1_code
def yX4_init : MethodName := ⟨RX4, "<init>", "()V"⟩
abbrev cX4_count : ByteArray := prog_6_method_2_code
def yX4_count : MethodName := ⟨RX4, "count", "()I"⟩
abbrev cX4_clear : ByteArray := prog_6_method_3_code
def yX4_clear : MethodName := ⟨RX4, "clear", "()V"⟩
abbrev cX4_add : ByteArray := prog_6_method_4_code
def yX4_add : MethodName := ⟨RX4, "add", "(II)V"⟩
abbrev cX4_xAt : ByteArray := prog_6_method_5_code
def yX4_xAt : MethodName := ⟨RX4, "xAt", "(I)I"⟩
abbrev cX4_yAt : ByteArray := prog_6_method_6_code
def yX4_yAt : MethodName := ⟨RX4, "yAt", "(I)I"⟩
abbrev cX4_blocks : ByteArray := prog_6_method_7_code
def yX4_blocks : MethodName := ⟨RX4, "blocks", "(II)Z"⟩
abbrev cX4_isCrossed : ByteArray := prog_6_method_8_code
def yX4_isCrossed : MethodName := ⟨RX4, "isCrossed", "(IIII)Z"⟩
def RX5 : String := "Swervewright$Prices"
def TX5 : u_T := fun k => match k with
  | 0 => ("Swervewright$Prices", "field", "LSwervewright$Field;", true)
  | 1 => ("Swervewright$Prices", "cuspCost", "I", false)
  | _ => ("Swervewright$Prices", "marginCells", "I", false)
def tyX5 : Nat → FieldType := fun k => match k with
  | 0 => .object "Swervewright$Field"
  | 1 => .int
  | _ => .int
abbrev wsX50 : List Cond := u_ws RX5 TX5 3
theorem nmX5 : ∀ a, a < 3 → ∀ b, b < 3 → a ≠ b → (TX5 a).2.1 ≠ (TX5 b).2.1 := by decide +kernel
theorem tyX5_ok : ∀ k, k < 3 → parseFieldDescriptor (TX5 k).2.2.1 = some (tyX5 k) := by decide +kernel
abbrev cX5_init : ByteArray := prog_7_method_1_code
def yX5_init : MethodName := ⟨RX5, "<init>", "(LSwervewright$Field;)V"⟩
abbrev cX5_setCuspCost : ByteArray := prog_7_method_2_code
def yX5_setCuspCost : MethodName := ⟨RX5, "setCuspCost", "(I)I"⟩
abbrev cX5_setMarginCells : ByteArray := prog_7_method_3_code
def yX5_setMarginCells : MethodName := ⟨RX5, "setMarginCells", "(I)I"⟩
abbrev cX5_turnaround : ByteArray := prog_7_method_4_code
def yX5_turnaround : MethodName := ⟨RX5, "turnaround", "(II)I"⟩
abbrev cX5_cuspCost : ByteArray := prog_7_method_5_code
def yX5_cuspCost : MethodName := ⟨RX5, "cuspCost", "()I"⟩
abbrev cX5_ofMove : ByteArray := prog_7_method_6_code
def yX5_ofMove : MethodName := ⟨RX5, "ofMove", "(III)I"⟩
abbrev cX5_costOf : ByteArray := prog_7_method_7_code
def yX5_costOf : MethodName := ⟨RX5, "costOf", "(LSwervewright$Route;)I"⟩
abbrev cX5_between : ByteArray := prog_7_method_8_code
def yX5_between : MethodName := ⟨RX5, "between", "(LSwervewright$Route;II)I"⟩
def RX6 : String := "Swervewright$Queue"
def TX6 : u_T := fun k => match k with
  | 0 => ("Swervewright$Queue", "costs", "[I", true)
  | 1 => ("Swervewright$Queue", "after", "[I", true)
  | 2 => ("Swervewright$Queue", "ahead", "[I", true)
  | 3 => ("Swervewright$Queue", "firsts", "[I", true)
  | 4 => ("Swervewright$Queue", "waiting", "I", false)
  | _ => ("Swervewright$Queue", "level", "I", false)
def tyX6 : Nat → FieldType := fun k => match k with
  | 0 => .array .int
  | 1 => .array .int
  | 2 => .array .int
  | 3 => .array .int
  | 4 => .int
  | _ => .int
abbrev wsX60 : List Cond := u_ws RX6 TX6 6
theorem nmX6 : ∀ a, a < 6 → ∀ b, b < 6 → a ≠ b → (TX6 a).2.1 ≠ (TX6 b).2.1 := by decide +kernel
theorem tyX6_ok : ∀ k, k < 6 → parseFieldDescriptor (TX6 k).2.2.1 = some (tyX6 k) := by decide +kernel
abbrev cX6_init : ByteArray := prog_8_method_1_code
def yX6_init : MethodName := ⟨RX6, "<init>", "()V"⟩
abbrev cX6_clear : ByteArray := prog_8_method_2_code
def yX6_clear : MethodName := ⟨RX6, "clear", "()V"⟩
abbrev cX6_isState : ByteArray := prog_8_method_3_code
def yX6_isState : MethodName := ⟨RX6, "isState", "(I)Z"⟩
abbrev cX6_costOf : ByteArray := prog_8_method_4_code
def yX6_costOf : MethodName := ⟨RX6, "costOf", "(I)I"⟩
abbrev cX6_lower : ByteArray := prog_8_method_5_code
def yX6_lower : MethodName := ⟨RX6, "lower", "(II)V"⟩
abbrev cX6_take : ByteArray := prog_8_method_6_code
def yX6_take : MethodName := ⟨RX6, "take", "()I"⟩
abbrev cX6_link : ByteArray := prog_8_method_7_code
def yX6_link : MethodName := ⟨RX6, "link", "(I)V"⟩
abbrev cX6_unlink : ByteArray := prog_8_method_8_code
def yX6_unlink : MethodName := ⟨RX6, "unlink", "(I)V"⟩
def RX7 : String := "Swervewright$Route"
def TX7 : u_T := fun k => match k with
  | 0 => ("Swervewright$Route", "poses", "[I", false)
  | 1 => ("Swervewright$Route", "moves", "[I", false)
  | _ => ("Swervewright$Route", "count", "I", false)
def tyX7 : Nat → FieldType := fun k => match k with
  | 0 => .array .int
  | 1 => .array .int
  | _ => .int
abbrev wsX70 : List Cond := u_ws RX7 TX7 3
theorem nmX7 : ∀ a, a < 3 → ∀ b, b < 3 → a ≠ b → (TX7 a).2.1 ≠ (TX7 b).2.1 := by decide +kernel
theorem tyX7_ok : ∀ k, k < 3 → parseFieldDescriptor (TX7 k).2.2.1 = some (tyX7 k) := by decide +kernel
abbrev cX7_init : ByteArray := prog_9_method_1_code
def yX7_init : MethodName := ⟨RX7, "<init>", "()V"⟩
abbrev cX7_count : ByteArray := prog_9_method_2_code
def yX7_count : MethodName := ⟨RX7, "count", "()I"⟩
abbrev cX7_restart : ByteArray := prog_9_method_3_code
def yX7_restart : MethodName := ⟨RX7, "restart", "(I)V"⟩
abbrev cX7_cutAt : ByteArray := prog_9_method_4_code
def yX7_cutAt : MethodName := ⟨RX7, "cutAt", "(I)V"⟩
abbrev cX7_add : ByteArray := prog_9_method_5_code
def yX7_add : MethodName := ⟨RX7, "add", "(II)V"⟩
abbrev cX7_grow : ByteArray := prog_9_method_6_code
def yX7_grow : MethodName := ⟨RX7, "grow", "()V"⟩
abbrev cX7_copied : ByteArray := prog_9_method_7_code
def yX7_copied : MethodName := ⟨RX7, "copied", "()LSwervewright$Route;"⟩
abbrev cX7_addFrom : ByteArray := prog_9_method_8_code
def yX7_addFrom : MethodName := ⟨RX7, "addFrom", "(LSwervewright$Route;I)V"⟩
abbrev cX7_moveAt : ByteArray := prog_9_method_9_code
def yX7_moveAt : MethodName := ⟨RX7, "moveAt", "(I)I"⟩
abbrev cX7_poseAt : ByteArray := prog_9_method_10_code
def yX7_poseAt : MethodName := ⟨RX7, "poseAt", "(I)I"⟩
abbrev cX7_lastMove : ByteArray := prog_9_method_11_code
def yX7_lastMove : MethodName := ⟨RX7, "lastMove", "()I"⟩
abbrev cX7_lastPose : ByteArray := prog_9_method_12_code
def yX7_lastPose : MethodName := ⟨RX7, "lastPose", "()I"⟩
abbrev cX7_isCuspAt : ByteArray := prog_9_method_13_code
def yX7_isCuspAt : MethodName := ⟨RX7, "isCuspAt", "(I)Z"⟩
abbrev cX7_cuspCount : ByteArray := prog_9_method_14_code
def yX7_cuspCount : MethodName := ⟨RX7, "cuspCount", "()I"⟩
abbrev cX7_segmentCount : ByteArray := prog_9_method_15_code
def yX7_segmentCount : MethodName := ⟨RX7, "segmentCount", "()I"⟩
abbrev cX7_segmentStart : ByteArray := prog_9_method_16_code
def yX7_segmentStart : MethodName := ⟨RX7, "segmentStart", "(I)I"⟩
abbrev cX7_alikeFrom : ByteArray := prog_9_method_17_code
def yX7_alikeFrom : MethodName := ⟨RX7, "alikeFrom", "(I)I"⟩
def RX8 : String := "Swervewright$Shortener"
def TX8 : u_T := fun k => match k with
  | 0 => ("Swervewright$Shortener", "field", "LSwervewright$Field;", true)
  | 1 => ("Swervewright$Shortener", "prices", "LSwervewright$Prices;", true)
  | 2 => ("Swervewright$Shortener", "word", "LSwervewright$Word;", true)
  | _ => ("Swervewright$Shortener", "rest", "LSwervewright$Route;", true)
def tyX8 : Nat → FieldType := fun k => match k with
  | 0 => .object "Swervewright$Field"
  | 1 => .object "Swervewright$Prices"
  | 2 => .object "Swervewright$Word"
  | _ => .object "Swervewright$Route"
abbrev wsX80 : List Cond := u_ws RX8 TX8 4
theorem nmX8 : ∀ a, a < 4 → ∀ b, b < 4 → a ≠ b → (TX8 a).2.1 ≠ (TX8 b).2.1 := by decide +kernel
theorem tyX8_ok : ∀ k, k < 4 → parseFieldDescriptor (TX8 k).2.2.1 = some (tyX8 k) := by decide +kernel
abbrev cX8_init : ByteArray := prog_10_method_1_code
def yX8_init : MethodName := ⟨RX8, "<init>", "(LSwervewright$Field;LSwervewright$Prices;LSwervewright$Arcs;)V"⟩
abbrev cX8_saveOn : ByteArray := prog_10_method_2_code
def yX8_saveOn : MethodName := ⟨RX8, "saveOn", "(LSwervewright$Route;)I"⟩
abbrev cX8_saveFrom : ByteArray := prog_10_method_3_code
def yX8_saveFrom : MethodName := ⟨RX8, "saveFrom", "(LSwervewright$Route;I)V"⟩
abbrev cX8_wordBetween : ByteArray := prog_10_method_4_code
def yX8_wordBetween : MethodName := ⟨RX8, "wordBetween", "(LSwervewright$Route;II)I"⟩
abbrev cX8_put : ByteArray := prog_10_method_5_code
def yX8_put : MethodName := ⟨RX8, "put", "(LSwervewright$Route;II)V"⟩
def RX9 : String := "Swervewright$Ways"
def TX9 : u_T := fun k => match k with
  | 0 => ("Swervewright$Ways", "field", "LSwervewright$Field;", true)
  | 1 => ("Swervewright$Ways", "prices", "LSwervewright$Prices;", true)
  | 2 => ("Swervewright$Ways", "queue", "LSwervewright$Queue;", true)
  | _ => ("Swervewright$Ways", "traced", "LSwervewright$Route;", true)
def tyX9 : Nat → FieldType := fun k => match k with
  | 0 => .object "Swervewright$Field"
  | 1 => .object "Swervewright$Prices"
  | 2 => .object "Swervewright$Queue"
  | _ => .object "Swervewright$Route"
abbrev wsX90 : List Cond := u_ws RX9 TX9 4
theorem nmX9 : ∀ a, a < 4 → ∀ b, b < 4 → a ≠ b → (TX9 a).2.1 ≠ (TX9 b).2.1 := by decide +kernel
theorem tyX9_ok : ∀ k, k < 4 → parseFieldDescriptor (TX9 k).2.2.1 = some (tyX9 k) := by decide +kernel
abbrev cX9_init : ByteArray := prog_11_method_1_code
def yX9_init : MethodName := ⟨RX9, "<init>", "(LSwervewright$Field;LSwervewright$Prices;)V"⟩
abbrev cX9_costFromEnd : ByteArray := prog_11_method_2_code
def yX9_costFromEnd : MethodName := ⟨RX9, "costFromEnd", "(IIZ)I"⟩
abbrev cX9_costFromStart : ByteArray := prog_11_method_3_code
def yX9_costFromStart : MethodName := ⟨RX9, "costFromStart", "(IIZ)I"⟩
abbrev cX9_stateOf : ByteArray := prog_11_method_4_code
def yX9_stateOf : MethodName := ⟨RX9, "stateOf", "(IZ)I"⟩
abbrev cX9_searched : ByteArray := prog_11_method_5_code
def yX9_searched : MethodName := ⟨RX9, "searched", "(IIZZ)I"⟩
abbrev cX9_spreadAlong : ByteArray := prog_11_method_6_code
def yX9_spreadAlong : MethodName := ⟨RX9, "spreadAlong", "(IZZ)V"⟩
abbrev cX9_spreadAgainst : ByteArray := prog_11_method_7_code
def yX9_spreadAgainst : MethodName := ⟨RX9, "spreadAgainst", "(IZZ)V"⟩
abbrev cX9_trace : ByteArray := prog_11_method_8_code
def yX9_trace : MethodName := ⟨RX9, "trace", "(IIZ)LSwervewright$Route;"⟩
abbrev cX9_lowestMove : ByteArray := prog_11_method_9_code
def yX9_lowestMove : MethodName := ⟨RX9, "lowestMove", "(IZ)I"⟩
def RX10 : String := "Swervewright$Word"
def TX10 : u_T := fun k => match k with
  | 0 => ("Swervewright$Word", "arcs", "LSwervewright$Arcs;", true)
  | 1 => ("Swervewright$Word", "kind", "I", false)
  | 2 => ("Swervewright$Word", "first", "I", false)
  | 3 => ("Swervewright$Word", "second", "I", false)
  | 4 => ("Swervewright$Word", "third", "I", false)
  | _ => ("Swervewright$Word", "cost", "I", false)
def tyX10 : Nat → FieldType := fun k => match k with
  | 0 => .object "Swervewright$Arcs"
  | 1 => .int
  | 2 => .int
  | 3 => .int
  | 4 => .int
  | _ => .int
abbrev wsX100 : List Cond := u_ws RX10 TX10 6
theorem nmX10 : ∀ a, a < 6 → ∀ b, b < 6 → a ≠ b → (TX10 a).2.1 ≠ (TX10 b).2.1 := by decide +kernel
theorem tyX10_ok : ∀ k, k < 6 → parseFieldDescriptor (TX10 k).2.2.1 = some (tyX10 k) := by decide +kernel
abbrev cX10_init : ByteArray := prog_12_method_1_code
def yX10_init : MethodName := ⟨RX10, "<init>", "(LSwervewright$Arcs;)V"⟩
abbrev cX10_firstMove : ByteArray := prog_12_method_2_code
def yX10_firstMove : MethodName := ⟨RX10, "firstMove", "(I)I"⟩
abbrev cX10_secondMove : ByteArray := prog_12_method_3_code
def yX10_secondMove : MethodName := ⟨RX10, "secondMove", "(I)I"⟩
abbrev cX10_thirdMove : ByteArray := prog_12_method_4_code
def yX10_thirdMove : MethodName := ⟨RX10, "thirdMove", "(I)I"⟩
abbrev cX10_costOrNone : ByteArray := prog_12_method_5_code
def yX10_costOrNone : MethodName := ⟨RX10, "costOrNone", "()I"⟩
abbrev cX10_tell : ByteArray := prog_12_method_6_code
def yX10_tell : MethodName := ⟨RX10, "tell", "(I)I"⟩
abbrev cX10_length : ByteArray := prog_12_method_7_code
def yX10_length : MethodName := ⟨RX10, "length", "()I"⟩
abbrev cX10_moveAt : ByteArray := prog_12_method_8_code
def yX10_moveAt : MethodName := ⟨RX10, "moveAt", "(I)I"⟩
abbrev cX10_find : ByteArray := prog_12_method_9_code
def yX10_find : MethodName := ⟨RX10, "find", "(II)V"⟩
abbrev cX10_tryStraights : ByteArray := prog_12_method_10_code
def yX10_tryStraights : MethodName := ⟨RX10, "tryStraights", "(IIII)V"⟩
abbrev cX10_tryArcs : ByteArray := prog_12_method_11_code
def yX10_tryArcs : MethodName := ⟨RX10, "tryArcs", "(IIII)V"⟩
abbrev cX10_arcsBetween : ByteArray := prog_12_method_12_code
def yX10_arcsBetween : MethodName := ⟨RX10, "arcsBetween", "(III)I"⟩
abbrev cX10_offer : ByteArray := prog_12_method_13_code
def yX10_offer : MethodName := ⟨RX10, "offer", "(IIIII)V"⟩
def RX11 : String := "Swervewright"
def TX11 : u_T := fun k => match k with
  | 0 => ("Swervewright", "field", "LSwervewright$Field;", true)
  | 1 => ("Swervewright", "prices", "LSwervewright$Prices;", true)
  | 2 => ("Swervewright", "ways", "LSwervewright$Ways;", true)
  | 3 => ("Swervewright", "lastWord", "LSwervewright$Word;", true)
  | 4 => ("Swervewright", "shortener", "LSwervewright$Shortener;", true)
  | 5 => ("Swervewright", "pace", "LSwervewright$Pace;", true)
  | 6 => ("Swervewright", "plans", "[LSwervewright$Route;", true)
  | 7 => ("Swervewright", "planCount", "I", false)
  | 8 => ("Swervewright", "recorded", "LSwervewright$Route;", true)
  | 9 => ("Swervewright", "isRecording", "Z", false)
  | _ => ("Swervewright", "outline", "LSwervewright$Polygon;", false)
def tyX11 : Nat → FieldType := fun k => match k with
  | 0 => .object "Swervewright$Field"
  | 1 => .object "Swervewright$Prices"
  | 2 => .object "Swervewright$Ways"
  | 3 => .object "Swervewright$Word"
  | 4 => .object "Swervewright$Shortener"
  | 5 => .object "Swervewright$Pace"
  | 6 => .array (.object "Swervewright$Route")
  | 7 => .int
  | 8 => .object "Swervewright$Route"
  | 9 => .boolean
  | _ => .object "Swervewright$Polygon"
abbrev wsX110 : List Cond := u_ws RX11 TX11 11
theorem nmX11 : ∀ a, a < 11 → ∀ b, b < 11 → a ≠ b → (TX11 a).2.1 ≠ (TX11 b).2.1 := by decide +kernel
theorem tyX11_ok : ∀ k, k < 11 → parseFieldDescriptor (TX11 k).2.2.1 = some (tyX11 k) := by decide +kernel
abbrev cX11_init : ByteArray := prog_1_method_1_code
def yX11_init : MethodName := ⟨RX11, "<init>", "()V"⟩
abbrev cX11_corner : ByteArray := prog_1_method_2_code
def yX11_corner : MethodName := ⟨RX11, "corner", "(II)I"⟩
abbrev cX11_polygon : ByteArray := prog_1_method_3_code
def yX11_polygon : MethodName := ⟨RX11, "polygon", "()I"⟩
abbrev cX11_forget : ByteArray := prog_1_method_4_code
def yX11_forget : MethodName := ⟨RX11, "forget", "()I"⟩
abbrev cX11_takeAway : ByteArray := prog_1_method_5_code
def yX11_takeAway : MethodName := ⟨RX11, "takeAway", "(I)I"⟩
abbrev cX11_vehicle : ByteArray := prog_1_method_6_code
def yX11_vehicle : MethodName := ⟨RX11, "vehicle", "(II)V"⟩
abbrev cX11_cusp : ByteArray := prog_1_method_7_code
def yX11_cusp : MethodName := ⟨RX11, "cusp", "(I)I"⟩
abbrev cX11_margin : ByteArray := prog_1_method_8_code
def yX11_margin : MethodName := ⟨RX11, "margin", "(I)I"⟩
abbrev cX11_clearance : ByteArray := prog_1_method_9_code
def yX11_clearance : MethodName := ⟨RX11, "clearance", "(II)I"⟩
abbrev cX11_isFree : ByteArray := prog_1_method_10_code
def yX11_isFree : MethodName := ⟨RX11, "isFree", "(III)Z"⟩
abbrev cX11_word : ByteArray := prog_1_method_11_code
def yX11_word : MethodName := ⟨RX11, "word", "(IIIIII)I"⟩
abbrev cX11_found : ByteArray := prog_1_method_12_code
def yX11_found : MethodName := ⟨RX11, "found", "(I)I"⟩
abbrev cX11_cheapest : ByteArray := prog_1_method_13_code
def yX11_cheapest : MethodName := ⟨RX11, "cheapest", "(IIIIIIZ)I"⟩
abbrev cX11_cheapestAnew : ByteArray := prog_1_method_14_code
def yX11_cheapestAnew : MethodName := ⟨RX11, "cheapestAnew", "(IIIIIIZ)I"⟩
abbrev cX11_plan : ByteArray := prog_1_method_15_code
def yX11_plan : MethodName := ⟨RX11, "plan", "(IIIIIIZ)I"⟩
abbrev cX11_begin : ByteArray := prog_1_method_16_code
def yX11_begin : MethodName := ⟨RX11, "begin", "(III)V"⟩
abbrev cX11_drive : ByteArray := prog_1_method_17_code
def yX11_drive : MethodName := ⟨RX11, "drive", "(I)I"⟩
abbrev cX11_keep : ByteArray := prog_1_method_18_code
def yX11_keep : MethodName := ⟨RX11, "keep", "()I"⟩
abbrev cX11_shorten : ByteArray := prog_1_method_19_code
def yX11_shorten : MethodName := ⟨RX11, "shorten", "(I)I"⟩
abbrev cX11_planOf : ByteArray := prog_1_method_20_code
def yX11_planOf : MethodName := ⟨RX11, "planOf", "(II)I"⟩
abbrev cX11_moveOf : ByteArray := prog_1_method_21_code
def yX11_moveOf : MethodName := ⟨RX11, "moveOf", "(II)I"⟩
abbrev cX11_poseOf : ByteArray := prog_1_method_22_code
def yX11_poseOf : MethodName := ⟨RX11, "poseOf", "(II)I"⟩
abbrev cX11_segment : ByteArray := prog_1_method_23_code
def yX11_segment : MethodName := ⟨RX11, "segment", "(II)I"⟩
abbrev cX11_speeds : ByteArray := prog_1_method_24_code
def yX11_speeds : MethodName := ⟨RX11, "speeds", "(IIII)V"⟩
abbrev cX11_speed : ByteArray := prog_1_method_25_code
def yX11_speed : MethodName := ⟨RX11, "speed", "(II)F"⟩
abbrev cX11_peak : ByteArray := prog_1_method_26_code
def yX11_peak : MethodName := ⟨RX11, "peak", "(I)I"⟩
abbrev cX11_isOutside : ByteArray := prog_1_method_27_code
def yX11_isOutside : MethodName := ⟨RX11, "isOutside", "(III)Z"⟩
abbrev cX11_requirePose : ByteArray := prog_1_method_28_code
def yX11_requirePose : MethodName := ⟨RX11, "requirePose", "(III)I"⟩
abbrev cX11_requirePlan : ByteArray := prog_1_method_29_code
def yX11_requirePlan : MethodName := ⟨RX11, "requirePlan", "(I)LSwervewright$Route;"⟩
abbrev cX11_requirePlanPose : ByteArray := prog_1_method_30_code
def yX11_requirePlanPose : MethodName := ⟨RX11, "requirePlanPose", "(LSwervewright$Route;I)I"⟩
abbrev cX11_requireRecording : ByteArray := prog_1_method_31_code
def yX11_requireRecording : MethodName := ⟨RX11, "requireRecording", "()V"⟩
abbrev cX11_requireRoomForPlan : ByteArray := prog_1_method_32_code
def yX11_requireRoomForPlan : MethodName := ⟨RX11, "requireRoomForPlan", "()V"⟩
abbrev cX11_addPlan : ByteArray := prog_1_method_33_code
def yX11_addPlan : MethodName := ⟨RX11, "addPlan", "(LSwervewright$Route;)I"⟩
def RX12 : String := "SwervewrightModel"
def TX12 : u_T := fun k => match k with
  | _ => ("", "", "", false)
def tyX12 : Nat → FieldType := fun k => match k with
  | _ => .int
abbrev wsX120 : List Cond := u_ws RX12 TX12 0
theorem nmX12 : ∀ a, a < 0 → ∀ b, b < 0 → a ≠ b → (TX12 a).2.1 ≠ (TX12 b).2.1 := by decide +kernel
theorem tyX12_ok : ∀ k, k < 0 → parseFieldDescriptor (TX12 k).2.2.1 = some (tyX12 k) := by decide +kernel
def RJx145de : String := "java/io/Serializable"
def TJx145de : u_T := fun k => match k with
  | _ => ("", "", "", false)
def tyJx145de : Nat → FieldType := fun k => match k with
  | _ => .int
abbrev wsJx145de0 : List Cond := u_ws RJx145de TJx145de 0
theorem nmJx145de : ∀ a, a < 0 → ∀ b, b < 0 → a ≠ b → (TJx145de a).2.1 ≠ (TJx145de b).2.1 := by decide +kernel
theorem tyJx145de_ok : ∀ k, k < 0 → parseFieldDescriptor (TJx145de k).2.2.1 = some (tyJx145de k) := by decide +kernel
def RJx8e188 : String := "java/lang/Cloneable"
def TJx8e188 : u_T := fun k => match k with
  | _ => ("", "", "", false)
def tyJx8e188 : Nat → FieldType := fun k => match k with
  | _ => .int
abbrev wsJx8e1880 : List Cond := u_ws RJx8e188 TJx8e188 0
theorem nmJx8e188 : ∀ a, a < 0 → ∀ b, b < 0 → a ≠ b → (TJx8e188 a).2.1 ≠ (TJx8e188 b).2.1 := by decide +kernel
theorem tyJx8e188_ok : ∀ k, k < 0 → parseFieldDescriptor (TJx8e188 k).2.2.1 = some (tyJx8e188 k) := by decide +kernel
def RJ9 : String := "java/lang/Math"
def TJ9 : u_T := fun k => match k with
  | _ => ("", "", "", false)
def tyJ9 : Nat → FieldType := fun k => match k with
  | _ => .int
abbrev wsJ90 : List Cond := u_ws RJ9 TJ9 0
theorem nmJ9 : ∀ a, a < 0 → ∀ b, b < 0 → a ≠ b → (TJ9 a).2.1 ≠ (TJ9 b).2.1 := by decide +kernel
theorem tyJ9_ok : ∀ k, k < 0 → parseFieldDescriptor (TJ9 k).2.2.1 = some (tyJ9 k) := by decide +kernel
abbrev cJ9_abs_0f7a4 : ByteArray := prog_20_method_59_code
def yJ9_abs_0f7a4 : MethodName := ⟨RJ9, "abs", "(I)I"⟩
abbrev cJ9_max_7cf53 : ByteArray := prog_20_method_65_code
def yJ9_max_7cf53 : MethodName := ⟨RJ9, "max", "(II)I"⟩
abbrev cJ9_min_7cf53 : ByteArray := prog_20_method_69_code
def yJ9_min_7cf53 : MethodName := ⟨RJ9, "min", "(II)I"⟩
def RJ0 : String := "java/lang/String"
def TJ0 : u_T := fun k => match k with
  | _ => ("", "", "", false)
def tyJ0 : Nat → FieldType := fun k => match k with
  | _ => .int
abbrev wsJ00 : List Cond := u_ws RJ0 TJ0 0
theorem nmJ0 : ∀ a, a < 0 → ∀ b, b < 0 → a ≠ b → (TJ0 a).2.1 ≠ (TJ0 b).2.1 := by decide +kernel
theorem tyJ0_ok : ∀ k, k < 0 → parseFieldDescriptor (TJ0 k).2.2.1 = some (tyJ0 k) := by decide +kernel
def RJ10 : String := "java/lang/System"
def TJ10 : u_T := fun k => match k with
  | _ => ("", "", "", false)
def tyJ10 : Nat → FieldType := fun k => match k with
  | _ => .int
abbrev wsJ100 : List Cond := u_ws RJ10 TJ10 0
theorem nmJ10 : ∀ a, a < 0 → ∀ b, b < 0 → a ≠ b → (TJ10 a).2.1 ≠ (TJ10 b).2.1 := by decide +kernel
theorem tyJ10_ok : ∀ k, k < 0 → parseFieldDescriptor (TJ10 k).2.2.1 = some (tyJ10 k) := by decide +kernel
def RJ7 : String := "java/util/Arrays"
def TJ7 : u_T := fun k => match k with
  | _ => ("", "", "", false)
def tyJ7 : Nat → FieldType := fun k => match k with
  | _ => .int
abbrev wsJ70 : List Cond := u_ws RJ7 TJ7 0
theorem nmJ7 : ∀ a, a < 0 → ∀ b, b < 0 → a ≠ b → (TJ7 a).2.1 ≠ (TJ7 b).2.1 := by decide +kernel
theorem tyJ7_ok : ∀ k, k < 0 → parseFieldDescriptor (TJ7 k).2.2.1 = some (tyJ7 k) := by decide +kernel
abbrev cJ7_fill_53178 : ByteArray := prog_25_method_103_code
def yJ7_fill_53178 : MethodName := ⟨RJ7, "fill", "([II)V"⟩
abbrev cJ7_copyOf_59c91 : ByteArray := prog_25_method_123_code
def yJ7_copyOf_59c91 : MethodName := ⟨RJ7, "copyOf", "([II)[I"⟩
def RL : String := "SwervewrightLaw"
abbrev cL_at : ByteArray := method_2_code
def yL_at : MethodName := ⟨RL, "at", "([II)I"⟩
abbrev cL_low : ByteArray := method_3_code
def yL_low : MethodName := ⟨RL, "low", "(II)I"⟩
abbrev cL_corner : ByteArray := method_4_code
def yL_corner : MethodName := ⟨RL, "corner", "(LSwervewright;II)I"⟩
abbrev cL_polygon : ByteArray := method_5_code
def yL_polygon : MethodName := ⟨RL, "polygon", "(LSwervewright;)I"⟩
abbrev cL_takeAway : ByteArray := method_6_code
def yL_takeAway : MethodName := ⟨RL, "takeAway", "(LSwervewright;I)I"⟩
abbrev cL_vehicle : ByteArray := method_7_code
def yL_vehicle : MethodName := ⟨RL, "vehicle", "(LSwervewright;II)I"⟩
abbrev cL_cusp : ByteArray := method_8_code
def yL_cusp : MethodName := ⟨RL, "cusp", "(LSwervewright;I)I"⟩
abbrev cL_margin : ByteArray := method_9_code
def yL_margin : MethodName := ⟨RL, "margin", "(LSwervewright;I)I"⟩
abbrev cL_clearance : ByteArray := method_10_code
def yL_clearance : MethodName := ⟨RL, "clearance", "(LSwervewright;II)I"⟩
abbrev cL_isFree : ByteArray := method_11_code
def yL_isFree : MethodName := ⟨RL, "isFree", "(LSwervewright;III)I"⟩
abbrev cL_word : ByteArray := method_12_code
def yL_word : MethodName := ⟨RL, "word", "(LSwervewright;IIIIII)I"⟩
abbrev cL_found : ByteArray := method_13_code
def yL_found : MethodName := ⟨RL, "found", "(LSwervewright;I)I"⟩
abbrev cL_cheapest : ByteArray := method_14_code
def yL_cheapest : MethodName := ⟨RL, "cheapest", "(LSwervewright;IIIIIIZ)I"⟩
abbrev cL_cheapestAnew : ByteArray := method_15_code
def yL_cheapestAnew : MethodName := ⟨RL, "cheapestAnew", "(LSwervewright;IIIIIIZ)I"⟩
abbrev cL_plan : ByteArray := method_16_code
def yL_plan : MethodName := ⟨RL, "plan", "(LSwervewright;IIIIIIZ)I"⟩
abbrev cL_begin : ByteArray := method_17_code
def yL_begin : MethodName := ⟨RL, "begin", "(LSwervewright;III)I"⟩
abbrev cL_drive : ByteArray := method_18_code
def yL_drive : MethodName := ⟨RL, "drive", "(LSwervewright;I)I"⟩
abbrev cL_keep : ByteArray := method_19_code
def yL_keep : MethodName := ⟨RL, "keep", "(LSwervewright;)I"⟩
abbrev cL_shorten : ByteArray := method_20_code
def yL_shorten : MethodName := ⟨RL, "shorten", "(LSwervewright;I)I"⟩
abbrev cL_planOf : ByteArray := method_21_code
def yL_planOf : MethodName := ⟨RL, "planOf", "(LSwervewright;II)I"⟩
abbrev cL_moveOf : ByteArray := method_22_code
def yL_moveOf : MethodName := ⟨RL, "moveOf", "(LSwervewright;II)I"⟩
abbrev cL_poseOf : ByteArray := method_23_code
def yL_poseOf : MethodName := ⟨RL, "poseOf", "(LSwervewright;II)I"⟩
abbrev cL_segment : ByteArray := method_24_code
def yL_segment : MethodName := ⟨RL, "segment", "(LSwervewright;II)I"⟩
abbrev cL_speeds : ByteArray := method_25_code
def yL_speeds : MethodName := ⟨RL, "speeds", "(LSwervewright;IIII)I"⟩
abbrev cL_speed : ByteArray := method_26_code
def yL_speed : MethodName := ⟨RL, "speed", "(LSwervewright;II)F"⟩
abbrev cL_peak : ByteArray := method_27_code
def yL_peak : MethodName := ⟨RL, "peak", "(LSwervewright;I)I"⟩
abbrev cL_told : ByteArray := method_28_code
def yL_told : MethodName := ⟨RL, "told", "(III)I"⟩
abbrev cL_isPlan : ByteArray := method_29_code
def yL_isPlan : MethodName := ⟨RL, "isPlan", "(LSwervewright;III)Z"⟩
abbrev cL_builds : ByteArray := method_30_code
def yL_builds : MethodName := ⟨RL, "builds", "(LSwervewright;[I[III)Z"⟩
abbrev cL_isField : ByteArray := method_31_code
def yL_isField : MethodName := ⟨RL, "isField", "(LSwervewright;I)Z"⟩
abbrev cL_isWord : ByteArray := method_32_code
def yL_isWord : MethodName := ⟨RL, "isWord", "(LSwervewright;II)Z"⟩
abbrev cL_plans : ByteArray := method_33_code
def yL_plans : MethodName := ⟨RL, "plans", "(LSwervewright;[I[III)Z"⟩
abbrev cL_drives : ByteArray := method_34_code
def yL_drives : MethodName := ⟨RL, "drives", "(LSwervewright;[I[III)Z"⟩
abbrev cL_shortens : ByteArray := method_35_code
def yL_shortens : MethodName := ⟨RL, "shortens", "(LSwervewright;[II)Z"⟩
abbrev cL_acts : ByteArray := method_36_code
def yL_acts : MethodName := ⟨RL, "acts", "(LSwervewright;[I[I[III)Z"⟩
abbrev cL_law : ByteArray := code
def yL_law : MethodName := ⟨RL, "law", "([I)Z"⟩
abbrev vwCl : List vw_C := [(RX0, TX0, 2), (RX1, TX1, 7), (RX3, TX3, 5), (RX4, TX4, 3), (RX5, TX5, 3), (RX6, TX6, 6), (RX7, TX7, 3), (RX8, TX8, 4), (RX9, TX9, 4), (RX10, TX10, 6), (RX11, TX11, 11)]
def wsL_law0_r1 : List Cond := [Cond.classLink RL 11 RX11, Cond.instantiable RX11 11, Cond.initialized RX11, Cond.arrayClass .int, Cond.constant RL 32 (-1000001), Cond.methodLink RL 198 yX11_init, Cond.instanceMethod yX11_init, Cond.code yX11_init cX11_init 2 none, Cond.methodLink RX11 3 objectInit, Cond.instanceMethod objectInit, Cond.code objectInit ⟨#[0xb1]⟩ 1 none, Cond.classLink RX11 9 RX0, Cond.instantiable RX0 2, Cond.initialized RX0, Cond.classLink RX11 12 RX1, Cond.instantiable RX1 7, Cond.initialized RX1, Cond.fieldLink RX11 15 "Swervewright" "field" "LSwervewright$Field;", Cond.classLink RX11 19 RX5, Cond.instantiable RX5 3, Cond.initialized RX5, Cond.fieldLink RX11 24 "Swervewright" "prices" "LSwervewright$Prices;", Cond.classLink RX11 28 RX9, Cond.instantiable RX9 4]
def wsL_law0_r2 : List Cond := [Cond.initialized RX9, Cond.fieldLink RX11 33 "Swervewright" "ways" "LSwervewright$Ways;", Cond.classLink RX11 37 RX10, Cond.instantiable RX10 6, Cond.initialized RX10, Cond.fieldLink RX11 42 "Swervewright" "lastWord" "LSwervewright$Word;", Cond.classLink RX11 46 RX8, Cond.instantiable RX8 4, Cond.initialized RX8, Cond.fieldLink RX11 51 "Swervewright" "shortener" "LSwervewright$Shortener;", Cond.classLink RX11 55 RX3, Cond.instantiable RX3 5, Cond.initialized RX3, Cond.fieldLink RX11 58 "Swervewright" "pace" "LSwervewright$Pace;", Cond.classLink RX11 62 RX7, Cond.fieldLink RX11 64 "Swervewright" "plans" "[LSwervewright$Route;", Cond.instantiable RX7 3, Cond.initialized RX7, Cond.fieldLink RX11 69 "Swervewright" "recorded" "LSwervewright$Route;", Cond.classLink RX11 73 RX4, Cond.instantiable RX4 3, Cond.initialized RX4, Cond.fieldLink RX11 76 "Swervewright" "outline" "LSwervewright$Polygon;", Cond.methodLink RX11 11 yX0_init]
def wsL_law0_r3 : List Cond := [Cond.instanceMethod yX0_init, Cond.code yX0_init cX0_init 2 none, Cond.methodLink RX0 3 objectInit, Cond.fieldLink RX0 11 "Swervewright$Arcs" "xs" "[I", Cond.fieldLink RX0 15 "Swervewright$Arcs" "ys" "[I", Cond.methodLink RX0 18 yX0_fill, Cond.instanceMethod yX0_fill, Cond.selects RX0 yX0_fill yX0_fill, Cond.code yX0_fill cX0_fill 8 none, Cond.methodLink RX0 22 yX0_placeOf, Cond.static yX0_placeOf, Cond.code yX0_placeOf cX0_placeOf 3 (some .int), Cond.methodLink RX0 26 yX2_stepX, Cond.static yX2_stepX, Cond.initialized RX2, Cond.code yX2_stepX cX2_stepX 1 (some .int), Cond.fieldLink RX2 11 "Swervewright$Lattice" "STEP_X" "[I", Cond.methodLink RX0 32 yX2_stepY, Cond.static yX2_stepY, Cond.code yX2_stepY cX2_stepY 1 (some .int), Cond.fieldLink RX2 15 "Swervewright$Lattice" "STEP_Y" "[I", Cond.methodLink RX11 14 yX1_init, Cond.instanceMethod yX1_init, Cond.code yX1_init cX1_init 1 none]
def wsL_law0_r4 : List Cond := [Cond.methodLink RX1 3 objectInit, Cond.classLink RX1 9 RX4, Cond.fieldLink RX1 11 "Swervewright$Field" "polygons" "[LSwervewright$Polygon;", Cond.fieldLink RX1 17 "Swervewright$Field" "covers" "[I", Cond.fieldLink RX1 21 "Swervewright$Field" "clears" "[I", Cond.arrayClass .boolean, Cond.fieldLink RX1 24 "Swervewright$Field" "opens" "[Z", Cond.fieldLink RX1 28 "Swervewright$Field" "front" "I", Cond.fieldLink RX1 32 "Swervewright$Field" "behind" "I", Cond.methodLink RX1 35 yX1_survey, Cond.instanceMethod yX1_survey, Cond.selects RX1 yX1_survey yX1_survey, Cond.code yX1_survey cX1_survey 1 none, Cond.methodLink RX1 61 yX1_measureClears, Cond.instanceMethod yX1_measureClears, Cond.selects RX1 yX1_measureClears yX1_measureClears, Cond.code yX1_measureClears cX1_measureClears 2 none, Cond.methodLink RX1 64 yX1_isBlocked, Cond.instanceMethod yX1_isBlocked, Cond.selects RX1 yX1_isBlocked yX1_isBlocked, Cond.code yX1_isBlocked cX1_isBlocked 3 (some .boolean), Cond.methodLink RX1 92 yX2_cellOf, Cond.static yX2_cellOf, Cond.code yX2_cellOf cX2_cellOf 1 (some .int)]
def wsL_law0_r5 : List Cond := [Cond.methodLink RX1 68 yX1_nearTo, Cond.instanceMethod yX1_nearTo, Cond.selects RX1 yX1_nearTo yX1_nearTo, Cond.code yX1_nearTo cX1_nearTo 5 none, Cond.methodLink RX1 79 Lib.Math.min.name, Cond.static Lib.Math.min.name, Cond.initialized "java/lang/Math", Cond.code Lib.Math.min.name Lib.Math.min.code 2 (some .int), Cond.methodLink RX1 45 yX2_xOf, Cond.static yX2_xOf, Cond.code yX2_xOf cX2_xOf 1 (some .int), Cond.methodLink RX1 51 yX2_yOf, Cond.static yX2_yOf, Cond.code yX2_yOf cX2_yOf 1 (some .int), Cond.methodLink RX1 72 yX2_numberOf, Cond.static yX2_numberOf, Cond.code yX2_numberOf cX2_numberOf 5 (some .int), Cond.methodLink RX1 76 yX1_clearOf, Cond.instanceMethod yX1_clearOf, Cond.selects RX1 yX1_clearOf yX1_clearOf, Cond.code yX1_clearOf cX1_clearOf 3 (some .int), Cond.methodLink RX1 58 yX1_judgePoses, Cond.instanceMethod yX1_judgePoses, Cond.selects RX1 yX1_judgePoses yX1_judgePoses]
def wsL_law0_r6 : List Cond := [Cond.code yX1_judgePoses cX1_judgePoses 2 none, Cond.methodLink RX1 85 yX1_isClear, Cond.instanceMethod yX1_isClear, Cond.selects RX1 yX1_isClear yX1_isClear, Cond.code yX1_isClear cX1_isClear 6 (some .boolean), Cond.methodLink RX1 89 yX2_stepped, Cond.static yX2_stepped, Cond.code yX2_stepped cX2_stepped 3 (some .int), Cond.methodLink RX2 22 yX2_headingOf, Cond.static yX2_headingOf, Cond.code yX2_headingOf cX2_headingOf 1 (some .int), Cond.methodLink RX2 26 yX2_xOf, Cond.methodLink RX2 29 yX2_stepX, Cond.methodLink RX2 32 yX2_yOf, Cond.methodLink RX2 35 yX2_stepY, Cond.methodLink RX2 38 yX2_numberOf, Cond.methodLink RX11 21 yX5_init, Cond.instanceMethod yX5_init, Cond.code yX5_init cX5_init 2 none, Cond.methodLink RX5 1 objectInit, Cond.fieldLink RX5 7 "Swervewright$Prices" "cuspCost" "I", Cond.fieldLink RX5 13 "Swervewright$Prices" "field" "LSwervewright$Field;", Cond.methodLink RX11 30 yX9_init, Cond.instanceMethod yX9_init]
def wsL_law0_r7 : List Cond := [Cond.code yX9_init cX9_init 3 none, Cond.methodLink RX9 3 objectInit, Cond.classLink RX9 9 RX6, Cond.instantiable RX6 6, Cond.initialized RX6, Cond.fieldLink RX9 12 "Swervewright$Ways" "queue" "LSwervewright$Queue;", Cond.classLink RX9 18 RX7, Cond.fieldLink RX9 21 "Swervewright$Ways" "traced" "LSwervewright$Route;", Cond.fieldLink RX9 25 "Swervewright$Ways" "field" "LSwervewright$Field;", Cond.fieldLink RX9 29 "Swervewright$Ways" "prices" "LSwervewright$Prices;", Cond.instanceMethod yX6_init, Cond.code yX6_init cX6_init 1 none, Cond.methodLink RX6 3 objectInit, Cond.fieldLink RX6 9 "Swervewright$Queue" "costs" "[I", Cond.fieldLink RX6 15 "Swervewright$Queue" "after" "[I", Cond.fieldLink RX6 18 "Swervewright$Queue" "ahead" "[I", Cond.fieldLink RX6 21 "Swervewright$Queue" "firsts" "[I", Cond.instanceMethod yX7_init, Cond.code yX7_init cX7_init 1 none, Cond.methodLink RX7 3 objectInit, Cond.fieldLink RX7 9 "Swervewright$Route" "poses" "[I", Cond.fieldLink RX7 15 "Swervewright$Route" "moves" "[I", Cond.methodLink RX11 39 yX10_init, Cond.instanceMethod yX10_init]
def wsL_law0_r8 : List Cond := [Cond.code yX10_init cX10_init 2 none, Cond.methodLink RX10 3 objectInit, Cond.fieldLink RX10 9 "Swervewright$Word" "kind" "I", Cond.constant RX10 15 (536870912), Cond.fieldLink RX10 16 "Swervewright$Word" "cost" "I", Cond.fieldLink RX10 19 "Swervewright$Word" "arcs" "LSwervewright$Arcs;", Cond.methodLink RX11 48 yX8_init, Cond.instanceMethod yX8_init, Cond.code yX8_init cX8_init 4 none, Cond.methodLink RX8 3 objectInit, Cond.classLink RX8 9 RX7, Cond.fieldLink RX8 12 "Swervewright$Shortener" "rest" "LSwervewright$Route;", Cond.fieldLink RX8 18 "Swervewright$Shortener" "field" "LSwervewright$Field;", Cond.fieldLink RX8 22 "Swervewright$Shortener" "prices" "LSwervewright$Prices;", Cond.classLink RX8 26 RX10, Cond.fieldLink RX8 31 "Swervewright$Shortener" "word" "LSwervewright$Word;", Cond.methodLink RX8 28 yX10_init, Cond.instanceMethod yX3_init, Cond.code yX3_init cX3_init 1 none, Cond.methodLink RX3 1 objectInit, Cond.fieldLink RX3 7 "Swervewright$Pace" "straight" "I", Cond.fieldLink RX3 13 "Swervewright$Pace" "arc" "I", Cond.fieldLink RX3 16 "Swervewright$Pace" "faster" "I", Cond.fieldLink RX3 19 "Swervewright$Pace" "slower" "I"]
def wsL_law0_r9 : List Cond := [Cond.arrayClass .float, Cond.fieldLink RX3 22 "Swervewright$Pace" "squares" "[F", Cond.instanceMethod yX4_init, Cond.code yX4_init cX4_init 1 none, Cond.methodLink RX4 3 objectInit, Cond.fieldLink RX4 9 "Swervewright$Polygon" "xs" "[I", Cond.fieldLink RX4 15 "Swervewright$Polygon" "ys" "[I", Cond.methodLink RL 104 yL_planOf, Cond.static yL_planOf, Cond.initialized RL, Cond.codeWith yL_planOf cL_planOf 4 (some .int) [(0, 6, 7, 30), (0, 6, 11, 16)], Cond.classLink RL 30 "java/lang/IndexOutOfBoundsException", Cond.constant RL 18 (-1000002), Cond.methodLink RL 80 yX11_planOf, Cond.instanceMethod yX11_planOf, Cond.selects RX11 yX11_planOf yX11_planOf, Cond.code yX11_planOf cX11_planOf 4 (some .int), Cond.classLink RX11 84 "java/lang/IllegalArgumentException", Cond.initialized "java/lang/IllegalArgumentException", Cond.methodLink RX11 216 yX11_requirePlan, Cond.instanceMethod yX11_requirePlan, Cond.selects RX11 yX11_requirePlan yX11_requirePlan, Cond.code yX11_requirePlan cX11_requirePlan 3 (some (.object "Swervewright$Route")), Cond.classLink RX11 117 "java/lang/IndexOutOfBoundsException"]
def wsL_law0_r10 : List Cond := [Cond.initialized "java/lang/IndexOutOfBoundsException", Cond.methodLink RX11 203 yX7_count, Cond.instanceMethod yX7_count, Cond.selects RX7 yX7_count yX7_count, Cond.code yX7_count cX7_count 1 (some .int), Cond.fieldLink RX7 18 "Swervewright$Route" "count" "I", Cond.methodLink RX11 229 yX5_costOf, Cond.instanceMethod yX5_costOf, Cond.selects RX5 yX5_costOf yX5_costOf, Cond.code yX5_costOf cX5_costOf 2 (some .int), Cond.methodLink RX5 44 yX7_count, Cond.methodLink RX5 50 yX5_between, Cond.instanceMethod yX5_between, Cond.selects RX5 yX5_between yX5_between, Cond.code yX5_between cX5_between 7 (some .int), Cond.methodLink RX5 54 yX7_moveAt, Cond.instanceMethod yX7_moveAt, Cond.selects RX7 yX7_moveAt yX7_moveAt, Cond.code yX7_moveAt cX7_moveAt 2 (some .int), Cond.methodLink RX5 57 yX5_turnaround, Cond.instanceMethod yX5_turnaround, Cond.selects RX5 yX5_turnaround yX5_turnaround, Cond.code yX5_turnaround cX5_turnaround 3 (some .int), Cond.methodLink RX5 20 yX2_isCusp]
def wsL_law0_r11 : List Cond := [Cond.static yX2_isCusp, Cond.code yX2_isCusp cX2_isCusp 2 (some .boolean), Cond.methodLink RX2 18 yX2_isBack, Cond.static yX2_isBack, Cond.code yX2_isBack cX2_isBack 1 (some .boolean), Cond.methodLink RX5 60 yX7_poseAt, Cond.instanceMethod yX7_poseAt, Cond.selects RX7 yX7_poseAt yX7_poseAt, Cond.code yX7_poseAt cX7_poseAt 2 (some .int), Cond.methodLink RX5 63 yX5_ofMove, Cond.instanceMethod yX5_ofMove, Cond.selects RX5 yX5_ofMove yX5_ofMove, Cond.code yX5_ofMove cX5_ofMove 5 (some .int), Cond.fieldLink RX5 17 "Swervewright$Prices" "marginCells" "I", Cond.methodLink RX5 32 Lib.Math.max.name, Cond.static Lib.Math.max.name, Cond.code Lib.Math.max.name Lib.Math.max.code 2 (some .int), Cond.methodLink RX5 26 yX1_clearOf, Cond.methodLink RX5 38 yX2_headingOf, Cond.methodLink RX5 41 yX2_stepsCost, Cond.static yX2_stepsCost, Cond.code yX2_stepsCost cX2_stepsCost 2 (some .int), Cond.methodLink RX2 55 yX2_isArc, Cond.static yX2_isArc]
def wsL_law0_r12 : List Cond := [Cond.code yX2_isArc cX2_isArc 1 (some .boolean), Cond.methodLink RX2 61 yX2_isEven, Cond.static yX2_isEven, Cond.code yX2_isEven cX2_isEven 1 (some .boolean), Cond.methodLink RX11 232 yX7_cuspCount, Cond.instanceMethod yX7_cuspCount, Cond.selects RX7 yX7_cuspCount yX7_cuspCount, Cond.code yX7_cuspCount cX7_cuspCount 3 (some .int), Cond.methodLink RX7 61 yX7_isCuspAt, Cond.instanceMethod yX7_isCuspAt, Cond.selects RX7 yX7_isCuspAt yX7_isCuspAt, Cond.code yX7_isCuspAt cX7_isCuspAt 2 (some .boolean), Cond.methodLink RX7 48 yX7_moveAt, Cond.methodLink RX7 55 yX2_isCusp, Cond.methodLink RX11 235 yX7_segmentCount, Cond.instanceMethod yX7_segmentCount, Cond.selects RX7 yX7_segmentCount yX7_segmentCount, Cond.code yX7_segmentCount cX7_segmentCount 3 (some .int), Cond.methodLink RX11 220 yX1_canDrive, Cond.instanceMethod yX1_canDrive, Cond.selects RX1 yX1_canDrive yX1_canDrive, Cond.code yX1_canDrive cX1_canDrive 4 (some .boolean), Cond.methodLink RX1 107 yX7_poseAt, Cond.methodLink RX1 112 yX7_count]
def wsL_law0_r13 : List Cond := [Cond.methodLink RX1 116 yX7_moveAt, Cond.methodLink RX1 119 yX1_driven, Cond.instanceMethod yX1_driven, Cond.selects RX1 yX1_driven yX1_driven, Cond.code yX1_driven cX1_driven 7 (some .int), Cond.methodLink RX1 95 yX2_wayOf, Cond.static yX2_wayOf, Cond.code yX2_wayOf cX2_wayOf 1 (some .int), Cond.methodLink RX1 98 yX1_isOpen, Cond.instanceMethod yX1_isOpen, Cond.selects RX1 yX1_isOpen yX1_isOpen, Cond.code yX1_isOpen cX1_isOpen 2 (some .boolean), Cond.methodLink RX1 101 yX2_isArc, Cond.methodLink RX1 104 yX2_turned, Cond.static yX2_turned, Cond.code yX2_turned cX2_turned 3 (some .int), Cond.methodLink RX2 42 yX2_wayOf, Cond.methodLink RX2 45 yX2_turnOf, Cond.static yX2_turnOf, Cond.code yX2_turnOf cX2_turnOf 1 (some .int), Cond.methodLink RX2 48 yX2_cellOf, Cond.methodLink RL 199 yL_at, Cond.static yL_at, Cond.code yL_at cL_at 2 (some .int)]
def wsL_law0_r14 : List Cond := [Cond.constant RL 7 (1877201349), Cond.constant RL 8 (735570417), Cond.methodLink RL 203 yL_acts, Cond.static yL_acts, Cond.code yL_acts cL_acts 9 (some .boolean), Cond.methodLink RL 121 yL_low, Cond.static yL_low, Cond.code yL_low cL_low 2 (some .int), Cond.constant RL 9 (2147483647), Cond.methodLink RL 167 yL_builds, Cond.static yL_builds, Cond.code yL_builds cL_builds 9 (some .boolean), Cond.constant RL 21 (-1000003), Cond.methodLink RL 124 yL_takeAway, Cond.static yL_takeAway, Cond.codeWith yL_takeAway cL_takeAway 3 (some .int) [(0, 5, 6, 30), (0, 5, 10, 19)], Cond.methodLink RL 26 yX11_takeAway, Cond.instanceMethod yX11_takeAway, Cond.selects RX11 yX11_takeAway yX11_takeAway, Cond.code yX11_takeAway cX11_takeAway 2 (some .int), Cond.classLink RX11 95 "java/lang/IllegalStateException", Cond.initialized "java/lang/IllegalStateException", Cond.methodLink RX11 106 yX1_polygonCount, Cond.instanceMethod yX1_polygonCount]
def wsL_law0_r15 : List Cond := [Cond.selects RX1 yX1_polygonCount yX1_polygonCount, Cond.code yX1_polygonCount cX1_polygonCount 1 (some .int), Cond.fieldLink RX1 38 "Swervewright$Field" "polygonCount" "I", Cond.methodLink RX11 80 yX11_isOutside, Cond.static yX11_isOutside, Cond.code yX11_isOutside cX11_isOutside 3 (some .boolean), Cond.methodLink RX11 122 yX1_isGone, Cond.instanceMethod yX1_isGone, Cond.selects RX1 yX1_isGone yX1_isGone, Cond.code yX1_isGone cX1_isGone 2 (some .boolean), Cond.methodLink RX11 128 yX1_remove, Cond.instanceMethod yX1_remove, Cond.selects RX1 yX1_remove yX1_remove, Cond.code yX1_remove cX1_remove 4 (some .int), Cond.methodLink RX1 41 yX1_cover, Cond.instanceMethod yX1_cover, Cond.selects RX1 yX1_cover yX1_cover, Cond.code yX1_cover cX1_cover 5 (some .int), Cond.methodLink RX1 54 yX4_blocks, Cond.instanceMethod yX4_blocks, Cond.selects RX4 yX4_blocks yX4_blocks, Cond.code yX4_blocks cX4_blocks 7 (some .boolean), Cond.fieldLink RX4 18 "Swervewright$Polygon" "count" "I", Cond.methodLink RX4 22 yX4_yAt]
def wsL_law0_r16 : List Cond := [Cond.instanceMethod yX4_yAt, Cond.selects RX4 yX4_yAt yX4_yAt, Cond.code yX4_yAt cX4_yAt 2 (some .int), Cond.methodLink RX4 26 yX4_isCrossed, Cond.instanceMethod yX4_isCrossed, Cond.selects RX4 yX4_isCrossed yX4_isCrossed, Cond.code yX4_isCrossed cX4_isCrossed 9 (some .boolean), Cond.methodLink RX4 30 yX4_xAt, Cond.instanceMethod yX4_xAt, Cond.selects RX4 yX4_xAt yX4_xAt, Cond.code yX4_xAt cX4_xAt 2 (some .int), Cond.methodLink RL 126 yL_corner, Cond.static yL_corner, Cond.codeWith yL_corner cL_corner 4 (some .int) [(0, 6, 7, 16), (0, 6, 11, 19)], Cond.classLink RL 16 "java/lang/IllegalArgumentException", Cond.methodLink RL 10 yX11_corner, Cond.instanceMethod yX11_corner, Cond.selects RX11 yX11_corner yX11_corner, Cond.code yX11_corner cX11_corner 3 (some .int), Cond.methodLink RX11 91 yX4_count, Cond.instanceMethod yX4_count, Cond.selects RX4 yX4_count yX4_count, Cond.code yX4_count cX4_count 1 (some .int), Cond.methodLink RX11 100 yX4_add]
def wsL_law0_r17 : List Cond := [Cond.instanceMethod yX4_add, Cond.selects RX4 yX4_add yX4_add, Cond.code yX4_add cX4_add 3 none, Cond.methodLink RL 128 yL_polygon, Cond.static yL_polygon, Cond.codeWith yL_polygon cL_polygon 2 (some .int) [(0, 4, 5, 19)], Cond.classLink RL 19 "java/lang/IllegalStateException", Cond.methodLink RL 22 yX11_polygon, Cond.instanceMethod yX11_polygon, Cond.selects RX11 yX11_polygon yX11_polygon, Cond.code yX11_polygon cX11_polygon 2 (some .int), Cond.methodLink RX11 111 yX1_add, Cond.instanceMethod yX1_add, Cond.selects RX1 yX1_add yX1_add, Cond.code yX1_add cX1_add 3 (some .int), Cond.methodLink RL 131 yX11_forget, Cond.instanceMethod yX11_forget, Cond.selects RX11 yX11_forget yX11_forget, Cond.code yX11_forget cX11_forget 2 (some .int), Cond.methodLink RX11 114 yX4_clear, Cond.instanceMethod yX4_clear, Cond.selects RX4 yX4_clear yX4_clear, Cond.code yX4_clear cX4_clear 1 none, Cond.methodLink RL 171 yL_vehicle]
def wsL_law0_r18 : List Cond := [Cond.static yL_vehicle, Cond.codeWith yL_vehicle cL_vehicle 4 (some .int) [(0, 7, 8, 16)], Cond.methodLink RL 33 yX11_vehicle, Cond.instanceMethod yX11_vehicle, Cond.selects RX11 yX11_vehicle yX11_vehicle, Cond.code yX11_vehicle cX11_vehicle 3 none, Cond.methodLink RX11 134 yX1_setVehicle, Cond.instanceMethod yX1_setVehicle, Cond.selects RX1 yX1_setVehicle yX1_setVehicle, Cond.code yX1_setVehicle cX1_setVehicle 3 none, Cond.methodLink RL 173 yL_margin, Cond.static yL_margin, Cond.codeWith yL_margin cL_margin 3 (some .int) [(0, 5, 6, 16)], Cond.methodLink RL 40 yX11_margin, Cond.instanceMethod yX11_margin, Cond.selects RX11 yX11_margin yX11_margin, Cond.code yX11_margin cX11_margin 2 (some .int), Cond.methodLink RX11 144 yX5_setMarginCells, Cond.instanceMethod yX5_setMarginCells, Cond.selects RX5 yX5_setMarginCells yX5_setMarginCells, Cond.code yX5_setMarginCells cX5_setMarginCells 3 (some .int), Cond.methodLink RL 175 yL_cusp, Cond.static yL_cusp, Cond.codeWith yL_cusp cL_cusp 3 (some .int) [(0, 5, 6, 16)]]
def wsL_law0_r19 : List Cond := [Cond.methodLink RL 37 yX11_cusp, Cond.instanceMethod yX11_cusp, Cond.selects RX11 yX11_cusp yX11_cusp, Cond.code yX11_cusp cX11_cusp 2 (some .int), Cond.methodLink RX11 139 yX5_setCuspCost, Cond.instanceMethod yX5_setCuspCost, Cond.selects RX5 yX5_setCuspCost yX5_setCuspCost, Cond.code yX5_setCuspCost cX5_setCuspCost 3 (some .int), Cond.methodLink RL 177 yL_speeds, Cond.static yL_speeds, Cond.codeWith yL_speeds cL_speeds 6 (some .int) [(0, 10, 11, 16)], Cond.methodLink RL 92 yX11_speeds, Cond.instanceMethod yX11_speeds, Cond.selects RX11 yX11_speeds yX11_speeds, Cond.code yX11_speeds cX11_speeds 5 none, Cond.methodLink RX11 267 yX3_set, Cond.instanceMethod yX3_set, Cond.selects RX3 yX3_set yX3_set, Cond.code yX3_set cX3_set 5 none, Cond.methodLink RL 180 yL_plans, Cond.static yL_plans, Cond.code yL_plans cL_plans 16 (some .boolean), Cond.methodLink RL 144 yL_cheapest, Cond.static yL_cheapest]
def wsL_law0_r20 : List Cond := [Cond.codeWith yL_cheapest cL_cheapest 9 (some .int) [(0, 15, 16, 30)], Cond.methodLink RL 57 yX11_cheapest, Cond.instanceMethod yX11_cheapest, Cond.selects RX11 yX11_cheapest yX11_cheapest, Cond.code yX11_cheapest cX11_cheapest 10 (some .int), Cond.methodLink RX11 147 yX11_requirePose, Cond.static yX11_requirePose, Cond.code yX11_requirePose cX11_requirePose 4 (some .int), Cond.methodLink RX11 283 yX2_numberOf, Cond.methodLink RX11 168 yX9_costFromEnd, Cond.instanceMethod yX9_costFromEnd, Cond.selects RX9 yX9_costFromEnd yX9_costFromEnd, Cond.code yX9_costFromEnd cX9_costFromEnd 4 (some .int), Cond.methodLink RX9 33 yX9_searched, Cond.instanceMethod yX9_searched, Cond.selects RX9 yX9_searched yX9_searched, Cond.code yX9_searched cX9_searched 9 (some .int), Cond.methodLink RX9 37 yX1_isOpen, Cond.methodLink RX9 43 yX6_clear, Cond.instanceMethod yX6_clear, Cond.selects RX6 yX6_clear yX6_clear, Cond.code yX6_clear cX6_clear 1 none, Cond.constant RX6 24 (536870912), Cond.fieldLink RX6 31 "Swervewright$Queue" "waiting" "I"]
def wsL_law0_r21 : List Cond := [Cond.fieldLink RX6 35 "Swervewright$Queue" "level" "I", Cond.methodLink RX6 25 yJ7_fill_53178, Cond.static yJ7_fill_53178, Cond.initialized RJ7, Cond.code yJ7_fill_53178 cJ7_fill_53178 4 none, Cond.methodLink RX9 46 yX9_stateOf, Cond.static yX9_stateOf, Cond.code yX9_stateOf cX9_stateOf 2 (some .int), Cond.methodLink RX9 50 yX6_lower, Cond.instanceMethod yX6_lower, Cond.selects RX6 yX6_lower yX6_lower, Cond.code yX6_lower cX6_lower 3 none, Cond.methodLink RX6 38 yX6_isState, Cond.instanceMethod yX6_isState, Cond.selects RX6 yX6_isState yX6_isState, Cond.code yX6_isState cX6_isState 2 (some .boolean), Cond.methodLink RX6 42 yX6_unlink, Cond.instanceMethod yX6_unlink, Cond.selects RX6 yX6_unlink yX6_unlink, Cond.code yX6_unlink cX6_unlink 4 none, Cond.methodLink RX6 46 yX6_link, Cond.instanceMethod yX6_link, Cond.selects RX6 yX6_link yX6_link, Cond.code yX6_link cX6_link 4 none]
def wsL_law0_r22 : List Cond := [Cond.methodLink RX9 54 yX6_take, Cond.instanceMethod yX6_take, Cond.selects RX6 yX6_take yX6_take, Cond.code yX6_take cX6_take 3 (some .int), Cond.methodLink RX9 58 yX6_costOf, Cond.instanceMethod yX6_costOf, Cond.selects RX6 yX6_costOf yX6_costOf, Cond.code yX6_costOf cX6_costOf 2 (some .int), Cond.methodLink RX9 62 yX9_spreadAgainst, Cond.instanceMethod yX9_spreadAgainst, Cond.selects RX9 yX9_spreadAgainst yX9_spreadAgainst, Cond.code yX9_spreadAgainst cX9_spreadAgainst 9 none, Cond.methodLink RX9 87 yX2_oppositeOf, Cond.static yX2_oppositeOf, Cond.code yX2_oppositeOf cX2_oppositeOf 1 (some .int), Cond.methodLink RX9 69 yX1_driven, Cond.methodLink RX9 83 yX5_ofMove, Cond.methodLink RX9 78 yX5_cuspCost, Cond.instanceMethod yX5_cuspCost, Cond.selects RX5 yX5_cuspCost yX5_cuspCost, Cond.code yX5_cuspCost cX5_cuspCost 1 (some .int), Cond.methodLink RX9 66 yX9_spreadAlong, Cond.instanceMethod yX9_spreadAlong, Cond.selects RX9 yX9_spreadAlong yX9_spreadAlong]
def wsL_law0_r23 : List Cond := [Cond.code yX9_spreadAlong cX9_spreadAlong 10 none, Cond.methodLink RX9 73 yX2_isBack, Cond.methodLink RL 147 yL_cheapestAnew, Cond.static yL_cheapestAnew, Cond.codeWith yL_cheapestAnew cL_cheapestAnew 9 (some .int) [(0, 15, 16, 30)], Cond.methodLink RL 61 yX11_cheapestAnew, Cond.instanceMethod yX11_cheapestAnew, Cond.selects RX11 yX11_cheapestAnew yX11_cheapestAnew, Cond.code yX11_cheapestAnew cX11_cheapestAnew 10 (some .int), Cond.methodLink RX11 172 yX9_costFromStart, Cond.instanceMethod yX9_costFromStart, Cond.selects RX9 yX9_costFromStart yX9_costFromStart, Cond.code yX9_costFromStart cX9_costFromStart 4 (some .int), Cond.methodLink RL 139 yL_word, Cond.static yL_word, Cond.codeWith yL_word cL_word 8 (some .int) [(0, 13, 14, 30)], Cond.methodLink RL 50 yX11_word, Cond.instanceMethod yX11_word, Cond.selects RX11 yX11_word yX11_word, Cond.code yX11_word cX11_word 9 (some .int), Cond.methodLink RX11 157 yX10_find, Cond.instanceMethod yX10_find, Cond.selects RX10 yX10_find yX10_find, Cond.code yX10_find cX10_find 5 none]
def wsL_law0_r24 : List Cond := [Cond.methodLink RX10 54 yX10_tryStraights, Cond.instanceMethod yX10_tryStraights, Cond.selects RX10 yX10_tryStraights yX10_tryStraights, Cond.code yX10_tryStraights cX10_tryStraights 14 none, Cond.methodLink RX10 85 Lib.Math.abs.name, Cond.static Lib.Math.abs.name, Cond.code Lib.Math.abs.name Lib.Math.abs.code 1 (some .int), Cond.methodLink RX10 90 Lib.Math.max.name, Cond.methodLink RX10 61 yX2_headingOf, Cond.methodLink RX10 42 yX10_firstMove, Cond.static yX10_firstMove, Cond.code yX10_firstMove cX10_firstMove 1 (some .int), Cond.fieldLink RX10 23 "Swervewright$Word" "FIRST" "[I", Cond.methodLink RX10 64 yX2_turnOf, Cond.methodLink RX10 49 yX10_thirdMove, Cond.static yX10_thirdMove, Cond.code yX10_thirdMove cX10_thirdMove 1 (some .int), Cond.fieldLink RX10 30 "Swervewright$Word" "THIRD" "[I", Cond.methodLink RX10 67 yX10_arcsBetween, Cond.static yX10_arcsBetween, Cond.code yX10_arcsBetween cX10_arcsBetween 3 (some .int), Cond.methodLink RX10 71 yX2_xOf, Cond.methodLink RX10 74 yX0_x, Cond.instanceMethod yX0_x]
def wsL_law0_r25 : List Cond := [Cond.selects RX0 yX0_x yX0_x, Cond.code yX0_x cX0_x 5 (some .int), Cond.methodLink RX10 79 yX2_yOf, Cond.methodLink RX10 82 yX0_y, Cond.instanceMethod yX0_y, Cond.selects RX0 yX0_y yX0_y, Cond.code yX0_y cX0_y 5 (some .int), Cond.methodLink RX10 94 yX2_stepX, Cond.methodLink RX10 97 yX2_stepY, Cond.methodLink RX10 100 yX2_stepsCost, Cond.methodLink RX10 103 yX10_offer, Cond.instanceMethod yX10_offer, Cond.selects RX10 yX10_offer yX10_offer, Cond.code yX10_offer cX10_offer 6 none, Cond.fieldLink RX10 33 "Swervewright$Word" "first" "I", Cond.fieldLink RX10 36 "Swervewright$Word" "second" "I", Cond.fieldLink RX10 39 "Swervewright$Word" "third" "I", Cond.methodLink RX10 58 yX10_tryArcs, Cond.instanceMethod yX10_tryArcs, Cond.selects RX10 yX10_tryArcs yX10_tryArcs, Cond.code yX10_tryArcs cX10_tryArcs 13 none, Cond.methodLink RX11 160 yX10_costOrNone, Cond.instanceMethod yX10_costOrNone, Cond.selects RX10 yX10_costOrNone yX10_costOrNone]
def wsL_law0_r26 : List Cond := [Cond.code yX10_costOrNone cX10_costOrNone 1 (some .int), Cond.methodLink RL 149 yL_plan, Cond.static yL_plan, Cond.codeWith yL_plan cL_plan 9 (some .int) [(0, 15, 16, 30), (0, 15, 21, 19)], Cond.methodLink RL 64 yX11_plan, Cond.instanceMethod yX11_plan, Cond.selects RX11 yX11_plan yX11_plan, Cond.code yX11_plan cX11_plan 10 (some .int), Cond.methodLink RX11 175 yX11_requireRoomForPlan, Cond.instanceMethod yX11_requireRoomForPlan, Cond.selects RX11 yX11_requireRoomForPlan yX11_requireRoomForPlan, Cond.code yX11_requireRoomForPlan cX11_requireRoomForPlan 1 none, Cond.fieldLink RX11 297 "Swervewright" "planCount" "I", Cond.methodLink RX11 180 yX9_trace, Cond.instanceMethod yX9_trace, Cond.selects RX9 yX9_trace yX9_trace, Cond.code yX9_trace cX9_trace 8 (some (.object "Swervewright$Route")), Cond.methodLink RX9 94 Lib.Math.min.name, Cond.methodLink RX9 90 yX7_restart, Cond.instanceMethod yX7_restart, Cond.selects RX7 yX7_restart yX7_restart, Cond.code yX7_restart cX7_restart 2 none, Cond.methodLink RX9 99 yX7_lastPose, Cond.instanceMethod yX7_lastPose]
def wsL_law0_r27 : List Cond := [Cond.selects RX7 yX7_lastPose yX7_lastPose, Cond.code yX7_lastPose cX7_lastPose 1 (some .int), Cond.methodLink RX7 33 yX7_poseAt, Cond.methodLink RX9 102 yX9_lowestMove, Cond.instanceMethod yX9_lowestMove, Cond.selects RX9 yX9_lowestMove yX9_lowestMove, Cond.code yX9_lowestMove cX9_lowestMove 8 (some .int), Cond.methodLink RX9 111 yX7_lastMove, Cond.instanceMethod yX7_lastMove, Cond.selects RX7 yX7_lastMove yX7_lastMove, Cond.code yX7_lastMove cX7_lastMove 1 (some .int), Cond.methodLink RX9 114 yX5_turnaround, Cond.methodLink RX9 105 yX2_ended, Cond.static yX2_ended, Cond.code yX2_ended cX2_ended 3 (some .int), Cond.methodLink RX2 51 yX2_stepped, Cond.methodLink RX2 58 yX2_turned, Cond.methodLink RX9 108 yX7_add, Cond.instanceMethod yX7_add, Cond.selects RX7 yX7_add yX7_add, Cond.code yX7_add cX7_add 3 none, Cond.methodLink RX7 22 yX7_grow, Cond.instanceMethod yX7_grow, Cond.selects RX7 yX7_grow yX7_grow]
def wsL_law0_r28 : List Cond := [Cond.code yX7_grow cX7_grow 1 none, Cond.constant RX7 25 (65536), Cond.methodLink RX7 26 yJ7_copyOf_59c91, Cond.static yJ7_copyOf_59c91, Cond.code yJ7_copyOf_59c91 cJ7_copyOf_59c91 3 (some (.array .int)), Cond.methodLink RJ7 316 ⟨"[I", "clone", "()Ljava/lang/Object;"⟩, Cond.sameMethod "[I" "java/lang/Object" "clone" "()Ljava/lang/Object;", Cond.native ⟨"java/lang/Object", "clone", "()Ljava/lang/Object;"⟩, Cond.instanceMethod ⟨"java/lang/Object", "clone", "()Ljava/lang/Object;"⟩, Cond.selects "[I" ⟨"[I", "clone", "()Ljava/lang/Object;"⟩ ⟨"java/lang/Object", "clone", "()Ljava/lang/Object;"⟩, Cond.classLink RJ7 317 "[I", Cond.methodLink RJ7 304 Lib.Math.min.name, Cond.methodLink RJ7 150 arraycopyName, Cond.native arraycopyName, Cond.static arraycopyName, Cond.initialized "java/lang/System", Cond.methodLink RX11 184 yX11_addPlan, Cond.instanceMethod yX11_addPlan, Cond.selects RX11 yX11_addPlan yX11_addPlan, Cond.code yX11_addPlan cX11_addPlan 3 (some .int), Cond.methodLink RX11 303 yX7_copied, Cond.instanceMethod yX7_copied, Cond.selects RX7 yX7_copied yX7_copied, Cond.code yX7_copied cX7_copied 2 (some (.object "Swervewright$Route"))]
def wsL_law0_r29 : List Cond := [Cond.classLink RX7 10 RX7, Cond.methodLink RX7 32 yX7_init, Cond.methodLink RX7 37 yX7_restart, Cond.methodLink RX7 41 yX7_addFrom, Cond.instanceMethod yX7_addFrom, Cond.selects RX7 yX7_addFrom yX7_addFrom, Cond.code yX7_addFrom cX7_addFrom 5 none, Cond.methodLink RX7 45 yX7_count, Cond.methodLink RX7 51 yX7_add, Cond.methodLink RL 151 yL_told, Cond.static yL_told, Cond.code yL_told cL_told 3 (some .int), Cond.methodLink RL 136 yL_isFree, Cond.static yL_isFree, Cond.codeWith yL_isFree cL_isFree 5 (some .int) [(0, 15, 16, 30)], Cond.methodLink RL 46 yX11_isFree, Cond.instanceMethod yX11_isFree, Cond.selects RX11 yX11_isFree yX11_isFree, Cond.code yX11_isFree cX11_isFree 4 (some .boolean), Cond.methodLink RX11 154 yX1_isOpen, Cond.methodLink RL 155 yL_isPlan, Cond.static yL_isPlan, Cond.code yL_isPlan cL_isPlan 13 (some .boolean), Cond.constantFloat RL 100 (3379831824)]
def wsL_law0_r30 : List Cond := [Cond.methodLink RL 109 yL_poseOf, Cond.static yL_poseOf, Cond.codeWith yL_poseOf cL_poseOf 4 (some .int) [(0, 6, 7, 30)], Cond.methodLink RL 86 yX11_poseOf, Cond.instanceMethod yX11_poseOf, Cond.selects RX11 yX11_poseOf yX11_poseOf, Cond.code yX11_poseOf cX11_poseOf 4 (some .int), Cond.methodLink RX11 243 yX11_requirePlanPose, Cond.static yX11_requirePlanPose, Cond.code yX11_requirePlanPose cX11_requirePlanPose 3 (some .int), Cond.methodLink RX11 290 yX7_poseAt, Cond.methodLink RX11 247 yX2_headingOf, Cond.methodLink RX11 252 yX2_cellOf, Cond.methodLink RL 111 yL_moveOf, Cond.static yL_moveOf, Cond.codeWith yL_moveOf cL_moveOf 4 (some .int) [(0, 6, 7, 30)], Cond.methodLink RL 83 yX11_moveOf, Cond.instanceMethod yX11_moveOf, Cond.selects RX11 yX11_moveOf yX11_moveOf, Cond.code yX11_moveOf cX11_moveOf 4 (some .int), Cond.methodLink RX11 240 yX7_moveAt, Cond.methodLink RL 113 yL_segment, Cond.static yL_segment, Cond.codeWith yL_segment cL_segment 4 (some .int) [(0, 6, 7, 30)]]
def wsL_law0_r31 : List Cond := [Cond.methodLink RL 89 yX11_segment, Cond.instanceMethod yX11_segment, Cond.selects RX11 yX11_segment yX11_segment, Cond.code yX11_segment cX11_segment 5 (some .int), Cond.methodLink RX11 255 yX7_segmentStart, Cond.instanceMethod yX7_segmentStart, Cond.selects RX7 yX7_segmentStart yX7_segmentStart, Cond.code yX7_segmentStart cX7_segmentStart 4 (some .int), Cond.methodLink RX11 260 yX7_alikeFrom, Cond.instanceMethod yX7_alikeFrom, Cond.selects RX7 yX7_alikeFrom yX7_alikeFrom, Cond.code yX7_alikeFrom cX7_alikeFrom 4 (some .int), Cond.methodLink RL 115 yL_speed, Cond.static yL_speed, Cond.codeWith yL_speed cL_speed 4 (some .float) [(0, 6, 7, 30)], Cond.methodLink RL 96 yX11_speed, Cond.instanceMethod yX11_speed, Cond.selects RX11 yX11_speed yX11_speed, Cond.code yX11_speed cX11_speed 4 (some .float), Cond.methodLink RX11 271 yX3_reckon, Cond.instanceMethod yX3_reckon, Cond.selects RX3 yX3_reckon yX3_reckon, Cond.code yX3_reckon cX3_reckon 4 none, Cond.methodLink RX3 26 yX7_count]
def wsL_law0_r32 : List Cond := [Cond.methodLink RX3 32 yX3_isRest, Cond.static yX3_isRest, Cond.code yX3_isRest cX3_isRest 2 (some .boolean), Cond.methodLink RX3 56 yX7_isCuspAt, Cond.methodLink RX3 36 yX3_fromBefore, Cond.instanceMethod yX3_fromBefore, Cond.selects RX3 yX3_fromBefore yX3_fromBefore, Cond.code yX3_fromBefore cX3_fromBefore 4 (some .float), Cond.methodLink RX3 60 yX7_moveAt, Cond.methodLink RX3 64 yX3_limitOf, Cond.instanceMethod yX3_limitOf, Cond.selects RX3 yX3_limitOf yX3_limitOf, Cond.code yX3_limitOf cX3_limitOf 2 (some .float), Cond.methodLink RX3 67 yX2_isArc, Cond.methodLink RX3 52 yX3_lesser, Cond.static yX3_lesser, Cond.code yX3_lesser cX3_lesser 2 (some .float), Cond.methodLink RX3 44 yX3_squareAt, Cond.instanceMethod yX3_squareAt, Cond.selects RX3 yX3_squareAt yX3_squareAt, Cond.code yX3_squareAt cX3_squareAt 2 (some .float), Cond.methodLink RX3 48 yX3_change, Cond.static yX3_change, Cond.code yX3_change cX3_change 3 (some .float)]
def wsL_law0_r33 : List Cond := [Cond.methodLink RX3 72 yX7_poseAt, Cond.methodLink RX3 75 yX3_lengthOf, Cond.static yX3_lengthOf, Cond.code yX3_lengthOf cX3_lengthOf 2 (some .float), Cond.constantFloat RX3 79 (1075479162), Cond.constantFloat RX3 86 (1068827891), Cond.methodLink RX3 80 yX2_headingOf, Cond.methodLink RX3 83 yX2_isEven, Cond.methodLink RX3 40 yX3_put, Cond.instanceMethod yX3_put, Cond.selects RX3 yX3_put yX3_put, Cond.code yX3_put cX3_put 3 none, Cond.methodLink RX11 275 yX3_squareAt, Cond.methodLink RL 118 yL_peak, Cond.static yL_peak, Cond.codeWith yL_peak cL_peak 3 (some .int) [(0, 5, 6, 30)], Cond.methodLink RL 101 yX11_peak, Cond.instanceMethod yX11_peak, Cond.selects RX11 yX11_peak yX11_peak, Cond.code yX11_peak cX11_peak 3 (some .int), Cond.methodLink RX11 279 yX3_greatest, Cond.instanceMethod yX3_greatest, Cond.selects RX3 yX3_greatest yX3_greatest, Cond.code yX3_greatest cX3_greatest 4 (some .float)]
def wsL_law0_r34 : List Cond := [Cond.methodLink RL 183 yL_drives, Cond.static yL_drives, Cond.code yL_drives cL_drives 14 (some .boolean), Cond.methodLink RL 159 yL_begin, Cond.static yL_begin, Cond.codeWith yL_begin cL_begin 5 (some .int) [(0, 8, 9, 30), (0, 8, 14, 19)], Cond.methodLink RL 67 yX11_begin, Cond.instanceMethod yX11_begin, Cond.selects RX11 yX11_begin yX11_begin, Cond.code yX11_begin cX11_begin 5 none, Cond.fieldLink RX11 194 "Swervewright" "isRecording" "Z", Cond.methodLink RX11 190 yX7_restart, Cond.methodLink RL 161 yL_drive, Cond.static yL_drive, Cond.codeWith yL_drive cL_drive 3 (some .int) [(0, 5, 6, 30), (0, 5, 10, 19)], Cond.methodLink RL 71 yX11_drive, Cond.instanceMethod yX11_drive, Cond.selects RX11 yX11_drive yX11_drive, Cond.code yX11_drive cX11_drive 3 (some .int), Cond.methodLink RX11 200 yX11_requireRecording, Cond.instanceMethod yX11_requireRecording, Cond.selects RX11 yX11_requireRecording yX11_requireRecording, Cond.code yX11_requireRecording cX11_requireRecording 1 none, Cond.methodLink RX11 206 yX7_lastPose]
def wsL_law0_r35 : List Cond := [Cond.methodLink RX11 209 yX1_driven, Cond.methodLink RX11 215 yX7_add, Cond.methodLink RL 163 yL_keep, Cond.static yL_keep, Cond.codeWith yL_keep cL_keep 2 (some .int) [(0, 4, 5, 19)], Cond.methodLink RL 74 yX11_keep, Cond.instanceMethod yX11_keep, Cond.selects RX11 yX11_keep yX11_keep, Cond.code yX11_keep cX11_keep 1 (some .int), Cond.methodLink RL 186 yL_isWord, Cond.static yL_isWord, Cond.code yL_isWord cL_isWord 18 (some .boolean), Cond.methodLink RL 142 yL_found, Cond.static yL_found, Cond.codeWith yL_found cL_found 3 (some .int) [(0, 5, 6, 16)], Cond.methodLink RL 54 yX11_found, Cond.instanceMethod yX11_found, Cond.selects RX11 yX11_found yX11_found, Cond.code yX11_found cX11_found 2 (some .int), Cond.methodLink RX11 165 yX10_tell, Cond.instanceMethod yX10_tell, Cond.selects RX10 yX10_tell yX10_tell, Cond.code yX10_tell cX10_tell 2 (some .int), Cond.methodLink RL 190 yL_isField]
def wsL_law0_r36 : List Cond := [Cond.static yL_isField, Cond.code yL_isField cL_isField 8 (some .boolean), Cond.methodLink RL 134 yL_clearance, Cond.static yL_clearance, Cond.codeWith yL_clearance cL_clearance 4 (some .int) [(0, 6, 7, 30)], Cond.methodLink RL 43 yX11_clearance, Cond.instanceMethod yX11_clearance, Cond.selects RX11 yX11_clearance yX11_clearance, Cond.code yX11_clearance cX11_clearance 3 (some .int), Cond.methodLink RX11 151 yX1_clearOf, Cond.methodLink RL 194 yL_shortens, Cond.static yL_shortens, Cond.code yL_shortens cL_shortens 6 (some .boolean), Cond.methodLink RL 165 yL_shorten, Cond.static yL_shorten, Cond.codeWith yL_shorten cL_shorten 3 (some .int) [(0, 5, 6, 30), (0, 5, 10, 19)], Cond.methodLink RL 77 yX11_shorten, Cond.instanceMethod yX11_shorten, Cond.selects RX11 yX11_shorten yX11_shorten, Cond.code yX11_shorten cX11_shorten 3 (some .int), Cond.methodLink RX11 226 yX8_saveOn, Cond.instanceMethod yX8_saveOn, Cond.selects RX8 yX8_saveOn yX8_saveOn, Cond.code yX8_saveOn cX8_saveOn 4 (some .int)]
def wsL_law0_r37 : List Cond := [Cond.constant RX8 41 (1000000), Cond.methodLink RX8 35 yX5_costOf, Cond.methodLink RX8 42 yX7_count, Cond.methodLink RX8 46 yX8_saveFrom, Cond.instanceMethod yX8_saveFrom, Cond.selects RX8 yX8_saveFrom yX8_saveFrom, Cond.code yX8_saveFrom cX8_saveFrom 5 none, Cond.methodLink RX8 50 yX7_poseAt, Cond.methodLink RX8 54 yX10_find, Cond.methodLink RX8 58 yX8_wordBetween, Cond.instanceMethod yX8_wordBetween, Cond.selects RX8 yX8_wordBetween yX8_wordBetween, Cond.code yX8_wordBetween cX8_wordBetween 10 (some .int), Cond.methodLink RX8 69 yX10_costOrNone, Cond.methodLink RX8 72 yX7_moveAt, Cond.methodLink RX8 75 yX10_length, Cond.instanceMethod yX10_length, Cond.selects RX10 yX10_length yX10_length, Cond.code yX10_length cX10_length 1 (some .int), Cond.methodLink RX8 78 yX10_moveAt, Cond.instanceMethod yX10_moveAt, Cond.selects RX10 yX10_moveAt yX10_moveAt, Cond.code yX10_moveAt cX10_moveAt 2 (some .int), Cond.methodLink RX10 46 yX10_secondMove]
def wsL_law0_r38 : List Cond := [Cond.static yX10_secondMove, Cond.code yX10_secondMove cX10_secondMove 1 (some .int), Cond.fieldLink RX10 27 "Swervewright$Word" "SECOND" "[I", Cond.methodLink RX8 79 yX1_driven, Cond.methodLink RX8 85 yX5_ofMove, Cond.methodLink RX8 89 yX5_turnaround, Cond.methodLink RX8 62 yX5_between, Cond.methodLink RX8 65 yX8_put, Cond.instanceMethod yX8_put, Cond.selects RX8 yX8_put yX8_put, Cond.code yX8_put cX8_put 6 none, Cond.methodLink RX8 92 yX7_restart, Cond.methodLink RX8 96 yX7_addFrom, Cond.methodLink RX8 99 yX7_cutAt, Cond.instanceMethod yX7_cutAt, Cond.selects RX7 yX7_cutAt yX7_cutAt, Cond.code yX7_cutAt cX7_cutAt 2 none, Cond.methodLink RX8 102 yX7_lastPose, Cond.methodLink RX8 105 yX2_ended, Cond.methodLink RX8 110 yX7_add]
theorem tb_1 : ∀ w ∈ tables_1_1, w ∈ lw_tbl := fun w h => List.mem_append_right _ (show w ∈ tables_1 from List.mem_append_left _ h)
theorem tb_2 : ∀ w ∈ tables_1_2, w ∈ lw_tbl := fun w h => List.mem_append_right _ (show w ∈ tables_1 from List.mem_append_right _ (List.mem_append_left _ h))
theorem tb_3 : ∀ w ∈ tables_1_3, w ∈ lw_tbl := fun w h => List.mem_append_right _ (show w ∈ tables_1 from List.mem_append_right _ (List.mem_append_right _ (List.mem_append_left _ h)))
theorem tb_4 : ∀ w ∈ tables_1_4, w ∈ lw_tbl := fun w h => List.mem_append_right _ (show w ∈ tables_1 from List.mem_append_right _ (List.mem_append_right _ (List.mem_append_right _ (List.mem_append_left _ h))))
theorem tb_5 : ∀ w ∈ tables_1_5, w ∈ lw_tbl := fun w h => List.mem_append_right _ (show w ∈ tables_1 from List.mem_append_right _ (List.mem_append_right _ (List.mem_append_right _ (List.mem_append_right _ (h)))))
set_option maxRecDepth 20000 in
theorem tr_1 : ∀ w ∈ wsL_law0_r1, w ∈ lw_tbl := List.forall_mem_cons.mpr ⟨tb_1 _ (List.mem_of_getElem? (i := 22) rfl), List.forall_mem_cons.mpr ⟨tb_1 _ (List.mem_of_getElem? (i := 23) rfl), List.forall_mem_cons.mpr ⟨tb_1 _ (List.mem_of_getElem? (i := 1) rfl), List.forall_mem_cons.mpr ⟨tb_1 _ (List.mem_of_getElem? (i := 60) rfl), List.forall_mem_cons.mpr ⟨tb_3 _ (List.mem_of_getElem? (i := 59) rfl), List.forall_mem_cons.mpr ⟨tb_1 _ (List.mem_of_getElem? (i := 24) rfl), List.forall_mem_cons.mpr ⟨tb_1 _ (List.mem_of_getElem? (i := 25) rfl), List.forall_mem_cons.mpr ⟨tb_1 _ (List.mem_of_getElem? (i := 26) rfl), List.forall_mem_cons.mpr ⟨tb_1 _ (List.mem_of_getElem? (i := 27) rfl), List.forall_mem_cons.mpr ⟨tb_1 _ (List.mem_of_getElem? (i := 28) rfl), List.forall_mem_cons.mpr ⟨tb_1 _ (List.mem_of_getElem? (i := 29) rfl), List.forall_mem_cons.mpr ⟨tb_1 _ (List.mem_of_getElem? (i := 30) rfl), List.forall_mem_cons.mpr ⟨tb_1 _ (List.mem_of_getElem? (i := 31) rfl), List.forall_mem_cons.mpr ⟨tb_1 _ (List.mem_of_getElem? (i := 2) rfl), List.forall_mem_cons.mpr ⟨tb_1 _ (List.mem_of_getElem? (i := 61) rfl), List.forall_mem_cons.mpr ⟨tb_1 _ (List.mem_of_getElem? (i := 62) rfl), List.forall_mem_cons.mpr ⟨tb_1 _ (List.mem_of_getElem? (i := 4) rfl), List.forall_mem_cons.mpr ⟨tb_2 _ (List.mem_of_getElem? (i := 73) rfl), List.forall_mem_cons.mpr ⟨tb_1 _ (List.mem_of_getElem? (i := 146) rfl), List.forall_mem_cons.mpr ⟨tb_1 _ (List.mem_of_getElem? (i := 147) rfl), List.forall_mem_cons.mpr ⟨tb_1 _ (List.mem_of_getElem? (i := 6) rfl), List.forall_mem_cons.mpr ⟨tb_2 _ (List.mem_of_getElem? (i := 74) rfl), List.forall_mem_cons.mpr ⟨tb_1 _ (List.mem_of_getElem? (i := 162) rfl), List.forall_mem_cons.mpr ⟨tb_1 _ (List.mem_of_getElem? (i := 163) rfl), fun _ h => absurd h List.not_mem_nil⟩⟩⟩⟩⟩⟩⟩⟩⟩⟩⟩⟩⟩⟩⟩⟩⟩⟩⟩⟩⟩⟩⟩⟩
set_option maxRecDepth 20000 in
theorem tr_2 : ∀ w ∈ wsL_law0_r2, w ∈ lw_tbl := List.forall_mem_cons.mpr ⟨tb_1 _ (List.mem_of_getElem? (i := 7) rfl), List.forall_mem_cons.mpr ⟨tb_2 _ (List.mem_of_getElem? (i := 75) rfl), List.forall_mem_cons.mpr ⟨tb_1 _ (List.mem_of_getElem? (i := 222) rfl), List.forall_mem_cons.mpr ⟨tb_1 _ (List.mem_of_getElem? (i := 223) rfl), List.forall_mem_cons.mpr ⟨tb_1 _ (List.mem_of_getElem? (i := 10) rfl), List.forall_mem_cons.mpr ⟨tb_2 _ (List.mem_of_getElem? (i := 76) rfl), List.forall_mem_cons.mpr ⟨tb_2 _ (List.mem_of_getElem? (i := 8) rfl), List.forall_mem_cons.mpr ⟨tb_2 _ (List.mem_of_getElem? (i := 9) rfl), List.forall_mem_cons.mpr ⟨tb_1 _ (List.mem_of_getElem? (i := 11) rfl), List.forall_mem_cons.mpr ⟨tb_2 _ (List.mem_of_getElem? (i := 77) rfl), List.forall_mem_cons.mpr ⟨tb_2 _ (List.mem_of_getElem? (i := 31) rfl), List.forall_mem_cons.mpr ⟨tb_2 _ (List.mem_of_getElem? (i := 32) rfl), List.forall_mem_cons.mpr ⟨tb_1 _ (List.mem_of_getElem? (i := 12) rfl), List.forall_mem_cons.mpr ⟨tb_2 _ (List.mem_of_getElem? (i := 78) rfl), List.forall_mem_cons.mpr ⟨tb_2 _ (List.mem_of_getElem? (i := 54) rfl), List.forall_mem_cons.mpr ⟨tb_2 _ (List.mem_of_getElem? (i := 79) rfl), List.forall_mem_cons.mpr ⟨tb_1 _ (List.mem_of_getElem? (i := 194) rfl), List.forall_mem_cons.mpr ⟨tb_1 _ (List.mem_of_getElem? (i := 9) rfl), List.forall_mem_cons.mpr ⟨tb_2 _ (List.mem_of_getElem? (i := 81) rfl), List.forall_mem_cons.mpr ⟨tb_2 _ (List.mem_of_getElem? (i := 57) rfl), List.forall_mem_cons.mpr ⟨tb_2 _ (List.mem_of_getElem? (i := 58) rfl), List.forall_mem_cons.mpr ⟨tb_1 _ (List.mem_of_getElem? (i := 13) rfl), List.forall_mem_cons.mpr ⟨tb_2 _ (List.mem_of_getElem? (i := 83) rfl), List.forall_mem_cons.mpr ⟨tb_1 _ (List.mem_of_getElem? (i := 32) rfl), fun _ h => absurd h List.not_mem_nil⟩⟩⟩⟩⟩⟩⟩⟩⟩⟩⟩⟩⟩⟩⟩⟩⟩⟩⟩⟩⟩⟩⟩⟩
set_option maxRecDepth 20000 in
theorem tr_3 : ∀ w ∈ wsL_law0_r3, w ∈ lw_tbl := List.forall_mem_cons.mpr ⟨tb_1 _ (List.mem_of_getElem? (i := 33) rfl), List.forall_mem_cons.mpr ⟨tb_1 _ (List.mem_of_getElem? (i := 34) rfl), List.forall_mem_cons.mpr ⟨tb_1 _ (List.mem_of_getElem? (i := 35) rfl), List.forall_mem_cons.mpr ⟨tb_1 _ (List.mem_of_getElem? (i := 53) rfl), List.forall_mem_cons.mpr ⟨tb_1 _ (List.mem_of_getElem? (i := 54) rfl), List.forall_mem_cons.mpr ⟨tb_1 _ (List.mem_of_getElem? (i := 36) rfl), List.forall_mem_cons.mpr ⟨tb_1 _ (List.mem_of_getElem? (i := 38) rfl), List.forall_mem_cons.mpr ⟨List.mem_append_left _ (List.mem_of_getElem? (i := 0) rfl), List.forall_mem_cons.mpr ⟨tb_1 _ (List.mem_of_getElem? (i := 39) rfl), List.forall_mem_cons.mpr ⟨tb_1 _ (List.mem_of_getElem? (i := 40) rfl), List.forall_mem_cons.mpr ⟨tb_1 _ (List.mem_of_getElem? (i := 41) rfl), List.forall_mem_cons.mpr ⟨tb_1 _ (List.mem_of_getElem? (i := 42) rfl), List.forall_mem_cons.mpr ⟨tb_1 _ (List.mem_of_getElem? (i := 43) rfl), List.forall_mem_cons.mpr ⟨tb_1 _ (List.mem_of_getElem? (i := 44) rfl), List.forall_mem_cons.mpr ⟨tb_1 _ (List.mem_of_getElem? (i := 3) rfl), List.forall_mem_cons.mpr ⟨tb_1 _ (List.mem_of_getElem? (i := 45) rfl), List.forall_mem_cons.mpr ⟨tb_1 _ (List.mem_of_getElem? (i := 46) rfl), List.forall_mem_cons.mpr ⟨tb_1 _ (List.mem_of_getElem? (i := 48) rfl), List.forall_mem_cons.mpr ⟨tb_1 _ (List.mem_of_getElem? (i := 49) rfl), List.forall_mem_cons.mpr ⟨tb_1 _ (List.mem_of_getElem? (i := 50) rfl), List.forall_mem_cons.mpr ⟨tb_1 _ (List.mem_of_getElem? (i := 51) rfl), List.forall_mem_cons.mpr ⟨tb_1 _ (List.mem_of_getElem? (i := 63) rfl), List.forall_mem_cons.mpr ⟨tb_1 _ (List.mem_of_getElem? (i := 64) rfl), List.forall_mem_cons.mpr ⟨tb_1 _ (List.mem_of_getElem? (i := 65) rfl), fun _ h => absurd h List.not_mem_nil⟩⟩⟩⟩⟩⟩⟩⟩⟩⟩⟩⟩⟩⟩⟩⟩⟩⟩⟩⟩⟩⟩⟩⟩
set_option maxRecDepth 20000 in
theorem tr_4 : ∀ w ∈ wsL_law0_r4, w ∈ lw_tbl := List.forall_mem_cons.mpr ⟨tb_1 _ (List.mem_of_getElem? (i := 66) rfl), List.forall_mem_cons.mpr ⟨tb_1 _ (List.mem_of_getElem? (i := 67) rfl), List.forall_mem_cons.mpr ⟨tb_1 _ (List.mem_of_getElem? (i := 123) rfl), List.forall_mem_cons.mpr ⟨tb_1 _ (List.mem_of_getElem? (i := 125) rfl), List.forall_mem_cons.mpr ⟨tb_1 _ (List.mem_of_getElem? (i := 126) rfl), List.forall_mem_cons.mpr ⟨tb_1 _ (List.mem_of_getElem? (i := 145) rfl), List.forall_mem_cons.mpr ⟨tb_1 _ (List.mem_of_getElem? (i := 127) rfl), List.forall_mem_cons.mpr ⟨tb_1 _ (List.mem_of_getElem? (i := 128) rfl), List.forall_mem_cons.mpr ⟨tb_1 _ (List.mem_of_getElem? (i := 129) rfl), List.forall_mem_cons.mpr ⟨tb_1 _ (List.mem_of_getElem? (i := 69) rfl), List.forall_mem_cons.mpr ⟨tb_1 _ (List.mem_of_getElem? (i := 71) rfl), List.forall_mem_cons.mpr ⟨List.mem_append_left _ (List.mem_of_getElem? (i := 1) rfl), List.forall_mem_cons.mpr ⟨tb_1 _ (List.mem_of_getElem? (i := 72) rfl), List.forall_mem_cons.mpr ⟨tb_1 _ (List.mem_of_getElem? (i := 73) rfl), List.forall_mem_cons.mpr ⟨tb_1 _ (List.mem_of_getElem? (i := 75) rfl), List.forall_mem_cons.mpr ⟨List.mem_append_left _ (List.mem_of_getElem? (i := 2) rfl), List.forall_mem_cons.mpr ⟨tb_1 _ (List.mem_of_getElem? (i := 76) rfl), List.forall_mem_cons.mpr ⟨tb_1 _ (List.mem_of_getElem? (i := 77) rfl), List.forall_mem_cons.mpr ⟨tb_1 _ (List.mem_of_getElem? (i := 79) rfl), List.forall_mem_cons.mpr ⟨List.mem_append_left _ (List.mem_of_getElem? (i := 3) rfl), List.forall_mem_cons.mpr ⟨tb_1 _ (List.mem_of_getElem? (i := 80) rfl), List.forall_mem_cons.mpr ⟨tb_1 _ (List.mem_of_getElem? (i := 81) rfl), List.forall_mem_cons.mpr ⟨tb_1 _ (List.mem_of_getElem? (i := 82) rfl), List.forall_mem_cons.mpr ⟨tb_1 _ (List.mem_of_getElem? (i := 83) rfl), fun _ h => absurd h List.not_mem_nil⟩⟩⟩⟩⟩⟩⟩⟩⟩⟩⟩⟩⟩⟩⟩⟩⟩⟩⟩⟩⟩⟩⟩⟩
set_option maxRecDepth 20000 in
theorem tr_5 : ∀ w ∈ wsL_law0_r5, w ∈ lw_tbl := List.forall_mem_cons.mpr ⟨tb_1 _ (List.mem_of_getElem? (i := 84) rfl), List.forall_mem_cons.mpr ⟨tb_1 _ (List.mem_of_getElem? (i := 86) rfl), List.forall_mem_cons.mpr ⟨List.mem_append_left _ (List.mem_of_getElem? (i := 4) rfl), List.forall_mem_cons.mpr ⟨tb_1 _ (List.mem_of_getElem? (i := 87) rfl), List.forall_mem_cons.mpr ⟨tb_1 _ (List.mem_of_getElem? (i := 101) rfl), List.forall_mem_cons.mpr ⟨tb_1 _ (List.mem_of_getElem? (i := 102) rfl), List.forall_mem_cons.mpr ⟨tb_1 _ (List.mem_of_getElem? (i := 5) rfl), List.forall_mem_cons.mpr ⟨tb_1 _ (List.mem_of_getElem? (i := 103) rfl), List.forall_mem_cons.mpr ⟨tb_1 _ (List.mem_of_getElem? (i := 88) rfl), List.forall_mem_cons.mpr ⟨tb_1 _ (List.mem_of_getElem? (i := 89) rfl), List.forall_mem_cons.mpr ⟨tb_1 _ (List.mem_of_getElem? (i := 90) rfl), List.forall_mem_cons.mpr ⟨tb_1 _ (List.mem_of_getElem? (i := 91) rfl), List.forall_mem_cons.mpr ⟨tb_1 _ (List.mem_of_getElem? (i := 92) rfl), List.forall_mem_cons.mpr ⟨tb_1 _ (List.mem_of_getElem? (i := 93) rfl), List.forall_mem_cons.mpr ⟨tb_1 _ (List.mem_of_getElem? (i := 94) rfl), List.forall_mem_cons.mpr ⟨tb_1 _ (List.mem_of_getElem? (i := 95) rfl), List.forall_mem_cons.mpr ⟨tb_1 _ (List.mem_of_getElem? (i := 96) rfl), List.forall_mem_cons.mpr ⟨tb_1 _ (List.mem_of_getElem? (i := 97) rfl), List.forall_mem_cons.mpr ⟨tb_1 _ (List.mem_of_getElem? (i := 98) rfl), List.forall_mem_cons.mpr ⟨tb_1 _ (List.mem_of_getElem? (i := 99) rfl), List.forall_mem_cons.mpr ⟨tb_1 _ (List.mem_of_getElem? (i := 100) rfl), List.forall_mem_cons.mpr ⟨tb_1 _ (List.mem_of_getElem? (i := 104) rfl), List.forall_mem_cons.mpr ⟨tb_1 _ (List.mem_of_getElem? (i := 106) rfl), List.forall_mem_cons.mpr ⟨List.mem_append_left _ (List.mem_of_getElem? (i := 5) rfl), fun _ h => absurd h List.not_mem_nil⟩⟩⟩⟩⟩⟩⟩⟩⟩⟩⟩⟩⟩⟩⟩⟩⟩⟩⟩⟩⟩⟩⟩⟩
set_option maxRecDepth 20000 in
theorem tr_6 : ∀ w ∈ wsL_law0_r6, w ∈ lw_tbl := List.forall_mem_cons.mpr ⟨tb_1 _ (List.mem_of_getElem? (i := 107) rfl), List.forall_mem_cons.mpr ⟨tb_1 _ (List.mem_of_getElem? (i := 108) rfl), List.forall_mem_cons.mpr ⟨tb_1 _ (List.mem_of_getElem? (i := 110) rfl), List.forall_mem_cons.mpr ⟨List.mem_append_left _ (List.mem_of_getElem? (i := 6) rfl), List.forall_mem_cons.mpr ⟨tb_1 _ (List.mem_of_getElem? (i := 111) rfl), List.forall_mem_cons.mpr ⟨tb_1 _ (List.mem_of_getElem? (i := 112) rfl), List.forall_mem_cons.mpr ⟨tb_1 _ (List.mem_of_getElem? (i := 113) rfl), List.forall_mem_cons.mpr ⟨tb_1 _ (List.mem_of_getElem? (i := 114) rfl), List.forall_mem_cons.mpr ⟨tb_1 _ (List.mem_of_getElem? (i := 115) rfl), List.forall_mem_cons.mpr ⟨tb_1 _ (List.mem_of_getElem? (i := 116) rfl), List.forall_mem_cons.mpr ⟨tb_1 _ (List.mem_of_getElem? (i := 117) rfl), List.forall_mem_cons.mpr ⟨tb_1 _ (List.mem_of_getElem? (i := 118) rfl), List.forall_mem_cons.mpr ⟨tb_1 _ (List.mem_of_getElem? (i := 119) rfl), List.forall_mem_cons.mpr ⟨tb_1 _ (List.mem_of_getElem? (i := 120) rfl), List.forall_mem_cons.mpr ⟨tb_1 _ (List.mem_of_getElem? (i := 121) rfl), List.forall_mem_cons.mpr ⟨tb_1 _ (List.mem_of_getElem? (i := 122) rfl), List.forall_mem_cons.mpr ⟨tb_1 _ (List.mem_of_getElem? (i := 148) rfl), List.forall_mem_cons.mpr ⟨tb_1 _ (List.mem_of_getElem? (i := 149) rfl), List.forall_mem_cons.mpr ⟨tb_1 _ (List.mem_of_getElem? (i := 150) rfl), List.forall_mem_cons.mpr ⟨tb_1 _ (List.mem_of_getElem? (i := 151) rfl), List.forall_mem_cons.mpr ⟨tb_1 _ (List.mem_of_getElem? (i := 153) rfl), List.forall_mem_cons.mpr ⟨tb_1 _ (List.mem_of_getElem? (i := 152) rfl), List.forall_mem_cons.mpr ⟨tb_1 _ (List.mem_of_getElem? (i := 164) rfl), List.forall_mem_cons.mpr ⟨tb_1 _ (List.mem_of_getElem? (i := 165) rfl), fun _ h => absurd h List.not_mem_nil⟩⟩⟩⟩⟩⟩⟩⟩⟩⟩⟩⟩⟩⟩⟩⟩⟩⟩⟩⟩⟩⟩⟩⟩
set_option maxRecDepth 20000 in
theorem tr_7 : ∀ w ∈ wsL_law0_r7, w ∈ lw_tbl := List.forall_mem_cons.mpr ⟨tb_1 _ (List.mem_of_getElem? (i := 166) rfl), List.forall_mem_cons.mpr ⟨tb_1 _ (List.mem_of_getElem? (i := 167) rfl), List.forall_mem_cons.mpr ⟨tb_1 _ (List.mem_of_getElem? (i := 168) rfl), List.forall_mem_cons.mpr ⟨tb_1 _ (List.mem_of_getElem? (i := 169) rfl), List.forall_mem_cons.mpr ⟨tb_1 _ (List.mem_of_getElem? (i := 8) rfl), List.forall_mem_cons.mpr ⟨tb_1 _ (List.mem_of_getElem? (i := 211) rfl), List.forall_mem_cons.mpr ⟨tb_1 _ (List.mem_of_getElem? (i := 193) rfl), List.forall_mem_cons.mpr ⟨tb_1 _ (List.mem_of_getElem? (i := 212) rfl), List.forall_mem_cons.mpr ⟨tb_1 _ (List.mem_of_getElem? (i := 209) rfl), List.forall_mem_cons.mpr ⟨tb_1 _ (List.mem_of_getElem? (i := 210) rfl), List.forall_mem_cons.mpr ⟨tb_1 _ (List.mem_of_getElem? (i := 171) rfl), List.forall_mem_cons.mpr ⟨tb_1 _ (List.mem_of_getElem? (i := 172) rfl), List.forall_mem_cons.mpr ⟨tb_1 _ (List.mem_of_getElem? (i := 173) rfl), List.forall_mem_cons.mpr ⟨tb_1 _ (List.mem_of_getElem? (i := 174) rfl), List.forall_mem_cons.mpr ⟨tb_1 _ (List.mem_of_getElem? (i := 175) rfl), List.forall_mem_cons.mpr ⟨tb_1 _ (List.mem_of_getElem? (i := 176) rfl), List.forall_mem_cons.mpr ⟨tb_1 _ (List.mem_of_getElem? (i := 177) rfl), List.forall_mem_cons.mpr ⟨tb_1 _ (List.mem_of_getElem? (i := 196) rfl), List.forall_mem_cons.mpr ⟨tb_1 _ (List.mem_of_getElem? (i := 197) rfl), List.forall_mem_cons.mpr ⟨tb_1 _ (List.mem_of_getElem? (i := 198) rfl), List.forall_mem_cons.mpr ⟨tb_1 _ (List.mem_of_getElem? (i := 199) rfl), List.forall_mem_cons.mpr ⟨tb_1 _ (List.mem_of_getElem? (i := 200) rfl), List.forall_mem_cons.mpr ⟨tb_1 _ (List.mem_of_getElem? (i := 224) rfl), List.forall_mem_cons.mpr ⟨tb_1 _ (List.mem_of_getElem? (i := 225) rfl), fun _ h => absurd h List.not_mem_nil⟩⟩⟩⟩⟩⟩⟩⟩⟩⟩⟩⟩⟩⟩⟩⟩⟩⟩⟩⟩⟩⟩⟩⟩
set_option maxRecDepth 20000 in
theorem tr_8 : ∀ w ∈ wsL_law0_r8, w ∈ lw_tbl := List.forall_mem_cons.mpr ⟨tb_1 _ (List.mem_of_getElem? (i := 226) rfl), List.forall_mem_cons.mpr ⟨tb_1 _ (List.mem_of_getElem? (i := 227) rfl), List.forall_mem_cons.mpr ⟨tb_1 _ (List.mem_of_getElem? (i := 230) rfl), List.forall_mem_cons.mpr ⟨tb_1 _ (List.mem_of_getElem? (i := 228) rfl), List.forall_mem_cons.mpr ⟨tb_1 _ (List.mem_of_getElem? (i := 234) rfl), List.forall_mem_cons.mpr ⟨tb_1 _ (List.mem_of_getElem? (i := 229) rfl), List.forall_mem_cons.mpr ⟨tb_2 _ (List.mem_of_getElem? (i := 10) rfl), List.forall_mem_cons.mpr ⟨tb_2 _ (List.mem_of_getElem? (i := 11) rfl), List.forall_mem_cons.mpr ⟨tb_2 _ (List.mem_of_getElem? (i := 12) rfl), List.forall_mem_cons.mpr ⟨tb_2 _ (List.mem_of_getElem? (i := 13) rfl), List.forall_mem_cons.mpr ⟨tb_2 _ (List.mem_of_getElem? (i := 14) rfl), List.forall_mem_cons.mpr ⟨tb_2 _ (List.mem_of_getElem? (i := 21) rfl), List.forall_mem_cons.mpr ⟨tb_2 _ (List.mem_of_getElem? (i := 18) rfl), List.forall_mem_cons.mpr ⟨tb_2 _ (List.mem_of_getElem? (i := 19) rfl), List.forall_mem_cons.mpr ⟨tb_2 _ (List.mem_of_getElem? (i := 16) rfl), List.forall_mem_cons.mpr ⟨tb_2 _ (List.mem_of_getElem? (i := 20) rfl), List.forall_mem_cons.mpr ⟨tb_2 _ (List.mem_of_getElem? (i := 17) rfl), List.forall_mem_cons.mpr ⟨tb_2 _ (List.mem_of_getElem? (i := 34) rfl), List.forall_mem_cons.mpr ⟨tb_2 _ (List.mem_of_getElem? (i := 35) rfl), List.forall_mem_cons.mpr ⟨tb_2 _ (List.mem_of_getElem? (i := 36) rfl), List.forall_mem_cons.mpr ⟨tb_2 _ (List.mem_of_getElem? (i := 37) rfl), List.forall_mem_cons.mpr ⟨tb_2 _ (List.mem_of_getElem? (i := 38) rfl), List.forall_mem_cons.mpr ⟨tb_2 _ (List.mem_of_getElem? (i := 39) rfl), List.forall_mem_cons.mpr ⟨tb_2 _ (List.mem_of_getElem? (i := 40) rfl), fun _ h => absurd h List.not_mem_nil⟩⟩⟩⟩⟩⟩⟩⟩⟩⟩⟩⟩⟩⟩⟩⟩⟩⟩⟩⟩⟩⟩⟩⟩
set_option maxRecDepth 20000 in
theorem tr_9 : ∀ w ∈ wsL_law0_r9, w ∈ lw_tbl := List.forall_mem_cons.mpr ⟨tb_2 _ (List.mem_of_getElem? (i := 53) rfl), List.forall_mem_cons.mpr ⟨tb_2 _ (List.mem_of_getElem? (i := 41) rfl), List.forall_mem_cons.mpr ⟨tb_2 _ (List.mem_of_getElem? (i := 60) rfl), List.forall_mem_cons.mpr ⟨tb_2 _ (List.mem_of_getElem? (i := 61) rfl), List.forall_mem_cons.mpr ⟨tb_2 _ (List.mem_of_getElem? (i := 62) rfl), List.forall_mem_cons.mpr ⟨tb_2 _ (List.mem_of_getElem? (i := 63) rfl), List.forall_mem_cons.mpr ⟨tb_2 _ (List.mem_of_getElem? (i := 64) rfl), List.forall_mem_cons.mpr ⟨tb_2 _ (List.mem_of_getElem? (i := 112) rfl), List.forall_mem_cons.mpr ⟨tb_2 _ (List.mem_of_getElem? (i := 113) rfl), List.forall_mem_cons.mpr ⟨tb_1 _ (List.mem_of_getElem? (i := 0) rfl), List.forall_mem_cons.mpr ⟨tb_2 _ (List.mem_of_getElem? (i := 114) rfl), List.forall_mem_cons.mpr ⟨tb_2 _ (List.mem_of_getElem? (i := 115) rfl), List.forall_mem_cons.mpr ⟨tb_3 _ (List.mem_of_getElem? (i := 60) rfl), List.forall_mem_cons.mpr ⟨tb_2 _ (List.mem_of_getElem? (i := 117) rfl), List.forall_mem_cons.mpr ⟨tb_2 _ (List.mem_of_getElem? (i := 118) rfl), List.forall_mem_cons.mpr ⟨tb_2 _ (List.mem_of_getElem? (i := 119) rfl), List.forall_mem_cons.mpr ⟨tb_2 _ (List.mem_of_getElem? (i := 120) rfl), List.forall_mem_cons.mpr ⟨tb_3 _ (List.mem_of_getElem? (i := 43) rfl), List.forall_mem_cons.mpr ⟨tb_1 _ (List.mem_of_getElem? (i := 18) rfl), List.forall_mem_cons.mpr ⟨tb_2 _ (List.mem_of_getElem? (i := 121) rfl), List.forall_mem_cons.mpr ⟨tb_2 _ (List.mem_of_getElem? (i := 123) rfl), List.forall_mem_cons.mpr ⟨List.mem_append_left _ (List.mem_of_getElem? (i := 7) rfl), List.forall_mem_cons.mpr ⟨tb_2 _ (List.mem_of_getElem? (i := 124) rfl), List.forall_mem_cons.mpr ⟨tb_2 _ (List.mem_of_getElem? (i := 125) rfl), fun _ h => absurd h List.not_mem_nil⟩⟩⟩⟩⟩⟩⟩⟩⟩⟩⟩⟩⟩⟩⟩⟩⟩⟩⟩⟩⟩⟩⟩⟩
set_option maxRecDepth 20000 in
theorem tr_10 : ∀ w ∈ wsL_law0_r10, w ∈ lw_tbl := List.forall_mem_cons.mpr ⟨tb_1 _ (List.mem_of_getElem? (i := 17) rfl), List.forall_mem_cons.mpr ⟨tb_2 _ (List.mem_of_getElem? (i := 193) rfl), List.forall_mem_cons.mpr ⟨tb_2 _ (List.mem_of_getElem? (i := 194) rfl), List.forall_mem_cons.mpr ⟨tb_2 _ (List.mem_of_getElem? (i := 195) rfl), List.forall_mem_cons.mpr ⟨tb_2 _ (List.mem_of_getElem? (i := 196) rfl), List.forall_mem_cons.mpr ⟨tb_1 _ (List.mem_of_getElem? (i := 201) rfl), List.forall_mem_cons.mpr ⟨tb_2 _ (List.mem_of_getElem? (i := 197) rfl), List.forall_mem_cons.mpr ⟨tb_2 _ (List.mem_of_getElem? (i := 198) rfl), List.forall_mem_cons.mpr ⟨tb_2 _ (List.mem_of_getElem? (i := 199) rfl), List.forall_mem_cons.mpr ⟨tb_2 _ (List.mem_of_getElem? (i := 200) rfl), List.forall_mem_cons.mpr ⟨tb_2 _ (List.mem_of_getElem? (i := 201) rfl), List.forall_mem_cons.mpr ⟨tb_2 _ (List.mem_of_getElem? (i := 202) rfl), List.forall_mem_cons.mpr ⟨tb_2 _ (List.mem_of_getElem? (i := 203) rfl), List.forall_mem_cons.mpr ⟨tb_2 _ (List.mem_of_getElem? (i := 204) rfl), List.forall_mem_cons.mpr ⟨tb_2 _ (List.mem_of_getElem? (i := 205) rfl), List.forall_mem_cons.mpr ⟨tb_2 _ (List.mem_of_getElem? (i := 206) rfl), List.forall_mem_cons.mpr ⟨tb_2 _ (List.mem_of_getElem? (i := 207) rfl), List.forall_mem_cons.mpr ⟨tb_2 _ (List.mem_of_getElem? (i := 208) rfl), List.forall_mem_cons.mpr ⟨tb_2 _ (List.mem_of_getElem? (i := 209) rfl), List.forall_mem_cons.mpr ⟨tb_2 _ (List.mem_of_getElem? (i := 210) rfl), List.forall_mem_cons.mpr ⟨tb_2 _ (List.mem_of_getElem? (i := 211) rfl), List.forall_mem_cons.mpr ⟨tb_2 _ (List.mem_of_getElem? (i := 212) rfl), List.forall_mem_cons.mpr ⟨tb_2 _ (List.mem_of_getElem? (i := 213) rfl), List.forall_mem_cons.mpr ⟨tb_2 _ (List.mem_of_getElem? (i := 214) rfl), fun _ h => absurd h List.not_mem_nil⟩⟩⟩⟩⟩⟩⟩⟩⟩⟩⟩⟩⟩⟩⟩⟩⟩⟩⟩⟩⟩⟩⟩⟩
set_option maxRecDepth 20000 in
theorem tr_11 : ∀ w ∈ wsL_law0_r11, w ∈ lw_tbl := List.forall_mem_cons.mpr ⟨tb_2 _ (List.mem_of_getElem? (i := 215) rfl), List.forall_mem_cons.mpr ⟨tb_2 _ (List.mem_of_getElem? (i := 216) rfl), List.forall_mem_cons.mpr ⟨tb_2 _ (List.mem_of_getElem? (i := 217) rfl), List.forall_mem_cons.mpr ⟨tb_2 _ (List.mem_of_getElem? (i := 218) rfl), List.forall_mem_cons.mpr ⟨tb_2 _ (List.mem_of_getElem? (i := 219) rfl), List.forall_mem_cons.mpr ⟨tb_2 _ (List.mem_of_getElem? (i := 220) rfl), List.forall_mem_cons.mpr ⟨tb_2 _ (List.mem_of_getElem? (i := 221) rfl), List.forall_mem_cons.mpr ⟨tb_2 _ (List.mem_of_getElem? (i := 222) rfl), List.forall_mem_cons.mpr ⟨tb_2 _ (List.mem_of_getElem? (i := 223) rfl), List.forall_mem_cons.mpr ⟨tb_2 _ (List.mem_of_getElem? (i := 224) rfl), List.forall_mem_cons.mpr ⟨tb_2 _ (List.mem_of_getElem? (i := 225) rfl), List.forall_mem_cons.mpr ⟨tb_2 _ (List.mem_of_getElem? (i := 226) rfl), List.forall_mem_cons.mpr ⟨tb_2 _ (List.mem_of_getElem? (i := 227) rfl), List.forall_mem_cons.mpr ⟨tb_1 _ (List.mem_of_getElem? (i := 154) rfl), List.forall_mem_cons.mpr ⟨tb_2 _ (List.mem_of_getElem? (i := 229) rfl), List.forall_mem_cons.mpr ⟨tb_2 _ (List.mem_of_getElem? (i := 230) rfl), List.forall_mem_cons.mpr ⟨tb_2 _ (List.mem_of_getElem? (i := 231) rfl), List.forall_mem_cons.mpr ⟨tb_2 _ (List.mem_of_getElem? (i := 228) rfl), List.forall_mem_cons.mpr ⟨tb_2 _ (List.mem_of_getElem? (i := 232) rfl), List.forall_mem_cons.mpr ⟨tb_2 _ (List.mem_of_getElem? (i := 233) rfl), List.forall_mem_cons.mpr ⟨tb_2 _ (List.mem_of_getElem? (i := 234) rfl), List.forall_mem_cons.mpr ⟨tb_2 _ (List.mem_of_getElem? (i := 235) rfl), List.forall_mem_cons.mpr ⟨tb_2 _ (List.mem_of_getElem? (i := 236) rfl), List.forall_mem_cons.mpr ⟨tb_2 _ (List.mem_of_getElem? (i := 237) rfl), fun _ h => absurd h List.not_mem_nil⟩⟩⟩⟩⟩⟩⟩⟩⟩⟩⟩⟩⟩⟩⟩⟩⟩⟩⟩⟩⟩⟩⟩⟩
set_option maxRecDepth 20000 in
theorem tr_12 : ∀ w ∈ wsL_law0_r12, w ∈ lw_tbl := List.forall_mem_cons.mpr ⟨tb_2 _ (List.mem_of_getElem? (i := 238) rfl), List.forall_mem_cons.mpr ⟨tb_2 _ (List.mem_of_getElem? (i := 239) rfl), List.forall_mem_cons.mpr ⟨tb_3 _ (List.mem_of_getElem? (i := 0) rfl), List.forall_mem_cons.mpr ⟨tb_3 _ (List.mem_of_getElem? (i := 1) rfl), List.forall_mem_cons.mpr ⟨tb_3 _ (List.mem_of_getElem? (i := 2) rfl), List.forall_mem_cons.mpr ⟨tb_3 _ (List.mem_of_getElem? (i := 3) rfl), List.forall_mem_cons.mpr ⟨tb_3 _ (List.mem_of_getElem? (i := 4) rfl), List.forall_mem_cons.mpr ⟨tb_3 _ (List.mem_of_getElem? (i := 5) rfl), List.forall_mem_cons.mpr ⟨tb_3 _ (List.mem_of_getElem? (i := 6) rfl), List.forall_mem_cons.mpr ⟨tb_3 _ (List.mem_of_getElem? (i := 7) rfl), List.forall_mem_cons.mpr ⟨tb_3 _ (List.mem_of_getElem? (i := 8) rfl), List.forall_mem_cons.mpr ⟨tb_3 _ (List.mem_of_getElem? (i := 9) rfl), List.forall_mem_cons.mpr ⟨tb_3 _ (List.mem_of_getElem? (i := 10) rfl), List.forall_mem_cons.mpr ⟨tb_3 _ (List.mem_of_getElem? (i := 11) rfl), List.forall_mem_cons.mpr ⟨tb_3 _ (List.mem_of_getElem? (i := 12) rfl), List.forall_mem_cons.mpr ⟨tb_3 _ (List.mem_of_getElem? (i := 13) rfl), List.forall_mem_cons.mpr ⟨tb_3 _ (List.mem_of_getElem? (i := 14) rfl), List.forall_mem_cons.mpr ⟨tb_3 _ (List.mem_of_getElem? (i := 15) rfl), List.forall_mem_cons.mpr ⟨tb_3 _ (List.mem_of_getElem? (i := 16) rfl), List.forall_mem_cons.mpr ⟨tb_3 _ (List.mem_of_getElem? (i := 17) rfl), List.forall_mem_cons.mpr ⟨tb_3 _ (List.mem_of_getElem? (i := 18) rfl), List.forall_mem_cons.mpr ⟨tb_3 _ (List.mem_of_getElem? (i := 19) rfl), List.forall_mem_cons.mpr ⟨tb_3 _ (List.mem_of_getElem? (i := 20) rfl), List.forall_mem_cons.mpr ⟨tb_3 _ (List.mem_of_getElem? (i := 21) rfl), fun _ h => absurd h List.not_mem_nil⟩⟩⟩⟩⟩⟩⟩⟩⟩⟩⟩⟩⟩⟩⟩⟩⟩⟩⟩⟩⟩⟩⟩⟩
set_option maxRecDepth 20000 in
theorem tr_13 : ∀ w ∈ wsL_law0_r13, w ∈ lw_tbl := List.forall_mem_cons.mpr ⟨tb_3 _ (List.mem_of_getElem? (i := 22) rfl), List.forall_mem_cons.mpr ⟨tb_3 _ (List.mem_of_getElem? (i := 23) rfl), List.forall_mem_cons.mpr ⟨tb_3 _ (List.mem_of_getElem? (i := 24) rfl), List.forall_mem_cons.mpr ⟨tb_3 _ (List.mem_of_getElem? (i := 25) rfl), List.forall_mem_cons.mpr ⟨tb_3 _ (List.mem_of_getElem? (i := 26) rfl), List.forall_mem_cons.mpr ⟨tb_3 _ (List.mem_of_getElem? (i := 27) rfl), List.forall_mem_cons.mpr ⟨tb_3 _ (List.mem_of_getElem? (i := 28) rfl), List.forall_mem_cons.mpr ⟨tb_3 _ (List.mem_of_getElem? (i := 29) rfl), List.forall_mem_cons.mpr ⟨tb_3 _ (List.mem_of_getElem? (i := 30) rfl), List.forall_mem_cons.mpr ⟨tb_3 _ (List.mem_of_getElem? (i := 31) rfl), List.forall_mem_cons.mpr ⟨tb_3 _ (List.mem_of_getElem? (i := 32) rfl), List.forall_mem_cons.mpr ⟨tb_3 _ (List.mem_of_getElem? (i := 33) rfl), List.forall_mem_cons.mpr ⟨tb_3 _ (List.mem_of_getElem? (i := 34) rfl), List.forall_mem_cons.mpr ⟨tb_3 _ (List.mem_of_getElem? (i := 35) rfl), List.forall_mem_cons.mpr ⟨tb_3 _ (List.mem_of_getElem? (i := 36) rfl), List.forall_mem_cons.mpr ⟨tb_3 _ (List.mem_of_getElem? (i := 37) rfl), List.forall_mem_cons.mpr ⟨tb_3 _ (List.mem_of_getElem? (i := 38) rfl), List.forall_mem_cons.mpr ⟨tb_3 _ (List.mem_of_getElem? (i := 39) rfl), List.forall_mem_cons.mpr ⟨tb_3 _ (List.mem_of_getElem? (i := 40) rfl), List.forall_mem_cons.mpr ⟨tb_3 _ (List.mem_of_getElem? (i := 41) rfl), List.forall_mem_cons.mpr ⟨tb_3 _ (List.mem_of_getElem? (i := 42) rfl), List.forall_mem_cons.mpr ⟨tb_2 _ (List.mem_of_getElem? (i := 107) rfl), List.forall_mem_cons.mpr ⟨tb_2 _ (List.mem_of_getElem? (i := 108) rfl), List.forall_mem_cons.mpr ⟨tb_2 _ (List.mem_of_getElem? (i := 109) rfl), fun _ h => absurd h List.not_mem_nil⟩⟩⟩⟩⟩⟩⟩⟩⟩⟩⟩⟩⟩⟩⟩⟩⟩⟩⟩⟩⟩⟩⟩⟩
set_option maxRecDepth 20000 in
theorem tr_14 : ∀ w ∈ wsL_law0_r14, w ∈ lw_tbl := List.forall_mem_cons.mpr ⟨tb_2 _ (List.mem_of_getElem? (i := 110) rfl), List.forall_mem_cons.mpr ⟨tb_2 _ (List.mem_of_getElem? (i := 111) rfl), List.forall_mem_cons.mpr ⟨tb_3 _ (List.mem_of_getElem? (i := 164) rfl), List.forall_mem_cons.mpr ⟨tb_3 _ (List.mem_of_getElem? (i := 165) rfl), List.forall_mem_cons.mpr ⟨tb_3 _ (List.mem_of_getElem? (i := 166) rfl), List.forall_mem_cons.mpr ⟨tb_3 _ (List.mem_of_getElem? (i := 167) rfl), List.forall_mem_cons.mpr ⟨tb_3 _ (List.mem_of_getElem? (i := 168) rfl), List.forall_mem_cons.mpr ⟨tb_3 _ (List.mem_of_getElem? (i := 169) rfl), List.forall_mem_cons.mpr ⟨tb_3 _ (List.mem_of_getElem? (i := 170) rfl), List.forall_mem_cons.mpr ⟨tb_3 _ (List.mem_of_getElem? (i := 171) rfl), List.forall_mem_cons.mpr ⟨tb_3 _ (List.mem_of_getElem? (i := 172) rfl), List.forall_mem_cons.mpr ⟨tb_3 _ (List.mem_of_getElem? (i := 173) rfl), List.forall_mem_cons.mpr ⟨tb_3 _ (List.mem_of_getElem? (i := 234) rfl), List.forall_mem_cons.mpr ⟨tb_3 _ (List.mem_of_getElem? (i := 174) rfl), List.forall_mem_cons.mpr ⟨tb_3 _ (List.mem_of_getElem? (i := 175) rfl), List.forall_mem_cons.mpr ⟨tb_3 _ (List.mem_of_getElem? (i := 176) rfl), List.forall_mem_cons.mpr ⟨tb_3 _ (List.mem_of_getElem? (i := 178) rfl), List.forall_mem_cons.mpr ⟨tb_3 _ (List.mem_of_getElem? (i := 179) rfl), List.forall_mem_cons.mpr ⟨tb_3 _ (List.mem_of_getElem? (i := 180) rfl), List.forall_mem_cons.mpr ⟨tb_3 _ (List.mem_of_getElem? (i := 181) rfl), List.forall_mem_cons.mpr ⟨tb_3 _ (List.mem_of_getElem? (i := 194) rfl), List.forall_mem_cons.mpr ⟨tb_1 _ (List.mem_of_getElem? (i := 19) rfl), List.forall_mem_cons.mpr ⟨tb_3 _ (List.mem_of_getElem? (i := 182) rfl), List.forall_mem_cons.mpr ⟨tb_3 _ (List.mem_of_getElem? (i := 183) rfl), fun _ h => absurd h List.not_mem_nil⟩⟩⟩⟩⟩⟩⟩⟩⟩⟩⟩⟩⟩⟩⟩⟩⟩⟩⟩⟩⟩⟩⟩⟩
set_option maxRecDepth 20000 in
theorem tr_15 : ∀ w ∈ wsL_law0_r15, w ∈ lw_tbl := List.forall_mem_cons.mpr ⟨tb_3 _ (List.mem_of_getElem? (i := 184) rfl), List.forall_mem_cons.mpr ⟨tb_3 _ (List.mem_of_getElem? (i := 185) rfl), List.forall_mem_cons.mpr ⟨tb_1 _ (List.mem_of_getElem? (i := 124) rfl), List.forall_mem_cons.mpr ⟨tb_3 _ (List.mem_of_getElem? (i := 186) rfl), List.forall_mem_cons.mpr ⟨tb_3 _ (List.mem_of_getElem? (i := 187) rfl), List.forall_mem_cons.mpr ⟨tb_3 _ (List.mem_of_getElem? (i := 188) rfl), List.forall_mem_cons.mpr ⟨tb_3 _ (List.mem_of_getElem? (i := 190) rfl), List.forall_mem_cons.mpr ⟨tb_3 _ (List.mem_of_getElem? (i := 191) rfl), List.forall_mem_cons.mpr ⟨tb_3 _ (List.mem_of_getElem? (i := 192) rfl), List.forall_mem_cons.mpr ⟨tb_3 _ (List.mem_of_getElem? (i := 193) rfl), List.forall_mem_cons.mpr ⟨tb_3 _ (List.mem_of_getElem? (i := 210) rfl), List.forall_mem_cons.mpr ⟨tb_3 _ (List.mem_of_getElem? (i := 211) rfl), List.forall_mem_cons.mpr ⟨tb_3 _ (List.mem_of_getElem? (i := 212) rfl), List.forall_mem_cons.mpr ⟨tb_3 _ (List.mem_of_getElem? (i := 213) rfl), List.forall_mem_cons.mpr ⟨tb_3 _ (List.mem_of_getElem? (i := 214) rfl), List.forall_mem_cons.mpr ⟨tb_3 _ (List.mem_of_getElem? (i := 216) rfl), List.forall_mem_cons.mpr ⟨List.mem_append_left _ (List.mem_of_getElem? (i := 12) rfl), List.forall_mem_cons.mpr ⟨tb_3 _ (List.mem_of_getElem? (i := 217) rfl), List.forall_mem_cons.mpr ⟨tb_3 _ (List.mem_of_getElem? (i := 218) rfl), List.forall_mem_cons.mpr ⟨tb_3 _ (List.mem_of_getElem? (i := 219) rfl), List.forall_mem_cons.mpr ⟨tb_3 _ (List.mem_of_getElem? (i := 220) rfl), List.forall_mem_cons.mpr ⟨tb_3 _ (List.mem_of_getElem? (i := 221) rfl), List.forall_mem_cons.mpr ⟨tb_2 _ (List.mem_of_getElem? (i := 65) rfl), List.forall_mem_cons.mpr ⟨tb_3 _ (List.mem_of_getElem? (i := 222) rfl), fun _ h => absurd h List.not_mem_nil⟩⟩⟩⟩⟩⟩⟩⟩⟩⟩⟩⟩⟩⟩⟩⟩⟩⟩⟩⟩⟩⟩⟩⟩
set_option maxRecDepth 20000 in
theorem tr_16 : ∀ w ∈ wsL_law0_r16, w ∈ lw_tbl := List.forall_mem_cons.mpr ⟨tb_3 _ (List.mem_of_getElem? (i := 224) rfl), List.forall_mem_cons.mpr ⟨List.mem_append_left _ (List.mem_of_getElem? (i := 13) rfl), List.forall_mem_cons.mpr ⟨tb_3 _ (List.mem_of_getElem? (i := 225) rfl), List.forall_mem_cons.mpr ⟨tb_3 _ (List.mem_of_getElem? (i := 226) rfl), List.forall_mem_cons.mpr ⟨tb_3 _ (List.mem_of_getElem? (i := 228) rfl), List.forall_mem_cons.mpr ⟨List.mem_append_left _ (List.mem_of_getElem? (i := 14) rfl), List.forall_mem_cons.mpr ⟨tb_3 _ (List.mem_of_getElem? (i := 229) rfl), List.forall_mem_cons.mpr ⟨tb_3 _ (List.mem_of_getElem? (i := 230) rfl), List.forall_mem_cons.mpr ⟨tb_3 _ (List.mem_of_getElem? (i := 232) rfl), List.forall_mem_cons.mpr ⟨List.mem_append_left _ (List.mem_of_getElem? (i := 15) rfl), List.forall_mem_cons.mpr ⟨tb_3 _ (List.mem_of_getElem? (i := 233) rfl), List.forall_mem_cons.mpr ⟨tb_3 _ (List.mem_of_getElem? (i := 235) rfl), List.forall_mem_cons.mpr ⟨tb_3 _ (List.mem_of_getElem? (i := 236) rfl), List.forall_mem_cons.mpr ⟨tb_3 _ (List.mem_of_getElem? (i := 237) rfl), List.forall_mem_cons.mpr ⟨tb_2 _ (List.mem_of_getElem? (i := 116) rfl), List.forall_mem_cons.mpr ⟨tb_3 _ (List.mem_of_getElem? (i := 238) rfl), List.forall_mem_cons.mpr ⟨tb_3 _ (List.mem_of_getElem? (i := 239) rfl), List.forall_mem_cons.mpr ⟨tb_4 _ (List.mem_of_getElem? (i := 0) rfl), List.forall_mem_cons.mpr ⟨tb_4 _ (List.mem_of_getElem? (i := 1) rfl), List.forall_mem_cons.mpr ⟨tb_4 _ (List.mem_of_getElem? (i := 3) rfl), List.forall_mem_cons.mpr ⟨tb_4 _ (List.mem_of_getElem? (i := 4) rfl), List.forall_mem_cons.mpr ⟨tb_4 _ (List.mem_of_getElem? (i := 5) rfl), List.forall_mem_cons.mpr ⟨tb_4 _ (List.mem_of_getElem? (i := 6) rfl), List.forall_mem_cons.mpr ⟨tb_4 _ (List.mem_of_getElem? (i := 8) rfl), fun _ h => absurd h List.not_mem_nil⟩⟩⟩⟩⟩⟩⟩⟩⟩⟩⟩⟩⟩⟩⟩⟩⟩⟩⟩⟩⟩⟩⟩⟩
set_option maxRecDepth 20000 in
theorem tr_17 : ∀ w ∈ wsL_law0_r17, w ∈ lw_tbl := List.forall_mem_cons.mpr ⟨tb_4 _ (List.mem_of_getElem? (i := 9) rfl), List.forall_mem_cons.mpr ⟨tb_4 _ (List.mem_of_getElem? (i := 10) rfl), List.forall_mem_cons.mpr ⟨tb_4 _ (List.mem_of_getElem? (i := 11) rfl), List.forall_mem_cons.mpr ⟨tb_4 _ (List.mem_of_getElem? (i := 12) rfl), List.forall_mem_cons.mpr ⟨tb_4 _ (List.mem_of_getElem? (i := 13) rfl), List.forall_mem_cons.mpr ⟨tb_4 _ (List.mem_of_getElem? (i := 14) rfl), List.forall_mem_cons.mpr ⟨tb_3 _ (List.mem_of_getElem? (i := 177) rfl), List.forall_mem_cons.mpr ⟨tb_4 _ (List.mem_of_getElem? (i := 15) rfl), List.forall_mem_cons.mpr ⟨tb_4 _ (List.mem_of_getElem? (i := 16) rfl), List.forall_mem_cons.mpr ⟨tb_4 _ (List.mem_of_getElem? (i := 17) rfl), List.forall_mem_cons.mpr ⟨tb_4 _ (List.mem_of_getElem? (i := 18) rfl), List.forall_mem_cons.mpr ⟨tb_4 _ (List.mem_of_getElem? (i := 21) rfl), List.forall_mem_cons.mpr ⟨tb_4 _ (List.mem_of_getElem? (i := 22) rfl), List.forall_mem_cons.mpr ⟨tb_4 _ (List.mem_of_getElem? (i := 23) rfl), List.forall_mem_cons.mpr ⟨tb_4 _ (List.mem_of_getElem? (i := 24) rfl), List.forall_mem_cons.mpr ⟨tb_4 _ (List.mem_of_getElem? (i := 25) rfl), List.forall_mem_cons.mpr ⟨tb_4 _ (List.mem_of_getElem? (i := 26) rfl), List.forall_mem_cons.mpr ⟨tb_4 _ (List.mem_of_getElem? (i := 27) rfl), List.forall_mem_cons.mpr ⟨tb_4 _ (List.mem_of_getElem? (i := 28) rfl), List.forall_mem_cons.mpr ⟨tb_4 _ (List.mem_of_getElem? (i := 29) rfl), List.forall_mem_cons.mpr ⟨tb_4 _ (List.mem_of_getElem? (i := 30) rfl), List.forall_mem_cons.mpr ⟨tb_4 _ (List.mem_of_getElem? (i := 31) rfl), List.forall_mem_cons.mpr ⟨tb_4 _ (List.mem_of_getElem? (i := 32) rfl), List.forall_mem_cons.mpr ⟨tb_4 _ (List.mem_of_getElem? (i := 33) rfl), fun _ h => absurd h List.not_mem_nil⟩⟩⟩⟩⟩⟩⟩⟩⟩⟩⟩⟩⟩⟩⟩⟩⟩⟩⟩⟩⟩⟩⟩⟩
set_option maxRecDepth 20000 in
theorem tr_18 : ∀ w ∈ wsL_law0_r18, w ∈ lw_tbl := List.forall_mem_cons.mpr ⟨tb_4 _ (List.mem_of_getElem? (i := 34) rfl), List.forall_mem_cons.mpr ⟨tb_4 _ (List.mem_of_getElem? (i := 35) rfl), List.forall_mem_cons.mpr ⟨tb_4 _ (List.mem_of_getElem? (i := 36) rfl), List.forall_mem_cons.mpr ⟨tb_4 _ (List.mem_of_getElem? (i := 37) rfl), List.forall_mem_cons.mpr ⟨tb_4 _ (List.mem_of_getElem? (i := 38) rfl), List.forall_mem_cons.mpr ⟨tb_4 _ (List.mem_of_getElem? (i := 39) rfl), List.forall_mem_cons.mpr ⟨tb_4 _ (List.mem_of_getElem? (i := 41) rfl), List.forall_mem_cons.mpr ⟨tb_4 _ (List.mem_of_getElem? (i := 42) rfl), List.forall_mem_cons.mpr ⟨tb_4 _ (List.mem_of_getElem? (i := 43) rfl), List.forall_mem_cons.mpr ⟨tb_4 _ (List.mem_of_getElem? (i := 44) rfl), List.forall_mem_cons.mpr ⟨tb_4 _ (List.mem_of_getElem? (i := 45) rfl), List.forall_mem_cons.mpr ⟨tb_4 _ (List.mem_of_getElem? (i := 46) rfl), List.forall_mem_cons.mpr ⟨tb_4 _ (List.mem_of_getElem? (i := 47) rfl), List.forall_mem_cons.mpr ⟨tb_4 _ (List.mem_of_getElem? (i := 48) rfl), List.forall_mem_cons.mpr ⟨tb_4 _ (List.mem_of_getElem? (i := 49) rfl), List.forall_mem_cons.mpr ⟨tb_4 _ (List.mem_of_getElem? (i := 50) rfl), List.forall_mem_cons.mpr ⟨tb_4 _ (List.mem_of_getElem? (i := 51) rfl), List.forall_mem_cons.mpr ⟨tb_4 _ (List.mem_of_getElem? (i := 53) rfl), List.forall_mem_cons.mpr ⟨tb_4 _ (List.mem_of_getElem? (i := 54) rfl), List.forall_mem_cons.mpr ⟨tb_4 _ (List.mem_of_getElem? (i := 55) rfl), List.forall_mem_cons.mpr ⟨tb_4 _ (List.mem_of_getElem? (i := 56) rfl), List.forall_mem_cons.mpr ⟨tb_4 _ (List.mem_of_getElem? (i := 57) rfl), List.forall_mem_cons.mpr ⟨tb_4 _ (List.mem_of_getElem? (i := 58) rfl), List.forall_mem_cons.mpr ⟨tb_4 _ (List.mem_of_getElem? (i := 59) rfl), fun _ h => absurd h List.not_mem_nil⟩⟩⟩⟩⟩⟩⟩⟩⟩⟩⟩⟩⟩⟩⟩⟩⟩⟩⟩⟩⟩⟩⟩⟩
set_option maxRecDepth 20000 in
theorem tr_19 : ∀ w ∈ wsL_law0_r19, w ∈ lw_tbl := List.forall_mem_cons.mpr ⟨tb_4 _ (List.mem_of_getElem? (i := 60) rfl), List.forall_mem_cons.mpr ⟨tb_4 _ (List.mem_of_getElem? (i := 61) rfl), List.forall_mem_cons.mpr ⟨tb_4 _ (List.mem_of_getElem? (i := 62) rfl), List.forall_mem_cons.mpr ⟨tb_4 _ (List.mem_of_getElem? (i := 63) rfl), List.forall_mem_cons.mpr ⟨tb_4 _ (List.mem_of_getElem? (i := 65) rfl), List.forall_mem_cons.mpr ⟨tb_4 _ (List.mem_of_getElem? (i := 66) rfl), List.forall_mem_cons.mpr ⟨tb_4 _ (List.mem_of_getElem? (i := 67) rfl), List.forall_mem_cons.mpr ⟨tb_4 _ (List.mem_of_getElem? (i := 68) rfl), List.forall_mem_cons.mpr ⟨tb_4 _ (List.mem_of_getElem? (i := 69) rfl), List.forall_mem_cons.mpr ⟨tb_4 _ (List.mem_of_getElem? (i := 70) rfl), List.forall_mem_cons.mpr ⟨tb_4 _ (List.mem_of_getElem? (i := 71) rfl), List.forall_mem_cons.mpr ⟨tb_4 _ (List.mem_of_getElem? (i := 72) rfl), List.forall_mem_cons.mpr ⟨tb_4 _ (List.mem_of_getElem? (i := 73) rfl), List.forall_mem_cons.mpr ⟨tb_4 _ (List.mem_of_getElem? (i := 74) rfl), List.forall_mem_cons.mpr ⟨tb_4 _ (List.mem_of_getElem? (i := 75) rfl), List.forall_mem_cons.mpr ⟨tb_4 _ (List.mem_of_getElem? (i := 78) rfl), List.forall_mem_cons.mpr ⟨tb_4 _ (List.mem_of_getElem? (i := 79) rfl), List.forall_mem_cons.mpr ⟨tb_4 _ (List.mem_of_getElem? (i := 80) rfl), List.forall_mem_cons.mpr ⟨tb_4 _ (List.mem_of_getElem? (i := 81) rfl), List.forall_mem_cons.mpr ⟨tb_4 _ (List.mem_of_getElem? (i := 82) rfl), List.forall_mem_cons.mpr ⟨tb_4 _ (List.mem_of_getElem? (i := 83) rfl), List.forall_mem_cons.mpr ⟨tb_4 _ (List.mem_of_getElem? (i := 84) rfl), List.forall_mem_cons.mpr ⟨tb_4 _ (List.mem_of_getElem? (i := 85) rfl), List.forall_mem_cons.mpr ⟨tb_4 _ (List.mem_of_getElem? (i := 86) rfl), fun _ h => absurd h List.not_mem_nil⟩⟩⟩⟩⟩⟩⟩⟩⟩⟩⟩⟩⟩⟩⟩⟩⟩⟩⟩⟩⟩⟩⟩⟩
set_option maxRecDepth 20000 in
theorem tr_20 : ∀ w ∈ wsL_law0_r20, w ∈ lw_tbl := List.forall_mem_cons.mpr ⟨tb_4 _ (List.mem_of_getElem? (i := 87) rfl), List.forall_mem_cons.mpr ⟨tb_4 _ (List.mem_of_getElem? (i := 88) rfl), List.forall_mem_cons.mpr ⟨tb_4 _ (List.mem_of_getElem? (i := 89) rfl), List.forall_mem_cons.mpr ⟨tb_4 _ (List.mem_of_getElem? (i := 90) rfl), List.forall_mem_cons.mpr ⟨tb_4 _ (List.mem_of_getElem? (i := 91) rfl), List.forall_mem_cons.mpr ⟨tb_4 _ (List.mem_of_getElem? (i := 92) rfl), List.forall_mem_cons.mpr ⟨tb_4 _ (List.mem_of_getElem? (i := 93) rfl), List.forall_mem_cons.mpr ⟨tb_4 _ (List.mem_of_getElem? (i := 94) rfl), List.forall_mem_cons.mpr ⟨tb_4 _ (List.mem_of_getElem? (i := 95) rfl), List.forall_mem_cons.mpr ⟨tb_4 _ (List.mem_of_getElem? (i := 97) rfl), List.forall_mem_cons.mpr ⟨tb_4 _ (List.mem_of_getElem? (i := 98) rfl), List.forall_mem_cons.mpr ⟨tb_4 _ (List.mem_of_getElem? (i := 99) rfl), List.forall_mem_cons.mpr ⟨tb_4 _ (List.mem_of_getElem? (i := 100) rfl), List.forall_mem_cons.mpr ⟨tb_4 _ (List.mem_of_getElem? (i := 101) rfl), List.forall_mem_cons.mpr ⟨tb_4 _ (List.mem_of_getElem? (i := 103) rfl), List.forall_mem_cons.mpr ⟨List.mem_append_left _ (List.mem_of_getElem? (i := 16) rfl), List.forall_mem_cons.mpr ⟨tb_4 _ (List.mem_of_getElem? (i := 104) rfl), List.forall_mem_cons.mpr ⟨tb_4 _ (List.mem_of_getElem? (i := 105) rfl), List.forall_mem_cons.mpr ⟨tb_4 _ (List.mem_of_getElem? (i := 106) rfl), List.forall_mem_cons.mpr ⟨tb_4 _ (List.mem_of_getElem? (i := 107) rfl), List.forall_mem_cons.mpr ⟨tb_4 _ (List.mem_of_getElem? (i := 108) rfl), List.forall_mem_cons.mpr ⟨tb_4 _ (List.mem_of_getElem? (i := 109) rfl), List.forall_mem_cons.mpr ⟨tb_4 _ (List.mem_of_getElem? (i := 110) rfl), List.forall_mem_cons.mpr ⟨tb_1 _ (List.mem_of_getElem? (i := 178) rfl), fun _ h => absurd h List.not_mem_nil⟩⟩⟩⟩⟩⟩⟩⟩⟩⟩⟩⟩⟩⟩⟩⟩⟩⟩⟩⟩⟩⟩⟩⟩
set_option maxRecDepth 20000 in
theorem tr_21 : ∀ w ∈ wsL_law0_r21, w ∈ lw_tbl := List.forall_mem_cons.mpr ⟨tb_1 _ (List.mem_of_getElem? (i := 179) rfl), List.forall_mem_cons.mpr ⟨tb_4 _ (List.mem_of_getElem? (i := 111) rfl), List.forall_mem_cons.mpr ⟨tb_4 _ (List.mem_of_getElem? (i := 112) rfl), List.forall_mem_cons.mpr ⟨tb_1 _ (List.mem_of_getElem? (i := 20) rfl), List.forall_mem_cons.mpr ⟨tb_4 _ (List.mem_of_getElem? (i := 113) rfl), List.forall_mem_cons.mpr ⟨tb_4 _ (List.mem_of_getElem? (i := 114) rfl), List.forall_mem_cons.mpr ⟨tb_4 _ (List.mem_of_getElem? (i := 115) rfl), List.forall_mem_cons.mpr ⟨tb_4 _ (List.mem_of_getElem? (i := 116) rfl), List.forall_mem_cons.mpr ⟨tb_4 _ (List.mem_of_getElem? (i := 117) rfl), List.forall_mem_cons.mpr ⟨tb_4 _ (List.mem_of_getElem? (i := 118) rfl), List.forall_mem_cons.mpr ⟨tb_4 _ (List.mem_of_getElem? (i := 119) rfl), List.forall_mem_cons.mpr ⟨tb_4 _ (List.mem_of_getElem? (i := 120) rfl), List.forall_mem_cons.mpr ⟨tb_4 _ (List.mem_of_getElem? (i := 121) rfl), List.forall_mem_cons.mpr ⟨tb_4 _ (List.mem_of_getElem? (i := 123) rfl), List.forall_mem_cons.mpr ⟨List.mem_append_left _ (List.mem_of_getElem? (i := 17) rfl), List.forall_mem_cons.mpr ⟨tb_4 _ (List.mem_of_getElem? (i := 124) rfl), List.forall_mem_cons.mpr ⟨tb_4 _ (List.mem_of_getElem? (i := 125) rfl), List.forall_mem_cons.mpr ⟨tb_4 _ (List.mem_of_getElem? (i := 127) rfl), List.forall_mem_cons.mpr ⟨List.mem_append_left _ (List.mem_of_getElem? (i := 18) rfl), List.forall_mem_cons.mpr ⟨tb_4 _ (List.mem_of_getElem? (i := 128) rfl), List.forall_mem_cons.mpr ⟨tb_4 _ (List.mem_of_getElem? (i := 129) rfl), List.forall_mem_cons.mpr ⟨tb_4 _ (List.mem_of_getElem? (i := 131) rfl), List.forall_mem_cons.mpr ⟨List.mem_append_left _ (List.mem_of_getElem? (i := 19) rfl), List.forall_mem_cons.mpr ⟨tb_4 _ (List.mem_of_getElem? (i := 132) rfl), fun _ h => absurd h List.not_mem_nil⟩⟩⟩⟩⟩⟩⟩⟩⟩⟩⟩⟩⟩⟩⟩⟩⟩⟩⟩⟩⟩⟩⟩⟩
set_option maxRecDepth 20000 in
theorem tr_22 : ∀ w ∈ wsL_law0_r22, w ∈ lw_tbl := List.forall_mem_cons.mpr ⟨tb_4 _ (List.mem_of_getElem? (i := 133) rfl), List.forall_mem_cons.mpr ⟨tb_4 _ (List.mem_of_getElem? (i := 134) rfl), List.forall_mem_cons.mpr ⟨tb_4 _ (List.mem_of_getElem? (i := 135) rfl), List.forall_mem_cons.mpr ⟨tb_4 _ (List.mem_of_getElem? (i := 136) rfl), List.forall_mem_cons.mpr ⟨tb_4 _ (List.mem_of_getElem? (i := 137) rfl), List.forall_mem_cons.mpr ⟨tb_4 _ (List.mem_of_getElem? (i := 138) rfl), List.forall_mem_cons.mpr ⟨tb_4 _ (List.mem_of_getElem? (i := 139) rfl), List.forall_mem_cons.mpr ⟨tb_4 _ (List.mem_of_getElem? (i := 140) rfl), List.forall_mem_cons.mpr ⟨tb_4 _ (List.mem_of_getElem? (i := 141) rfl), List.forall_mem_cons.mpr ⟨tb_4 _ (List.mem_of_getElem? (i := 143) rfl), List.forall_mem_cons.mpr ⟨List.mem_append_left _ (List.mem_of_getElem? (i := 20) rfl), List.forall_mem_cons.mpr ⟨tb_4 _ (List.mem_of_getElem? (i := 144) rfl), List.forall_mem_cons.mpr ⟨tb_4 _ (List.mem_of_getElem? (i := 145) rfl), List.forall_mem_cons.mpr ⟨tb_4 _ (List.mem_of_getElem? (i := 146) rfl), List.forall_mem_cons.mpr ⟨tb_4 _ (List.mem_of_getElem? (i := 147) rfl), List.forall_mem_cons.mpr ⟨tb_4 _ (List.mem_of_getElem? (i := 148) rfl), List.forall_mem_cons.mpr ⟨tb_4 _ (List.mem_of_getElem? (i := 149) rfl), List.forall_mem_cons.mpr ⟨tb_4 _ (List.mem_of_getElem? (i := 150) rfl), List.forall_mem_cons.mpr ⟨tb_4 _ (List.mem_of_getElem? (i := 151) rfl), List.forall_mem_cons.mpr ⟨tb_4 _ (List.mem_of_getElem? (i := 152) rfl), List.forall_mem_cons.mpr ⟨tb_4 _ (List.mem_of_getElem? (i := 153) rfl), List.forall_mem_cons.mpr ⟨tb_4 _ (List.mem_of_getElem? (i := 154) rfl), List.forall_mem_cons.mpr ⟨tb_4 _ (List.mem_of_getElem? (i := 156) rfl), List.forall_mem_cons.mpr ⟨List.mem_append_left _ (List.mem_of_getElem? (i := 21) rfl), fun _ h => absurd h List.not_mem_nil⟩⟩⟩⟩⟩⟩⟩⟩⟩⟩⟩⟩⟩⟩⟩⟩⟩⟩⟩⟩⟩⟩⟩⟩
set_option maxRecDepth 20000 in
theorem tr_23 : ∀ w ∈ wsL_law0_r23, w ∈ lw_tbl := List.forall_mem_cons.mpr ⟨tb_4 _ (List.mem_of_getElem? (i := 157) rfl), List.forall_mem_cons.mpr ⟨tb_4 _ (List.mem_of_getElem? (i := 158) rfl), List.forall_mem_cons.mpr ⟨tb_4 _ (List.mem_of_getElem? (i := 159) rfl), List.forall_mem_cons.mpr ⟨tb_4 _ (List.mem_of_getElem? (i := 160) rfl), List.forall_mem_cons.mpr ⟨tb_4 _ (List.mem_of_getElem? (i := 161) rfl), List.forall_mem_cons.mpr ⟨tb_4 _ (List.mem_of_getElem? (i := 162) rfl), List.forall_mem_cons.mpr ⟨tb_4 _ (List.mem_of_getElem? (i := 163) rfl), List.forall_mem_cons.mpr ⟨tb_4 _ (List.mem_of_getElem? (i := 164) rfl), List.forall_mem_cons.mpr ⟨tb_4 _ (List.mem_of_getElem? (i := 165) rfl), List.forall_mem_cons.mpr ⟨tb_4 _ (List.mem_of_getElem? (i := 166) rfl), List.forall_mem_cons.mpr ⟨tb_4 _ (List.mem_of_getElem? (i := 167) rfl), List.forall_mem_cons.mpr ⟨tb_4 _ (List.mem_of_getElem? (i := 168) rfl), List.forall_mem_cons.mpr ⟨tb_4 _ (List.mem_of_getElem? (i := 169) rfl), List.forall_mem_cons.mpr ⟨tb_4 _ (List.mem_of_getElem? (i := 170) rfl), List.forall_mem_cons.mpr ⟨tb_4 _ (List.mem_of_getElem? (i := 171) rfl), List.forall_mem_cons.mpr ⟨tb_4 _ (List.mem_of_getElem? (i := 172) rfl), List.forall_mem_cons.mpr ⟨tb_4 _ (List.mem_of_getElem? (i := 173) rfl), List.forall_mem_cons.mpr ⟨tb_4 _ (List.mem_of_getElem? (i := 174) rfl), List.forall_mem_cons.mpr ⟨tb_4 _ (List.mem_of_getElem? (i := 175) rfl), List.forall_mem_cons.mpr ⟨tb_4 _ (List.mem_of_getElem? (i := 176) rfl), List.forall_mem_cons.mpr ⟨tb_4 _ (List.mem_of_getElem? (i := 177) rfl), List.forall_mem_cons.mpr ⟨tb_4 _ (List.mem_of_getElem? (i := 178) rfl), List.forall_mem_cons.mpr ⟨tb_4 _ (List.mem_of_getElem? (i := 179) rfl), List.forall_mem_cons.mpr ⟨tb_4 _ (List.mem_of_getElem? (i := 180) rfl), fun _ h => absurd h List.not_mem_nil⟩⟩⟩⟩⟩⟩⟩⟩⟩⟩⟩⟩⟩⟩⟩⟩⟩⟩⟩⟩⟩⟩⟩⟩
set_option maxRecDepth 20000 in
theorem tr_24 : ∀ w ∈ wsL_law0_r24, w ∈ lw_tbl := List.forall_mem_cons.mpr ⟨tb_4 _ (List.mem_of_getElem? (i := 181) rfl), List.forall_mem_cons.mpr ⟨tb_4 _ (List.mem_of_getElem? (i := 183) rfl), List.forall_mem_cons.mpr ⟨List.mem_append_left _ (List.mem_of_getElem? (i := 22) rfl), List.forall_mem_cons.mpr ⟨tb_4 _ (List.mem_of_getElem? (i := 184) rfl), List.forall_mem_cons.mpr ⟨tb_4 _ (List.mem_of_getElem? (i := 210) rfl), List.forall_mem_cons.mpr ⟨tb_4 _ (List.mem_of_getElem? (i := 211) rfl), List.forall_mem_cons.mpr ⟨tb_4 _ (List.mem_of_getElem? (i := 212) rfl), List.forall_mem_cons.mpr ⟨tb_4 _ (List.mem_of_getElem? (i := 213) rfl), List.forall_mem_cons.mpr ⟨tb_4 _ (List.mem_of_getElem? (i := 185) rfl), List.forall_mem_cons.mpr ⟨tb_4 _ (List.mem_of_getElem? (i := 186) rfl), List.forall_mem_cons.mpr ⟨tb_4 _ (List.mem_of_getElem? (i := 187) rfl), List.forall_mem_cons.mpr ⟨tb_4 _ (List.mem_of_getElem? (i := 188) rfl), List.forall_mem_cons.mpr ⟨tb_4 _ (List.mem_of_getElem? (i := 189) rfl), List.forall_mem_cons.mpr ⟨tb_4 _ (List.mem_of_getElem? (i := 191) rfl), List.forall_mem_cons.mpr ⟨tb_4 _ (List.mem_of_getElem? (i := 192) rfl), List.forall_mem_cons.mpr ⟨tb_4 _ (List.mem_of_getElem? (i := 193) rfl), List.forall_mem_cons.mpr ⟨tb_4 _ (List.mem_of_getElem? (i := 194) rfl), List.forall_mem_cons.mpr ⟨tb_4 _ (List.mem_of_getElem? (i := 195) rfl), List.forall_mem_cons.mpr ⟨tb_4 _ (List.mem_of_getElem? (i := 197) rfl), List.forall_mem_cons.mpr ⟨tb_4 _ (List.mem_of_getElem? (i := 198) rfl), List.forall_mem_cons.mpr ⟨tb_4 _ (List.mem_of_getElem? (i := 199) rfl), List.forall_mem_cons.mpr ⟨tb_4 _ (List.mem_of_getElem? (i := 200) rfl), List.forall_mem_cons.mpr ⟨tb_4 _ (List.mem_of_getElem? (i := 201) rfl), List.forall_mem_cons.mpr ⟨tb_4 _ (List.mem_of_getElem? (i := 202) rfl), fun _ h => absurd h List.not_mem_nil⟩⟩⟩⟩⟩⟩⟩⟩⟩⟩⟩⟩⟩⟩⟩⟩⟩⟩⟩⟩⟩⟩⟩⟩
set_option maxRecDepth 20000 in
theorem tr_25 : ∀ w ∈ wsL_law0_r25, w ∈ lw_tbl := List.forall_mem_cons.mpr ⟨tb_4 _ (List.mem_of_getElem? (i := 203) rfl), List.forall_mem_cons.mpr ⟨tb_4 _ (List.mem_of_getElem? (i := 204) rfl), List.forall_mem_cons.mpr ⟨tb_4 _ (List.mem_of_getElem? (i := 205) rfl), List.forall_mem_cons.mpr ⟨tb_4 _ (List.mem_of_getElem? (i := 206) rfl), List.forall_mem_cons.mpr ⟨tb_4 _ (List.mem_of_getElem? (i := 207) rfl), List.forall_mem_cons.mpr ⟨tb_4 _ (List.mem_of_getElem? (i := 208) rfl), List.forall_mem_cons.mpr ⟨tb_4 _ (List.mem_of_getElem? (i := 209) rfl), List.forall_mem_cons.mpr ⟨tb_4 _ (List.mem_of_getElem? (i := 214) rfl), List.forall_mem_cons.mpr ⟨tb_4 _ (List.mem_of_getElem? (i := 215) rfl), List.forall_mem_cons.mpr ⟨tb_4 _ (List.mem_of_getElem? (i := 216) rfl), List.forall_mem_cons.mpr ⟨tb_4 _ (List.mem_of_getElem? (i := 217) rfl), List.forall_mem_cons.mpr ⟨tb_4 _ (List.mem_of_getElem? (i := 219) rfl), List.forall_mem_cons.mpr ⟨List.mem_append_left _ (List.mem_of_getElem? (i := 23) rfl), List.forall_mem_cons.mpr ⟨tb_4 _ (List.mem_of_getElem? (i := 220) rfl), List.forall_mem_cons.mpr ⟨tb_1 _ (List.mem_of_getElem? (i := 231) rfl), List.forall_mem_cons.mpr ⟨tb_1 _ (List.mem_of_getElem? (i := 232) rfl), List.forall_mem_cons.mpr ⟨tb_1 _ (List.mem_of_getElem? (i := 233) rfl), List.forall_mem_cons.mpr ⟨tb_4 _ (List.mem_of_getElem? (i := 221) rfl), List.forall_mem_cons.mpr ⟨tb_4 _ (List.mem_of_getElem? (i := 223) rfl), List.forall_mem_cons.mpr ⟨List.mem_append_left _ (List.mem_of_getElem? (i := 24) rfl), List.forall_mem_cons.mpr ⟨tb_4 _ (List.mem_of_getElem? (i := 224) rfl), List.forall_mem_cons.mpr ⟨tb_4 _ (List.mem_of_getElem? (i := 225) rfl), List.forall_mem_cons.mpr ⟨tb_4 _ (List.mem_of_getElem? (i := 226) rfl), List.forall_mem_cons.mpr ⟨tb_4 _ (List.mem_of_getElem? (i := 227) rfl), fun _ h => absurd h List.not_mem_nil⟩⟩⟩⟩⟩⟩⟩⟩⟩⟩⟩⟩⟩⟩⟩⟩⟩⟩⟩⟩⟩⟩⟩⟩
set_option maxRecDepth 20000 in
theorem tr_26 : ∀ w ∈ wsL_law0_r26, w ∈ lw_tbl := List.forall_mem_cons.mpr ⟨tb_4 _ (List.mem_of_getElem? (i := 228) rfl), List.forall_mem_cons.mpr ⟨tb_4 _ (List.mem_of_getElem? (i := 229) rfl), List.forall_mem_cons.mpr ⟨tb_4 _ (List.mem_of_getElem? (i := 230) rfl), List.forall_mem_cons.mpr ⟨tb_4 _ (List.mem_of_getElem? (i := 231) rfl), List.forall_mem_cons.mpr ⟨tb_4 _ (List.mem_of_getElem? (i := 232) rfl), List.forall_mem_cons.mpr ⟨tb_4 _ (List.mem_of_getElem? (i := 233) rfl), List.forall_mem_cons.mpr ⟨tb_4 _ (List.mem_of_getElem? (i := 234) rfl), List.forall_mem_cons.mpr ⟨tb_4 _ (List.mem_of_getElem? (i := 235) rfl), List.forall_mem_cons.mpr ⟨tb_4 _ (List.mem_of_getElem? (i := 236) rfl), List.forall_mem_cons.mpr ⟨tb_4 _ (List.mem_of_getElem? (i := 238) rfl), List.forall_mem_cons.mpr ⟨List.mem_append_left _ (List.mem_of_getElem? (i := 25) rfl), List.forall_mem_cons.mpr ⟨tb_4 _ (List.mem_of_getElem? (i := 239) rfl), List.forall_mem_cons.mpr ⟨tb_2 _ (List.mem_of_getElem? (i := 80) rfl), List.forall_mem_cons.mpr ⟨tb_5 _ (List.mem_of_getElem? (i := 2) rfl), List.forall_mem_cons.mpr ⟨tb_5 _ (List.mem_of_getElem? (i := 3) rfl), List.forall_mem_cons.mpr ⟨tb_5 _ (List.mem_of_getElem? (i := 4) rfl), List.forall_mem_cons.mpr ⟨tb_5 _ (List.mem_of_getElem? (i := 5) rfl), List.forall_mem_cons.mpr ⟨tb_5 _ (List.mem_of_getElem? (i := 10) rfl), List.forall_mem_cons.mpr ⟨tb_5 _ (List.mem_of_getElem? (i := 6) rfl), List.forall_mem_cons.mpr ⟨tb_5 _ (List.mem_of_getElem? (i := 7) rfl), List.forall_mem_cons.mpr ⟨tb_5 _ (List.mem_of_getElem? (i := 8) rfl), List.forall_mem_cons.mpr ⟨tb_5 _ (List.mem_of_getElem? (i := 9) rfl), List.forall_mem_cons.mpr ⟨tb_5 _ (List.mem_of_getElem? (i := 11) rfl), List.forall_mem_cons.mpr ⟨tb_5 _ (List.mem_of_getElem? (i := 12) rfl), fun _ h => absurd h List.not_mem_nil⟩⟩⟩⟩⟩⟩⟩⟩⟩⟩⟩⟩⟩⟩⟩⟩⟩⟩⟩⟩⟩⟩⟩⟩
set_option maxRecDepth 20000 in
theorem tr_27 : ∀ w ∈ wsL_law0_r27, w ∈ lw_tbl := List.forall_mem_cons.mpr ⟨tb_5 _ (List.mem_of_getElem? (i := 13) rfl), List.forall_mem_cons.mpr ⟨tb_5 _ (List.mem_of_getElem? (i := 14) rfl), List.forall_mem_cons.mpr ⟨tb_5 _ (List.mem_of_getElem? (i := 15) rfl), List.forall_mem_cons.mpr ⟨tb_5 _ (List.mem_of_getElem? (i := 16) rfl), List.forall_mem_cons.mpr ⟨tb_5 _ (List.mem_of_getElem? (i := 18) rfl), List.forall_mem_cons.mpr ⟨List.mem_append_left _ (List.mem_of_getElem? (i := 26) rfl), List.forall_mem_cons.mpr ⟨tb_5 _ (List.mem_of_getElem? (i := 19) rfl), List.forall_mem_cons.mpr ⟨tb_5 _ (List.mem_of_getElem? (i := 20) rfl), List.forall_mem_cons.mpr ⟨tb_5 _ (List.mem_of_getElem? (i := 21) rfl), List.forall_mem_cons.mpr ⟨tb_5 _ (List.mem_of_getElem? (i := 22) rfl), List.forall_mem_cons.mpr ⟨tb_5 _ (List.mem_of_getElem? (i := 23) rfl), List.forall_mem_cons.mpr ⟨tb_5 _ (List.mem_of_getElem? (i := 24) rfl), List.forall_mem_cons.mpr ⟨tb_5 _ (List.mem_of_getElem? (i := 25) rfl), List.forall_mem_cons.mpr ⟨tb_5 _ (List.mem_of_getElem? (i := 26) rfl), List.forall_mem_cons.mpr ⟨tb_5 _ (List.mem_of_getElem? (i := 27) rfl), List.forall_mem_cons.mpr ⟨tb_5 _ (List.mem_of_getElem? (i := 28) rfl), List.forall_mem_cons.mpr ⟨tb_5 _ (List.mem_of_getElem? (i := 29) rfl), List.forall_mem_cons.mpr ⟨tb_5 _ (List.mem_of_getElem? (i := 30) rfl), List.forall_mem_cons.mpr ⟨tb_5 _ (List.mem_of_getElem? (i := 31) rfl), List.forall_mem_cons.mpr ⟨tb_5 _ (List.mem_of_getElem? (i := 32) rfl), List.forall_mem_cons.mpr ⟨tb_5 _ (List.mem_of_getElem? (i := 33) rfl), List.forall_mem_cons.mpr ⟨tb_5 _ (List.mem_of_getElem? (i := 34) rfl), List.forall_mem_cons.mpr ⟨tb_5 _ (List.mem_of_getElem? (i := 36) rfl), List.forall_mem_cons.mpr ⟨List.mem_append_left _ (List.mem_of_getElem? (i := 27) rfl), fun _ h => absurd h List.not_mem_nil⟩⟩⟩⟩⟩⟩⟩⟩⟩⟩⟩⟩⟩⟩⟩⟩⟩⟩⟩⟩⟩⟩⟩⟩
set_option maxRecDepth 20000 in
theorem tr_28 : ∀ w ∈ wsL_law0_r28, w ∈ lw_tbl := List.forall_mem_cons.mpr ⟨tb_5 _ (List.mem_of_getElem? (i := 37) rfl), List.forall_mem_cons.mpr ⟨tb_5 _ (List.mem_of_getElem? (i := 38) rfl), List.forall_mem_cons.mpr ⟨tb_5 _ (List.mem_of_getElem? (i := 39) rfl), List.forall_mem_cons.mpr ⟨tb_5 _ (List.mem_of_getElem? (i := 40) rfl), List.forall_mem_cons.mpr ⟨tb_5 _ (List.mem_of_getElem? (i := 41) rfl), List.forall_mem_cons.mpr ⟨tb_5 _ (List.mem_of_getElem? (i := 42) rfl), List.forall_mem_cons.mpr ⟨tb_5 _ (List.mem_of_getElem? (i := 43) rfl), List.forall_mem_cons.mpr ⟨tb_5 _ (List.mem_of_getElem? (i := 44) rfl), List.forall_mem_cons.mpr ⟨tb_5 _ (List.mem_of_getElem? (i := 45) rfl), List.forall_mem_cons.mpr ⟨tb_5 _ (List.mem_of_getElem? (i := 46) rfl), List.forall_mem_cons.mpr ⟨tb_5 _ (List.mem_of_getElem? (i := 48) rfl), List.forall_mem_cons.mpr ⟨tb_5 _ (List.mem_of_getElem? (i := 49) rfl), List.forall_mem_cons.mpr ⟨tb_5 _ (List.mem_of_getElem? (i := 50) rfl), List.forall_mem_cons.mpr ⟨tb_5 _ (List.mem_of_getElem? (i := 52) rfl), List.forall_mem_cons.mpr ⟨tb_5 _ (List.mem_of_getElem? (i := 51) rfl), List.forall_mem_cons.mpr ⟨tb_1 _ (List.mem_of_getElem? (i := 21) rfl), List.forall_mem_cons.mpr ⟨tb_5 _ (List.mem_of_getElem? (i := 53) rfl), List.forall_mem_cons.mpr ⟨tb_5 _ (List.mem_of_getElem? (i := 55) rfl), List.forall_mem_cons.mpr ⟨List.mem_append_left _ (List.mem_of_getElem? (i := 28) rfl), List.forall_mem_cons.mpr ⟨tb_5 _ (List.mem_of_getElem? (i := 56) rfl), List.forall_mem_cons.mpr ⟨tb_5 _ (List.mem_of_getElem? (i := 57) rfl), List.forall_mem_cons.mpr ⟨tb_5 _ (List.mem_of_getElem? (i := 58) rfl), List.forall_mem_cons.mpr ⟨tb_5 _ (List.mem_of_getElem? (i := 59) rfl), List.forall_mem_cons.mpr ⟨tb_5 _ (List.mem_of_getElem? (i := 60) rfl), fun _ h => absurd h List.not_mem_nil⟩⟩⟩⟩⟩⟩⟩⟩⟩⟩⟩⟩⟩⟩⟩⟩⟩⟩⟩⟩⟩⟩⟩⟩
set_option maxRecDepth 20000 in
theorem tr_29 : ∀ w ∈ wsL_law0_r29, w ∈ lw_tbl := List.forall_mem_cons.mpr ⟨tb_5 _ (List.mem_of_getElem? (i := 61) rfl), List.forall_mem_cons.mpr ⟨tb_5 _ (List.mem_of_getElem? (i := 62) rfl), List.forall_mem_cons.mpr ⟨tb_5 _ (List.mem_of_getElem? (i := 63) rfl), List.forall_mem_cons.mpr ⟨tb_5 _ (List.mem_of_getElem? (i := 64) rfl), List.forall_mem_cons.mpr ⟨tb_5 _ (List.mem_of_getElem? (i := 65) rfl), List.forall_mem_cons.mpr ⟨tb_5 _ (List.mem_of_getElem? (i := 66) rfl), List.forall_mem_cons.mpr ⟨tb_5 _ (List.mem_of_getElem? (i := 67) rfl), List.forall_mem_cons.mpr ⟨tb_5 _ (List.mem_of_getElem? (i := 68) rfl), List.forall_mem_cons.mpr ⟨tb_5 _ (List.mem_of_getElem? (i := 69) rfl), List.forall_mem_cons.mpr ⟨tb_5 _ (List.mem_of_getElem? (i := 70) rfl), List.forall_mem_cons.mpr ⟨tb_5 _ (List.mem_of_getElem? (i := 71) rfl), List.forall_mem_cons.mpr ⟨tb_5 _ (List.mem_of_getElem? (i := 72) rfl), List.forall_mem_cons.mpr ⟨tb_5 _ (List.mem_of_getElem? (i := 73) rfl), List.forall_mem_cons.mpr ⟨tb_5 _ (List.mem_of_getElem? (i := 74) rfl), List.forall_mem_cons.mpr ⟨tb_5 _ (List.mem_of_getElem? (i := 75) rfl), List.forall_mem_cons.mpr ⟨tb_5 _ (List.mem_of_getElem? (i := 76) rfl), List.forall_mem_cons.mpr ⟨tb_5 _ (List.mem_of_getElem? (i := 77) rfl), List.forall_mem_cons.mpr ⟨tb_5 _ (List.mem_of_getElem? (i := 78) rfl), List.forall_mem_cons.mpr ⟨tb_5 _ (List.mem_of_getElem? (i := 79) rfl), List.forall_mem_cons.mpr ⟨tb_5 _ (List.mem_of_getElem? (i := 80) rfl), List.forall_mem_cons.mpr ⟨tb_3 _ (List.mem_of_getElem? (i := 61) rfl), List.forall_mem_cons.mpr ⟨tb_3 _ (List.mem_of_getElem? (i := 62) rfl), List.forall_mem_cons.mpr ⟨tb_3 _ (List.mem_of_getElem? (i := 63) rfl), List.forall_mem_cons.mpr ⟨tb_3 _ (List.mem_of_getElem? (i := 152) rfl), fun _ h => absurd h List.not_mem_nil⟩⟩⟩⟩⟩⟩⟩⟩⟩⟩⟩⟩⟩⟩⟩⟩⟩⟩⟩⟩⟩⟩⟩⟩
set_option maxRecDepth 20000 in
theorem tr_30 : ∀ w ∈ wsL_law0_r30, w ∈ lw_tbl := List.forall_mem_cons.mpr ⟨tb_3 _ (List.mem_of_getElem? (i := 64) rfl), List.forall_mem_cons.mpr ⟨tb_3 _ (List.mem_of_getElem? (i := 65) rfl), List.forall_mem_cons.mpr ⟨tb_3 _ (List.mem_of_getElem? (i := 66) rfl), List.forall_mem_cons.mpr ⟨tb_3 _ (List.mem_of_getElem? (i := 67) rfl), List.forall_mem_cons.mpr ⟨tb_3 _ (List.mem_of_getElem? (i := 68) rfl), List.forall_mem_cons.mpr ⟨tb_3 _ (List.mem_of_getElem? (i := 69) rfl), List.forall_mem_cons.mpr ⟨tb_3 _ (List.mem_of_getElem? (i := 70) rfl), List.forall_mem_cons.mpr ⟨tb_3 _ (List.mem_of_getElem? (i := 71) rfl), List.forall_mem_cons.mpr ⟨tb_3 _ (List.mem_of_getElem? (i := 72) rfl), List.forall_mem_cons.mpr ⟨tb_3 _ (List.mem_of_getElem? (i := 73) rfl), List.forall_mem_cons.mpr ⟨tb_3 _ (List.mem_of_getElem? (i := 74) rfl), List.forall_mem_cons.mpr ⟨tb_3 _ (List.mem_of_getElem? (i := 76) rfl), List.forall_mem_cons.mpr ⟨tb_3 _ (List.mem_of_getElem? (i := 77) rfl), List.forall_mem_cons.mpr ⟨tb_3 _ (List.mem_of_getElem? (i := 78) rfl), List.forall_mem_cons.mpr ⟨tb_3 _ (List.mem_of_getElem? (i := 79) rfl), List.forall_mem_cons.mpr ⟨tb_3 _ (List.mem_of_getElem? (i := 80) rfl), List.forall_mem_cons.mpr ⟨tb_3 _ (List.mem_of_getElem? (i := 81) rfl), List.forall_mem_cons.mpr ⟨tb_3 _ (List.mem_of_getElem? (i := 82) rfl), List.forall_mem_cons.mpr ⟨tb_3 _ (List.mem_of_getElem? (i := 83) rfl), List.forall_mem_cons.mpr ⟨tb_3 _ (List.mem_of_getElem? (i := 84) rfl), List.forall_mem_cons.mpr ⟨tb_3 _ (List.mem_of_getElem? (i := 85) rfl), List.forall_mem_cons.mpr ⟨tb_3 _ (List.mem_of_getElem? (i := 87) rfl), List.forall_mem_cons.mpr ⟨tb_3 _ (List.mem_of_getElem? (i := 88) rfl), List.forall_mem_cons.mpr ⟨tb_3 _ (List.mem_of_getElem? (i := 89) rfl), fun _ h => absurd h List.not_mem_nil⟩⟩⟩⟩⟩⟩⟩⟩⟩⟩⟩⟩⟩⟩⟩⟩⟩⟩⟩⟩⟩⟩⟩⟩
set_option maxRecDepth 20000 in
theorem tr_31 : ∀ w ∈ wsL_law0_r31, w ∈ lw_tbl := List.forall_mem_cons.mpr ⟨tb_3 _ (List.mem_of_getElem? (i := 90) rfl), List.forall_mem_cons.mpr ⟨tb_3 _ (List.mem_of_getElem? (i := 91) rfl), List.forall_mem_cons.mpr ⟨tb_3 _ (List.mem_of_getElem? (i := 92) rfl), List.forall_mem_cons.mpr ⟨tb_3 _ (List.mem_of_getElem? (i := 93) rfl), List.forall_mem_cons.mpr ⟨tb_3 _ (List.mem_of_getElem? (i := 94) rfl), List.forall_mem_cons.mpr ⟨tb_3 _ (List.mem_of_getElem? (i := 95) rfl), List.forall_mem_cons.mpr ⟨tb_3 _ (List.mem_of_getElem? (i := 96) rfl), List.forall_mem_cons.mpr ⟨tb_3 _ (List.mem_of_getElem? (i := 97) rfl), List.forall_mem_cons.mpr ⟨tb_3 _ (List.mem_of_getElem? (i := 99) rfl), List.forall_mem_cons.mpr ⟨tb_3 _ (List.mem_of_getElem? (i := 100) rfl), List.forall_mem_cons.mpr ⟨tb_3 _ (List.mem_of_getElem? (i := 101) rfl), List.forall_mem_cons.mpr ⟨tb_3 _ (List.mem_of_getElem? (i := 102) rfl), List.forall_mem_cons.mpr ⟨tb_3 _ (List.mem_of_getElem? (i := 103) rfl), List.forall_mem_cons.mpr ⟨tb_3 _ (List.mem_of_getElem? (i := 104) rfl), List.forall_mem_cons.mpr ⟨tb_3 _ (List.mem_of_getElem? (i := 105) rfl), List.forall_mem_cons.mpr ⟨tb_3 _ (List.mem_of_getElem? (i := 106) rfl), List.forall_mem_cons.mpr ⟨tb_3 _ (List.mem_of_getElem? (i := 107) rfl), List.forall_mem_cons.mpr ⟨tb_3 _ (List.mem_of_getElem? (i := 108) rfl), List.forall_mem_cons.mpr ⟨tb_3 _ (List.mem_of_getElem? (i := 109) rfl), List.forall_mem_cons.mpr ⟨tb_3 _ (List.mem_of_getElem? (i := 110) rfl), List.forall_mem_cons.mpr ⟨tb_3 _ (List.mem_of_getElem? (i := 111) rfl), List.forall_mem_cons.mpr ⟨tb_3 _ (List.mem_of_getElem? (i := 112) rfl), List.forall_mem_cons.mpr ⟨tb_3 _ (List.mem_of_getElem? (i := 113) rfl), List.forall_mem_cons.mpr ⟨tb_3 _ (List.mem_of_getElem? (i := 114) rfl), fun _ h => absurd h List.not_mem_nil⟩⟩⟩⟩⟩⟩⟩⟩⟩⟩⟩⟩⟩⟩⟩⟩⟩⟩⟩⟩⟩⟩⟩⟩
set_option maxRecDepth 20000 in
theorem tr_32 : ∀ w ∈ wsL_law0_r32, w ∈ lw_tbl := List.forall_mem_cons.mpr ⟨tb_3 _ (List.mem_of_getElem? (i := 115) rfl), List.forall_mem_cons.mpr ⟨tb_3 _ (List.mem_of_getElem? (i := 116) rfl), List.forall_mem_cons.mpr ⟨tb_3 _ (List.mem_of_getElem? (i := 117) rfl), List.forall_mem_cons.mpr ⟨tb_3 _ (List.mem_of_getElem? (i := 118) rfl), List.forall_mem_cons.mpr ⟨tb_3 _ (List.mem_of_getElem? (i := 119) rfl), List.forall_mem_cons.mpr ⟨tb_3 _ (List.mem_of_getElem? (i := 121) rfl), List.forall_mem_cons.mpr ⟨List.mem_append_left _ (List.mem_of_getElem? (i := 9) rfl), List.forall_mem_cons.mpr ⟨tb_3 _ (List.mem_of_getElem? (i := 122) rfl), List.forall_mem_cons.mpr ⟨tb_3 _ (List.mem_of_getElem? (i := 123) rfl), List.forall_mem_cons.mpr ⟨tb_3 _ (List.mem_of_getElem? (i := 124) rfl), List.forall_mem_cons.mpr ⟨tb_3 _ (List.mem_of_getElem? (i := 126) rfl), List.forall_mem_cons.mpr ⟨List.mem_append_left _ (List.mem_of_getElem? (i := 10) rfl), List.forall_mem_cons.mpr ⟨tb_3 _ (List.mem_of_getElem? (i := 127) rfl), List.forall_mem_cons.mpr ⟨tb_3 _ (List.mem_of_getElem? (i := 128) rfl), List.forall_mem_cons.mpr ⟨tb_3 _ (List.mem_of_getElem? (i := 129) rfl), List.forall_mem_cons.mpr ⟨tb_3 _ (List.mem_of_getElem? (i := 130) rfl), List.forall_mem_cons.mpr ⟨tb_3 _ (List.mem_of_getElem? (i := 131) rfl), List.forall_mem_cons.mpr ⟨tb_3 _ (List.mem_of_getElem? (i := 132) rfl), List.forall_mem_cons.mpr ⟨tb_3 _ (List.mem_of_getElem? (i := 133) rfl), List.forall_mem_cons.mpr ⟨tb_3 _ (List.mem_of_getElem? (i := 134) rfl), List.forall_mem_cons.mpr ⟨tb_3 _ (List.mem_of_getElem? (i := 135) rfl), List.forall_mem_cons.mpr ⟨tb_3 _ (List.mem_of_getElem? (i := 136) rfl), List.forall_mem_cons.mpr ⟨tb_3 _ (List.mem_of_getElem? (i := 137) rfl), List.forall_mem_cons.mpr ⟨tb_3 _ (List.mem_of_getElem? (i := 138) rfl), fun _ h => absurd h List.not_mem_nil⟩⟩⟩⟩⟩⟩⟩⟩⟩⟩⟩⟩⟩⟩⟩⟩⟩⟩⟩⟩⟩⟩⟩⟩
set_option maxRecDepth 20000 in
theorem tr_33 : ∀ w ∈ wsL_law0_r33, w ∈ lw_tbl := List.forall_mem_cons.mpr ⟨tb_3 _ (List.mem_of_getElem? (i := 139) rfl), List.forall_mem_cons.mpr ⟨tb_3 _ (List.mem_of_getElem? (i := 140) rfl), List.forall_mem_cons.mpr ⟨tb_3 _ (List.mem_of_getElem? (i := 141) rfl), List.forall_mem_cons.mpr ⟨tb_3 _ (List.mem_of_getElem? (i := 142) rfl), List.forall_mem_cons.mpr ⟨tb_3 _ (List.mem_of_getElem? (i := 143) rfl), List.forall_mem_cons.mpr ⟨tb_3 _ (List.mem_of_getElem? (i := 146) rfl), List.forall_mem_cons.mpr ⟨tb_3 _ (List.mem_of_getElem? (i := 144) rfl), List.forall_mem_cons.mpr ⟨tb_3 _ (List.mem_of_getElem? (i := 145) rfl), List.forall_mem_cons.mpr ⟨tb_3 _ (List.mem_of_getElem? (i := 147) rfl), List.forall_mem_cons.mpr ⟨tb_3 _ (List.mem_of_getElem? (i := 149) rfl), List.forall_mem_cons.mpr ⟨List.mem_append_left _ (List.mem_of_getElem? (i := 11) rfl), List.forall_mem_cons.mpr ⟨tb_3 _ (List.mem_of_getElem? (i := 150) rfl), List.forall_mem_cons.mpr ⟨tb_3 _ (List.mem_of_getElem? (i := 151) rfl), List.forall_mem_cons.mpr ⟨tb_3 _ (List.mem_of_getElem? (i := 153) rfl), List.forall_mem_cons.mpr ⟨tb_3 _ (List.mem_of_getElem? (i := 154) rfl), List.forall_mem_cons.mpr ⟨tb_3 _ (List.mem_of_getElem? (i := 155) rfl), List.forall_mem_cons.mpr ⟨tb_3 _ (List.mem_of_getElem? (i := 156) rfl), List.forall_mem_cons.mpr ⟨tb_3 _ (List.mem_of_getElem? (i := 157) rfl), List.forall_mem_cons.mpr ⟨tb_3 _ (List.mem_of_getElem? (i := 158) rfl), List.forall_mem_cons.mpr ⟨tb_3 _ (List.mem_of_getElem? (i := 159) rfl), List.forall_mem_cons.mpr ⟨tb_3 _ (List.mem_of_getElem? (i := 160) rfl), List.forall_mem_cons.mpr ⟨tb_3 _ (List.mem_of_getElem? (i := 161) rfl), List.forall_mem_cons.mpr ⟨tb_3 _ (List.mem_of_getElem? (i := 162) rfl), List.forall_mem_cons.mpr ⟨tb_3 _ (List.mem_of_getElem? (i := 163) rfl), fun _ h => absurd h List.not_mem_nil⟩⟩⟩⟩⟩⟩⟩⟩⟩⟩⟩⟩⟩⟩⟩⟩⟩⟩⟩⟩⟩⟩⟩⟩
set_option maxRecDepth 20000 in
theorem tr_34 : ∀ w ∈ wsL_law0_r34, w ∈ lw_tbl := List.forall_mem_cons.mpr ⟨tb_5 _ (List.mem_of_getElem? (i := 81) rfl), List.forall_mem_cons.mpr ⟨tb_5 _ (List.mem_of_getElem? (i := 82) rfl), List.forall_mem_cons.mpr ⟨tb_5 _ (List.mem_of_getElem? (i := 83) rfl), List.forall_mem_cons.mpr ⟨tb_5 _ (List.mem_of_getElem? (i := 84) rfl), List.forall_mem_cons.mpr ⟨tb_5 _ (List.mem_of_getElem? (i := 85) rfl), List.forall_mem_cons.mpr ⟨tb_5 _ (List.mem_of_getElem? (i := 86) rfl), List.forall_mem_cons.mpr ⟨tb_5 _ (List.mem_of_getElem? (i := 87) rfl), List.forall_mem_cons.mpr ⟨tb_5 _ (List.mem_of_getElem? (i := 88) rfl), List.forall_mem_cons.mpr ⟨tb_5 _ (List.mem_of_getElem? (i := 89) rfl), List.forall_mem_cons.mpr ⟨tb_5 _ (List.mem_of_getElem? (i := 90) rfl), List.forall_mem_cons.mpr ⟨tb_2 _ (List.mem_of_getElem? (i := 82) rfl), List.forall_mem_cons.mpr ⟨tb_5 _ (List.mem_of_getElem? (i := 92) rfl), List.forall_mem_cons.mpr ⟨tb_5 _ (List.mem_of_getElem? (i := 93) rfl), List.forall_mem_cons.mpr ⟨tb_5 _ (List.mem_of_getElem? (i := 94) rfl), List.forall_mem_cons.mpr ⟨tb_5 _ (List.mem_of_getElem? (i := 95) rfl), List.forall_mem_cons.mpr ⟨tb_5 _ (List.mem_of_getElem? (i := 96) rfl), List.forall_mem_cons.mpr ⟨tb_5 _ (List.mem_of_getElem? (i := 97) rfl), List.forall_mem_cons.mpr ⟨tb_5 _ (List.mem_of_getElem? (i := 98) rfl), List.forall_mem_cons.mpr ⟨tb_5 _ (List.mem_of_getElem? (i := 99) rfl), List.forall_mem_cons.mpr ⟨tb_5 _ (List.mem_of_getElem? (i := 100) rfl), List.forall_mem_cons.mpr ⟨tb_5 _ (List.mem_of_getElem? (i := 102) rfl), List.forall_mem_cons.mpr ⟨List.mem_append_left _ (List.mem_of_getElem? (i := 29) rfl), List.forall_mem_cons.mpr ⟨tb_5 _ (List.mem_of_getElem? (i := 103) rfl), List.forall_mem_cons.mpr ⟨tb_5 _ (List.mem_of_getElem? (i := 106) rfl), fun _ h => absurd h List.not_mem_nil⟩⟩⟩⟩⟩⟩⟩⟩⟩⟩⟩⟩⟩⟩⟩⟩⟩⟩⟩⟩⟩⟩⟩⟩
set_option maxRecDepth 20000 in
theorem tr_35 : ∀ w ∈ wsL_law0_r35, w ∈ lw_tbl := List.forall_mem_cons.mpr ⟨tb_5 _ (List.mem_of_getElem? (i := 107) rfl), List.forall_mem_cons.mpr ⟨tb_5 _ (List.mem_of_getElem? (i := 109) rfl), List.forall_mem_cons.mpr ⟨tb_5 _ (List.mem_of_getElem? (i := 110) rfl), List.forall_mem_cons.mpr ⟨tb_5 _ (List.mem_of_getElem? (i := 111) rfl), List.forall_mem_cons.mpr ⟨tb_5 _ (List.mem_of_getElem? (i := 112) rfl), List.forall_mem_cons.mpr ⟨tb_5 _ (List.mem_of_getElem? (i := 113) rfl), List.forall_mem_cons.mpr ⟨tb_5 _ (List.mem_of_getElem? (i := 114) rfl), List.forall_mem_cons.mpr ⟨tb_5 _ (List.mem_of_getElem? (i := 115) rfl), List.forall_mem_cons.mpr ⟨tb_5 _ (List.mem_of_getElem? (i := 116) rfl), List.forall_mem_cons.mpr ⟨tb_5 _ (List.mem_of_getElem? (i := 117) rfl), List.forall_mem_cons.mpr ⟨tb_5 _ (List.mem_of_getElem? (i := 118) rfl), List.forall_mem_cons.mpr ⟨tb_5 _ (List.mem_of_getElem? (i := 119) rfl), List.forall_mem_cons.mpr ⟨tb_5 _ (List.mem_of_getElem? (i := 120) rfl), List.forall_mem_cons.mpr ⟨tb_5 _ (List.mem_of_getElem? (i := 121) rfl), List.forall_mem_cons.mpr ⟨tb_5 _ (List.mem_of_getElem? (i := 122) rfl), List.forall_mem_cons.mpr ⟨tb_5 _ (List.mem_of_getElem? (i := 123) rfl), List.forall_mem_cons.mpr ⟨tb_5 _ (List.mem_of_getElem? (i := 124) rfl), List.forall_mem_cons.mpr ⟨tb_5 _ (List.mem_of_getElem? (i := 125) rfl), List.forall_mem_cons.mpr ⟨tb_5 _ (List.mem_of_getElem? (i := 126) rfl), List.forall_mem_cons.mpr ⟨tb_5 _ (List.mem_of_getElem? (i := 128) rfl), List.forall_mem_cons.mpr ⟨tb_5 _ (List.mem_of_getElem? (i := 129) rfl), List.forall_mem_cons.mpr ⟨tb_5 _ (List.mem_of_getElem? (i := 130) rfl), List.forall_mem_cons.mpr ⟨tb_5 _ (List.mem_of_getElem? (i := 131) rfl), List.forall_mem_cons.mpr ⟨tb_5 _ (List.mem_of_getElem? (i := 132) rfl), fun _ h => absurd h List.not_mem_nil⟩⟩⟩⟩⟩⟩⟩⟩⟩⟩⟩⟩⟩⟩⟩⟩⟩⟩⟩⟩⟩⟩⟩⟩
set_option maxRecDepth 20000 in
theorem tr_36 : ∀ w ∈ wsL_law0_r36, w ∈ lw_tbl := List.forall_mem_cons.mpr ⟨tb_5 _ (List.mem_of_getElem? (i := 133) rfl), List.forall_mem_cons.mpr ⟨tb_5 _ (List.mem_of_getElem? (i := 134) rfl), List.forall_mem_cons.mpr ⟨tb_5 _ (List.mem_of_getElem? (i := 135) rfl), List.forall_mem_cons.mpr ⟨tb_5 _ (List.mem_of_getElem? (i := 136) rfl), List.forall_mem_cons.mpr ⟨tb_5 _ (List.mem_of_getElem? (i := 137) rfl), List.forall_mem_cons.mpr ⟨tb_5 _ (List.mem_of_getElem? (i := 138) rfl), List.forall_mem_cons.mpr ⟨tb_5 _ (List.mem_of_getElem? (i := 139) rfl), List.forall_mem_cons.mpr ⟨tb_5 _ (List.mem_of_getElem? (i := 140) rfl), List.forall_mem_cons.mpr ⟨tb_5 _ (List.mem_of_getElem? (i := 141) rfl), List.forall_mem_cons.mpr ⟨tb_5 _ (List.mem_of_getElem? (i := 142) rfl), List.forall_mem_cons.mpr ⟨tb_5 _ (List.mem_of_getElem? (i := 143) rfl), List.forall_mem_cons.mpr ⟨tb_5 _ (List.mem_of_getElem? (i := 144) rfl), List.forall_mem_cons.mpr ⟨tb_5 _ (List.mem_of_getElem? (i := 145) rfl), List.forall_mem_cons.mpr ⟨tb_5 _ (List.mem_of_getElem? (i := 146) rfl), List.forall_mem_cons.mpr ⟨tb_5 _ (List.mem_of_getElem? (i := 147) rfl), List.forall_mem_cons.mpr ⟨tb_5 _ (List.mem_of_getElem? (i := 148) rfl), List.forall_mem_cons.mpr ⟨tb_5 _ (List.mem_of_getElem? (i := 149) rfl), List.forall_mem_cons.mpr ⟨tb_5 _ (List.mem_of_getElem? (i := 150) rfl), List.forall_mem_cons.mpr ⟨tb_5 _ (List.mem_of_getElem? (i := 151) rfl), List.forall_mem_cons.mpr ⟨tb_5 _ (List.mem_of_getElem? (i := 152) rfl), List.forall_mem_cons.mpr ⟨tb_5 _ (List.mem_of_getElem? (i := 154) rfl), List.forall_mem_cons.mpr ⟨tb_5 _ (List.mem_of_getElem? (i := 155) rfl), List.forall_mem_cons.mpr ⟨tb_5 _ (List.mem_of_getElem? (i := 156) rfl), List.forall_mem_cons.mpr ⟨tb_5 _ (List.mem_of_getElem? (i := 157) rfl), fun _ h => absurd h List.not_mem_nil⟩⟩⟩⟩⟩⟩⟩⟩⟩⟩⟩⟩⟩⟩⟩⟩⟩⟩⟩⟩⟩⟩⟩⟩
set_option maxRecDepth 20000 in
theorem tr_37 : ∀ w ∈ wsL_law0_r37, w ∈ lw_tbl := List.forall_mem_cons.mpr ⟨tb_5 _ (List.mem_of_getElem? (i := 159) rfl), List.forall_mem_cons.mpr ⟨tb_5 _ (List.mem_of_getElem? (i := 158) rfl), List.forall_mem_cons.mpr ⟨tb_5 _ (List.mem_of_getElem? (i := 160) rfl), List.forall_mem_cons.mpr ⟨tb_5 _ (List.mem_of_getElem? (i := 161) rfl), List.forall_mem_cons.mpr ⟨tb_5 _ (List.mem_of_getElem? (i := 163) rfl), List.forall_mem_cons.mpr ⟨List.mem_append_left _ (List.mem_of_getElem? (i := 30) rfl), List.forall_mem_cons.mpr ⟨tb_5 _ (List.mem_of_getElem? (i := 164) rfl), List.forall_mem_cons.mpr ⟨tb_5 _ (List.mem_of_getElem? (i := 165) rfl), List.forall_mem_cons.mpr ⟨tb_5 _ (List.mem_of_getElem? (i := 166) rfl), List.forall_mem_cons.mpr ⟨tb_5 _ (List.mem_of_getElem? (i := 167) rfl), List.forall_mem_cons.mpr ⟨tb_5 _ (List.mem_of_getElem? (i := 169) rfl), List.forall_mem_cons.mpr ⟨List.mem_append_left _ (List.mem_of_getElem? (i := 31) rfl), List.forall_mem_cons.mpr ⟨tb_5 _ (List.mem_of_getElem? (i := 170) rfl), List.forall_mem_cons.mpr ⟨tb_5 _ (List.mem_of_getElem? (i := 171) rfl), List.forall_mem_cons.mpr ⟨tb_5 _ (List.mem_of_getElem? (i := 172) rfl), List.forall_mem_cons.mpr ⟨tb_5 _ (List.mem_of_getElem? (i := 173) rfl), List.forall_mem_cons.mpr ⟨tb_5 _ (List.mem_of_getElem? (i := 174) rfl), List.forall_mem_cons.mpr ⟨tb_5 _ (List.mem_of_getElem? (i := 175) rfl), List.forall_mem_cons.mpr ⟨tb_5 _ (List.mem_of_getElem? (i := 176) rfl), List.forall_mem_cons.mpr ⟨tb_5 _ (List.mem_of_getElem? (i := 177) rfl), List.forall_mem_cons.mpr ⟨tb_5 _ (List.mem_of_getElem? (i := 178) rfl), List.forall_mem_cons.mpr ⟨tb_5 _ (List.mem_of_getElem? (i := 179) rfl), List.forall_mem_cons.mpr ⟨tb_5 _ (List.mem_of_getElem? (i := 180) rfl), List.forall_mem_cons.mpr ⟨tb_5 _ (List.mem_of_getElem? (i := 181) rfl), fun _ h => absurd h List.not_mem_nil⟩⟩⟩⟩⟩⟩⟩⟩⟩⟩⟩⟩⟩⟩⟩⟩⟩⟩⟩⟩⟩⟩⟩⟩
set_option maxRecDepth 20000 in
theorem tr_38 : ∀ w ∈ wsL_law0_r38, w ∈ lw_tbl := List.forall_mem_cons.mpr ⟨tb_5 _ (List.mem_of_getElem? (i := 182) rfl), List.forall_mem_cons.mpr ⟨tb_5 _ (List.mem_of_getElem? (i := 183) rfl), List.forall_mem_cons.mpr ⟨tb_5 _ (List.mem_of_getElem? (i := 184) rfl), List.forall_mem_cons.mpr ⟨tb_5 _ (List.mem_of_getElem? (i := 186) rfl), List.forall_mem_cons.mpr ⟨tb_5 _ (List.mem_of_getElem? (i := 187) rfl), List.forall_mem_cons.mpr ⟨tb_5 _ (List.mem_of_getElem? (i := 188) rfl), List.forall_mem_cons.mpr ⟨tb_5 _ (List.mem_of_getElem? (i := 189) rfl), List.forall_mem_cons.mpr ⟨tb_5 _ (List.mem_of_getElem? (i := 190) rfl), List.forall_mem_cons.mpr ⟨tb_5 _ (List.mem_of_getElem? (i := 192) rfl), List.forall_mem_cons.mpr ⟨List.mem_append_left _ (List.mem_of_getElem? (i := 32) rfl), List.forall_mem_cons.mpr ⟨tb_5 _ (List.mem_of_getElem? (i := 193) rfl), List.forall_mem_cons.mpr ⟨tb_5 _ (List.mem_of_getElem? (i := 194) rfl), List.forall_mem_cons.mpr ⟨tb_5 _ (List.mem_of_getElem? (i := 195) rfl), List.forall_mem_cons.mpr ⟨tb_5 _ (List.mem_of_getElem? (i := 196) rfl), List.forall_mem_cons.mpr ⟨tb_5 _ (List.mem_of_getElem? (i := 197) rfl), List.forall_mem_cons.mpr ⟨tb_5 _ (List.mem_of_getElem? (i := 198) rfl), List.forall_mem_cons.mpr ⟨tb_5 _ (List.mem_of_getElem? (i := 199) rfl), List.forall_mem_cons.mpr ⟨tb_5 _ (List.mem_of_getElem? (i := 200) rfl), List.forall_mem_cons.mpr ⟨tb_5 _ (List.mem_of_getElem? (i := 201) rfl), List.forall_mem_cons.mpr ⟨tb_5 _ (List.mem_of_getElem? (i := 202) rfl), fun _ h => absurd h List.not_mem_nil⟩⟩⟩⟩⟩⟩⟩⟩⟩⟩⟩⟩⟩⟩⟩⟩⟩⟩⟩⟩
theorem tf_X11 : ∀ w ∈ wsX110, w ∈ lw_tbl := by
  intro w h
  obtain ⟨k, hk, rfl⟩ := List.mem_map.mp h
  have hk := List.mem_range.mp hk
  match k, hk with
  | 0, _ => exact tb_2 _ (List.mem_of_getElem? (i := 84) rfl)
  | 1, _ => exact tb_2 _ (List.mem_of_getElem? (i := 86) rfl)
  | 2, _ => exact tb_2 _ (List.mem_of_getElem? (i := 88) rfl)
  | 3, _ => exact tb_2 _ (List.mem_of_getElem? (i := 90) rfl)
  | 4, _ => exact tb_2 _ (List.mem_of_getElem? (i := 92) rfl)
  | 5, _ => exact tb_2 _ (List.mem_of_getElem? (i := 94) rfl)
  | 6, _ => exact tb_2 _ (List.mem_of_getElem? (i := 96) rfl)
  | 7, _ => exact tb_2 _ (List.mem_of_getElem? (i := 98) rfl)
  | 8, _ => exact tb_2 _ (List.mem_of_getElem? (i := 100) rfl)
  | 9, _ => exact tb_2 _ (List.mem_of_getElem? (i := 102) rfl)
  | 10, _ => exact tb_2 _ (List.mem_of_getElem? (i := 104) rfl)
  | k + 11, h => exact absurd h (by omega)
theorem tf_X0 : ∀ w ∈ wsX00, w ∈ lw_tbl := by
  intro w h
  obtain ⟨k, hk, rfl⟩ := List.mem_map.mp h
  have hk := List.mem_range.mp hk
  match k, hk with
  | 0, _ => exact tb_1 _ (List.mem_of_getElem? (i := 55) rfl)
  | 1, _ => exact tb_1 _ (List.mem_of_getElem? (i := 57) rfl)
  | k + 2, h => exact absurd h (by omega)
theorem tf_X1 : ∀ w ∈ wsX10, w ∈ lw_tbl := by
  intro w h
  obtain ⟨k, hk, rfl⟩ := List.mem_map.mp h
  have hk := List.mem_range.mp hk
  match k, hk with
  | 0, _ => exact tb_1 _ (List.mem_of_getElem? (i := 130) rfl)
  | 1, _ => exact tb_1 _ (List.mem_of_getElem? (i := 132) rfl)
  | 2, _ => exact tb_1 _ (List.mem_of_getElem? (i := 134) rfl)
  | 3, _ => exact tb_1 _ (List.mem_of_getElem? (i := 136) rfl)
  | 4, _ => exact tb_1 _ (List.mem_of_getElem? (i := 138) rfl)
  | 5, _ => exact tb_1 _ (List.mem_of_getElem? (i := 140) rfl)
  | 6, _ => exact tb_1 _ (List.mem_of_getElem? (i := 142) rfl)
  | k + 7, h => exact absurd h (by omega)
theorem tf_X5 : ∀ w ∈ wsX50, w ∈ lw_tbl := by
  intro w h
  obtain ⟨k, hk, rfl⟩ := List.mem_map.mp h
  have hk := List.mem_range.mp hk
  match k, hk with
  | 0, _ => exact tb_1 _ (List.mem_of_getElem? (i := 155) rfl)
  | 1, _ => exact tb_1 _ (List.mem_of_getElem? (i := 157) rfl)
  | 2, _ => exact tb_1 _ (List.mem_of_getElem? (i := 159) rfl)
  | k + 3, h => exact absurd h (by omega)
theorem tf_X9 : ∀ w ∈ wsX90, w ∈ lw_tbl := by
  intro w h
  obtain ⟨k, hk, rfl⟩ := List.mem_map.mp h
  have hk := List.mem_range.mp hk
  match k, hk with
  | 0, _ => exact tb_1 _ (List.mem_of_getElem? (i := 213) rfl)
  | 1, _ => exact tb_1 _ (List.mem_of_getElem? (i := 215) rfl)
  | 2, _ => exact tb_1 _ (List.mem_of_getElem? (i := 217) rfl)
  | 3, _ => exact tb_1 _ (List.mem_of_getElem? (i := 219) rfl)
  | k + 4, h => exact absurd h (by omega)
theorem tf_X10 : ∀ w ∈ wsX100, w ∈ lw_tbl := by
  intro w h
  obtain ⟨k, hk, rfl⟩ := List.mem_map.mp h
  have hk := List.mem_range.mp hk
  match k, hk with
  | 0, _ => exact tb_1 _ (List.mem_of_getElem? (i := 235) rfl)
  | 1, _ => exact tb_1 _ (List.mem_of_getElem? (i := 237) rfl)
  | 2, _ => exact tb_1 _ (List.mem_of_getElem? (i := 239) rfl)
  | 3, _ => exact tb_2 _ (List.mem_of_getElem? (i := 1) rfl)
  | 4, _ => exact tb_2 _ (List.mem_of_getElem? (i := 3) rfl)
  | 5, _ => exact tb_2 _ (List.mem_of_getElem? (i := 5) rfl)
  | k + 6, h => exact absurd h (by omega)
theorem tf_X8 : ∀ w ∈ wsX80, w ∈ lw_tbl := by
  intro w h
  obtain ⟨k, hk, rfl⟩ := List.mem_map.mp h
  have hk := List.mem_range.mp hk
  match k, hk with
  | 0, _ => exact tb_2 _ (List.mem_of_getElem? (i := 22) rfl)
  | 1, _ => exact tb_2 _ (List.mem_of_getElem? (i := 24) rfl)
  | 2, _ => exact tb_2 _ (List.mem_of_getElem? (i := 26) rfl)
  | 3, _ => exact tb_2 _ (List.mem_of_getElem? (i := 28) rfl)
  | k + 4, h => exact absurd h (by omega)
theorem tf_X3 : ∀ w ∈ wsX30, w ∈ lw_tbl := by
  intro w h
  obtain ⟨k, hk, rfl⟩ := List.mem_map.mp h
  have hk := List.mem_range.mp hk
  match k, hk with
  | 0, _ => exact tb_2 _ (List.mem_of_getElem? (i := 42) rfl)
  | 1, _ => exact tb_2 _ (List.mem_of_getElem? (i := 44) rfl)
  | 2, _ => exact tb_2 _ (List.mem_of_getElem? (i := 46) rfl)
  | 3, _ => exact tb_2 _ (List.mem_of_getElem? (i := 48) rfl)
  | 4, _ => exact tb_2 _ (List.mem_of_getElem? (i := 50) rfl)
  | k + 5, h => exact absurd h (by omega)
theorem tf_X7 : ∀ w ∈ wsX70, w ∈ lw_tbl := by
  intro w h
  obtain ⟨k, hk, rfl⟩ := List.mem_map.mp h
  have hk := List.mem_range.mp hk
  match k, hk with
  | 0, _ => exact tb_1 _ (List.mem_of_getElem? (i := 202) rfl)
  | 1, _ => exact tb_1 _ (List.mem_of_getElem? (i := 204) rfl)
  | 2, _ => exact tb_1 _ (List.mem_of_getElem? (i := 206) rfl)
  | k + 3, h => exact absurd h (by omega)
theorem tf_X4 : ∀ w ∈ wsX40, w ∈ lw_tbl := by
  intro w h
  obtain ⟨k, hk, rfl⟩ := List.mem_map.mp h
  have hk := List.mem_range.mp hk
  match k, hk with
  | 0, _ => exact tb_2 _ (List.mem_of_getElem? (i := 66) rfl)
  | 1, _ => exact tb_2 _ (List.mem_of_getElem? (i := 68) rfl)
  | 2, _ => exact tb_2 _ (List.mem_of_getElem? (i := 70) rfl)
  | k + 3, h => exact absurd h (by omega)
theorem tf_X6 : ∀ w ∈ wsX60, w ∈ lw_tbl := by
  intro w h
  obtain ⟨k, hk, rfl⟩ := List.mem_map.mp h
  have hk := List.mem_range.mp hk
  match k, hk with
  | 0, _ => exact tb_1 _ (List.mem_of_getElem? (i := 180) rfl)
  | 1, _ => exact tb_1 _ (List.mem_of_getElem? (i := 182) rfl)
  | 2, _ => exact tb_1 _ (List.mem_of_getElem? (i := 184) rfl)
  | 3, _ => exact tb_1 _ (List.mem_of_getElem? (i := 186) rfl)
  | 4, _ => exact tb_1 _ (List.mem_of_getElem? (i := 188) rfl)
  | 5, _ => exact tb_1 _ (List.mem_of_getElem? (i := 190) rfl)
  | k + 6, h => exact absurd h (by omega)
set_option maxRecDepth 20000 in
theorem wsL_law_x0 : ∀ w ∈ (vx_atS RX11 88 "java/lang/IllegalArgumentException" ["java/lang/RuntimeException", "java/lang/Exception"]).filter goodWord, w ∈ lw_tbl := by decide +kernel
set_option maxRecDepth 20000 in
theorem wsL_law_x1 : ∀ w ∈ (vx_atS RX11 121 "java/lang/IndexOutOfBoundsException" ["java/lang/RuntimeException", "java/lang/Exception"]).filter goodWord, w ∈ lw_tbl := by decide +kernel
set_option maxRecDepth 20000 in
theorem wsL_law_x2 : ∀ w ∈ (vx_atS RX11 99 "java/lang/IllegalStateException" ["java/lang/RuntimeException", "java/lang/Exception"]).filter goodWord, w ∈ lw_tbl := by decide +kernel
def gF : List Cond := wsL_law0_r1 ++ (wsL_law0_r2 ++ (wsL_law0_r3 ++ (wsL_law0_r4 ++ (wsL_law0_r5 ++ (wsL_law0_r6 ++ (wsL_law0_r7 ++ (wsL_law0_r8 ++ (wsL_law0_r9 ++ (wsL_law0_r10 ++ (wsL_law0_r11 ++ (wsL_law0_r12 ++ (wsL_law0_r13 ++ (wsL_law0_r14 ++ (wsL_law0_r15 ++ (wsL_law0_r16 ++ (wsL_law0_r17 ++ (wsL_law0_r18 ++ (wsL_law0_r19 ++ (wsL_law0_r20 ++ (wsL_law0_r21 ++ (wsL_law0_r22 ++ (wsL_law0_r23 ++ (wsL_law0_r24 ++ (wsL_law0_r25 ++ (wsL_law0_r26 ++ (wsL_law0_r27 ++ (wsL_law0_r28 ++ (wsL_law0_r29 ++ (wsL_law0_r30 ++ (wsL_law0_r31 ++ (wsL_law0_r32 ++ (wsL_law0_r33 ++ (wsL_law0_r34 ++ (wsL_law0_r35 ++ (wsL_law0_r36 ++ (wsL_law0_r37 ++ (wsL_law0_r38 ++ ((vx_atS RX11 88 "java/lang/IllegalArgumentException" ["java/lang/RuntimeException", "java/lang/Exception"]).filter goodWord ++ ((vx_atS RX11 121 "java/lang/IndexOutOfBoundsException" ["java/lang/RuntimeException", "java/lang/Exception"]).filter goodWord ++ ((vx_atS RX11 99 "java/lang/IllegalStateException" ["java/lang/RuntimeException", "java/lang/Exception"]).filter goodWord))))))))))))))))))))))))))))))))))))))))
theorem gF_in : ∀ w ∈ gF, w ∈ lw_tbl := List.forall_mem_append.mpr ⟨tr_1, List.forall_mem_append.mpr ⟨tr_2, List.forall_mem_append.mpr ⟨tr_3, List.forall_mem_append.mpr ⟨tr_4, List.forall_mem_append.mpr ⟨tr_5, List.forall_mem_append.mpr ⟨tr_6, List.forall_mem_append.mpr ⟨tr_7, List.forall_mem_append.mpr ⟨tr_8, List.forall_mem_append.mpr ⟨tr_9, List.forall_mem_append.mpr ⟨tr_10, List.forall_mem_append.mpr ⟨tr_11, List.forall_mem_append.mpr ⟨tr_12, List.forall_mem_append.mpr ⟨tr_13, List.forall_mem_append.mpr ⟨tr_14, List.forall_mem_append.mpr ⟨tr_15, List.forall_mem_append.mpr ⟨tr_16, List.forall_mem_append.mpr ⟨tr_17, List.forall_mem_append.mpr ⟨tr_18, List.forall_mem_append.mpr ⟨tr_19, List.forall_mem_append.mpr ⟨tr_20, List.forall_mem_append.mpr ⟨tr_21, List.forall_mem_append.mpr ⟨tr_22, List.forall_mem_append.mpr ⟨tr_23, List.forall_mem_append.mpr ⟨tr_24, List.forall_mem_append.mpr ⟨tr_25, List.forall_mem_append.mpr ⟨tr_26, List.forall_mem_append.mpr ⟨tr_27, List.forall_mem_append.mpr ⟨tr_28, List.forall_mem_append.mpr ⟨tr_29, List.forall_mem_append.mpr ⟨tr_30, List.forall_mem_append.mpr ⟨tr_31, List.forall_mem_append.mpr ⟨tr_32, List.forall_mem_append.mpr ⟨tr_33, List.forall_mem_append.mpr ⟨tr_34, List.forall_mem_append.mpr ⟨tr_35, List.forall_mem_append.mpr ⟨tr_36, List.forall_mem_append.mpr ⟨tr_37, List.forall_mem_append.mpr ⟨tr_38, List.forall_mem_append.mpr ⟨wsL_law_x0, List.forall_mem_append.mpr ⟨wsL_law_x1, wsL_law_x2⟩⟩⟩⟩⟩⟩⟩⟩⟩⟩⟩⟩⟩⟩⟩⟩⟩⟩⟩⟩⟩⟩⟩⟩⟩⟩⟩⟩⟩⟩⟩⟩⟩⟩⟩⟩⟩⟩⟩⟩
