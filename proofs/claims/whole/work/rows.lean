section
/-! ===== BEGIN words of one list among another's, by their places ===== -/
theorem goodIn_r {big : List Cond} (ws : List Cond) (ps : List Nat) (hp : ws = ps.filterMap (fun i => big[i]?)) (h : ws.all goodWord = true) : GoodIn big ws := by
  intro w hw
  have h1 := List.all_eq_true.mp h w hw
  rw [hp] at hw
  obtain ⟨i, -, hi⟩ := List.mem_filterMap.mp hw
  have hm : w ∈ big := by first | exact List.mem_of_getElem? hi | exact List.getElem?_mem hi
  exact ⟨hm, good_of_word h1⟩
theorem goodIn_app {big a b : List Cond} (ha : GoodIn big a) (hb : GoodIn big b) : GoodIn big (a ++ b) := fun w h => (List.mem_append.mp h).elim (ha w) (hb w)
theorem goodIn_ca {big a b : List Cond} {c : Cond} (ha : GoodIn big (c :: a)) (hb : GoodIn big b) : GoodIn big (c :: (a ++ b)) := fun w h => (List.mem_cons.mp h).elim (fun e => ha w (List.mem_cons.mpr (Or.inl e))) (fun h => (List.mem_append.mp h).elim (fun h => ha w (List.mem_cons.mpr (Or.inr h))) (hb w))
theorem goodIn_sub {big ws : List Cond} (hm : ∀ w ∈ ws, w ∈ big) (h : ws.all goodWord = true) : GoodIn big ws := fun w hw => ⟨hm w hw, good_of_word (List.all_eq_true.mp h w hw)⟩
/-! ===== END ===== -/

/-! ===== BEGIN printed: names, fields, word lists, decode rows ===== -/
def RX0 : String := "StripDepths$History"
def TX0 : u_T := fun k => match k with
  | 0 => ("StripDepths$History", "kept", "[LStripDepths$Sheet;", true)
  | _ => ("StripDepths$History", "states", "I", false)
def tyX0 : Nat → FieldType := fun k => match k with
  | 0 => .array (.object "StripDepths$Sheet")
  | _ => .int
abbrev wsX00 : List Cond := u_ws RX0 TX0 2
theorem nmX0 : ∀ a, a < 2 → ∀ b, b < 2 → a ≠ b → (TX0 a).2.1 ≠ (TX0 b).2.1 := by decide +kernel
theorem tyX0_ok : ∀ k, k < 2 → parseFieldDescriptor (TX0 k).2.2.1 = some (tyX0 k) := by decide +kernel
abbrev cX0_init : ByteArray := prog_2_method_1_code
def yX0_init : MethodName := ⟨RX0, "<init>", "()V"⟩
abbrev cX0_record : ByteArray := prog_2_method_2_code
def yX0_record : MethodName := ⟨RX0, "record", "(LStripDepths$Sheet;)LStripDepths$Sheet;"⟩
abbrev cX0_dropOldest : ByteArray := prog_2_method_3_code
def yX0_dropOldest : MethodName := ⟨RX0, "dropOldest", "()V"⟩
abbrev cX0_takeBack : ByteArray := prog_2_method_4_code
def yX0_takeBack : MethodName := ⟨RX0, "takeBack", "(LStripDepths$Sheet;)Z"⟩
def RX1 : String := "StripDepths$Look"
def TX1 : u_T := fun k => match k with
  | 0 => ("StripDepths$Look", "planes", "[I", true)
  | 1 => ("StripDepths$Look", "dots", "[I", true)
  | 2 => ("StripDepths$Look", "remembered", "[I", true)
  | 3 => ("StripDepths$Look", "seen", "[I", true)
  | 4 => ("StripDepths$Look", "binders", "[I", true)
  | 5 => ("StripDepths$Look", "chains", "[I", true)
  | 6 => ("StripDepths$Look", "period", "I", false)
  | 7 => ("StripDepths$Look", "window", "I", false)
  | _ => ("StripDepths$Look", "crossed", "Z", false)
def tyX1 : Nat → FieldType := fun k => match k with
  | 0 => .array .int
  | 1 => .array .int
  | 2 => .array .int
  | 3 => .array .int
  | 4 => .array .int
  | 5 => .array .int
  | 6 => .int
  | 7 => .int
  | _ => .boolean
abbrev wsX10 : List Cond := u_ws RX1 TX1 9
theorem nmX1 : ∀ a, a < 9 → ∀ b, b < 9 → a ≠ b → (TX1 a).2.1 ≠ (TX1 b).2.1 := by decide +kernel
theorem tyX1_ok : ∀ k, k < 9 → parseFieldDescriptor (TX1 k).2.2.1 = some (tyX1 k) := by decide +kernel
abbrev cX1_init : ByteArray := prog_3_method_1_code
def yX1_init : MethodName := ⟨RX1, "<init>", "()V"⟩
abbrev cX1_takeRow : ByteArray := prog_3_method_2_code
def yX1_takeRow : MethodName := ⟨RX1, "takeRow", "(LStripDepths$Sheet;I)V"⟩
abbrev cX1_putRow : ByteArray := prog_3_method_3_code
def yX1_putRow : MethodName := ⟨RX1, "putRow", "(LStripDepths$Sheet;I)V"⟩
abbrev cX1_study : ByteArray := prog_3_method_4_code
def yX1_study : MethodName := ⟨RX1, "study", "(LStripDepths$Sheet;I)V"⟩
abbrev cX1_turnRound : ByteArray := prog_3_method_5_code
def yX1_turnRound : MethodName := ⟨RX1, "turnRound", "()V"⟩
abbrev cX1_reverse : ByteArray := prog_3_method_6_code
def yX1_reverse : MethodName := ⟨RX1, "reverse", "([I)V"⟩
abbrev cX1_forgetSmudges : ByteArray := prog_3_method_7_code
def yX1_forgetSmudges : MethodName := ⟨RX1, "forgetSmudges", "()V"⟩
abbrev cX1_printFrom : ByteArray := prog_3_method_8_code
def yX1_printFrom : MethodName := ⟨RX1, "printFrom", "(LStripDepths$Sheet;)I"⟩
abbrev cX1_boundTo : ByteArray := prog_3_method_9_code
def yX1_boundTo : MethodName := ⟨RX1, "boundTo", "(I)I"⟩
abbrev cX1_bind : ByteArray := prog_3_method_10_code
def yX1_bind : MethodName := ⟨RX1, "bind", "()V"⟩
abbrev cX1_watch : ByteArray := prog_3_method_11_code
def yX1_watch : MethodName := ⟨RX1, "watch", "()V"⟩
abbrev cX1_nearestFitting : ByteArray := prog_3_method_12_code
def yX1_nearestFitting : MethodName := ⟨RX1, "nearestFitting", "(II)I"⟩
abbrev cX1_isFitting : ByteArray := prog_3_method_13_code
def yX1_isFitting : MethodName := ⟨RX1, "isFitting", "(II)Z"⟩
abbrev cX1_placesOfKind : ByteArray := prog_3_method_14_code
def yX1_placesOfKind : MethodName := ⟨RX1, "placesOfKind", "(I)I"⟩
abbrev cX1_isOfKind : ByteArray := prog_3_method_15_code
def yX1_isOfKind : MethodName := ⟨RX1, "isOfKind", "(II)Z"⟩
abbrev cX1_isTorn : ByteArray := prog_3_method_16_code
def yX1_isTorn : MethodName := ⟨RX1, "isTorn", "(I)Z"⟩
abbrev cX1_placesOfChain : ByteArray := prog_3_method_17_code
def yX1_placesOfChain : MethodName := ⟨RX1, "placesOfChain", "(I)I"⟩
abbrev cX1_longestChain : ByteArray := prog_3_method_18_code
def yX1_longestChain : MethodName := ⟨RX1, "longestChain", "()I"⟩
abbrev cX1_differentDots : ByteArray := prog_3_method_19_code
def yX1_differentDots : MethodName := ⟨RX1, "differentDots", "()I"⟩
abbrev cX1_changesOfPlane : ByteArray := prog_3_method_20_code
def yX1_changesOfPlane : MethodName := ⟨RX1, "changesOfPlane", "()I"⟩
abbrev cX1_echoOf : ByteArray := prog_3_method_21_code
def yX1_echoOf : MethodName := ⟨RX1, "echoOf", "(I)I"⟩
abbrev cX1_numberOfPlane : ByteArray := prog_3_method_22_code
def yX1_numberOfPlane : MethodName := ⟨RX1, "numberOfPlane", "(II)I"⟩
abbrev cX1_placesSeenAs : ByteArray := prog_3_method_23_code
def yX1_placesSeenAs : MethodName := ⟨RX1, "placesSeenAs", "(LStripDepths$Look;)I"⟩
abbrev cX1_farthestSeenOtherwise : ByteArray := prog_3_method_24_code
def yX1_farthestSeenOtherwise : MethodName := ⟨RX1, "farthestSeenOtherwise", "(LStripDepths$Look;I)I"⟩
def RX2 : String := "StripDepths$Pad"
def TX2 : u_T := fun k => match k with
  | 0 => ("StripDepths$Pad", "codes", "[I", true)
  | 1 => ("StripDepths$Pad", "reader", "LStripDepths$ShapeReader;", true)
  | _ => ("StripDepths$Pad", "length", "I", false)
def tyX2 : Nat → FieldType := fun k => match k with
  | 0 => .array .int
  | 1 => .object "StripDepths$ShapeReader"
  | _ => .int
abbrev wsX20 : List Cond := u_ws RX2 TX2 3
theorem nmX2 : ∀ a, a < 3 → ∀ b, b < 3 → a ≠ b → (TX2 a).2.1 ≠ (TX2 b).2.1 := by decide +kernel
theorem tyX2_ok : ∀ k, k < 3 → parseFieldDescriptor (TX2 k).2.2.1 = some (tyX2 k) := by decide +kernel
abbrev cX2_init : ByteArray := prog_4_method_1_code
def yX2_init : MethodName := ⟨RX2, "<init>", "()V"⟩
abbrev cX2_add : ByteArray := prog_4_method_2_code
def yX2_add : MethodName := ⟨RX2, "add", "(I)Z"⟩
abbrev cX2_faultAsStrip : ByteArray := prog_4_method_3_code
def yX2_faultAsStrip : MethodName := ⟨RX2, "faultAsStrip", "()I"⟩
abbrev cX2_putStrip : ByteArray := prog_4_method_4_code
def yX2_putStrip : MethodName := ⟨RX2, "putStrip", "(LStripDepths$Sheet;)V"⟩
abbrev cX2_faultAsShapes : ByteArray := prog_4_method_5_code
def yX2_faultAsShapes : MethodName := ⟨RX2, "faultAsShapes", "()I"⟩
abbrev cX2_layShapes : ByteArray := prog_4_method_6_code
def yX2_layShapes : MethodName := ⟨RX2, "layShapes", "(LStripDepths$Sheet;)V"⟩
def RX3 : String := "StripDepths$ShapeReader"
def TX3 : u_T := fun k => match k with
  | 0 => ("StripDepths$ShapeReader", "top", "I", false)
  | 1 => ("StripDepths$ShapeReader", "bottom", "I", false)
  | 2 => ("StripDepths$ShapeReader", "left", "I", false)
  | 3 => ("StripDepths$ShapeReader", "right", "I", false)
  | 4 => ("StripDepths$ShapeReader", "plane", "I", false)
  | _ => ("StripDepths$ShapeReader", "stage", "I", false)
def tyX3 : Nat → FieldType := fun k => match k with
  | 0 => .int
  | 1 => .int
  | 2 => .int
  | 3 => .int
  | 4 => .int
  | _ => .int
abbrev wsX30 : List Cond := u_ws RX3 TX3 6
theorem nmX3 : ∀ a, a < 6 → ∀ b, b < 6 → a ≠ b → (TX3 a).2.1 ≠ (TX3 b).2.1 := by decide +kernel
theorem tyX3_ok : ∀ k, k < 6 → parseFieldDescriptor (TX3 k).2.2.1 = some (tyX3 k) := by decide +kernel
abbrev cX3_init : ByteArray := prog_5_method_1_code
def yX3_init : MethodName := ⟨RX3, "<init>", "()V"⟩
abbrev cX3_begin : ByteArray := prog_5_method_2_code
def yX3_begin : MethodName := ⟨RX3, "begin", "()V"⟩
abbrev cX3_isComplete : ByteArray := prog_5_method_3_code
def yX3_isComplete : MethodName := ⟨RX3, "isComplete", "()Z"⟩
abbrev cX3_takes : ByteArray := prog_5_method_4_code
def yX3_takes : MethodName := ⟨RX3, "takes", "(I)Z"⟩
abbrev cX3_goesOn : ByteArray := prog_5_method_5_code
def yX3_goesOn : MethodName := ⟨RX3, "goesOn", "(I)Z"⟩
abbrev cX3_takesTop : ByteArray := prog_5_method_6_code
def yX3_takesTop : MethodName := ⟨RX3, "takesTop", "(I)Z"⟩
abbrev cX3_takesBottom : ByteArray := prog_5_method_7_code
def yX3_takesBottom : MethodName := ⟨RX3, "takesBottom", "(I)Z"⟩
abbrev cX3_takesLeft : ByteArray := prog_5_method_8_code
def yX3_takesLeft : MethodName := ⟨RX3, "takesLeft", "(I)Z"⟩
abbrev cX3_takesBehindLeft : ByteArray := prog_5_method_9_code
def yX3_takesBehindLeft : MethodName := ⟨RX3, "takesBehindLeft", "(II)Z"⟩
abbrev cX3_takesFirstOfRight : ByteArray := prog_5_method_10_code
def yX3_takesFirstOfRight : MethodName := ⟨RX3, "takesFirstOfRight", "(I)Z"⟩
abbrev cX3_greatestFrom : ByteArray := prog_5_method_11_code
def yX3_greatestFrom : MethodName := ⟨RX3, "greatestFrom", "(I)I"⟩
abbrev cX3_takesBehindRight : ByteArray := prog_5_method_12_code
def yX3_takesBehindRight : MethodName := ⟨RX3, "takesBehindRight", "(II)Z"⟩
abbrev cX3_takesPlane : ByteArray := prog_5_method_13_code
def yX3_takesPlane : MethodName := ⟨RX3, "takesPlane", "(I)Z"⟩
def RX4 : String := "StripDepths$Sheet"
def TX4 : u_T := fun k => match k with
  | 0 => ("StripDepths$Sheet", "planes", "[I", true)
  | 1 => ("StripDepths$Sheet", "dots", "[I", true)
  | 2 => ("StripDepths$Sheet", "remembered", "[I", true)
  | 3 => ("StripDepths$Sheet", "settings", "[I", true)
  | 4 => ("StripDepths$Sheet", "strip", "[I", true)
  | 5 => ("StripDepths$Sheet", "stripLength", "I", false)
  | _ => ("StripDepths$Sheet", "lot", "I", false)
def tyX4 : Nat → FieldType := fun k => match k with
  | 0 => .array .int
  | 1 => .array .int
  | 2 => .array .int
  | 3 => .array .int
  | 4 => .array .int
  | 5 => .int
  | _ => .int
abbrev wsX40 : List Cond := u_ws RX4 TX4 7
theorem nmX4 : ∀ a, a < 7 → ∀ b, b < 7 → a ≠ b → (TX4 a).2.1 ≠ (TX4 b).2.1 := by decide +kernel
theorem tyX4_ok : ∀ k, k < 7 → parseFieldDescriptor (TX4 k).2.2.1 = some (tyX4 k) := by decide +kernel
abbrev cX4_init : ByteArray := prog_6_method_1_code
def yX4_init : MethodName := ⟨RX4, "<init>", "()V"⟩
abbrev cX4_copyFrom : ByteArray := prog_6_method_2_code
def yX4_copyFrom : MethodName := ⟨RX4, "copyFrom", "(LStripDepths$Sheet;)V"⟩
abbrev cX4_layPlane : ByteArray := prog_6_method_3_code
def yX4_layPlane : MethodName := ⟨RX4, "layPlane", "(IIIII)V"⟩
abbrev cX4_otherPlanesThan : ByteArray := prog_6_method_4_code
def yX4_otherPlanesThan : MethodName := ⟨RX4, "otherPlanesThan", "(LStripDepths$Sheet;)I"⟩
abbrev cX4_otherDotsThan : ByteArray := prog_6_method_5_code
def yX4_otherDotsThan : MethodName := ⟨RX4, "otherDotsThan", "(LStripDepths$Sheet;)I"⟩
abbrev cX4_differences : ByteArray := prog_6_method_6_code
def yX4_differences : MethodName := ⟨RX4, "differences", "([I[I)I"⟩
abbrev cX4_planesAboveZero : ByteArray := prog_6_method_7_code
def yX4_planesAboveZero : MethodName := ⟨RX4, "planesAboveZero", "()I"⟩
def RX5 : String := "StripDepths"
def TX5 : u_T := fun k => match k with
  | 0 => ("StripDepths", "now", "LStripDepths$Sheet;", true)
  | 1 => ("StripDepths", "snapshot", "LStripDepths$Sheet;", true)
  | 2 => ("StripDepths", "hasSnapshot", "Z", false)
  | 3 => ("StripDepths", "history", "LStripDepths$History;", true)
  | 4 => ("StripDepths", "pad", "LStripDepths$Pad;", true)
  | 5 => ("StripDepths", "look", "LStripDepths$Look;", true)
  | 6 => ("StripDepths", "otherLook", "LStripDepths$Look;", true)
  | 7 => ("StripDepths", "views", "[I", true)
  | _ => ("StripDepths", "ranked", "[I", true)
def tyX5 : Nat → FieldType := fun k => match k with
  | 0 => .object "StripDepths$Sheet"
  | 1 => .object "StripDepths$Sheet"
  | 2 => .boolean
  | 3 => .object "StripDepths$History"
  | 4 => .object "StripDepths$Pad"
  | 5 => .object "StripDepths$Look"
  | 6 => .object "StripDepths$Look"
  | 7 => .array .int
  | _ => .array .int
abbrev wsX50 : List Cond := u_ws RX5 TX5 9
theorem nmX5 : ∀ a, a < 9 → ∀ b, b < 9 → a ≠ b → (TX5 a).2.1 ≠ (TX5 b).2.1 := by decide +kernel
theorem tyX5_ok : ∀ k, k < 9 → parseFieldDescriptor (TX5 k).2.2.1 = some (tyX5 k) := by decide +kernel
abbrev cX5_init : ByteArray := prog_1_method_1_code
def yX5_init : MethodName := ⟨RX5, "<init>", "()V"⟩
abbrev cX5_lay : ByteArray := prog_1_method_2_code
def yX5_lay : MethodName := ⟨RX5, "lay", "(IIIII)I"⟩
abbrev cX5_shift : ByteArray := prog_1_method_3_code
def yX5_shift : MethodName := ⟨RX5, "shift", "(II)I"⟩
abbrev cX5_swap : ByteArray := prog_1_method_4_code
def yX5_swap : MethodName := ⟨RX5, "swap", "(II)I"⟩
abbrev cX5_turn : ByteArray := prog_1_method_5_code
def yX5_turn : MethodName := ⟨RX5, "turn", "(I)I"⟩
abbrev cX5_print : ByteArray := prog_1_method_6_code
def yX5_print : MethodName := ⟨RX5, "print", "(I)I"⟩
abbrev cX5_printAll : ByteArray := prog_1_method_7_code
def yX5_printAll : MethodName := ⟨RX5, "printAll", "()I"⟩
abbrev cX5_paint : ByteArray := prog_1_method_8_code
def yX5_paint : MethodName := ⟨RX5, "paint", "(III)I"⟩
abbrev cX5_wipe : ByteArray := prog_1_method_9_code
def yX5_wipe : MethodName := ⟨RX5, "wipe", "(I)I"⟩
abbrev cX5_set : ByteArray := prog_1_method_10_code
def yX5_set : MethodName := ⟨RX5, "set", "(II)I"⟩
abbrev cX5_lot : ByteArray := prog_1_method_11_code
def yX5_lot : MethodName := ⟨RX5, "lot", "(I)I"⟩
abbrev cX5_append : ByteArray := prog_1_method_12_code
def yX5_append : MethodName := ⟨RX5, "append", "(I)I"⟩
abbrev cX5_clear : ByteArray := prog_1_method_13_code
def yX5_clear : MethodName := ⟨RX5, "clear", "()I"⟩
abbrev cX5_fault : ByteArray := prog_1_method_14_code
def yX5_fault : MethodName := ⟨RX5, "fault", "(I)I"⟩
abbrev cX5_draw : ByteArray := prog_1_method_15_code
def yX5_draw : MethodName := ⟨RX5, "draw", "()I"⟩
abbrev cX5_wind : ByteArray := prog_1_method_16_code
def yX5_wind : MethodName := ⟨RX5, "wind", "()I"⟩
abbrev cX5_unwind : ByteArray := prog_1_method_17_code
def yX5_unwind : MethodName := ⟨RX5, "unwind", "()I"⟩
abbrev cX5_at : ByteArray := prog_1_method_18_code
def yX5_at : MethodName := ⟨RX5, "at", "(III)I"⟩
abbrev cX5_fits : ByteArray := prog_1_method_19_code
def yX5_fits : MethodName := ⟨RX5, "fits", "(III)I"⟩
abbrev cX5_row : ByteArray := prog_1_method_20_code
def yX5_row : MethodName := ⟨RX5, "row", "(II)I"⟩
abbrev cX5_echo : ByteArray := prog_1_method_21_code
def yX5_echo : MethodName := ⟨RX5, "echo", "(II)I"⟩
abbrev cX5_echoAt : ByteArray := prog_1_method_22_code
def yX5_echoAt : MethodName := ⟨RX5, "echoAt", "(II)I"⟩
abbrev cX5_faulty : ByteArray := prog_1_method_23_code
def yX5_faulty : MethodName := ⟨RX5, "faulty", "(I)I"⟩
abbrev cX5_plane : ByteArray := prog_1_method_24_code
def yX5_plane : MethodName := ⟨RX5, "plane", "(II)I"⟩
abbrev cX5_pictures : ByteArray := prog_1_method_25_code
def yX5_pictures : MethodName := ⟨RX5, "pictures", "()I"⟩
abbrev cX5_count : ByteArray := prog_1_method_26_code
def yX5_count : MethodName := ⟨RX5, "count", "(I)I"⟩
abbrev cX5_away : ByteArray := prog_1_method_27_code
def yX5_away : MethodName := ⟨RX5, "away", "(I)F"⟩
abbrev cX5_clearness : ByteArray := prog_1_method_28_code
def yX5_clearness : MethodName := ⟨RX5, "clearness", "(I)D"⟩
abbrev cX5_ifPainted : ByteArray := prog_1_method_29_code
def yX5_ifPainted : MethodName := ⟨RX5, "ifPainted", "(IIII)I"⟩
abbrev cX5_ifPrinted : ByteArray := prog_1_method_30_code
def yX5_ifPrinted : MethodName := ⟨RX5, "ifPrinted", "(II)I"⟩
abbrev cX5_shortest : ByteArray := prog_1_method_31_code
def yX5_shortest : MethodName := ⟨RX5, "shortest", "(I)I"⟩
abbrev cX5_bestWindow : ByteArray := prog_1_method_32_code
def yX5_bestWindow : MethodName := ⟨RX5, "bestWindow", "(I)I"⟩
abbrev cX5_alike : ByteArray := prog_1_method_33_code
def yX5_alike : MethodName := ⟨RX5, "alike", "(II)I"⟩
abbrev cX5_undo : ByteArray := prog_1_method_34_code
def yX5_undo : MethodName := ⟨RX5, "undo", "()I"⟩
abbrev cX5_save : ByteArray := prog_1_method_35_code
def yX5_save : MethodName := ⟨RX5, "save", "()I"⟩
abbrev cX5_restore : ByteArray := prog_1_method_36_code
def yX5_restore : MethodName := ⟨RX5, "restore", "()I"⟩
abbrev cX5_isRow : ByteArray := prog_1_method_37_code
def yX5_isRow : MethodName := ⟨RX5, "isRow", "(I)Z"⟩
abbrev cX5_isColumn : ByteArray := prog_1_method_38_code
def yX5_isColumn : MethodName := ⟨RX5, "isColumn", "(I)Z"⟩
abbrev cX5_isPlane : ByteArray := prog_1_method_39_code
def yX5_isPlane : MethodName := ⟨RX5, "isPlane", "(I)Z"⟩
abbrev cX5_isDot : ByteArray := prog_1_method_40_code
def yX5_isDot : MethodName := ⟨RX5, "isDot", "(I)Z"⟩
abbrev cX5_placeOf : ByteArray := prog_1_method_41_code
def yX5_placeOf : MethodName := ⟨RX5, "placeOf", "(II)I"⟩
abbrev cX5_printRow : ByteArray := prog_1_method_42_code
def yX5_printRow : MethodName := ⟨RX5, "printRow", "(I)V"⟩
abbrev cX5_rightIfPrinted : ByteArray := prog_1_method_43_code
def yX5_rightIfPrinted : MethodName := ⟨RX5, "rightIfPrinted", "(II)I"⟩
abbrev cX5_placesOfKind : ByteArray := prog_1_method_44_code
def yX5_placesOfKind : MethodName := ⟨RX5, "placesOfKind", "(II)I"⟩
abbrev cX5_allPlacesOfKind : ByteArray := prog_1_method_45_code
def yX5_allPlacesOfKind : MethodName := ⟨RX5, "allPlacesOfKind", "(I)I"⟩
abbrev cX5_rankedAt : ByteArray := prog_1_method_46_code
def yX5_rankedAt : MethodName := ⟨RX5, "rankedAt", "(II)I"⟩
abbrev cX5_rankOf : ByteArray := prog_1_method_47_code
def yX5_rankOf : MethodName := ⟨RX5, "rankOf", "(II)I"⟩
abbrev cX5_isNewPicture : ByteArray := prog_1_method_48_code
def yX5_isNewPicture : MethodName := ⟨RX5, "isNewPicture", "(I)Z"⟩
abbrev cX5_isSameView : ByteArray := prog_1_method_49_code
def yX5_isSameView : MethodName := ⟨RX5, "isSameView", "(II)Z"⟩
def RX6 : String := "StripDepthsModel"
def TX6 : u_T := fun k => match k with
  | 0 => ("StripDepthsModel", "s", "[I", true)
  | 1 => ("StripDepthsModel", "aside", "[I", true)
  | 2 => ("StripDepthsModel", "past", "[I", true)
  | 3 => ("StripDepthsModel", "pasts", "I", false)
  | 4 => ("StripDepthsModel", "snapshot", "[I", true)
  | 5 => ("StripDepthsModel", "isKept", "Z", false)
  | 6 => ("StripDepthsModel", "pad", "[I", true)
  | 7 => ("StripDepthsModel", "length", "I", false)
  | 8 => ("StripDepthsModel", "seen", "[I", true)
  | 9 => ("StripDepthsModel", "other", "[I", true)
  | 10 => ("StripDepthsModel", "spot", "I", false)
  | 11 => ("StripDepthsModel", "isWrong", "Z", false)
  | 12 => ("StripDepthsModel", "top", "I", false)
  | 13 => ("StripDepthsModel", "bottom", "I", false)
  | 14 => ("StripDepthsModel", "left", "I", false)
  | 15 => ("StripDepthsModel", "right", "I", false)
  | _ => ("StripDepthsModel", "depth", "I", false)
def tyX6 : Nat → FieldType := fun k => match k with
  | 0 => .array .int
  | 1 => .array .int
  | 2 => .array .int
  | 3 => .int
  | 4 => .array .int
  | 5 => .boolean
  | 6 => .array .int
  | 7 => .int
  | 8 => .array .int
  | 9 => .array .int
  | 10 => .int
  | 11 => .boolean
  | 12 => .int
  | 13 => .int
  | 14 => .int
  | 15 => .int
  | _ => .int
abbrev wsX60 : List Cond := u_ws RX6 TX6 17
theorem nmX6 : ∀ a, a < 17 → ∀ b, b < 17 → a ≠ b → (TX6 a).2.1 ≠ (TX6 b).2.1 := by decide +kernel
theorem tyX6_ok : ∀ k, k < 17 → parseFieldDescriptor (TX6 k).2.2.1 = some (tyX6 k) := by decide +kernel
abbrev cX6_init : ByteArray := prog_8_method_1_code
def yX6_init : MethodName := ⟨RX6, "<init>", "()V"⟩
abbrev cX6_in : ByteArray := prog_8_method_3_code
def yX6_in : MethodName := ⟨RX6, "in", "(III)Z"⟩
abbrev cX6_greater : ByteArray := prog_8_method_4_code
def yX6_greater : MethodName := ⟨RX6, "greater", "(II)I"⟩
abbrev cX6_isRow : ByteArray := prog_8_method_5_code
def yX6_isRow : MethodName := ⟨RX6, "isRow", "(I)Z"⟩
abbrev cX6_isColumn : ByteArray := prog_8_method_6_code
def yX6_isColumn : MethodName := ⟨RX6, "isColumn", "(I)Z"⟩
abbrev cX6_place : ByteArray := prog_8_method_7_code
def yX6_place : MethodName := ⟨RX6, "place", "(II)I"⟩
abbrev cX6_planeOf : ByteArray := prog_8_method_8_code
def yX6_planeOf : MethodName := ⟨RX6, "planeOf", "(II)I"⟩
abbrev cX6_dotOf : ByteArray := prog_8_method_9_code
def yX6_dotOf : MethodName := ⟨RX6, "dotOf", "(II)I"⟩
abbrev cX6_putAside : ByteArray := prog_8_method_10_code
def yX6_putAside : MethodName := ⟨RX6, "putAside", "()V"⟩
abbrev cX6_putBack : ByteArray := prog_8_method_11_code
def yX6_putBack : MethodName := ⟨RX6, "putBack", "()V"⟩
abbrev cX6_records : ByteArray := prog_8_method_12_code
def yX6_records : MethodName := ⟨RX6, "records", "()V"⟩
abbrev cX6_boundTo : ByteArray := prog_8_method_13_code
def yX6_boundTo : MethodName := ⟨RX6, "boundTo", "(II)I"⟩
abbrev cX6_manyBoundTo : ByteArray := prog_8_method_14_code
def yX6_manyBoundTo : MethodName := ⟨RX6, "manyBoundTo", "(II)I"⟩
abbrev cX6_freeOf : ByteArray := prog_8_method_15_code
def yX6_freeOf : MethodName := ⟨RX6, "freeOf", "(II)I"⟩
abbrev cX6_chain : ByteArray := prog_8_method_16_code
def yX6_chain : MethodName := ⟨RX6, "chain", "(II)I"⟩
abbrev cX6_doesFit : ByteArray := prog_8_method_17_code
def yX6_doesFit : MethodName := ⟨RX6, "doesFit", "(III)Z"⟩
abbrev cX6_nearest : ByteArray := prog_8_method_18_code
def yX6_nearest : MethodName := ⟨RX6, "nearest", "(III)I"⟩
abbrev cX6_looks : ByteArray := prog_8_method_19_code
def yX6_looks : MethodName := ⟨RX6, "looks", "(I)V"⟩
abbrev cX6_looksBeside : ByteArray := prog_8_method_20_code
def yX6_looksBeside : MethodName := ⟨RX6, "looksBeside", "(I)V"⟩
abbrev cX6_isRight : ByteArray := prog_8_method_21_code
def yX6_isRight : MethodName := ⟨RX6, "isRight", "(II)Z"⟩
abbrev cX6_rightOnes : ByteArray := prog_8_method_22_code
def yX6_rightOnes : MethodName := ⟨RX6, "rightOnes", "(I)I"⟩
abbrev cX6_allRight : ByteArray := prog_8_method_23_code
def yX6_allRight : MethodName := ⟨RX6, "allRight", "()I"⟩
abbrev cX6_changed : ByteArray := prog_8_method_24_code
def yX6_changed : MethodName := ⟨RX6, "changed", "(I)I"⟩
abbrev cX6_lays : ByteArray := prog_8_method_25_code
def yX6_lays : MethodName := ⟨RX6, "lays", "(IIIII)V"⟩
abbrev cX6_lay : ByteArray := prog_8_method_26_code
def yX6_lay : MethodName := ⟨RX6, "lay", "(IIIII)I"⟩
abbrev cX6_shift : ByteArray := prog_8_method_27_code
def yX6_shift : MethodName := ⟨RX6, "shift", "(II)I"⟩
abbrev cX6_swap : ByteArray := prog_8_method_28_code
def yX6_swap : MethodName := ⟨RX6, "swap", "(II)I"⟩
abbrev cX6_turn : ByteArray := prog_8_method_29_code
def yX6_turn : MethodName := ⟨RX6, "turn", "(I)I"⟩
abbrev cX6_prints : ByteArray := prog_8_method_30_code
def yX6_prints : MethodName := ⟨RX6, "prints", "(I)V"⟩
abbrev cX6_print : ByteArray := prog_8_method_31_code
def yX6_print : MethodName := ⟨RX6, "print", "(I)I"⟩
abbrev cX6_printAll : ByteArray := prog_8_method_32_code
def yX6_printAll : MethodName := ⟨RX6, "printAll", "()I"⟩
abbrev cX6_paint : ByteArray := prog_8_method_33_code
def yX6_paint : MethodName := ⟨RX6, "paint", "(III)I"⟩
abbrev cX6_wipe : ByteArray := prog_8_method_34_code
def yX6_wipe : MethodName := ⟨RX6, "wipe", "(I)I"⟩
abbrev cX6_leastOf : ByteArray := prog_8_method_35_code
def yX6_leastOf : MethodName := ⟨RX6, "leastOf", "(I)I"⟩
abbrev cX6_mostOf : ByteArray := prog_8_method_36_code
def yX6_mostOf : MethodName := ⟨RX6, "mostOf", "(I)I"⟩
abbrev cX6_set : ByteArray := prog_8_method_37_code
def yX6_set : MethodName := ⟨RX6, "set", "(II)I"⟩
abbrev cX6_lot : ByteArray := prog_8_method_38_code
def yX6_lot : MethodName := ⟨RX6, "lot", "(I)I"⟩
abbrev cX6_append : ByteArray := prog_8_method_39_code
def yX6_append : MethodName := ⟨RX6, "append", "(I)I"⟩
abbrev cX6_clear : ByteArray := prog_8_method_40_code
def yX6_clear : MethodName := ⟨RX6, "clear", "()I"⟩
abbrev cX6_next : ByteArray := prog_8_method_41_code
def yX6_next : MethodName := ⟨RX6, "next", "()I"⟩
abbrev cX6_isNext : ByteArray := prog_8_method_42_code
def yX6_isNext : MethodName := ⟨RX6, "isNext", "(I)Z"⟩
abbrev cX6_wants : ByteArray := prog_8_method_43_code
def yX6_wants : MethodName := ⟨RX6, "wants", "(I)V"⟩
abbrev cX6_digit : ByteArray := prog_8_method_44_code
def yX6_digit : MethodName := ⟨RX6, "digit", "(II)I"⟩
abbrev cX6_column : ByteArray := prog_8_method_45_code
def yX6_column : MethodName := ⟨RX6, "column", "(I)I"⟩
abbrev cX6_shape : ByteArray := prog_8_method_46_code
def yX6_shape : MethodName := ⟨RX6, "shape", "()V"⟩
abbrev cX6_goesWrong : ByteArray := prog_8_method_47_code
def yX6_goesWrong : MethodName := ⟨RX6, "goesWrong", "(Z)Z"⟩
abbrev cX6_isNoStrip : ByteArray := prog_8_method_48_code
def yX6_isNoStrip : MethodName := ⟨RX6, "isNoStrip", "()Z"⟩
abbrev cX6_fault : ByteArray := prog_8_method_49_code
def yX6_fault : MethodName := ⟨RX6, "fault", "(I)I"⟩
abbrev cX6_draw : ByteArray := prog_8_method_50_code
def yX6_draw : MethodName := ⟨RX6, "draw", "()I"⟩
abbrev cX6_wind : ByteArray := prog_8_method_51_code
def yX6_wind : MethodName := ⟨RX6, "wind", "()I"⟩
abbrev cX6_unwind : ByteArray := prog_8_method_52_code
def yX6_unwind : MethodName := ⟨RX6, "unwind", "()I"⟩
abbrev cX6_at : ByteArray := prog_8_method_53_code
def yX6_at : MethodName := ⟨RX6, "at", "(III)I"⟩
abbrev cX6_fits : ByteArray := prog_8_method_54_code
def yX6_fits : MethodName := ⟨RX6, "fits", "(III)I"⟩
abbrev cX6_isOne : ByteArray := prog_8_method_55_code
def yX6_isOne : MethodName := ⟨RX6, "isOne", "(III)Z"⟩
abbrev cX6_many : ByteArray := prog_8_method_56_code
def yX6_many : MethodName := ⟨RX6, "many", "(II)I"⟩
abbrev cX6_longestChain : ByteArray := prog_8_method_57_code
def yX6_longestChain : MethodName := ⟨RX6, "longestChain", "(I)I"⟩
abbrev cX6_differentDots : ByteArray := prog_8_method_58_code
def yX6_differentDots : MethodName := ⟨RX6, "differentDots", "(I)I"⟩
abbrev cX6_turnsOfPlane : ByteArray := prog_8_method_59_code
def yX6_turnsOfPlane : MethodName := ⟨RX6, "turnsOfPlane", "(I)I"⟩
abbrev cX6_row : ByteArray := prog_8_method_60_code
def yX6_row : MethodName := ⟨RX6, "row", "(II)I"⟩
abbrev cX6_echoes : ByteArray := prog_8_method_61_code
def yX6_echoes : MethodName := ⟨RX6, "echoes", "(II)I"⟩
abbrev cX6_echo : ByteArray := prog_8_method_62_code
def yX6_echo : MethodName := ⟨RX6, "echo", "(II)I"⟩
abbrev cX6_echoAt : ByteArray := prog_8_method_63_code
def yX6_echoAt : MethodName := ⟨RX6, "echoAt", "(II)I"⟩
abbrev cX6_faults : ByteArray := prog_8_method_64_code
def yX6_faults : MethodName := ⟨RX6, "faults", "(I)I"⟩
abbrev cX6_faulty : ByteArray := prog_8_method_65_code
def yX6_faulty : MethodName := ⟨RX6, "faulty", "(I)I"⟩
abbrev cX6_plane : ByteArray := prog_8_method_66_code
def yX6_plane : MethodName := ⟨RX6, "plane", "(II)I"⟩
abbrev cX6_likes : ByteArray := prog_8_method_67_code
def yX6_likes : MethodName := ⟨RX6, "likes", "(II)I"⟩
abbrev cX6_pictures : ByteArray := prog_8_method_68_code
def yX6_pictures : MethodName := ⟨RX6, "pictures", "()I"⟩
abbrev cX6_overAll : ByteArray := prog_8_method_69_code
def yX6_overAll : MethodName := ⟨RX6, "overAll", "(I)I"⟩
abbrev cX6_raised : ByteArray := prog_8_method_70_code
def yX6_raised : MethodName := ⟨RX6, "raised", "()I"⟩
abbrev cX6_count : ByteArray := prog_8_method_71_code
def yX6_count : MethodName := ⟨RX6, "count", "(I)I"⟩
abbrev cX6_away : ByteArray := prog_8_method_72_code
def yX6_away : MethodName := ⟨RX6, "away", "(I)F"⟩
abbrev cX6_clearness : ByteArray := prog_8_method_73_code
def yX6_clearness : MethodName := ⟨RX6, "clearness", "(I)D"⟩
abbrev cX6_ifPainted : ByteArray := prog_8_method_74_code
def yX6_ifPainted : MethodName := ⟨RX6, "ifPainted", "(IIII)I"⟩
abbrev cX6_rightBy : ByteArray := prog_8_method_75_code
def yX6_rightBy : MethodName := ⟨RX6, "rightBy", "(II)I"⟩
abbrev cX6_ifPrinted : ByteArray := prog_8_method_76_code
def yX6_ifPrinted : MethodName := ⟨RX6, "ifPrinted", "(II)I"⟩
abbrev cX6_shortest : ByteArray := prog_8_method_77_code
def yX6_shortest : MethodName := ⟨RX6, "shortest", "(I)I"⟩
abbrev cX6_rightThrough : ByteArray := prog_8_method_78_code
def yX6_rightThrough : MethodName := ⟨RX6, "rightThrough", "(II)I"⟩
abbrev cX6_bestWindow : ByteArray := prog_8_method_79_code
def yX6_bestWindow : MethodName := ⟨RX6, "bestWindow", "(I)I"⟩
abbrev cX6_alike : ByteArray := prog_8_method_80_code
def yX6_alike : MethodName := ⟨RX6, "alike", "(II)I"⟩
abbrev cX6_undo : ByteArray := prog_8_method_81_code
def yX6_undo : MethodName := ⟨RX6, "undo", "()I"⟩
abbrev cX6_save : ByteArray := prog_8_method_82_code
def yX6_save : MethodName := ⟨RX6, "save", "()I"⟩
abbrev cX6_restore : ByteArray := prog_8_method_83_code
def yX6_restore : MethodName := ⟨RX6, "restore", "()I"⟩
def RJ6 : String := "java/lang/Integer"
def TJ6 : u_T := fun k => match k with
  | _ => ("", "", "", false)
def tyJ6 : Nat → FieldType := fun k => match k with
  | _ => .int
abbrev wsJ60 : List Cond := u_ws RJ6 TJ6 0
theorem nmJ6 : ∀ a, a < 0 → ∀ b, b < 0 → a ≠ b → (TJ6 a).2.1 ≠ (TJ6 b).2.1 := by decide +kernel
theorem tyJ6_ok : ∀ k, k < 0 → parseFieldDescriptor (TJ6 k).2.2.1 = some (tyJ6 k) := by decide +kernel
abbrev cJ6_bitCount_0f7a4 : ByteArray := prog_9_method_49_code
def yJ6_bitCount_0f7a4 : MethodName := ⟨RJ6, "bitCount", "(I)I"⟩
def RJ9 : String := "java/lang/Math"
def TJ9 : u_T := fun k => match k with
  | _ => ("", "", "", false)
def tyJ9 : Nat → FieldType := fun k => match k with
  | _ => .int
abbrev wsJ90 : List Cond := u_ws RJ9 TJ9 0
theorem nmJ9 : ∀ a, a < 0 → ∀ b, b < 0 → a ≠ b → (TJ9 a).2.1 ≠ (TJ9 b).2.1 := by decide +kernel
theorem tyJ9_ok : ∀ k, k < 0 → parseFieldDescriptor (TJ9 k).2.2.1 = some (tyJ9 k) := by decide +kernel
abbrev cJ9_abs_0f7a4 : ByteArray := prog_10_method_59_code
def yJ9_abs_0f7a4 : MethodName := ⟨RJ9, "abs", "(I)I"⟩
abbrev cJ9_max_7cf53 : ByteArray := prog_10_method_65_code
def yJ9_max_7cf53 : MethodName := ⟨RJ9, "max", "(II)I"⟩
abbrev cJ9_min_7cf53 : ByteArray := prog_10_method_69_code
def yJ9_min_7cf53 : MethodName := ⟨RJ9, "min", "(II)I"⟩
def RJ10 : String := "java/lang/System"
def TJ10 : u_T := fun k => match k with
  | _ => ("", "", "", false)
def tyJ10 : Nat → FieldType := fun k => match k with
  | _ => .int
abbrev wsJ100 : List Cond := u_ws RJ10 TJ10 0
theorem nmJ10 : ∀ a, a < 0 → ∀ b, b < 0 → a ≠ b → (TJ10 a).2.1 ≠ (TJ10 b).2.1 := by decide +kernel
theorem tyJ10_ok : ∀ k, k < 0 → parseFieldDescriptor (TJ10 k).2.2.1 = some (tyJ10 k) := by decide +kernel
def RJ7 : String := "java/util/Arrays"
def TJ7 : u_T := fun k => match k with
  | _ => ("", "", "", false)
def tyJ7 : Nat → FieldType := fun k => match k with
  | _ => .int
abbrev wsJ70 : List Cond := u_ws RJ7 TJ7 0
theorem nmJ7 : ∀ a, a < 0 → ∀ b, b < 0 → a ≠ b → (TJ7 a).2.1 ≠ (TJ7 b).2.1 := by decide +kernel
theorem tyJ7_ok : ∀ k, k < 0 → parseFieldDescriptor (TJ7 k).2.2.1 = some (tyJ7 k) := by decide +kernel
abbrev cJ7_fill_53178 : ByteArray := prog_12_method_103_code
def yJ7_fill_53178 : MethodName := ⟨RJ7, "fill", "([II)V"⟩
def RL : String := "StripDepthsLaw"
abbrev cL_law : ByteArray := code
def yL_law : MethodName := ⟨RL, "law", "([I)Z"⟩
def wsL_law_r1 : List Cond := [Cond.classLink RL 7 RX5, Cond.instantiable RX5 9, Cond.initialized RX5, Cond.classLink RL 10 RX6, Cond.instantiable RX6 17, Cond.initialized RX6, Cond.methodLink RL 9 yX5_init, Cond.instanceMethod yX5_init, Cond.code yX5_init cX5_init 1 none, Cond.methodLink RX5 3 objectInit, Cond.instanceMethod objectInit, Cond.code objectInit ⟨#[0xb1]⟩ 1 none, Cond.classLink RX5 9 RX4, Cond.instantiable RX4 7, Cond.initialized RX4, Cond.fieldLink RX5 12 "StripDepths" "now" "LStripDepths$Sheet;", Cond.fieldLink RX5 16 "StripDepths" "snapshot" "LStripDepths$Sheet;", Cond.classLink RX5 19 RX0, Cond.instantiable RX0 2, Cond.initialized RX0, Cond.fieldLink RX5 22 "StripDepths" "history" "LStripDepths$History;", Cond.classLink RX5 26 RX2, Cond.instantiable RX2 3, Cond.initialized RX2]
def wsL_law_r2 : List Cond := [Cond.fieldLink RX5 29 "StripDepths" "pad" "LStripDepths$Pad;", Cond.classLink RX5 33 RX1, Cond.instantiable RX1 9, Cond.initialized RX1, Cond.fieldLink RX5 36 "StripDepths" "look" "LStripDepths$Look;", Cond.fieldLink RX5 40 "StripDepths" "otherLook" "LStripDepths$Look;", Cond.arrayClass .int, Cond.fieldLink RX5 43 "StripDepths" "views" "[I", Cond.fieldLink RX5 47 "StripDepths" "ranked" "[I", Cond.methodLink RX5 11 yX4_init, Cond.instanceMethod yX4_init, Cond.code yX4_init cX4_init 1 none, Cond.methodLink RX4 3 objectInit, Cond.fieldLink RX4 9 "StripDepths$Sheet" "planes" "[I", Cond.fieldLink RX4 15 "StripDepths$Sheet" "dots" "[I", Cond.fieldLink RX4 18 "StripDepths$Sheet" "remembered" "[I", Cond.fieldLink RX4 21 "StripDepths$Sheet" "settings" "[I", Cond.fieldLink RX4 24 "StripDepths$Sheet" "strip" "[I", Cond.fieldLink RX4 27 "StripDepths$Sheet" "lot" "I", Cond.methodLink RX4 40 arraycopyName, Cond.native arraycopyName, Cond.static arraycopyName, Cond.initialized "java/lang/System", Cond.methodLink RX4 31 yJ7_fill_53178]
def wsL_law_r3 : List Cond := [Cond.static yJ7_fill_53178, Cond.initialized RJ7, Cond.code yJ7_fill_53178 cJ7_fill_53178 4 none, Cond.methodLink RX5 21 yX0_init, Cond.instanceMethod yX0_init, Cond.code yX0_init cX0_init 2 none, Cond.methodLink RX0 3 objectInit, Cond.classLink RX0 9 RX4, Cond.fieldLink RX0 11 "StripDepths$History" "kept" "[LStripDepths$Sheet;", Cond.methodLink RX0 17 yX4_init, Cond.instanceMethod yX2_init, Cond.code yX2_init cX2_init 1 none, Cond.methodLink RX2 3 objectInit, Cond.fieldLink RX2 9 "StripDepths$Pad" "codes" "[I", Cond.classLink RX2 15 RX3, Cond.instantiable RX3 6, Cond.initialized RX3, Cond.fieldLink RX2 18 "StripDepths$Pad" "reader" "LStripDepths$ShapeReader;", Cond.instanceMethod yX3_init, Cond.code yX3_init cX3_init 1 none, Cond.methodLink RX3 3 objectInit, Cond.instanceMethod yX1_init, Cond.code yX1_init cX1_init 1 none, Cond.methodLink RX1 3 objectInit]
def wsL_law_r4 : List Cond := [Cond.fieldLink RX1 9 "StripDepths$Look" "planes" "[I", Cond.fieldLink RX1 15 "StripDepths$Look" "dots" "[I", Cond.fieldLink RX1 18 "StripDepths$Look" "remembered" "[I", Cond.fieldLink RX1 21 "StripDepths$Look" "seen" "[I", Cond.fieldLink RX1 24 "StripDepths$Look" "binders" "[I", Cond.fieldLink RX1 27 "StripDepths$Look" "chains" "[I", Cond.methodLink RL 12 yX6_init, Cond.instanceMethod yX6_init, Cond.code yX6_init cX6_init 1 none, Cond.methodLink RX6 1 objectInit, Cond.fieldLink RX6 7 "StripDepthsModel" "s" "[I", Cond.fieldLink RX6 13 "StripDepthsModel" "aside" "[I", Cond.fieldLink RX6 16 "StripDepthsModel" "past" "[I", Cond.fieldLink RX6 19 "StripDepthsModel" "snapshot" "[I", Cond.fieldLink RX6 22 "StripDepthsModel" "pad" "[I", Cond.fieldLink RX6 25 "StripDepthsModel" "seen" "[I", Cond.fieldLink RX6 28 "StripDepthsModel" "other" "[I", Cond.methodLink RL 13 yX5_lay, Cond.instanceMethod yX5_lay, Cond.selects RX5 yX5_lay yX5_lay, Cond.code yX5_lay cX5_lay 7 (some .int), Cond.methodLink RX5 50 yX5_isRow, Cond.static yX5_isRow, Cond.code yX5_isRow cX5_isRow 1 (some .boolean)]
def wsL_law_r5 : List Cond := [Cond.methodLink RX5 54 yX5_isColumn, Cond.static yX5_isColumn, Cond.code yX5_isColumn cX5_isColumn 1 (some .boolean), Cond.methodLink RX5 57 yX5_isPlane, Cond.static yX5_isPlane, Cond.code yX5_isPlane cX5_isPlane 1 (some .boolean), Cond.methodLink RX5 60 yX0_record, Cond.instanceMethod yX0_record, Cond.selects RX0 yX0_record yX0_record, Cond.code yX0_record cX0_record 3 (some (.object "StripDepths$Sheet")), Cond.fieldLink RX0 18 "StripDepths$History" "states" "I", Cond.methodLink RX0 22 yX0_dropOldest, Cond.instanceMethod yX0_dropOldest, Cond.selects RX0 yX0_dropOldest yX0_dropOldest, Cond.code yX0_dropOldest cX0_dropOldest 3 none, Cond.methodLink RX0 25 yX4_copyFrom, Cond.instanceMethod yX4_copyFrom, Cond.selects RX4 yX4_copyFrom yX4_copyFrom, Cond.code yX4_copyFrom cX4_copyFrom 2 none, Cond.fieldLink RX4 46 "StripDepths$Sheet" "stripLength" "I", Cond.methodLink RX5 64 yX4_layPlane, Cond.instanceMethod yX4_layPlane, Cond.selects RX4 yX4_layPlane yX4_layPlane, Cond.code yX4_layPlane cX4_layPlane 8 none]
def wsL_law_r6 : List Cond := [Cond.static yX5_placeOf, Cond.code yX5_placeOf cX5_placeOf 2 (some .int), Cond.methodLink RX5 68 yX4_otherPlanesThan, Cond.instanceMethod yX4_otherPlanesThan, Cond.selects RX4 yX4_otherPlanesThan yX4_otherPlanesThan, Cond.code yX4_otherPlanesThan cX4_otherPlanesThan 2 (some .int), Cond.methodLink RX4 60 yX4_differences, Cond.static yX4_differences, Cond.code yX4_differences cX4_differences 4 (some .int), Cond.methodLink RL 17 yX6_lay, Cond.instanceMethod yX6_lay, Cond.selects RX6 yX6_lay yX6_lay, Cond.code yX6_lay cX6_lay 6 (some .int), Cond.methodLink RX6 78 yX6_isRow, Cond.static yX6_isRow, Cond.code yX6_isRow cX6_isRow 1 (some .boolean), Cond.methodLink RX6 31 yX6_in, Cond.static yX6_in, Cond.code yX6_in cX6_in 3 (some .boolean), Cond.methodLink RX6 52 yX6_isColumn, Cond.static yX6_isColumn, Cond.code yX6_isColumn cX6_isColumn 1 (some .boolean), Cond.methodLink RX6 81 yX6_records, Cond.instanceMethod yX6_records]
def wsL_law_r7 : List Cond := [Cond.selects RX6 yX6_records yX6_records, Cond.code yX6_records cX6_records 2 none, Cond.fieldLink RX6 39 "StripDepthsModel" "pasts" "I", Cond.methodLink RX6 84 yX6_putAside, Cond.instanceMethod yX6_putAside, Cond.selects RX6 yX6_putAside yX6_putAside, Cond.code yX6_putAside cX6_putAside 2 none, Cond.methodLink RX6 87 yX6_lays, Cond.instanceMethod yX6_lays, Cond.selects RX6 yX6_lays yX6_lays, Cond.code yX6_lays cX6_lays 8 none, Cond.methodLink RX6 35 yX6_place, Cond.static yX6_place, Cond.code yX6_place cX6_place 2 (some .int), Cond.methodLink RX6 91 yX6_changed, Cond.instanceMethod yX6_changed, Cond.selects RX6 yX6_changed yX6_changed, Cond.code yX6_changed cX6_changed 4 (some .int), Cond.methodLink RL 18 yX5_shift, Cond.instanceMethod yX5_shift, Cond.selects RX5 yX5_shift yX5_shift, Cond.code yX5_shift cX5_shift 7 (some .int), Cond.fieldLink RX5 76 "StripDepths$Look" "planes" "[I", Cond.fieldLink RX5 79 "StripDepths$Sheet" "planes" "[I"]
def wsL_law_r8 : List Cond := [Cond.methodLink RX5 72 yX1_takeRow, Cond.instanceMethod yX1_takeRow, Cond.selects RX1 yX1_takeRow yX1_takeRow, Cond.code yX1_takeRow cX1_takeRow 4 none, Cond.fieldLink RX1 34 "StripDepths$Sheet" "planes" "[I", Cond.methodLink RX1 37 arraycopyName, Cond.fieldLink RX1 43 "StripDepths$Sheet" "dots" "[I", Cond.fieldLink RX1 44 "StripDepths$Sheet" "remembered" "[I", Cond.fieldLink RX1 45 "StripDepths$Sheet" "settings" "[I", Cond.fieldLink RX1 48 "StripDepths$Look" "period" "I", Cond.fieldLink RX1 52 "StripDepths$Look" "window" "I", Cond.fieldLink RX1 55 "StripDepths$Look" "crossed" "Z", Cond.methodLink RX5 80 yX5_placeOf, Cond.methodLink RL 22 yX6_shift, Cond.instanceMethod yX6_shift, Cond.selects RX6 yX6_shift yX6_shift, Cond.code yX6_shift cX6_shift 6 (some .int), Cond.methodLink RL 23 yX5_swap, Cond.instanceMethod yX5_swap, Cond.selects RX5 yX5_swap yX5_swap, Cond.code yX5_swap cX5_swap 5 (some .int), Cond.methodLink RX5 84 yX1_putRow, Cond.instanceMethod yX1_putRow, Cond.selects RX1 yX1_putRow yX1_putRow]
def wsL_law_r9 : List Cond := [Cond.code yX1_putRow cX1_putRow 4 none, Cond.methodLink RL 26 yX6_swap, Cond.instanceMethod yX6_swap, Cond.selects RX6 yX6_swap yX6_swap, Cond.code yX6_swap cX6_swap 6 (some .int), Cond.methodLink RX6 43 yX6_planeOf, Cond.instanceMethod yX6_planeOf, Cond.selects RX6 yX6_planeOf yX6_planeOf, Cond.code yX6_planeOf cX6_planeOf 3 (some .int), Cond.methodLink RL 27 yX5_turn, Cond.instanceMethod yX5_turn, Cond.selects RX5 yX5_turn yX5_turn, Cond.code yX5_turn cX5_turn 2 (some .int), Cond.methodLink RX5 87 yX1_turnRound, Cond.instanceMethod yX1_turnRound, Cond.selects RX1 yX1_turnRound yX1_turnRound, Cond.code yX1_turnRound cX1_turnRound 1 none, Cond.methodLink RX1 69 yX1_reverse, Cond.static yX1_reverse, Cond.code yX1_reverse cX1_reverse 4 none, Cond.methodLink RX5 90 yX5_placesOfKind, Cond.instanceMethod yX5_placesOfKind, Cond.selects RX5 yX5_placesOfKind yX5_placesOfKind, Cond.code yX5_placesOfKind cX5_placesOfKind 3 (some .int)]
def wsL_law_r10 : List Cond := [Cond.methodLink RX5 145 yX1_study, Cond.instanceMethod yX1_study, Cond.selects RX1 yX1_study yX1_study, Cond.code yX1_study cX1_study 3 none, Cond.methodLink RX1 59 yX1_takeRow, Cond.methodLink RX1 63 yX1_bind, Cond.instanceMethod yX1_bind, Cond.selects RX1 yX1_bind yX1_bind, Cond.code yX1_bind cX1_bind 3 none, Cond.methodLink RX1 73 yJ7_fill_53178, Cond.methodLink RX1 82 yX1_boundTo, Cond.instanceMethod yX1_boundTo, Cond.selects RX1 yX1_boundTo yX1_boundTo, Cond.code yX1_boundTo cX1_boundTo 3 (some .int), Cond.methodLink RX1 66 yX1_watch, Cond.instanceMethod yX1_watch, Cond.selects RX1 yX1_watch yX1_watch, Cond.code yX1_watch cX1_watch 4 none, Cond.methodLink RX1 92 yX1_nearestFitting, Cond.instanceMethod yX1_nearestFitting, Cond.selects RX1 yX1_nearestFitting yX1_nearestFitting, Cond.code yX1_nearestFitting cX1_nearestFitting 4 (some .int), Cond.methodLink RX1 95 yX1_isFitting, Cond.instanceMethod yX1_isFitting]
def wsL_law_r11 : List Cond := [Cond.selects RX1 yX1_isFitting yX1_isFitting, Cond.code yX1_isFitting cX1_isFitting 7 (some .boolean), Cond.methodLink RX1 99 Lib.Math.max.name, Cond.static Lib.Math.max.name, Cond.initialized "java/lang/Math", Cond.code Lib.Math.max.name Lib.Math.max.code 2 (some .int), Cond.methodLink RX1 104 Lib.Math.min.name, Cond.static Lib.Math.min.name, Cond.code Lib.Math.min.name Lib.Math.min.code 2 (some .int), Cond.methodLink RX5 179 yX1_placesOfKind, Cond.instanceMethod yX1_placesOfKind, Cond.selects RX1 yX1_placesOfKind yX1_placesOfKind, Cond.code yX1_placesOfKind cX1_placesOfKind 4 (some .int), Cond.methodLink RX1 107 yX1_isOfKind, Cond.instanceMethod yX1_isOfKind, Cond.selects RX1 yX1_isOfKind yX1_isOfKind, Cond.code yX1_isOfKind cX1_isOfKind 3 (some .boolean), Cond.methodLink RX1 110 yX1_isTorn, Cond.instanceMethod yX1_isTorn, Cond.selects RX1 yX1_isTorn yX1_isTorn, Cond.code yX1_isTorn cX1_isTorn 3 (some .boolean), Cond.methodLink RL 31 yX6_turn, Cond.instanceMethod yX6_turn, Cond.selects RX6 yX6_turn yX6_turn]
def wsL_law_r12 : List Cond := [Cond.code yX6_turn cX6_turn 4 (some .int), Cond.methodLink RX6 74 yX6_rightOnes, Cond.instanceMethod yX6_rightOnes, Cond.selects RX6 yX6_rightOnes yX6_rightOnes, Cond.code yX6_rightOnes cX6_rightOnes 4 (some .int), Cond.methodLink RX6 66 yX6_looks, Cond.instanceMethod yX6_looks, Cond.selects RX6 yX6_looks yX6_looks, Cond.code yX6_looks cX6_looks 5 none, Cond.methodLink RX6 62 yX6_nearest, Cond.instanceMethod yX6_nearest, Cond.selects RX6 yX6_nearest yX6_nearest, Cond.code yX6_nearest cX6_nearest 8 (some .int), Cond.methodLink RX6 59 yX6_doesFit, Cond.instanceMethod yX6_doesFit, Cond.selects RX6 yX6_doesFit yX6_doesFit, Cond.code yX6_doesFit cX6_doesFit 8 (some .boolean), Cond.methodLink RX6 56 yX6_dotOf, Cond.instanceMethod yX6_dotOf, Cond.selects RX6 yX6_dotOf yX6_dotOf, Cond.code yX6_dotOf cX6_dotOf 3 (some .int), Cond.methodLink RX6 70 yX6_isRight, Cond.instanceMethod yX6_isRight, Cond.selects RX6 yX6_isRight yX6_isRight]
def wsL_law_r13 : List Cond := [Cond.code yX6_isRight cX6_isRight 3 (some .boolean), Cond.methodLink RL 32 yX5_print, Cond.instanceMethod yX5_print, Cond.selects RX5 yX5_print yX5_print, Cond.code yX5_print cX5_print 3 (some .int), Cond.methodLink RX5 93 yX5_printRow, Cond.instanceMethod yX5_printRow, Cond.selects RX5 yX5_printRow yX5_printRow, Cond.code yX5_printRow cX5_printRow 2 none, Cond.fieldLink RX5 118 "StripDepths$Sheet" "lot" "I", Cond.methodLink RX5 241 yX1_printFrom, Cond.instanceMethod yX1_printFrom, Cond.selects RX1 yX1_printFrom yX1_printFrom, Cond.code yX1_printFrom cX1_printFrom 7 (some .int), Cond.fieldLink RX1 79 "StripDepths$Sheet" "lot" "I", Cond.fieldLink RX1 86 "StripDepths$Sheet" "stripLength" "I", Cond.fieldLink RX1 89 "StripDepths$Sheet" "strip" "[I", Cond.methodLink RX5 244 yX1_forgetSmudges, Cond.instanceMethod yX1_forgetSmudges, Cond.selects RX1 yX1_forgetSmudges yX1_forgetSmudges, Cond.code yX1_forgetSmudges cX1_forgetSmudges 1 none, Cond.methodLink RX5 97 yX4_otherDotsThan, Cond.instanceMethod yX4_otherDotsThan, Cond.selects RX4 yX4_otherDotsThan yX4_otherDotsThan]
def wsL_law_r14 : List Cond := [Cond.code yX4_otherDotsThan cX4_otherDotsThan 2 (some .int), Cond.methodLink RL 35 yX6_print, Cond.instanceMethod yX6_print, Cond.selects RX6 yX6_print yX6_print, Cond.code yX6_print cX6_print 2 (some .int), Cond.methodLink RX6 94 yX6_prints, Cond.instanceMethod yX6_prints, Cond.selects RX6 yX6_prints yX6_prints, Cond.code yX6_prints cX6_prints 6 none, Cond.methodLink RX6 46 yX6_boundTo, Cond.instanceMethod yX6_boundTo, Cond.selects RX6 yX6_boundTo yX6_boundTo, Cond.code yX6_boundTo cX6_boundTo 4 (some .int), Cond.methodLink RL 36 yX5_printAll, Cond.instanceMethod yX5_printAll, Cond.selects RX5 yX5_printAll yX5_printAll, Cond.code yX5_printAll cX5_printAll 3 (some .int), Cond.methodLink RL 40 yX6_printAll, Cond.instanceMethod yX6_printAll, Cond.selects RX6 yX6_printAll yX6_printAll, Cond.code yX6_printAll cX6_printAll 2 (some .int), Cond.methodLink RL 41 yX5_paint, Cond.instanceMethod yX5_paint, Cond.selects RX5 yX5_paint yX5_paint]
def wsL_law_r15 : List Cond := [Cond.code yX5_paint cX5_paint 6 (some .int), Cond.fieldLink RX5 103 "StripDepths$Sheet" "dots" "[I", Cond.fieldLink RX5 106 "StripDepths$Sheet" "remembered" "[I", Cond.methodLink RX5 100 yX5_isDot, Cond.static yX5_isDot, Cond.code yX5_isDot cX5_isDot 1 (some .boolean), Cond.methodLink RL 45 yX6_paint, Cond.instanceMethod yX6_paint, Cond.selects RX6 yX6_paint yX6_paint, Cond.code yX6_paint cX6_paint 6 (some .int), Cond.methodLink RL 46 yX5_wipe, Cond.instanceMethod yX5_wipe, Cond.selects RX5 yX5_wipe yX5_wipe, Cond.code yX5_wipe cX5_wipe 5 (some .int), Cond.methodLink RL 49 yX6_wipe, Cond.instanceMethod yX6_wipe, Cond.selects RX6 yX6_wipe yX6_wipe, Cond.code yX6_wipe cX6_wipe 5 (some .int), Cond.methodLink RL 50 yX5_set, Cond.instanceMethod yX5_set, Cond.selects RX5 yX5_set yX5_set, Cond.code yX5_set cX5_set 4 (some .int), Cond.fieldLink RX5 109 "StripDepths" "LEAST_VALUES" "[I", Cond.fieldLink RX5 112 "StripDepths" "GREATEST_VALUES" "[I"]
def wsL_law_r16 : List Cond := [Cond.fieldLink RX5 115 "StripDepths$Sheet" "settings" "[I", Cond.methodLink RL 53 yX6_set, Cond.instanceMethod yX6_set, Cond.selects RX6 yX6_set yX6_set, Cond.code yX6_set cX6_set 4 (some .int), Cond.methodLink RX6 97 yX6_leastOf, Cond.static yX6_leastOf, Cond.code yX6_leastOf cX6_leastOf 1 (some .int), Cond.methodLink RX6 100 yX6_mostOf, Cond.static yX6_mostOf, Cond.code yX6_mostOf cX6_mostOf 1 (some .int), Cond.methodLink RL 54 yX5_lot, Cond.instanceMethod yX5_lot, Cond.selects RX5 yX5_lot yX5_lot, Cond.code yX5_lot cX5_lot 3 (some .int), Cond.methodLink RL 57 yX6_lot, Cond.instanceMethod yX6_lot, Cond.selects RX6 yX6_lot yX6_lot, Cond.code yX6_lot cX6_lot 3 (some .int), Cond.methodLink RL 58 yX5_append, Cond.instanceMethod yX5_append, Cond.selects RX5 yX5_append yX5_append, Cond.code yX5_append cX5_append 2 (some .int), Cond.fieldLink RX5 125 "StripDepths$Pad" "length" "I"]
def wsL_law_r17 : List Cond := [Cond.methodLink RX5 122 yX2_add, Cond.instanceMethod yX2_add, Cond.selects RX2 yX2_add yX2_add, Cond.code yX2_add cX2_add 2 (some .boolean), Cond.fieldLink RX2 22 "StripDepths$Pad" "length" "I", Cond.methodLink RL 61 yX6_append, Cond.instanceMethod yX6_append, Cond.selects RX6 yX6_append yX6_append, Cond.code yX6_append cX6_append 2 (some .int), Cond.fieldLink RX6 103 "StripDepthsModel" "length" "I", Cond.methodLink RL 62 yX5_clear, Cond.instanceMethod yX5_clear, Cond.selects RX5 yX5_clear yX5_clear, Cond.code yX5_clear cX5_clear 2 (some .int), Cond.methodLink RL 65 yX6_clear, Cond.instanceMethod yX6_clear, Cond.selects RX6 yX6_clear yX6_clear, Cond.code yX6_clear cX6_clear 2 (some .int), Cond.methodLink RL 66 yX5_fault, Cond.instanceMethod yX5_fault, Cond.selects RX5 yX5_fault yX5_fault, Cond.code yX5_fault cX5_fault 2 (some .int), Cond.methodLink RX5 128 yX2_faultAsShapes, Cond.instanceMethod yX2_faultAsShapes]
def wsL_law_r18 : List Cond := [Cond.selects RX2 yX2_faultAsShapes yX2_faultAsShapes, Cond.code yX2_faultAsShapes cX2_faultAsShapes 2 (some .int), Cond.methodLink RX2 44 yX3_begin, Cond.instanceMethod yX3_begin, Cond.selects RX3 yX3_begin yX3_begin, Cond.code yX3_begin cX3_begin 1 none, Cond.fieldLink RX3 11 "StripDepths$ShapeReader" "stage" "I", Cond.methodLink RX2 47 yX3_takes, Cond.instanceMethod yX3_takes, Cond.selects RX3 yX3_takes yX3_takes, Cond.code yX3_takes cX3_takes 3 (some .boolean), Cond.methodLink RX3 15 yX3_takesTop, Cond.instanceMethod yX3_takesTop, Cond.selects RX3 yX3_takesTop yX3_takesTop, Cond.code yX3_takesTop cX3_takesTop 2 (some .boolean), Cond.fieldLink RX3 44 "StripDepths$ShapeReader" "top" "I", Cond.fieldLink RX3 47 "StripDepths$ShapeReader" "bottom" "I", Cond.methodLink RX3 19 yX3_goesOn, Cond.instanceMethod yX3_goesOn, Cond.selects RX3 yX3_goesOn yX3_goesOn, Cond.code yX3_goesOn cX3_goesOn 2 (some .boolean), Cond.methodLink RX3 22 yX3_takesBottom, Cond.instanceMethod yX3_takesBottom, Cond.selects RX3 yX3_takesBottom yX3_takesBottom]
def wsL_law_r19 : List Cond := [Cond.code yX3_takesBottom cX3_takesBottom 2 (some .boolean), Cond.methodLink RX3 25 yX3_takesLeft, Cond.instanceMethod yX3_takesLeft, Cond.selects RX3 yX3_takesLeft yX3_takesLeft, Cond.code yX3_takesLeft cX3_takesLeft 2 (some .boolean), Cond.fieldLink RX3 53 "StripDepths$ShapeReader" "left" "I", Cond.fieldLink RX3 56 "StripDepths$ShapeReader" "right" "I", Cond.methodLink RX3 28 yX3_takesBehindLeft, Cond.instanceMethod yX3_takesBehindLeft, Cond.selects RX3 yX3_takesBehindLeft yX3_takesBehindLeft, Cond.code yX3_takesBehindLeft cX3_takesBehindLeft 3 (some .boolean), Cond.methodLink RX3 32 yX3_takesFirstOfRight, Cond.instanceMethod yX3_takesFirstOfRight, Cond.selects RX3 yX3_takesFirstOfRight yX3_takesFirstOfRight, Cond.code yX3_takesFirstOfRight cX3_takesFirstOfRight 2 (some .boolean), Cond.methodLink RX3 59 yX3_greatestFrom, Cond.static yX3_greatestFrom, Cond.code yX3_greatestFrom cX3_greatestFrom 1 (some .int), Cond.methodLink RX3 63 Lib.Math.min.name, Cond.methodLink RX3 35 yX3_takesBehindRight, Cond.instanceMethod yX3_takesBehindRight, Cond.selects RX3 yX3_takesBehindRight yX3_takesBehindRight, Cond.code yX3_takesBehindRight cX3_takesBehindRight 4 (some .boolean), Cond.methodLink RX3 38 yX3_takesPlane]
def wsL_law_r20 : List Cond := [Cond.instanceMethod yX3_takesPlane, Cond.selects RX3 yX3_takesPlane yX3_takesPlane, Cond.code yX3_takesPlane cX3_takesPlane 2 (some .boolean), Cond.fieldLink RX3 72 "StripDepths$ShapeReader" "plane" "I", Cond.methodLink RX2 50 yX3_isComplete, Cond.instanceMethod yX3_isComplete, Cond.selects RX3 yX3_isComplete yX3_isComplete, Cond.code yX3_isComplete cX3_isComplete 1 (some .boolean), Cond.methodLink RX5 132 yX2_faultAsStrip, Cond.instanceMethod yX2_faultAsStrip, Cond.selects RX2 yX2_faultAsStrip yX2_faultAsStrip, Cond.code yX2_faultAsStrip cX2_faultAsStrip 2 (some .int), Cond.methodLink RL 69 yX6_fault, Cond.instanceMethod yX6_fault, Cond.selects RX6 yX6_fault yX6_fault, Cond.code yX6_fault cX6_fault 3 (some .int), Cond.fieldLink RX6 106 "StripDepthsModel" "spot" "I", Cond.methodLink RX6 147 yX6_goesWrong, Cond.instanceMethod yX6_goesWrong, Cond.selects RX6 yX6_goesWrong yX6_goesWrong, Cond.code yX6_goesWrong cX6_goesWrong 3 (some .boolean), Cond.fieldLink RX6 109 "StripDepthsModel" "isWrong" "Z", Cond.fieldLink RX6 120 "StripDepthsModel" "top" "I", Cond.fieldLink RX6 135 "StripDepthsModel" "left" "I"]
def wsL_law_r21 : List Cond := [Cond.fieldLink RX6 123 "StripDepthsModel" "bottom" "I", Cond.fieldLink RX6 138 "StripDepthsModel" "right" "I", Cond.fieldLink RX6 141 "StripDepthsModel" "depth" "I", Cond.methodLink RX6 144 yX6_shape, Cond.instanceMethod yX6_shape, Cond.selects RX6 yX6_shape yX6_shape, Cond.code yX6_shape cX6_shape 1 none, Cond.methodLink RX6 117 yX6_digit, Cond.instanceMethod yX6_digit, Cond.selects RX6 yX6_digit yX6_digit, Cond.code yX6_digit cX6_digit 4 (some .int), Cond.methodLink RX6 113 yX6_next, Cond.instanceMethod yX6_next, Cond.selects RX6 yX6_next yX6_next, Cond.code yX6_next cX6_next 1 (some .int), Cond.methodLink RX6 126 yX6_isNext, Cond.instanceMethod yX6_isNext, Cond.selects RX6 yX6_isNext yX6_isNext, Cond.code yX6_isNext cX6_isNext 2 (some .boolean), Cond.methodLink RX6 129 yX6_wants, Cond.instanceMethod yX6_wants, Cond.selects RX6 yX6_wants yX6_wants, Cond.code yX6_wants cX6_wants 2 none, Cond.methodLink RX6 132 yX6_column]
def wsL_law_r22 : List Cond := [Cond.instanceMethod yX6_column, Cond.selects RX6 yX6_column yX6_column, Cond.code yX6_column cX6_column 5 (some .int), Cond.methodLink RX6 151 yX6_isNoStrip, Cond.instanceMethod yX6_isNoStrip, Cond.selects RX6 yX6_isNoStrip yX6_isNoStrip, Cond.code yX6_isNoStrip cX6_isNoStrip 1 (some .boolean), Cond.methodLink RL 70 yX5_draw, Cond.instanceMethod yX5_draw, Cond.selects RX5 yX5_draw yX5_draw, Cond.code yX5_draw cX5_draw 2 (some .int), Cond.methodLink RX5 135 yX2_layShapes, Cond.instanceMethod yX2_layShapes, Cond.selects RX2 yX2_layShapes yX2_layShapes, Cond.code yX2_layShapes cX2_layShapes 3 none, Cond.fieldLink RX2 54 "StripDepths$ShapeReader" "top" "I", Cond.fieldLink RX2 57 "StripDepths$ShapeReader" "left" "I", Cond.fieldLink RX2 60 "StripDepths$ShapeReader" "bottom" "I", Cond.fieldLink RX2 63 "StripDepths$ShapeReader" "right" "I", Cond.fieldLink RX2 66 "StripDepths$ShapeReader" "plane" "I", Cond.methodLink RX2 69 yX4_layPlane, Cond.methodLink RL 73 yX6_draw, Cond.instanceMethod yX6_draw, Cond.selects RX6 yX6_draw yX6_draw]
def wsL_law_r23 : List Cond := [Cond.code yX6_draw cX6_draw 2 (some .int), Cond.methodLink RL 74 yX5_wind, Cond.instanceMethod yX5_wind, Cond.selects RX5 yX5_wind yX5_wind, Cond.code yX5_wind cX5_wind 1 (some .int), Cond.fieldLink RX5 142 "StripDepths$Sheet" "stripLength" "I", Cond.methodLink RX5 139 yX2_putStrip, Cond.instanceMethod yX2_putStrip, Cond.selects RX2 yX2_putStrip yX2_putStrip, Cond.code yX2_putStrip cX2_putStrip 4 none, Cond.methodLink RX2 30 Lib.Math.min.name, Cond.fieldLink RX2 36 "StripDepths$Sheet" "strip" "[I", Cond.fieldLink RX2 41 "StripDepths$Sheet" "stripLength" "I", Cond.methodLink RL 77 yX6_wind, Cond.instanceMethod yX6_wind, Cond.selects RX6 yX6_wind yX6_wind, Cond.code yX6_wind cX6_wind 2 (some .int), Cond.methodLink RL 78 yX5_unwind, Cond.instanceMethod yX5_unwind, Cond.selects RX5 yX5_unwind yX5_unwind, Cond.code yX5_unwind cX5_unwind 2 (some .int), Cond.methodLink RL 81 yX6_unwind, Cond.instanceMethod yX6_unwind, Cond.selects RX6 yX6_unwind yX6_unwind]
def wsL_law_r24 : List Cond := [Cond.code yX6_unwind cX6_unwind 2 (some .int), Cond.methodLink RL 82 yX5_at, Cond.instanceMethod yX5_at, Cond.selects RX5 yX5_at yX5_at, Cond.code yX5_at cX5_at 4 (some .int), Cond.fieldLink RX5 148 "StripDepths$Look" "dots" "[I", Cond.fieldLink RX5 149 "StripDepths$Look" "seen" "[I", Cond.fieldLink RX5 156 "StripDepths$Look" "binders" "[I", Cond.fieldLink RX5 159 "StripDepths$Look" "chains" "[I", Cond.fieldLink RX5 165 "StripDepths$Look" "remembered" "[I", Cond.methodLink RX5 152 yX1_boundTo, Cond.methodLink RX5 162 yX1_placesOfChain, Cond.instanceMethod yX1_placesOfChain, Cond.selects RX1 yX1_placesOfChain yX1_placesOfChain, Cond.code yX1_placesOfChain cX1_placesOfChain 4 (some .int), Cond.methodLink RL 85 yX6_at, Cond.instanceMethod yX6_at, Cond.selects RX6 yX6_at yX6_at, Cond.code yX6_at cX6_at 4 (some .int), Cond.methodLink RX6 155 yX6_manyBoundTo, Cond.instanceMethod yX6_manyBoundTo, Cond.selects RX6 yX6_manyBoundTo yX6_manyBoundTo, Cond.code yX6_manyBoundTo cX6_manyBoundTo 5 (some .int), Cond.methodLink RX6 49 yX6_freeOf]
def wsL_law_r25 : List Cond := [Cond.instanceMethod yX6_freeOf, Cond.selects RX6 yX6_freeOf yX6_freeOf, Cond.code yX6_freeOf cX6_freeOf 4 (some .int), Cond.methodLink RX6 158 yX6_chain, Cond.instanceMethod yX6_chain, Cond.selects RX6 yX6_chain yX6_chain, Cond.code yX6_chain cX6_chain 5 (some .int), Cond.methodLink RL 86 yX5_fits, Cond.instanceMethod yX5_fits, Cond.selects RX5 yX5_fits yX5_fits, Cond.code yX5_fits cX5_fits 4 (some .int), Cond.methodLink RX5 166 yX1_isFitting, Cond.methodLink RL 89 yX6_fits, Cond.instanceMethod yX6_fits, Cond.selects RX6 yX6_fits yX6_fits, Cond.code yX6_fits cX6_fits 4 (some .int), Cond.methodLink RL 90 yX5_row, Cond.instanceMethod yX5_row, Cond.selects RX5 yX5_row yX5_row, Cond.code yX5_row cX5_row 3 (some .int), Cond.methodLink RX5 170 yX1_longestChain, Cond.instanceMethod yX1_longestChain, Cond.selects RX1 yX1_longestChain yX1_longestChain, Cond.code yX1_longestChain cX1_longestChain 3 (some .int)]
def wsL_law_r26 : List Cond := [Cond.methodLink RX1 114 yX1_placesOfChain, Cond.methodLink RX5 173 yX1_differentDots, Cond.instanceMethod yX1_differentDots, Cond.selects RX1 yX1_differentDots yX1_differentDots, Cond.code yX1_differentDots cX1_differentDots 3 (some .int), Cond.methodLink RX1 117 yJ6_bitCount_0f7a4, Cond.static yJ6_bitCount_0f7a4, Cond.initialized RJ6, Cond.code yJ6_bitCount_0f7a4 cJ6_bitCount_0f7a4 1 (some .int), Cond.constant RJ6 265 (1431655765), Cond.constant RJ6 266 (858993459), Cond.constant RJ6 267 (252645135), Cond.methodLink RX5 176 yX1_changesOfPlane, Cond.instanceMethod yX1_changesOfPlane, Cond.selects RX1 yX1_changesOfPlane yX1_changesOfPlane, Cond.code yX1_changesOfPlane cX1_changesOfPlane 4 (some .int), Cond.methodLink RL 93 yX6_row, Cond.instanceMethod yX6_row, Cond.selects RX6 yX6_row yX6_row, Cond.code yX6_row cX6_row 3 (some .int), Cond.methodLink RX6 167 yX6_many, Cond.instanceMethod yX6_many, Cond.selects RX6 yX6_many yX6_many, Cond.code yX6_many cX6_many 5 (some .int)]
def wsL_law_r27 : List Cond := [Cond.methodLink RX6 161 yX6_isOne, Cond.instanceMethod yX6_isOne, Cond.selects RX6 yX6_isOne yX6_isOne, Cond.code yX6_isOne cX6_isOne 5 (some .boolean), Cond.methodLink RX6 170 yX6_longestChain, Cond.instanceMethod yX6_longestChain, Cond.selects RX6 yX6_longestChain yX6_longestChain, Cond.code yX6_longestChain cX6_longestChain 4 (some .int), Cond.methodLink RX6 164 yX6_greater, Cond.static yX6_greater, Cond.code yX6_greater cX6_greater 2 (some .int), Cond.methodLink RX6 173 yX6_differentDots, Cond.instanceMethod yX6_differentDots, Cond.selects RX6 yX6_differentDots yX6_differentDots, Cond.code yX6_differentDots cX6_differentDots 6 (some .int), Cond.methodLink RX6 176 yX6_turnsOfPlane, Cond.instanceMethod yX6_turnsOfPlane, Cond.selects RX6 yX6_turnsOfPlane yX6_turnsOfPlane, Cond.code yX6_turnsOfPlane cX6_turnsOfPlane 5 (some .int), Cond.methodLink RL 94 yX5_echo, Cond.instanceMethod yX5_echo, Cond.selects RX5 yX5_echo yX5_echo, Cond.code yX5_echo cX5_echo 3 (some .int), Cond.methodLink RX5 181 yX1_echoOf]
def wsL_law_r28 : List Cond := [Cond.instanceMethod yX1_echoOf, Cond.selects RX1 yX1_echoOf yX1_echoOf, Cond.code yX1_echoOf cX1_echoOf 4 (some .int), Cond.methodLink RL 97 yX6_echo, Cond.instanceMethod yX6_echo, Cond.selects RX6 yX6_echo yX6_echo, Cond.code yX6_echo cX6_echo 3 (some .int), Cond.methodLink RX6 179 yX6_echoes, Cond.instanceMethod yX6_echoes, Cond.selects RX6 yX6_echoes yX6_echoes, Cond.code yX6_echoes cX6_echoes 5 (some .int), Cond.methodLink RL 98 yX5_echoAt, Cond.instanceMethod yX5_echoAt, Cond.selects RX5 yX5_echoAt yX5_echoAt, Cond.code yX5_echoAt cX5_echoAt 4 (some .int), Cond.methodLink RX5 184 yX5_rankedAt, Cond.instanceMethod yX5_rankedAt, Cond.selects RX5 yX5_rankedAt yX5_rankedAt, Cond.code yX5_rankedAt cX5_rankedAt 4 (some .int), Cond.methodLink RX5 250 yX5_rankOf, Cond.instanceMethod yX5_rankOf, Cond.selects RX5 yX5_rankOf yX5_rankOf, Cond.code yX5_rankOf cX5_rankOf 5 (some .int), Cond.methodLink RL 101 yX6_echoAt]
def wsL_law_r29 : List Cond := [Cond.instanceMethod yX6_echoAt, Cond.selects RX6 yX6_echoAt yX6_echoAt, Cond.code yX6_echoAt cX6_echoAt 8 (some .int), Cond.methodLink RL 102 yX5_faulty, Cond.instanceMethod yX5_faulty, Cond.selects RX5 yX5_faulty yX5_faulty, Cond.code yX5_faulty cX5_faulty 5 (some .int), Cond.methodLink RL 105 yX6_faulty, Cond.instanceMethod yX6_faulty, Cond.selects RX6 yX6_faulty yX6_faulty, Cond.code yX6_faulty cX6_faulty 7 (some .int), Cond.methodLink RX6 182 yX6_faults, Cond.instanceMethod yX6_faults, Cond.selects RX6 yX6_faults yX6_faults, Cond.code yX6_faults cX6_faults 3 (some .int), Cond.methodLink RL 106 yX5_plane, Cond.instanceMethod yX5_plane, Cond.selects RX5 yX5_plane yX5_plane, Cond.code yX5_plane cX5_plane 5 (some .int), Cond.methodLink RX5 187 yX1_numberOfPlane, Cond.instanceMethod yX1_numberOfPlane, Cond.selects RX1 yX1_numberOfPlane yX1_numberOfPlane, Cond.code yX1_numberOfPlane cX1_numberOfPlane 9 (some .int), Cond.methodLink RL 109 yX6_plane]
def wsL_law_r30 : List Cond := [Cond.instanceMethod yX6_plane, Cond.selects RX6 yX6_plane yX6_plane, Cond.code yX6_plane cX6_plane 10 (some .int), Cond.methodLink RL 110 yX5_pictures, Cond.instanceMethod yX5_pictures, Cond.selects RX5 yX5_pictures yX5_pictures, Cond.code yX5_pictures cX5_pictures 3 (some .int), Cond.methodLink RX5 190 arraycopyName, Cond.methodLink RX5 196 yX5_isNewPicture, Cond.instanceMethod yX5_isNewPicture, Cond.selects RX5 yX5_isNewPicture yX5_isNewPicture, Cond.code yX5_isNewPicture cX5_isNewPicture 3 (some .boolean), Cond.methodLink RX5 253 yX5_isSameView, Cond.instanceMethod yX5_isSameView, Cond.selects RX5 yX5_isSameView yX5_isSameView, Cond.code yX5_isSameView cX5_isSameView 4 (some .boolean), Cond.methodLink RL 113 yX6_pictures, Cond.instanceMethod yX6_pictures, Cond.selects RX6 yX6_pictures yX6_pictures, Cond.code yX6_pictures cX6_pictures 5 (some .int), Cond.methodLink RX6 188 yX6_likes, Cond.instanceMethod yX6_likes, Cond.selects RX6 yX6_likes yX6_likes, Cond.code yX6_likes cX6_likes 5 (some .int)]
def wsL_law_r31 : List Cond := [Cond.methodLink RX6 185 yX6_looksBeside, Cond.instanceMethod yX6_looksBeside, Cond.selects RX6 yX6_looksBeside yX6_looksBeside, Cond.code yX6_looksBeside cX6_looksBeside 3 none, Cond.methodLink RL 114 yX5_count, Cond.instanceMethod yX5_count, Cond.selects RX5 yX5_count yX5_count, Cond.code yX5_count cX5_count 2 (some .int), Cond.fieldLink RX5 202 "StripDepths$History" "states" "I", Cond.methodLink RX5 199 yX4_planesAboveZero, Cond.instanceMethod yX4_planesAboveZero, Cond.selects RX4 yX4_planesAboveZero yX4_planesAboveZero, Cond.code yX4_planesAboveZero cX4_planesAboveZero 3 (some .int), Cond.methodLink RX5 205 yX5_allPlacesOfKind, Cond.instanceMethod yX5_allPlacesOfKind, Cond.selects RX5 yX5_allPlacesOfKind yX5_allPlacesOfKind, Cond.code yX5_allPlacesOfKind cX5_allPlacesOfKind 4 (some .int), Cond.methodLink RL 117 yX6_count, Cond.instanceMethod yX6_count, Cond.selects RX6 yX6_count yX6_count, Cond.code yX6_count cX6_count 2 (some .int), Cond.methodLink RX6 191 yX6_overAll, Cond.instanceMethod yX6_overAll, Cond.selects RX6 yX6_overAll yX6_overAll]
def wsL_law_r32 : List Cond := [Cond.code yX6_overAll cX6_overAll 4 (some .int), Cond.methodLink RX6 194 yX6_raised, Cond.instanceMethod yX6_raised, Cond.selects RX6 yX6_raised yX6_raised, Cond.code yX6_raised cX6_raised 3 (some .int), Cond.methodLink RL 118 yX5_away, Cond.instanceMethod yX5_away, Cond.selects RX5 yX5_away yX5_away, Cond.code yX5_away cX5_away 5 (some .float), Cond.constantFloat RX5 208 (3212836864), Cond.methodLink RL 122 yX6_away, Cond.instanceMethod yX6_away, Cond.selects RX6 yX6_away yX6_away, Cond.code yX6_away cX6_away 4 (some .float), Cond.constantFloat RX6 197 (3212836864), Cond.methodLink RL 123 yX5_clearness, Cond.instanceMethod yX5_clearness, Cond.selects RX5 yX5_clearness yX5_clearness, Cond.code yX5_clearness cX5_clearness 2 (some .double), Cond.constantDouble RX5 209 (13830554455654793216), Cond.constantDouble RX5 211 (4629700416936869888), Cond.methodLink RL 127 yX6_clearness, Cond.instanceMethod yX6_clearness, Cond.selects RX6 yX6_clearness yX6_clearness]
def wsL_law_r33 : List Cond := [Cond.code yX6_clearness cX6_clearness 2 (some .double), Cond.constantDouble RX6 198 (4629700416936869888), Cond.constantDouble RX6 200 (13830554455654793216), Cond.methodLink RL 128 yX5_ifPainted, Cond.instanceMethod yX5_ifPainted, Cond.selects RX5 yX5_ifPainted yX5_ifPainted, Cond.code yX5_ifPainted cX5_ifPainted 5 (some .int), Cond.methodLink RX5 213 yX1_watch, Cond.methodLink RX5 216 yX1_placesSeenAs, Cond.instanceMethod yX1_placesSeenAs, Cond.selects RX1 yX1_placesSeenAs yX1_placesSeenAs, Cond.code yX1_placesSeenAs cX1_placesSeenAs 4 (some .int), Cond.methodLink RX5 220 yX1_farthestSeenOtherwise, Cond.instanceMethod yX1_farthestSeenOtherwise, Cond.selects RX1 yX1_farthestSeenOtherwise yX1_farthestSeenOtherwise, Cond.code yX1_farthestSeenOtherwise cX1_farthestSeenOtherwise 5 (some .int), Cond.methodLink RX1 122 Lib.Math.abs.name, Cond.static Lib.Math.abs.name, Cond.code Lib.Math.abs.name Lib.Math.abs.code 1 (some .int), Cond.methodLink RL 132 yX6_ifPainted, Cond.instanceMethod yX6_ifPainted, Cond.selects RX6 yX6_ifPainted yX6_ifPainted, Cond.code yX6_ifPainted cX6_ifPainted 10 (some .int), Cond.methodLink RL 133 yX5_ifPrinted]
def wsL_law_r34 : List Cond := [Cond.instanceMethod yX5_ifPrinted, Cond.selects RX5 yX5_ifPrinted yX5_ifPrinted, Cond.code yX5_ifPrinted cX5_ifPrinted 3 (some .int), Cond.methodLink RX5 224 yX5_rightIfPrinted, Cond.instanceMethod yX5_rightIfPrinted, Cond.selects RX5 yX5_rightIfPrinted yX5_rightIfPrinted, Cond.code yX5_rightIfPrinted cX5_rightIfPrinted 3 (some .int), Cond.fieldLink RX5 247 "StripDepths$Look" "period" "I", Cond.methodLink RL 136 yX6_ifPrinted, Cond.instanceMethod yX6_ifPrinted, Cond.selects RX6 yX6_ifPrinted yX6_ifPrinted, Cond.code yX6_ifPrinted cX6_ifPrinted 3 (some .int), Cond.methodLink RX6 205 yX6_rightBy, Cond.instanceMethod yX6_rightBy, Cond.selects RX6 yX6_rightBy yX6_rightBy, Cond.code yX6_rightBy cX6_rightBy 4 (some .int), Cond.methodLink RX6 202 yX6_putBack, Cond.instanceMethod yX6_putBack, Cond.selects RX6 yX6_putBack yX6_putBack, Cond.code yX6_putBack cX6_putBack 2 none, Cond.methodLink RL 137 yX5_shortest, Cond.instanceMethod yX5_shortest, Cond.selects RX5 yX5_shortest yX5_shortest, Cond.code yX5_shortest cX5_shortest 6 (some .int)]
def wsL_law_r35 : List Cond := [Cond.methodLink RL 140 yX6_shortest, Cond.instanceMethod yX6_shortest, Cond.selects RX6 yX6_shortest yX6_shortest, Cond.code yX6_shortest cX6_shortest 4 (some .int), Cond.methodLink RL 141 yX5_bestWindow, Cond.instanceMethod yX5_bestWindow, Cond.selects RX5 yX5_bestWindow yX5_bestWindow, Cond.code yX5_bestWindow cX5_bestWindow 6 (some .int), Cond.fieldLink RX5 227 "StripDepths$Look" "window" "I", Cond.methodLink RL 144 yX6_bestWindow, Cond.instanceMethod yX6_bestWindow, Cond.selects RX6 yX6_bestWindow yX6_bestWindow, Cond.code yX6_bestWindow cX6_bestWindow 4 (some .int), Cond.methodLink RX6 208 yX6_rightThrough, Cond.instanceMethod yX6_rightThrough, Cond.selects RX6 yX6_rightThrough yX6_rightThrough, Cond.code yX6_rightThrough cX6_rightThrough 5 (some .int), Cond.methodLink RL 145 yX5_alike, Cond.instanceMethod yX5_alike, Cond.selects RX5 yX5_alike yX5_alike, Cond.code yX5_alike cX5_alike 3 (some .int), Cond.methodLink RL 148 yX6_alike, Cond.instanceMethod yX6_alike, Cond.selects RX6 yX6_alike yX6_alike]
def wsL_law_r36 : List Cond := [Cond.code yX6_alike cX6_alike 3 (some .int), Cond.methodLink RL 149 yX5_undo, Cond.instanceMethod yX5_undo, Cond.selects RX5 yX5_undo yX5_undo, Cond.code yX5_undo cX5_undo 1 (some .int), Cond.methodLink RX5 230 yX0_takeBack, Cond.instanceMethod yX0_takeBack, Cond.selects RX0 yX0_takeBack yX0_takeBack, Cond.code yX0_takeBack cX0_takeBack 2 (some .boolean), Cond.methodLink RL 152 yX6_undo, Cond.instanceMethod yX6_undo, Cond.selects RX6 yX6_undo yX6_undo, Cond.code yX6_undo cX6_undo 2 (some .int), Cond.methodLink RL 153 yX5_save, Cond.instanceMethod yX5_save, Cond.selects RX5 yX5_save yX5_save, Cond.code yX5_save cX5_save 1 (some .int), Cond.fieldLink RX5 237 "StripDepths" "hasSnapshot" "Z", Cond.methodLink RX5 234 yX4_copyFrom, Cond.methodLink RL 156 yX6_save, Cond.instanceMethod yX6_save, Cond.selects RX6 yX6_save yX6_save, Cond.code yX6_save cX6_save 2 (some .int), Cond.fieldLink RX6 211 "StripDepthsModel" "isKept" "Z"]
def wsL_law_r37 : List Cond := [Cond.methodLink RX6 214 yX6_allRight, Cond.instanceMethod yX6_allRight, Cond.selects RX6 yX6_allRight yX6_allRight, Cond.code yX6_allRight cX6_allRight 3 (some .int), Cond.methodLink RL 157 yX5_restore, Cond.instanceMethod yX5_restore, Cond.selects RX5 yX5_restore yX5_restore, Cond.code yX5_restore cX5_restore 1 (some .int), Cond.methodLink RL 160 yX6_restore, Cond.instanceMethod yX6_restore, Cond.selects RX6 yX6_restore yX6_restore, Cond.code yX6_restore cX6_restore 2 (some .int)]
def wsL_law : List Cond := (wsL_law_r1 ++ (wsL_law_r2 ++ (wsL_law_r3 ++ (wsL_law_r4 ++ (wsL_law_r5 ++ (wsL_law_r6 ++ (wsL_law_r7 ++ (wsL_law_r8 ++ (wsL_law_r9 ++ (wsL_law_r10 ++ (wsL_law_r11 ++ (wsL_law_r12 ++ (wsL_law_r13 ++ (wsL_law_r14 ++ (wsL_law_r15 ++ (wsL_law_r16 ++ (wsL_law_r17 ++ (wsL_law_r18 ++ (wsL_law_r19 ++ (wsL_law_r20 ++ (wsL_law_r21 ++ (wsL_law_r22 ++ (wsL_law_r23 ++ (wsL_law_r24 ++ (wsL_law_r25 ++ (wsL_law_r26 ++ (wsL_law_r27 ++ (wsL_law_r28 ++ (wsL_law_r29 ++ (wsL_law_r30 ++ (wsL_law_r31 ++ (wsL_law_r32 ++ (wsL_law_r33 ++ (wsL_law_r34 ++ (wsL_law_r35 ++ (wsL_law_r36 ++ wsL_law_r37)))))))))))))))))))))))))))))))))))) ++ wsX50 ++ wsX60 ++ wsX40 ++ wsX00 ++ wsX20 ++ wsX10 ++ wsX30 ++ ([] : List Cond)
theorem inlX0 : ∀ w ∈ wsX00, w ∈ wsL_law := fun _ h => List.mem_append_left _ (List.mem_append_left _ (List.mem_append_left _ (List.mem_append_left _ (List.mem_append_right _ h))))
theorem inlX1 : ∀ w ∈ wsX10, w ∈ wsL_law := fun _ h => List.mem_append_left _ (List.mem_append_left _ (List.mem_append_right _ h))
theorem inlX2 : ∀ w ∈ wsX20, w ∈ wsL_law := fun _ h => List.mem_append_left _ (List.mem_append_left _ (List.mem_append_left _ (List.mem_append_right _ h)))
theorem inlX3 : ∀ w ∈ wsX30, w ∈ wsL_law := fun _ h => List.mem_append_left _ (List.mem_append_right _ h)
theorem inlX4 : ∀ w ∈ wsX40, w ∈ wsL_law := fun _ h => List.mem_append_left _ (List.mem_append_left _ (List.mem_append_left _ (List.mem_append_left _ (List.mem_append_left _ (List.mem_append_right _ h)))))
theorem inlX5 : ∀ w ∈ wsX50, w ∈ wsL_law := fun _ h => List.mem_append_left _ (List.mem_append_left _ (List.mem_append_left _ (List.mem_append_left _ (List.mem_append_left _ (List.mem_append_left _ (List.mem_append_left _ (List.mem_append_right _ h)))))))
theorem inlX6 : ∀ w ∈ wsX60, w ∈ wsL_law := fun _ h => List.mem_append_left _ (List.mem_append_left _ (List.mem_append_left _ (List.mem_append_left _ (List.mem_append_left _ (List.mem_append_left _ (List.mem_append_right _ h))))))
abbrev vwCl : List vw_C := [(RX0, TX0, 2), (RX1, TX1, 9), (RX2, TX2, 3), (RX3, TX3, 6), (RX4, TX4, 7), (RX5, TX5, 9), (RX6, TX6, 17)]
/-! a row for each word of the law's list -/
theorem inr_1 : ∀ w ∈ wsL_law_r1, w ∈ wsL_law := fun _ h => List.mem_append_left _ (List.mem_append_left _ (List.mem_append_left _ (List.mem_append_left _ (List.mem_append_left _ (List.mem_append_left _ (List.mem_append_left _ (List.mem_append_left _ (List.mem_append_left _ h))))))))
theorem qw_1_0 : Cond.classLink RL 7 RX5 ∈ wsL_law := inr_1 _ (List.mem_of_getElem? (i := 0) rfl)
theorem qw_1_1 : Cond.instantiable RX5 9 ∈ wsL_law := inr_1 _ (List.mem_of_getElem? (i := 1) rfl)
theorem qw_1_2 : Cond.initialized RX5 ∈ wsL_law := inr_1 _ (List.mem_of_getElem? (i := 2) rfl)
theorem qw_1_3 : Cond.classLink RL 10 RX6 ∈ wsL_law := inr_1 _ (List.mem_of_getElem? (i := 3) rfl)
theorem qw_1_4 : Cond.instantiable RX6 17 ∈ wsL_law := inr_1 _ (List.mem_of_getElem? (i := 4) rfl)
theorem qw_1_5 : Cond.initialized RX6 ∈ wsL_law := inr_1 _ (List.mem_of_getElem? (i := 5) rfl)
theorem qw_1_6 : Cond.methodLink RL 9 yX5_init ∈ wsL_law := inr_1 _ (List.mem_of_getElem? (i := 6) rfl)
theorem qw_1_7 : Cond.instanceMethod yX5_init ∈ wsL_law := inr_1 _ (List.mem_of_getElem? (i := 7) rfl)
theorem qw_1_8 : Cond.code yX5_init cX5_init 1 none ∈ wsL_law := inr_1 _ (List.mem_of_getElem? (i := 8) rfl)
theorem qw_1_9 : Cond.methodLink RX5 3 objectInit ∈ wsL_law := inr_1 _ (List.mem_of_getElem? (i := 9) rfl)
theorem qw_1_10 : Cond.instanceMethod objectInit ∈ wsL_law := inr_1 _ (List.mem_of_getElem? (i := 10) rfl)
theorem qw_1_11 : Cond.code objectInit ⟨#[0xb1]⟩ 1 none ∈ wsL_law := inr_1 _ (List.mem_of_getElem? (i := 11) rfl)
theorem qw_1_12 : Cond.classLink RX5 9 RX4 ∈ wsL_law := inr_1 _ (List.mem_of_getElem? (i := 12) rfl)
theorem qw_1_13 : Cond.instantiable RX4 7 ∈ wsL_law := inr_1 _ (List.mem_of_getElem? (i := 13) rfl)
theorem qw_1_14 : Cond.initialized RX4 ∈ wsL_law := inr_1 _ (List.mem_of_getElem? (i := 14) rfl)
theorem qw_1_15 : Cond.fieldLink RX5 12 "StripDepths" "now" "LStripDepths$Sheet;" ∈ wsL_law := inr_1 _ (List.mem_of_getElem? (i := 15) rfl)
theorem qw_1_16 : Cond.fieldLink RX5 16 "StripDepths" "snapshot" "LStripDepths$Sheet;" ∈ wsL_law := inr_1 _ (List.mem_of_getElem? (i := 16) rfl)
theorem qw_1_17 : Cond.classLink RX5 19 RX0 ∈ wsL_law := inr_1 _ (List.mem_of_getElem? (i := 17) rfl)
theorem qw_1_18 : Cond.instantiable RX0 2 ∈ wsL_law := inr_1 _ (List.mem_of_getElem? (i := 18) rfl)
theorem qw_1_19 : Cond.initialized RX0 ∈ wsL_law := inr_1 _ (List.mem_of_getElem? (i := 19) rfl)
theorem qw_1_20 : Cond.fieldLink RX5 22 "StripDepths" "history" "LStripDepths$History;" ∈ wsL_law := inr_1 _ (List.mem_of_getElem? (i := 20) rfl)
theorem qw_1_21 : Cond.classLink RX5 26 RX2 ∈ wsL_law := inr_1 _ (List.mem_of_getElem? (i := 21) rfl)
theorem qw_1_22 : Cond.instantiable RX2 3 ∈ wsL_law := inr_1 _ (List.mem_of_getElem? (i := 22) rfl)
theorem qw_1_23 : Cond.initialized RX2 ∈ wsL_law := inr_1 _ (List.mem_of_getElem? (i := 23) rfl)
theorem inr_2 : ∀ w ∈ wsL_law_r2, w ∈ wsL_law := fun _ h => List.mem_append_left _ (List.mem_append_left _ (List.mem_append_left _ (List.mem_append_left _ (List.mem_append_left _ (List.mem_append_left _ (List.mem_append_left _ (List.mem_append_left _ (List.mem_append_right _ (List.mem_append_left _ h)))))))))
theorem qw_2_0 : Cond.fieldLink RX5 29 "StripDepths" "pad" "LStripDepths$Pad;" ∈ wsL_law := inr_2 _ (List.mem_of_getElem? (i := 0) rfl)
theorem qw_2_1 : Cond.classLink RX5 33 RX1 ∈ wsL_law := inr_2 _ (List.mem_of_getElem? (i := 1) rfl)
theorem qw_2_2 : Cond.instantiable RX1 9 ∈ wsL_law := inr_2 _ (List.mem_of_getElem? (i := 2) rfl)
theorem qw_2_3 : Cond.initialized RX1 ∈ wsL_law := inr_2 _ (List.mem_of_getElem? (i := 3) rfl)
theorem qw_2_4 : Cond.fieldLink RX5 36 "StripDepths" "look" "LStripDepths$Look;" ∈ wsL_law := inr_2 _ (List.mem_of_getElem? (i := 4) rfl)
theorem qw_2_5 : Cond.fieldLink RX5 40 "StripDepths" "otherLook" "LStripDepths$Look;" ∈ wsL_law := inr_2 _ (List.mem_of_getElem? (i := 5) rfl)
theorem qw_2_6 : Cond.arrayClass .int ∈ wsL_law := inr_2 _ (List.mem_of_getElem? (i := 6) rfl)
theorem qw_2_7 : Cond.fieldLink RX5 43 "StripDepths" "views" "[I" ∈ wsL_law := inr_2 _ (List.mem_of_getElem? (i := 7) rfl)
theorem qw_2_8 : Cond.fieldLink RX5 47 "StripDepths" "ranked" "[I" ∈ wsL_law := inr_2 _ (List.mem_of_getElem? (i := 8) rfl)
theorem qw_2_9 : Cond.methodLink RX5 11 yX4_init ∈ wsL_law := inr_2 _ (List.mem_of_getElem? (i := 9) rfl)
theorem qw_2_10 : Cond.instanceMethod yX4_init ∈ wsL_law := inr_2 _ (List.mem_of_getElem? (i := 10) rfl)
theorem qw_2_11 : Cond.code yX4_init cX4_init 1 none ∈ wsL_law := inr_2 _ (List.mem_of_getElem? (i := 11) rfl)
theorem qw_2_12 : Cond.methodLink RX4 3 objectInit ∈ wsL_law := inr_2 _ (List.mem_of_getElem? (i := 12) rfl)
theorem qw_2_13 : Cond.fieldLink RX4 9 "StripDepths$Sheet" "planes" "[I" ∈ wsL_law := inr_2 _ (List.mem_of_getElem? (i := 13) rfl)
theorem qw_2_14 : Cond.fieldLink RX4 15 "StripDepths$Sheet" "dots" "[I" ∈ wsL_law := inr_2 _ (List.mem_of_getElem? (i := 14) rfl)
theorem qw_2_15 : Cond.fieldLink RX4 18 "StripDepths$Sheet" "remembered" "[I" ∈ wsL_law := inr_2 _ (List.mem_of_getElem? (i := 15) rfl)
theorem qw_2_16 : Cond.fieldLink RX4 21 "StripDepths$Sheet" "settings" "[I" ∈ wsL_law := inr_2 _ (List.mem_of_getElem? (i := 16) rfl)
theorem qw_2_17 : Cond.fieldLink RX4 24 "StripDepths$Sheet" "strip" "[I" ∈ wsL_law := inr_2 _ (List.mem_of_getElem? (i := 17) rfl)
theorem qw_2_18 : Cond.fieldLink RX4 27 "StripDepths$Sheet" "lot" "I" ∈ wsL_law := inr_2 _ (List.mem_of_getElem? (i := 18) rfl)
theorem qw_2_19 : Cond.methodLink RX4 40 arraycopyName ∈ wsL_law := inr_2 _ (List.mem_of_getElem? (i := 19) rfl)
theorem qw_2_20 : Cond.native arraycopyName ∈ wsL_law := inr_2 _ (List.mem_of_getElem? (i := 20) rfl)
theorem qw_2_21 : Cond.static arraycopyName ∈ wsL_law := inr_2 _ (List.mem_of_getElem? (i := 21) rfl)
theorem qw_2_22 : Cond.initialized "java/lang/System" ∈ wsL_law := inr_2 _ (List.mem_of_getElem? (i := 22) rfl)
theorem qw_2_23 : Cond.methodLink RX4 31 yJ7_fill_53178 ∈ wsL_law := inr_2 _ (List.mem_of_getElem? (i := 23) rfl)
theorem inr_3 : ∀ w ∈ wsL_law_r3, w ∈ wsL_law := fun _ h => List.mem_append_left _ (List.mem_append_left _ (List.mem_append_left _ (List.mem_append_left _ (List.mem_append_left _ (List.mem_append_left _ (List.mem_append_left _ (List.mem_append_left _ (List.mem_append_right _ (List.mem_append_right _ (List.mem_append_left _ h))))))))))
theorem qw_3_0 : Cond.static yJ7_fill_53178 ∈ wsL_law := inr_3 _ (List.mem_of_getElem? (i := 0) rfl)
theorem qw_3_1 : Cond.initialized RJ7 ∈ wsL_law := inr_3 _ (List.mem_of_getElem? (i := 1) rfl)
theorem qw_3_2 : Cond.code yJ7_fill_53178 cJ7_fill_53178 4 none ∈ wsL_law := inr_3 _ (List.mem_of_getElem? (i := 2) rfl)
theorem qw_3_3 : Cond.methodLink RX5 21 yX0_init ∈ wsL_law := inr_3 _ (List.mem_of_getElem? (i := 3) rfl)
theorem qw_3_4 : Cond.instanceMethod yX0_init ∈ wsL_law := inr_3 _ (List.mem_of_getElem? (i := 4) rfl)
theorem qw_3_5 : Cond.code yX0_init cX0_init 2 none ∈ wsL_law := inr_3 _ (List.mem_of_getElem? (i := 5) rfl)
theorem qw_3_6 : Cond.methodLink RX0 3 objectInit ∈ wsL_law := inr_3 _ (List.mem_of_getElem? (i := 6) rfl)
theorem qw_3_7 : Cond.classLink RX0 9 RX4 ∈ wsL_law := inr_3 _ (List.mem_of_getElem? (i := 7) rfl)
theorem qw_3_8 : Cond.fieldLink RX0 11 "StripDepths$History" "kept" "[LStripDepths$Sheet;" ∈ wsL_law := inr_3 _ (List.mem_of_getElem? (i := 8) rfl)
theorem qw_3_9 : Cond.methodLink RX0 17 yX4_init ∈ wsL_law := inr_3 _ (List.mem_of_getElem? (i := 9) rfl)
theorem qw_3_10 : Cond.instanceMethod yX2_init ∈ wsL_law := inr_3 _ (List.mem_of_getElem? (i := 10) rfl)
theorem qw_3_11 : Cond.code yX2_init cX2_init 1 none ∈ wsL_law := inr_3 _ (List.mem_of_getElem? (i := 11) rfl)
theorem qw_3_12 : Cond.methodLink RX2 3 objectInit ∈ wsL_law := inr_3 _ (List.mem_of_getElem? (i := 12) rfl)
theorem qw_3_13 : Cond.fieldLink RX2 9 "StripDepths$Pad" "codes" "[I" ∈ wsL_law := inr_3 _ (List.mem_of_getElem? (i := 13) rfl)
theorem qw_3_14 : Cond.classLink RX2 15 RX3 ∈ wsL_law := inr_3 _ (List.mem_of_getElem? (i := 14) rfl)
theorem qw_3_15 : Cond.instantiable RX3 6 ∈ wsL_law := inr_3 _ (List.mem_of_getElem? (i := 15) rfl)
theorem qw_3_16 : Cond.initialized RX3 ∈ wsL_law := inr_3 _ (List.mem_of_getElem? (i := 16) rfl)
theorem qw_3_17 : Cond.fieldLink RX2 18 "StripDepths$Pad" "reader" "LStripDepths$ShapeReader;" ∈ wsL_law := inr_3 _ (List.mem_of_getElem? (i := 17) rfl)
theorem qw_3_18 : Cond.instanceMethod yX3_init ∈ wsL_law := inr_3 _ (List.mem_of_getElem? (i := 18) rfl)
theorem qw_3_19 : Cond.code yX3_init cX3_init 1 none ∈ wsL_law := inr_3 _ (List.mem_of_getElem? (i := 19) rfl)
theorem qw_3_20 : Cond.methodLink RX3 3 objectInit ∈ wsL_law := inr_3 _ (List.mem_of_getElem? (i := 20) rfl)
theorem qw_3_21 : Cond.instanceMethod yX1_init ∈ wsL_law := inr_3 _ (List.mem_of_getElem? (i := 21) rfl)
theorem qw_3_22 : Cond.code yX1_init cX1_init 1 none ∈ wsL_law := inr_3 _ (List.mem_of_getElem? (i := 22) rfl)
theorem qw_3_23 : Cond.methodLink RX1 3 objectInit ∈ wsL_law := inr_3 _ (List.mem_of_getElem? (i := 23) rfl)
theorem inr_4 : ∀ w ∈ wsL_law_r4, w ∈ wsL_law := fun _ h => List.mem_append_left _ (List.mem_append_left _ (List.mem_append_left _ (List.mem_append_left _ (List.mem_append_left _ (List.mem_append_left _ (List.mem_append_left _ (List.mem_append_left _ (List.mem_append_right _ (List.mem_append_right _ (List.mem_append_right _ (List.mem_append_left _ h)))))))))))
theorem qw_4_0 : Cond.fieldLink RX1 9 "StripDepths$Look" "planes" "[I" ∈ wsL_law := inr_4 _ (List.mem_of_getElem? (i := 0) rfl)
theorem qw_4_1 : Cond.fieldLink RX1 15 "StripDepths$Look" "dots" "[I" ∈ wsL_law := inr_4 _ (List.mem_of_getElem? (i := 1) rfl)
theorem qw_4_2 : Cond.fieldLink RX1 18 "StripDepths$Look" "remembered" "[I" ∈ wsL_law := inr_4 _ (List.mem_of_getElem? (i := 2) rfl)
theorem qw_4_3 : Cond.fieldLink RX1 21 "StripDepths$Look" "seen" "[I" ∈ wsL_law := inr_4 _ (List.mem_of_getElem? (i := 3) rfl)
theorem qw_4_4 : Cond.fieldLink RX1 24 "StripDepths$Look" "binders" "[I" ∈ wsL_law := inr_4 _ (List.mem_of_getElem? (i := 4) rfl)
theorem qw_4_5 : Cond.fieldLink RX1 27 "StripDepths$Look" "chains" "[I" ∈ wsL_law := inr_4 _ (List.mem_of_getElem? (i := 5) rfl)
theorem qw_4_6 : Cond.methodLink RL 12 yX6_init ∈ wsL_law := inr_4 _ (List.mem_of_getElem? (i := 6) rfl)
theorem qw_4_7 : Cond.instanceMethod yX6_init ∈ wsL_law := inr_4 _ (List.mem_of_getElem? (i := 7) rfl)
theorem qw_4_8 : Cond.code yX6_init cX6_init 1 none ∈ wsL_law := inr_4 _ (List.mem_of_getElem? (i := 8) rfl)
theorem qw_4_9 : Cond.methodLink RX6 1 objectInit ∈ wsL_law := inr_4 _ (List.mem_of_getElem? (i := 9) rfl)
theorem qw_4_10 : Cond.fieldLink RX6 7 "StripDepthsModel" "s" "[I" ∈ wsL_law := inr_4 _ (List.mem_of_getElem? (i := 10) rfl)
theorem qw_4_11 : Cond.fieldLink RX6 13 "StripDepthsModel" "aside" "[I" ∈ wsL_law := inr_4 _ (List.mem_of_getElem? (i := 11) rfl)
theorem qw_4_12 : Cond.fieldLink RX6 16 "StripDepthsModel" "past" "[I" ∈ wsL_law := inr_4 _ (List.mem_of_getElem? (i := 12) rfl)
theorem qw_4_13 : Cond.fieldLink RX6 19 "StripDepthsModel" "snapshot" "[I" ∈ wsL_law := inr_4 _ (List.mem_of_getElem? (i := 13) rfl)
theorem qw_4_14 : Cond.fieldLink RX6 22 "StripDepthsModel" "pad" "[I" ∈ wsL_law := inr_4 _ (List.mem_of_getElem? (i := 14) rfl)
theorem qw_4_15 : Cond.fieldLink RX6 25 "StripDepthsModel" "seen" "[I" ∈ wsL_law := inr_4 _ (List.mem_of_getElem? (i := 15) rfl)
theorem qw_4_16 : Cond.fieldLink RX6 28 "StripDepthsModel" "other" "[I" ∈ wsL_law := inr_4 _ (List.mem_of_getElem? (i := 16) rfl)
theorem qw_4_17 : Cond.methodLink RL 13 yX5_lay ∈ wsL_law := inr_4 _ (List.mem_of_getElem? (i := 17) rfl)
theorem qw_4_18 : Cond.instanceMethod yX5_lay ∈ wsL_law := inr_4 _ (List.mem_of_getElem? (i := 18) rfl)
theorem qw_4_19 : Cond.selects RX5 yX5_lay yX5_lay ∈ wsL_law := inr_4 _ (List.mem_of_getElem? (i := 19) rfl)
theorem qw_4_20 : Cond.code yX5_lay cX5_lay 7 (some .int) ∈ wsL_law := inr_4 _ (List.mem_of_getElem? (i := 20) rfl)
theorem qw_4_21 : Cond.methodLink RX5 50 yX5_isRow ∈ wsL_law := inr_4 _ (List.mem_of_getElem? (i := 21) rfl)
theorem qw_4_22 : Cond.static yX5_isRow ∈ wsL_law := inr_4 _ (List.mem_of_getElem? (i := 22) rfl)
theorem qw_4_23 : Cond.code yX5_isRow cX5_isRow 1 (some .boolean) ∈ wsL_law := inr_4 _ (List.mem_of_getElem? (i := 23) rfl)
theorem inr_5 : ∀ w ∈ wsL_law_r5, w ∈ wsL_law := fun _ h => List.mem_append_left _ (List.mem_append_left _ (List.mem_append_left _ (List.mem_append_left _ (List.mem_append_left _ (List.mem_append_left _ (List.mem_append_left _ (List.mem_append_left _ (List.mem_append_right _ (List.mem_append_right _ (List.mem_append_right _ (List.mem_append_right _ (List.mem_append_left _ h))))))))))))
theorem qw_5_0 : Cond.methodLink RX5 54 yX5_isColumn ∈ wsL_law := inr_5 _ (List.mem_of_getElem? (i := 0) rfl)
theorem qw_5_1 : Cond.static yX5_isColumn ∈ wsL_law := inr_5 _ (List.mem_of_getElem? (i := 1) rfl)
theorem qw_5_2 : Cond.code yX5_isColumn cX5_isColumn 1 (some .boolean) ∈ wsL_law := inr_5 _ (List.mem_of_getElem? (i := 2) rfl)
theorem qw_5_3 : Cond.methodLink RX5 57 yX5_isPlane ∈ wsL_law := inr_5 _ (List.mem_of_getElem? (i := 3) rfl)
theorem qw_5_4 : Cond.static yX5_isPlane ∈ wsL_law := inr_5 _ (List.mem_of_getElem? (i := 4) rfl)
theorem qw_5_5 : Cond.code yX5_isPlane cX5_isPlane 1 (some .boolean) ∈ wsL_law := inr_5 _ (List.mem_of_getElem? (i := 5) rfl)
theorem qw_5_6 : Cond.methodLink RX5 60 yX0_record ∈ wsL_law := inr_5 _ (List.mem_of_getElem? (i := 6) rfl)
theorem qw_5_7 : Cond.instanceMethod yX0_record ∈ wsL_law := inr_5 _ (List.mem_of_getElem? (i := 7) rfl)
theorem qw_5_8 : Cond.selects RX0 yX0_record yX0_record ∈ wsL_law := inr_5 _ (List.mem_of_getElem? (i := 8) rfl)
theorem qw_5_9 : Cond.code yX0_record cX0_record 3 (some (.object "StripDepths$Sheet")) ∈ wsL_law := inr_5 _ (List.mem_of_getElem? (i := 9) rfl)
theorem qw_5_10 : Cond.fieldLink RX0 18 "StripDepths$History" "states" "I" ∈ wsL_law := inr_5 _ (List.mem_of_getElem? (i := 10) rfl)
theorem qw_5_11 : Cond.methodLink RX0 22 yX0_dropOldest ∈ wsL_law := inr_5 _ (List.mem_of_getElem? (i := 11) rfl)
theorem qw_5_12 : Cond.instanceMethod yX0_dropOldest ∈ wsL_law := inr_5 _ (List.mem_of_getElem? (i := 12) rfl)
theorem qw_5_13 : Cond.selects RX0 yX0_dropOldest yX0_dropOldest ∈ wsL_law := inr_5 _ (List.mem_of_getElem? (i := 13) rfl)
theorem qw_5_14 : Cond.code yX0_dropOldest cX0_dropOldest 3 none ∈ wsL_law := inr_5 _ (List.mem_of_getElem? (i := 14) rfl)
theorem qw_5_15 : Cond.methodLink RX0 25 yX4_copyFrom ∈ wsL_law := inr_5 _ (List.mem_of_getElem? (i := 15) rfl)
theorem qw_5_16 : Cond.instanceMethod yX4_copyFrom ∈ wsL_law := inr_5 _ (List.mem_of_getElem? (i := 16) rfl)
theorem qw_5_17 : Cond.selects RX4 yX4_copyFrom yX4_copyFrom ∈ wsL_law := inr_5 _ (List.mem_of_getElem? (i := 17) rfl)
theorem qw_5_18 : Cond.code yX4_copyFrom cX4_copyFrom 2 none ∈ wsL_law := inr_5 _ (List.mem_of_getElem? (i := 18) rfl)
theorem qw_5_19 : Cond.fieldLink RX4 46 "StripDepths$Sheet" "stripLength" "I" ∈ wsL_law := inr_5 _ (List.mem_of_getElem? (i := 19) rfl)
theorem qw_5_20 : Cond.methodLink RX5 64 yX4_layPlane ∈ wsL_law := inr_5 _ (List.mem_of_getElem? (i := 20) rfl)
theorem qw_5_21 : Cond.instanceMethod yX4_layPlane ∈ wsL_law := inr_5 _ (List.mem_of_getElem? (i := 21) rfl)
theorem qw_5_22 : Cond.selects RX4 yX4_layPlane yX4_layPlane ∈ wsL_law := inr_5 _ (List.mem_of_getElem? (i := 22) rfl)
theorem qw_5_23 : Cond.code yX4_layPlane cX4_layPlane 8 none ∈ wsL_law := inr_5 _ (List.mem_of_getElem? (i := 23) rfl)
theorem inr_6 : ∀ w ∈ wsL_law_r6, w ∈ wsL_law := fun _ h => List.mem_append_left _ (List.mem_append_left _ (List.mem_append_left _ (List.mem_append_left _ (List.mem_append_left _ (List.mem_append_left _ (List.mem_append_left _ (List.mem_append_left _ (List.mem_append_right _ (List.mem_append_right _ (List.mem_append_right _ (List.mem_append_right _ (List.mem_append_right _ (List.mem_append_left _ h)))))))))))))
theorem qw_6_0 : Cond.static yX5_placeOf ∈ wsL_law := inr_6 _ (List.mem_of_getElem? (i := 0) rfl)
theorem qw_6_1 : Cond.code yX5_placeOf cX5_placeOf 2 (some .int) ∈ wsL_law := inr_6 _ (List.mem_of_getElem? (i := 1) rfl)
theorem qw_6_2 : Cond.methodLink RX5 68 yX4_otherPlanesThan ∈ wsL_law := inr_6 _ (List.mem_of_getElem? (i := 2) rfl)
theorem qw_6_3 : Cond.instanceMethod yX4_otherPlanesThan ∈ wsL_law := inr_6 _ (List.mem_of_getElem? (i := 3) rfl)
theorem qw_6_4 : Cond.selects RX4 yX4_otherPlanesThan yX4_otherPlanesThan ∈ wsL_law := inr_6 _ (List.mem_of_getElem? (i := 4) rfl)
theorem qw_6_5 : Cond.code yX4_otherPlanesThan cX4_otherPlanesThan 2 (some .int) ∈ wsL_law := inr_6 _ (List.mem_of_getElem? (i := 5) rfl)
theorem qw_6_6 : Cond.methodLink RX4 60 yX4_differences ∈ wsL_law := inr_6 _ (List.mem_of_getElem? (i := 6) rfl)
theorem qw_6_7 : Cond.static yX4_differences ∈ wsL_law := inr_6 _ (List.mem_of_getElem? (i := 7) rfl)
theorem qw_6_8 : Cond.code yX4_differences cX4_differences 4 (some .int) ∈ wsL_law := inr_6 _ (List.mem_of_getElem? (i := 8) rfl)
theorem qw_6_9 : Cond.methodLink RL 17 yX6_lay ∈ wsL_law := inr_6 _ (List.mem_of_getElem? (i := 9) rfl)
theorem qw_6_10 : Cond.instanceMethod yX6_lay ∈ wsL_law := inr_6 _ (List.mem_of_getElem? (i := 10) rfl)
theorem qw_6_11 : Cond.selects RX6 yX6_lay yX6_lay ∈ wsL_law := inr_6 _ (List.mem_of_getElem? (i := 11) rfl)
theorem qw_6_12 : Cond.code yX6_lay cX6_lay 6 (some .int) ∈ wsL_law := inr_6 _ (List.mem_of_getElem? (i := 12) rfl)
theorem qw_6_13 : Cond.methodLink RX6 78 yX6_isRow ∈ wsL_law := inr_6 _ (List.mem_of_getElem? (i := 13) rfl)
theorem qw_6_14 : Cond.static yX6_isRow ∈ wsL_law := inr_6 _ (List.mem_of_getElem? (i := 14) rfl)
theorem qw_6_15 : Cond.code yX6_isRow cX6_isRow 1 (some .boolean) ∈ wsL_law := inr_6 _ (List.mem_of_getElem? (i := 15) rfl)
theorem qw_6_16 : Cond.methodLink RX6 31 yX6_in ∈ wsL_law := inr_6 _ (List.mem_of_getElem? (i := 16) rfl)
theorem qw_6_17 : Cond.static yX6_in ∈ wsL_law := inr_6 _ (List.mem_of_getElem? (i := 17) rfl)
theorem qw_6_18 : Cond.code yX6_in cX6_in 3 (some .boolean) ∈ wsL_law := inr_6 _ (List.mem_of_getElem? (i := 18) rfl)
theorem qw_6_19 : Cond.methodLink RX6 52 yX6_isColumn ∈ wsL_law := inr_6 _ (List.mem_of_getElem? (i := 19) rfl)
theorem qw_6_20 : Cond.static yX6_isColumn ∈ wsL_law := inr_6 _ (List.mem_of_getElem? (i := 20) rfl)
theorem qw_6_21 : Cond.code yX6_isColumn cX6_isColumn 1 (some .boolean) ∈ wsL_law := inr_6 _ (List.mem_of_getElem? (i := 21) rfl)
theorem qw_6_22 : Cond.methodLink RX6 81 yX6_records ∈ wsL_law := inr_6 _ (List.mem_of_getElem? (i := 22) rfl)
theorem qw_6_23 : Cond.instanceMethod yX6_records ∈ wsL_law := inr_6 _ (List.mem_of_getElem? (i := 23) rfl)
theorem inr_7 : ∀ w ∈ wsL_law_r7, w ∈ wsL_law := fun _ h => List.mem_append_left _ (List.mem_append_left _ (List.mem_append_left _ (List.mem_append_left _ (List.mem_append_left _ (List.mem_append_left _ (List.mem_append_left _ (List.mem_append_left _ (List.mem_append_right _ (List.mem_append_right _ (List.mem_append_right _ (List.mem_append_right _ (List.mem_append_right _ (List.mem_append_right _ (List.mem_append_left _ h))))))))))))))
theorem qw_7_0 : Cond.selects RX6 yX6_records yX6_records ∈ wsL_law := inr_7 _ (List.mem_of_getElem? (i := 0) rfl)
theorem qw_7_1 : Cond.code yX6_records cX6_records 2 none ∈ wsL_law := inr_7 _ (List.mem_of_getElem? (i := 1) rfl)
theorem qw_7_2 : Cond.fieldLink RX6 39 "StripDepthsModel" "pasts" "I" ∈ wsL_law := inr_7 _ (List.mem_of_getElem? (i := 2) rfl)
theorem qw_7_3 : Cond.methodLink RX6 84 yX6_putAside ∈ wsL_law := inr_7 _ (List.mem_of_getElem? (i := 3) rfl)
theorem qw_7_4 : Cond.instanceMethod yX6_putAside ∈ wsL_law := inr_7 _ (List.mem_of_getElem? (i := 4) rfl)
theorem qw_7_5 : Cond.selects RX6 yX6_putAside yX6_putAside ∈ wsL_law := inr_7 _ (List.mem_of_getElem? (i := 5) rfl)
theorem qw_7_6 : Cond.code yX6_putAside cX6_putAside 2 none ∈ wsL_law := inr_7 _ (List.mem_of_getElem? (i := 6) rfl)
theorem qw_7_7 : Cond.methodLink RX6 87 yX6_lays ∈ wsL_law := inr_7 _ (List.mem_of_getElem? (i := 7) rfl)
theorem qw_7_8 : Cond.instanceMethod yX6_lays ∈ wsL_law := inr_7 _ (List.mem_of_getElem? (i := 8) rfl)
theorem qw_7_9 : Cond.selects RX6 yX6_lays yX6_lays ∈ wsL_law := inr_7 _ (List.mem_of_getElem? (i := 9) rfl)
theorem qw_7_10 : Cond.code yX6_lays cX6_lays 8 none ∈ wsL_law := inr_7 _ (List.mem_of_getElem? (i := 10) rfl)
theorem qw_7_11 : Cond.methodLink RX6 35 yX6_place ∈ wsL_law := inr_7 _ (List.mem_of_getElem? (i := 11) rfl)
theorem qw_7_12 : Cond.static yX6_place ∈ wsL_law := inr_7 _ (List.mem_of_getElem? (i := 12) rfl)
theorem qw_7_13 : Cond.code yX6_place cX6_place 2 (some .int) ∈ wsL_law := inr_7 _ (List.mem_of_getElem? (i := 13) rfl)
theorem qw_7_14 : Cond.methodLink RX6 91 yX6_changed ∈ wsL_law := inr_7 _ (List.mem_of_getElem? (i := 14) rfl)
theorem qw_7_15 : Cond.instanceMethod yX6_changed ∈ wsL_law := inr_7 _ (List.mem_of_getElem? (i := 15) rfl)
theorem qw_7_16 : Cond.selects RX6 yX6_changed yX6_changed ∈ wsL_law := inr_7 _ (List.mem_of_getElem? (i := 16) rfl)
theorem qw_7_17 : Cond.code yX6_changed cX6_changed 4 (some .int) ∈ wsL_law := inr_7 _ (List.mem_of_getElem? (i := 17) rfl)
theorem qw_7_18 : Cond.methodLink RL 18 yX5_shift ∈ wsL_law := inr_7 _ (List.mem_of_getElem? (i := 18) rfl)
theorem qw_7_19 : Cond.instanceMethod yX5_shift ∈ wsL_law := inr_7 _ (List.mem_of_getElem? (i := 19) rfl)
theorem qw_7_20 : Cond.selects RX5 yX5_shift yX5_shift ∈ wsL_law := inr_7 _ (List.mem_of_getElem? (i := 20) rfl)
theorem qw_7_21 : Cond.code yX5_shift cX5_shift 7 (some .int) ∈ wsL_law := inr_7 _ (List.mem_of_getElem? (i := 21) rfl)
theorem qw_7_22 : Cond.fieldLink RX5 76 "StripDepths$Look" "planes" "[I" ∈ wsL_law := inr_7 _ (List.mem_of_getElem? (i := 22) rfl)
theorem qw_7_23 : Cond.fieldLink RX5 79 "StripDepths$Sheet" "planes" "[I" ∈ wsL_law := inr_7 _ (List.mem_of_getElem? (i := 23) rfl)
theorem inr_8 : ∀ w ∈ wsL_law_r8, w ∈ wsL_law := fun _ h => List.mem_append_left _ (List.mem_append_left _ (List.mem_append_left _ (List.mem_append_left _ (List.mem_append_left _ (List.mem_append_left _ (List.mem_append_left _ (List.mem_append_left _ (List.mem_append_right _ (List.mem_append_right _ (List.mem_append_right _ (List.mem_append_right _ (List.mem_append_right _ (List.mem_append_right _ (List.mem_append_right _ (List.mem_append_left _ h)))))))))))))))
theorem qw_8_0 : Cond.methodLink RX5 72 yX1_takeRow ∈ wsL_law := inr_8 _ (List.mem_of_getElem? (i := 0) rfl)
theorem qw_8_1 : Cond.instanceMethod yX1_takeRow ∈ wsL_law := inr_8 _ (List.mem_of_getElem? (i := 1) rfl)
theorem qw_8_2 : Cond.selects RX1 yX1_takeRow yX1_takeRow ∈ wsL_law := inr_8 _ (List.mem_of_getElem? (i := 2) rfl)
theorem qw_8_3 : Cond.code yX1_takeRow cX1_takeRow 4 none ∈ wsL_law := inr_8 _ (List.mem_of_getElem? (i := 3) rfl)
theorem qw_8_4 : Cond.fieldLink RX1 34 "StripDepths$Sheet" "planes" "[I" ∈ wsL_law := inr_8 _ (List.mem_of_getElem? (i := 4) rfl)
theorem qw_8_5 : Cond.methodLink RX1 37 arraycopyName ∈ wsL_law := inr_8 _ (List.mem_of_getElem? (i := 5) rfl)
theorem qw_8_6 : Cond.fieldLink RX1 43 "StripDepths$Sheet" "dots" "[I" ∈ wsL_law := inr_8 _ (List.mem_of_getElem? (i := 6) rfl)
theorem qw_8_7 : Cond.fieldLink RX1 44 "StripDepths$Sheet" "remembered" "[I" ∈ wsL_law := inr_8 _ (List.mem_of_getElem? (i := 7) rfl)
theorem qw_8_8 : Cond.fieldLink RX1 45 "StripDepths$Sheet" "settings" "[I" ∈ wsL_law := inr_8 _ (List.mem_of_getElem? (i := 8) rfl)
theorem qw_8_9 : Cond.fieldLink RX1 48 "StripDepths$Look" "period" "I" ∈ wsL_law := inr_8 _ (List.mem_of_getElem? (i := 9) rfl)
theorem qw_8_10 : Cond.fieldLink RX1 52 "StripDepths$Look" "window" "I" ∈ wsL_law := inr_8 _ (List.mem_of_getElem? (i := 10) rfl)
theorem qw_8_11 : Cond.fieldLink RX1 55 "StripDepths$Look" "crossed" "Z" ∈ wsL_law := inr_8 _ (List.mem_of_getElem? (i := 11) rfl)
theorem qw_8_12 : Cond.methodLink RX5 80 yX5_placeOf ∈ wsL_law := inr_8 _ (List.mem_of_getElem? (i := 12) rfl)
theorem qw_8_13 : Cond.methodLink RL 22 yX6_shift ∈ wsL_law := inr_8 _ (List.mem_of_getElem? (i := 13) rfl)
theorem qw_8_14 : Cond.instanceMethod yX6_shift ∈ wsL_law := inr_8 _ (List.mem_of_getElem? (i := 14) rfl)
theorem qw_8_15 : Cond.selects RX6 yX6_shift yX6_shift ∈ wsL_law := inr_8 _ (List.mem_of_getElem? (i := 15) rfl)
theorem qw_8_16 : Cond.code yX6_shift cX6_shift 6 (some .int) ∈ wsL_law := inr_8 _ (List.mem_of_getElem? (i := 16) rfl)
theorem qw_8_17 : Cond.methodLink RL 23 yX5_swap ∈ wsL_law := inr_8 _ (List.mem_of_getElem? (i := 17) rfl)
theorem qw_8_18 : Cond.instanceMethod yX5_swap ∈ wsL_law := inr_8 _ (List.mem_of_getElem? (i := 18) rfl)
theorem qw_8_19 : Cond.selects RX5 yX5_swap yX5_swap ∈ wsL_law := inr_8 _ (List.mem_of_getElem? (i := 19) rfl)
theorem qw_8_20 : Cond.code yX5_swap cX5_swap 5 (some .int) ∈ wsL_law := inr_8 _ (List.mem_of_getElem? (i := 20) rfl)
theorem qw_8_21 : Cond.methodLink RX5 84 yX1_putRow ∈ wsL_law := inr_8 _ (List.mem_of_getElem? (i := 21) rfl)
theorem qw_8_22 : Cond.instanceMethod yX1_putRow ∈ wsL_law := inr_8 _ (List.mem_of_getElem? (i := 22) rfl)
theorem qw_8_23 : Cond.selects RX1 yX1_putRow yX1_putRow ∈ wsL_law := inr_8 _ (List.mem_of_getElem? (i := 23) rfl)
theorem inr_9 : ∀ w ∈ wsL_law_r9, w ∈ wsL_law := fun _ h => List.mem_append_left _ (List.mem_append_left _ (List.mem_append_left _ (List.mem_append_left _ (List.mem_append_left _ (List.mem_append_left _ (List.mem_append_left _ (List.mem_append_left _ (List.mem_append_right _ (List.mem_append_right _ (List.mem_append_right _ (List.mem_append_right _ (List.mem_append_right _ (List.mem_append_right _ (List.mem_append_right _ (List.mem_append_right _ (List.mem_append_left _ h))))))))))))))))
theorem qw_9_0 : Cond.code yX1_putRow cX1_putRow 4 none ∈ wsL_law := inr_9 _ (List.mem_of_getElem? (i := 0) rfl)
theorem qw_9_1 : Cond.methodLink RL 26 yX6_swap ∈ wsL_law := inr_9 _ (List.mem_of_getElem? (i := 1) rfl)
theorem qw_9_2 : Cond.instanceMethod yX6_swap ∈ wsL_law := inr_9 _ (List.mem_of_getElem? (i := 2) rfl)
theorem qw_9_3 : Cond.selects RX6 yX6_swap yX6_swap ∈ wsL_law := inr_9 _ (List.mem_of_getElem? (i := 3) rfl)
theorem qw_9_4 : Cond.code yX6_swap cX6_swap 6 (some .int) ∈ wsL_law := inr_9 _ (List.mem_of_getElem? (i := 4) rfl)
theorem qw_9_5 : Cond.methodLink RX6 43 yX6_planeOf ∈ wsL_law := inr_9 _ (List.mem_of_getElem? (i := 5) rfl)
theorem qw_9_6 : Cond.instanceMethod yX6_planeOf ∈ wsL_law := inr_9 _ (List.mem_of_getElem? (i := 6) rfl)
theorem qw_9_7 : Cond.selects RX6 yX6_planeOf yX6_planeOf ∈ wsL_law := inr_9 _ (List.mem_of_getElem? (i := 7) rfl)
theorem qw_9_8 : Cond.code yX6_planeOf cX6_planeOf 3 (some .int) ∈ wsL_law := inr_9 _ (List.mem_of_getElem? (i := 8) rfl)
theorem qw_9_9 : Cond.methodLink RL 27 yX5_turn ∈ wsL_law := inr_9 _ (List.mem_of_getElem? (i := 9) rfl)
theorem qw_9_10 : Cond.instanceMethod yX5_turn ∈ wsL_law := inr_9 _ (List.mem_of_getElem? (i := 10) rfl)
theorem qw_9_11 : Cond.selects RX5 yX5_turn yX5_turn ∈ wsL_law := inr_9 _ (List.mem_of_getElem? (i := 11) rfl)
theorem qw_9_12 : Cond.code yX5_turn cX5_turn 2 (some .int) ∈ wsL_law := inr_9 _ (List.mem_of_getElem? (i := 12) rfl)
theorem qw_9_13 : Cond.methodLink RX5 87 yX1_turnRound ∈ wsL_law := inr_9 _ (List.mem_of_getElem? (i := 13) rfl)
theorem qw_9_14 : Cond.instanceMethod yX1_turnRound ∈ wsL_law := inr_9 _ (List.mem_of_getElem? (i := 14) rfl)
theorem qw_9_15 : Cond.selects RX1 yX1_turnRound yX1_turnRound ∈ wsL_law := inr_9 _ (List.mem_of_getElem? (i := 15) rfl)
theorem qw_9_16 : Cond.code yX1_turnRound cX1_turnRound 1 none ∈ wsL_law := inr_9 _ (List.mem_of_getElem? (i := 16) rfl)
theorem qw_9_17 : Cond.methodLink RX1 69 yX1_reverse ∈ wsL_law := inr_9 _ (List.mem_of_getElem? (i := 17) rfl)
theorem qw_9_18 : Cond.static yX1_reverse ∈ wsL_law := inr_9 _ (List.mem_of_getElem? (i := 18) rfl)
theorem qw_9_19 : Cond.code yX1_reverse cX1_reverse 4 none ∈ wsL_law := inr_9 _ (List.mem_of_getElem? (i := 19) rfl)
theorem qw_9_20 : Cond.methodLink RX5 90 yX5_placesOfKind ∈ wsL_law := inr_9 _ (List.mem_of_getElem? (i := 20) rfl)
theorem qw_9_21 : Cond.instanceMethod yX5_placesOfKind ∈ wsL_law := inr_9 _ (List.mem_of_getElem? (i := 21) rfl)
theorem qw_9_22 : Cond.selects RX5 yX5_placesOfKind yX5_placesOfKind ∈ wsL_law := inr_9 _ (List.mem_of_getElem? (i := 22) rfl)
theorem qw_9_23 : Cond.code yX5_placesOfKind cX5_placesOfKind 3 (some .int) ∈ wsL_law := inr_9 _ (List.mem_of_getElem? (i := 23) rfl)
theorem inr_10 : ∀ w ∈ wsL_law_r10, w ∈ wsL_law := fun _ h => List.mem_append_left _ (List.mem_append_left _ (List.mem_append_left _ (List.mem_append_left _ (List.mem_append_left _ (List.mem_append_left _ (List.mem_append_left _ (List.mem_append_left _ (List.mem_append_right _ (List.mem_append_right _ (List.mem_append_right _ (List.mem_append_right _ (List.mem_append_right _ (List.mem_append_right _ (List.mem_append_right _ (List.mem_append_right _ (List.mem_append_right _ (List.mem_append_left _ h)))))))))))))))))
theorem qw_10_0 : Cond.methodLink RX5 145 yX1_study ∈ wsL_law := inr_10 _ (List.mem_of_getElem? (i := 0) rfl)
theorem qw_10_1 : Cond.instanceMethod yX1_study ∈ wsL_law := inr_10 _ (List.mem_of_getElem? (i := 1) rfl)
theorem qw_10_2 : Cond.selects RX1 yX1_study yX1_study ∈ wsL_law := inr_10 _ (List.mem_of_getElem? (i := 2) rfl)
theorem qw_10_3 : Cond.code yX1_study cX1_study 3 none ∈ wsL_law := inr_10 _ (List.mem_of_getElem? (i := 3) rfl)
theorem qw_10_4 : Cond.methodLink RX1 59 yX1_takeRow ∈ wsL_law := inr_10 _ (List.mem_of_getElem? (i := 4) rfl)
theorem qw_10_5 : Cond.methodLink RX1 63 yX1_bind ∈ wsL_law := inr_10 _ (List.mem_of_getElem? (i := 5) rfl)
theorem qw_10_6 : Cond.instanceMethod yX1_bind ∈ wsL_law := inr_10 _ (List.mem_of_getElem? (i := 6) rfl)
theorem qw_10_7 : Cond.selects RX1 yX1_bind yX1_bind ∈ wsL_law := inr_10 _ (List.mem_of_getElem? (i := 7) rfl)
theorem qw_10_8 : Cond.code yX1_bind cX1_bind 3 none ∈ wsL_law := inr_10 _ (List.mem_of_getElem? (i := 8) rfl)
theorem qw_10_9 : Cond.methodLink RX1 73 yJ7_fill_53178 ∈ wsL_law := inr_10 _ (List.mem_of_getElem? (i := 9) rfl)
theorem qw_10_10 : Cond.methodLink RX1 82 yX1_boundTo ∈ wsL_law := inr_10 _ (List.mem_of_getElem? (i := 10) rfl)
theorem qw_10_11 : Cond.instanceMethod yX1_boundTo ∈ wsL_law := inr_10 _ (List.mem_of_getElem? (i := 11) rfl)
theorem qw_10_12 : Cond.selects RX1 yX1_boundTo yX1_boundTo ∈ wsL_law := inr_10 _ (List.mem_of_getElem? (i := 12) rfl)
theorem qw_10_13 : Cond.code yX1_boundTo cX1_boundTo 3 (some .int) ∈ wsL_law := inr_10 _ (List.mem_of_getElem? (i := 13) rfl)
theorem qw_10_14 : Cond.methodLink RX1 66 yX1_watch ∈ wsL_law := inr_10 _ (List.mem_of_getElem? (i := 14) rfl)
theorem qw_10_15 : Cond.instanceMethod yX1_watch ∈ wsL_law := inr_10 _ (List.mem_of_getElem? (i := 15) rfl)
theorem qw_10_16 : Cond.selects RX1 yX1_watch yX1_watch ∈ wsL_law := inr_10 _ (List.mem_of_getElem? (i := 16) rfl)
theorem qw_10_17 : Cond.code yX1_watch cX1_watch 4 none ∈ wsL_law := inr_10 _ (List.mem_of_getElem? (i := 17) rfl)
theorem qw_10_18 : Cond.methodLink RX1 92 yX1_nearestFitting ∈ wsL_law := inr_10 _ (List.mem_of_getElem? (i := 18) rfl)
theorem qw_10_19 : Cond.instanceMethod yX1_nearestFitting ∈ wsL_law := inr_10 _ (List.mem_of_getElem? (i := 19) rfl)
theorem qw_10_20 : Cond.selects RX1 yX1_nearestFitting yX1_nearestFitting ∈ wsL_law := inr_10 _ (List.mem_of_getElem? (i := 20) rfl)
theorem qw_10_21 : Cond.code yX1_nearestFitting cX1_nearestFitting 4 (some .int) ∈ wsL_law := inr_10 _ (List.mem_of_getElem? (i := 21) rfl)
theorem qw_10_22 : Cond.methodLink RX1 95 yX1_isFitting ∈ wsL_law := inr_10 _ (List.mem_of_getElem? (i := 22) rfl)
theorem qw_10_23 : Cond.instanceMethod yX1_isFitting ∈ wsL_law := inr_10 _ (List.mem_of_getElem? (i := 23) rfl)
theorem inr_11 : ∀ w ∈ wsL_law_r11, w ∈ wsL_law := fun _ h => List.mem_append_left _ (List.mem_append_left _ (List.mem_append_left _ (List.mem_append_left _ (List.mem_append_left _ (List.mem_append_left _ (List.mem_append_left _ (List.mem_append_left _ (List.mem_append_right _ (List.mem_append_right _ (List.mem_append_right _ (List.mem_append_right _ (List.mem_append_right _ (List.mem_append_right _ (List.mem_append_right _ (List.mem_append_right _ (List.mem_append_right _ (List.mem_append_right _ (List.mem_append_left _ h))))))))))))))))))
theorem qw_11_0 : Cond.selects RX1 yX1_isFitting yX1_isFitting ∈ wsL_law := inr_11 _ (List.mem_of_getElem? (i := 0) rfl)
theorem qw_11_1 : Cond.code yX1_isFitting cX1_isFitting 7 (some .boolean) ∈ wsL_law := inr_11 _ (List.mem_of_getElem? (i := 1) rfl)
theorem qw_11_2 : Cond.methodLink RX1 99 Lib.Math.max.name ∈ wsL_law := inr_11 _ (List.mem_of_getElem? (i := 2) rfl)
theorem qw_11_3 : Cond.static Lib.Math.max.name ∈ wsL_law := inr_11 _ (List.mem_of_getElem? (i := 3) rfl)
theorem qw_11_4 : Cond.initialized "java/lang/Math" ∈ wsL_law := inr_11 _ (List.mem_of_getElem? (i := 4) rfl)
theorem qw_11_5 : Cond.code Lib.Math.max.name Lib.Math.max.code 2 (some .int) ∈ wsL_law := inr_11 _ (List.mem_of_getElem? (i := 5) rfl)
theorem qw_11_6 : Cond.methodLink RX1 104 Lib.Math.min.name ∈ wsL_law := inr_11 _ (List.mem_of_getElem? (i := 6) rfl)
theorem qw_11_7 : Cond.static Lib.Math.min.name ∈ wsL_law := inr_11 _ (List.mem_of_getElem? (i := 7) rfl)
theorem qw_11_8 : Cond.code Lib.Math.min.name Lib.Math.min.code 2 (some .int) ∈ wsL_law := inr_11 _ (List.mem_of_getElem? (i := 8) rfl)
theorem qw_11_9 : Cond.methodLink RX5 179 yX1_placesOfKind ∈ wsL_law := inr_11 _ (List.mem_of_getElem? (i := 9) rfl)
theorem qw_11_10 : Cond.instanceMethod yX1_placesOfKind ∈ wsL_law := inr_11 _ (List.mem_of_getElem? (i := 10) rfl)
theorem qw_11_11 : Cond.selects RX1 yX1_placesOfKind yX1_placesOfKind ∈ wsL_law := inr_11 _ (List.mem_of_getElem? (i := 11) rfl)
theorem qw_11_12 : Cond.code yX1_placesOfKind cX1_placesOfKind 4 (some .int) ∈ wsL_law := inr_11 _ (List.mem_of_getElem? (i := 12) rfl)
theorem qw_11_13 : Cond.methodLink RX1 107 yX1_isOfKind ∈ wsL_law := inr_11 _ (List.mem_of_getElem? (i := 13) rfl)
theorem qw_11_14 : Cond.instanceMethod yX1_isOfKind ∈ wsL_law := inr_11 _ (List.mem_of_getElem? (i := 14) rfl)
theorem qw_11_15 : Cond.selects RX1 yX1_isOfKind yX1_isOfKind ∈ wsL_law := inr_11 _ (List.mem_of_getElem? (i := 15) rfl)
theorem qw_11_16 : Cond.code yX1_isOfKind cX1_isOfKind 3 (some .boolean) ∈ wsL_law := inr_11 _ (List.mem_of_getElem? (i := 16) rfl)
theorem qw_11_17 : Cond.methodLink RX1 110 yX1_isTorn ∈ wsL_law := inr_11 _ (List.mem_of_getElem? (i := 17) rfl)
theorem qw_11_18 : Cond.instanceMethod yX1_isTorn ∈ wsL_law := inr_11 _ (List.mem_of_getElem? (i := 18) rfl)
theorem qw_11_19 : Cond.selects RX1 yX1_isTorn yX1_isTorn ∈ wsL_law := inr_11 _ (List.mem_of_getElem? (i := 19) rfl)
theorem qw_11_20 : Cond.code yX1_isTorn cX1_isTorn 3 (some .boolean) ∈ wsL_law := inr_11 _ (List.mem_of_getElem? (i := 20) rfl)
theorem qw_11_21 : Cond.methodLink RL 31 yX6_turn ∈ wsL_law := inr_11 _ (List.mem_of_getElem? (i := 21) rfl)
theorem qw_11_22 : Cond.instanceMethod yX6_turn ∈ wsL_law := inr_11 _ (List.mem_of_getElem? (i := 22) rfl)
theorem qw_11_23 : Cond.selects RX6 yX6_turn yX6_turn ∈ wsL_law := inr_11 _ (List.mem_of_getElem? (i := 23) rfl)
theorem inr_12 : ∀ w ∈ wsL_law_r12, w ∈ wsL_law := fun _ h => List.mem_append_left _ (List.mem_append_left _ (List.mem_append_left _ (List.mem_append_left _ (List.mem_append_left _ (List.mem_append_left _ (List.mem_append_left _ (List.mem_append_left _ (List.mem_append_right _ (List.mem_append_right _ (List.mem_append_right _ (List.mem_append_right _ (List.mem_append_right _ (List.mem_append_right _ (List.mem_append_right _ (List.mem_append_right _ (List.mem_append_right _ (List.mem_append_right _ (List.mem_append_right _ (List.mem_append_left _ h)))))))))))))))))))
theorem qw_12_0 : Cond.code yX6_turn cX6_turn 4 (some .int) ∈ wsL_law := inr_12 _ (List.mem_of_getElem? (i := 0) rfl)
theorem qw_12_1 : Cond.methodLink RX6 74 yX6_rightOnes ∈ wsL_law := inr_12 _ (List.mem_of_getElem? (i := 1) rfl)
theorem qw_12_2 : Cond.instanceMethod yX6_rightOnes ∈ wsL_law := inr_12 _ (List.mem_of_getElem? (i := 2) rfl)
theorem qw_12_3 : Cond.selects RX6 yX6_rightOnes yX6_rightOnes ∈ wsL_law := inr_12 _ (List.mem_of_getElem? (i := 3) rfl)
theorem qw_12_4 : Cond.code yX6_rightOnes cX6_rightOnes 4 (some .int) ∈ wsL_law := inr_12 _ (List.mem_of_getElem? (i := 4) rfl)
theorem qw_12_5 : Cond.methodLink RX6 66 yX6_looks ∈ wsL_law := inr_12 _ (List.mem_of_getElem? (i := 5) rfl)
theorem qw_12_6 : Cond.instanceMethod yX6_looks ∈ wsL_law := inr_12 _ (List.mem_of_getElem? (i := 6) rfl)
theorem qw_12_7 : Cond.selects RX6 yX6_looks yX6_looks ∈ wsL_law := inr_12 _ (List.mem_of_getElem? (i := 7) rfl)
theorem qw_12_8 : Cond.code yX6_looks cX6_looks 5 none ∈ wsL_law := inr_12 _ (List.mem_of_getElem? (i := 8) rfl)
theorem qw_12_9 : Cond.methodLink RX6 62 yX6_nearest ∈ wsL_law := inr_12 _ (List.mem_of_getElem? (i := 9) rfl)
theorem qw_12_10 : Cond.instanceMethod yX6_nearest ∈ wsL_law := inr_12 _ (List.mem_of_getElem? (i := 10) rfl)
theorem qw_12_11 : Cond.selects RX6 yX6_nearest yX6_nearest ∈ wsL_law := inr_12 _ (List.mem_of_getElem? (i := 11) rfl)
theorem qw_12_12 : Cond.code yX6_nearest cX6_nearest 8 (some .int) ∈ wsL_law := inr_12 _ (List.mem_of_getElem? (i := 12) rfl)
theorem qw_12_13 : Cond.methodLink RX6 59 yX6_doesFit ∈ wsL_law := inr_12 _ (List.mem_of_getElem? (i := 13) rfl)
theorem qw_12_14 : Cond.instanceMethod yX6_doesFit ∈ wsL_law := inr_12 _ (List.mem_of_getElem? (i := 14) rfl)
theorem qw_12_15 : Cond.selects RX6 yX6_doesFit yX6_doesFit ∈ wsL_law := inr_12 _ (List.mem_of_getElem? (i := 15) rfl)
theorem qw_12_16 : Cond.code yX6_doesFit cX6_doesFit 8 (some .boolean) ∈ wsL_law := inr_12 _ (List.mem_of_getElem? (i := 16) rfl)
theorem qw_12_17 : Cond.methodLink RX6 56 yX6_dotOf ∈ wsL_law := inr_12 _ (List.mem_of_getElem? (i := 17) rfl)
theorem qw_12_18 : Cond.instanceMethod yX6_dotOf ∈ wsL_law := inr_12 _ (List.mem_of_getElem? (i := 18) rfl)
theorem qw_12_19 : Cond.selects RX6 yX6_dotOf yX6_dotOf ∈ wsL_law := inr_12 _ (List.mem_of_getElem? (i := 19) rfl)
theorem qw_12_20 : Cond.code yX6_dotOf cX6_dotOf 3 (some .int) ∈ wsL_law := inr_12 _ (List.mem_of_getElem? (i := 20) rfl)
theorem qw_12_21 : Cond.methodLink RX6 70 yX6_isRight ∈ wsL_law := inr_12 _ (List.mem_of_getElem? (i := 21) rfl)
theorem qw_12_22 : Cond.instanceMethod yX6_isRight ∈ wsL_law := inr_12 _ (List.mem_of_getElem? (i := 22) rfl)
theorem qw_12_23 : Cond.selects RX6 yX6_isRight yX6_isRight ∈ wsL_law := inr_12 _ (List.mem_of_getElem? (i := 23) rfl)
theorem inr_13 : ∀ w ∈ wsL_law_r13, w ∈ wsL_law := fun _ h => List.mem_append_left _ (List.mem_append_left _ (List.mem_append_left _ (List.mem_append_left _ (List.mem_append_left _ (List.mem_append_left _ (List.mem_append_left _ (List.mem_append_left _ (List.mem_append_right _ (List.mem_append_right _ (List.mem_append_right _ (List.mem_append_right _ (List.mem_append_right _ (List.mem_append_right _ (List.mem_append_right _ (List.mem_append_right _ (List.mem_append_right _ (List.mem_append_right _ (List.mem_append_right _ (List.mem_append_right _ (List.mem_append_left _ h))))))))))))))))))))
theorem qw_13_0 : Cond.code yX6_isRight cX6_isRight 3 (some .boolean) ∈ wsL_law := inr_13 _ (List.mem_of_getElem? (i := 0) rfl)
theorem qw_13_1 : Cond.methodLink RL 32 yX5_print ∈ wsL_law := inr_13 _ (List.mem_of_getElem? (i := 1) rfl)
theorem qw_13_2 : Cond.instanceMethod yX5_print ∈ wsL_law := inr_13 _ (List.mem_of_getElem? (i := 2) rfl)
theorem qw_13_3 : Cond.selects RX5 yX5_print yX5_print ∈ wsL_law := inr_13 _ (List.mem_of_getElem? (i := 3) rfl)
theorem qw_13_4 : Cond.code yX5_print cX5_print 3 (some .int) ∈ wsL_law := inr_13 _ (List.mem_of_getElem? (i := 4) rfl)
theorem qw_13_5 : Cond.methodLink RX5 93 yX5_printRow ∈ wsL_law := inr_13 _ (List.mem_of_getElem? (i := 5) rfl)
theorem qw_13_6 : Cond.instanceMethod yX5_printRow ∈ wsL_law := inr_13 _ (List.mem_of_getElem? (i := 6) rfl)
theorem qw_13_7 : Cond.selects RX5 yX5_printRow yX5_printRow ∈ wsL_law := inr_13 _ (List.mem_of_getElem? (i := 7) rfl)
theorem qw_13_8 : Cond.code yX5_printRow cX5_printRow 2 none ∈ wsL_law := inr_13 _ (List.mem_of_getElem? (i := 8) rfl)
theorem qw_13_9 : Cond.fieldLink RX5 118 "StripDepths$Sheet" "lot" "I" ∈ wsL_law := inr_13 _ (List.mem_of_getElem? (i := 9) rfl)
theorem qw_13_10 : Cond.methodLink RX5 241 yX1_printFrom ∈ wsL_law := inr_13 _ (List.mem_of_getElem? (i := 10) rfl)
theorem qw_13_11 : Cond.instanceMethod yX1_printFrom ∈ wsL_law := inr_13 _ (List.mem_of_getElem? (i := 11) rfl)
theorem qw_13_12 : Cond.selects RX1 yX1_printFrom yX1_printFrom ∈ wsL_law := inr_13 _ (List.mem_of_getElem? (i := 12) rfl)
theorem qw_13_13 : Cond.code yX1_printFrom cX1_printFrom 7 (some .int) ∈ wsL_law := inr_13 _ (List.mem_of_getElem? (i := 13) rfl)
theorem qw_13_14 : Cond.fieldLink RX1 79 "StripDepths$Sheet" "lot" "I" ∈ wsL_law := inr_13 _ (List.mem_of_getElem? (i := 14) rfl)
theorem qw_13_15 : Cond.fieldLink RX1 86 "StripDepths$Sheet" "stripLength" "I" ∈ wsL_law := inr_13 _ (List.mem_of_getElem? (i := 15) rfl)
theorem qw_13_16 : Cond.fieldLink RX1 89 "StripDepths$Sheet" "strip" "[I" ∈ wsL_law := inr_13 _ (List.mem_of_getElem? (i := 16) rfl)
theorem qw_13_17 : Cond.methodLink RX5 244 yX1_forgetSmudges ∈ wsL_law := inr_13 _ (List.mem_of_getElem? (i := 17) rfl)
theorem qw_13_18 : Cond.instanceMethod yX1_forgetSmudges ∈ wsL_law := inr_13 _ (List.mem_of_getElem? (i := 18) rfl)
theorem qw_13_19 : Cond.selects RX1 yX1_forgetSmudges yX1_forgetSmudges ∈ wsL_law := inr_13 _ (List.mem_of_getElem? (i := 19) rfl)
theorem qw_13_20 : Cond.code yX1_forgetSmudges cX1_forgetSmudges 1 none ∈ wsL_law := inr_13 _ (List.mem_of_getElem? (i := 20) rfl)
theorem qw_13_21 : Cond.methodLink RX5 97 yX4_otherDotsThan ∈ wsL_law := inr_13 _ (List.mem_of_getElem? (i := 21) rfl)
theorem qw_13_22 : Cond.instanceMethod yX4_otherDotsThan ∈ wsL_law := inr_13 _ (List.mem_of_getElem? (i := 22) rfl)
theorem qw_13_23 : Cond.selects RX4 yX4_otherDotsThan yX4_otherDotsThan ∈ wsL_law := inr_13 _ (List.mem_of_getElem? (i := 23) rfl)
theorem inr_14 : ∀ w ∈ wsL_law_r14, w ∈ wsL_law := fun _ h => List.mem_append_left _ (List.mem_append_left _ (List.mem_append_left _ (List.mem_append_left _ (List.mem_append_left _ (List.mem_append_left _ (List.mem_append_left _ (List.mem_append_left _ (List.mem_append_right _ (List.mem_append_right _ (List.mem_append_right _ (List.mem_append_right _ (List.mem_append_right _ (List.mem_append_right _ (List.mem_append_right _ (List.mem_append_right _ (List.mem_append_right _ (List.mem_append_right _ (List.mem_append_right _ (List.mem_append_right _ (List.mem_append_right _ (List.mem_append_left _ h)))))))))))))))))))))
theorem qw_14_0 : Cond.code yX4_otherDotsThan cX4_otherDotsThan 2 (some .int) ∈ wsL_law := inr_14 _ (List.mem_of_getElem? (i := 0) rfl)
theorem qw_14_1 : Cond.methodLink RL 35 yX6_print ∈ wsL_law := inr_14 _ (List.mem_of_getElem? (i := 1) rfl)
theorem qw_14_2 : Cond.instanceMethod yX6_print ∈ wsL_law := inr_14 _ (List.mem_of_getElem? (i := 2) rfl)
theorem qw_14_3 : Cond.selects RX6 yX6_print yX6_print ∈ wsL_law := inr_14 _ (List.mem_of_getElem? (i := 3) rfl)
theorem qw_14_4 : Cond.code yX6_print cX6_print 2 (some .int) ∈ wsL_law := inr_14 _ (List.mem_of_getElem? (i := 4) rfl)
theorem qw_14_5 : Cond.methodLink RX6 94 yX6_prints ∈ wsL_law := inr_14 _ (List.mem_of_getElem? (i := 5) rfl)
theorem qw_14_6 : Cond.instanceMethod yX6_prints ∈ wsL_law := inr_14 _ (List.mem_of_getElem? (i := 6) rfl)
theorem qw_14_7 : Cond.selects RX6 yX6_prints yX6_prints ∈ wsL_law := inr_14 _ (List.mem_of_getElem? (i := 7) rfl)
theorem qw_14_8 : Cond.code yX6_prints cX6_prints 6 none ∈ wsL_law := inr_14 _ (List.mem_of_getElem? (i := 8) rfl)
theorem qw_14_9 : Cond.methodLink RX6 46 yX6_boundTo ∈ wsL_law := inr_14 _ (List.mem_of_getElem? (i := 9) rfl)
theorem qw_14_10 : Cond.instanceMethod yX6_boundTo ∈ wsL_law := inr_14 _ (List.mem_of_getElem? (i := 10) rfl)
theorem qw_14_11 : Cond.selects RX6 yX6_boundTo yX6_boundTo ∈ wsL_law := inr_14 _ (List.mem_of_getElem? (i := 11) rfl)
theorem qw_14_12 : Cond.code yX6_boundTo cX6_boundTo 4 (some .int) ∈ wsL_law := inr_14 _ (List.mem_of_getElem? (i := 12) rfl)
theorem qw_14_13 : Cond.methodLink RL 36 yX5_printAll ∈ wsL_law := inr_14 _ (List.mem_of_getElem? (i := 13) rfl)
theorem qw_14_14 : Cond.instanceMethod yX5_printAll ∈ wsL_law := inr_14 _ (List.mem_of_getElem? (i := 14) rfl)
theorem qw_14_15 : Cond.selects RX5 yX5_printAll yX5_printAll ∈ wsL_law := inr_14 _ (List.mem_of_getElem? (i := 15) rfl)
theorem qw_14_16 : Cond.code yX5_printAll cX5_printAll 3 (some .int) ∈ wsL_law := inr_14 _ (List.mem_of_getElem? (i := 16) rfl)
theorem qw_14_17 : Cond.methodLink RL 40 yX6_printAll ∈ wsL_law := inr_14 _ (List.mem_of_getElem? (i := 17) rfl)
theorem qw_14_18 : Cond.instanceMethod yX6_printAll ∈ wsL_law := inr_14 _ (List.mem_of_getElem? (i := 18) rfl)
theorem qw_14_19 : Cond.selects RX6 yX6_printAll yX6_printAll ∈ wsL_law := inr_14 _ (List.mem_of_getElem? (i := 19) rfl)
theorem qw_14_20 : Cond.code yX6_printAll cX6_printAll 2 (some .int) ∈ wsL_law := inr_14 _ (List.mem_of_getElem? (i := 20) rfl)
theorem qw_14_21 : Cond.methodLink RL 41 yX5_paint ∈ wsL_law := inr_14 _ (List.mem_of_getElem? (i := 21) rfl)
theorem qw_14_22 : Cond.instanceMethod yX5_paint ∈ wsL_law := inr_14 _ (List.mem_of_getElem? (i := 22) rfl)
theorem qw_14_23 : Cond.selects RX5 yX5_paint yX5_paint ∈ wsL_law := inr_14 _ (List.mem_of_getElem? (i := 23) rfl)
theorem inr_15 : ∀ w ∈ wsL_law_r15, w ∈ wsL_law := fun _ h => List.mem_append_left _ (List.mem_append_left _ (List.mem_append_left _ (List.mem_append_left _ (List.mem_append_left _ (List.mem_append_left _ (List.mem_append_left _ (List.mem_append_left _ (List.mem_append_right _ (List.mem_append_right _ (List.mem_append_right _ (List.mem_append_right _ (List.mem_append_right _ (List.mem_append_right _ (List.mem_append_right _ (List.mem_append_right _ (List.mem_append_right _ (List.mem_append_right _ (List.mem_append_right _ (List.mem_append_right _ (List.mem_append_right _ (List.mem_append_right _ (List.mem_append_left _ h))))))))))))))))))))))
theorem qw_15_0 : Cond.code yX5_paint cX5_paint 6 (some .int) ∈ wsL_law := inr_15 _ (List.mem_of_getElem? (i := 0) rfl)
theorem qw_15_1 : Cond.fieldLink RX5 103 "StripDepths$Sheet" "dots" "[I" ∈ wsL_law := inr_15 _ (List.mem_of_getElem? (i := 1) rfl)
theorem qw_15_2 : Cond.fieldLink RX5 106 "StripDepths$Sheet" "remembered" "[I" ∈ wsL_law := inr_15 _ (List.mem_of_getElem? (i := 2) rfl)
theorem qw_15_3 : Cond.methodLink RX5 100 yX5_isDot ∈ wsL_law := inr_15 _ (List.mem_of_getElem? (i := 3) rfl)
theorem qw_15_4 : Cond.static yX5_isDot ∈ wsL_law := inr_15 _ (List.mem_of_getElem? (i := 4) rfl)
theorem qw_15_5 : Cond.code yX5_isDot cX5_isDot 1 (some .boolean) ∈ wsL_law := inr_15 _ (List.mem_of_getElem? (i := 5) rfl)
theorem qw_15_6 : Cond.methodLink RL 45 yX6_paint ∈ wsL_law := inr_15 _ (List.mem_of_getElem? (i := 6) rfl)
theorem qw_15_7 : Cond.instanceMethod yX6_paint ∈ wsL_law := inr_15 _ (List.mem_of_getElem? (i := 7) rfl)
theorem qw_15_8 : Cond.selects RX6 yX6_paint yX6_paint ∈ wsL_law := inr_15 _ (List.mem_of_getElem? (i := 8) rfl)
theorem qw_15_9 : Cond.code yX6_paint cX6_paint 6 (some .int) ∈ wsL_law := inr_15 _ (List.mem_of_getElem? (i := 9) rfl)
theorem qw_15_10 : Cond.methodLink RL 46 yX5_wipe ∈ wsL_law := inr_15 _ (List.mem_of_getElem? (i := 10) rfl)
theorem qw_15_11 : Cond.instanceMethod yX5_wipe ∈ wsL_law := inr_15 _ (List.mem_of_getElem? (i := 11) rfl)
theorem qw_15_12 : Cond.selects RX5 yX5_wipe yX5_wipe ∈ wsL_law := inr_15 _ (List.mem_of_getElem? (i := 12) rfl)
theorem qw_15_13 : Cond.code yX5_wipe cX5_wipe 5 (some .int) ∈ wsL_law := inr_15 _ (List.mem_of_getElem? (i := 13) rfl)
theorem qw_15_14 : Cond.methodLink RL 49 yX6_wipe ∈ wsL_law := inr_15 _ (List.mem_of_getElem? (i := 14) rfl)
theorem qw_15_15 : Cond.instanceMethod yX6_wipe ∈ wsL_law := inr_15 _ (List.mem_of_getElem? (i := 15) rfl)
theorem qw_15_16 : Cond.selects RX6 yX6_wipe yX6_wipe ∈ wsL_law := inr_15 _ (List.mem_of_getElem? (i := 16) rfl)
theorem qw_15_17 : Cond.code yX6_wipe cX6_wipe 5 (some .int) ∈ wsL_law := inr_15 _ (List.mem_of_getElem? (i := 17) rfl)
theorem qw_15_18 : Cond.methodLink RL 50 yX5_set ∈ wsL_law := inr_15 _ (List.mem_of_getElem? (i := 18) rfl)
theorem qw_15_19 : Cond.instanceMethod yX5_set ∈ wsL_law := inr_15 _ (List.mem_of_getElem? (i := 19) rfl)
theorem qw_15_20 : Cond.selects RX5 yX5_set yX5_set ∈ wsL_law := inr_15 _ (List.mem_of_getElem? (i := 20) rfl)
theorem qw_15_21 : Cond.code yX5_set cX5_set 4 (some .int) ∈ wsL_law := inr_15 _ (List.mem_of_getElem? (i := 21) rfl)
theorem qw_15_22 : Cond.fieldLink RX5 109 "StripDepths" "LEAST_VALUES" "[I" ∈ wsL_law := inr_15 _ (List.mem_of_getElem? (i := 22) rfl)
theorem qw_15_23 : Cond.fieldLink RX5 112 "StripDepths" "GREATEST_VALUES" "[I" ∈ wsL_law := inr_15 _ (List.mem_of_getElem? (i := 23) rfl)
theorem inr_16 : ∀ w ∈ wsL_law_r16, w ∈ wsL_law := fun _ h => List.mem_append_left _ (List.mem_append_left _ (List.mem_append_left _ (List.mem_append_left _ (List.mem_append_left _ (List.mem_append_left _ (List.mem_append_left _ (List.mem_append_left _ (List.mem_append_right _ (List.mem_append_right _ (List.mem_append_right _ (List.mem_append_right _ (List.mem_append_right _ (List.mem_append_right _ (List.mem_append_right _ (List.mem_append_right _ (List.mem_append_right _ (List.mem_append_right _ (List.mem_append_right _ (List.mem_append_right _ (List.mem_append_right _ (List.mem_append_right _ (List.mem_append_right _ (List.mem_append_left _ h)))))))))))))))))))))))
theorem qw_16_0 : Cond.fieldLink RX5 115 "StripDepths$Sheet" "settings" "[I" ∈ wsL_law := inr_16 _ (List.mem_of_getElem? (i := 0) rfl)
theorem qw_16_1 : Cond.methodLink RL 53 yX6_set ∈ wsL_law := inr_16 _ (List.mem_of_getElem? (i := 1) rfl)
theorem qw_16_2 : Cond.instanceMethod yX6_set ∈ wsL_law := inr_16 _ (List.mem_of_getElem? (i := 2) rfl)
theorem qw_16_3 : Cond.selects RX6 yX6_set yX6_set ∈ wsL_law := inr_16 _ (List.mem_of_getElem? (i := 3) rfl)
theorem qw_16_4 : Cond.code yX6_set cX6_set 4 (some .int) ∈ wsL_law := inr_16 _ (List.mem_of_getElem? (i := 4) rfl)
theorem qw_16_5 : Cond.methodLink RX6 97 yX6_leastOf ∈ wsL_law := inr_16 _ (List.mem_of_getElem? (i := 5) rfl)
theorem qw_16_6 : Cond.static yX6_leastOf ∈ wsL_law := inr_16 _ (List.mem_of_getElem? (i := 6) rfl)
theorem qw_16_7 : Cond.code yX6_leastOf cX6_leastOf 1 (some .int) ∈ wsL_law := inr_16 _ (List.mem_of_getElem? (i := 7) rfl)
theorem qw_16_8 : Cond.methodLink RX6 100 yX6_mostOf ∈ wsL_law := inr_16 _ (List.mem_of_getElem? (i := 8) rfl)
theorem qw_16_9 : Cond.static yX6_mostOf ∈ wsL_law := inr_16 _ (List.mem_of_getElem? (i := 9) rfl)
theorem qw_16_10 : Cond.code yX6_mostOf cX6_mostOf 1 (some .int) ∈ wsL_law := inr_16 _ (List.mem_of_getElem? (i := 10) rfl)
theorem qw_16_11 : Cond.methodLink RL 54 yX5_lot ∈ wsL_law := inr_16 _ (List.mem_of_getElem? (i := 11) rfl)
theorem qw_16_12 : Cond.instanceMethod yX5_lot ∈ wsL_law := inr_16 _ (List.mem_of_getElem? (i := 12) rfl)
theorem qw_16_13 : Cond.selects RX5 yX5_lot yX5_lot ∈ wsL_law := inr_16 _ (List.mem_of_getElem? (i := 13) rfl)
theorem qw_16_14 : Cond.code yX5_lot cX5_lot 3 (some .int) ∈ wsL_law := inr_16 _ (List.mem_of_getElem? (i := 14) rfl)
theorem qw_16_15 : Cond.methodLink RL 57 yX6_lot ∈ wsL_law := inr_16 _ (List.mem_of_getElem? (i := 15) rfl)
theorem qw_16_16 : Cond.instanceMethod yX6_lot ∈ wsL_law := inr_16 _ (List.mem_of_getElem? (i := 16) rfl)
theorem qw_16_17 : Cond.selects RX6 yX6_lot yX6_lot ∈ wsL_law := inr_16 _ (List.mem_of_getElem? (i := 17) rfl)
theorem qw_16_18 : Cond.code yX6_lot cX6_lot 3 (some .int) ∈ wsL_law := inr_16 _ (List.mem_of_getElem? (i := 18) rfl)
theorem qw_16_19 : Cond.methodLink RL 58 yX5_append ∈ wsL_law := inr_16 _ (List.mem_of_getElem? (i := 19) rfl)
theorem qw_16_20 : Cond.instanceMethod yX5_append ∈ wsL_law := inr_16 _ (List.mem_of_getElem? (i := 20) rfl)
theorem qw_16_21 : Cond.selects RX5 yX5_append yX5_append ∈ wsL_law := inr_16 _ (List.mem_of_getElem? (i := 21) rfl)
theorem qw_16_22 : Cond.code yX5_append cX5_append 2 (some .int) ∈ wsL_law := inr_16 _ (List.mem_of_getElem? (i := 22) rfl)
theorem qw_16_23 : Cond.fieldLink RX5 125 "StripDepths$Pad" "length" "I" ∈ wsL_law := inr_16 _ (List.mem_of_getElem? (i := 23) rfl)
theorem inr_17 : ∀ w ∈ wsL_law_r17, w ∈ wsL_law := fun _ h => List.mem_append_left _ (List.mem_append_left _ (List.mem_append_left _ (List.mem_append_left _ (List.mem_append_left _ (List.mem_append_left _ (List.mem_append_left _ (List.mem_append_left _ (List.mem_append_right _ (List.mem_append_right _ (List.mem_append_right _ (List.mem_append_right _ (List.mem_append_right _ (List.mem_append_right _ (List.mem_append_right _ (List.mem_append_right _ (List.mem_append_right _ (List.mem_append_right _ (List.mem_append_right _ (List.mem_append_right _ (List.mem_append_right _ (List.mem_append_right _ (List.mem_append_right _ (List.mem_append_right _ (List.mem_append_left _ h))))))))))))))))))))))))
theorem qw_17_0 : Cond.methodLink RX5 122 yX2_add ∈ wsL_law := inr_17 _ (List.mem_of_getElem? (i := 0) rfl)
theorem qw_17_1 : Cond.instanceMethod yX2_add ∈ wsL_law := inr_17 _ (List.mem_of_getElem? (i := 1) rfl)
theorem qw_17_2 : Cond.selects RX2 yX2_add yX2_add ∈ wsL_law := inr_17 _ (List.mem_of_getElem? (i := 2) rfl)
theorem qw_17_3 : Cond.code yX2_add cX2_add 2 (some .boolean) ∈ wsL_law := inr_17 _ (List.mem_of_getElem? (i := 3) rfl)
theorem qw_17_4 : Cond.fieldLink RX2 22 "StripDepths$Pad" "length" "I" ∈ wsL_law := inr_17 _ (List.mem_of_getElem? (i := 4) rfl)
theorem qw_17_5 : Cond.methodLink RL 61 yX6_append ∈ wsL_law := inr_17 _ (List.mem_of_getElem? (i := 5) rfl)
theorem qw_17_6 : Cond.instanceMethod yX6_append ∈ wsL_law := inr_17 _ (List.mem_of_getElem? (i := 6) rfl)
theorem qw_17_7 : Cond.selects RX6 yX6_append yX6_append ∈ wsL_law := inr_17 _ (List.mem_of_getElem? (i := 7) rfl)
theorem qw_17_8 : Cond.code yX6_append cX6_append 2 (some .int) ∈ wsL_law := inr_17 _ (List.mem_of_getElem? (i := 8) rfl)
theorem qw_17_9 : Cond.fieldLink RX6 103 "StripDepthsModel" "length" "I" ∈ wsL_law := inr_17 _ (List.mem_of_getElem? (i := 9) rfl)
theorem qw_17_10 : Cond.methodLink RL 62 yX5_clear ∈ wsL_law := inr_17 _ (List.mem_of_getElem? (i := 10) rfl)
theorem qw_17_11 : Cond.instanceMethod yX5_clear ∈ wsL_law := inr_17 _ (List.mem_of_getElem? (i := 11) rfl)
theorem qw_17_12 : Cond.selects RX5 yX5_clear yX5_clear ∈ wsL_law := inr_17 _ (List.mem_of_getElem? (i := 12) rfl)
theorem qw_17_13 : Cond.code yX5_clear cX5_clear 2 (some .int) ∈ wsL_law := inr_17 _ (List.mem_of_getElem? (i := 13) rfl)
theorem qw_17_14 : Cond.methodLink RL 65 yX6_clear ∈ wsL_law := inr_17 _ (List.mem_of_getElem? (i := 14) rfl)
theorem qw_17_15 : Cond.instanceMethod yX6_clear ∈ wsL_law := inr_17 _ (List.mem_of_getElem? (i := 15) rfl)
theorem qw_17_16 : Cond.selects RX6 yX6_clear yX6_clear ∈ wsL_law := inr_17 _ (List.mem_of_getElem? (i := 16) rfl)
theorem qw_17_17 : Cond.code yX6_clear cX6_clear 2 (some .int) ∈ wsL_law := inr_17 _ (List.mem_of_getElem? (i := 17) rfl)
theorem qw_17_18 : Cond.methodLink RL 66 yX5_fault ∈ wsL_law := inr_17 _ (List.mem_of_getElem? (i := 18) rfl)
theorem qw_17_19 : Cond.instanceMethod yX5_fault ∈ wsL_law := inr_17 _ (List.mem_of_getElem? (i := 19) rfl)
theorem qw_17_20 : Cond.selects RX5 yX5_fault yX5_fault ∈ wsL_law := inr_17 _ (List.mem_of_getElem? (i := 20) rfl)
theorem qw_17_21 : Cond.code yX5_fault cX5_fault 2 (some .int) ∈ wsL_law := inr_17 _ (List.mem_of_getElem? (i := 21) rfl)
theorem qw_17_22 : Cond.methodLink RX5 128 yX2_faultAsShapes ∈ wsL_law := inr_17 _ (List.mem_of_getElem? (i := 22) rfl)
theorem qw_17_23 : Cond.instanceMethod yX2_faultAsShapes ∈ wsL_law := inr_17 _ (List.mem_of_getElem? (i := 23) rfl)
theorem inr_18 : ∀ w ∈ wsL_law_r18, w ∈ wsL_law := fun _ h => List.mem_append_left _ (List.mem_append_left _ (List.mem_append_left _ (List.mem_append_left _ (List.mem_append_left _ (List.mem_append_left _ (List.mem_append_left _ (List.mem_append_left _ (List.mem_append_right _ (List.mem_append_right _ (List.mem_append_right _ (List.mem_append_right _ (List.mem_append_right _ (List.mem_append_right _ (List.mem_append_right _ (List.mem_append_right _ (List.mem_append_right _ (List.mem_append_right _ (List.mem_append_right _ (List.mem_append_right _ (List.mem_append_right _ (List.mem_append_right _ (List.mem_append_right _ (List.mem_append_right _ (List.mem_append_right _ (List.mem_append_left _ h)))))))))))))))))))))))))
theorem qw_18_0 : Cond.selects RX2 yX2_faultAsShapes yX2_faultAsShapes ∈ wsL_law := inr_18 _ (List.mem_of_getElem? (i := 0) rfl)
theorem qw_18_1 : Cond.code yX2_faultAsShapes cX2_faultAsShapes 2 (some .int) ∈ wsL_law := inr_18 _ (List.mem_of_getElem? (i := 1) rfl)
theorem qw_18_2 : Cond.methodLink RX2 44 yX3_begin ∈ wsL_law := inr_18 _ (List.mem_of_getElem? (i := 2) rfl)
theorem qw_18_3 : Cond.instanceMethod yX3_begin ∈ wsL_law := inr_18 _ (List.mem_of_getElem? (i := 3) rfl)
theorem qw_18_4 : Cond.selects RX3 yX3_begin yX3_begin ∈ wsL_law := inr_18 _ (List.mem_of_getElem? (i := 4) rfl)
theorem qw_18_5 : Cond.code yX3_begin cX3_begin 1 none ∈ wsL_law := inr_18 _ (List.mem_of_getElem? (i := 5) rfl)
theorem qw_18_6 : Cond.fieldLink RX3 11 "StripDepths$ShapeReader" "stage" "I" ∈ wsL_law := inr_18 _ (List.mem_of_getElem? (i := 6) rfl)
theorem qw_18_7 : Cond.methodLink RX2 47 yX3_takes ∈ wsL_law := inr_18 _ (List.mem_of_getElem? (i := 7) rfl)
theorem qw_18_8 : Cond.instanceMethod yX3_takes ∈ wsL_law := inr_18 _ (List.mem_of_getElem? (i := 8) rfl)
theorem qw_18_9 : Cond.selects RX3 yX3_takes yX3_takes ∈ wsL_law := inr_18 _ (List.mem_of_getElem? (i := 9) rfl)
theorem qw_18_10 : Cond.code yX3_takes cX3_takes 3 (some .boolean) ∈ wsL_law := inr_18 _ (List.mem_of_getElem? (i := 10) rfl)
theorem qw_18_11 : Cond.methodLink RX3 15 yX3_takesTop ∈ wsL_law := inr_18 _ (List.mem_of_getElem? (i := 11) rfl)
theorem qw_18_12 : Cond.instanceMethod yX3_takesTop ∈ wsL_law := inr_18 _ (List.mem_of_getElem? (i := 12) rfl)
theorem qw_18_13 : Cond.selects RX3 yX3_takesTop yX3_takesTop ∈ wsL_law := inr_18 _ (List.mem_of_getElem? (i := 13) rfl)
theorem qw_18_14 : Cond.code yX3_takesTop cX3_takesTop 2 (some .boolean) ∈ wsL_law := inr_18 _ (List.mem_of_getElem? (i := 14) rfl)
theorem qw_18_15 : Cond.fieldLink RX3 44 "StripDepths$ShapeReader" "top" "I" ∈ wsL_law := inr_18 _ (List.mem_of_getElem? (i := 15) rfl)
theorem qw_18_16 : Cond.fieldLink RX3 47 "StripDepths$ShapeReader" "bottom" "I" ∈ wsL_law := inr_18 _ (List.mem_of_getElem? (i := 16) rfl)
theorem qw_18_17 : Cond.methodLink RX3 19 yX3_goesOn ∈ wsL_law := inr_18 _ (List.mem_of_getElem? (i := 17) rfl)
theorem qw_18_18 : Cond.instanceMethod yX3_goesOn ∈ wsL_law := inr_18 _ (List.mem_of_getElem? (i := 18) rfl)
theorem qw_18_19 : Cond.selects RX3 yX3_goesOn yX3_goesOn ∈ wsL_law := inr_18 _ (List.mem_of_getElem? (i := 19) rfl)
theorem qw_18_20 : Cond.code yX3_goesOn cX3_goesOn 2 (some .boolean) ∈ wsL_law := inr_18 _ (List.mem_of_getElem? (i := 20) rfl)
theorem qw_18_21 : Cond.methodLink RX3 22 yX3_takesBottom ∈ wsL_law := inr_18 _ (List.mem_of_getElem? (i := 21) rfl)
theorem qw_18_22 : Cond.instanceMethod yX3_takesBottom ∈ wsL_law := inr_18 _ (List.mem_of_getElem? (i := 22) rfl)
theorem qw_18_23 : Cond.selects RX3 yX3_takesBottom yX3_takesBottom ∈ wsL_law := inr_18 _ (List.mem_of_getElem? (i := 23) rfl)
theorem inr_19 : ∀ w ∈ wsL_law_r19, w ∈ wsL_law := fun _ h => List.mem_append_left _ (List.mem_append_left _ (List.mem_append_left _ (List.mem_append_left _ (List.mem_append_left _ (List.mem_append_left _ (List.mem_append_left _ (List.mem_append_left _ (List.mem_append_right _ (List.mem_append_right _ (List.mem_append_right _ (List.mem_append_right _ (List.mem_append_right _ (List.mem_append_right _ (List.mem_append_right _ (List.mem_append_right _ (List.mem_append_right _ (List.mem_append_right _ (List.mem_append_right _ (List.mem_append_right _ (List.mem_append_right _ (List.mem_append_right _ (List.mem_append_right _ (List.mem_append_right _ (List.mem_append_right _ (List.mem_append_right _ (List.mem_append_left _ h))))))))))))))))))))))))))
theorem qw_19_0 : Cond.code yX3_takesBottom cX3_takesBottom 2 (some .boolean) ∈ wsL_law := inr_19 _ (List.mem_of_getElem? (i := 0) rfl)
theorem qw_19_1 : Cond.methodLink RX3 25 yX3_takesLeft ∈ wsL_law := inr_19 _ (List.mem_of_getElem? (i := 1) rfl)
theorem qw_19_2 : Cond.instanceMethod yX3_takesLeft ∈ wsL_law := inr_19 _ (List.mem_of_getElem? (i := 2) rfl)
theorem qw_19_3 : Cond.selects RX3 yX3_takesLeft yX3_takesLeft ∈ wsL_law := inr_19 _ (List.mem_of_getElem? (i := 3) rfl)
theorem qw_19_4 : Cond.code yX3_takesLeft cX3_takesLeft 2 (some .boolean) ∈ wsL_law := inr_19 _ (List.mem_of_getElem? (i := 4) rfl)
theorem qw_19_5 : Cond.fieldLink RX3 53 "StripDepths$ShapeReader" "left" "I" ∈ wsL_law := inr_19 _ (List.mem_of_getElem? (i := 5) rfl)
theorem qw_19_6 : Cond.fieldLink RX3 56 "StripDepths$ShapeReader" "right" "I" ∈ wsL_law := inr_19 _ (List.mem_of_getElem? (i := 6) rfl)
theorem qw_19_7 : Cond.methodLink RX3 28 yX3_takesBehindLeft ∈ wsL_law := inr_19 _ (List.mem_of_getElem? (i := 7) rfl)
theorem qw_19_8 : Cond.instanceMethod yX3_takesBehindLeft ∈ wsL_law := inr_19 _ (List.mem_of_getElem? (i := 8) rfl)
theorem qw_19_9 : Cond.selects RX3 yX3_takesBehindLeft yX3_takesBehindLeft ∈ wsL_law := inr_19 _ (List.mem_of_getElem? (i := 9) rfl)
theorem qw_19_10 : Cond.code yX3_takesBehindLeft cX3_takesBehindLeft 3 (some .boolean) ∈ wsL_law := inr_19 _ (List.mem_of_getElem? (i := 10) rfl)
theorem qw_19_11 : Cond.methodLink RX3 32 yX3_takesFirstOfRight ∈ wsL_law := inr_19 _ (List.mem_of_getElem? (i := 11) rfl)
theorem qw_19_12 : Cond.instanceMethod yX3_takesFirstOfRight ∈ wsL_law := inr_19 _ (List.mem_of_getElem? (i := 12) rfl)
theorem qw_19_13 : Cond.selects RX3 yX3_takesFirstOfRight yX3_takesFirstOfRight ∈ wsL_law := inr_19 _ (List.mem_of_getElem? (i := 13) rfl)
theorem qw_19_14 : Cond.code yX3_takesFirstOfRight cX3_takesFirstOfRight 2 (some .boolean) ∈ wsL_law := inr_19 _ (List.mem_of_getElem? (i := 14) rfl)
theorem qw_19_15 : Cond.methodLink RX3 59 yX3_greatestFrom ∈ wsL_law := inr_19 _ (List.mem_of_getElem? (i := 15) rfl)
theorem qw_19_16 : Cond.static yX3_greatestFrom ∈ wsL_law := inr_19 _ (List.mem_of_getElem? (i := 16) rfl)
theorem qw_19_17 : Cond.code yX3_greatestFrom cX3_greatestFrom 1 (some .int) ∈ wsL_law := inr_19 _ (List.mem_of_getElem? (i := 17) rfl)
theorem qw_19_18 : Cond.methodLink RX3 63 Lib.Math.min.name ∈ wsL_law := inr_19 _ (List.mem_of_getElem? (i := 18) rfl)
theorem qw_19_19 : Cond.methodLink RX3 35 yX3_takesBehindRight ∈ wsL_law := inr_19 _ (List.mem_of_getElem? (i := 19) rfl)
theorem qw_19_20 : Cond.instanceMethod yX3_takesBehindRight ∈ wsL_law := inr_19 _ (List.mem_of_getElem? (i := 20) rfl)
theorem qw_19_21 : Cond.selects RX3 yX3_takesBehindRight yX3_takesBehindRight ∈ wsL_law := inr_19 _ (List.mem_of_getElem? (i := 21) rfl)
theorem qw_19_22 : Cond.code yX3_takesBehindRight cX3_takesBehindRight 4 (some .boolean) ∈ wsL_law := inr_19 _ (List.mem_of_getElem? (i := 22) rfl)
theorem qw_19_23 : Cond.methodLink RX3 38 yX3_takesPlane ∈ wsL_law := inr_19 _ (List.mem_of_getElem? (i := 23) rfl)
theorem inr_20 : ∀ w ∈ wsL_law_r20, w ∈ wsL_law := fun _ h => List.mem_append_left _ (List.mem_append_left _ (List.mem_append_left _ (List.mem_append_left _ (List.mem_append_left _ (List.mem_append_left _ (List.mem_append_left _ (List.mem_append_left _ (List.mem_append_right _ (List.mem_append_right _ (List.mem_append_right _ (List.mem_append_right _ (List.mem_append_right _ (List.mem_append_right _ (List.mem_append_right _ (List.mem_append_right _ (List.mem_append_right _ (List.mem_append_right _ (List.mem_append_right _ (List.mem_append_right _ (List.mem_append_right _ (List.mem_append_right _ (List.mem_append_right _ (List.mem_append_right _ (List.mem_append_right _ (List.mem_append_right _ (List.mem_append_right _ (List.mem_append_left _ h)))))))))))))))))))))))))))
theorem qw_20_0 : Cond.instanceMethod yX3_takesPlane ∈ wsL_law := inr_20 _ (List.mem_of_getElem? (i := 0) rfl)
theorem qw_20_1 : Cond.selects RX3 yX3_takesPlane yX3_takesPlane ∈ wsL_law := inr_20 _ (List.mem_of_getElem? (i := 1) rfl)
theorem qw_20_2 : Cond.code yX3_takesPlane cX3_takesPlane 2 (some .boolean) ∈ wsL_law := inr_20 _ (List.mem_of_getElem? (i := 2) rfl)
theorem qw_20_3 : Cond.fieldLink RX3 72 "StripDepths$ShapeReader" "plane" "I" ∈ wsL_law := inr_20 _ (List.mem_of_getElem? (i := 3) rfl)
theorem qw_20_4 : Cond.methodLink RX2 50 yX3_isComplete ∈ wsL_law := inr_20 _ (List.mem_of_getElem? (i := 4) rfl)
theorem qw_20_5 : Cond.instanceMethod yX3_isComplete ∈ wsL_law := inr_20 _ (List.mem_of_getElem? (i := 5) rfl)
theorem qw_20_6 : Cond.selects RX3 yX3_isComplete yX3_isComplete ∈ wsL_law := inr_20 _ (List.mem_of_getElem? (i := 6) rfl)
theorem qw_20_7 : Cond.code yX3_isComplete cX3_isComplete 1 (some .boolean) ∈ wsL_law := inr_20 _ (List.mem_of_getElem? (i := 7) rfl)
theorem qw_20_8 : Cond.methodLink RX5 132 yX2_faultAsStrip ∈ wsL_law := inr_20 _ (List.mem_of_getElem? (i := 8) rfl)
theorem qw_20_9 : Cond.instanceMethod yX2_faultAsStrip ∈ wsL_law := inr_20 _ (List.mem_of_getElem? (i := 9) rfl)
theorem qw_20_10 : Cond.selects RX2 yX2_faultAsStrip yX2_faultAsStrip ∈ wsL_law := inr_20 _ (List.mem_of_getElem? (i := 10) rfl)
theorem qw_20_11 : Cond.code yX2_faultAsStrip cX2_faultAsStrip 2 (some .int) ∈ wsL_law := inr_20 _ (List.mem_of_getElem? (i := 11) rfl)
theorem qw_20_12 : Cond.methodLink RL 69 yX6_fault ∈ wsL_law := inr_20 _ (List.mem_of_getElem? (i := 12) rfl)
theorem qw_20_13 : Cond.instanceMethod yX6_fault ∈ wsL_law := inr_20 _ (List.mem_of_getElem? (i := 13) rfl)
theorem qw_20_14 : Cond.selects RX6 yX6_fault yX6_fault ∈ wsL_law := inr_20 _ (List.mem_of_getElem? (i := 14) rfl)
theorem qw_20_15 : Cond.code yX6_fault cX6_fault 3 (some .int) ∈ wsL_law := inr_20 _ (List.mem_of_getElem? (i := 15) rfl)
theorem qw_20_16 : Cond.fieldLink RX6 106 "StripDepthsModel" "spot" "I" ∈ wsL_law := inr_20 _ (List.mem_of_getElem? (i := 16) rfl)
theorem qw_20_17 : Cond.methodLink RX6 147 yX6_goesWrong ∈ wsL_law := inr_20 _ (List.mem_of_getElem? (i := 17) rfl)
theorem qw_20_18 : Cond.instanceMethod yX6_goesWrong ∈ wsL_law := inr_20 _ (List.mem_of_getElem? (i := 18) rfl)
theorem qw_20_19 : Cond.selects RX6 yX6_goesWrong yX6_goesWrong ∈ wsL_law := inr_20 _ (List.mem_of_getElem? (i := 19) rfl)
theorem qw_20_20 : Cond.code yX6_goesWrong cX6_goesWrong 3 (some .boolean) ∈ wsL_law := inr_20 _ (List.mem_of_getElem? (i := 20) rfl)
theorem qw_20_21 : Cond.fieldLink RX6 109 "StripDepthsModel" "isWrong" "Z" ∈ wsL_law := inr_20 _ (List.mem_of_getElem? (i := 21) rfl)
theorem qw_20_22 : Cond.fieldLink RX6 120 "StripDepthsModel" "top" "I" ∈ wsL_law := inr_20 _ (List.mem_of_getElem? (i := 22) rfl)
theorem qw_20_23 : Cond.fieldLink RX6 135 "StripDepthsModel" "left" "I" ∈ wsL_law := inr_20 _ (List.mem_of_getElem? (i := 23) rfl)
theorem inr_21 : ∀ w ∈ wsL_law_r21, w ∈ wsL_law := fun _ h => List.mem_append_left _ (List.mem_append_left _ (List.mem_append_left _ (List.mem_append_left _ (List.mem_append_left _ (List.mem_append_left _ (List.mem_append_left _ (List.mem_append_left _ (List.mem_append_right _ (List.mem_append_right _ (List.mem_append_right _ (List.mem_append_right _ (List.mem_append_right _ (List.mem_append_right _ (List.mem_append_right _ (List.mem_append_right _ (List.mem_append_right _ (List.mem_append_right _ (List.mem_append_right _ (List.mem_append_right _ (List.mem_append_right _ (List.mem_append_right _ (List.mem_append_right _ (List.mem_append_right _ (List.mem_append_right _ (List.mem_append_right _ (List.mem_append_right _ (List.mem_append_right _ (List.mem_append_left _ h))))))))))))))))))))))))))))
theorem qw_21_0 : Cond.fieldLink RX6 123 "StripDepthsModel" "bottom" "I" ∈ wsL_law := inr_21 _ (List.mem_of_getElem? (i := 0) rfl)
theorem qw_21_1 : Cond.fieldLink RX6 138 "StripDepthsModel" "right" "I" ∈ wsL_law := inr_21 _ (List.mem_of_getElem? (i := 1) rfl)
theorem qw_21_2 : Cond.fieldLink RX6 141 "StripDepthsModel" "depth" "I" ∈ wsL_law := inr_21 _ (List.mem_of_getElem? (i := 2) rfl)
theorem qw_21_3 : Cond.methodLink RX6 144 yX6_shape ∈ wsL_law := inr_21 _ (List.mem_of_getElem? (i := 3) rfl)
theorem qw_21_4 : Cond.instanceMethod yX6_shape ∈ wsL_law := inr_21 _ (List.mem_of_getElem? (i := 4) rfl)
theorem qw_21_5 : Cond.selects RX6 yX6_shape yX6_shape ∈ wsL_law := inr_21 _ (List.mem_of_getElem? (i := 5) rfl)
theorem qw_21_6 : Cond.code yX6_shape cX6_shape 1 none ∈ wsL_law := inr_21 _ (List.mem_of_getElem? (i := 6) rfl)
theorem qw_21_7 : Cond.methodLink RX6 117 yX6_digit ∈ wsL_law := inr_21 _ (List.mem_of_getElem? (i := 7) rfl)
theorem qw_21_8 : Cond.instanceMethod yX6_digit ∈ wsL_law := inr_21 _ (List.mem_of_getElem? (i := 8) rfl)
theorem qw_21_9 : Cond.selects RX6 yX6_digit yX6_digit ∈ wsL_law := inr_21 _ (List.mem_of_getElem? (i := 9) rfl)
theorem qw_21_10 : Cond.code yX6_digit cX6_digit 4 (some .int) ∈ wsL_law := inr_21 _ (List.mem_of_getElem? (i := 10) rfl)
theorem qw_21_11 : Cond.methodLink RX6 113 yX6_next ∈ wsL_law := inr_21 _ (List.mem_of_getElem? (i := 11) rfl)
theorem qw_21_12 : Cond.instanceMethod yX6_next ∈ wsL_law := inr_21 _ (List.mem_of_getElem? (i := 12) rfl)
theorem qw_21_13 : Cond.selects RX6 yX6_next yX6_next ∈ wsL_law := inr_21 _ (List.mem_of_getElem? (i := 13) rfl)
theorem qw_21_14 : Cond.code yX6_next cX6_next 1 (some .int) ∈ wsL_law := inr_21 _ (List.mem_of_getElem? (i := 14) rfl)
theorem qw_21_15 : Cond.methodLink RX6 126 yX6_isNext ∈ wsL_law := inr_21 _ (List.mem_of_getElem? (i := 15) rfl)
theorem qw_21_16 : Cond.instanceMethod yX6_isNext ∈ wsL_law := inr_21 _ (List.mem_of_getElem? (i := 16) rfl)
theorem qw_21_17 : Cond.selects RX6 yX6_isNext yX6_isNext ∈ wsL_law := inr_21 _ (List.mem_of_getElem? (i := 17) rfl)
theorem qw_21_18 : Cond.code yX6_isNext cX6_isNext 2 (some .boolean) ∈ wsL_law := inr_21 _ (List.mem_of_getElem? (i := 18) rfl)
theorem qw_21_19 : Cond.methodLink RX6 129 yX6_wants ∈ wsL_law := inr_21 _ (List.mem_of_getElem? (i := 19) rfl)
theorem qw_21_20 : Cond.instanceMethod yX6_wants ∈ wsL_law := inr_21 _ (List.mem_of_getElem? (i := 20) rfl)
theorem qw_21_21 : Cond.selects RX6 yX6_wants yX6_wants ∈ wsL_law := inr_21 _ (List.mem_of_getElem? (i := 21) rfl)
theorem qw_21_22 : Cond.code yX6_wants cX6_wants 2 none ∈ wsL_law := inr_21 _ (List.mem_of_getElem? (i := 22) rfl)
theorem qw_21_23 : Cond.methodLink RX6 132 yX6_column ∈ wsL_law := inr_21 _ (List.mem_of_getElem? (i := 23) rfl)
theorem inr_22 : ∀ w ∈ wsL_law_r22, w ∈ wsL_law := fun _ h => List.mem_append_left _ (List.mem_append_left _ (List.mem_append_left _ (List.mem_append_left _ (List.mem_append_left _ (List.mem_append_left _ (List.mem_append_left _ (List.mem_append_left _ (List.mem_append_right _ (List.mem_append_right _ (List.mem_append_right _ (List.mem_append_right _ (List.mem_append_right _ (List.mem_append_right _ (List.mem_append_right _ (List.mem_append_right _ (List.mem_append_right _ (List.mem_append_right _ (List.mem_append_right _ (List.mem_append_right _ (List.mem_append_right _ (List.mem_append_right _ (List.mem_append_right _ (List.mem_append_right _ (List.mem_append_right _ (List.mem_append_right _ (List.mem_append_right _ (List.mem_append_right _ (List.mem_append_right _ (List.mem_append_left _ h)))))))))))))))))))))))))))))
theorem qw_22_0 : Cond.instanceMethod yX6_column ∈ wsL_law := inr_22 _ (List.mem_of_getElem? (i := 0) rfl)
theorem qw_22_1 : Cond.selects RX6 yX6_column yX6_column ∈ wsL_law := inr_22 _ (List.mem_of_getElem? (i := 1) rfl)
theorem qw_22_2 : Cond.code yX6_column cX6_column 5 (some .int) ∈ wsL_law := inr_22 _ (List.mem_of_getElem? (i := 2) rfl)
theorem qw_22_3 : Cond.methodLink RX6 151 yX6_isNoStrip ∈ wsL_law := inr_22 _ (List.mem_of_getElem? (i := 3) rfl)
theorem qw_22_4 : Cond.instanceMethod yX6_isNoStrip ∈ wsL_law := inr_22 _ (List.mem_of_getElem? (i := 4) rfl)
theorem qw_22_5 : Cond.selects RX6 yX6_isNoStrip yX6_isNoStrip ∈ wsL_law := inr_22 _ (List.mem_of_getElem? (i := 5) rfl)
theorem qw_22_6 : Cond.code yX6_isNoStrip cX6_isNoStrip 1 (some .boolean) ∈ wsL_law := inr_22 _ (List.mem_of_getElem? (i := 6) rfl)
theorem qw_22_7 : Cond.methodLink RL 70 yX5_draw ∈ wsL_law := inr_22 _ (List.mem_of_getElem? (i := 7) rfl)
theorem qw_22_8 : Cond.instanceMethod yX5_draw ∈ wsL_law := inr_22 _ (List.mem_of_getElem? (i := 8) rfl)
theorem qw_22_9 : Cond.selects RX5 yX5_draw yX5_draw ∈ wsL_law := inr_22 _ (List.mem_of_getElem? (i := 9) rfl)
theorem qw_22_10 : Cond.code yX5_draw cX5_draw 2 (some .int) ∈ wsL_law := inr_22 _ (List.mem_of_getElem? (i := 10) rfl)
theorem qw_22_11 : Cond.methodLink RX5 135 yX2_layShapes ∈ wsL_law := inr_22 _ (List.mem_of_getElem? (i := 11) rfl)
theorem qw_22_12 : Cond.instanceMethod yX2_layShapes ∈ wsL_law := inr_22 _ (List.mem_of_getElem? (i := 12) rfl)
theorem qw_22_13 : Cond.selects RX2 yX2_layShapes yX2_layShapes ∈ wsL_law := inr_22 _ (List.mem_of_getElem? (i := 13) rfl)
theorem qw_22_14 : Cond.code yX2_layShapes cX2_layShapes 3 none ∈ wsL_law := inr_22 _ (List.mem_of_getElem? (i := 14) rfl)
theorem qw_22_15 : Cond.fieldLink RX2 54 "StripDepths$ShapeReader" "top" "I" ∈ wsL_law := inr_22 _ (List.mem_of_getElem? (i := 15) rfl)
theorem qw_22_16 : Cond.fieldLink RX2 57 "StripDepths$ShapeReader" "left" "I" ∈ wsL_law := inr_22 _ (List.mem_of_getElem? (i := 16) rfl)
theorem qw_22_17 : Cond.fieldLink RX2 60 "StripDepths$ShapeReader" "bottom" "I" ∈ wsL_law := inr_22 _ (List.mem_of_getElem? (i := 17) rfl)
theorem qw_22_18 : Cond.fieldLink RX2 63 "StripDepths$ShapeReader" "right" "I" ∈ wsL_law := inr_22 _ (List.mem_of_getElem? (i := 18) rfl)
theorem qw_22_19 : Cond.fieldLink RX2 66 "StripDepths$ShapeReader" "plane" "I" ∈ wsL_law := inr_22 _ (List.mem_of_getElem? (i := 19) rfl)
theorem qw_22_20 : Cond.methodLink RX2 69 yX4_layPlane ∈ wsL_law := inr_22 _ (List.mem_of_getElem? (i := 20) rfl)
theorem qw_22_21 : Cond.methodLink RL 73 yX6_draw ∈ wsL_law := inr_22 _ (List.mem_of_getElem? (i := 21) rfl)
theorem qw_22_22 : Cond.instanceMethod yX6_draw ∈ wsL_law := inr_22 _ (List.mem_of_getElem? (i := 22) rfl)
theorem qw_22_23 : Cond.selects RX6 yX6_draw yX6_draw ∈ wsL_law := inr_22 _ (List.mem_of_getElem? (i := 23) rfl)
theorem inr_23 : ∀ w ∈ wsL_law_r23, w ∈ wsL_law := fun _ h => List.mem_append_left _ (List.mem_append_left _ (List.mem_append_left _ (List.mem_append_left _ (List.mem_append_left _ (List.mem_append_left _ (List.mem_append_left _ (List.mem_append_left _ (List.mem_append_right _ (List.mem_append_right _ (List.mem_append_right _ (List.mem_append_right _ (List.mem_append_right _ (List.mem_append_right _ (List.mem_append_right _ (List.mem_append_right _ (List.mem_append_right _ (List.mem_append_right _ (List.mem_append_right _ (List.mem_append_right _ (List.mem_append_right _ (List.mem_append_right _ (List.mem_append_right _ (List.mem_append_right _ (List.mem_append_right _ (List.mem_append_right _ (List.mem_append_right _ (List.mem_append_right _ (List.mem_append_right _ (List.mem_append_right _ (List.mem_append_left _ h))))))))))))))))))))))))))))))
theorem qw_23_0 : Cond.code yX6_draw cX6_draw 2 (some .int) ∈ wsL_law := inr_23 _ (List.mem_of_getElem? (i := 0) rfl)
theorem qw_23_1 : Cond.methodLink RL 74 yX5_wind ∈ wsL_law := inr_23 _ (List.mem_of_getElem? (i := 1) rfl)
theorem qw_23_2 : Cond.instanceMethod yX5_wind ∈ wsL_law := inr_23 _ (List.mem_of_getElem? (i := 2) rfl)
theorem qw_23_3 : Cond.selects RX5 yX5_wind yX5_wind ∈ wsL_law := inr_23 _ (List.mem_of_getElem? (i := 3) rfl)
theorem qw_23_4 : Cond.code yX5_wind cX5_wind 1 (some .int) ∈ wsL_law := inr_23 _ (List.mem_of_getElem? (i := 4) rfl)
theorem qw_23_5 : Cond.fieldLink RX5 142 "StripDepths$Sheet" "stripLength" "I" ∈ wsL_law := inr_23 _ (List.mem_of_getElem? (i := 5) rfl)
theorem qw_23_6 : Cond.methodLink RX5 139 yX2_putStrip ∈ wsL_law := inr_23 _ (List.mem_of_getElem? (i := 6) rfl)
theorem qw_23_7 : Cond.instanceMethod yX2_putStrip ∈ wsL_law := inr_23 _ (List.mem_of_getElem? (i := 7) rfl)
theorem qw_23_8 : Cond.selects RX2 yX2_putStrip yX2_putStrip ∈ wsL_law := inr_23 _ (List.mem_of_getElem? (i := 8) rfl)
theorem qw_23_9 : Cond.code yX2_putStrip cX2_putStrip 4 none ∈ wsL_law := inr_23 _ (List.mem_of_getElem? (i := 9) rfl)
theorem qw_23_10 : Cond.methodLink RX2 30 Lib.Math.min.name ∈ wsL_law := inr_23 _ (List.mem_of_getElem? (i := 10) rfl)
theorem qw_23_11 : Cond.fieldLink RX2 36 "StripDepths$Sheet" "strip" "[I" ∈ wsL_law := inr_23 _ (List.mem_of_getElem? (i := 11) rfl)
theorem qw_23_12 : Cond.fieldLink RX2 41 "StripDepths$Sheet" "stripLength" "I" ∈ wsL_law := inr_23 _ (List.mem_of_getElem? (i := 12) rfl)
theorem qw_23_13 : Cond.methodLink RL 77 yX6_wind ∈ wsL_law := inr_23 _ (List.mem_of_getElem? (i := 13) rfl)
theorem qw_23_14 : Cond.instanceMethod yX6_wind ∈ wsL_law := inr_23 _ (List.mem_of_getElem? (i := 14) rfl)
theorem qw_23_15 : Cond.selects RX6 yX6_wind yX6_wind ∈ wsL_law := inr_23 _ (List.mem_of_getElem? (i := 15) rfl)
theorem qw_23_16 : Cond.code yX6_wind cX6_wind 2 (some .int) ∈ wsL_law := inr_23 _ (List.mem_of_getElem? (i := 16) rfl)
theorem qw_23_17 : Cond.methodLink RL 78 yX5_unwind ∈ wsL_law := inr_23 _ (List.mem_of_getElem? (i := 17) rfl)
theorem qw_23_18 : Cond.instanceMethod yX5_unwind ∈ wsL_law := inr_23 _ (List.mem_of_getElem? (i := 18) rfl)
theorem qw_23_19 : Cond.selects RX5 yX5_unwind yX5_unwind ∈ wsL_law := inr_23 _ (List.mem_of_getElem? (i := 19) rfl)
theorem qw_23_20 : Cond.code yX5_unwind cX5_unwind 2 (some .int) ∈ wsL_law := inr_23 _ (List.mem_of_getElem? (i := 20) rfl)
theorem qw_23_21 : Cond.methodLink RL 81 yX6_unwind ∈ wsL_law := inr_23 _ (List.mem_of_getElem? (i := 21) rfl)
theorem qw_23_22 : Cond.instanceMethod yX6_unwind ∈ wsL_law := inr_23 _ (List.mem_of_getElem? (i := 22) rfl)
theorem qw_23_23 : Cond.selects RX6 yX6_unwind yX6_unwind ∈ wsL_law := inr_23 _ (List.mem_of_getElem? (i := 23) rfl)
theorem inr_24 : ∀ w ∈ wsL_law_r24, w ∈ wsL_law := fun _ h => List.mem_append_left _ (List.mem_append_left _ (List.mem_append_left _ (List.mem_append_left _ (List.mem_append_left _ (List.mem_append_left _ (List.mem_append_left _ (List.mem_append_left _ (List.mem_append_right _ (List.mem_append_right _ (List.mem_append_right _ (List.mem_append_right _ (List.mem_append_right _ (List.mem_append_right _ (List.mem_append_right _ (List.mem_append_right _ (List.mem_append_right _ (List.mem_append_right _ (List.mem_append_right _ (List.mem_append_right _ (List.mem_append_right _ (List.mem_append_right _ (List.mem_append_right _ (List.mem_append_right _ (List.mem_append_right _ (List.mem_append_right _ (List.mem_append_right _ (List.mem_append_right _ (List.mem_append_right _ (List.mem_append_right _ (List.mem_append_right _ (List.mem_append_left _ h)))))))))))))))))))))))))))))))
theorem qw_24_0 : Cond.code yX6_unwind cX6_unwind 2 (some .int) ∈ wsL_law := inr_24 _ (List.mem_of_getElem? (i := 0) rfl)
theorem qw_24_1 : Cond.methodLink RL 82 yX5_at ∈ wsL_law := inr_24 _ (List.mem_of_getElem? (i := 1) rfl)
theorem qw_24_2 : Cond.instanceMethod yX5_at ∈ wsL_law := inr_24 _ (List.mem_of_getElem? (i := 2) rfl)
theorem qw_24_3 : Cond.selects RX5 yX5_at yX5_at ∈ wsL_law := inr_24 _ (List.mem_of_getElem? (i := 3) rfl)
theorem qw_24_4 : Cond.code yX5_at cX5_at 4 (some .int) ∈ wsL_law := inr_24 _ (List.mem_of_getElem? (i := 4) rfl)
theorem qw_24_5 : Cond.fieldLink RX5 148 "StripDepths$Look" "dots" "[I" ∈ wsL_law := inr_24 _ (List.mem_of_getElem? (i := 5) rfl)
theorem qw_24_6 : Cond.fieldLink RX5 149 "StripDepths$Look" "seen" "[I" ∈ wsL_law := inr_24 _ (List.mem_of_getElem? (i := 6) rfl)
theorem qw_24_7 : Cond.fieldLink RX5 156 "StripDepths$Look" "binders" "[I" ∈ wsL_law := inr_24 _ (List.mem_of_getElem? (i := 7) rfl)
theorem qw_24_8 : Cond.fieldLink RX5 159 "StripDepths$Look" "chains" "[I" ∈ wsL_law := inr_24 _ (List.mem_of_getElem? (i := 8) rfl)
theorem qw_24_9 : Cond.fieldLink RX5 165 "StripDepths$Look" "remembered" "[I" ∈ wsL_law := inr_24 _ (List.mem_of_getElem? (i := 9) rfl)
theorem qw_24_10 : Cond.methodLink RX5 152 yX1_boundTo ∈ wsL_law := inr_24 _ (List.mem_of_getElem? (i := 10) rfl)
theorem qw_24_11 : Cond.methodLink RX5 162 yX1_placesOfChain ∈ wsL_law := inr_24 _ (List.mem_of_getElem? (i := 11) rfl)
theorem qw_24_12 : Cond.instanceMethod yX1_placesOfChain ∈ wsL_law := inr_24 _ (List.mem_of_getElem? (i := 12) rfl)
theorem qw_24_13 : Cond.selects RX1 yX1_placesOfChain yX1_placesOfChain ∈ wsL_law := inr_24 _ (List.mem_of_getElem? (i := 13) rfl)
theorem qw_24_14 : Cond.code yX1_placesOfChain cX1_placesOfChain 4 (some .int) ∈ wsL_law := inr_24 _ (List.mem_of_getElem? (i := 14) rfl)
theorem qw_24_15 : Cond.methodLink RL 85 yX6_at ∈ wsL_law := inr_24 _ (List.mem_of_getElem? (i := 15) rfl)
theorem qw_24_16 : Cond.instanceMethod yX6_at ∈ wsL_law := inr_24 _ (List.mem_of_getElem? (i := 16) rfl)
theorem qw_24_17 : Cond.selects RX6 yX6_at yX6_at ∈ wsL_law := inr_24 _ (List.mem_of_getElem? (i := 17) rfl)
theorem qw_24_18 : Cond.code yX6_at cX6_at 4 (some .int) ∈ wsL_law := inr_24 _ (List.mem_of_getElem? (i := 18) rfl)
theorem qw_24_19 : Cond.methodLink RX6 155 yX6_manyBoundTo ∈ wsL_law := inr_24 _ (List.mem_of_getElem? (i := 19) rfl)
theorem qw_24_20 : Cond.instanceMethod yX6_manyBoundTo ∈ wsL_law := inr_24 _ (List.mem_of_getElem? (i := 20) rfl)
theorem qw_24_21 : Cond.selects RX6 yX6_manyBoundTo yX6_manyBoundTo ∈ wsL_law := inr_24 _ (List.mem_of_getElem? (i := 21) rfl)
theorem qw_24_22 : Cond.code yX6_manyBoundTo cX6_manyBoundTo 5 (some .int) ∈ wsL_law := inr_24 _ (List.mem_of_getElem? (i := 22) rfl)
theorem qw_24_23 : Cond.methodLink RX6 49 yX6_freeOf ∈ wsL_law := inr_24 _ (List.mem_of_getElem? (i := 23) rfl)
theorem inr_25 : ∀ w ∈ wsL_law_r25, w ∈ wsL_law := fun _ h => List.mem_append_left _ (List.mem_append_left _ (List.mem_append_left _ (List.mem_append_left _ (List.mem_append_left _ (List.mem_append_left _ (List.mem_append_left _ (List.mem_append_left _ (List.mem_append_right _ (List.mem_append_right _ (List.mem_append_right _ (List.mem_append_right _ (List.mem_append_right _ (List.mem_append_right _ (List.mem_append_right _ (List.mem_append_right _ (List.mem_append_right _ (List.mem_append_right _ (List.mem_append_right _ (List.mem_append_right _ (List.mem_append_right _ (List.mem_append_right _ (List.mem_append_right _ (List.mem_append_right _ (List.mem_append_right _ (List.mem_append_right _ (List.mem_append_right _ (List.mem_append_right _ (List.mem_append_right _ (List.mem_append_right _ (List.mem_append_right _ (List.mem_append_right _ (List.mem_append_left _ h))))))))))))))))))))))))))))))))
theorem qw_25_0 : Cond.instanceMethod yX6_freeOf ∈ wsL_law := inr_25 _ (List.mem_of_getElem? (i := 0) rfl)
theorem qw_25_1 : Cond.selects RX6 yX6_freeOf yX6_freeOf ∈ wsL_law := inr_25 _ (List.mem_of_getElem? (i := 1) rfl)
theorem qw_25_2 : Cond.code yX6_freeOf cX6_freeOf 4 (some .int) ∈ wsL_law := inr_25 _ (List.mem_of_getElem? (i := 2) rfl)
theorem qw_25_3 : Cond.methodLink RX6 158 yX6_chain ∈ wsL_law := inr_25 _ (List.mem_of_getElem? (i := 3) rfl)
theorem qw_25_4 : Cond.instanceMethod yX6_chain ∈ wsL_law := inr_25 _ (List.mem_of_getElem? (i := 4) rfl)
theorem qw_25_5 : Cond.selects RX6 yX6_chain yX6_chain ∈ wsL_law := inr_25 _ (List.mem_of_getElem? (i := 5) rfl)
theorem qw_25_6 : Cond.code yX6_chain cX6_chain 5 (some .int) ∈ wsL_law := inr_25 _ (List.mem_of_getElem? (i := 6) rfl)
theorem qw_25_7 : Cond.methodLink RL 86 yX5_fits ∈ wsL_law := inr_25 _ (List.mem_of_getElem? (i := 7) rfl)
theorem qw_25_8 : Cond.instanceMethod yX5_fits ∈ wsL_law := inr_25 _ (List.mem_of_getElem? (i := 8) rfl)
theorem qw_25_9 : Cond.selects RX5 yX5_fits yX5_fits ∈ wsL_law := inr_25 _ (List.mem_of_getElem? (i := 9) rfl)
theorem qw_25_10 : Cond.code yX5_fits cX5_fits 4 (some .int) ∈ wsL_law := inr_25 _ (List.mem_of_getElem? (i := 10) rfl)
theorem qw_25_11 : Cond.methodLink RX5 166 yX1_isFitting ∈ wsL_law := inr_25 _ (List.mem_of_getElem? (i := 11) rfl)
theorem qw_25_12 : Cond.methodLink RL 89 yX6_fits ∈ wsL_law := inr_25 _ (List.mem_of_getElem? (i := 12) rfl)
theorem qw_25_13 : Cond.instanceMethod yX6_fits ∈ wsL_law := inr_25 _ (List.mem_of_getElem? (i := 13) rfl)
theorem qw_25_14 : Cond.selects RX6 yX6_fits yX6_fits ∈ wsL_law := inr_25 _ (List.mem_of_getElem? (i := 14) rfl)
theorem qw_25_15 : Cond.code yX6_fits cX6_fits 4 (some .int) ∈ wsL_law := inr_25 _ (List.mem_of_getElem? (i := 15) rfl)
theorem qw_25_16 : Cond.methodLink RL 90 yX5_row ∈ wsL_law := inr_25 _ (List.mem_of_getElem? (i := 16) rfl)
theorem qw_25_17 : Cond.instanceMethod yX5_row ∈ wsL_law := inr_25 _ (List.mem_of_getElem? (i := 17) rfl)
theorem qw_25_18 : Cond.selects RX5 yX5_row yX5_row ∈ wsL_law := inr_25 _ (List.mem_of_getElem? (i := 18) rfl)
theorem qw_25_19 : Cond.code yX5_row cX5_row 3 (some .int) ∈ wsL_law := inr_25 _ (List.mem_of_getElem? (i := 19) rfl)
theorem qw_25_20 : Cond.methodLink RX5 170 yX1_longestChain ∈ wsL_law := inr_25 _ (List.mem_of_getElem? (i := 20) rfl)
theorem qw_25_21 : Cond.instanceMethod yX1_longestChain ∈ wsL_law := inr_25 _ (List.mem_of_getElem? (i := 21) rfl)
theorem qw_25_22 : Cond.selects RX1 yX1_longestChain yX1_longestChain ∈ wsL_law := inr_25 _ (List.mem_of_getElem? (i := 22) rfl)
theorem qw_25_23 : Cond.code yX1_longestChain cX1_longestChain 3 (some .int) ∈ wsL_law := inr_25 _ (List.mem_of_getElem? (i := 23) rfl)
theorem inr_26 : ∀ w ∈ wsL_law_r26, w ∈ wsL_law := fun _ h => List.mem_append_left _ (List.mem_append_left _ (List.mem_append_left _ (List.mem_append_left _ (List.mem_append_left _ (List.mem_append_left _ (List.mem_append_left _ (List.mem_append_left _ (List.mem_append_right _ (List.mem_append_right _ (List.mem_append_right _ (List.mem_append_right _ (List.mem_append_right _ (List.mem_append_right _ (List.mem_append_right _ (List.mem_append_right _ (List.mem_append_right _ (List.mem_append_right _ (List.mem_append_right _ (List.mem_append_right _ (List.mem_append_right _ (List.mem_append_right _ (List.mem_append_right _ (List.mem_append_right _ (List.mem_append_right _ (List.mem_append_right _ (List.mem_append_right _ (List.mem_append_right _ (List.mem_append_right _ (List.mem_append_right _ (List.mem_append_right _ (List.mem_append_right _ (List.mem_append_right _ (List.mem_append_left _ h)))))))))))))))))))))))))))))))))
theorem qw_26_0 : Cond.methodLink RX1 114 yX1_placesOfChain ∈ wsL_law := inr_26 _ (List.mem_of_getElem? (i := 0) rfl)
theorem qw_26_1 : Cond.methodLink RX5 173 yX1_differentDots ∈ wsL_law := inr_26 _ (List.mem_of_getElem? (i := 1) rfl)
theorem qw_26_2 : Cond.instanceMethod yX1_differentDots ∈ wsL_law := inr_26 _ (List.mem_of_getElem? (i := 2) rfl)
theorem qw_26_3 : Cond.selects RX1 yX1_differentDots yX1_differentDots ∈ wsL_law := inr_26 _ (List.mem_of_getElem? (i := 3) rfl)
theorem qw_26_4 : Cond.code yX1_differentDots cX1_differentDots 3 (some .int) ∈ wsL_law := inr_26 _ (List.mem_of_getElem? (i := 4) rfl)
theorem qw_26_5 : Cond.methodLink RX1 117 yJ6_bitCount_0f7a4 ∈ wsL_law := inr_26 _ (List.mem_of_getElem? (i := 5) rfl)
theorem qw_26_6 : Cond.static yJ6_bitCount_0f7a4 ∈ wsL_law := inr_26 _ (List.mem_of_getElem? (i := 6) rfl)
theorem qw_26_7 : Cond.initialized RJ6 ∈ wsL_law := inr_26 _ (List.mem_of_getElem? (i := 7) rfl)
theorem qw_26_8 : Cond.code yJ6_bitCount_0f7a4 cJ6_bitCount_0f7a4 1 (some .int) ∈ wsL_law := inr_26 _ (List.mem_of_getElem? (i := 8) rfl)
theorem qw_26_9 : Cond.constant RJ6 265 (1431655765) ∈ wsL_law := inr_26 _ (List.mem_of_getElem? (i := 9) rfl)
theorem qw_26_10 : Cond.constant RJ6 266 (858993459) ∈ wsL_law := inr_26 _ (List.mem_of_getElem? (i := 10) rfl)
theorem qw_26_11 : Cond.constant RJ6 267 (252645135) ∈ wsL_law := inr_26 _ (List.mem_of_getElem? (i := 11) rfl)
theorem qw_26_12 : Cond.methodLink RX5 176 yX1_changesOfPlane ∈ wsL_law := inr_26 _ (List.mem_of_getElem? (i := 12) rfl)
theorem qw_26_13 : Cond.instanceMethod yX1_changesOfPlane ∈ wsL_law := inr_26 _ (List.mem_of_getElem? (i := 13) rfl)
theorem qw_26_14 : Cond.selects RX1 yX1_changesOfPlane yX1_changesOfPlane ∈ wsL_law := inr_26 _ (List.mem_of_getElem? (i := 14) rfl)
theorem qw_26_15 : Cond.code yX1_changesOfPlane cX1_changesOfPlane 4 (some .int) ∈ wsL_law := inr_26 _ (List.mem_of_getElem? (i := 15) rfl)
theorem qw_26_16 : Cond.methodLink RL 93 yX6_row ∈ wsL_law := inr_26 _ (List.mem_of_getElem? (i := 16) rfl)
theorem qw_26_17 : Cond.instanceMethod yX6_row ∈ wsL_law := inr_26 _ (List.mem_of_getElem? (i := 17) rfl)
theorem qw_26_18 : Cond.selects RX6 yX6_row yX6_row ∈ wsL_law := inr_26 _ (List.mem_of_getElem? (i := 18) rfl)
theorem qw_26_19 : Cond.code yX6_row cX6_row 3 (some .int) ∈ wsL_law := inr_26 _ (List.mem_of_getElem? (i := 19) rfl)
theorem qw_26_20 : Cond.methodLink RX6 167 yX6_many ∈ wsL_law := inr_26 _ (List.mem_of_getElem? (i := 20) rfl)
theorem qw_26_21 : Cond.instanceMethod yX6_many ∈ wsL_law := inr_26 _ (List.mem_of_getElem? (i := 21) rfl)
theorem qw_26_22 : Cond.selects RX6 yX6_many yX6_many ∈ wsL_law := inr_26 _ (List.mem_of_getElem? (i := 22) rfl)
theorem qw_26_23 : Cond.code yX6_many cX6_many 5 (some .int) ∈ wsL_law := inr_26 _ (List.mem_of_getElem? (i := 23) rfl)
theorem inr_27 : ∀ w ∈ wsL_law_r27, w ∈ wsL_law := fun _ h => List.mem_append_left _ (List.mem_append_left _ (List.mem_append_left _ (List.mem_append_left _ (List.mem_append_left _ (List.mem_append_left _ (List.mem_append_left _ (List.mem_append_left _ (List.mem_append_right _ (List.mem_append_right _ (List.mem_append_right _ (List.mem_append_right _ (List.mem_append_right _ (List.mem_append_right _ (List.mem_append_right _ (List.mem_append_right _ (List.mem_append_right _ (List.mem_append_right _ (List.mem_append_right _ (List.mem_append_right _ (List.mem_append_right _ (List.mem_append_right _ (List.mem_append_right _ (List.mem_append_right _ (List.mem_append_right _ (List.mem_append_right _ (List.mem_append_right _ (List.mem_append_right _ (List.mem_append_right _ (List.mem_append_right _ (List.mem_append_right _ (List.mem_append_right _ (List.mem_append_right _ (List.mem_append_right _ (List.mem_append_left _ h))))))))))))))))))))))))))))))))))
theorem qw_27_0 : Cond.methodLink RX6 161 yX6_isOne ∈ wsL_law := inr_27 _ (List.mem_of_getElem? (i := 0) rfl)
theorem qw_27_1 : Cond.instanceMethod yX6_isOne ∈ wsL_law := inr_27 _ (List.mem_of_getElem? (i := 1) rfl)
theorem qw_27_2 : Cond.selects RX6 yX6_isOne yX6_isOne ∈ wsL_law := inr_27 _ (List.mem_of_getElem? (i := 2) rfl)
theorem qw_27_3 : Cond.code yX6_isOne cX6_isOne 5 (some .boolean) ∈ wsL_law := inr_27 _ (List.mem_of_getElem? (i := 3) rfl)
theorem qw_27_4 : Cond.methodLink RX6 170 yX6_longestChain ∈ wsL_law := inr_27 _ (List.mem_of_getElem? (i := 4) rfl)
theorem qw_27_5 : Cond.instanceMethod yX6_longestChain ∈ wsL_law := inr_27 _ (List.mem_of_getElem? (i := 5) rfl)
theorem qw_27_6 : Cond.selects RX6 yX6_longestChain yX6_longestChain ∈ wsL_law := inr_27 _ (List.mem_of_getElem? (i := 6) rfl)
theorem qw_27_7 : Cond.code yX6_longestChain cX6_longestChain 4 (some .int) ∈ wsL_law := inr_27 _ (List.mem_of_getElem? (i := 7) rfl)
theorem qw_27_8 : Cond.methodLink RX6 164 yX6_greater ∈ wsL_law := inr_27 _ (List.mem_of_getElem? (i := 8) rfl)
theorem qw_27_9 : Cond.static yX6_greater ∈ wsL_law := inr_27 _ (List.mem_of_getElem? (i := 9) rfl)
theorem qw_27_10 : Cond.code yX6_greater cX6_greater 2 (some .int) ∈ wsL_law := inr_27 _ (List.mem_of_getElem? (i := 10) rfl)
theorem qw_27_11 : Cond.methodLink RX6 173 yX6_differentDots ∈ wsL_law := inr_27 _ (List.mem_of_getElem? (i := 11) rfl)
theorem qw_27_12 : Cond.instanceMethod yX6_differentDots ∈ wsL_law := inr_27 _ (List.mem_of_getElem? (i := 12) rfl)
theorem qw_27_13 : Cond.selects RX6 yX6_differentDots yX6_differentDots ∈ wsL_law := inr_27 _ (List.mem_of_getElem? (i := 13) rfl)
theorem qw_27_14 : Cond.code yX6_differentDots cX6_differentDots 6 (some .int) ∈ wsL_law := inr_27 _ (List.mem_of_getElem? (i := 14) rfl)
theorem qw_27_15 : Cond.methodLink RX6 176 yX6_turnsOfPlane ∈ wsL_law := inr_27 _ (List.mem_of_getElem? (i := 15) rfl)
theorem qw_27_16 : Cond.instanceMethod yX6_turnsOfPlane ∈ wsL_law := inr_27 _ (List.mem_of_getElem? (i := 16) rfl)
theorem qw_27_17 : Cond.selects RX6 yX6_turnsOfPlane yX6_turnsOfPlane ∈ wsL_law := inr_27 _ (List.mem_of_getElem? (i := 17) rfl)
theorem qw_27_18 : Cond.code yX6_turnsOfPlane cX6_turnsOfPlane 5 (some .int) ∈ wsL_law := inr_27 _ (List.mem_of_getElem? (i := 18) rfl)
theorem qw_27_19 : Cond.methodLink RL 94 yX5_echo ∈ wsL_law := inr_27 _ (List.mem_of_getElem? (i := 19) rfl)
theorem qw_27_20 : Cond.instanceMethod yX5_echo ∈ wsL_law := inr_27 _ (List.mem_of_getElem? (i := 20) rfl)
theorem qw_27_21 : Cond.selects RX5 yX5_echo yX5_echo ∈ wsL_law := inr_27 _ (List.mem_of_getElem? (i := 21) rfl)
theorem qw_27_22 : Cond.code yX5_echo cX5_echo 3 (some .int) ∈ wsL_law := inr_27 _ (List.mem_of_getElem? (i := 22) rfl)
theorem qw_27_23 : Cond.methodLink RX5 181 yX1_echoOf ∈ wsL_law := inr_27 _ (List.mem_of_getElem? (i := 23) rfl)
theorem inr_28 : ∀ w ∈ wsL_law_r28, w ∈ wsL_law := fun _ h => List.mem_append_left _ (List.mem_append_left _ (List.mem_append_left _ (List.mem_append_left _ (List.mem_append_left _ (List.mem_append_left _ (List.mem_append_left _ (List.mem_append_left _ (List.mem_append_right _ (List.mem_append_right _ (List.mem_append_right _ (List.mem_append_right _ (List.mem_append_right _ (List.mem_append_right _ (List.mem_append_right _ (List.mem_append_right _ (List.mem_append_right _ (List.mem_append_right _ (List.mem_append_right _ (List.mem_append_right _ (List.mem_append_right _ (List.mem_append_right _ (List.mem_append_right _ (List.mem_append_right _ (List.mem_append_right _ (List.mem_append_right _ (List.mem_append_right _ (List.mem_append_right _ (List.mem_append_right _ (List.mem_append_right _ (List.mem_append_right _ (List.mem_append_right _ (List.mem_append_right _ (List.mem_append_right _ (List.mem_append_right _ (List.mem_append_left _ h)))))))))))))))))))))))))))))))))))
theorem qw_28_0 : Cond.instanceMethod yX1_echoOf ∈ wsL_law := inr_28 _ (List.mem_of_getElem? (i := 0) rfl)
theorem qw_28_1 : Cond.selects RX1 yX1_echoOf yX1_echoOf ∈ wsL_law := inr_28 _ (List.mem_of_getElem? (i := 1) rfl)
theorem qw_28_2 : Cond.code yX1_echoOf cX1_echoOf 4 (some .int) ∈ wsL_law := inr_28 _ (List.mem_of_getElem? (i := 2) rfl)
theorem qw_28_3 : Cond.methodLink RL 97 yX6_echo ∈ wsL_law := inr_28 _ (List.mem_of_getElem? (i := 3) rfl)
theorem qw_28_4 : Cond.instanceMethod yX6_echo ∈ wsL_law := inr_28 _ (List.mem_of_getElem? (i := 4) rfl)
theorem qw_28_5 : Cond.selects RX6 yX6_echo yX6_echo ∈ wsL_law := inr_28 _ (List.mem_of_getElem? (i := 5) rfl)
theorem qw_28_6 : Cond.code yX6_echo cX6_echo 3 (some .int) ∈ wsL_law := inr_28 _ (List.mem_of_getElem? (i := 6) rfl)
theorem qw_28_7 : Cond.methodLink RX6 179 yX6_echoes ∈ wsL_law := inr_28 _ (List.mem_of_getElem? (i := 7) rfl)
theorem qw_28_8 : Cond.instanceMethod yX6_echoes ∈ wsL_law := inr_28 _ (List.mem_of_getElem? (i := 8) rfl)
theorem qw_28_9 : Cond.selects RX6 yX6_echoes yX6_echoes ∈ wsL_law := inr_28 _ (List.mem_of_getElem? (i := 9) rfl)
theorem qw_28_10 : Cond.code yX6_echoes cX6_echoes 5 (some .int) ∈ wsL_law := inr_28 _ (List.mem_of_getElem? (i := 10) rfl)
theorem qw_28_11 : Cond.methodLink RL 98 yX5_echoAt ∈ wsL_law := inr_28 _ (List.mem_of_getElem? (i := 11) rfl)
theorem qw_28_12 : Cond.instanceMethod yX5_echoAt ∈ wsL_law := inr_28 _ (List.mem_of_getElem? (i := 12) rfl)
theorem qw_28_13 : Cond.selects RX5 yX5_echoAt yX5_echoAt ∈ wsL_law := inr_28 _ (List.mem_of_getElem? (i := 13) rfl)
theorem qw_28_14 : Cond.code yX5_echoAt cX5_echoAt 4 (some .int) ∈ wsL_law := inr_28 _ (List.mem_of_getElem? (i := 14) rfl)
theorem qw_28_15 : Cond.methodLink RX5 184 yX5_rankedAt ∈ wsL_law := inr_28 _ (List.mem_of_getElem? (i := 15) rfl)
theorem qw_28_16 : Cond.instanceMethod yX5_rankedAt ∈ wsL_law := inr_28 _ (List.mem_of_getElem? (i := 16) rfl)
theorem qw_28_17 : Cond.selects RX5 yX5_rankedAt yX5_rankedAt ∈ wsL_law := inr_28 _ (List.mem_of_getElem? (i := 17) rfl)
theorem qw_28_18 : Cond.code yX5_rankedAt cX5_rankedAt 4 (some .int) ∈ wsL_law := inr_28 _ (List.mem_of_getElem? (i := 18) rfl)
theorem qw_28_19 : Cond.methodLink RX5 250 yX5_rankOf ∈ wsL_law := inr_28 _ (List.mem_of_getElem? (i := 19) rfl)
theorem qw_28_20 : Cond.instanceMethod yX5_rankOf ∈ wsL_law := inr_28 _ (List.mem_of_getElem? (i := 20) rfl)
theorem qw_28_21 : Cond.selects RX5 yX5_rankOf yX5_rankOf ∈ wsL_law := inr_28 _ (List.mem_of_getElem? (i := 21) rfl)
theorem qw_28_22 : Cond.code yX5_rankOf cX5_rankOf 5 (some .int) ∈ wsL_law := inr_28 _ (List.mem_of_getElem? (i := 22) rfl)
theorem qw_28_23 : Cond.methodLink RL 101 yX6_echoAt ∈ wsL_law := inr_28 _ (List.mem_of_getElem? (i := 23) rfl)
theorem inr_29 : ∀ w ∈ wsL_law_r29, w ∈ wsL_law := fun _ h => List.mem_append_left _ (List.mem_append_left _ (List.mem_append_left _ (List.mem_append_left _ (List.mem_append_left _ (List.mem_append_left _ (List.mem_append_left _ (List.mem_append_left _ (List.mem_append_right _ (List.mem_append_right _ (List.mem_append_right _ (List.mem_append_right _ (List.mem_append_right _ (List.mem_append_right _ (List.mem_append_right _ (List.mem_append_right _ (List.mem_append_right _ (List.mem_append_right _ (List.mem_append_right _ (List.mem_append_right _ (List.mem_append_right _ (List.mem_append_right _ (List.mem_append_right _ (List.mem_append_right _ (List.mem_append_right _ (List.mem_append_right _ (List.mem_append_right _ (List.mem_append_right _ (List.mem_append_right _ (List.mem_append_right _ (List.mem_append_right _ (List.mem_append_right _ (List.mem_append_right _ (List.mem_append_right _ (List.mem_append_right _ (List.mem_append_right _ (List.mem_append_left _ h))))))))))))))))))))))))))))))))))))
theorem qw_29_0 : Cond.instanceMethod yX6_echoAt ∈ wsL_law := inr_29 _ (List.mem_of_getElem? (i := 0) rfl)
theorem qw_29_1 : Cond.selects RX6 yX6_echoAt yX6_echoAt ∈ wsL_law := inr_29 _ (List.mem_of_getElem? (i := 1) rfl)
theorem qw_29_2 : Cond.code yX6_echoAt cX6_echoAt 8 (some .int) ∈ wsL_law := inr_29 _ (List.mem_of_getElem? (i := 2) rfl)
theorem qw_29_3 : Cond.methodLink RL 102 yX5_faulty ∈ wsL_law := inr_29 _ (List.mem_of_getElem? (i := 3) rfl)
theorem qw_29_4 : Cond.instanceMethod yX5_faulty ∈ wsL_law := inr_29 _ (List.mem_of_getElem? (i := 4) rfl)
theorem qw_29_5 : Cond.selects RX5 yX5_faulty yX5_faulty ∈ wsL_law := inr_29 _ (List.mem_of_getElem? (i := 5) rfl)
theorem qw_29_6 : Cond.code yX5_faulty cX5_faulty 5 (some .int) ∈ wsL_law := inr_29 _ (List.mem_of_getElem? (i := 6) rfl)
theorem qw_29_7 : Cond.methodLink RL 105 yX6_faulty ∈ wsL_law := inr_29 _ (List.mem_of_getElem? (i := 7) rfl)
theorem qw_29_8 : Cond.instanceMethod yX6_faulty ∈ wsL_law := inr_29 _ (List.mem_of_getElem? (i := 8) rfl)
theorem qw_29_9 : Cond.selects RX6 yX6_faulty yX6_faulty ∈ wsL_law := inr_29 _ (List.mem_of_getElem? (i := 9) rfl)
theorem qw_29_10 : Cond.code yX6_faulty cX6_faulty 7 (some .int) ∈ wsL_law := inr_29 _ (List.mem_of_getElem? (i := 10) rfl)
theorem qw_29_11 : Cond.methodLink RX6 182 yX6_faults ∈ wsL_law := inr_29 _ (List.mem_of_getElem? (i := 11) rfl)
theorem qw_29_12 : Cond.instanceMethod yX6_faults ∈ wsL_law := inr_29 _ (List.mem_of_getElem? (i := 12) rfl)
theorem qw_29_13 : Cond.selects RX6 yX6_faults yX6_faults ∈ wsL_law := inr_29 _ (List.mem_of_getElem? (i := 13) rfl)
theorem qw_29_14 : Cond.code yX6_faults cX6_faults 3 (some .int) ∈ wsL_law := inr_29 _ (List.mem_of_getElem? (i := 14) rfl)
theorem qw_29_15 : Cond.methodLink RL 106 yX5_plane ∈ wsL_law := inr_29 _ (List.mem_of_getElem? (i := 15) rfl)
theorem qw_29_16 : Cond.instanceMethod yX5_plane ∈ wsL_law := inr_29 _ (List.mem_of_getElem? (i := 16) rfl)
theorem qw_29_17 : Cond.selects RX5 yX5_plane yX5_plane ∈ wsL_law := inr_29 _ (List.mem_of_getElem? (i := 17) rfl)
theorem qw_29_18 : Cond.code yX5_plane cX5_plane 5 (some .int) ∈ wsL_law := inr_29 _ (List.mem_of_getElem? (i := 18) rfl)
theorem qw_29_19 : Cond.methodLink RX5 187 yX1_numberOfPlane ∈ wsL_law := inr_29 _ (List.mem_of_getElem? (i := 19) rfl)
theorem qw_29_20 : Cond.instanceMethod yX1_numberOfPlane ∈ wsL_law := inr_29 _ (List.mem_of_getElem? (i := 20) rfl)
theorem qw_29_21 : Cond.selects RX1 yX1_numberOfPlane yX1_numberOfPlane ∈ wsL_law := inr_29 _ (List.mem_of_getElem? (i := 21) rfl)
theorem qw_29_22 : Cond.code yX1_numberOfPlane cX1_numberOfPlane 9 (some .int) ∈ wsL_law := inr_29 _ (List.mem_of_getElem? (i := 22) rfl)
theorem qw_29_23 : Cond.methodLink RL 109 yX6_plane ∈ wsL_law := inr_29 _ (List.mem_of_getElem? (i := 23) rfl)
theorem inr_30 : ∀ w ∈ wsL_law_r30, w ∈ wsL_law := fun _ h => List.mem_append_left _ (List.mem_append_left _ (List.mem_append_left _ (List.mem_append_left _ (List.mem_append_left _ (List.mem_append_left _ (List.mem_append_left _ (List.mem_append_left _ (List.mem_append_right _ (List.mem_append_right _ (List.mem_append_right _ (List.mem_append_right _ (List.mem_append_right _ (List.mem_append_right _ (List.mem_append_right _ (List.mem_append_right _ (List.mem_append_right _ (List.mem_append_right _ (List.mem_append_right _ (List.mem_append_right _ (List.mem_append_right _ (List.mem_append_right _ (List.mem_append_right _ (List.mem_append_right _ (List.mem_append_right _ (List.mem_append_right _ (List.mem_append_right _ (List.mem_append_right _ (List.mem_append_right _ (List.mem_append_right _ (List.mem_append_right _ (List.mem_append_right _ (List.mem_append_right _ (List.mem_append_right _ (List.mem_append_right _ (List.mem_append_right _ (List.mem_append_right _ (List.mem_append_left _ h)))))))))))))))))))))))))))))))))))))
theorem qw_30_0 : Cond.instanceMethod yX6_plane ∈ wsL_law := inr_30 _ (List.mem_of_getElem? (i := 0) rfl)
theorem qw_30_1 : Cond.selects RX6 yX6_plane yX6_plane ∈ wsL_law := inr_30 _ (List.mem_of_getElem? (i := 1) rfl)
theorem qw_30_2 : Cond.code yX6_plane cX6_plane 10 (some .int) ∈ wsL_law := inr_30 _ (List.mem_of_getElem? (i := 2) rfl)
theorem qw_30_3 : Cond.methodLink RL 110 yX5_pictures ∈ wsL_law := inr_30 _ (List.mem_of_getElem? (i := 3) rfl)
theorem qw_30_4 : Cond.instanceMethod yX5_pictures ∈ wsL_law := inr_30 _ (List.mem_of_getElem? (i := 4) rfl)
theorem qw_30_5 : Cond.selects RX5 yX5_pictures yX5_pictures ∈ wsL_law := inr_30 _ (List.mem_of_getElem? (i := 5) rfl)
theorem qw_30_6 : Cond.code yX5_pictures cX5_pictures 3 (some .int) ∈ wsL_law := inr_30 _ (List.mem_of_getElem? (i := 6) rfl)
theorem qw_30_7 : Cond.methodLink RX5 190 arraycopyName ∈ wsL_law := inr_30 _ (List.mem_of_getElem? (i := 7) rfl)
theorem qw_30_8 : Cond.methodLink RX5 196 yX5_isNewPicture ∈ wsL_law := inr_30 _ (List.mem_of_getElem? (i := 8) rfl)
theorem qw_30_9 : Cond.instanceMethod yX5_isNewPicture ∈ wsL_law := inr_30 _ (List.mem_of_getElem? (i := 9) rfl)
theorem qw_30_10 : Cond.selects RX5 yX5_isNewPicture yX5_isNewPicture ∈ wsL_law := inr_30 _ (List.mem_of_getElem? (i := 10) rfl)
theorem qw_30_11 : Cond.code yX5_isNewPicture cX5_isNewPicture 3 (some .boolean) ∈ wsL_law := inr_30 _ (List.mem_of_getElem? (i := 11) rfl)
theorem qw_30_12 : Cond.methodLink RX5 253 yX5_isSameView ∈ wsL_law := inr_30 _ (List.mem_of_getElem? (i := 12) rfl)
theorem qw_30_13 : Cond.instanceMethod yX5_isSameView ∈ wsL_law := inr_30 _ (List.mem_of_getElem? (i := 13) rfl)
theorem qw_30_14 : Cond.selects RX5 yX5_isSameView yX5_isSameView ∈ wsL_law := inr_30 _ (List.mem_of_getElem? (i := 14) rfl)
theorem qw_30_15 : Cond.code yX5_isSameView cX5_isSameView 4 (some .boolean) ∈ wsL_law := inr_30 _ (List.mem_of_getElem? (i := 15) rfl)
theorem qw_30_16 : Cond.methodLink RL 113 yX6_pictures ∈ wsL_law := inr_30 _ (List.mem_of_getElem? (i := 16) rfl)
theorem qw_30_17 : Cond.instanceMethod yX6_pictures ∈ wsL_law := inr_30 _ (List.mem_of_getElem? (i := 17) rfl)
theorem qw_30_18 : Cond.selects RX6 yX6_pictures yX6_pictures ∈ wsL_law := inr_30 _ (List.mem_of_getElem? (i := 18) rfl)
theorem qw_30_19 : Cond.code yX6_pictures cX6_pictures 5 (some .int) ∈ wsL_law := inr_30 _ (List.mem_of_getElem? (i := 19) rfl)
theorem qw_30_20 : Cond.methodLink RX6 188 yX6_likes ∈ wsL_law := inr_30 _ (List.mem_of_getElem? (i := 20) rfl)
theorem qw_30_21 : Cond.instanceMethod yX6_likes ∈ wsL_law := inr_30 _ (List.mem_of_getElem? (i := 21) rfl)
theorem qw_30_22 : Cond.selects RX6 yX6_likes yX6_likes ∈ wsL_law := inr_30 _ (List.mem_of_getElem? (i := 22) rfl)
theorem qw_30_23 : Cond.code yX6_likes cX6_likes 5 (some .int) ∈ wsL_law := inr_30 _ (List.mem_of_getElem? (i := 23) rfl)
theorem inr_31 : ∀ w ∈ wsL_law_r31, w ∈ wsL_law := fun _ h => List.mem_append_left _ (List.mem_append_left _ (List.mem_append_left _ (List.mem_append_left _ (List.mem_append_left _ (List.mem_append_left _ (List.mem_append_left _ (List.mem_append_left _ (List.mem_append_right _ (List.mem_append_right _ (List.mem_append_right _ (List.mem_append_right _ (List.mem_append_right _ (List.mem_append_right _ (List.mem_append_right _ (List.mem_append_right _ (List.mem_append_right _ (List.mem_append_right _ (List.mem_append_right _ (List.mem_append_right _ (List.mem_append_right _ (List.mem_append_right _ (List.mem_append_right _ (List.mem_append_right _ (List.mem_append_right _ (List.mem_append_right _ (List.mem_append_right _ (List.mem_append_right _ (List.mem_append_right _ (List.mem_append_right _ (List.mem_append_right _ (List.mem_append_right _ (List.mem_append_right _ (List.mem_append_right _ (List.mem_append_right _ (List.mem_append_right _ (List.mem_append_right _ (List.mem_append_right _ (List.mem_append_left _ h))))))))))))))))))))))))))))))))))))))
theorem qw_31_0 : Cond.methodLink RX6 185 yX6_looksBeside ∈ wsL_law := inr_31 _ (List.mem_of_getElem? (i := 0) rfl)
theorem qw_31_1 : Cond.instanceMethod yX6_looksBeside ∈ wsL_law := inr_31 _ (List.mem_of_getElem? (i := 1) rfl)
theorem qw_31_2 : Cond.selects RX6 yX6_looksBeside yX6_looksBeside ∈ wsL_law := inr_31 _ (List.mem_of_getElem? (i := 2) rfl)
theorem qw_31_3 : Cond.code yX6_looksBeside cX6_looksBeside 3 none ∈ wsL_law := inr_31 _ (List.mem_of_getElem? (i := 3) rfl)
theorem qw_31_4 : Cond.methodLink RL 114 yX5_count ∈ wsL_law := inr_31 _ (List.mem_of_getElem? (i := 4) rfl)
theorem qw_31_5 : Cond.instanceMethod yX5_count ∈ wsL_law := inr_31 _ (List.mem_of_getElem? (i := 5) rfl)
theorem qw_31_6 : Cond.selects RX5 yX5_count yX5_count ∈ wsL_law := inr_31 _ (List.mem_of_getElem? (i := 6) rfl)
theorem qw_31_7 : Cond.code yX5_count cX5_count 2 (some .int) ∈ wsL_law := inr_31 _ (List.mem_of_getElem? (i := 7) rfl)
theorem qw_31_8 : Cond.fieldLink RX5 202 "StripDepths$History" "states" "I" ∈ wsL_law := inr_31 _ (List.mem_of_getElem? (i := 8) rfl)
theorem qw_31_9 : Cond.methodLink RX5 199 yX4_planesAboveZero ∈ wsL_law := inr_31 _ (List.mem_of_getElem? (i := 9) rfl)
theorem qw_31_10 : Cond.instanceMethod yX4_planesAboveZero ∈ wsL_law := inr_31 _ (List.mem_of_getElem? (i := 10) rfl)
theorem qw_31_11 : Cond.selects RX4 yX4_planesAboveZero yX4_planesAboveZero ∈ wsL_law := inr_31 _ (List.mem_of_getElem? (i := 11) rfl)
theorem qw_31_12 : Cond.code yX4_planesAboveZero cX4_planesAboveZero 3 (some .int) ∈ wsL_law := inr_31 _ (List.mem_of_getElem? (i := 12) rfl)
theorem qw_31_13 : Cond.methodLink RX5 205 yX5_allPlacesOfKind ∈ wsL_law := inr_31 _ (List.mem_of_getElem? (i := 13) rfl)
theorem qw_31_14 : Cond.instanceMethod yX5_allPlacesOfKind ∈ wsL_law := inr_31 _ (List.mem_of_getElem? (i := 14) rfl)
theorem qw_31_15 : Cond.selects RX5 yX5_allPlacesOfKind yX5_allPlacesOfKind ∈ wsL_law := inr_31 _ (List.mem_of_getElem? (i := 15) rfl)
theorem qw_31_16 : Cond.code yX5_allPlacesOfKind cX5_allPlacesOfKind 4 (some .int) ∈ wsL_law := inr_31 _ (List.mem_of_getElem? (i := 16) rfl)
theorem qw_31_17 : Cond.methodLink RL 117 yX6_count ∈ wsL_law := inr_31 _ (List.mem_of_getElem? (i := 17) rfl)
theorem qw_31_18 : Cond.instanceMethod yX6_count ∈ wsL_law := inr_31 _ (List.mem_of_getElem? (i := 18) rfl)
theorem qw_31_19 : Cond.selects RX6 yX6_count yX6_count ∈ wsL_law := inr_31 _ (List.mem_of_getElem? (i := 19) rfl)
theorem qw_31_20 : Cond.code yX6_count cX6_count 2 (some .int) ∈ wsL_law := inr_31 _ (List.mem_of_getElem? (i := 20) rfl)
theorem qw_31_21 : Cond.methodLink RX6 191 yX6_overAll ∈ wsL_law := inr_31 _ (List.mem_of_getElem? (i := 21) rfl)
theorem qw_31_22 : Cond.instanceMethod yX6_overAll ∈ wsL_law := inr_31 _ (List.mem_of_getElem? (i := 22) rfl)
theorem qw_31_23 : Cond.selects RX6 yX6_overAll yX6_overAll ∈ wsL_law := inr_31 _ (List.mem_of_getElem? (i := 23) rfl)
theorem inr_32 : ∀ w ∈ wsL_law_r32, w ∈ wsL_law := fun _ h => List.mem_append_left _ (List.mem_append_left _ (List.mem_append_left _ (List.mem_append_left _ (List.mem_append_left _ (List.mem_append_left _ (List.mem_append_left _ (List.mem_append_left _ (List.mem_append_right _ (List.mem_append_right _ (List.mem_append_right _ (List.mem_append_right _ (List.mem_append_right _ (List.mem_append_right _ (List.mem_append_right _ (List.mem_append_right _ (List.mem_append_right _ (List.mem_append_right _ (List.mem_append_right _ (List.mem_append_right _ (List.mem_append_right _ (List.mem_append_right _ (List.mem_append_right _ (List.mem_append_right _ (List.mem_append_right _ (List.mem_append_right _ (List.mem_append_right _ (List.mem_append_right _ (List.mem_append_right _ (List.mem_append_right _ (List.mem_append_right _ (List.mem_append_right _ (List.mem_append_right _ (List.mem_append_right _ (List.mem_append_right _ (List.mem_append_right _ (List.mem_append_right _ (List.mem_append_right _ (List.mem_append_right _ (List.mem_append_left _ h)))))))))))))))))))))))))))))))))))))))
theorem qw_32_0 : Cond.code yX6_overAll cX6_overAll 4 (some .int) ∈ wsL_law := inr_32 _ (List.mem_of_getElem? (i := 0) rfl)
theorem qw_32_1 : Cond.methodLink RX6 194 yX6_raised ∈ wsL_law := inr_32 _ (List.mem_of_getElem? (i := 1) rfl)
theorem qw_32_2 : Cond.instanceMethod yX6_raised ∈ wsL_law := inr_32 _ (List.mem_of_getElem? (i := 2) rfl)
theorem qw_32_3 : Cond.selects RX6 yX6_raised yX6_raised ∈ wsL_law := inr_32 _ (List.mem_of_getElem? (i := 3) rfl)
theorem qw_32_4 : Cond.code yX6_raised cX6_raised 3 (some .int) ∈ wsL_law := inr_32 _ (List.mem_of_getElem? (i := 4) rfl)
theorem qw_32_5 : Cond.methodLink RL 118 yX5_away ∈ wsL_law := inr_32 _ (List.mem_of_getElem? (i := 5) rfl)
theorem qw_32_6 : Cond.instanceMethod yX5_away ∈ wsL_law := inr_32 _ (List.mem_of_getElem? (i := 6) rfl)
theorem qw_32_7 : Cond.selects RX5 yX5_away yX5_away ∈ wsL_law := inr_32 _ (List.mem_of_getElem? (i := 7) rfl)
theorem qw_32_8 : Cond.code yX5_away cX5_away 5 (some .float) ∈ wsL_law := inr_32 _ (List.mem_of_getElem? (i := 8) rfl)
theorem qw_32_9 : Cond.constantFloat RX5 208 (3212836864) ∈ wsL_law := inr_32 _ (List.mem_of_getElem? (i := 9) rfl)
theorem qw_32_10 : Cond.methodLink RL 122 yX6_away ∈ wsL_law := inr_32 _ (List.mem_of_getElem? (i := 10) rfl)
theorem qw_32_11 : Cond.instanceMethod yX6_away ∈ wsL_law := inr_32 _ (List.mem_of_getElem? (i := 11) rfl)
theorem qw_32_12 : Cond.selects RX6 yX6_away yX6_away ∈ wsL_law := inr_32 _ (List.mem_of_getElem? (i := 12) rfl)
theorem qw_32_13 : Cond.code yX6_away cX6_away 4 (some .float) ∈ wsL_law := inr_32 _ (List.mem_of_getElem? (i := 13) rfl)
theorem qw_32_14 : Cond.constantFloat RX6 197 (3212836864) ∈ wsL_law := inr_32 _ (List.mem_of_getElem? (i := 14) rfl)
theorem qw_32_15 : Cond.methodLink RL 123 yX5_clearness ∈ wsL_law := inr_32 _ (List.mem_of_getElem? (i := 15) rfl)
theorem qw_32_16 : Cond.instanceMethod yX5_clearness ∈ wsL_law := inr_32 _ (List.mem_of_getElem? (i := 16) rfl)
theorem qw_32_17 : Cond.selects RX5 yX5_clearness yX5_clearness ∈ wsL_law := inr_32 _ (List.mem_of_getElem? (i := 17) rfl)
theorem qw_32_18 : Cond.code yX5_clearness cX5_clearness 2 (some .double) ∈ wsL_law := inr_32 _ (List.mem_of_getElem? (i := 18) rfl)
theorem qw_32_19 : Cond.constantDouble RX5 209 (13830554455654793216) ∈ wsL_law := inr_32 _ (List.mem_of_getElem? (i := 19) rfl)
theorem qw_32_20 : Cond.constantDouble RX5 211 (4629700416936869888) ∈ wsL_law := inr_32 _ (List.mem_of_getElem? (i := 20) rfl)
theorem qw_32_21 : Cond.methodLink RL 127 yX6_clearness ∈ wsL_law := inr_32 _ (List.mem_of_getElem? (i := 21) rfl)
theorem qw_32_22 : Cond.instanceMethod yX6_clearness ∈ wsL_law := inr_32 _ (List.mem_of_getElem? (i := 22) rfl)
theorem qw_32_23 : Cond.selects RX6 yX6_clearness yX6_clearness ∈ wsL_law := inr_32 _ (List.mem_of_getElem? (i := 23) rfl)
theorem inr_33 : ∀ w ∈ wsL_law_r33, w ∈ wsL_law := fun _ h => List.mem_append_left _ (List.mem_append_left _ (List.mem_append_left _ (List.mem_append_left _ (List.mem_append_left _ (List.mem_append_left _ (List.mem_append_left _ (List.mem_append_left _ (List.mem_append_right _ (List.mem_append_right _ (List.mem_append_right _ (List.mem_append_right _ (List.mem_append_right _ (List.mem_append_right _ (List.mem_append_right _ (List.mem_append_right _ (List.mem_append_right _ (List.mem_append_right _ (List.mem_append_right _ (List.mem_append_right _ (List.mem_append_right _ (List.mem_append_right _ (List.mem_append_right _ (List.mem_append_right _ (List.mem_append_right _ (List.mem_append_right _ (List.mem_append_right _ (List.mem_append_right _ (List.mem_append_right _ (List.mem_append_right _ (List.mem_append_right _ (List.mem_append_right _ (List.mem_append_right _ (List.mem_append_right _ (List.mem_append_right _ (List.mem_append_right _ (List.mem_append_right _ (List.mem_append_right _ (List.mem_append_right _ (List.mem_append_right _ (List.mem_append_left _ h))))))))))))))))))))))))))))))))))))))))
theorem qw_33_0 : Cond.code yX6_clearness cX6_clearness 2 (some .double) ∈ wsL_law := inr_33 _ (List.mem_of_getElem? (i := 0) rfl)
theorem qw_33_1 : Cond.constantDouble RX6 198 (4629700416936869888) ∈ wsL_law := inr_33 _ (List.mem_of_getElem? (i := 1) rfl)
theorem qw_33_2 : Cond.constantDouble RX6 200 (13830554455654793216) ∈ wsL_law := inr_33 _ (List.mem_of_getElem? (i := 2) rfl)
theorem qw_33_3 : Cond.methodLink RL 128 yX5_ifPainted ∈ wsL_law := inr_33 _ (List.mem_of_getElem? (i := 3) rfl)
theorem qw_33_4 : Cond.instanceMethod yX5_ifPainted ∈ wsL_law := inr_33 _ (List.mem_of_getElem? (i := 4) rfl)
theorem qw_33_5 : Cond.selects RX5 yX5_ifPainted yX5_ifPainted ∈ wsL_law := inr_33 _ (List.mem_of_getElem? (i := 5) rfl)
theorem qw_33_6 : Cond.code yX5_ifPainted cX5_ifPainted 5 (some .int) ∈ wsL_law := inr_33 _ (List.mem_of_getElem? (i := 6) rfl)
theorem qw_33_7 : Cond.methodLink RX5 213 yX1_watch ∈ wsL_law := inr_33 _ (List.mem_of_getElem? (i := 7) rfl)
theorem qw_33_8 : Cond.methodLink RX5 216 yX1_placesSeenAs ∈ wsL_law := inr_33 _ (List.mem_of_getElem? (i := 8) rfl)
theorem qw_33_9 : Cond.instanceMethod yX1_placesSeenAs ∈ wsL_law := inr_33 _ (List.mem_of_getElem? (i := 9) rfl)
theorem qw_33_10 : Cond.selects RX1 yX1_placesSeenAs yX1_placesSeenAs ∈ wsL_law := inr_33 _ (List.mem_of_getElem? (i := 10) rfl)
theorem qw_33_11 : Cond.code yX1_placesSeenAs cX1_placesSeenAs 4 (some .int) ∈ wsL_law := inr_33 _ (List.mem_of_getElem? (i := 11) rfl)
theorem qw_33_12 : Cond.methodLink RX5 220 yX1_farthestSeenOtherwise ∈ wsL_law := inr_33 _ (List.mem_of_getElem? (i := 12) rfl)
theorem qw_33_13 : Cond.instanceMethod yX1_farthestSeenOtherwise ∈ wsL_law := inr_33 _ (List.mem_of_getElem? (i := 13) rfl)
theorem qw_33_14 : Cond.selects RX1 yX1_farthestSeenOtherwise yX1_farthestSeenOtherwise ∈ wsL_law := inr_33 _ (List.mem_of_getElem? (i := 14) rfl)
theorem qw_33_15 : Cond.code yX1_farthestSeenOtherwise cX1_farthestSeenOtherwise 5 (some .int) ∈ wsL_law := inr_33 _ (List.mem_of_getElem? (i := 15) rfl)
theorem qw_33_16 : Cond.methodLink RX1 122 Lib.Math.abs.name ∈ wsL_law := inr_33 _ (List.mem_of_getElem? (i := 16) rfl)
theorem qw_33_17 : Cond.static Lib.Math.abs.name ∈ wsL_law := inr_33 _ (List.mem_of_getElem? (i := 17) rfl)
theorem qw_33_18 : Cond.code Lib.Math.abs.name Lib.Math.abs.code 1 (some .int) ∈ wsL_law := inr_33 _ (List.mem_of_getElem? (i := 18) rfl)
theorem qw_33_19 : Cond.methodLink RL 132 yX6_ifPainted ∈ wsL_law := inr_33 _ (List.mem_of_getElem? (i := 19) rfl)
theorem qw_33_20 : Cond.instanceMethod yX6_ifPainted ∈ wsL_law := inr_33 _ (List.mem_of_getElem? (i := 20) rfl)
theorem qw_33_21 : Cond.selects RX6 yX6_ifPainted yX6_ifPainted ∈ wsL_law := inr_33 _ (List.mem_of_getElem? (i := 21) rfl)
theorem qw_33_22 : Cond.code yX6_ifPainted cX6_ifPainted 10 (some .int) ∈ wsL_law := inr_33 _ (List.mem_of_getElem? (i := 22) rfl)
theorem qw_33_23 : Cond.methodLink RL 133 yX5_ifPrinted ∈ wsL_law := inr_33 _ (List.mem_of_getElem? (i := 23) rfl)
theorem inr_34 : ∀ w ∈ wsL_law_r34, w ∈ wsL_law := fun _ h => List.mem_append_left _ (List.mem_append_left _ (List.mem_append_left _ (List.mem_append_left _ (List.mem_append_left _ (List.mem_append_left _ (List.mem_append_left _ (List.mem_append_left _ (List.mem_append_right _ (List.mem_append_right _ (List.mem_append_right _ (List.mem_append_right _ (List.mem_append_right _ (List.mem_append_right _ (List.mem_append_right _ (List.mem_append_right _ (List.mem_append_right _ (List.mem_append_right _ (List.mem_append_right _ (List.mem_append_right _ (List.mem_append_right _ (List.mem_append_right _ (List.mem_append_right _ (List.mem_append_right _ (List.mem_append_right _ (List.mem_append_right _ (List.mem_append_right _ (List.mem_append_right _ (List.mem_append_right _ (List.mem_append_right _ (List.mem_append_right _ (List.mem_append_right _ (List.mem_append_right _ (List.mem_append_right _ (List.mem_append_right _ (List.mem_append_right _ (List.mem_append_right _ (List.mem_append_right _ (List.mem_append_right _ (List.mem_append_right _ (List.mem_append_right _ (List.mem_append_left _ h)))))))))))))))))))))))))))))))))))))))))
theorem qw_34_0 : Cond.instanceMethod yX5_ifPrinted ∈ wsL_law := inr_34 _ (List.mem_of_getElem? (i := 0) rfl)
theorem qw_34_1 : Cond.selects RX5 yX5_ifPrinted yX5_ifPrinted ∈ wsL_law := inr_34 _ (List.mem_of_getElem? (i := 1) rfl)
theorem qw_34_2 : Cond.code yX5_ifPrinted cX5_ifPrinted 3 (some .int) ∈ wsL_law := inr_34 _ (List.mem_of_getElem? (i := 2) rfl)
theorem qw_34_3 : Cond.methodLink RX5 224 yX5_rightIfPrinted ∈ wsL_law := inr_34 _ (List.mem_of_getElem? (i := 3) rfl)
theorem qw_34_4 : Cond.instanceMethod yX5_rightIfPrinted ∈ wsL_law := inr_34 _ (List.mem_of_getElem? (i := 4) rfl)
theorem qw_34_5 : Cond.selects RX5 yX5_rightIfPrinted yX5_rightIfPrinted ∈ wsL_law := inr_34 _ (List.mem_of_getElem? (i := 5) rfl)
theorem qw_34_6 : Cond.code yX5_rightIfPrinted cX5_rightIfPrinted 3 (some .int) ∈ wsL_law := inr_34 _ (List.mem_of_getElem? (i := 6) rfl)
theorem qw_34_7 : Cond.fieldLink RX5 247 "StripDepths$Look" "period" "I" ∈ wsL_law := inr_34 _ (List.mem_of_getElem? (i := 7) rfl)
theorem qw_34_8 : Cond.methodLink RL 136 yX6_ifPrinted ∈ wsL_law := inr_34 _ (List.mem_of_getElem? (i := 8) rfl)
theorem qw_34_9 : Cond.instanceMethod yX6_ifPrinted ∈ wsL_law := inr_34 _ (List.mem_of_getElem? (i := 9) rfl)
theorem qw_34_10 : Cond.selects RX6 yX6_ifPrinted yX6_ifPrinted ∈ wsL_law := inr_34 _ (List.mem_of_getElem? (i := 10) rfl)
theorem qw_34_11 : Cond.code yX6_ifPrinted cX6_ifPrinted 3 (some .int) ∈ wsL_law := inr_34 _ (List.mem_of_getElem? (i := 11) rfl)
theorem qw_34_12 : Cond.methodLink RX6 205 yX6_rightBy ∈ wsL_law := inr_34 _ (List.mem_of_getElem? (i := 12) rfl)
theorem qw_34_13 : Cond.instanceMethod yX6_rightBy ∈ wsL_law := inr_34 _ (List.mem_of_getElem? (i := 13) rfl)
theorem qw_34_14 : Cond.selects RX6 yX6_rightBy yX6_rightBy ∈ wsL_law := inr_34 _ (List.mem_of_getElem? (i := 14) rfl)
theorem qw_34_15 : Cond.code yX6_rightBy cX6_rightBy 4 (some .int) ∈ wsL_law := inr_34 _ (List.mem_of_getElem? (i := 15) rfl)
theorem qw_34_16 : Cond.methodLink RX6 202 yX6_putBack ∈ wsL_law := inr_34 _ (List.mem_of_getElem? (i := 16) rfl)
theorem qw_34_17 : Cond.instanceMethod yX6_putBack ∈ wsL_law := inr_34 _ (List.mem_of_getElem? (i := 17) rfl)
theorem qw_34_18 : Cond.selects RX6 yX6_putBack yX6_putBack ∈ wsL_law := inr_34 _ (List.mem_of_getElem? (i := 18) rfl)
theorem qw_34_19 : Cond.code yX6_putBack cX6_putBack 2 none ∈ wsL_law := inr_34 _ (List.mem_of_getElem? (i := 19) rfl)
theorem qw_34_20 : Cond.methodLink RL 137 yX5_shortest ∈ wsL_law := inr_34 _ (List.mem_of_getElem? (i := 20) rfl)
theorem qw_34_21 : Cond.instanceMethod yX5_shortest ∈ wsL_law := inr_34 _ (List.mem_of_getElem? (i := 21) rfl)
theorem qw_34_22 : Cond.selects RX5 yX5_shortest yX5_shortest ∈ wsL_law := inr_34 _ (List.mem_of_getElem? (i := 22) rfl)
theorem qw_34_23 : Cond.code yX5_shortest cX5_shortest 6 (some .int) ∈ wsL_law := inr_34 _ (List.mem_of_getElem? (i := 23) rfl)
theorem inr_35 : ∀ w ∈ wsL_law_r35, w ∈ wsL_law := fun _ h => List.mem_append_left _ (List.mem_append_left _ (List.mem_append_left _ (List.mem_append_left _ (List.mem_append_left _ (List.mem_append_left _ (List.mem_append_left _ (List.mem_append_left _ (List.mem_append_right _ (List.mem_append_right _ (List.mem_append_right _ (List.mem_append_right _ (List.mem_append_right _ (List.mem_append_right _ (List.mem_append_right _ (List.mem_append_right _ (List.mem_append_right _ (List.mem_append_right _ (List.mem_append_right _ (List.mem_append_right _ (List.mem_append_right _ (List.mem_append_right _ (List.mem_append_right _ (List.mem_append_right _ (List.mem_append_right _ (List.mem_append_right _ (List.mem_append_right _ (List.mem_append_right _ (List.mem_append_right _ (List.mem_append_right _ (List.mem_append_right _ (List.mem_append_right _ (List.mem_append_right _ (List.mem_append_right _ (List.mem_append_right _ (List.mem_append_right _ (List.mem_append_right _ (List.mem_append_right _ (List.mem_append_right _ (List.mem_append_right _ (List.mem_append_right _ (List.mem_append_right _ (List.mem_append_left _ h))))))))))))))))))))))))))))))))))))))))))
theorem qw_35_0 : Cond.methodLink RL 140 yX6_shortest ∈ wsL_law := inr_35 _ (List.mem_of_getElem? (i := 0) rfl)
theorem qw_35_1 : Cond.instanceMethod yX6_shortest ∈ wsL_law := inr_35 _ (List.mem_of_getElem? (i := 1) rfl)
theorem qw_35_2 : Cond.selects RX6 yX6_shortest yX6_shortest ∈ wsL_law := inr_35 _ (List.mem_of_getElem? (i := 2) rfl)
theorem qw_35_3 : Cond.code yX6_shortest cX6_shortest 4 (some .int) ∈ wsL_law := inr_35 _ (List.mem_of_getElem? (i := 3) rfl)
theorem qw_35_4 : Cond.methodLink RL 141 yX5_bestWindow ∈ wsL_law := inr_35 _ (List.mem_of_getElem? (i := 4) rfl)
theorem qw_35_5 : Cond.instanceMethod yX5_bestWindow ∈ wsL_law := inr_35 _ (List.mem_of_getElem? (i := 5) rfl)
theorem qw_35_6 : Cond.selects RX5 yX5_bestWindow yX5_bestWindow ∈ wsL_law := inr_35 _ (List.mem_of_getElem? (i := 6) rfl)
theorem qw_35_7 : Cond.code yX5_bestWindow cX5_bestWindow 6 (some .int) ∈ wsL_law := inr_35 _ (List.mem_of_getElem? (i := 7) rfl)
theorem qw_35_8 : Cond.fieldLink RX5 227 "StripDepths$Look" "window" "I" ∈ wsL_law := inr_35 _ (List.mem_of_getElem? (i := 8) rfl)
theorem qw_35_9 : Cond.methodLink RL 144 yX6_bestWindow ∈ wsL_law := inr_35 _ (List.mem_of_getElem? (i := 9) rfl)
theorem qw_35_10 : Cond.instanceMethod yX6_bestWindow ∈ wsL_law := inr_35 _ (List.mem_of_getElem? (i := 10) rfl)
theorem qw_35_11 : Cond.selects RX6 yX6_bestWindow yX6_bestWindow ∈ wsL_law := inr_35 _ (List.mem_of_getElem? (i := 11) rfl)
theorem qw_35_12 : Cond.code yX6_bestWindow cX6_bestWindow 4 (some .int) ∈ wsL_law := inr_35 _ (List.mem_of_getElem? (i := 12) rfl)
theorem qw_35_13 : Cond.methodLink RX6 208 yX6_rightThrough ∈ wsL_law := inr_35 _ (List.mem_of_getElem? (i := 13) rfl)
theorem qw_35_14 : Cond.instanceMethod yX6_rightThrough ∈ wsL_law := inr_35 _ (List.mem_of_getElem? (i := 14) rfl)
theorem qw_35_15 : Cond.selects RX6 yX6_rightThrough yX6_rightThrough ∈ wsL_law := inr_35 _ (List.mem_of_getElem? (i := 15) rfl)
theorem qw_35_16 : Cond.code yX6_rightThrough cX6_rightThrough 5 (some .int) ∈ wsL_law := inr_35 _ (List.mem_of_getElem? (i := 16) rfl)
theorem qw_35_17 : Cond.methodLink RL 145 yX5_alike ∈ wsL_law := inr_35 _ (List.mem_of_getElem? (i := 17) rfl)
theorem qw_35_18 : Cond.instanceMethod yX5_alike ∈ wsL_law := inr_35 _ (List.mem_of_getElem? (i := 18) rfl)
theorem qw_35_19 : Cond.selects RX5 yX5_alike yX5_alike ∈ wsL_law := inr_35 _ (List.mem_of_getElem? (i := 19) rfl)
theorem qw_35_20 : Cond.code yX5_alike cX5_alike 3 (some .int) ∈ wsL_law := inr_35 _ (List.mem_of_getElem? (i := 20) rfl)
theorem qw_35_21 : Cond.methodLink RL 148 yX6_alike ∈ wsL_law := inr_35 _ (List.mem_of_getElem? (i := 21) rfl)
theorem qw_35_22 : Cond.instanceMethod yX6_alike ∈ wsL_law := inr_35 _ (List.mem_of_getElem? (i := 22) rfl)
theorem qw_35_23 : Cond.selects RX6 yX6_alike yX6_alike ∈ wsL_law := inr_35 _ (List.mem_of_getElem? (i := 23) rfl)
theorem inr_36 : ∀ w ∈ wsL_law_r36, w ∈ wsL_law := fun _ h => List.mem_append_left _ (List.mem_append_left _ (List.mem_append_left _ (List.mem_append_left _ (List.mem_append_left _ (List.mem_append_left _ (List.mem_append_left _ (List.mem_append_left _ (List.mem_append_right _ (List.mem_append_right _ (List.mem_append_right _ (List.mem_append_right _ (List.mem_append_right _ (List.mem_append_right _ (List.mem_append_right _ (List.mem_append_right _ (List.mem_append_right _ (List.mem_append_right _ (List.mem_append_right _ (List.mem_append_right _ (List.mem_append_right _ (List.mem_append_right _ (List.mem_append_right _ (List.mem_append_right _ (List.mem_append_right _ (List.mem_append_right _ (List.mem_append_right _ (List.mem_append_right _ (List.mem_append_right _ (List.mem_append_right _ (List.mem_append_right _ (List.mem_append_right _ (List.mem_append_right _ (List.mem_append_right _ (List.mem_append_right _ (List.mem_append_right _ (List.mem_append_right _ (List.mem_append_right _ (List.mem_append_right _ (List.mem_append_right _ (List.mem_append_right _ (List.mem_append_right _ (List.mem_append_right _ (List.mem_append_left _ h)))))))))))))))))))))))))))))))))))))))))))
theorem qw_36_0 : Cond.code yX6_alike cX6_alike 3 (some .int) ∈ wsL_law := inr_36 _ (List.mem_of_getElem? (i := 0) rfl)
theorem qw_36_1 : Cond.methodLink RL 149 yX5_undo ∈ wsL_law := inr_36 _ (List.mem_of_getElem? (i := 1) rfl)
theorem qw_36_2 : Cond.instanceMethod yX5_undo ∈ wsL_law := inr_36 _ (List.mem_of_getElem? (i := 2) rfl)
theorem qw_36_3 : Cond.selects RX5 yX5_undo yX5_undo ∈ wsL_law := inr_36 _ (List.mem_of_getElem? (i := 3) rfl)
theorem qw_36_4 : Cond.code yX5_undo cX5_undo 1 (some .int) ∈ wsL_law := inr_36 _ (List.mem_of_getElem? (i := 4) rfl)
theorem qw_36_5 : Cond.methodLink RX5 230 yX0_takeBack ∈ wsL_law := inr_36 _ (List.mem_of_getElem? (i := 5) rfl)
theorem qw_36_6 : Cond.instanceMethod yX0_takeBack ∈ wsL_law := inr_36 _ (List.mem_of_getElem? (i := 6) rfl)
theorem qw_36_7 : Cond.selects RX0 yX0_takeBack yX0_takeBack ∈ wsL_law := inr_36 _ (List.mem_of_getElem? (i := 7) rfl)
theorem qw_36_8 : Cond.code yX0_takeBack cX0_takeBack 2 (some .boolean) ∈ wsL_law := inr_36 _ (List.mem_of_getElem? (i := 8) rfl)
theorem qw_36_9 : Cond.methodLink RL 152 yX6_undo ∈ wsL_law := inr_36 _ (List.mem_of_getElem? (i := 9) rfl)
theorem qw_36_10 : Cond.instanceMethod yX6_undo ∈ wsL_law := inr_36 _ (List.mem_of_getElem? (i := 10) rfl)
theorem qw_36_11 : Cond.selects RX6 yX6_undo yX6_undo ∈ wsL_law := inr_36 _ (List.mem_of_getElem? (i := 11) rfl)
theorem qw_36_12 : Cond.code yX6_undo cX6_undo 2 (some .int) ∈ wsL_law := inr_36 _ (List.mem_of_getElem? (i := 12) rfl)
theorem qw_36_13 : Cond.methodLink RL 153 yX5_save ∈ wsL_law := inr_36 _ (List.mem_of_getElem? (i := 13) rfl)
theorem qw_36_14 : Cond.instanceMethod yX5_save ∈ wsL_law := inr_36 _ (List.mem_of_getElem? (i := 14) rfl)
theorem qw_36_15 : Cond.selects RX5 yX5_save yX5_save ∈ wsL_law := inr_36 _ (List.mem_of_getElem? (i := 15) rfl)
theorem qw_36_16 : Cond.code yX5_save cX5_save 1 (some .int) ∈ wsL_law := inr_36 _ (List.mem_of_getElem? (i := 16) rfl)
theorem qw_36_17 : Cond.fieldLink RX5 237 "StripDepths" "hasSnapshot" "Z" ∈ wsL_law := inr_36 _ (List.mem_of_getElem? (i := 17) rfl)
theorem qw_36_18 : Cond.methodLink RX5 234 yX4_copyFrom ∈ wsL_law := inr_36 _ (List.mem_of_getElem? (i := 18) rfl)
theorem qw_36_19 : Cond.methodLink RL 156 yX6_save ∈ wsL_law := inr_36 _ (List.mem_of_getElem? (i := 19) rfl)
theorem qw_36_20 : Cond.instanceMethod yX6_save ∈ wsL_law := inr_36 _ (List.mem_of_getElem? (i := 20) rfl)
theorem qw_36_21 : Cond.selects RX6 yX6_save yX6_save ∈ wsL_law := inr_36 _ (List.mem_of_getElem? (i := 21) rfl)
theorem qw_36_22 : Cond.code yX6_save cX6_save 2 (some .int) ∈ wsL_law := inr_36 _ (List.mem_of_getElem? (i := 22) rfl)
theorem qw_36_23 : Cond.fieldLink RX6 211 "StripDepthsModel" "isKept" "Z" ∈ wsL_law := inr_36 _ (List.mem_of_getElem? (i := 23) rfl)
theorem inr_37 : ∀ w ∈ wsL_law_r37, w ∈ wsL_law := fun _ h => List.mem_append_left _ (List.mem_append_left _ (List.mem_append_left _ (List.mem_append_left _ (List.mem_append_left _ (List.mem_append_left _ (List.mem_append_left _ (List.mem_append_left _ (List.mem_append_right _ (List.mem_append_right _ (List.mem_append_right _ (List.mem_append_right _ (List.mem_append_right _ (List.mem_append_right _ (List.mem_append_right _ (List.mem_append_right _ (List.mem_append_right _ (List.mem_append_right _ (List.mem_append_right _ (List.mem_append_right _ (List.mem_append_right _ (List.mem_append_right _ (List.mem_append_right _ (List.mem_append_right _ (List.mem_append_right _ (List.mem_append_right _ (List.mem_append_right _ (List.mem_append_right _ (List.mem_append_right _ (List.mem_append_right _ (List.mem_append_right _ (List.mem_append_right _ (List.mem_append_right _ (List.mem_append_right _ (List.mem_append_right _ (List.mem_append_right _ (List.mem_append_right _ (List.mem_append_right _ (List.mem_append_right _ (List.mem_append_right _ (List.mem_append_right _ (List.mem_append_right _ (List.mem_append_right _ (List.mem_append_right _ (h))))))))))))))))))))))))))))))))))))))))))))
theorem qw_37_0 : Cond.methodLink RX6 214 yX6_allRight ∈ wsL_law := inr_37 _ (List.mem_of_getElem? (i := 0) rfl)
theorem qw_37_1 : Cond.instanceMethod yX6_allRight ∈ wsL_law := inr_37 _ (List.mem_of_getElem? (i := 1) rfl)
theorem qw_37_2 : Cond.selects RX6 yX6_allRight yX6_allRight ∈ wsL_law := inr_37 _ (List.mem_of_getElem? (i := 2) rfl)
theorem qw_37_3 : Cond.code yX6_allRight cX6_allRight 3 (some .int) ∈ wsL_law := inr_37 _ (List.mem_of_getElem? (i := 3) rfl)
theorem qw_37_4 : Cond.methodLink RL 157 yX5_restore ∈ wsL_law := inr_37 _ (List.mem_of_getElem? (i := 4) rfl)
theorem qw_37_5 : Cond.instanceMethod yX5_restore ∈ wsL_law := inr_37 _ (List.mem_of_getElem? (i := 5) rfl)
theorem qw_37_6 : Cond.selects RX5 yX5_restore yX5_restore ∈ wsL_law := inr_37 _ (List.mem_of_getElem? (i := 6) rfl)
theorem qw_37_7 : Cond.code yX5_restore cX5_restore 1 (some .int) ∈ wsL_law := inr_37 _ (List.mem_of_getElem? (i := 7) rfl)
theorem qw_37_8 : Cond.methodLink RL 160 yX6_restore ∈ wsL_law := inr_37 _ (List.mem_of_getElem? (i := 8) rfl)
theorem qw_37_9 : Cond.instanceMethod yX6_restore ∈ wsL_law := inr_37 _ (List.mem_of_getElem? (i := 9) rfl)
theorem qw_37_10 : Cond.selects RX6 yX6_restore yX6_restore ∈ wsL_law := inr_37 _ (List.mem_of_getElem? (i := 10) rfl)
theorem qw_37_11 : Cond.code yX6_restore cX6_restore 2 (some .int) ∈ wsL_law := inr_37 _ (List.mem_of_getElem? (i := 11) rfl)
theorem wsL_good : wsL_law.all goodWord = true := by decide +kernel
end
section
/-! the instructions, decoded -/
theorem dX0_init_0 : decode cX0_init 0 = .ok (.aload_n 0, 1) := by decide +kernel
theorem dX0_init_1 : decode cX0_init 1 = .ok (.invokespecial 3, 3) := by decide +kernel
theorem dX0_init_4 : decode cX0_init 4 = .ok (.aload_n 0, 1) := by decide +kernel
theorem dX0_init_5 : decode cX0_init 5 = .ok (.iconst 4, 1) := by decide +kernel
theorem dX0_init_6 : decode cX0_init 6 = .ok (.anewarray 9, 3) := by decide +kernel
theorem dX0_init_9 : decode cX0_init 9 = .ok (.putfield 11, 3) := by decide +kernel
theorem dX0_init_12 : decode cX0_init 12 = .ok (.iconst 0, 1) := by decide +kernel
theorem dX0_init_13 : decode cX0_init 13 = .ok (.istore_n 1, 1) := by decide +kernel
theorem dX0_init_14 : decode cX0_init 14 = .ok (.iload_n 1, 1) := by decide +kernel
theorem dX0_init_15 : decode cX0_init 15 = .ok (.iconst 4, 1) := by decide +kernel
theorem dX0_init_16 : decode cX0_init 16 = .ok (.if_icmp .ge 22, 3) := by decide +kernel
theorem dX0_init_19 : decode cX0_init 19 = .ok (.aload_n 0, 1) := by decide +kernel
theorem dX0_init_20 : decode cX0_init 20 = .ok (.getfield 11, 3) := by decide +kernel
theorem dX0_init_23 : decode cX0_init 23 = .ok (.iload_n 1, 1) := by decide +kernel
theorem dX0_init_24 : decode cX0_init 24 = .ok (.new 9, 3) := by decide +kernel
theorem dX0_init_27 : decode cX0_init 27 = .ok (.dup, 1) := by decide +kernel
theorem dX0_init_28 : decode cX0_init 28 = .ok (.invokespecial 17, 3) := by decide +kernel
theorem dX0_init_31 : decode cX0_init 31 = .ok (.aastore, 1) := by decide +kernel
theorem dX0_init_32 : decode cX0_init 32 = .ok (.iinc 1 1, 3) := by decide +kernel
theorem dX0_init_35 : decode cX0_init 35 = .ok (.goto (-21), 3) := by decide +kernel
theorem dX0_init_38 : decode cX0_init 38 = .ok (.return_, 1) := by decide +kernel
theorem dX0_record_0 : decode cX0_record 0 = .ok (.aload_n 0, 1) := by decide +kernel
theorem dX0_record_1 : decode cX0_record 1 = .ok (.getfield 18, 3) := by decide +kernel
theorem dX0_record_4 : decode cX0_record 4 = .ok (.iconst 4, 1) := by decide +kernel
theorem dX0_record_5 : decode cX0_record 5 = .ok (.if_icmp .lt 7, 3) := by decide +kernel
theorem dX0_record_8 : decode cX0_record 8 = .ok (.aload_n 0, 1) := by decide +kernel
theorem dX0_record_9 : decode cX0_record 9 = .ok (.invokevirtual 22, 3) := by decide +kernel
theorem dX0_record_12 : decode cX0_record 12 = .ok (.aload_n 0, 1) := by decide +kernel
theorem dX0_record_13 : decode cX0_record 13 = .ok (.getfield 11, 3) := by decide +kernel
theorem dX0_record_16 : decode cX0_record 16 = .ok (.aload_n 0, 1) := by decide +kernel
theorem dX0_record_17 : decode cX0_record 17 = .ok (.getfield 18, 3) := by decide +kernel
theorem dX0_record_20 : decode cX0_record 20 = .ok (.aaload, 1) := by decide +kernel
theorem dX0_record_21 : decode cX0_record 21 = .ok (.astore_n 2, 1) := by decide +kernel
theorem dX0_record_22 : decode cX0_record 22 = .ok (.aload_n 2, 1) := by decide +kernel
theorem dX0_record_23 : decode cX0_record 23 = .ok (.aload_n 1, 1) := by decide +kernel
theorem dX0_record_24 : decode cX0_record 24 = .ok (.invokevirtual 25, 3) := by decide +kernel
theorem dX0_record_27 : decode cX0_record 27 = .ok (.aload_n 0, 1) := by decide +kernel
theorem dX0_record_28 : decode cX0_record 28 = .ok (.dup, 1) := by decide +kernel
theorem dX0_record_29 : decode cX0_record 29 = .ok (.getfield 18, 3) := by decide +kernel
theorem dX0_record_32 : decode cX0_record 32 = .ok (.iconst 1, 1) := by decide +kernel
theorem dX0_record_33 : decode cX0_record 33 = .ok (.iadd, 1) := by decide +kernel
theorem dX0_record_34 : decode cX0_record 34 = .ok (.putfield 18, 3) := by decide +kernel
theorem dX0_record_37 : decode cX0_record 37 = .ok (.aload_n 2, 1) := by decide +kernel
theorem dX0_record_38 : decode cX0_record 38 = .ok (.areturn, 1) := by decide +kernel
theorem dX0_dropOldest_0 : decode cX0_dropOldest 0 = .ok (.aload_n 0, 1) := by decide +kernel
theorem dX0_dropOldest_1 : decode cX0_dropOldest 1 = .ok (.getfield 11, 3) := by decide +kernel
theorem dX0_dropOldest_4 : decode cX0_dropOldest 4 = .ok (.iconst 0, 1) := by decide +kernel
theorem dX0_dropOldest_5 : decode cX0_dropOldest 5 = .ok (.aaload, 1) := by decide +kernel
theorem dX0_dropOldest_6 : decode cX0_dropOldest 6 = .ok (.astore_n 1, 1) := by decide +kernel
theorem dX0_dropOldest_7 : decode cX0_dropOldest 7 = .ok (.iconst 1, 1) := by decide +kernel
theorem dX0_dropOldest_8 : decode cX0_dropOldest 8 = .ok (.istore_n 2, 1) := by decide +kernel
theorem dX0_dropOldest_9 : decode cX0_dropOldest 9 = .ok (.iload_n 2, 1) := by decide +kernel
theorem dX0_dropOldest_10 : decode cX0_dropOldest 10 = .ok (.iconst 4, 1) := by decide +kernel
theorem dX0_dropOldest_11 : decode cX0_dropOldest 11 = .ok (.if_icmp .ge 23, 3) := by decide +kernel
theorem dX0_dropOldest_14 : decode cX0_dropOldest 14 = .ok (.aload_n 0, 1) := by decide +kernel
theorem dX0_dropOldest_15 : decode cX0_dropOldest 15 = .ok (.getfield 11, 3) := by decide +kernel
theorem dX0_dropOldest_18 : decode cX0_dropOldest 18 = .ok (.iload_n 2, 1) := by decide +kernel
theorem dX0_dropOldest_19 : decode cX0_dropOldest 19 = .ok (.iconst 1, 1) := by decide +kernel
theorem dX0_dropOldest_20 : decode cX0_dropOldest 20 = .ok (.isub, 1) := by decide +kernel
theorem dX0_dropOldest_21 : decode cX0_dropOldest 21 = .ok (.aload_n 0, 1) := by decide +kernel
theorem dX0_dropOldest_22 : decode cX0_dropOldest 22 = .ok (.getfield 11, 3) := by decide +kernel
theorem dX0_dropOldest_25 : decode cX0_dropOldest 25 = .ok (.iload_n 2, 1) := by decide +kernel
theorem dX0_dropOldest_26 : decode cX0_dropOldest 26 = .ok (.aaload, 1) := by decide +kernel
theorem dX0_dropOldest_27 : decode cX0_dropOldest 27 = .ok (.aastore, 1) := by decide +kernel
theorem dX0_dropOldest_28 : decode cX0_dropOldest 28 = .ok (.iinc 2 1, 3) := by decide +kernel
theorem dX0_dropOldest_31 : decode cX0_dropOldest 31 = .ok (.goto (-22), 3) := by decide +kernel
theorem dX0_dropOldest_34 : decode cX0_dropOldest 34 = .ok (.aload_n 0, 1) := by decide +kernel
theorem dX0_dropOldest_35 : decode cX0_dropOldest 35 = .ok (.getfield 11, 3) := by decide +kernel
theorem dX0_dropOldest_38 : decode cX0_dropOldest 38 = .ok (.iconst 3, 1) := by decide +kernel
theorem dX0_dropOldest_39 : decode cX0_dropOldest 39 = .ok (.aload_n 1, 1) := by decide +kernel
theorem dX0_dropOldest_40 : decode cX0_dropOldest 40 = .ok (.aastore, 1) := by decide +kernel
theorem dX0_dropOldest_41 : decode cX0_dropOldest 41 = .ok (.aload_n 0, 1) := by decide +kernel
theorem dX0_dropOldest_42 : decode cX0_dropOldest 42 = .ok (.iconst 3, 1) := by decide +kernel
theorem dX0_dropOldest_43 : decode cX0_dropOldest 43 = .ok (.putfield 18, 3) := by decide +kernel
theorem dX0_dropOldest_46 : decode cX0_dropOldest 46 = .ok (.return_, 1) := by decide +kernel
theorem dX0_takeBack_0 : decode cX0_takeBack 0 = .ok (.aload_n 0, 1) := by decide +kernel
theorem dX0_takeBack_1 : decode cX0_takeBack 1 = .ok (.getfield 18, 3) := by decide +kernel
theorem dX0_takeBack_4 : decode cX0_takeBack 4 = .ok (.ifCond .gt 5, 3) := by decide +kernel
theorem dX0_takeBack_7 : decode cX0_takeBack 7 = .ok (.iconst 0, 1) := by decide +kernel
theorem dX0_takeBack_8 : decode cX0_takeBack 8 = .ok (.ireturn, 1) := by decide +kernel
theorem dX0_takeBack_9 : decode cX0_takeBack 9 = .ok (.aload_n 0, 1) := by decide +kernel
theorem dX0_takeBack_10 : decode cX0_takeBack 10 = .ok (.dup, 1) := by decide +kernel
theorem dX0_takeBack_11 : decode cX0_takeBack 11 = .ok (.getfield 18, 3) := by decide +kernel
theorem dX0_takeBack_14 : decode cX0_takeBack 14 = .ok (.iconst 1, 1) := by decide +kernel
theorem dX0_takeBack_15 : decode cX0_takeBack 15 = .ok (.isub, 1) := by decide +kernel
theorem dX0_takeBack_16 : decode cX0_takeBack 16 = .ok (.putfield 18, 3) := by decide +kernel
theorem dX0_takeBack_19 : decode cX0_takeBack 19 = .ok (.aload_n 1, 1) := by decide +kernel
theorem dX0_takeBack_20 : decode cX0_takeBack 20 = .ok (.aload_n 0, 1) := by decide +kernel
theorem dX0_takeBack_21 : decode cX0_takeBack 21 = .ok (.getfield 11, 3) := by decide +kernel
theorem dX0_takeBack_24 : decode cX0_takeBack 24 = .ok (.aload_n 0, 1) := by decide +kernel
theorem dX0_takeBack_25 : decode cX0_takeBack 25 = .ok (.getfield 18, 3) := by decide +kernel
theorem dX0_takeBack_28 : decode cX0_takeBack 28 = .ok (.aaload, 1) := by decide +kernel
theorem dX0_takeBack_29 : decode cX0_takeBack 29 = .ok (.invokevirtual 25, 3) := by decide +kernel
theorem dX0_takeBack_32 : decode cX0_takeBack 32 = .ok (.iconst 1, 1) := by decide +kernel
theorem dX0_takeBack_33 : decode cX0_takeBack 33 = .ok (.ireturn, 1) := by decide +kernel
theorem dX1_init_0 : decode cX1_init 0 = .ok (.aload_n 0, 1) := by decide +kernel
theorem dX1_init_1 : decode cX1_init 1 = .ok (.invokespecial 3, 3) := by decide +kernel
theorem dX1_init_4 : decode cX1_init 4 = .ok (.aload_n 0, 1) := by decide +kernel
theorem dX1_init_5 : decode cX1_init 5 = .ok (.bipush 32, 2) := by decide +kernel
theorem dX1_init_7 : decode cX1_init 7 = .ok (.newarray .int, 2) := by decide +kernel
theorem dX1_init_9 : decode cX1_init 9 = .ok (.putfield 9, 3) := by decide +kernel
theorem dX1_init_12 : decode cX1_init 12 = .ok (.aload_n 0, 1) := by decide +kernel
theorem dX1_init_13 : decode cX1_init 13 = .ok (.bipush 32, 2) := by decide +kernel
theorem dX1_init_15 : decode cX1_init 15 = .ok (.newarray .int, 2) := by decide +kernel
theorem dX1_init_17 : decode cX1_init 17 = .ok (.putfield 15, 3) := by decide +kernel
theorem dX1_init_20 : decode cX1_init 20 = .ok (.aload_n 0, 1) := by decide +kernel
theorem dX1_init_21 : decode cX1_init 21 = .ok (.bipush 32, 2) := by decide +kernel
theorem dX1_init_23 : decode cX1_init 23 = .ok (.newarray .int, 2) := by decide +kernel
theorem dX1_init_25 : decode cX1_init 25 = .ok (.putfield 18, 3) := by decide +kernel
theorem dX1_init_28 : decode cX1_init 28 = .ok (.aload_n 0, 1) := by decide +kernel
theorem dX1_init_29 : decode cX1_init 29 = .ok (.bipush 32, 2) := by decide +kernel
theorem dX1_init_31 : decode cX1_init 31 = .ok (.newarray .int, 2) := by decide +kernel
theorem dX1_init_33 : decode cX1_init 33 = .ok (.putfield 21, 3) := by decide +kernel
theorem dX1_init_36 : decode cX1_init 36 = .ok (.aload_n 0, 1) := by decide +kernel
theorem dX1_init_37 : decode cX1_init 37 = .ok (.bipush 32, 2) := by decide +kernel
theorem dX1_init_39 : decode cX1_init 39 = .ok (.newarray .int, 2) := by decide +kernel
theorem dX1_init_41 : decode cX1_init 41 = .ok (.putfield 24, 3) := by decide +kernel
theorem dX1_init_44 : decode cX1_init 44 = .ok (.aload_n 0, 1) := by decide +kernel
theorem dX1_init_45 : decode cX1_init 45 = .ok (.bipush 32, 2) := by decide +kernel
theorem dX1_init_47 : decode cX1_init 47 = .ok (.newarray .int, 2) := by decide +kernel
theorem dX1_init_49 : decode cX1_init 49 = .ok (.putfield 27, 3) := by decide +kernel
theorem dX1_init_52 : decode cX1_init 52 = .ok (.return_, 1) := by decide +kernel
theorem dX1_takeRow_0 : decode cX1_takeRow 0 = .ok (.iload_n 2, 1) := by decide +kernel
theorem dX1_takeRow_1 : decode cX1_takeRow 1 = .ok (.iconst 0, 1) := by decide +kernel
theorem dX1_takeRow_2 : decode cX1_takeRow 2 = .ok (.invokestatic 30, 3) := by decide +kernel
theorem dX1_takeRow_5 : decode cX1_takeRow 5 = .ok (.istore_n 3, 1) := by decide +kernel
theorem dX1_takeRow_6 : decode cX1_takeRow 6 = .ok (.aload_n 1, 1) := by decide +kernel
theorem dX1_takeRow_7 : decode cX1_takeRow 7 = .ok (.getfield 34, 3) := by decide +kernel
theorem dX1_takeRow_10 : decode cX1_takeRow 10 = .ok (.iload_n 3, 1) := by decide +kernel
theorem dX1_takeRow_11 : decode cX1_takeRow 11 = .ok (.aload_n 0, 1) := by decide +kernel
theorem dX1_takeRow_12 : decode cX1_takeRow 12 = .ok (.getfield 9, 3) := by decide +kernel
theorem dX1_takeRow_15 : decode cX1_takeRow 15 = .ok (.iconst 0, 1) := by decide +kernel
theorem dX1_takeRow_16 : decode cX1_takeRow 16 = .ok (.bipush 32, 2) := by decide +kernel
theorem dX1_takeRow_18 : decode cX1_takeRow 18 = .ok (.invokestatic 37, 3) := by decide +kernel
theorem dX1_takeRow_21 : decode cX1_takeRow 21 = .ok (.aload_n 1, 1) := by decide +kernel
theorem dX1_takeRow_22 : decode cX1_takeRow 22 = .ok (.getfield 43, 3) := by decide +kernel
theorem dX1_takeRow_25 : decode cX1_takeRow 25 = .ok (.iload_n 3, 1) := by decide +kernel
theorem dX1_takeRow_26 : decode cX1_takeRow 26 = .ok (.aload_n 0, 1) := by decide +kernel
theorem dX1_takeRow_27 : decode cX1_takeRow 27 = .ok (.getfield 15, 3) := by decide +kernel
theorem dX1_takeRow_30 : decode cX1_takeRow 30 = .ok (.iconst 0, 1) := by decide +kernel
theorem dX1_takeRow_31 : decode cX1_takeRow 31 = .ok (.bipush 32, 2) := by decide +kernel
theorem dX1_takeRow_33 : decode cX1_takeRow 33 = .ok (.invokestatic 37, 3) := by decide +kernel
theorem dX1_takeRow_36 : decode cX1_takeRow 36 = .ok (.aload_n 1, 1) := by decide +kernel
theorem dX1_takeRow_37 : decode cX1_takeRow 37 = .ok (.getfield 44, 3) := by decide +kernel
theorem dX1_takeRow_40 : decode cX1_takeRow 40 = .ok (.iload_n 3, 1) := by decide +kernel
theorem dX1_takeRow_41 : decode cX1_takeRow 41 = .ok (.aload_n 0, 1) := by decide +kernel
theorem dX1_takeRow_42 : decode cX1_takeRow 42 = .ok (.getfield 18, 3) := by decide +kernel
theorem dX1_takeRow_45 : decode cX1_takeRow 45 = .ok (.iconst 0, 1) := by decide +kernel
theorem dX1_takeRow_46 : decode cX1_takeRow 46 = .ok (.bipush 32, 2) := by decide +kernel
theorem dX1_takeRow_48 : decode cX1_takeRow 48 = .ok (.invokestatic 37, 3) := by decide +kernel
theorem dX1_takeRow_51 : decode cX1_takeRow 51 = .ok (.aload_n 0, 1) := by decide +kernel
theorem dX1_takeRow_52 : decode cX1_takeRow 52 = .ok (.aload_n 1, 1) := by decide +kernel
theorem dX1_takeRow_53 : decode cX1_takeRow 53 = .ok (.getfield 45, 3) := by decide +kernel
theorem dX1_takeRow_56 : decode cX1_takeRow 56 = .ok (.iconst 0, 1) := by decide +kernel
theorem dX1_takeRow_57 : decode cX1_takeRow 57 = .ok (.iaload, 1) := by decide +kernel
theorem dX1_takeRow_58 : decode cX1_takeRow 58 = .ok (.putfield 48, 3) := by decide +kernel
theorem dX1_takeRow_61 : decode cX1_takeRow 61 = .ok (.aload_n 0, 1) := by decide +kernel
theorem dX1_takeRow_62 : decode cX1_takeRow 62 = .ok (.aload_n 1, 1) := by decide +kernel
theorem dX1_takeRow_63 : decode cX1_takeRow 63 = .ok (.getfield 45, 3) := by decide +kernel
theorem dX1_takeRow_66 : decode cX1_takeRow 66 = .ok (.iconst 2, 1) := by decide +kernel
theorem dX1_takeRow_67 : decode cX1_takeRow 67 = .ok (.iaload, 1) := by decide +kernel
theorem dX1_takeRow_68 : decode cX1_takeRow 68 = .ok (.putfield 52, 3) := by decide +kernel
theorem dX1_takeRow_71 : decode cX1_takeRow 71 = .ok (.aload_n 0, 1) := by decide +kernel
theorem dX1_takeRow_72 : decode cX1_takeRow 72 = .ok (.aload_n 1, 1) := by decide +kernel
theorem dX1_takeRow_73 : decode cX1_takeRow 73 = .ok (.getfield 45, 3) := by decide +kernel
theorem dX1_takeRow_76 : decode cX1_takeRow 76 = .ok (.iconst 3, 1) := by decide +kernel
theorem dX1_takeRow_77 : decode cX1_takeRow 77 = .ok (.iaload, 1) := by decide +kernel
theorem dX1_takeRow_78 : decode cX1_takeRow 78 = .ok (.iconst 1, 1) := by decide +kernel
theorem dX1_takeRow_79 : decode cX1_takeRow 79 = .ok (.if_icmp .ne 7, 3) := by decide +kernel
theorem dX1_takeRow_82 : decode cX1_takeRow 82 = .ok (.iconst 1, 1) := by decide +kernel
theorem dX1_takeRow_83 : decode cX1_takeRow 83 = .ok (.goto 4, 3) := by decide +kernel
theorem dX1_takeRow_86 : decode cX1_takeRow 86 = .ok (.iconst 0, 1) := by decide +kernel
theorem dX1_takeRow_87 : decode cX1_takeRow 87 = .ok (.putfield 55, 3) := by decide +kernel
theorem dX1_takeRow_90 : decode cX1_takeRow 90 = .ok (.return_, 1) := by decide +kernel
theorem dX1_putRow_0 : decode cX1_putRow 0 = .ok (.iload_n 2, 1) := by decide +kernel
theorem dX1_putRow_1 : decode cX1_putRow 1 = .ok (.iconst 0, 1) := by decide +kernel
theorem dX1_putRow_2 : decode cX1_putRow 2 = .ok (.invokestatic 30, 3) := by decide +kernel
theorem dX1_putRow_5 : decode cX1_putRow 5 = .ok (.istore_n 3, 1) := by decide +kernel
theorem dX1_putRow_6 : decode cX1_putRow 6 = .ok (.aload_n 0, 1) := by decide +kernel
theorem dX1_putRow_7 : decode cX1_putRow 7 = .ok (.getfield 9, 3) := by decide +kernel
theorem dX1_putRow_10 : decode cX1_putRow 10 = .ok (.iconst 0, 1) := by decide +kernel
theorem dX1_putRow_11 : decode cX1_putRow 11 = .ok (.aload_n 1, 1) := by decide +kernel
theorem dX1_putRow_12 : decode cX1_putRow 12 = .ok (.getfield 34, 3) := by decide +kernel
theorem dX1_putRow_15 : decode cX1_putRow 15 = .ok (.iload_n 3, 1) := by decide +kernel
theorem dX1_putRow_16 : decode cX1_putRow 16 = .ok (.bipush 32, 2) := by decide +kernel
theorem dX1_putRow_18 : decode cX1_putRow 18 = .ok (.invokestatic 37, 3) := by decide +kernel
theorem dX1_putRow_21 : decode cX1_putRow 21 = .ok (.aload_n 0, 1) := by decide +kernel
theorem dX1_putRow_22 : decode cX1_putRow 22 = .ok (.getfield 15, 3) := by decide +kernel
theorem dX1_putRow_25 : decode cX1_putRow 25 = .ok (.iconst 0, 1) := by decide +kernel
theorem dX1_putRow_26 : decode cX1_putRow 26 = .ok (.aload_n 1, 1) := by decide +kernel
theorem dX1_putRow_27 : decode cX1_putRow 27 = .ok (.getfield 43, 3) := by decide +kernel
theorem dX1_putRow_30 : decode cX1_putRow 30 = .ok (.iload_n 3, 1) := by decide +kernel
theorem dX1_putRow_31 : decode cX1_putRow 31 = .ok (.bipush 32, 2) := by decide +kernel
theorem dX1_putRow_33 : decode cX1_putRow 33 = .ok (.invokestatic 37, 3) := by decide +kernel
theorem dX1_putRow_36 : decode cX1_putRow 36 = .ok (.aload_n 0, 1) := by decide +kernel
theorem dX1_putRow_37 : decode cX1_putRow 37 = .ok (.getfield 18, 3) := by decide +kernel
theorem dX1_putRow_40 : decode cX1_putRow 40 = .ok (.iconst 0, 1) := by decide +kernel
theorem dX1_putRow_41 : decode cX1_putRow 41 = .ok (.aload_n 1, 1) := by decide +kernel
theorem dX1_putRow_42 : decode cX1_putRow 42 = .ok (.getfield 44, 3) := by decide +kernel
theorem dX1_putRow_45 : decode cX1_putRow 45 = .ok (.iload_n 3, 1) := by decide +kernel
theorem dX1_putRow_46 : decode cX1_putRow 46 = .ok (.bipush 32, 2) := by decide +kernel
theorem dX1_putRow_48 : decode cX1_putRow 48 = .ok (.invokestatic 37, 3) := by decide +kernel
theorem dX1_putRow_51 : decode cX1_putRow 51 = .ok (.return_, 1) := by decide +kernel
theorem dX1_study_0 : decode cX1_study 0 = .ok (.aload_n 0, 1) := by decide +kernel
theorem dX1_study_1 : decode cX1_study 1 = .ok (.aload_n 1, 1) := by decide +kernel
theorem dX1_study_2 : decode cX1_study 2 = .ok (.iload_n 2, 1) := by decide +kernel
theorem dX1_study_3 : decode cX1_study 3 = .ok (.invokevirtual 59, 3) := by decide +kernel
theorem dX1_study_6 : decode cX1_study 6 = .ok (.aload_n 0, 1) := by decide +kernel
theorem dX1_study_7 : decode cX1_study 7 = .ok (.invokevirtual 63, 3) := by decide +kernel
theorem dX1_study_10 : decode cX1_study 10 = .ok (.aload_n 0, 1) := by decide +kernel
theorem dX1_study_11 : decode cX1_study 11 = .ok (.invokevirtual 66, 3) := by decide +kernel
theorem dX1_study_14 : decode cX1_study 14 = .ok (.return_, 1) := by decide +kernel
theorem dX1_turnRound_0 : decode cX1_turnRound 0 = .ok (.aload_n 0, 1) := by decide +kernel
theorem dX1_turnRound_1 : decode cX1_turnRound 1 = .ok (.getfield 9, 3) := by decide +kernel
theorem dX1_turnRound_4 : decode cX1_turnRound 4 = .ok (.invokestatic 69, 3) := by decide +kernel
theorem dX1_turnRound_7 : decode cX1_turnRound 7 = .ok (.aload_n 0, 1) := by decide +kernel
theorem dX1_turnRound_8 : decode cX1_turnRound 8 = .ok (.getfield 15, 3) := by decide +kernel
theorem dX1_turnRound_11 : decode cX1_turnRound 11 = .ok (.invokestatic 69, 3) := by decide +kernel
theorem dX1_turnRound_14 : decode cX1_turnRound 14 = .ok (.aload_n 0, 1) := by decide +kernel
theorem dX1_turnRound_15 : decode cX1_turnRound 15 = .ok (.getfield 18, 3) := by decide +kernel
theorem dX1_turnRound_18 : decode cX1_turnRound 18 = .ok (.invokestatic 69, 3) := by decide +kernel
theorem dX1_turnRound_21 : decode cX1_turnRound 21 = .ok (.return_, 1) := by decide +kernel
theorem dX1_reverse_0 : decode cX1_reverse 0 = .ok (.iconst 0, 1) := by decide +kernel
theorem dX1_reverse_1 : decode cX1_reverse 1 = .ok (.istore_n 1, 1) := by decide +kernel
theorem dX1_reverse_2 : decode cX1_reverse 2 = .ok (.aload_n 0, 1) := by decide +kernel
theorem dX1_reverse_3 : decode cX1_reverse 3 = .ok (.arraylength, 1) := by decide +kernel
theorem dX1_reverse_4 : decode cX1_reverse 4 = .ok (.iconst 1, 1) := by decide +kernel
theorem dX1_reverse_5 : decode cX1_reverse 5 = .ok (.isub, 1) := by decide +kernel
theorem dX1_reverse_6 : decode cX1_reverse 6 = .ok (.istore_n 2, 1) := by decide +kernel
theorem dX1_reverse_7 : decode cX1_reverse 7 = .ok (.iload_n 1, 1) := by decide +kernel
theorem dX1_reverse_8 : decode cX1_reverse 8 = .ok (.iload_n 2, 1) := by decide +kernel
theorem dX1_reverse_9 : decode cX1_reverse 9 = .ok (.if_icmp .ge 26, 3) := by decide +kernel
theorem dX1_reverse_12 : decode cX1_reverse 12 = .ok (.aload_n 0, 1) := by decide +kernel
theorem dX1_reverse_13 : decode cX1_reverse 13 = .ok (.iload_n 1, 1) := by decide +kernel
theorem dX1_reverse_14 : decode cX1_reverse 14 = .ok (.iaload, 1) := by decide +kernel
theorem dX1_reverse_15 : decode cX1_reverse 15 = .ok (.istore_n 3, 1) := by decide +kernel
theorem dX1_reverse_16 : decode cX1_reverse 16 = .ok (.aload_n 0, 1) := by decide +kernel
theorem dX1_reverse_17 : decode cX1_reverse 17 = .ok (.iload_n 1, 1) := by decide +kernel
theorem dX1_reverse_18 : decode cX1_reverse 18 = .ok (.aload_n 0, 1) := by decide +kernel
theorem dX1_reverse_19 : decode cX1_reverse 19 = .ok (.iload_n 2, 1) := by decide +kernel
theorem dX1_reverse_20 : decode cX1_reverse 20 = .ok (.iaload, 1) := by decide +kernel
theorem dX1_reverse_21 : decode cX1_reverse 21 = .ok (.iastore, 1) := by decide +kernel
theorem dX1_reverse_22 : decode cX1_reverse 22 = .ok (.aload_n 0, 1) := by decide +kernel
theorem dX1_reverse_23 : decode cX1_reverse 23 = .ok (.iload_n 2, 1) := by decide +kernel
theorem dX1_reverse_24 : decode cX1_reverse 24 = .ok (.iload_n 3, 1) := by decide +kernel
theorem dX1_reverse_25 : decode cX1_reverse 25 = .ok (.iastore, 1) := by decide +kernel
theorem dX1_reverse_26 : decode cX1_reverse 26 = .ok (.iinc 1 1, 3) := by decide +kernel
theorem dX1_reverse_29 : decode cX1_reverse 29 = .ok (.iinc 2 (-1), 3) := by decide +kernel
theorem dX1_reverse_32 : decode cX1_reverse 32 = .ok (.goto (-25), 3) := by decide +kernel
theorem dX1_reverse_35 : decode cX1_reverse 35 = .ok (.return_, 1) := by decide +kernel
theorem dX1_forgetSmudges_0 : decode cX1_forgetSmudges 0 = .ok (.aload_n 0, 1) := by decide +kernel
theorem dX1_forgetSmudges_1 : decode cX1_forgetSmudges 1 = .ok (.getfield 18, 3) := by decide +kernel
theorem dX1_forgetSmudges_4 : decode cX1_forgetSmudges 4 = .ok (.bipush (-4), 2) := by decide +kernel
theorem dX1_forgetSmudges_6 : decode cX1_forgetSmudges 6 = .ok (.invokestatic 73, 3) := by decide +kernel
theorem dX1_forgetSmudges_9 : decode cX1_forgetSmudges 9 = .ok (.return_, 1) := by decide +kernel
theorem dX1_printFrom_0 : decode cX1_printFrom 0 = .ok (.aload_n 1, 1) := by decide +kernel
theorem dX1_printFrom_1 : decode cX1_printFrom 1 = .ok (.getfield 79, 3) := by decide +kernel
theorem dX1_printFrom_4 : decode cX1_printFrom 4 = .ok (.istore_n 2, 1) := by decide +kernel
theorem dX1_printFrom_5 : decode cX1_printFrom 5 = .ok (.iconst 0, 1) := by decide +kernel
theorem dX1_printFrom_6 : decode cX1_printFrom 6 = .ok (.istore_n 3, 1) := by decide +kernel
theorem dX1_printFrom_7 : decode cX1_printFrom 7 = .ok (.iconst 0, 1) := by decide +kernel
theorem dX1_printFrom_8 : decode cX1_printFrom 8 = .ok (.istore 4, 2) := by decide +kernel
theorem dX1_printFrom_10 : decode cX1_printFrom 10 = .ok (.iload 4, 2) := by decide +kernel
theorem dX1_printFrom_12 : decode cX1_printFrom 12 = .ok (.bipush 32, 2) := by decide +kernel
theorem dX1_printFrom_14 : decode cX1_printFrom 14 = .ok (.if_icmp .ge 124, 3) := by decide +kernel
theorem dX1_printFrom_17 : decode cX1_printFrom 17 = .ok (.aload_n 0, 1) := by decide +kernel
theorem dX1_printFrom_18 : decode cX1_printFrom 18 = .ok (.iload 4, 2) := by decide +kernel
theorem dX1_printFrom_20 : decode cX1_printFrom 20 = .ok (.invokevirtual 82, 3) := by decide +kernel
theorem dX1_printFrom_23 : decode cX1_printFrom 23 = .ok (.istore 5, 2) := by decide +kernel
theorem dX1_printFrom_25 : decode cX1_printFrom 25 = .ok (.iload 5, 2) := by decide +kernel
theorem dX1_printFrom_27 : decode cX1_printFrom 27 = .ok (.bipush (-4), 2) := by decide +kernel
theorem dX1_printFrom_29 : decode cX1_printFrom 29 = .ok (.if_icmp .eq 20, 3) := by decide +kernel
theorem dX1_printFrom_32 : decode cX1_printFrom 32 = .ok (.aload_n 0, 1) := by decide +kernel
theorem dX1_printFrom_33 : decode cX1_printFrom 33 = .ok (.getfield 15, 3) := by decide +kernel
theorem dX1_printFrom_36 : decode cX1_printFrom 36 = .ok (.iload 4, 2) := by decide +kernel
theorem dX1_printFrom_38 : decode cX1_printFrom 38 = .ok (.aload_n 0, 1) := by decide +kernel
theorem dX1_printFrom_39 : decode cX1_printFrom 39 = .ok (.getfield 15, 3) := by decide +kernel
theorem dX1_printFrom_42 : decode cX1_printFrom 42 = .ok (.iload 5, 2) := by decide +kernel
theorem dX1_printFrom_44 : decode cX1_printFrom 44 = .ok (.iaload, 1) := by decide +kernel
theorem dX1_printFrom_45 : decode cX1_printFrom 45 = .ok (.iastore, 1) := by decide +kernel
theorem dX1_printFrom_46 : decode cX1_printFrom 46 = .ok (.goto 86, 3) := by decide +kernel
theorem dX1_printFrom_49 : decode cX1_printFrom 49 = .ok (.aload_n 1, 1) := by decide +kernel
theorem dX1_printFrom_50 : decode cX1_printFrom 50 = .ok (.getfield 86, 3) := by decide +kernel
theorem dX1_printFrom_53 : decode cX1_printFrom 53 = .ok (.ifCond .le 37, 3) := by decide +kernel
theorem dX1_printFrom_56 : decode cX1_printFrom 56 = .ok (.aload_n 0, 1) := by decide +kernel
theorem dX1_printFrom_57 : decode cX1_printFrom 57 = .ok (.getfield 15, 3) := by decide +kernel
theorem dX1_printFrom_60 : decode cX1_printFrom 60 = .ok (.iload 4, 2) := by decide +kernel
theorem dX1_printFrom_62 : decode cX1_printFrom 62 = .ok (.aload_n 1, 1) := by decide +kernel
theorem dX1_printFrom_63 : decode cX1_printFrom 63 = .ok (.getfield 89, 3) := by decide +kernel
theorem dX1_printFrom_66 : decode cX1_printFrom 66 = .ok (.iload_n 3, 1) := by decide +kernel
theorem dX1_printFrom_67 : decode cX1_printFrom 67 = .ok (.iaload, 1) := by decide +kernel
theorem dX1_printFrom_68 : decode cX1_printFrom 68 = .ok (.iastore, 1) := by decide +kernel
theorem dX1_printFrom_69 : decode cX1_printFrom 69 = .ok (.iload_n 3, 1) := by decide +kernel
theorem dX1_printFrom_70 : decode cX1_printFrom 70 = .ok (.iconst 1, 1) := by decide +kernel
theorem dX1_printFrom_71 : decode cX1_printFrom 71 = .ok (.iadd, 1) := by decide +kernel
theorem dX1_printFrom_72 : decode cX1_printFrom 72 = .ok (.aload_n 1, 1) := by decide +kernel
theorem dX1_printFrom_73 : decode cX1_printFrom 73 = .ok (.getfield 86, 3) := by decide +kernel
theorem dX1_printFrom_76 : decode cX1_printFrom 76 = .ok (.if_icmp .ge 9, 3) := by decide +kernel
theorem dX1_printFrom_79 : decode cX1_printFrom 79 = .ok (.iload_n 3, 1) := by decide +kernel
theorem dX1_printFrom_80 : decode cX1_printFrom 80 = .ok (.iconst 1, 1) := by decide +kernel
theorem dX1_printFrom_81 : decode cX1_printFrom 81 = .ok (.iadd, 1) := by decide +kernel
theorem dX1_printFrom_82 : decode cX1_printFrom 82 = .ok (.goto 4, 3) := by decide +kernel
theorem dX1_printFrom_85 : decode cX1_printFrom 85 = .ok (.iconst 0, 1) := by decide +kernel
theorem dX1_printFrom_86 : decode cX1_printFrom 86 = .ok (.istore_n 3, 1) := by decide +kernel
theorem dX1_printFrom_87 : decode cX1_printFrom 87 = .ok (.goto 45, 3) := by decide +kernel
theorem dX1_printFrom_90 : decode cX1_printFrom 90 = .ok (.sipush 421, 3) := by decide +kernel
theorem dX1_printFrom_93 : decode cX1_printFrom 93 = .ok (.iload_n 2, 1) := by decide +kernel
theorem dX1_printFrom_94 : decode cX1_printFrom 94 = .ok (.imul, 1) := by decide +kernel
theorem dX1_printFrom_95 : decode cX1_printFrom 95 = .ok (.sipush 1663, 3) := by decide +kernel
theorem dX1_printFrom_98 : decode cX1_printFrom 98 = .ok (.iadd, 1) := by decide +kernel
theorem dX1_printFrom_99 : decode cX1_printFrom 99 = .ok (.sipush 10000, 3) := by decide +kernel
theorem dX1_printFrom_102 : decode cX1_printFrom 102 = .ok (.irem, 1) := by decide +kernel
theorem dX1_printFrom_103 : decode cX1_printFrom 103 = .ok (.istore_n 2, 1) := by decide +kernel
theorem dX1_printFrom_104 : decode cX1_printFrom 104 = .ok (.aload_n 1, 1) := by decide +kernel
theorem dX1_printFrom_105 : decode cX1_printFrom 105 = .ok (.getfield 45, 3) := by decide +kernel
theorem dX1_printFrom_108 : decode cX1_printFrom 108 = .ok (.iconst 1, 1) := by decide +kernel
theorem dX1_printFrom_109 : decode cX1_printFrom 109 = .ok (.iaload, 1) := by decide +kernel
theorem dX1_printFrom_110 : decode cX1_printFrom 110 = .ok (.istore 6, 2) := by decide +kernel
theorem dX1_printFrom_112 : decode cX1_printFrom 112 = .ok (.aload_n 0, 1) := by decide +kernel
theorem dX1_printFrom_113 : decode cX1_printFrom 113 = .ok (.getfield 15, 3) := by decide +kernel
theorem dX1_printFrom_116 : decode cX1_printFrom 116 = .ok (.iload 4, 2) := by decide +kernel
theorem dX1_printFrom_118 : decode cX1_printFrom 118 = .ok (.iload 6, 2) := by decide +kernel
theorem dX1_printFrom_120 : decode cX1_printFrom 120 = .ok (.ifCond .le 10, 3) := by decide +kernel
theorem dX1_printFrom_123 : decode cX1_printFrom 123 = .ok (.iload_n 2, 1) := by decide +kernel
theorem dX1_printFrom_124 : decode cX1_printFrom 124 = .ok (.iload 6, 2) := by decide +kernel
theorem dX1_printFrom_126 : decode cX1_printFrom 126 = .ok (.irem, 1) := by decide +kernel
theorem dX1_printFrom_127 : decode cX1_printFrom 127 = .ok (.goto 4, 3) := by decide +kernel
theorem dX1_printFrom_130 : decode cX1_printFrom 130 = .ok (.iconst 0, 1) := by decide +kernel
theorem dX1_printFrom_131 : decode cX1_printFrom 131 = .ok (.iastore, 1) := by decide +kernel
theorem dX1_printFrom_132 : decode cX1_printFrom 132 = .ok (.iinc 4 1, 3) := by decide +kernel
theorem dX1_printFrom_135 : decode cX1_printFrom 135 = .ok (.goto (-125), 3) := by decide +kernel
theorem dX1_printFrom_138 : decode cX1_printFrom 138 = .ok (.iload_n 2, 1) := by decide +kernel
theorem dX1_printFrom_139 : decode cX1_printFrom 139 = .ok (.ireturn, 1) := by decide +kernel
theorem dX1_boundTo_0 : decode cX1_boundTo 0 = .ok (.iload_n 1, 1) := by decide +kernel
theorem dX1_boundTo_1 : decode cX1_boundTo 1 = .ok (.aload_n 0, 1) := by decide +kernel
theorem dX1_boundTo_2 : decode cX1_boundTo 2 = .ok (.getfield 48, 3) := by decide +kernel
theorem dX1_boundTo_5 : decode cX1_boundTo 5 = .ok (.aload_n 0, 1) := by decide +kernel
theorem dX1_boundTo_6 : decode cX1_boundTo 6 = .ok (.getfield 9, 3) := by decide +kernel
theorem dX1_boundTo_9 : decode cX1_boundTo 9 = .ok (.iload_n 1, 1) := by decide +kernel
theorem dX1_boundTo_10 : decode cX1_boundTo 10 = .ok (.iaload, 1) := by decide +kernel
theorem dX1_boundTo_11 : decode cX1_boundTo 11 = .ok (.isub, 1) := by decide +kernel
theorem dX1_boundTo_12 : decode cX1_boundTo 12 = .ok (.isub, 1) := by decide +kernel
theorem dX1_boundTo_13 : decode cX1_boundTo 13 = .ok (.istore_n 2, 1) := by decide +kernel
theorem dX1_boundTo_14 : decode cX1_boundTo 14 = .ok (.iload_n 2, 1) := by decide +kernel
theorem dX1_boundTo_15 : decode cX1_boundTo 15 = .ok (.ifCond .lt 12, 3) := by decide +kernel
theorem dX1_boundTo_18 : decode cX1_boundTo 18 = .ok (.iload_n 2, 1) := by decide +kernel
theorem dX1_boundTo_19 : decode cX1_boundTo 19 = .ok (.iload_n 1, 1) := by decide +kernel
theorem dX1_boundTo_20 : decode cX1_boundTo 20 = .ok (.if_icmp .ge 7, 3) := by decide +kernel
theorem dX1_boundTo_23 : decode cX1_boundTo 23 = .ok (.iload_n 2, 1) := by decide +kernel
theorem dX1_boundTo_24 : decode cX1_boundTo 24 = .ok (.goto 5, 3) := by decide +kernel
theorem dX1_boundTo_27 : decode cX1_boundTo 27 = .ok (.bipush (-4), 2) := by decide +kernel
theorem dX1_boundTo_29 : decode cX1_boundTo 29 = .ok (.ireturn, 1) := by decide +kernel
theorem dX1_bind_0 : decode cX1_bind 0 = .ok (.aload_n 0, 1) := by decide +kernel
theorem dX1_bind_1 : decode cX1_bind 1 = .ok (.getfield 24, 3) := by decide +kernel
theorem dX1_bind_4 : decode cX1_bind 4 = .ok (.iconst 0, 1) := by decide +kernel
theorem dX1_bind_5 : decode cX1_bind 5 = .ok (.invokestatic 73, 3) := by decide +kernel
theorem dX1_bind_8 : decode cX1_bind 8 = .ok (.iconst 0, 1) := by decide +kernel
theorem dX1_bind_9 : decode cX1_bind 9 = .ok (.istore_n 1, 1) := by decide +kernel
theorem dX1_bind_10 : decode cX1_bind 10 = .ok (.iload_n 1, 1) := by decide +kernel
theorem dX1_bind_11 : decode cX1_bind 11 = .ok (.bipush 32, 2) := by decide +kernel
theorem dX1_bind_13 : decode cX1_bind 13 = .ok (.if_icmp .ge 53, 3) := by decide +kernel
theorem dX1_bind_16 : decode cX1_bind 16 = .ok (.aload_n 0, 1) := by decide +kernel
theorem dX1_bind_17 : decode cX1_bind 17 = .ok (.iload_n 1, 1) := by decide +kernel
theorem dX1_bind_18 : decode cX1_bind 18 = .ok (.invokevirtual 82, 3) := by decide +kernel
theorem dX1_bind_21 : decode cX1_bind 21 = .ok (.istore_n 2, 1) := by decide +kernel
theorem dX1_bind_22 : decode cX1_bind 22 = .ok (.iload_n 2, 1) := by decide +kernel
theorem dX1_bind_23 : decode cX1_bind 23 = .ok (.bipush (-4), 2) := by decide +kernel
theorem dX1_bind_25 : decode cX1_bind 25 = .ok (.if_icmp .ne 13, 3) := by decide +kernel
theorem dX1_bind_28 : decode cX1_bind 28 = .ok (.aload_n 0, 1) := by decide +kernel
theorem dX1_bind_29 : decode cX1_bind 29 = .ok (.getfield 27, 3) := by decide +kernel
theorem dX1_bind_32 : decode cX1_bind 32 = .ok (.iload_n 1, 1) := by decide +kernel
theorem dX1_bind_33 : decode cX1_bind 33 = .ok (.iload_n 1, 1) := by decide +kernel
theorem dX1_bind_34 : decode cX1_bind 34 = .ok (.iastore, 1) := by decide +kernel
theorem dX1_bind_35 : decode cX1_bind 35 = .ok (.goto 25, 3) := by decide +kernel
theorem dX1_bind_38 : decode cX1_bind 38 = .ok (.aload_n 0, 1) := by decide +kernel
theorem dX1_bind_39 : decode cX1_bind 39 = .ok (.getfield 27, 3) := by decide +kernel
theorem dX1_bind_42 : decode cX1_bind 42 = .ok (.iload_n 1, 1) := by decide +kernel
theorem dX1_bind_43 : decode cX1_bind 43 = .ok (.aload_n 0, 1) := by decide +kernel
theorem dX1_bind_44 : decode cX1_bind 44 = .ok (.getfield 27, 3) := by decide +kernel
theorem dX1_bind_47 : decode cX1_bind 47 = .ok (.iload_n 2, 1) := by decide +kernel
theorem dX1_bind_48 : decode cX1_bind 48 = .ok (.iaload, 1) := by decide +kernel
theorem dX1_bind_49 : decode cX1_bind 49 = .ok (.iastore, 1) := by decide +kernel
theorem dX1_bind_50 : decode cX1_bind 50 = .ok (.aload_n 0, 1) := by decide +kernel
theorem dX1_bind_51 : decode cX1_bind 51 = .ok (.getfield 24, 3) := by decide +kernel
theorem dX1_bind_54 : decode cX1_bind 54 = .ok (.iload_n 2, 1) := by decide +kernel
theorem dX1_bind_55 : decode cX1_bind 55 = .ok (.dup2, 1) := by decide +kernel
theorem dX1_bind_56 : decode cX1_bind 56 = .ok (.iaload, 1) := by decide +kernel
theorem dX1_bind_57 : decode cX1_bind 57 = .ok (.iconst 1, 1) := by decide +kernel
theorem dX1_bind_58 : decode cX1_bind 58 = .ok (.iadd, 1) := by decide +kernel
theorem dX1_bind_59 : decode cX1_bind 59 = .ok (.iastore, 1) := by decide +kernel
theorem dX1_bind_60 : decode cX1_bind 60 = .ok (.iinc 1 1, 3) := by decide +kernel
theorem dX1_bind_63 : decode cX1_bind 63 = .ok (.goto (-53), 3) := by decide +kernel
theorem dX1_bind_66 : decode cX1_bind 66 = .ok (.return_, 1) := by decide +kernel
theorem dX1_watch_0 : decode cX1_watch 0 = .ok (.iconst 0, 1) := by decide +kernel
theorem dX1_watch_1 : decode cX1_watch 1 = .ok (.istore_n 1, 1) := by decide +kernel
theorem dX1_watch_2 : decode cX1_watch 2 = .ok (.iconst 0, 1) := by decide +kernel
theorem dX1_watch_3 : decode cX1_watch 3 = .ok (.istore_n 2, 1) := by decide +kernel
theorem dX1_watch_4 : decode cX1_watch 4 = .ok (.iload_n 2, 1) := by decide +kernel
theorem dX1_watch_5 : decode cX1_watch 5 = .ok (.bipush 32, 2) := by decide +kernel
theorem dX1_watch_7 : decode cX1_watch 7 = .ok (.if_icmp .ge 55, 3) := by decide +kernel
theorem dX1_watch_10 : decode cX1_watch 10 = .ok (.aload_n 0, 1) := by decide +kernel
theorem dX1_watch_11 : decode cX1_watch 11 = .ok (.iload_n 2, 1) := by decide +kernel
theorem dX1_watch_12 : decode cX1_watch 12 = .ok (.iload_n 1, 1) := by decide +kernel
theorem dX1_watch_13 : decode cX1_watch 13 = .ok (.invokevirtual 92, 3) := by decide +kernel
theorem dX1_watch_16 : decode cX1_watch 16 = .ok (.istore_n 3, 1) := by decide +kernel
theorem dX1_watch_17 : decode cX1_watch 17 = .ok (.iload_n 3, 1) := by decide +kernel
theorem dX1_watch_18 : decode cX1_watch 18 = .ok (.bipush (-4), 2) := by decide +kernel
theorem dX1_watch_20 : decode cX1_watch 20 = .ok (.if_icmp .ne 14, 3) := by decide +kernel
theorem dX1_watch_23 : decode cX1_watch 23 = .ok (.aload_n 0, 1) := by decide +kernel
theorem dX1_watch_24 : decode cX1_watch 24 = .ok (.getfield 21, 3) := by decide +kernel
theorem dX1_watch_27 : decode cX1_watch 27 = .ok (.iload_n 2, 1) := by decide +kernel
theorem dX1_watch_28 : decode cX1_watch 28 = .ok (.bipush (-4), 2) := by decide +kernel
theorem dX1_watch_30 : decode cX1_watch 30 = .ok (.iastore, 1) := by decide +kernel
theorem dX1_watch_31 : decode cX1_watch 31 = .ok (.goto 25, 3) := by decide +kernel
theorem dX1_watch_34 : decode cX1_watch 34 = .ok (.iload_n 3, 1) := by decide +kernel
theorem dX1_watch_35 : decode cX1_watch 35 = .ok (.istore_n 1, 1) := by decide +kernel
theorem dX1_watch_36 : decode cX1_watch 36 = .ok (.aload_n 0, 1) := by decide +kernel
theorem dX1_watch_37 : decode cX1_watch 37 = .ok (.getfield 21, 3) := by decide +kernel
theorem dX1_watch_40 : decode cX1_watch 40 = .ok (.iload_n 2, 1) := by decide +kernel
theorem dX1_watch_41 : decode cX1_watch 41 = .ok (.aload_n 0, 1) := by decide +kernel
theorem dX1_watch_42 : decode cX1_watch 42 = .ok (.getfield 55, 3) := by decide +kernel
theorem dX1_watch_45 : decode cX1_watch 45 = .ok (.ifCond .eq 9, 3) := by decide +kernel
theorem dX1_watch_48 : decode cX1_watch 48 = .ok (.iconst 4, 1) := by decide +kernel
theorem dX1_watch_49 : decode cX1_watch 49 = .ok (.iload_n 3, 1) := by decide +kernel
theorem dX1_watch_50 : decode cX1_watch 50 = .ok (.isub, 1) := by decide +kernel
theorem dX1_watch_51 : decode cX1_watch 51 = .ok (.goto 4, 3) := by decide +kernel
theorem dX1_watch_54 : decode cX1_watch 54 = .ok (.iload_n 3, 1) := by decide +kernel
theorem dX1_watch_55 : decode cX1_watch 55 = .ok (.iastore, 1) := by decide +kernel
theorem dX1_watch_56 : decode cX1_watch 56 = .ok (.iinc 2 1, 3) := by decide +kernel
theorem dX1_watch_59 : decode cX1_watch 59 = .ok (.goto (-55), 3) := by decide +kernel
theorem dX1_watch_62 : decode cX1_watch 62 = .ok (.return_, 1) := by decide +kernel
theorem dX1_nearestFitting_0 : decode cX1_nearestFitting 0 = .ok (.iconst 0, 1) := by decide +kernel
theorem dX1_nearestFitting_1 : decode cX1_nearestFitting 1 = .ok (.istore_n 3, 1) := by decide +kernel
theorem dX1_nearestFitting_2 : decode cX1_nearestFitting 2 = .ok (.iload_n 3, 1) := by decide +kernel
theorem dX1_nearestFitting_3 : decode cX1_nearestFitting 3 = .ok (.iconst 5, 1) := by decide +kernel
theorem dX1_nearestFitting_4 : decode cX1_nearestFitting 4 = .ok (.if_icmp .ge 52, 3) := by decide +kernel
theorem dX1_nearestFitting_7 : decode cX1_nearestFitting 7 = .ok (.iload_n 2, 1) := by decide +kernel
theorem dX1_nearestFitting_8 : decode cX1_nearestFitting 8 = .ok (.iload_n 3, 1) := by decide +kernel
theorem dX1_nearestFitting_9 : decode cX1_nearestFitting 9 = .ok (.iadd, 1) := by decide +kernel
theorem dX1_nearestFitting_10 : decode cX1_nearestFitting 10 = .ok (.iconst 5, 1) := by decide +kernel
theorem dX1_nearestFitting_11 : decode cX1_nearestFitting 11 = .ok (.if_icmp .ge 18, 3) := by decide +kernel
theorem dX1_nearestFitting_14 : decode cX1_nearestFitting 14 = .ok (.aload_n 0, 1) := by decide +kernel
theorem dX1_nearestFitting_15 : decode cX1_nearestFitting 15 = .ok (.iload_n 1, 1) := by decide +kernel
theorem dX1_nearestFitting_16 : decode cX1_nearestFitting 16 = .ok (.iload_n 2, 1) := by decide +kernel
theorem dX1_nearestFitting_17 : decode cX1_nearestFitting 17 = .ok (.iload_n 3, 1) := by decide +kernel
theorem dX1_nearestFitting_18 : decode cX1_nearestFitting 18 = .ok (.iadd, 1) := by decide +kernel
theorem dX1_nearestFitting_19 : decode cX1_nearestFitting 19 = .ok (.invokevirtual 95, 3) := by decide +kernel
theorem dX1_nearestFitting_22 : decode cX1_nearestFitting 22 = .ok (.ifCond .eq 7, 3) := by decide +kernel
theorem dX1_nearestFitting_25 : decode cX1_nearestFitting 25 = .ok (.iload_n 2, 1) := by decide +kernel
theorem dX1_nearestFitting_26 : decode cX1_nearestFitting 26 = .ok (.iload_n 3, 1) := by decide +kernel
theorem dX1_nearestFitting_27 : decode cX1_nearestFitting 27 = .ok (.iadd, 1) := by decide +kernel
theorem dX1_nearestFitting_28 : decode cX1_nearestFitting 28 = .ok (.ireturn, 1) := by decide +kernel
theorem dX1_nearestFitting_29 : decode cX1_nearestFitting 29 = .ok (.iload_n 2, 1) := by decide +kernel
theorem dX1_nearestFitting_30 : decode cX1_nearestFitting 30 = .ok (.iload_n 3, 1) := by decide +kernel
theorem dX1_nearestFitting_31 : decode cX1_nearestFitting 31 = .ok (.isub, 1) := by decide +kernel
theorem dX1_nearestFitting_32 : decode cX1_nearestFitting 32 = .ok (.ifCond .lt 18, 3) := by decide +kernel
theorem dX1_nearestFitting_35 : decode cX1_nearestFitting 35 = .ok (.aload_n 0, 1) := by decide +kernel
theorem dX1_nearestFitting_36 : decode cX1_nearestFitting 36 = .ok (.iload_n 1, 1) := by decide +kernel
theorem dX1_nearestFitting_37 : decode cX1_nearestFitting 37 = .ok (.iload_n 2, 1) := by decide +kernel
theorem dX1_nearestFitting_38 : decode cX1_nearestFitting 38 = .ok (.iload_n 3, 1) := by decide +kernel
theorem dX1_nearestFitting_39 : decode cX1_nearestFitting 39 = .ok (.isub, 1) := by decide +kernel
theorem dX1_nearestFitting_40 : decode cX1_nearestFitting 40 = .ok (.invokevirtual 95, 3) := by decide +kernel
theorem dX1_nearestFitting_43 : decode cX1_nearestFitting 43 = .ok (.ifCond .eq 7, 3) := by decide +kernel
theorem dX1_nearestFitting_46 : decode cX1_nearestFitting 46 = .ok (.iload_n 2, 1) := by decide +kernel
theorem dX1_nearestFitting_47 : decode cX1_nearestFitting 47 = .ok (.iload_n 3, 1) := by decide +kernel
theorem dX1_nearestFitting_48 : decode cX1_nearestFitting 48 = .ok (.isub, 1) := by decide +kernel
theorem dX1_nearestFitting_49 : decode cX1_nearestFitting 49 = .ok (.ireturn, 1) := by decide +kernel
theorem dX1_nearestFitting_50 : decode cX1_nearestFitting 50 = .ok (.iinc 3 1, 3) := by decide +kernel
theorem dX1_nearestFitting_53 : decode cX1_nearestFitting 53 = .ok (.goto (-51), 3) := by decide +kernel
theorem dX1_nearestFitting_56 : decode cX1_nearestFitting 56 = .ok (.bipush (-4), 2) := by decide +kernel
theorem dX1_nearestFitting_58 : decode cX1_nearestFitting 58 = .ok (.ireturn, 1) := by decide +kernel
theorem dX1_isFitting_0 : decode cX1_isFitting 0 = .ok (.aload_n 0, 1) := by decide +kernel
theorem dX1_isFitting_1 : decode cX1_isFitting 1 = .ok (.getfield 48, 3) := by decide +kernel
theorem dX1_isFitting_4 : decode cX1_isFitting 4 = .ok (.iload_n 2, 1) := by decide +kernel
theorem dX1_isFitting_5 : decode cX1_isFitting 5 = .ok (.isub, 1) := by decide +kernel
theorem dX1_isFitting_6 : decode cX1_isFitting 6 = .ok (.istore_n 3, 1) := by decide +kernel
theorem dX1_isFitting_7 : decode cX1_isFitting 7 = .ok (.iload_n 3, 1) := by decide +kernel
theorem dX1_isFitting_8 : decode cX1_isFitting 8 = .ok (.ifCond .lt 8, 3) := by decide +kernel
theorem dX1_isFitting_11 : decode cX1_isFitting 11 = .ok (.iload_n 1, 1) := by decide +kernel
theorem dX1_isFitting_12 : decode cX1_isFitting 12 = .ok (.iload_n 3, 1) := by decide +kernel
theorem dX1_isFitting_13 : decode cX1_isFitting 13 = .ok (.if_icmp .ge 5, 3) := by decide +kernel
theorem dX1_isFitting_16 : decode cX1_isFitting 16 = .ok (.iconst 0, 1) := by decide +kernel
theorem dX1_isFitting_17 : decode cX1_isFitting 17 = .ok (.ireturn, 1) := by decide +kernel
theorem dX1_isFitting_18 : decode cX1_isFitting 18 = .ok (.iload_n 1, 1) := by decide +kernel
theorem dX1_isFitting_19 : decode cX1_isFitting 19 = .ok (.aload_n 0, 1) := by decide +kernel
theorem dX1_isFitting_20 : decode cX1_isFitting 20 = .ok (.getfield 52, 3) := by decide +kernel
theorem dX1_isFitting_23 : decode cX1_isFitting 23 = .ok (.isub, 1) := by decide +kernel
theorem dX1_isFitting_24 : decode cX1_isFitting 24 = .ok (.iload_n 3, 1) := by decide +kernel
theorem dX1_isFitting_25 : decode cX1_isFitting 25 = .ok (.invokestatic 99, 3) := by decide +kernel
theorem dX1_isFitting_28 : decode cX1_isFitting 28 = .ok (.istore 4, 2) := by decide +kernel
theorem dX1_isFitting_30 : decode cX1_isFitting 30 = .ok (.iload_n 1, 1) := by decide +kernel
theorem dX1_isFitting_31 : decode cX1_isFitting 31 = .ok (.aload_n 0, 1) := by decide +kernel
theorem dX1_isFitting_32 : decode cX1_isFitting 32 = .ok (.getfield 52, 3) := by decide +kernel
theorem dX1_isFitting_35 : decode cX1_isFitting 35 = .ok (.iadd, 1) := by decide +kernel
theorem dX1_isFitting_36 : decode cX1_isFitting 36 = .ok (.bipush 31, 2) := by decide +kernel
theorem dX1_isFitting_38 : decode cX1_isFitting 38 = .ok (.invokestatic 104, 3) := by decide +kernel
theorem dX1_isFitting_41 : decode cX1_isFitting 41 = .ok (.istore 5, 2) := by decide +kernel
theorem dX1_isFitting_43 : decode cX1_isFitting 43 = .ok (.iload 4, 2) := by decide +kernel
theorem dX1_isFitting_45 : decode cX1_isFitting 45 = .ok (.istore 6, 2) := by decide +kernel
theorem dX1_isFitting_47 : decode cX1_isFitting 47 = .ok (.iload 6, 2) := by decide +kernel
theorem dX1_isFitting_49 : decode cX1_isFitting 49 = .ok (.iload 5, 2) := by decide +kernel
theorem dX1_isFitting_51 : decode cX1_isFitting 51 = .ok (.if_icmp .gt 30, 3) := by decide +kernel
theorem dX1_isFitting_54 : decode cX1_isFitting 54 = .ok (.aload_n 0, 1) := by decide +kernel
theorem dX1_isFitting_55 : decode cX1_isFitting 55 = .ok (.getfield 15, 3) := by decide +kernel
theorem dX1_isFitting_58 : decode cX1_isFitting 58 = .ok (.iload 6, 2) := by decide +kernel
theorem dX1_isFitting_60 : decode cX1_isFitting 60 = .ok (.iaload, 1) := by decide +kernel
theorem dX1_isFitting_61 : decode cX1_isFitting 61 = .ok (.aload_n 0, 1) := by decide +kernel
theorem dX1_isFitting_62 : decode cX1_isFitting 62 = .ok (.getfield 15, 3) := by decide +kernel
theorem dX1_isFitting_65 : decode cX1_isFitting 65 = .ok (.iload 6, 2) := by decide +kernel
theorem dX1_isFitting_67 : decode cX1_isFitting 67 = .ok (.iload_n 3, 1) := by decide +kernel
theorem dX1_isFitting_68 : decode cX1_isFitting 68 = .ok (.isub, 1) := by decide +kernel
theorem dX1_isFitting_69 : decode cX1_isFitting 69 = .ok (.iaload, 1) := by decide +kernel
theorem dX1_isFitting_70 : decode cX1_isFitting 70 = .ok (.if_icmp .eq 5, 3) := by decide +kernel
theorem dX1_isFitting_73 : decode cX1_isFitting 73 = .ok (.iconst 0, 1) := by decide +kernel
theorem dX1_isFitting_74 : decode cX1_isFitting 74 = .ok (.ireturn, 1) := by decide +kernel
theorem dX1_isFitting_75 : decode cX1_isFitting 75 = .ok (.iinc 6 1, 3) := by decide +kernel
theorem dX1_isFitting_78 : decode cX1_isFitting 78 = .ok (.goto (-31), 3) := by decide +kernel
theorem dX1_isFitting_81 : decode cX1_isFitting 81 = .ok (.iconst 1, 1) := by decide +kernel
theorem dX1_isFitting_82 : decode cX1_isFitting 82 = .ok (.ireturn, 1) := by decide +kernel
theorem dX1_placesOfKind_0 : decode cX1_placesOfKind 0 = .ok (.iconst 0, 1) := by decide +kernel
theorem dX1_placesOfKind_1 : decode cX1_placesOfKind 1 = .ok (.istore_n 2, 1) := by decide +kernel
theorem dX1_placesOfKind_2 : decode cX1_placesOfKind 2 = .ok (.iconst 0, 1) := by decide +kernel
theorem dX1_placesOfKind_3 : decode cX1_placesOfKind 3 = .ok (.istore_n 3, 1) := by decide +kernel
theorem dX1_placesOfKind_4 : decode cX1_placesOfKind 4 = .ok (.iload_n 3, 1) := by decide +kernel
theorem dX1_placesOfKind_5 : decode cX1_placesOfKind 5 = .ok (.bipush 32, 2) := by decide +kernel
theorem dX1_placesOfKind_7 : decode cX1_placesOfKind 7 = .ok (.if_icmp .ge 21, 3) := by decide +kernel
theorem dX1_placesOfKind_10 : decode cX1_placesOfKind 10 = .ok (.aload_n 0, 1) := by decide +kernel
theorem dX1_placesOfKind_11 : decode cX1_placesOfKind 11 = .ok (.iload_n 3, 1) := by decide +kernel
theorem dX1_placesOfKind_12 : decode cX1_placesOfKind 12 = .ok (.iload_n 1, 1) := by decide +kernel
theorem dX1_placesOfKind_13 : decode cX1_placesOfKind 13 = .ok (.invokevirtual 107, 3) := by decide +kernel
theorem dX1_placesOfKind_16 : decode cX1_placesOfKind 16 = .ok (.ifCond .eq 6, 3) := by decide +kernel
theorem dX1_placesOfKind_19 : decode cX1_placesOfKind 19 = .ok (.iinc 2 1, 3) := by decide +kernel
theorem dX1_placesOfKind_22 : decode cX1_placesOfKind 22 = .ok (.iinc 3 1, 3) := by decide +kernel
theorem dX1_placesOfKind_25 : decode cX1_placesOfKind 25 = .ok (.goto (-21), 3) := by decide +kernel
theorem dX1_placesOfKind_28 : decode cX1_placesOfKind 28 = .ok (.iload_n 2, 1) := by decide +kernel
theorem dX1_placesOfKind_29 : decode cX1_placesOfKind 29 = .ok (.ireturn, 1) := by decide +kernel
theorem dX1_isOfKind_0 : decode cX1_isOfKind 0 = .ok (.iload_n 2, 1) := by decide +kernel
theorem dX1_isOfKind_1 : decode cX1_isOfKind 1 = .ok (.tableswitch 187 0 7 #[47, 63, 79, 94, 100, 121, 153, 170], 47) := by decide +kernel
theorem dX1_isOfKind_48 : decode cX1_isOfKind 48 = .ok (.aload_n 0, 1) := by decide +kernel
theorem dX1_isOfKind_49 : decode cX1_isOfKind 49 = .ok (.iload_n 1, 1) := by decide +kernel
theorem dX1_isOfKind_50 : decode cX1_isOfKind 50 = .ok (.invokevirtual 82, 3) := by decide +kernel
theorem dX1_isOfKind_53 : decode cX1_isOfKind 53 = .ok (.bipush (-4), 2) := by decide +kernel
theorem dX1_isOfKind_55 : decode cX1_isOfKind 55 = .ok (.if_icmp .ne 7, 3) := by decide +kernel
theorem dX1_isOfKind_58 : decode cX1_isOfKind 58 = .ok (.iconst 1, 1) := by decide +kernel
theorem dX1_isOfKind_59 : decode cX1_isOfKind 59 = .ok (.goto 4, 3) := by decide +kernel
theorem dX1_isOfKind_62 : decode cX1_isOfKind 62 = .ok (.iconst 0, 1) := by decide +kernel
theorem dX1_isOfKind_63 : decode cX1_isOfKind 63 = .ok (.ireturn, 1) := by decide +kernel
theorem dX1_isOfKind_64 : decode cX1_isOfKind 64 = .ok (.aload_n 0, 1) := by decide +kernel
theorem dX1_isOfKind_65 : decode cX1_isOfKind 65 = .ok (.getfield 24, 3) := by decide +kernel
theorem dX1_isOfKind_68 : decode cX1_isOfKind 68 = .ok (.iload_n 1, 1) := by decide +kernel
theorem dX1_isOfKind_69 : decode cX1_isOfKind 69 = .ok (.iaload, 1) := by decide +kernel
theorem dX1_isOfKind_70 : decode cX1_isOfKind 70 = .ok (.iconst 2, 1) := by decide +kernel
theorem dX1_isOfKind_71 : decode cX1_isOfKind 71 = .ok (.if_icmp .lt 7, 3) := by decide +kernel
theorem dX1_isOfKind_74 : decode cX1_isOfKind 74 = .ok (.iconst 1, 1) := by decide +kernel
theorem dX1_isOfKind_75 : decode cX1_isOfKind 75 = .ok (.goto 4, 3) := by decide +kernel
theorem dX1_isOfKind_78 : decode cX1_isOfKind 78 = .ok (.iconst 0, 1) := by decide +kernel
theorem dX1_isOfKind_79 : decode cX1_isOfKind 79 = .ok (.ireturn, 1) := by decide +kernel
theorem dX1_isOfKind_80 : decode cX1_isOfKind 80 = .ok (.aload_n 0, 1) := by decide +kernel
theorem dX1_isOfKind_81 : decode cX1_isOfKind 81 = .ok (.getfield 24, 3) := by decide +kernel
theorem dX1_isOfKind_84 : decode cX1_isOfKind 84 = .ok (.iload_n 1, 1) := by decide +kernel
theorem dX1_isOfKind_85 : decode cX1_isOfKind 85 = .ok (.iaload, 1) := by decide +kernel
theorem dX1_isOfKind_86 : decode cX1_isOfKind 86 = .ok (.ifCond .ne 7, 3) := by decide +kernel
theorem dX1_isOfKind_89 : decode cX1_isOfKind 89 = .ok (.iconst 1, 1) := by decide +kernel
theorem dX1_isOfKind_90 : decode cX1_isOfKind 90 = .ok (.goto 4, 3) := by decide +kernel
theorem dX1_isOfKind_93 : decode cX1_isOfKind 93 = .ok (.iconst 0, 1) := by decide +kernel
theorem dX1_isOfKind_94 : decode cX1_isOfKind 94 = .ok (.ireturn, 1) := by decide +kernel
theorem dX1_isOfKind_95 : decode cX1_isOfKind 95 = .ok (.aload_n 0, 1) := by decide +kernel
theorem dX1_isOfKind_96 : decode cX1_isOfKind 96 = .ok (.iload_n 1, 1) := by decide +kernel
theorem dX1_isOfKind_97 : decode cX1_isOfKind 97 = .ok (.invokevirtual 110, 3) := by decide +kernel
theorem dX1_isOfKind_100 : decode cX1_isOfKind 100 = .ok (.ireturn, 1) := by decide +kernel
theorem dX1_isOfKind_101 : decode cX1_isOfKind 101 = .ok (.aload_n 0, 1) := by decide +kernel
theorem dX1_isOfKind_102 : decode cX1_isOfKind 102 = .ok (.getfield 21, 3) := by decide +kernel
theorem dX1_isOfKind_105 : decode cX1_isOfKind 105 = .ok (.iload_n 1, 1) := by decide +kernel
theorem dX1_isOfKind_106 : decode cX1_isOfKind 106 = .ok (.iaload, 1) := by decide +kernel
theorem dX1_isOfKind_107 : decode cX1_isOfKind 107 = .ok (.aload_n 0, 1) := by decide +kernel
theorem dX1_isOfKind_108 : decode cX1_isOfKind 108 = .ok (.getfield 9, 3) := by decide +kernel
theorem dX1_isOfKind_111 : decode cX1_isOfKind 111 = .ok (.iload_n 1, 1) := by decide +kernel
theorem dX1_isOfKind_112 : decode cX1_isOfKind 112 = .ok (.iaload, 1) := by decide +kernel
theorem dX1_isOfKind_113 : decode cX1_isOfKind 113 = .ok (.if_icmp .ne 7, 3) := by decide +kernel
theorem dX1_isOfKind_116 : decode cX1_isOfKind 116 = .ok (.iconst 1, 1) := by decide +kernel
theorem dX1_isOfKind_117 : decode cX1_isOfKind 117 = .ok (.goto 4, 3) := by decide +kernel
theorem dX1_isOfKind_120 : decode cX1_isOfKind 120 = .ok (.iconst 0, 1) := by decide +kernel
theorem dX1_isOfKind_121 : decode cX1_isOfKind 121 = .ok (.ireturn, 1) := by decide +kernel
theorem dX1_isOfKind_122 : decode cX1_isOfKind 122 = .ok (.aload_n 0, 1) := by decide +kernel
theorem dX1_isOfKind_123 : decode cX1_isOfKind 123 = .ok (.getfield 21, 3) := by decide +kernel
theorem dX1_isOfKind_126 : decode cX1_isOfKind 126 = .ok (.iload_n 1, 1) := by decide +kernel
theorem dX1_isOfKind_127 : decode cX1_isOfKind 127 = .ok (.iaload, 1) := by decide +kernel
theorem dX1_isOfKind_128 : decode cX1_isOfKind 128 = .ok (.bipush (-4), 2) := by decide +kernel
theorem dX1_isOfKind_130 : decode cX1_isOfKind 130 = .ok (.if_icmp .eq 22, 3) := by decide +kernel
theorem dX1_isOfKind_133 : decode cX1_isOfKind 133 = .ok (.aload_n 0, 1) := by decide +kernel
theorem dX1_isOfKind_134 : decode cX1_isOfKind 134 = .ok (.getfield 21, 3) := by decide +kernel
theorem dX1_isOfKind_137 : decode cX1_isOfKind 137 = .ok (.iload_n 1, 1) := by decide +kernel
theorem dX1_isOfKind_138 : decode cX1_isOfKind 138 = .ok (.iaload, 1) := by decide +kernel
theorem dX1_isOfKind_139 : decode cX1_isOfKind 139 = .ok (.aload_n 0, 1) := by decide +kernel
theorem dX1_isOfKind_140 : decode cX1_isOfKind 140 = .ok (.getfield 9, 3) := by decide +kernel
theorem dX1_isOfKind_143 : decode cX1_isOfKind 143 = .ok (.iload_n 1, 1) := by decide +kernel
theorem dX1_isOfKind_144 : decode cX1_isOfKind 144 = .ok (.iaload, 1) := by decide +kernel
theorem dX1_isOfKind_145 : decode cX1_isOfKind 145 = .ok (.if_icmp .eq 7, 3) := by decide +kernel
theorem dX1_isOfKind_148 : decode cX1_isOfKind 148 = .ok (.iconst 1, 1) := by decide +kernel
theorem dX1_isOfKind_149 : decode cX1_isOfKind 149 = .ok (.goto 4, 3) := by decide +kernel
theorem dX1_isOfKind_152 : decode cX1_isOfKind 152 = .ok (.iconst 0, 1) := by decide +kernel
theorem dX1_isOfKind_153 : decode cX1_isOfKind 153 = .ok (.ireturn, 1) := by decide +kernel
theorem dX1_isOfKind_154 : decode cX1_isOfKind 154 = .ok (.aload_n 0, 1) := by decide +kernel
theorem dX1_isOfKind_155 : decode cX1_isOfKind 155 = .ok (.getfield 21, 3) := by decide +kernel
theorem dX1_isOfKind_158 : decode cX1_isOfKind 158 = .ok (.iload_n 1, 1) := by decide +kernel
theorem dX1_isOfKind_159 : decode cX1_isOfKind 159 = .ok (.iaload, 1) := by decide +kernel
theorem dX1_isOfKind_160 : decode cX1_isOfKind 160 = .ok (.bipush (-4), 2) := by decide +kernel
theorem dX1_isOfKind_162 : decode cX1_isOfKind 162 = .ok (.if_icmp .ne 7, 3) := by decide +kernel
theorem dX1_isOfKind_165 : decode cX1_isOfKind 165 = .ok (.iconst 1, 1) := by decide +kernel
theorem dX1_isOfKind_166 : decode cX1_isOfKind 166 = .ok (.goto 4, 3) := by decide +kernel
theorem dX1_isOfKind_169 : decode cX1_isOfKind 169 = .ok (.iconst 0, 1) := by decide +kernel
theorem dX1_isOfKind_170 : decode cX1_isOfKind 170 = .ok (.ireturn, 1) := by decide +kernel
theorem dX1_isOfKind_171 : decode cX1_isOfKind 171 = .ok (.aload_n 0, 1) := by decide +kernel
theorem dX1_isOfKind_172 : decode cX1_isOfKind 172 = .ok (.getfield 18, 3) := by decide +kernel
theorem dX1_isOfKind_175 : decode cX1_isOfKind 175 = .ok (.iload_n 1, 1) := by decide +kernel
theorem dX1_isOfKind_176 : decode cX1_isOfKind 176 = .ok (.iaload, 1) := by decide +kernel
theorem dX1_isOfKind_177 : decode cX1_isOfKind 177 = .ok (.bipush (-4), 2) := by decide +kernel
theorem dX1_isOfKind_179 : decode cX1_isOfKind 179 = .ok (.if_icmp .eq 7, 3) := by decide +kernel
theorem dX1_isOfKind_182 : decode cX1_isOfKind 182 = .ok (.iconst 1, 1) := by decide +kernel
theorem dX1_isOfKind_183 : decode cX1_isOfKind 183 = .ok (.goto 4, 3) := by decide +kernel
theorem dX1_isOfKind_186 : decode cX1_isOfKind 186 = .ok (.iconst 0, 1) := by decide +kernel
theorem dX1_isOfKind_187 : decode cX1_isOfKind 187 = .ok (.ireturn, 1) := by decide +kernel
theorem dX1_isOfKind_188 : decode cX1_isOfKind 188 = .ok (.iconst 0, 1) := by decide +kernel
theorem dX1_isOfKind_189 : decode cX1_isOfKind 189 = .ok (.ireturn, 1) := by decide +kernel
theorem dX1_isTorn_0 : decode cX1_isTorn 0 = .ok (.aload_n 0, 1) := by decide +kernel
theorem dX1_isTorn_1 : decode cX1_isTorn 1 = .ok (.iload_n 1, 1) := by decide +kernel
theorem dX1_isTorn_2 : decode cX1_isTorn 2 = .ok (.invokevirtual 82, 3) := by decide +kernel
theorem dX1_isTorn_5 : decode cX1_isTorn 5 = .ok (.istore_n 2, 1) := by decide +kernel
theorem dX1_isTorn_6 : decode cX1_isTorn 6 = .ok (.iload_n 2, 1) := by decide +kernel
theorem dX1_isTorn_7 : decode cX1_isTorn 7 = .ok (.bipush (-4), 2) := by decide +kernel
theorem dX1_isTorn_9 : decode cX1_isTorn 9 = .ok (.if_icmp .eq 22, 3) := by decide +kernel
theorem dX1_isTorn_12 : decode cX1_isTorn 12 = .ok (.aload_n 0, 1) := by decide +kernel
theorem dX1_isTorn_13 : decode cX1_isTorn 13 = .ok (.getfield 15, 3) := by decide +kernel
theorem dX1_isTorn_16 : decode cX1_isTorn 16 = .ok (.iload_n 1, 1) := by decide +kernel
theorem dX1_isTorn_17 : decode cX1_isTorn 17 = .ok (.iaload, 1) := by decide +kernel
theorem dX1_isTorn_18 : decode cX1_isTorn 18 = .ok (.aload_n 0, 1) := by decide +kernel
theorem dX1_isTorn_19 : decode cX1_isTorn 19 = .ok (.getfield 15, 3) := by decide +kernel
theorem dX1_isTorn_22 : decode cX1_isTorn 22 = .ok (.iload_n 2, 1) := by decide +kernel
theorem dX1_isTorn_23 : decode cX1_isTorn 23 = .ok (.iaload, 1) := by decide +kernel
theorem dX1_isTorn_24 : decode cX1_isTorn 24 = .ok (.if_icmp .eq 7, 3) := by decide +kernel
theorem dX1_isTorn_27 : decode cX1_isTorn 27 = .ok (.iconst 1, 1) := by decide +kernel
theorem dX1_isTorn_28 : decode cX1_isTorn 28 = .ok (.goto 4, 3) := by decide +kernel
theorem dX1_isTorn_31 : decode cX1_isTorn 31 = .ok (.iconst 0, 1) := by decide +kernel
theorem dX1_isTorn_32 : decode cX1_isTorn 32 = .ok (.ireturn, 1) := by decide +kernel
theorem dX1_placesOfChain_0 : decode cX1_placesOfChain 0 = .ok (.iconst 0, 1) := by decide +kernel
theorem dX1_placesOfChain_1 : decode cX1_placesOfChain 1 = .ok (.istore_n 2, 1) := by decide +kernel
theorem dX1_placesOfChain_2 : decode cX1_placesOfChain 2 = .ok (.iconst 0, 1) := by decide +kernel
theorem dX1_placesOfChain_3 : decode cX1_placesOfChain 3 = .ok (.istore_n 3, 1) := by decide +kernel
theorem dX1_placesOfChain_4 : decode cX1_placesOfChain 4 = .ok (.iload_n 3, 1) := by decide +kernel
theorem dX1_placesOfChain_5 : decode cX1_placesOfChain 5 = .ok (.bipush 32, 2) := by decide +kernel
theorem dX1_placesOfChain_7 : decode cX1_placesOfChain 7 = .ok (.if_icmp .ge 22, 3) := by decide +kernel
theorem dX1_placesOfChain_10 : decode cX1_placesOfChain 10 = .ok (.aload_n 0, 1) := by decide +kernel
theorem dX1_placesOfChain_11 : decode cX1_placesOfChain 11 = .ok (.getfield 27, 3) := by decide +kernel
theorem dX1_placesOfChain_14 : decode cX1_placesOfChain 14 = .ok (.iload_n 3, 1) := by decide +kernel
theorem dX1_placesOfChain_15 : decode cX1_placesOfChain 15 = .ok (.iaload, 1) := by decide +kernel
theorem dX1_placesOfChain_16 : decode cX1_placesOfChain 16 = .ok (.iload_n 1, 1) := by decide +kernel
theorem dX1_placesOfChain_17 : decode cX1_placesOfChain 17 = .ok (.if_icmp .ne 6, 3) := by decide +kernel
theorem dX1_placesOfChain_20 : decode cX1_placesOfChain 20 = .ok (.iinc 2 1, 3) := by decide +kernel
theorem dX1_placesOfChain_23 : decode cX1_placesOfChain 23 = .ok (.iinc 3 1, 3) := by decide +kernel
theorem dX1_placesOfChain_26 : decode cX1_placesOfChain 26 = .ok (.goto (-22), 3) := by decide +kernel
theorem dX1_placesOfChain_29 : decode cX1_placesOfChain 29 = .ok (.iload_n 2, 1) := by decide +kernel
theorem dX1_placesOfChain_30 : decode cX1_placesOfChain 30 = .ok (.ireturn, 1) := by decide +kernel
theorem dX1_longestChain_0 : decode cX1_longestChain 0 = .ok (.iconst 0, 1) := by decide +kernel
theorem dX1_longestChain_1 : decode cX1_longestChain 1 = .ok (.istore_n 1, 1) := by decide +kernel
theorem dX1_longestChain_2 : decode cX1_longestChain 2 = .ok (.iconst 0, 1) := by decide +kernel
theorem dX1_longestChain_3 : decode cX1_longestChain 3 = .ok (.istore_n 2, 1) := by decide +kernel
theorem dX1_longestChain_4 : decode cX1_longestChain 4 = .ok (.iload_n 2, 1) := by decide +kernel
theorem dX1_longestChain_5 : decode cX1_longestChain 5 = .ok (.bipush 32, 2) := by decide +kernel
theorem dX1_longestChain_7 : decode cX1_longestChain 7 = .ok (.if_icmp .ge 19, 3) := by decide +kernel
theorem dX1_longestChain_10 : decode cX1_longestChain 10 = .ok (.iload_n 1, 1) := by decide +kernel
theorem dX1_longestChain_11 : decode cX1_longestChain 11 = .ok (.aload_n 0, 1) := by decide +kernel
theorem dX1_longestChain_12 : decode cX1_longestChain 12 = .ok (.iload_n 2, 1) := by decide +kernel
theorem dX1_longestChain_13 : decode cX1_longestChain 13 = .ok (.invokevirtual 114, 3) := by decide +kernel
theorem dX1_longestChain_16 : decode cX1_longestChain 16 = .ok (.invokestatic 99, 3) := by decide +kernel
theorem dX1_longestChain_19 : decode cX1_longestChain 19 = .ok (.istore_n 1, 1) := by decide +kernel
theorem dX1_longestChain_20 : decode cX1_longestChain 20 = .ok (.iinc 2 1, 3) := by decide +kernel
theorem dX1_longestChain_23 : decode cX1_longestChain 23 = .ok (.goto (-19), 3) := by decide +kernel
theorem dX1_longestChain_26 : decode cX1_longestChain 26 = .ok (.iload_n 1, 1) := by decide +kernel
theorem dX1_longestChain_27 : decode cX1_longestChain 27 = .ok (.ireturn, 1) := by decide +kernel
theorem dX1_differentDots_0 : decode cX1_differentDots 0 = .ok (.iconst 0, 1) := by decide +kernel
theorem dX1_differentDots_1 : decode cX1_differentDots 1 = .ok (.istore_n 1, 1) := by decide +kernel
theorem dX1_differentDots_2 : decode cX1_differentDots 2 = .ok (.iconst 0, 1) := by decide +kernel
theorem dX1_differentDots_3 : decode cX1_differentDots 3 = .ok (.istore_n 2, 1) := by decide +kernel
theorem dX1_differentDots_4 : decode cX1_differentDots 4 = .ok (.iload_n 2, 1) := by decide +kernel
theorem dX1_differentDots_5 : decode cX1_differentDots 5 = .ok (.bipush 32, 2) := by decide +kernel
theorem dX1_differentDots_7 : decode cX1_differentDots 7 = .ok (.if_icmp .ge 20, 3) := by decide +kernel
theorem dX1_differentDots_10 : decode cX1_differentDots 10 = .ok (.iload_n 1, 1) := by decide +kernel
theorem dX1_differentDots_11 : decode cX1_differentDots 11 = .ok (.iconst 1, 1) := by decide +kernel
theorem dX1_differentDots_12 : decode cX1_differentDots 12 = .ok (.aload_n 0, 1) := by decide +kernel
theorem dX1_differentDots_13 : decode cX1_differentDots 13 = .ok (.getfield 15, 3) := by decide +kernel
theorem dX1_differentDots_16 : decode cX1_differentDots 16 = .ok (.iload_n 2, 1) := by decide +kernel
theorem dX1_differentDots_17 : decode cX1_differentDots 17 = .ok (.iaload, 1) := by decide +kernel
theorem dX1_differentDots_18 : decode cX1_differentDots 18 = .ok (.ishl, 1) := by decide +kernel
theorem dX1_differentDots_19 : decode cX1_differentDots 19 = .ok (.ior, 1) := by decide +kernel
theorem dX1_differentDots_20 : decode cX1_differentDots 20 = .ok (.istore_n 1, 1) := by decide +kernel
theorem dX1_differentDots_21 : decode cX1_differentDots 21 = .ok (.iinc 2 1, 3) := by decide +kernel
theorem dX1_differentDots_24 : decode cX1_differentDots 24 = .ok (.goto (-20), 3) := by decide +kernel
theorem dX1_differentDots_27 : decode cX1_differentDots 27 = .ok (.iload_n 1, 1) := by decide +kernel
theorem dX1_differentDots_28 : decode cX1_differentDots 28 = .ok (.invokestatic 117, 3) := by decide +kernel
theorem dX1_differentDots_31 : decode cX1_differentDots 31 = .ok (.ireturn, 1) := by decide +kernel
theorem dX1_changesOfPlane_0 : decode cX1_changesOfPlane 0 = .ok (.iconst 0, 1) := by decide +kernel
theorem dX1_changesOfPlane_1 : decode cX1_changesOfPlane 1 = .ok (.istore_n 1, 1) := by decide +kernel
theorem dX1_changesOfPlane_2 : decode cX1_changesOfPlane 2 = .ok (.bipush (-4), 2) := by decide +kernel
theorem dX1_changesOfPlane_4 : decode cX1_changesOfPlane 4 = .ok (.istore_n 2, 1) := by decide +kernel
theorem dX1_changesOfPlane_5 : decode cX1_changesOfPlane 5 = .ok (.iconst 0, 1) := by decide +kernel
theorem dX1_changesOfPlane_6 : decode cX1_changesOfPlane 6 = .ok (.istore_n 3, 1) := by decide +kernel
theorem dX1_changesOfPlane_7 : decode cX1_changesOfPlane 7 = .ok (.iload_n 3, 1) := by decide +kernel
theorem dX1_changesOfPlane_8 : decode cX1_changesOfPlane 8 = .ok (.bipush 32, 2) := by decide +kernel
theorem dX1_changesOfPlane_10 : decode cX1_changesOfPlane 10 = .ok (.if_icmp .ge 46, 3) := by decide +kernel
theorem dX1_changesOfPlane_13 : decode cX1_changesOfPlane 13 = .ok (.aload_n 0, 1) := by decide +kernel
theorem dX1_changesOfPlane_14 : decode cX1_changesOfPlane 14 = .ok (.getfield 21, 3) := by decide +kernel
theorem dX1_changesOfPlane_17 : decode cX1_changesOfPlane 17 = .ok (.iload_n 3, 1) := by decide +kernel
theorem dX1_changesOfPlane_18 : decode cX1_changesOfPlane 18 = .ok (.iaload, 1) := by decide +kernel
theorem dX1_changesOfPlane_19 : decode cX1_changesOfPlane 19 = .ok (.bipush (-4), 2) := by decide +kernel
theorem dX1_changesOfPlane_21 : decode cX1_changesOfPlane 21 = .ok (.if_icmp .eq 29, 3) := by decide +kernel
theorem dX1_changesOfPlane_24 : decode cX1_changesOfPlane 24 = .ok (.iload_n 2, 1) := by decide +kernel
theorem dX1_changesOfPlane_25 : decode cX1_changesOfPlane 25 = .ok (.bipush (-4), 2) := by decide +kernel
theorem dX1_changesOfPlane_27 : decode cX1_changesOfPlane 27 = .ok (.if_icmp .eq 16, 3) := by decide +kernel
theorem dX1_changesOfPlane_30 : decode cX1_changesOfPlane 30 = .ok (.aload_n 0, 1) := by decide +kernel
theorem dX1_changesOfPlane_31 : decode cX1_changesOfPlane 31 = .ok (.getfield 21, 3) := by decide +kernel
theorem dX1_changesOfPlane_34 : decode cX1_changesOfPlane 34 = .ok (.iload_n 3, 1) := by decide +kernel
theorem dX1_changesOfPlane_35 : decode cX1_changesOfPlane 35 = .ok (.iaload, 1) := by decide +kernel
theorem dX1_changesOfPlane_36 : decode cX1_changesOfPlane 36 = .ok (.iload_n 2, 1) := by decide +kernel
theorem dX1_changesOfPlane_37 : decode cX1_changesOfPlane 37 = .ok (.if_icmp .eq 6, 3) := by decide +kernel
theorem dX1_changesOfPlane_40 : decode cX1_changesOfPlane 40 = .ok (.iinc 1 1, 3) := by decide +kernel
theorem dX1_changesOfPlane_43 : decode cX1_changesOfPlane 43 = .ok (.aload_n 0, 1) := by decide +kernel
theorem dX1_changesOfPlane_44 : decode cX1_changesOfPlane 44 = .ok (.getfield 21, 3) := by decide +kernel
theorem dX1_changesOfPlane_47 : decode cX1_changesOfPlane 47 = .ok (.iload_n 3, 1) := by decide +kernel
theorem dX1_changesOfPlane_48 : decode cX1_changesOfPlane 48 = .ok (.iaload, 1) := by decide +kernel
theorem dX1_changesOfPlane_49 : decode cX1_changesOfPlane 49 = .ok (.istore_n 2, 1) := by decide +kernel
theorem dX1_changesOfPlane_50 : decode cX1_changesOfPlane 50 = .ok (.iinc 3 1, 3) := by decide +kernel
theorem dX1_changesOfPlane_53 : decode cX1_changesOfPlane 53 = .ok (.goto (-46), 3) := by decide +kernel
theorem dX1_changesOfPlane_56 : decode cX1_changesOfPlane 56 = .ok (.iload_n 1, 1) := by decide +kernel
theorem dX1_changesOfPlane_57 : decode cX1_changesOfPlane 57 = .ok (.ireturn, 1) := by decide +kernel
theorem dX1_echoOf_0 : decode cX1_echoOf 0 = .ok (.iconst 0, 1) := by decide +kernel
theorem dX1_echoOf_1 : decode cX1_echoOf 1 = .ok (.istore_n 2, 1) := by decide +kernel
theorem dX1_echoOf_2 : decode cX1_echoOf 2 = .ok (.iload_n 1, 1) := by decide +kernel
theorem dX1_echoOf_3 : decode cX1_echoOf 3 = .ok (.iconst 0, 1) := by decide +kernel
theorem dX1_echoOf_4 : decode cX1_echoOf 4 = .ok (.invokestatic 99, 3) := by decide +kernel
theorem dX1_echoOf_7 : decode cX1_echoOf 7 = .ok (.istore_n 3, 1) := by decide +kernel
theorem dX1_echoOf_8 : decode cX1_echoOf 8 = .ok (.iload_n 3, 1) := by decide +kernel
theorem dX1_echoOf_9 : decode cX1_echoOf 9 = .ok (.bipush 32, 2) := by decide +kernel
theorem dX1_echoOf_11 : decode cX1_echoOf 11 = .ok (.if_icmp .ge 29, 3) := by decide +kernel
theorem dX1_echoOf_14 : decode cX1_echoOf 14 = .ok (.aload_n 0, 1) := by decide +kernel
theorem dX1_echoOf_15 : decode cX1_echoOf 15 = .ok (.getfield 15, 3) := by decide +kernel
theorem dX1_echoOf_18 : decode cX1_echoOf 18 = .ok (.iload_n 3, 1) := by decide +kernel
theorem dX1_echoOf_19 : decode cX1_echoOf 19 = .ok (.iaload, 1) := by decide +kernel
theorem dX1_echoOf_20 : decode cX1_echoOf 20 = .ok (.aload_n 0, 1) := by decide +kernel
theorem dX1_echoOf_21 : decode cX1_echoOf 21 = .ok (.getfield 15, 3) := by decide +kernel
theorem dX1_echoOf_24 : decode cX1_echoOf 24 = .ok (.iload_n 3, 1) := by decide +kernel
theorem dX1_echoOf_25 : decode cX1_echoOf 25 = .ok (.iload_n 1, 1) := by decide +kernel
theorem dX1_echoOf_26 : decode cX1_echoOf 26 = .ok (.isub, 1) := by decide +kernel
theorem dX1_echoOf_27 : decode cX1_echoOf 27 = .ok (.iaload, 1) := by decide +kernel
theorem dX1_echoOf_28 : decode cX1_echoOf 28 = .ok (.if_icmp .ne 6, 3) := by decide +kernel
theorem dX1_echoOf_31 : decode cX1_echoOf 31 = .ok (.iinc 2 1, 3) := by decide +kernel
theorem dX1_echoOf_34 : decode cX1_echoOf 34 = .ok (.iinc 3 1, 3) := by decide +kernel
theorem dX1_echoOf_37 : decode cX1_echoOf 37 = .ok (.goto (-29), 3) := by decide +kernel
theorem dX1_echoOf_40 : decode cX1_echoOf 40 = .ok (.iload_n 2, 1) := by decide +kernel
theorem dX1_echoOf_41 : decode cX1_echoOf 41 = .ok (.ireturn, 1) := by decide +kernel
theorem dX1_numberOfPlane_0 : decode cX1_numberOfPlane 0 = .ok (.iconst 0, 1) := by decide +kernel
theorem dX1_numberOfPlane_1 : decode cX1_numberOfPlane 1 = .ok (.istore_n 3, 1) := by decide +kernel
theorem dX1_numberOfPlane_2 : decode cX1_numberOfPlane 2 = .ok (.iconst 0, 1) := by decide +kernel
theorem dX1_numberOfPlane_3 : decode cX1_numberOfPlane 3 = .ok (.istore 4, 2) := by decide +kernel
theorem dX1_numberOfPlane_5 : decode cX1_numberOfPlane 5 = .ok (.iconst 0, 1) := by decide +kernel
theorem dX1_numberOfPlane_6 : decode cX1_numberOfPlane 6 = .ok (.istore 5, 2) := by decide +kernel
theorem dX1_numberOfPlane_8 : decode cX1_numberOfPlane 8 = .ok (.iconst 0, 1) := by decide +kernel
theorem dX1_numberOfPlane_9 : decode cX1_numberOfPlane 9 = .ok (.istore 6, 2) := by decide +kernel
theorem dX1_numberOfPlane_11 : decode cX1_numberOfPlane 11 = .ok (.iload 6, 2) := by decide +kernel
theorem dX1_numberOfPlane_13 : decode cX1_numberOfPlane 13 = .ok (.bipush 32, 2) := by decide +kernel
theorem dX1_numberOfPlane_15 : decode cX1_numberOfPlane 15 = .ok (.if_icmp .ge 93, 3) := by decide +kernel
theorem dX1_numberOfPlane_18 : decode cX1_numberOfPlane 18 = .ok (.aload_n 0, 1) := by decide +kernel
theorem dX1_numberOfPlane_19 : decode cX1_numberOfPlane 19 = .ok (.getfield 9, 3) := by decide +kernel
theorem dX1_numberOfPlane_22 : decode cX1_numberOfPlane 22 = .ok (.iload 6, 2) := by decide +kernel
theorem dX1_numberOfPlane_24 : decode cX1_numberOfPlane 24 = .ok (.iaload, 1) := by decide +kernel
theorem dX1_numberOfPlane_25 : decode cX1_numberOfPlane 25 = .ok (.iload_n 1, 1) := by decide +kernel
theorem dX1_numberOfPlane_26 : decode cX1_numberOfPlane 26 = .ok (.if_icmp .ne 7, 3) := by decide +kernel
theorem dX1_numberOfPlane_29 : decode cX1_numberOfPlane 29 = .ok (.iconst 1, 1) := by decide +kernel
theorem dX1_numberOfPlane_30 : decode cX1_numberOfPlane 30 = .ok (.goto 4, 3) := by decide +kernel
theorem dX1_numberOfPlane_33 : decode cX1_numberOfPlane 33 = .ok (.iconst 0, 1) := by decide +kernel
theorem dX1_numberOfPlane_34 : decode cX1_numberOfPlane 34 = .ok (.istore 7, 2) := by decide +kernel
theorem dX1_numberOfPlane_36 : decode cX1_numberOfPlane 36 = .ok (.aload_n 0, 1) := by decide +kernel
theorem dX1_numberOfPlane_37 : decode cX1_numberOfPlane 37 = .ok (.getfield 21, 3) := by decide +kernel
theorem dX1_numberOfPlane_40 : decode cX1_numberOfPlane 40 = .ok (.iload 6, 2) := by decide +kernel
theorem dX1_numberOfPlane_42 : decode cX1_numberOfPlane 42 = .ok (.iaload, 1) := by decide +kernel
theorem dX1_numberOfPlane_43 : decode cX1_numberOfPlane 43 = .ok (.iload_n 1, 1) := by decide +kernel
theorem dX1_numberOfPlane_44 : decode cX1_numberOfPlane 44 = .ok (.if_icmp .ne 7, 3) := by decide +kernel
theorem dX1_numberOfPlane_47 : decode cX1_numberOfPlane 47 = .ok (.iconst 1, 1) := by decide +kernel
theorem dX1_numberOfPlane_48 : decode cX1_numberOfPlane 48 = .ok (.goto 4, 3) := by decide +kernel
theorem dX1_numberOfPlane_51 : decode cX1_numberOfPlane 51 = .ok (.iconst 0, 1) := by decide +kernel
theorem dX1_numberOfPlane_52 : decode cX1_numberOfPlane 52 = .ok (.istore 8, 2) := by decide +kernel
theorem dX1_numberOfPlane_54 : decode cX1_numberOfPlane 54 = .ok (.iload_n 3, 1) := by decide +kernel
theorem dX1_numberOfPlane_55 : decode cX1_numberOfPlane 55 = .ok (.iload 7, 2) := by decide +kernel
theorem dX1_numberOfPlane_57 : decode cX1_numberOfPlane 57 = .ok (.ifCond .eq 7, 3) := by decide +kernel
theorem dX1_numberOfPlane_60 : decode cX1_numberOfPlane 60 = .ok (.iconst 1, 1) := by decide +kernel
theorem dX1_numberOfPlane_61 : decode cX1_numberOfPlane 61 = .ok (.goto 4, 3) := by decide +kernel
theorem dX1_numberOfPlane_64 : decode cX1_numberOfPlane 64 = .ok (.iconst 0, 1) := by decide +kernel
theorem dX1_numberOfPlane_65 : decode cX1_numberOfPlane 65 = .ok (.iadd, 1) := by decide +kernel
theorem dX1_numberOfPlane_66 : decode cX1_numberOfPlane 66 = .ok (.istore_n 3, 1) := by decide +kernel
theorem dX1_numberOfPlane_67 : decode cX1_numberOfPlane 67 = .ok (.iload 4, 2) := by decide +kernel
theorem dX1_numberOfPlane_69 : decode cX1_numberOfPlane 69 = .ok (.iload 8, 2) := by decide +kernel
theorem dX1_numberOfPlane_71 : decode cX1_numberOfPlane 71 = .ok (.ifCond .eq 7, 3) := by decide +kernel
theorem dX1_numberOfPlane_74 : decode cX1_numberOfPlane 74 = .ok (.iconst 1, 1) := by decide +kernel
theorem dX1_numberOfPlane_75 : decode cX1_numberOfPlane 75 = .ok (.goto 4, 3) := by decide +kernel
theorem dX1_numberOfPlane_78 : decode cX1_numberOfPlane 78 = .ok (.iconst 0, 1) := by decide +kernel
theorem dX1_numberOfPlane_79 : decode cX1_numberOfPlane 79 = .ok (.iadd, 1) := by decide +kernel
theorem dX1_numberOfPlane_80 : decode cX1_numberOfPlane 80 = .ok (.istore 4, 2) := by decide +kernel
theorem dX1_numberOfPlane_82 : decode cX1_numberOfPlane 82 = .ok (.iload 5, 2) := by decide +kernel
theorem dX1_numberOfPlane_84 : decode cX1_numberOfPlane 84 = .ok (.iload 7, 2) := by decide +kernel
theorem dX1_numberOfPlane_86 : decode cX1_numberOfPlane 86 = .ok (.ifCond .eq 12, 3) := by decide +kernel
theorem dX1_numberOfPlane_89 : decode cX1_numberOfPlane 89 = .ok (.iload 8, 2) := by decide +kernel
theorem dX1_numberOfPlane_91 : decode cX1_numberOfPlane 91 = .ok (.ifCond .eq 7, 3) := by decide +kernel
theorem dX1_numberOfPlane_94 : decode cX1_numberOfPlane 94 = .ok (.iconst 1, 1) := by decide +kernel
theorem dX1_numberOfPlane_95 : decode cX1_numberOfPlane 95 = .ok (.goto 4, 3) := by decide +kernel
theorem dX1_numberOfPlane_98 : decode cX1_numberOfPlane 98 = .ok (.iconst 0, 1) := by decide +kernel
theorem dX1_numberOfPlane_99 : decode cX1_numberOfPlane 99 = .ok (.iadd, 1) := by decide +kernel
theorem dX1_numberOfPlane_100 : decode cX1_numberOfPlane 100 = .ok (.istore 5, 2) := by decide +kernel
theorem dX1_numberOfPlane_102 : decode cX1_numberOfPlane 102 = .ok (.iinc 6 1, 3) := by decide +kernel
theorem dX1_numberOfPlane_105 : decode cX1_numberOfPlane 105 = .ok (.goto (-94), 3) := by decide +kernel
theorem dX1_numberOfPlane_108 : decode cX1_numberOfPlane 108 = .ok (.iload_n 2, 1) := by decide +kernel
theorem dX1_numberOfPlane_109 : decode cX1_numberOfPlane 109 = .ok (.tableswitch 35 0 2 #[27, 29, 32], 27) := by decide +kernel
theorem dX1_numberOfPlane_136 : decode cX1_numberOfPlane 136 = .ok (.iload_n 3, 1) := by decide +kernel
theorem dX1_numberOfPlane_137 : decode cX1_numberOfPlane 137 = .ok (.ireturn, 1) := by decide +kernel
theorem dX1_numberOfPlane_138 : decode cX1_numberOfPlane 138 = .ok (.iload 4, 2) := by decide +kernel
theorem dX1_numberOfPlane_140 : decode cX1_numberOfPlane 140 = .ok (.ireturn, 1) := by decide +kernel
theorem dX1_numberOfPlane_141 : decode cX1_numberOfPlane 141 = .ok (.iload 5, 2) := by decide +kernel
theorem dX1_numberOfPlane_143 : decode cX1_numberOfPlane 143 = .ok (.ireturn, 1) := by decide +kernel
theorem dX1_numberOfPlane_144 : decode cX1_numberOfPlane 144 = .ok (.iload_n 3, 1) := by decide +kernel
theorem dX1_numberOfPlane_145 : decode cX1_numberOfPlane 145 = .ok (.ifCond .le 7, 3) := by decide +kernel
theorem dX1_numberOfPlane_148 : decode cX1_numberOfPlane 148 = .ok (.iconst 1, 1) := by decide +kernel
theorem dX1_numberOfPlane_149 : decode cX1_numberOfPlane 149 = .ok (.goto 4, 3) := by decide +kernel
theorem dX1_numberOfPlane_152 : decode cX1_numberOfPlane 152 = .ok (.iconst 0, 1) := by decide +kernel
theorem dX1_numberOfPlane_153 : decode cX1_numberOfPlane 153 = .ok (.ireturn, 1) := by decide +kernel
theorem dX1_placesSeenAs_0 : decode cX1_placesSeenAs 0 = .ok (.iconst 0, 1) := by decide +kernel
theorem dX1_placesSeenAs_1 : decode cX1_placesSeenAs 1 = .ok (.istore_n 2, 1) := by decide +kernel
theorem dX1_placesSeenAs_2 : decode cX1_placesSeenAs 2 = .ok (.iconst 0, 1) := by decide +kernel
theorem dX1_placesSeenAs_3 : decode cX1_placesSeenAs 3 = .ok (.istore_n 3, 1) := by decide +kernel
theorem dX1_placesSeenAs_4 : decode cX1_placesSeenAs 4 = .ok (.iload_n 3, 1) := by decide +kernel
theorem dX1_placesSeenAs_5 : decode cX1_placesSeenAs 5 = .ok (.bipush 32, 2) := by decide +kernel
theorem dX1_placesSeenAs_7 : decode cX1_placesSeenAs 7 = .ok (.if_icmp .ge 27, 3) := by decide +kernel
theorem dX1_placesSeenAs_10 : decode cX1_placesSeenAs 10 = .ok (.aload_n 0, 1) := by decide +kernel
theorem dX1_placesSeenAs_11 : decode cX1_placesSeenAs 11 = .ok (.getfield 21, 3) := by decide +kernel
theorem dX1_placesSeenAs_14 : decode cX1_placesSeenAs 14 = .ok (.iload_n 3, 1) := by decide +kernel
theorem dX1_placesSeenAs_15 : decode cX1_placesSeenAs 15 = .ok (.iaload, 1) := by decide +kernel
theorem dX1_placesSeenAs_16 : decode cX1_placesSeenAs 16 = .ok (.aload_n 1, 1) := by decide +kernel
theorem dX1_placesSeenAs_17 : decode cX1_placesSeenAs 17 = .ok (.getfield 21, 3) := by decide +kernel
theorem dX1_placesSeenAs_20 : decode cX1_placesSeenAs 20 = .ok (.iload_n 3, 1) := by decide +kernel
theorem dX1_placesSeenAs_21 : decode cX1_placesSeenAs 21 = .ok (.iaload, 1) := by decide +kernel
theorem dX1_placesSeenAs_22 : decode cX1_placesSeenAs 22 = .ok (.if_icmp .ne 6, 3) := by decide +kernel
theorem dX1_placesSeenAs_25 : decode cX1_placesSeenAs 25 = .ok (.iinc 2 1, 3) := by decide +kernel
theorem dX1_placesSeenAs_28 : decode cX1_placesSeenAs 28 = .ok (.iinc 3 1, 3) := by decide +kernel
theorem dX1_placesSeenAs_31 : decode cX1_placesSeenAs 31 = .ok (.goto (-27), 3) := by decide +kernel
theorem dX1_placesSeenAs_34 : decode cX1_placesSeenAs 34 = .ok (.iload_n 2, 1) := by decide +kernel
theorem dX1_placesSeenAs_35 : decode cX1_placesSeenAs 35 = .ok (.ireturn, 1) := by decide +kernel
theorem dX1_farthestSeenOtherwise_0 : decode cX1_farthestSeenOtherwise 0 = .ok (.bipush (-4), 2) := by decide +kernel
theorem dX1_farthestSeenOtherwise_2 : decode cX1_farthestSeenOtherwise 2 = .ok (.istore_n 3, 1) := by decide +kernel
theorem dX1_farthestSeenOtherwise_3 : decode cX1_farthestSeenOtherwise 3 = .ok (.iconst 0, 1) := by decide +kernel
theorem dX1_farthestSeenOtherwise_4 : decode cX1_farthestSeenOtherwise 4 = .ok (.istore 4, 2) := by decide +kernel
theorem dX1_farthestSeenOtherwise_6 : decode cX1_farthestSeenOtherwise 6 = .ok (.iload 4, 2) := by decide +kernel
theorem dX1_farthestSeenOtherwise_8 : decode cX1_farthestSeenOtherwise 8 = .ok (.bipush 32, 2) := by decide +kernel
theorem dX1_farthestSeenOtherwise_10 : decode cX1_farthestSeenOtherwise 10 = .ok (.if_icmp .ge 38, 3) := by decide +kernel
theorem dX1_farthestSeenOtherwise_13 : decode cX1_farthestSeenOtherwise 13 = .ok (.aload_n 0, 1) := by decide +kernel
theorem dX1_farthestSeenOtherwise_14 : decode cX1_farthestSeenOtherwise 14 = .ok (.getfield 21, 3) := by decide +kernel
theorem dX1_farthestSeenOtherwise_17 : decode cX1_farthestSeenOtherwise 17 = .ok (.iload 4, 2) := by decide +kernel
theorem dX1_farthestSeenOtherwise_19 : decode cX1_farthestSeenOtherwise 19 = .ok (.iaload, 1) := by decide +kernel
theorem dX1_farthestSeenOtherwise_20 : decode cX1_farthestSeenOtherwise 20 = .ok (.aload_n 1, 1) := by decide +kernel
theorem dX1_farthestSeenOtherwise_21 : decode cX1_farthestSeenOtherwise 21 = .ok (.getfield 21, 3) := by decide +kernel
theorem dX1_farthestSeenOtherwise_24 : decode cX1_farthestSeenOtherwise 24 = .ok (.iload 4, 2) := by decide +kernel
theorem dX1_farthestSeenOtherwise_26 : decode cX1_farthestSeenOtherwise 26 = .ok (.iaload, 1) := by decide +kernel
theorem dX1_farthestSeenOtherwise_27 : decode cX1_farthestSeenOtherwise 27 = .ok (.if_icmp .eq 15, 3) := by decide +kernel
theorem dX1_farthestSeenOtherwise_30 : decode cX1_farthestSeenOtherwise 30 = .ok (.iload_n 3, 1) := by decide +kernel
theorem dX1_farthestSeenOtherwise_31 : decode cX1_farthestSeenOtherwise 31 = .ok (.iload 4, 2) := by decide +kernel
theorem dX1_farthestSeenOtherwise_33 : decode cX1_farthestSeenOtherwise 33 = .ok (.iload_n 2, 1) := by decide +kernel
theorem dX1_farthestSeenOtherwise_34 : decode cX1_farthestSeenOtherwise 34 = .ok (.isub, 1) := by decide +kernel
theorem dX1_farthestSeenOtherwise_35 : decode cX1_farthestSeenOtherwise 35 = .ok (.invokestatic 122, 3) := by decide +kernel
theorem dX1_farthestSeenOtherwise_38 : decode cX1_farthestSeenOtherwise 38 = .ok (.invokestatic 99, 3) := by decide +kernel
theorem dX1_farthestSeenOtherwise_41 : decode cX1_farthestSeenOtherwise 41 = .ok (.istore_n 3, 1) := by decide +kernel
theorem dX1_farthestSeenOtherwise_42 : decode cX1_farthestSeenOtherwise 42 = .ok (.iinc 4 1, 3) := by decide +kernel
theorem dX1_farthestSeenOtherwise_45 : decode cX1_farthestSeenOtherwise 45 = .ok (.goto (-39), 3) := by decide +kernel
theorem dX1_farthestSeenOtherwise_48 : decode cX1_farthestSeenOtherwise 48 = .ok (.iload_n 3, 1) := by decide +kernel
theorem dX1_farthestSeenOtherwise_49 : decode cX1_farthestSeenOtherwise 49 = .ok (.ireturn, 1) := by decide +kernel
theorem dX2_init_0 : decode cX2_init 0 = .ok (.aload_n 0, 1) := by decide +kernel
theorem dX2_init_1 : decode cX2_init 1 = .ok (.invokespecial 3, 3) := by decide +kernel
theorem dX2_init_4 : decode cX2_init 4 = .ok (.aload_n 0, 1) := by decide +kernel
theorem dX2_init_5 : decode cX2_init 5 = .ok (.bipush 80, 2) := by decide +kernel
theorem dX2_init_7 : decode cX2_init 7 = .ok (.newarray .int, 2) := by decide +kernel
theorem dX2_init_9 : decode cX2_init 9 = .ok (.putfield 9, 3) := by decide +kernel
theorem dX2_init_12 : decode cX2_init 12 = .ok (.aload_n 0, 1) := by decide +kernel
theorem dX2_init_13 : decode cX2_init 13 = .ok (.new 15, 3) := by decide +kernel
theorem dX2_init_16 : decode cX2_init 16 = .ok (.dup, 1) := by decide +kernel
theorem dX2_init_17 : decode cX2_init 17 = .ok (.invokespecial 17, 3) := by decide +kernel
theorem dX2_init_20 : decode cX2_init 20 = .ok (.putfield 18, 3) := by decide +kernel
theorem dX2_init_23 : decode cX2_init 23 = .ok (.return_, 1) := by decide +kernel
theorem dX2_add_0 : decode cX2_add 0 = .ok (.aload_n 0, 1) := by decide +kernel
theorem dX2_add_1 : decode cX2_add 1 = .ok (.getfield 22, 3) := by decide +kernel
theorem dX2_add_4 : decode cX2_add 4 = .ok (.bipush 80, 2) := by decide +kernel
theorem dX2_add_6 : decode cX2_add 6 = .ok (.if_icmp .lt 5, 3) := by decide +kernel
theorem dX2_add_9 : decode cX2_add 9 = .ok (.iconst 0, 1) := by decide +kernel
theorem dX2_add_10 : decode cX2_add 10 = .ok (.ireturn, 1) := by decide +kernel
theorem dX2_add_11 : decode cX2_add 11 = .ok (.aload_n 0, 1) := by decide +kernel
theorem dX2_add_12 : decode cX2_add 12 = .ok (.getfield 9, 3) := by decide +kernel
theorem dX2_add_15 : decode cX2_add 15 = .ok (.aload_n 0, 1) := by decide +kernel
theorem dX2_add_16 : decode cX2_add 16 = .ok (.getfield 22, 3) := by decide +kernel
theorem dX2_add_19 : decode cX2_add 19 = .ok (.iload_n 1, 1) := by decide +kernel
theorem dX2_add_20 : decode cX2_add 20 = .ok (.iastore, 1) := by decide +kernel
theorem dX2_add_21 : decode cX2_add 21 = .ok (.aload_n 0, 1) := by decide +kernel
theorem dX2_add_22 : decode cX2_add 22 = .ok (.dup, 1) := by decide +kernel
theorem dX2_add_23 : decode cX2_add 23 = .ok (.getfield 22, 3) := by decide +kernel
theorem dX2_add_26 : decode cX2_add 26 = .ok (.iconst 1, 1) := by decide +kernel
theorem dX2_add_27 : decode cX2_add 27 = .ok (.iadd, 1) := by decide +kernel
theorem dX2_add_28 : decode cX2_add 28 = .ok (.putfield 22, 3) := by decide +kernel
theorem dX2_add_31 : decode cX2_add 31 = .ok (.iconst 1, 1) := by decide +kernel
theorem dX2_add_32 : decode cX2_add 32 = .ok (.ireturn, 1) := by decide +kernel
theorem dX2_faultAsStrip_0 : decode cX2_faultAsStrip 0 = .ok (.iconst 0, 1) := by decide +kernel
theorem dX2_faultAsStrip_1 : decode cX2_faultAsStrip 1 = .ok (.istore_n 1, 1) := by decide +kernel
theorem dX2_faultAsStrip_2 : decode cX2_faultAsStrip 2 = .ok (.iload_n 1, 1) := by decide +kernel
theorem dX2_faultAsStrip_3 : decode cX2_faultAsStrip 3 = .ok (.aload_n 0, 1) := by decide +kernel
theorem dX2_faultAsStrip_4 : decode cX2_faultAsStrip 4 = .ok (.getfield 22, 3) := by decide +kernel
theorem dX2_faultAsStrip_7 : decode cX2_faultAsStrip 7 = .ok (.if_icmp .ge 32, 3) := by decide +kernel
theorem dX2_faultAsStrip_10 : decode cX2_faultAsStrip 10 = .ok (.iload_n 1, 1) := by decide +kernel
theorem dX2_faultAsStrip_11 : decode cX2_faultAsStrip 11 = .ok (.bipush 24, 2) := by decide +kernel
theorem dX2_faultAsStrip_13 : decode cX2_faultAsStrip 13 = .ok (.if_icmp .ge 18, 3) := by decide +kernel
theorem dX2_faultAsStrip_16 : decode cX2_faultAsStrip 16 = .ok (.aload_n 0, 1) := by decide +kernel
theorem dX2_faultAsStrip_17 : decode cX2_faultAsStrip 17 = .ok (.getfield 9, 3) := by decide +kernel
theorem dX2_faultAsStrip_20 : decode cX2_faultAsStrip 20 = .ok (.iload_n 1, 1) := by decide +kernel
theorem dX2_faultAsStrip_21 : decode cX2_faultAsStrip 21 = .ok (.iaload, 1) := by decide +kernel
theorem dX2_faultAsStrip_22 : decode cX2_faultAsStrip 22 = .ok (.bipush 48, 2) := by decide +kernel
theorem dX2_faultAsStrip_24 : decode cX2_faultAsStrip 24 = .ok (.isub, 1) := by decide +kernel
theorem dX2_faultAsStrip_25 : decode cX2_faultAsStrip 25 = .ok (.invokestatic 26, 3) := by decide +kernel
theorem dX2_faultAsStrip_28 : decode cX2_faultAsStrip 28 = .ok (.ifCond .ne 5, 3) := by decide +kernel
theorem dX2_faultAsStrip_31 : decode cX2_faultAsStrip 31 = .ok (.iload_n 1, 1) := by decide +kernel
theorem dX2_faultAsStrip_32 : decode cX2_faultAsStrip 32 = .ok (.ireturn, 1) := by decide +kernel
theorem dX2_faultAsStrip_33 : decode cX2_faultAsStrip 33 = .ok (.iinc 1 1, 3) := by decide +kernel
theorem dX2_faultAsStrip_36 : decode cX2_faultAsStrip 36 = .ok (.goto (-34), 3) := by decide +kernel
theorem dX2_faultAsStrip_39 : decode cX2_faultAsStrip 39 = .ok (.aload_n 0, 1) := by decide +kernel
theorem dX2_faultAsStrip_40 : decode cX2_faultAsStrip 40 = .ok (.getfield 22, 3) := by decide +kernel
theorem dX2_faultAsStrip_43 : decode cX2_faultAsStrip 43 = .ok (.ifCond .le 8, 3) := by decide +kernel
theorem dX2_faultAsStrip_46 : decode cX2_faultAsStrip 46 = .ok (.bipush (-4), 2) := by decide +kernel
theorem dX2_faultAsStrip_48 : decode cX2_faultAsStrip 48 = .ok (.goto 7, 3) := by decide +kernel
theorem dX2_faultAsStrip_51 : decode cX2_faultAsStrip 51 = .ok (.aload_n 0, 1) := by decide +kernel
theorem dX2_faultAsStrip_52 : decode cX2_faultAsStrip 52 = .ok (.getfield 22, 3) := by decide +kernel
theorem dX2_faultAsStrip_55 : decode cX2_faultAsStrip 55 = .ok (.ireturn, 1) := by decide +kernel
theorem dX2_putStrip_0 : decode cX2_putStrip 0 = .ok (.aload_n 0, 1) := by decide +kernel
theorem dX2_putStrip_1 : decode cX2_putStrip 1 = .ok (.getfield 22, 3) := by decide +kernel
theorem dX2_putStrip_4 : decode cX2_putStrip 4 = .ok (.bipush 24, 2) := by decide +kernel
theorem dX2_putStrip_6 : decode cX2_putStrip 6 = .ok (.invokestatic 30, 3) := by decide +kernel
theorem dX2_putStrip_9 : decode cX2_putStrip 9 = .ok (.istore_n 2, 1) := by decide +kernel
theorem dX2_putStrip_10 : decode cX2_putStrip 10 = .ok (.iconst 0, 1) := by decide +kernel
theorem dX2_putStrip_11 : decode cX2_putStrip 11 = .ok (.istore_n 3, 1) := by decide +kernel
theorem dX2_putStrip_12 : decode cX2_putStrip 12 = .ok (.iload_n 3, 1) := by decide +kernel
theorem dX2_putStrip_13 : decode cX2_putStrip 13 = .ok (.iload_n 2, 1) := by decide +kernel
theorem dX2_putStrip_14 : decode cX2_putStrip 14 = .ok (.if_icmp .ge 24, 3) := by decide +kernel
theorem dX2_putStrip_17 : decode cX2_putStrip 17 = .ok (.aload_n 1, 1) := by decide +kernel
theorem dX2_putStrip_18 : decode cX2_putStrip 18 = .ok (.getfield 36, 3) := by decide +kernel
theorem dX2_putStrip_21 : decode cX2_putStrip 21 = .ok (.iload_n 3, 1) := by decide +kernel
theorem dX2_putStrip_22 : decode cX2_putStrip 22 = .ok (.aload_n 0, 1) := by decide +kernel
theorem dX2_putStrip_23 : decode cX2_putStrip 23 = .ok (.getfield 9, 3) := by decide +kernel
theorem dX2_putStrip_26 : decode cX2_putStrip 26 = .ok (.iload_n 3, 1) := by decide +kernel
theorem dX2_putStrip_27 : decode cX2_putStrip 27 = .ok (.iaload, 1) := by decide +kernel
theorem dX2_putStrip_28 : decode cX2_putStrip 28 = .ok (.bipush 48, 2) := by decide +kernel
theorem dX2_putStrip_30 : decode cX2_putStrip 30 = .ok (.isub, 1) := by decide +kernel
theorem dX2_putStrip_31 : decode cX2_putStrip 31 = .ok (.iastore, 1) := by decide +kernel
theorem dX2_putStrip_32 : decode cX2_putStrip 32 = .ok (.iinc 3 1, 3) := by decide +kernel
theorem dX2_putStrip_35 : decode cX2_putStrip 35 = .ok (.goto (-23), 3) := by decide +kernel
theorem dX2_putStrip_38 : decode cX2_putStrip 38 = .ok (.aload_n 1, 1) := by decide +kernel
theorem dX2_putStrip_39 : decode cX2_putStrip 39 = .ok (.iload_n 2, 1) := by decide +kernel
theorem dX2_putStrip_40 : decode cX2_putStrip 40 = .ok (.putfield 41, 3) := by decide +kernel
theorem dX2_putStrip_43 : decode cX2_putStrip 43 = .ok (.return_, 1) := by decide +kernel
theorem dX2_faultAsShapes_0 : decode cX2_faultAsShapes 0 = .ok (.aload_n 0, 1) := by decide +kernel
theorem dX2_faultAsShapes_1 : decode cX2_faultAsShapes 1 = .ok (.getfield 18, 3) := by decide +kernel
theorem dX2_faultAsShapes_4 : decode cX2_faultAsShapes 4 = .ok (.invokevirtual 44, 3) := by decide +kernel
theorem dX2_faultAsShapes_7 : decode cX2_faultAsShapes 7 = .ok (.iconst 0, 1) := by decide +kernel
theorem dX2_faultAsShapes_8 : decode cX2_faultAsShapes 8 = .ok (.istore_n 1, 1) := by decide +kernel
theorem dX2_faultAsShapes_9 : decode cX2_faultAsShapes 9 = .ok (.iload_n 1, 1) := by decide +kernel
theorem dX2_faultAsShapes_10 : decode cX2_faultAsShapes 10 = .ok (.aload_n 0, 1) := by decide +kernel
theorem dX2_faultAsShapes_11 : decode cX2_faultAsShapes 11 = .ok (.getfield 22, 3) := by decide +kernel
theorem dX2_faultAsShapes_14 : decode cX2_faultAsShapes 14 = .ok (.if_icmp .ge 27, 3) := by decide +kernel
theorem dX2_faultAsShapes_17 : decode cX2_faultAsShapes 17 = .ok (.aload_n 0, 1) := by decide +kernel
theorem dX2_faultAsShapes_18 : decode cX2_faultAsShapes 18 = .ok (.getfield 18, 3) := by decide +kernel
theorem dX2_faultAsShapes_21 : decode cX2_faultAsShapes 21 = .ok (.aload_n 0, 1) := by decide +kernel
theorem dX2_faultAsShapes_22 : decode cX2_faultAsShapes 22 = .ok (.getfield 9, 3) := by decide +kernel
theorem dX2_faultAsShapes_25 : decode cX2_faultAsShapes 25 = .ok (.iload_n 1, 1) := by decide +kernel
theorem dX2_faultAsShapes_26 : decode cX2_faultAsShapes 26 = .ok (.iaload, 1) := by decide +kernel
theorem dX2_faultAsShapes_27 : decode cX2_faultAsShapes 27 = .ok (.invokevirtual 47, 3) := by decide +kernel
theorem dX2_faultAsShapes_30 : decode cX2_faultAsShapes 30 = .ok (.ifCond .ne 5, 3) := by decide +kernel
theorem dX2_faultAsShapes_33 : decode cX2_faultAsShapes 33 = .ok (.iload_n 1, 1) := by decide +kernel
theorem dX2_faultAsShapes_34 : decode cX2_faultAsShapes 34 = .ok (.ireturn, 1) := by decide +kernel
theorem dX2_faultAsShapes_35 : decode cX2_faultAsShapes 35 = .ok (.iinc 1 1, 3) := by decide +kernel
theorem dX2_faultAsShapes_38 : decode cX2_faultAsShapes 38 = .ok (.goto (-29), 3) := by decide +kernel
theorem dX2_faultAsShapes_41 : decode cX2_faultAsShapes 41 = .ok (.aload_n 0, 1) := by decide +kernel
theorem dX2_faultAsShapes_42 : decode cX2_faultAsShapes 42 = .ok (.getfield 18, 3) := by decide +kernel
theorem dX2_faultAsShapes_45 : decode cX2_faultAsShapes 45 = .ok (.invokevirtual 50, 3) := by decide +kernel
theorem dX2_faultAsShapes_48 : decode cX2_faultAsShapes 48 = .ok (.ifCond .eq 8, 3) := by decide +kernel
theorem dX2_faultAsShapes_51 : decode cX2_faultAsShapes 51 = .ok (.bipush (-4), 2) := by decide +kernel
theorem dX2_faultAsShapes_53 : decode cX2_faultAsShapes 53 = .ok (.goto 7, 3) := by decide +kernel
theorem dX2_faultAsShapes_56 : decode cX2_faultAsShapes 56 = .ok (.aload_n 0, 1) := by decide +kernel
theorem dX2_faultAsShapes_57 : decode cX2_faultAsShapes 57 = .ok (.getfield 22, 3) := by decide +kernel
theorem dX2_faultAsShapes_60 : decode cX2_faultAsShapes 60 = .ok (.ireturn, 1) := by decide +kernel
theorem dX2_layShapes_0 : decode cX2_layShapes 0 = .ok (.aload_n 0, 1) := by decide +kernel
theorem dX2_layShapes_1 : decode cX2_layShapes 1 = .ok (.getfield 18, 3) := by decide +kernel
theorem dX2_layShapes_4 : decode cX2_layShapes 4 = .ok (.invokevirtual 44, 3) := by decide +kernel
theorem dX2_layShapes_7 : decode cX2_layShapes 7 = .ok (.iconst 0, 1) := by decide +kernel
theorem dX2_layShapes_8 : decode cX2_layShapes 8 = .ok (.istore_n 2, 1) := by decide +kernel
theorem dX2_layShapes_9 : decode cX2_layShapes 9 = .ok (.iload_n 2, 1) := by decide +kernel
theorem dX2_layShapes_10 : decode cX2_layShapes 10 = .ok (.aload_n 0, 1) := by decide +kernel
theorem dX2_layShapes_11 : decode cX2_layShapes 11 = .ok (.getfield 22, 3) := by decide +kernel
theorem dX2_layShapes_14 : decode cX2_layShapes 14 = .ok (.if_icmp .ge 74, 3) := by decide +kernel
theorem dX2_layShapes_17 : decode cX2_layShapes 17 = .ok (.aload_n 0, 1) := by decide +kernel
theorem dX2_layShapes_18 : decode cX2_layShapes 18 = .ok (.getfield 18, 3) := by decide +kernel
theorem dX2_layShapes_21 : decode cX2_layShapes 21 = .ok (.aload_n 0, 1) := by decide +kernel
theorem dX2_layShapes_22 : decode cX2_layShapes 22 = .ok (.getfield 9, 3) := by decide +kernel
theorem dX2_layShapes_25 : decode cX2_layShapes 25 = .ok (.iload_n 2, 1) := by decide +kernel
theorem dX2_layShapes_26 : decode cX2_layShapes 26 = .ok (.iaload, 1) := by decide +kernel
theorem dX2_layShapes_27 : decode cX2_layShapes 27 = .ok (.invokevirtual 47, 3) := by decide +kernel
theorem dX2_layShapes_30 : decode cX2_layShapes 30 = .ok (.ifCond .eq 52, 3) := by decide +kernel
theorem dX2_layShapes_33 : decode cX2_layShapes 33 = .ok (.aload_n 0, 1) := by decide +kernel
theorem dX2_layShapes_34 : decode cX2_layShapes 34 = .ok (.getfield 18, 3) := by decide +kernel
theorem dX2_layShapes_37 : decode cX2_layShapes 37 = .ok (.invokevirtual 50, 3) := by decide +kernel
theorem dX2_layShapes_40 : decode cX2_layShapes 40 = .ok (.ifCond .eq 42, 3) := by decide +kernel
theorem dX2_layShapes_43 : decode cX2_layShapes 43 = .ok (.aload_n 1, 1) := by decide +kernel
theorem dX2_layShapes_44 : decode cX2_layShapes 44 = .ok (.aload_n 0, 1) := by decide +kernel
theorem dX2_layShapes_45 : decode cX2_layShapes 45 = .ok (.getfield 18, 3) := by decide +kernel
theorem dX2_layShapes_48 : decode cX2_layShapes 48 = .ok (.getfield 54, 3) := by decide +kernel
theorem dX2_layShapes_51 : decode cX2_layShapes 51 = .ok (.aload_n 0, 1) := by decide +kernel
theorem dX2_layShapes_52 : decode cX2_layShapes 52 = .ok (.getfield 18, 3) := by decide +kernel
theorem dX2_layShapes_55 : decode cX2_layShapes 55 = .ok (.getfield 57, 3) := by decide +kernel
theorem dX2_layShapes_58 : decode cX2_layShapes 58 = .ok (.aload_n 0, 1) := by decide +kernel
theorem dX2_layShapes_59 : decode cX2_layShapes 59 = .ok (.getfield 18, 3) := by decide +kernel
theorem dX2_layShapes_62 : decode cX2_layShapes 62 = .ok (.getfield 60, 3) := by decide +kernel
theorem dX2_layShapes_65 : decode cX2_layShapes 65 = .ok (.aload_n 0, 1) := by decide +kernel
theorem dX2_layShapes_66 : decode cX2_layShapes 66 = .ok (.getfield 18, 3) := by decide +kernel
theorem dX2_layShapes_69 : decode cX2_layShapes 69 = .ok (.getfield 63, 3) := by decide +kernel
theorem dX2_layShapes_72 : decode cX2_layShapes 72 = .ok (.aload_n 0, 1) := by decide +kernel
theorem dX2_layShapes_73 : decode cX2_layShapes 73 = .ok (.getfield 18, 3) := by decide +kernel
theorem dX2_layShapes_76 : decode cX2_layShapes 76 = .ok (.getfield 66, 3) := by decide +kernel
theorem dX2_layShapes_79 : decode cX2_layShapes 79 = .ok (.invokevirtual 69, 3) := by decide +kernel
theorem dX2_layShapes_82 : decode cX2_layShapes 82 = .ok (.iinc 2 1, 3) := by decide +kernel
theorem dX2_layShapes_85 : decode cX2_layShapes 85 = .ok (.goto (-76), 3) := by decide +kernel
theorem dX2_layShapes_88 : decode cX2_layShapes 88 = .ok (.return_, 1) := by decide +kernel
theorem dX3_init_0 : decode cX3_init 0 = .ok (.aload_n 0, 1) := by decide +kernel
theorem dX3_init_1 : decode cX3_init 1 = .ok (.invokespecial 3, 3) := by decide +kernel
theorem dX3_init_4 : decode cX3_init 4 = .ok (.return_, 1) := by decide +kernel
theorem dX3_begin_0 : decode cX3_begin 0 = .ok (.aload_n 0, 1) := by decide +kernel
theorem dX3_begin_1 : decode cX3_begin 1 = .ok (.iconst 0, 1) := by decide +kernel
theorem dX3_begin_2 : decode cX3_begin 2 = .ok (.putfield 11, 3) := by decide +kernel
theorem dX3_begin_5 : decode cX3_begin 5 = .ok (.return_, 1) := by decide +kernel
theorem dX3_isComplete_0 : decode cX3_isComplete 0 = .ok (.aload_n 0, 1) := by decide +kernel
theorem dX3_isComplete_1 : decode cX3_isComplete 1 = .ok (.getfield 11, 3) := by decide +kernel
theorem dX3_isComplete_4 : decode cX3_isComplete 4 = .ok (.bipush 9, 2) := by decide +kernel
theorem dX3_isComplete_6 : decode cX3_isComplete 6 = .ok (.if_icmp .ne 7, 3) := by decide +kernel
theorem dX3_isComplete_9 : decode cX3_isComplete 9 = .ok (.iconst 1, 1) := by decide +kernel
theorem dX3_isComplete_10 : decode cX3_isComplete 10 = .ok (.goto 4, 3) := by decide +kernel
theorem dX3_isComplete_13 : decode cX3_isComplete 13 = .ok (.iconst 0, 1) := by decide +kernel
theorem dX3_isComplete_14 : decode cX3_isComplete 14 = .ok (.ireturn, 1) := by decide +kernel
theorem dX3_takes_0 : decode cX3_takes 0 = .ok (.iload_n 1, 1) := by decide +kernel
theorem dX3_takes_1 : decode cX3_takes 1 = .ok (.bipush 48, 2) := by decide +kernel
theorem dX3_takes_3 : decode cX3_takes 3 = .ok (.if_icmp .lt 16, 3) := by decide +kernel
theorem dX3_takes_6 : decode cX3_takes 6 = .ok (.iload_n 1, 1) := by decide +kernel
theorem dX3_takes_7 : decode cX3_takes 7 = .ok (.bipush 57, 2) := by decide +kernel
theorem dX3_takes_9 : decode cX3_takes 9 = .ok (.if_icmp .gt 10, 3) := by decide +kernel
theorem dX3_takes_12 : decode cX3_takes 12 = .ok (.iload_n 1, 1) := by decide +kernel
theorem dX3_takes_13 : decode cX3_takes 13 = .ok (.bipush 48, 2) := by decide +kernel
theorem dX3_takes_15 : decode cX3_takes 15 = .ok (.isub, 1) := by decide +kernel
theorem dX3_takes_16 : decode cX3_takes 16 = .ok (.goto 5, 3) := by decide +kernel
theorem dX3_takes_19 : decode cX3_takes 19 = .ok (.bipush (-4), 2) := by decide +kernel
theorem dX3_takes_21 : decode cX3_takes 21 = .ok (.istore_n 2, 1) := by decide +kernel
theorem dX3_takes_22 : decode cX3_takes 22 = .ok (.aload_n 0, 1) := by decide +kernel
theorem dX3_takes_23 : decode cX3_takes 23 = .ok (.getfield 11, 3) := by decide +kernel
theorem dX3_takes_26 : decode cX3_takes 26 = .ok (.tableswitch 200 0 9 #[54, 60, 94, 100, 120, 140, 147, 167, 174, 180], 54) := by decide +kernel
theorem dX3_takes_80 : decode cX3_takes 80 = .ok (.aload_n 0, 1) := by decide +kernel
theorem dX3_takes_81 : decode cX3_takes 81 = .ok (.iload_n 2, 1) := by decide +kernel
theorem dX3_takes_82 : decode cX3_takes 82 = .ok (.invokevirtual 15, 3) := by decide +kernel
theorem dX3_takes_85 : decode cX3_takes 85 = .ok (.ireturn, 1) := by decide +kernel
theorem dX3_takes_86 : decode cX3_takes 86 = .ok (.iload_n 1, 1) := by decide +kernel
theorem dX3_takes_87 : decode cX3_takes 87 = .ok (.bipush 45, 2) := by decide +kernel
theorem dX3_takes_89 : decode cX3_takes 89 = .ok (.if_icmp .ne 11, 3) := by decide +kernel
theorem dX3_takes_92 : decode cX3_takes 92 = .ok (.aload_n 0, 1) := by decide +kernel
theorem dX3_takes_93 : decode cX3_takes 93 = .ok (.iconst 2, 1) := by decide +kernel
theorem dX3_takes_94 : decode cX3_takes 94 = .ok (.invokevirtual 19, 3) := by decide +kernel
theorem dX3_takes_97 : decode cX3_takes 97 = .ok (.goto 22, 3) := by decide +kernel
theorem dX3_takes_100 : decode cX3_takes 100 = .ok (.iload_n 1, 1) := by decide +kernel
theorem dX3_takes_101 : decode cX3_takes 101 = .ok (.bipush 44, 2) := by decide +kernel
theorem dX3_takes_103 : decode cX3_takes 103 = .ok (.if_icmp .ne 15, 3) := by decide +kernel
theorem dX3_takes_106 : decode cX3_takes 106 = .ok (.aload_n 0, 1) := by decide +kernel
theorem dX3_takes_107 : decode cX3_takes 107 = .ok (.iconst 4, 1) := by decide +kernel
theorem dX3_takes_108 : decode cX3_takes 108 = .ok (.invokevirtual 19, 3) := by decide +kernel
theorem dX3_takes_111 : decode cX3_takes 111 = .ok (.ifCond .eq 7, 3) := by decide +kernel
theorem dX3_takes_114 : decode cX3_takes 114 = .ok (.iconst 1, 1) := by decide +kernel
theorem dX3_takes_115 : decode cX3_takes 115 = .ok (.goto 4, 3) := by decide +kernel
theorem dX3_takes_118 : decode cX3_takes 118 = .ok (.iconst 0, 1) := by decide +kernel
theorem dX3_takes_119 : decode cX3_takes 119 = .ok (.ireturn, 1) := by decide +kernel
theorem dX3_takes_120 : decode cX3_takes 120 = .ok (.aload_n 0, 1) := by decide +kernel
theorem dX3_takes_121 : decode cX3_takes 121 = .ok (.iload_n 2, 1) := by decide +kernel
theorem dX3_takes_122 : decode cX3_takes 122 = .ok (.invokevirtual 22, 3) := by decide +kernel
theorem dX3_takes_125 : decode cX3_takes 125 = .ok (.ireturn, 1) := by decide +kernel
theorem dX3_takes_126 : decode cX3_takes 126 = .ok (.iload_n 1, 1) := by decide +kernel
theorem dX3_takes_127 : decode cX3_takes 127 = .ok (.bipush 44, 2) := by decide +kernel
theorem dX3_takes_129 : decode cX3_takes 129 = .ok (.if_icmp .ne 15, 3) := by decide +kernel
theorem dX3_takes_132 : decode cX3_takes 132 = .ok (.aload_n 0, 1) := by decide +kernel
theorem dX3_takes_133 : decode cX3_takes 133 = .ok (.iconst 4, 1) := by decide +kernel
theorem dX3_takes_134 : decode cX3_takes 134 = .ok (.invokevirtual 19, 3) := by decide +kernel
theorem dX3_takes_137 : decode cX3_takes 137 = .ok (.ifCond .eq 7, 3) := by decide +kernel
theorem dX3_takes_140 : decode cX3_takes 140 = .ok (.iconst 1, 1) := by decide +kernel
theorem dX3_takes_141 : decode cX3_takes 141 = .ok (.goto 4, 3) := by decide +kernel
theorem dX3_takes_144 : decode cX3_takes 144 = .ok (.iconst 0, 1) := by decide +kernel
theorem dX3_takes_145 : decode cX3_takes 145 = .ok (.ireturn, 1) := by decide +kernel
theorem dX3_takes_146 : decode cX3_takes 146 = .ok (.iload_n 2, 1) := by decide +kernel
theorem dX3_takes_147 : decode cX3_takes 147 = .ok (.bipush (-4), 2) := by decide +kernel
theorem dX3_takes_149 : decode cX3_takes 149 = .ok (.if_icmp .eq 15, 3) := by decide +kernel
theorem dX3_takes_152 : decode cX3_takes 152 = .ok (.aload_n 0, 1) := by decide +kernel
theorem dX3_takes_153 : decode cX3_takes 153 = .ok (.iload_n 2, 1) := by decide +kernel
theorem dX3_takes_154 : decode cX3_takes 154 = .ok (.invokevirtual 25, 3) := by decide +kernel
theorem dX3_takes_157 : decode cX3_takes 157 = .ok (.ifCond .eq 7, 3) := by decide +kernel
theorem dX3_takes_160 : decode cX3_takes 160 = .ok (.iconst 1, 1) := by decide +kernel
theorem dX3_takes_161 : decode cX3_takes 161 = .ok (.goto 4, 3) := by decide +kernel
theorem dX3_takes_164 : decode cX3_takes 164 = .ok (.iconst 0, 1) := by decide +kernel
theorem dX3_takes_165 : decode cX3_takes 165 = .ok (.ireturn, 1) := by decide +kernel
theorem dX3_takes_166 : decode cX3_takes 166 = .ok (.aload_n 0, 1) := by decide +kernel
theorem dX3_takes_167 : decode cX3_takes 167 = .ok (.iload_n 1, 1) := by decide +kernel
theorem dX3_takes_168 : decode cX3_takes 168 = .ok (.iload_n 2, 1) := by decide +kernel
theorem dX3_takes_169 : decode cX3_takes 169 = .ok (.invokevirtual 28, 3) := by decide +kernel
theorem dX3_takes_172 : decode cX3_takes 172 = .ok (.ireturn, 1) := by decide +kernel
theorem dX3_takes_173 : decode cX3_takes 173 = .ok (.iload_n 2, 1) := by decide +kernel
theorem dX3_takes_174 : decode cX3_takes 174 = .ok (.bipush (-4), 2) := by decide +kernel
theorem dX3_takes_176 : decode cX3_takes 176 = .ok (.if_icmp .eq 15, 3) := by decide +kernel
theorem dX3_takes_179 : decode cX3_takes 179 = .ok (.aload_n 0, 1) := by decide +kernel
theorem dX3_takes_180 : decode cX3_takes 180 = .ok (.iload_n 2, 1) := by decide +kernel
theorem dX3_takes_181 : decode cX3_takes 181 = .ok (.invokevirtual 32, 3) := by decide +kernel
theorem dX3_takes_184 : decode cX3_takes 184 = .ok (.ifCond .eq 7, 3) := by decide +kernel
theorem dX3_takes_187 : decode cX3_takes 187 = .ok (.iconst 1, 1) := by decide +kernel
theorem dX3_takes_188 : decode cX3_takes 188 = .ok (.goto 4, 3) := by decide +kernel
theorem dX3_takes_191 : decode cX3_takes 191 = .ok (.iconst 0, 1) := by decide +kernel
theorem dX3_takes_192 : decode cX3_takes 192 = .ok (.ireturn, 1) := by decide +kernel
theorem dX3_takes_193 : decode cX3_takes 193 = .ok (.aload_n 0, 1) := by decide +kernel
theorem dX3_takes_194 : decode cX3_takes 194 = .ok (.iload_n 1, 1) := by decide +kernel
theorem dX3_takes_195 : decode cX3_takes 195 = .ok (.iload_n 2, 1) := by decide +kernel
theorem dX3_takes_196 : decode cX3_takes 196 = .ok (.invokevirtual 35, 3) := by decide +kernel
theorem dX3_takes_199 : decode cX3_takes 199 = .ok (.ireturn, 1) := by decide +kernel
theorem dX3_takes_200 : decode cX3_takes 200 = .ok (.aload_n 0, 1) := by decide +kernel
theorem dX3_takes_201 : decode cX3_takes 201 = .ok (.iload_n 2, 1) := by decide +kernel
theorem dX3_takes_202 : decode cX3_takes 202 = .ok (.invokevirtual 38, 3) := by decide +kernel
theorem dX3_takes_205 : decode cX3_takes 205 = .ok (.ireturn, 1) := by decide +kernel
theorem dX3_takes_206 : decode cX3_takes 206 = .ok (.iload_n 1, 1) := by decide +kernel
theorem dX3_takes_207 : decode cX3_takes 207 = .ok (.bipush 59, 2) := by decide +kernel
theorem dX3_takes_209 : decode cX3_takes 209 = .ok (.if_icmp .ne 15, 3) := by decide +kernel
theorem dX3_takes_212 : decode cX3_takes 212 = .ok (.aload_n 0, 1) := by decide +kernel
theorem dX3_takes_213 : decode cX3_takes 213 = .ok (.iconst 0, 1) := by decide +kernel
theorem dX3_takes_214 : decode cX3_takes 214 = .ok (.invokevirtual 19, 3) := by decide +kernel
theorem dX3_takes_217 : decode cX3_takes 217 = .ok (.ifCond .eq 7, 3) := by decide +kernel
theorem dX3_takes_220 : decode cX3_takes 220 = .ok (.iconst 1, 1) := by decide +kernel
theorem dX3_takes_221 : decode cX3_takes 221 = .ok (.goto 4, 3) := by decide +kernel
theorem dX3_takes_224 : decode cX3_takes 224 = .ok (.iconst 0, 1) := by decide +kernel
theorem dX3_takes_225 : decode cX3_takes 225 = .ok (.ireturn, 1) := by decide +kernel
theorem dX3_takes_226 : decode cX3_takes 226 = .ok (.iconst 0, 1) := by decide +kernel
theorem dX3_takes_227 : decode cX3_takes 227 = .ok (.ireturn, 1) := by decide +kernel
theorem dX3_goesOn_0 : decode cX3_goesOn 0 = .ok (.aload_n 0, 1) := by decide +kernel
theorem dX3_goesOn_1 : decode cX3_goesOn 1 = .ok (.iload_n 1, 1) := by decide +kernel
theorem dX3_goesOn_2 : decode cX3_goesOn 2 = .ok (.putfield 11, 3) := by decide +kernel
theorem dX3_goesOn_5 : decode cX3_goesOn 5 = .ok (.iconst 1, 1) := by decide +kernel
theorem dX3_goesOn_6 : decode cX3_goesOn 6 = .ok (.ireturn, 1) := by decide +kernel
theorem dX3_takesTop_0 : decode cX3_takesTop 0 = .ok (.iload_n 1, 1) := by decide +kernel
theorem dX3_takesTop_1 : decode cX3_takesTop 1 = .ok (.invokestatic 41, 3) := by decide +kernel
theorem dX3_takesTop_4 : decode cX3_takesTop 4 = .ok (.ifCond .ne 5, 3) := by decide +kernel
theorem dX3_takesTop_7 : decode cX3_takesTop 7 = .ok (.iconst 0, 1) := by decide +kernel
theorem dX3_takesTop_8 : decode cX3_takesTop 8 = .ok (.ireturn, 1) := by decide +kernel
theorem dX3_takesTop_9 : decode cX3_takesTop 9 = .ok (.aload_n 0, 1) := by decide +kernel
theorem dX3_takesTop_10 : decode cX3_takesTop 10 = .ok (.iload_n 1, 1) := by decide +kernel
theorem dX3_takesTop_11 : decode cX3_takesTop 11 = .ok (.putfield 44, 3) := by decide +kernel
theorem dX3_takesTop_14 : decode cX3_takesTop 14 = .ok (.aload_n 0, 1) := by decide +kernel
theorem dX3_takesTop_15 : decode cX3_takesTop 15 = .ok (.iload_n 1, 1) := by decide +kernel
theorem dX3_takesTop_16 : decode cX3_takesTop 16 = .ok (.putfield 47, 3) := by decide +kernel
theorem dX3_takesTop_19 : decode cX3_takesTop 19 = .ok (.aload_n 0, 1) := by decide +kernel
theorem dX3_takesTop_20 : decode cX3_takesTop 20 = .ok (.iconst 1, 1) := by decide +kernel
theorem dX3_takesTop_21 : decode cX3_takesTop 21 = .ok (.invokevirtual 19, 3) := by decide +kernel
theorem dX3_takesTop_24 : decode cX3_takesTop 24 = .ok (.ireturn, 1) := by decide +kernel
theorem dX3_takesBottom_0 : decode cX3_takesBottom 0 = .ok (.iload_n 1, 1) := by decide +kernel
theorem dX3_takesBottom_1 : decode cX3_takesBottom 1 = .ok (.invokestatic 41, 3) := by decide +kernel
theorem dX3_takesBottom_4 : decode cX3_takesBottom 4 = .ok (.ifCond .eq 11, 3) := by decide +kernel
theorem dX3_takesBottom_7 : decode cX3_takesBottom 7 = .ok (.iload_n 1, 1) := by decide +kernel
theorem dX3_takesBottom_8 : decode cX3_takesBottom 8 = .ok (.aload_n 0, 1) := by decide +kernel
theorem dX3_takesBottom_9 : decode cX3_takesBottom 9 = .ok (.getfield 44, 3) := by decide +kernel
theorem dX3_takesBottom_12 : decode cX3_takesBottom 12 = .ok (.if_icmp .ge 5, 3) := by decide +kernel
theorem dX3_takesBottom_15 : decode cX3_takesBottom 15 = .ok (.iconst 0, 1) := by decide +kernel
theorem dX3_takesBottom_16 : decode cX3_takesBottom 16 = .ok (.ireturn, 1) := by decide +kernel
theorem dX3_takesBottom_17 : decode cX3_takesBottom 17 = .ok (.aload_n 0, 1) := by decide +kernel
theorem dX3_takesBottom_18 : decode cX3_takesBottom 18 = .ok (.iload_n 1, 1) := by decide +kernel
theorem dX3_takesBottom_19 : decode cX3_takesBottom 19 = .ok (.putfield 47, 3) := by decide +kernel
theorem dX3_takesBottom_22 : decode cX3_takesBottom 22 = .ok (.aload_n 0, 1) := by decide +kernel
theorem dX3_takesBottom_23 : decode cX3_takesBottom 23 = .ok (.iconst 3, 1) := by decide +kernel
theorem dX3_takesBottom_24 : decode cX3_takesBottom 24 = .ok (.invokevirtual 19, 3) := by decide +kernel
theorem dX3_takesBottom_27 : decode cX3_takesBottom 27 = .ok (.ireturn, 1) := by decide +kernel
theorem dX3_takesLeft_0 : decode cX3_takesLeft 0 = .ok (.iload_n 1, 1) := by decide +kernel
theorem dX3_takesLeft_1 : decode cX3_takesLeft 1 = .ok (.invokestatic 50, 3) := by decide +kernel
theorem dX3_takesLeft_4 : decode cX3_takesLeft 4 = .ok (.ifCond .ne 5, 3) := by decide +kernel
theorem dX3_takesLeft_7 : decode cX3_takesLeft 7 = .ok (.iconst 0, 1) := by decide +kernel
theorem dX3_takesLeft_8 : decode cX3_takesLeft 8 = .ok (.ireturn, 1) := by decide +kernel
theorem dX3_takesLeft_9 : decode cX3_takesLeft 9 = .ok (.aload_n 0, 1) := by decide +kernel
theorem dX3_takesLeft_10 : decode cX3_takesLeft 10 = .ok (.iload_n 1, 1) := by decide +kernel
theorem dX3_takesLeft_11 : decode cX3_takesLeft 11 = .ok (.putfield 53, 3) := by decide +kernel
theorem dX3_takesLeft_14 : decode cX3_takesLeft 14 = .ok (.aload_n 0, 1) := by decide +kernel
theorem dX3_takesLeft_15 : decode cX3_takesLeft 15 = .ok (.iload_n 1, 1) := by decide +kernel
theorem dX3_takesLeft_16 : decode cX3_takesLeft 16 = .ok (.putfield 56, 3) := by decide +kernel
theorem dX3_takesLeft_19 : decode cX3_takesLeft 19 = .ok (.aload_n 0, 1) := by decide +kernel
theorem dX3_takesLeft_20 : decode cX3_takesLeft 20 = .ok (.iconst 5, 1) := by decide +kernel
theorem dX3_takesLeft_21 : decode cX3_takesLeft 21 = .ok (.invokevirtual 19, 3) := by decide +kernel
theorem dX3_takesLeft_24 : decode cX3_takesLeft 24 = .ok (.ireturn, 1) := by decide +kernel
theorem dX3_takesBehindLeft_0 : decode cX3_takesBehindLeft 0 = .ok (.iload_n 1, 1) := by decide +kernel
theorem dX3_takesBehindLeft_1 : decode cX3_takesBehindLeft 1 = .ok (.bipush 45, 2) := by decide +kernel
theorem dX3_takesBehindLeft_3 : decode cX3_takesBehindLeft 3 = .ok (.if_icmp .ne 10, 3) := by decide +kernel
theorem dX3_takesBehindLeft_6 : decode cX3_takesBehindLeft 6 = .ok (.aload_n 0, 1) := by decide +kernel
theorem dX3_takesBehindLeft_7 : decode cX3_takesBehindLeft 7 = .ok (.bipush 6, 2) := by decide +kernel
theorem dX3_takesBehindLeft_9 : decode cX3_takesBehindLeft 9 = .ok (.invokevirtual 19, 3) := by decide +kernel
theorem dX3_takesBehindLeft_12 : decode cX3_takesBehindLeft 12 = .ok (.ireturn, 1) := by decide +kernel
theorem dX3_takesBehindLeft_13 : decode cX3_takesBehindLeft 13 = .ok (.iload_n 1, 1) := by decide +kernel
theorem dX3_takesBehindLeft_14 : decode cX3_takesBehindLeft 14 = .ok (.bipush 58, 2) := by decide +kernel
theorem dX3_takesBehindLeft_16 : decode cX3_takesBehindLeft 16 = .ok (.if_icmp .ne 10, 3) := by decide +kernel
theorem dX3_takesBehindLeft_19 : decode cX3_takesBehindLeft 19 = .ok (.aload_n 0, 1) := by decide +kernel
theorem dX3_takesBehindLeft_20 : decode cX3_takesBehindLeft 20 = .ok (.bipush 8, 2) := by decide +kernel
theorem dX3_takesBehindLeft_22 : decode cX3_takesBehindLeft 22 = .ok (.invokevirtual 19, 3) := by decide +kernel
theorem dX3_takesBehindLeft_25 : decode cX3_takesBehindLeft 25 = .ok (.ireturn, 1) := by decide +kernel
theorem dX3_takesBehindLeft_26 : decode cX3_takesBehindLeft 26 = .ok (.iload_n 2, 1) := by decide +kernel
theorem dX3_takesBehindLeft_27 : decode cX3_takesBehindLeft 27 = .ok (.bipush (-4), 2) := by decide +kernel
theorem dX3_takesBehindLeft_29 : decode cX3_takesBehindLeft 29 = .ok (.if_icmp .eq 30, 3) := by decide +kernel
theorem dX3_takesBehindLeft_32 : decode cX3_takesBehindLeft 32 = .ok (.aload_n 0, 1) := by decide +kernel
theorem dX3_takesBehindLeft_33 : decode cX3_takesBehindLeft 33 = .ok (.getfield 53, 3) := by decide +kernel
theorem dX3_takesBehindLeft_36 : decode cX3_takesBehindLeft 36 = .ok (.ifCond .le 23, 3) := by decide +kernel
theorem dX3_takesBehindLeft_39 : decode cX3_takesBehindLeft 39 = .ok (.aload_n 0, 1) := by decide +kernel
theorem dX3_takesBehindLeft_40 : decode cX3_takesBehindLeft 40 = .ok (.bipush 10, 2) := by decide +kernel
theorem dX3_takesBehindLeft_42 : decode cX3_takesBehindLeft 42 = .ok (.aload_n 0, 1) := by decide +kernel
theorem dX3_takesBehindLeft_43 : decode cX3_takesBehindLeft 43 = .ok (.getfield 53, 3) := by decide +kernel
theorem dX3_takesBehindLeft_46 : decode cX3_takesBehindLeft 46 = .ok (.imul, 1) := by decide +kernel
theorem dX3_takesBehindLeft_47 : decode cX3_takesBehindLeft 47 = .ok (.iload_n 2, 1) := by decide +kernel
theorem dX3_takesBehindLeft_48 : decode cX3_takesBehindLeft 48 = .ok (.iadd, 1) := by decide +kernel
theorem dX3_takesBehindLeft_49 : decode cX3_takesBehindLeft 49 = .ok (.invokevirtual 25, 3) := by decide +kernel
theorem dX3_takesBehindLeft_52 : decode cX3_takesBehindLeft 52 = .ok (.ifCond .eq 7, 3) := by decide +kernel
theorem dX3_takesBehindLeft_55 : decode cX3_takesBehindLeft 55 = .ok (.iconst 1, 1) := by decide +kernel
theorem dX3_takesBehindLeft_56 : decode cX3_takesBehindLeft 56 = .ok (.goto 4, 3) := by decide +kernel
theorem dX3_takesBehindLeft_59 : decode cX3_takesBehindLeft 59 = .ok (.iconst 0, 1) := by decide +kernel
theorem dX3_takesBehindLeft_60 : decode cX3_takesBehindLeft 60 = .ok (.ireturn, 1) := by decide +kernel
theorem dX3_takesFirstOfRight_0 : decode cX3_takesFirstOfRight 0 = .ok (.iload_n 1, 1) := by decide +kernel
theorem dX3_takesFirstOfRight_1 : decode cX3_takesFirstOfRight 1 = .ok (.invokestatic 59, 3) := by decide +kernel
theorem dX3_takesFirstOfRight_4 : decode cX3_takesFirstOfRight 4 = .ok (.aload_n 0, 1) := by decide +kernel
theorem dX3_takesFirstOfRight_5 : decode cX3_takesFirstOfRight 5 = .ok (.getfield 53, 3) := by decide +kernel
theorem dX3_takesFirstOfRight_8 : decode cX3_takesFirstOfRight 8 = .ok (.if_icmp .ge 5, 3) := by decide +kernel
theorem dX3_takesFirstOfRight_11 : decode cX3_takesFirstOfRight 11 = .ok (.iconst 0, 1) := by decide +kernel
theorem dX3_takesFirstOfRight_12 : decode cX3_takesFirstOfRight 12 = .ok (.ireturn, 1) := by decide +kernel
theorem dX3_takesFirstOfRight_13 : decode cX3_takesFirstOfRight 13 = .ok (.aload_n 0, 1) := by decide +kernel
theorem dX3_takesFirstOfRight_14 : decode cX3_takesFirstOfRight 14 = .ok (.iload_n 1, 1) := by decide +kernel
theorem dX3_takesFirstOfRight_15 : decode cX3_takesFirstOfRight 15 = .ok (.putfield 56, 3) := by decide +kernel
theorem dX3_takesFirstOfRight_18 : decode cX3_takesFirstOfRight 18 = .ok (.aload_n 0, 1) := by decide +kernel
theorem dX3_takesFirstOfRight_19 : decode cX3_takesFirstOfRight 19 = .ok (.bipush 7, 2) := by decide +kernel
theorem dX3_takesFirstOfRight_21 : decode cX3_takesFirstOfRight 21 = .ok (.invokevirtual 19, 3) := by decide +kernel
theorem dX3_takesFirstOfRight_24 : decode cX3_takesFirstOfRight 24 = .ok (.ireturn, 1) := by decide +kernel
theorem dX3_greatestFrom_0 : decode cX3_greatestFrom 0 = .ok (.iload_n 0, 1) := by decide +kernel
theorem dX3_greatestFrom_1 : decode cX3_greatestFrom 1 = .ok (.ifCond .eq 13, 3) := by decide +kernel
theorem dX3_greatestFrom_4 : decode cX3_greatestFrom 4 = .ok (.bipush 10, 2) := by decide +kernel
theorem dX3_greatestFrom_6 : decode cX3_greatestFrom 6 = .ok (.iload_n 0, 1) := by decide +kernel
theorem dX3_greatestFrom_7 : decode cX3_greatestFrom 7 = .ok (.imul, 1) := by decide +kernel
theorem dX3_greatestFrom_8 : decode cX3_greatestFrom 8 = .ok (.invokestatic 50, 3) := by decide +kernel
theorem dX3_greatestFrom_11 : decode cX3_greatestFrom 11 = .ok (.ifCond .ne 5, 3) := by decide +kernel
theorem dX3_greatestFrom_14 : decode cX3_greatestFrom 14 = .ok (.iload_n 0, 1) := by decide +kernel
theorem dX3_greatestFrom_15 : decode cX3_greatestFrom 15 = .ok (.ireturn, 1) := by decide +kernel
theorem dX3_greatestFrom_16 : decode cX3_greatestFrom 16 = .ok (.bipush 10, 2) := by decide +kernel
theorem dX3_greatestFrom_18 : decode cX3_greatestFrom 18 = .ok (.iload_n 0, 1) := by decide +kernel
theorem dX3_greatestFrom_19 : decode cX3_greatestFrom 19 = .ok (.imul, 1) := by decide +kernel
theorem dX3_greatestFrom_20 : decode cX3_greatestFrom 20 = .ok (.bipush 9, 2) := by decide +kernel
theorem dX3_greatestFrom_22 : decode cX3_greatestFrom 22 = .ok (.iadd, 1) := by decide +kernel
theorem dX3_greatestFrom_23 : decode cX3_greatestFrom 23 = .ok (.bipush 31, 2) := by decide +kernel
theorem dX3_greatestFrom_25 : decode cX3_greatestFrom 25 = .ok (.invokestatic 63, 3) := by decide +kernel
theorem dX3_greatestFrom_28 : decode cX3_greatestFrom 28 = .ok (.ireturn, 1) := by decide +kernel
theorem dX3_takesBehindRight_0 : decode cX3_takesBehindRight 0 = .ok (.iload_n 1, 1) := by decide +kernel
theorem dX3_takesBehindRight_1 : decode cX3_takesBehindRight 1 = .ok (.bipush 58, 2) := by decide +kernel
theorem dX3_takesBehindRight_3 : decode cX3_takesBehindRight 3 = .ok (.if_icmp .ne 29, 3) := by decide +kernel
theorem dX3_takesBehindRight_6 : decode cX3_takesBehindRight 6 = .ok (.aload_n 0, 1) := by decide +kernel
theorem dX3_takesBehindRight_7 : decode cX3_takesBehindRight 7 = .ok (.getfield 56, 3) := by decide +kernel
theorem dX3_takesBehindRight_10 : decode cX3_takesBehindRight 10 = .ok (.aload_n 0, 1) := by decide +kernel
theorem dX3_takesBehindRight_11 : decode cX3_takesBehindRight 11 = .ok (.getfield 53, 3) := by decide +kernel
theorem dX3_takesBehindRight_14 : decode cX3_takesBehindRight 14 = .ok (.if_icmp .lt 16, 3) := by decide +kernel
theorem dX3_takesBehindRight_17 : decode cX3_takesBehindRight 17 = .ok (.aload_n 0, 1) := by decide +kernel
theorem dX3_takesBehindRight_18 : decode cX3_takesBehindRight 18 = .ok (.bipush 8, 2) := by decide +kernel
theorem dX3_takesBehindRight_20 : decode cX3_takesBehindRight 20 = .ok (.invokevirtual 19, 3) := by decide +kernel
theorem dX3_takesBehindRight_23 : decode cX3_takesBehindRight 23 = .ok (.ifCond .eq 7, 3) := by decide +kernel
theorem dX3_takesBehindRight_26 : decode cX3_takesBehindRight 26 = .ok (.iconst 1, 1) := by decide +kernel
theorem dX3_takesBehindRight_27 : decode cX3_takesBehindRight 27 = .ok (.goto 4, 3) := by decide +kernel
theorem dX3_takesBehindRight_30 : decode cX3_takesBehindRight 30 = .ok (.iconst 0, 1) := by decide +kernel
theorem dX3_takesBehindRight_31 : decode cX3_takesBehindRight 31 = .ok (.ireturn, 1) := by decide +kernel
theorem dX3_takesBehindRight_32 : decode cX3_takesBehindRight 32 = .ok (.bipush 10, 2) := by decide +kernel
theorem dX3_takesBehindRight_34 : decode cX3_takesBehindRight 34 = .ok (.aload_n 0, 1) := by decide +kernel
theorem dX3_takesBehindRight_35 : decode cX3_takesBehindRight 35 = .ok (.getfield 56, 3) := by decide +kernel
theorem dX3_takesBehindRight_38 : decode cX3_takesBehindRight 38 = .ok (.imul, 1) := by decide +kernel
theorem dX3_takesBehindRight_39 : decode cX3_takesBehindRight 39 = .ok (.iload_n 2, 1) := by decide +kernel
theorem dX3_takesBehindRight_40 : decode cX3_takesBehindRight 40 = .ok (.iadd, 1) := by decide +kernel
theorem dX3_takesBehindRight_41 : decode cX3_takesBehindRight 41 = .ok (.istore_n 3, 1) := by decide +kernel
theorem dX3_takesBehindRight_42 : decode cX3_takesBehindRight 42 = .ok (.iload_n 2, 1) := by decide +kernel
theorem dX3_takesBehindRight_43 : decode cX3_takesBehindRight 43 = .ok (.bipush (-4), 2) := by decide +kernel
theorem dX3_takesBehindRight_45 : decode cX3_takesBehindRight 45 = .ok (.if_icmp .eq 25, 3) := by decide +kernel
theorem dX3_takesBehindRight_48 : decode cX3_takesBehindRight 48 = .ok (.aload_n 0, 1) := by decide +kernel
theorem dX3_takesBehindRight_49 : decode cX3_takesBehindRight 49 = .ok (.getfield 56, 3) := by decide +kernel
theorem dX3_takesBehindRight_52 : decode cX3_takesBehindRight 52 = .ok (.ifCond .eq 18, 3) := by decide +kernel
theorem dX3_takesBehindRight_55 : decode cX3_takesBehindRight 55 = .ok (.iload_n 3, 1) := by decide +kernel
theorem dX3_takesBehindRight_56 : decode cX3_takesBehindRight 56 = .ok (.invokestatic 50, 3) := by decide +kernel
theorem dX3_takesBehindRight_59 : decode cX3_takesBehindRight 59 = .ok (.ifCond .eq 11, 3) := by decide +kernel
theorem dX3_takesBehindRight_62 : decode cX3_takesBehindRight 62 = .ok (.iload_n 3, 1) := by decide +kernel
theorem dX3_takesBehindRight_63 : decode cX3_takesBehindRight 63 = .ok (.aload_n 0, 1) := by decide +kernel
theorem dX3_takesBehindRight_64 : decode cX3_takesBehindRight 64 = .ok (.getfield 53, 3) := by decide +kernel
theorem dX3_takesBehindRight_67 : decode cX3_takesBehindRight 67 = .ok (.if_icmp .ge 5, 3) := by decide +kernel
theorem dX3_takesBehindRight_70 : decode cX3_takesBehindRight 70 = .ok (.iconst 0, 1) := by decide +kernel
theorem dX3_takesBehindRight_71 : decode cX3_takesBehindRight 71 = .ok (.ireturn, 1) := by decide +kernel
theorem dX3_takesBehindRight_72 : decode cX3_takesBehindRight 72 = .ok (.aload_n 0, 1) := by decide +kernel
theorem dX3_takesBehindRight_73 : decode cX3_takesBehindRight 73 = .ok (.iload_n 3, 1) := by decide +kernel
theorem dX3_takesBehindRight_74 : decode cX3_takesBehindRight 74 = .ok (.putfield 56, 3) := by decide +kernel
theorem dX3_takesBehindRight_77 : decode cX3_takesBehindRight 77 = .ok (.aload_n 0, 1) := by decide +kernel
theorem dX3_takesBehindRight_78 : decode cX3_takesBehindRight 78 = .ok (.bipush 7, 2) := by decide +kernel
theorem dX3_takesBehindRight_80 : decode cX3_takesBehindRight 80 = .ok (.invokevirtual 19, 3) := by decide +kernel
theorem dX3_takesBehindRight_83 : decode cX3_takesBehindRight 83 = .ok (.ireturn, 1) := by decide +kernel
theorem dX3_takesPlane_0 : decode cX3_takesPlane 0 = .ok (.iload_n 1, 1) := by decide +kernel
theorem dX3_takesPlane_1 : decode cX3_takesPlane 1 = .ok (.invokestatic 69, 3) := by decide +kernel
theorem dX3_takesPlane_4 : decode cX3_takesPlane 4 = .ok (.ifCond .ne 5, 3) := by decide +kernel
theorem dX3_takesPlane_7 : decode cX3_takesPlane 7 = .ok (.iconst 0, 1) := by decide +kernel
theorem dX3_takesPlane_8 : decode cX3_takesPlane 8 = .ok (.ireturn, 1) := by decide +kernel
theorem dX3_takesPlane_9 : decode cX3_takesPlane 9 = .ok (.aload_n 0, 1) := by decide +kernel
theorem dX3_takesPlane_10 : decode cX3_takesPlane 10 = .ok (.iload_n 1, 1) := by decide +kernel
theorem dX3_takesPlane_11 : decode cX3_takesPlane 11 = .ok (.putfield 72, 3) := by decide +kernel
theorem dX3_takesPlane_14 : decode cX3_takesPlane 14 = .ok (.aload_n 0, 1) := by decide +kernel
theorem dX3_takesPlane_15 : decode cX3_takesPlane 15 = .ok (.bipush 9, 2) := by decide +kernel
theorem dX3_takesPlane_17 : decode cX3_takesPlane 17 = .ok (.invokevirtual 19, 3) := by decide +kernel
theorem dX3_takesPlane_20 : decode cX3_takesPlane 20 = .ok (.ireturn, 1) := by decide +kernel
theorem dX4_init_0 : decode cX4_init 0 = .ok (.aload_n 0, 1) := by decide +kernel
theorem dX4_init_1 : decode cX4_init 1 = .ok (.invokespecial 3, 3) := by decide +kernel
theorem dX4_init_4 : decode cX4_init 4 = .ok (.aload_n 0, 1) := by decide +kernel
theorem dX4_init_5 : decode cX4_init 5 = .ok (.sipush 256, 3) := by decide +kernel
theorem dX4_init_8 : decode cX4_init 8 = .ok (.newarray .int, 2) := by decide +kernel
theorem dX4_init_10 : decode cX4_init 10 = .ok (.putfield 9, 3) := by decide +kernel
theorem dX4_init_13 : decode cX4_init 13 = .ok (.aload_n 0, 1) := by decide +kernel
theorem dX4_init_14 : decode cX4_init 14 = .ok (.sipush 256, 3) := by decide +kernel
theorem dX4_init_17 : decode cX4_init 17 = .ok (.newarray .int, 2) := by decide +kernel
theorem dX4_init_19 : decode cX4_init 19 = .ok (.putfield 15, 3) := by decide +kernel
theorem dX4_init_22 : decode cX4_init 22 = .ok (.aload_n 0, 1) := by decide +kernel
theorem dX4_init_23 : decode cX4_init 23 = .ok (.sipush 256, 3) := by decide +kernel
theorem dX4_init_26 : decode cX4_init 26 = .ok (.newarray .int, 2) := by decide +kernel
theorem dX4_init_28 : decode cX4_init 28 = .ok (.putfield 18, 3) := by decide +kernel
theorem dX4_init_31 : decode cX4_init 31 = .ok (.aload_n 0, 1) := by decide +kernel
theorem dX4_init_32 : decode cX4_init 32 = .ok (.bipush 6, 2) := by decide +kernel
theorem dX4_init_34 : decode cX4_init 34 = .ok (.newarray .int, 2) := by decide +kernel
theorem dX4_init_36 : decode cX4_init 36 = .ok (.putfield 21, 3) := by decide +kernel
theorem dX4_init_39 : decode cX4_init 39 = .ok (.aload_n 0, 1) := by decide +kernel
theorem dX4_init_40 : decode cX4_init 40 = .ok (.bipush 24, 2) := by decide +kernel
theorem dX4_init_42 : decode cX4_init 42 = .ok (.newarray .int, 2) := by decide +kernel
theorem dX4_init_44 : decode cX4_init 44 = .ok (.putfield 24, 3) := by decide +kernel
theorem dX4_init_47 : decode cX4_init 47 = .ok (.aload_n 0, 1) := by decide +kernel
theorem dX4_init_48 : decode cX4_init 48 = .ok (.iconst 1, 1) := by decide +kernel
theorem dX4_init_49 : decode cX4_init 49 = .ok (.putfield 27, 3) := by decide +kernel
theorem dX4_init_52 : decode cX4_init 52 = .ok (.aload_n 0, 1) := by decide +kernel
theorem dX4_init_53 : decode cX4_init 53 = .ok (.getfield 18, 3) := by decide +kernel
theorem dX4_init_56 : decode cX4_init 56 = .ok (.bipush (-4), 2) := by decide +kernel
theorem dX4_init_58 : decode cX4_init 58 = .ok (.invokestatic 31, 3) := by decide +kernel
theorem dX4_init_61 : decode cX4_init 61 = .ok (.getstatic 37, 3) := by decide +kernel
theorem dX4_init_64 : decode cX4_init 64 = .ok (.iconst 0, 1) := by decide +kernel
theorem dX4_init_65 : decode cX4_init 65 = .ok (.aload_n 0, 1) := by decide +kernel
theorem dX4_init_66 : decode cX4_init 66 = .ok (.getfield 21, 3) := by decide +kernel
theorem dX4_init_69 : decode cX4_init 69 = .ok (.iconst 0, 1) := by decide +kernel
theorem dX4_init_70 : decode cX4_init 70 = .ok (.bipush 6, 2) := by decide +kernel
theorem dX4_init_72 : decode cX4_init 72 = .ok (.invokestatic 40, 3) := by decide +kernel
theorem dX4_init_75 : decode cX4_init 75 = .ok (.return_, 1) := by decide +kernel
theorem dX4_copyFrom_0 : decode cX4_copyFrom 0 = .ok (.aload_n 1, 1) := by decide +kernel
theorem dX4_copyFrom_1 : decode cX4_copyFrom 1 = .ok (.getfield 9, 3) := by decide +kernel
theorem dX4_copyFrom_4 : decode cX4_copyFrom 4 = .ok (.iconst 0, 1) := by decide +kernel
theorem dX4_copyFrom_5 : decode cX4_copyFrom 5 = .ok (.aload_n 0, 1) := by decide +kernel
theorem dX4_copyFrom_6 : decode cX4_copyFrom 6 = .ok (.getfield 9, 3) := by decide +kernel
theorem dX4_copyFrom_9 : decode cX4_copyFrom 9 = .ok (.iconst 0, 1) := by decide +kernel
theorem dX4_copyFrom_10 : decode cX4_copyFrom 10 = .ok (.sipush 256, 3) := by decide +kernel
theorem dX4_copyFrom_13 : decode cX4_copyFrom 13 = .ok (.invokestatic 40, 3) := by decide +kernel
theorem dX4_copyFrom_16 : decode cX4_copyFrom 16 = .ok (.aload_n 1, 1) := by decide +kernel
theorem dX4_copyFrom_17 : decode cX4_copyFrom 17 = .ok (.getfield 15, 3) := by decide +kernel
theorem dX4_copyFrom_20 : decode cX4_copyFrom 20 = .ok (.iconst 0, 1) := by decide +kernel
theorem dX4_copyFrom_21 : decode cX4_copyFrom 21 = .ok (.aload_n 0, 1) := by decide +kernel
theorem dX4_copyFrom_22 : decode cX4_copyFrom 22 = .ok (.getfield 15, 3) := by decide +kernel
theorem dX4_copyFrom_25 : decode cX4_copyFrom 25 = .ok (.iconst 0, 1) := by decide +kernel
theorem dX4_copyFrom_26 : decode cX4_copyFrom 26 = .ok (.sipush 256, 3) := by decide +kernel
theorem dX4_copyFrom_29 : decode cX4_copyFrom 29 = .ok (.invokestatic 40, 3) := by decide +kernel
theorem dX4_copyFrom_32 : decode cX4_copyFrom 32 = .ok (.aload_n 1, 1) := by decide +kernel
theorem dX4_copyFrom_33 : decode cX4_copyFrom 33 = .ok (.getfield 18, 3) := by decide +kernel
theorem dX4_copyFrom_36 : decode cX4_copyFrom 36 = .ok (.iconst 0, 1) := by decide +kernel
theorem dX4_copyFrom_37 : decode cX4_copyFrom 37 = .ok (.aload_n 0, 1) := by decide +kernel
theorem dX4_copyFrom_38 : decode cX4_copyFrom 38 = .ok (.getfield 18, 3) := by decide +kernel
theorem dX4_copyFrom_41 : decode cX4_copyFrom 41 = .ok (.iconst 0, 1) := by decide +kernel
theorem dX4_copyFrom_42 : decode cX4_copyFrom 42 = .ok (.sipush 256, 3) := by decide +kernel
theorem dX4_copyFrom_45 : decode cX4_copyFrom 45 = .ok (.invokestatic 40, 3) := by decide +kernel
theorem dX4_copyFrom_48 : decode cX4_copyFrom 48 = .ok (.aload_n 1, 1) := by decide +kernel
theorem dX4_copyFrom_49 : decode cX4_copyFrom 49 = .ok (.getfield 21, 3) := by decide +kernel
theorem dX4_copyFrom_52 : decode cX4_copyFrom 52 = .ok (.iconst 0, 1) := by decide +kernel
theorem dX4_copyFrom_53 : decode cX4_copyFrom 53 = .ok (.aload_n 0, 1) := by decide +kernel
theorem dX4_copyFrom_54 : decode cX4_copyFrom 54 = .ok (.getfield 21, 3) := by decide +kernel
theorem dX4_copyFrom_57 : decode cX4_copyFrom 57 = .ok (.iconst 0, 1) := by decide +kernel
theorem dX4_copyFrom_58 : decode cX4_copyFrom 58 = .ok (.bipush 6, 2) := by decide +kernel
theorem dX4_copyFrom_60 : decode cX4_copyFrom 60 = .ok (.invokestatic 40, 3) := by decide +kernel
theorem dX4_copyFrom_63 : decode cX4_copyFrom 63 = .ok (.aload_n 1, 1) := by decide +kernel
theorem dX4_copyFrom_64 : decode cX4_copyFrom 64 = .ok (.getfield 24, 3) := by decide +kernel
theorem dX4_copyFrom_67 : decode cX4_copyFrom 67 = .ok (.iconst 0, 1) := by decide +kernel
theorem dX4_copyFrom_68 : decode cX4_copyFrom 68 = .ok (.aload_n 0, 1) := by decide +kernel
theorem dX4_copyFrom_69 : decode cX4_copyFrom 69 = .ok (.getfield 24, 3) := by decide +kernel
theorem dX4_copyFrom_72 : decode cX4_copyFrom 72 = .ok (.iconst 0, 1) := by decide +kernel
theorem dX4_copyFrom_73 : decode cX4_copyFrom 73 = .ok (.bipush 24, 2) := by decide +kernel
theorem dX4_copyFrom_75 : decode cX4_copyFrom 75 = .ok (.invokestatic 40, 3) := by decide +kernel
theorem dX4_copyFrom_78 : decode cX4_copyFrom 78 = .ok (.aload_n 0, 1) := by decide +kernel
theorem dX4_copyFrom_79 : decode cX4_copyFrom 79 = .ok (.aload_n 1, 1) := by decide +kernel
theorem dX4_copyFrom_80 : decode cX4_copyFrom 80 = .ok (.getfield 46, 3) := by decide +kernel
theorem dX4_copyFrom_83 : decode cX4_copyFrom 83 = .ok (.putfield 46, 3) := by decide +kernel
theorem dX4_copyFrom_86 : decode cX4_copyFrom 86 = .ok (.aload_n 0, 1) := by decide +kernel
theorem dX4_copyFrom_87 : decode cX4_copyFrom 87 = .ok (.aload_n 1, 1) := by decide +kernel
theorem dX4_copyFrom_88 : decode cX4_copyFrom 88 = .ok (.getfield 27, 3) := by decide +kernel
theorem dX4_copyFrom_91 : decode cX4_copyFrom 91 = .ok (.putfield 27, 3) := by decide +kernel
theorem dX4_copyFrom_94 : decode cX4_copyFrom 94 = .ok (.return_, 1) := by decide +kernel
theorem dX4_layPlane_0 : decode cX4_layPlane 0 = .ok (.iload_n 1, 1) := by decide +kernel
theorem dX4_layPlane_1 : decode cX4_layPlane 1 = .ok (.istore 6, 2) := by decide +kernel
theorem dX4_layPlane_3 : decode cX4_layPlane 3 = .ok (.iload 6, 2) := by decide +kernel
theorem dX4_layPlane_5 : decode cX4_layPlane 5 = .ok (.iload_n 3, 1) := by decide +kernel
theorem dX4_layPlane_6 : decode cX4_layPlane 6 = .ok (.if_icmp .gt 55, 3) := by decide +kernel
theorem dX4_layPlane_9 : decode cX4_layPlane 9 = .ok (.iload 6, 2) := by decide +kernel
theorem dX4_layPlane_11 : decode cX4_layPlane 11 = .ok (.invokestatic 49, 3) := by decide +kernel
theorem dX4_layPlane_14 : decode cX4_layPlane 14 = .ok (.ifCond .eq 47, 3) := by decide +kernel
theorem dX4_layPlane_17 : decode cX4_layPlane 17 = .ok (.iload_n 2, 1) := by decide +kernel
theorem dX4_layPlane_18 : decode cX4_layPlane 18 = .ok (.istore 7, 2) := by decide +kernel
theorem dX4_layPlane_20 : decode cX4_layPlane 20 = .ok (.iload 7, 2) := by decide +kernel
theorem dX4_layPlane_22 : decode cX4_layPlane 22 = .ok (.iload 4, 2) := by decide +kernel
theorem dX4_layPlane_24 : decode cX4_layPlane 24 = .ok (.if_icmp .gt 31, 3) := by decide +kernel
theorem dX4_layPlane_27 : decode cX4_layPlane 27 = .ok (.iload 7, 2) := by decide +kernel
theorem dX4_layPlane_29 : decode cX4_layPlane 29 = .ok (.invokestatic 53, 3) := by decide +kernel
theorem dX4_layPlane_32 : decode cX4_layPlane 32 = .ok (.ifCond .eq 23, 3) := by decide +kernel
theorem dX4_layPlane_35 : decode cX4_layPlane 35 = .ok (.aload_n 0, 1) := by decide +kernel
theorem dX4_layPlane_36 : decode cX4_layPlane 36 = .ok (.getfield 9, 3) := by decide +kernel
theorem dX4_layPlane_39 : decode cX4_layPlane 39 = .ok (.iload 6, 2) := by decide +kernel
theorem dX4_layPlane_41 : decode cX4_layPlane 41 = .ok (.iload 7, 2) := by decide +kernel
theorem dX4_layPlane_43 : decode cX4_layPlane 43 = .ok (.invokestatic 56, 3) := by decide +kernel
theorem dX4_layPlane_46 : decode cX4_layPlane 46 = .ok (.iload 5, 2) := by decide +kernel
theorem dX4_layPlane_48 : decode cX4_layPlane 48 = .ok (.iastore, 1) := by decide +kernel
theorem dX4_layPlane_49 : decode cX4_layPlane 49 = .ok (.iinc 7 1, 3) := by decide +kernel
theorem dX4_layPlane_52 : decode cX4_layPlane 52 = .ok (.goto (-32), 3) := by decide +kernel
theorem dX4_layPlane_55 : decode cX4_layPlane 55 = .ok (.iinc 6 1, 3) := by decide +kernel
theorem dX4_layPlane_58 : decode cX4_layPlane 58 = .ok (.goto (-55), 3) := by decide +kernel
theorem dX4_layPlane_61 : decode cX4_layPlane 61 = .ok (.return_, 1) := by decide +kernel
theorem dX4_otherPlanesThan_0 : decode cX4_otherPlanesThan 0 = .ok (.aload_n 0, 1) := by decide +kernel
theorem dX4_otherPlanesThan_1 : decode cX4_otherPlanesThan 1 = .ok (.getfield 9, 3) := by decide +kernel
theorem dX4_otherPlanesThan_4 : decode cX4_otherPlanesThan 4 = .ok (.aload_n 1, 1) := by decide +kernel
theorem dX4_otherPlanesThan_5 : decode cX4_otherPlanesThan 5 = .ok (.getfield 9, 3) := by decide +kernel
theorem dX4_otherPlanesThan_8 : decode cX4_otherPlanesThan 8 = .ok (.invokestatic 60, 3) := by decide +kernel
theorem dX4_otherPlanesThan_11 : decode cX4_otherPlanesThan 11 = .ok (.ireturn, 1) := by decide +kernel
theorem dX4_otherDotsThan_0 : decode cX4_otherDotsThan 0 = .ok (.aload_n 0, 1) := by decide +kernel
theorem dX4_otherDotsThan_1 : decode cX4_otherDotsThan 1 = .ok (.getfield 15, 3) := by decide +kernel
theorem dX4_otherDotsThan_4 : decode cX4_otherDotsThan 4 = .ok (.aload_n 1, 1) := by decide +kernel
theorem dX4_otherDotsThan_5 : decode cX4_otherDotsThan 5 = .ok (.getfield 15, 3) := by decide +kernel
theorem dX4_otherDotsThan_8 : decode cX4_otherDotsThan 8 = .ok (.invokestatic 60, 3) := by decide +kernel
theorem dX4_otherDotsThan_11 : decode cX4_otherDotsThan 11 = .ok (.ireturn, 1) := by decide +kernel
theorem dX4_differences_0 : decode cX4_differences 0 = .ok (.iconst 0, 1) := by decide +kernel
theorem dX4_differences_1 : decode cX4_differences 1 = .ok (.istore_n 2, 1) := by decide +kernel
theorem dX4_differences_2 : decode cX4_differences 2 = .ok (.iconst 0, 1) := by decide +kernel
theorem dX4_differences_3 : decode cX4_differences 3 = .ok (.istore_n 3, 1) := by decide +kernel
theorem dX4_differences_4 : decode cX4_differences 4 = .ok (.iload_n 3, 1) := by decide +kernel
theorem dX4_differences_5 : decode cX4_differences 5 = .ok (.aload_n 0, 1) := by decide +kernel
theorem dX4_differences_6 : decode cX4_differences 6 = .ok (.arraylength, 1) := by decide +kernel
theorem dX4_differences_7 : decode cX4_differences 7 = .ok (.if_icmp .ge 27, 3) := by decide +kernel
theorem dX4_differences_10 : decode cX4_differences 10 = .ok (.iload_n 3, 1) := by decide +kernel
theorem dX4_differences_11 : decode cX4_differences 11 = .ok (.aload_n 1, 1) := by decide +kernel
theorem dX4_differences_12 : decode cX4_differences 12 = .ok (.arraylength, 1) := by decide +kernel
theorem dX4_differences_13 : decode cX4_differences 13 = .ok (.if_icmp .ge 21, 3) := by decide +kernel
theorem dX4_differences_16 : decode cX4_differences 16 = .ok (.aload_n 0, 1) := by decide +kernel
theorem dX4_differences_17 : decode cX4_differences 17 = .ok (.iload_n 3, 1) := by decide +kernel
theorem dX4_differences_18 : decode cX4_differences 18 = .ok (.iaload, 1) := by decide +kernel
theorem dX4_differences_19 : decode cX4_differences 19 = .ok (.aload_n 1, 1) := by decide +kernel
theorem dX4_differences_20 : decode cX4_differences 20 = .ok (.iload_n 3, 1) := by decide +kernel
theorem dX4_differences_21 : decode cX4_differences 21 = .ok (.iaload, 1) := by decide +kernel
theorem dX4_differences_22 : decode cX4_differences 22 = .ok (.if_icmp .eq 6, 3) := by decide +kernel
theorem dX4_differences_25 : decode cX4_differences 25 = .ok (.iinc 2 1, 3) := by decide +kernel
theorem dX4_differences_28 : decode cX4_differences 28 = .ok (.iinc 3 1, 3) := by decide +kernel
theorem dX4_differences_31 : decode cX4_differences 31 = .ok (.goto (-27), 3) := by decide +kernel
theorem dX4_differences_34 : decode cX4_differences 34 = .ok (.iload_n 2, 1) := by decide +kernel
theorem dX4_differences_35 : decode cX4_differences 35 = .ok (.ireturn, 1) := by decide +kernel
theorem dX4_planesAboveZero_0 : decode cX4_planesAboveZero 0 = .ok (.iconst 0, 1) := by decide +kernel
theorem dX4_planesAboveZero_1 : decode cX4_planesAboveZero 1 = .ok (.istore_n 1, 1) := by decide +kernel
theorem dX4_planesAboveZero_2 : decode cX4_planesAboveZero 2 = .ok (.iconst 0, 1) := by decide +kernel
theorem dX4_planesAboveZero_3 : decode cX4_planesAboveZero 3 = .ok (.istore_n 2, 1) := by decide +kernel
theorem dX4_planesAboveZero_4 : decode cX4_planesAboveZero 4 = .ok (.iload_n 2, 1) := by decide +kernel
theorem dX4_planesAboveZero_5 : decode cX4_planesAboveZero 5 = .ok (.sipush 256, 3) := by decide +kernel
theorem dX4_planesAboveZero_8 : decode cX4_planesAboveZero 8 = .ok (.if_icmp .ge 21, 3) := by decide +kernel
theorem dX4_planesAboveZero_11 : decode cX4_planesAboveZero 11 = .ok (.aload_n 0, 1) := by decide +kernel
theorem dX4_planesAboveZero_12 : decode cX4_planesAboveZero 12 = .ok (.getfield 9, 3) := by decide +kernel
theorem dX4_planesAboveZero_15 : decode cX4_planesAboveZero 15 = .ok (.iload_n 2, 1) := by decide +kernel
theorem dX4_planesAboveZero_16 : decode cX4_planesAboveZero 16 = .ok (.iaload, 1) := by decide +kernel
theorem dX4_planesAboveZero_17 : decode cX4_planesAboveZero 17 = .ok (.ifCond .le 6, 3) := by decide +kernel
theorem dX4_planesAboveZero_20 : decode cX4_planesAboveZero 20 = .ok (.iinc 1 1, 3) := by decide +kernel
theorem dX4_planesAboveZero_23 : decode cX4_planesAboveZero 23 = .ok (.iinc 2 1, 3) := by decide +kernel
theorem dX4_planesAboveZero_26 : decode cX4_planesAboveZero 26 = .ok (.goto (-22), 3) := by decide +kernel
theorem dX4_planesAboveZero_29 : decode cX4_planesAboveZero 29 = .ok (.iload_n 1, 1) := by decide +kernel
theorem dX4_planesAboveZero_30 : decode cX4_planesAboveZero 30 = .ok (.ireturn, 1) := by decide +kernel
theorem dX5_init_0 : decode cX5_init 0 = .ok (.aload_n 0, 1) := by decide +kernel
theorem dX5_init_1 : decode cX5_init 1 = .ok (.invokespecial 3, 3) := by decide +kernel
theorem dX5_init_4 : decode cX5_init 4 = .ok (.aload_n 0, 1) := by decide +kernel
theorem dX5_init_5 : decode cX5_init 5 = .ok (.new 9, 3) := by decide +kernel
theorem dX5_init_8 : decode cX5_init 8 = .ok (.dup, 1) := by decide +kernel
theorem dX5_init_9 : decode cX5_init 9 = .ok (.invokespecial 11, 3) := by decide +kernel
theorem dX5_init_12 : decode cX5_init 12 = .ok (.putfield 12, 3) := by decide +kernel
theorem dX5_init_15 : decode cX5_init 15 = .ok (.aload_n 0, 1) := by decide +kernel
theorem dX5_init_16 : decode cX5_init 16 = .ok (.new 9, 3) := by decide +kernel
theorem dX5_init_19 : decode cX5_init 19 = .ok (.dup, 1) := by decide +kernel
theorem dX5_init_20 : decode cX5_init 20 = .ok (.invokespecial 11, 3) := by decide +kernel
theorem dX5_init_23 : decode cX5_init 23 = .ok (.putfield 16, 3) := by decide +kernel
theorem dX5_init_26 : decode cX5_init 26 = .ok (.aload_n 0, 1) := by decide +kernel
theorem dX5_init_27 : decode cX5_init 27 = .ok (.new 19, 3) := by decide +kernel
theorem dX5_init_30 : decode cX5_init 30 = .ok (.dup, 1) := by decide +kernel
theorem dX5_init_31 : decode cX5_init 31 = .ok (.invokespecial 21, 3) := by decide +kernel
theorem dX5_init_34 : decode cX5_init 34 = .ok (.putfield 22, 3) := by decide +kernel
theorem dX5_init_37 : decode cX5_init 37 = .ok (.aload_n 0, 1) := by decide +kernel
theorem dX5_init_38 : decode cX5_init 38 = .ok (.new 26, 3) := by decide +kernel
theorem dX5_init_41 : decode cX5_init 41 = .ok (.dup, 1) := by decide +kernel
theorem dX5_init_42 : decode cX5_init 42 = .ok (.invokespecial 28, 3) := by decide +kernel
theorem dX5_init_45 : decode cX5_init 45 = .ok (.putfield 29, 3) := by decide +kernel
theorem dX5_init_48 : decode cX5_init 48 = .ok (.aload_n 0, 1) := by decide +kernel
theorem dX5_init_49 : decode cX5_init 49 = .ok (.new 33, 3) := by decide +kernel
theorem dX5_init_52 : decode cX5_init 52 = .ok (.dup, 1) := by decide +kernel
theorem dX5_init_53 : decode cX5_init 53 = .ok (.invokespecial 35, 3) := by decide +kernel
theorem dX5_init_56 : decode cX5_init 56 = .ok (.putfield 36, 3) := by decide +kernel
theorem dX5_init_59 : decode cX5_init 59 = .ok (.aload_n 0, 1) := by decide +kernel
theorem dX5_init_60 : decode cX5_init 60 = .ok (.new 33, 3) := by decide +kernel
theorem dX5_init_63 : decode cX5_init 63 = .ok (.dup, 1) := by decide +kernel
theorem dX5_init_64 : decode cX5_init 64 = .ok (.invokespecial 35, 3) := by decide +kernel
theorem dX5_init_67 : decode cX5_init 67 = .ok (.putfield 40, 3) := by decide +kernel
theorem dX5_init_70 : decode cX5_init 70 = .ok (.aload_n 0, 1) := by decide +kernel
theorem dX5_init_71 : decode cX5_init 71 = .ok (.sipush 256, 3) := by decide +kernel
theorem dX5_init_74 : decode cX5_init 74 = .ok (.newarray .int, 2) := by decide +kernel
theorem dX5_init_76 : decode cX5_init 76 = .ok (.putfield 43, 3) := by decide +kernel
theorem dX5_init_79 : decode cX5_init 79 = .ok (.aload_n 0, 1) := by decide +kernel
theorem dX5_init_80 : decode cX5_init 80 = .ok (.bipush 23, 2) := by decide +kernel
theorem dX5_init_82 : decode cX5_init 82 = .ok (.newarray .int, 2) := by decide +kernel
theorem dX5_init_84 : decode cX5_init 84 = .ok (.putfield 47, 3) := by decide +kernel
theorem dX5_init_87 : decode cX5_init 87 = .ok (.return_, 1) := by decide +kernel
theorem dX5_lay_0 : decode cX5_lay 0 = .ok (.iload_n 1, 1) := by decide +kernel
theorem dX5_lay_1 : decode cX5_lay 1 = .ok (.invokestatic 50, 3) := by decide +kernel
theorem dX5_lay_4 : decode cX5_lay 4 = .ok (.ifCond .eq 15, 3) := by decide +kernel
theorem dX5_lay_7 : decode cX5_lay 7 = .ok (.iload_n 3, 1) := by decide +kernel
theorem dX5_lay_8 : decode cX5_lay 8 = .ok (.invokestatic 50, 3) := by decide +kernel
theorem dX5_lay_11 : decode cX5_lay 11 = .ok (.ifCond .eq 8, 3) := by decide +kernel
theorem dX5_lay_14 : decode cX5_lay 14 = .ok (.iload_n 3, 1) := by decide +kernel
theorem dX5_lay_15 : decode cX5_lay 15 = .ok (.iload_n 1, 1) := by decide +kernel
theorem dX5_lay_16 : decode cX5_lay 16 = .ok (.if_icmp .ge 5, 3) := by decide +kernel
theorem dX5_lay_19 : decode cX5_lay 19 = .ok (.iconst (-1), 1) := by decide +kernel
theorem dX5_lay_20 : decode cX5_lay 20 = .ok (.ireturn, 1) := by decide +kernel
theorem dX5_lay_21 : decode cX5_lay 21 = .ok (.iload_n 2, 1) := by decide +kernel
theorem dX5_lay_22 : decode cX5_lay 22 = .ok (.invokestatic 54, 3) := by decide +kernel
theorem dX5_lay_25 : decode cX5_lay 25 = .ok (.ifCond .eq 25, 3) := by decide +kernel
theorem dX5_lay_28 : decode cX5_lay 28 = .ok (.iload 4, 2) := by decide +kernel
theorem dX5_lay_30 : decode cX5_lay 30 = .ok (.invokestatic 54, 3) := by decide +kernel
theorem dX5_lay_33 : decode cX5_lay 33 = .ok (.ifCond .eq 17, 3) := by decide +kernel
theorem dX5_lay_36 : decode cX5_lay 36 = .ok (.iload 4, 2) := by decide +kernel
theorem dX5_lay_38 : decode cX5_lay 38 = .ok (.iload_n 2, 1) := by decide +kernel
theorem dX5_lay_39 : decode cX5_lay 39 = .ok (.if_icmp .lt 11, 3) := by decide +kernel
theorem dX5_lay_42 : decode cX5_lay 42 = .ok (.iload 5, 2) := by decide +kernel
theorem dX5_lay_44 : decode cX5_lay 44 = .ok (.invokestatic 57, 3) := by decide +kernel
theorem dX5_lay_47 : decode cX5_lay 47 = .ok (.ifCond .ne 5, 3) := by decide +kernel
theorem dX5_lay_50 : decode cX5_lay 50 = .ok (.iconst (-1), 1) := by decide +kernel
theorem dX5_lay_51 : decode cX5_lay 51 = .ok (.ireturn, 1) := by decide +kernel
theorem dX5_lay_52 : decode cX5_lay 52 = .ok (.aload_n 0, 1) := by decide +kernel
theorem dX5_lay_53 : decode cX5_lay 53 = .ok (.getfield 22, 3) := by decide +kernel
theorem dX5_lay_56 : decode cX5_lay 56 = .ok (.aload_n 0, 1) := by decide +kernel
theorem dX5_lay_57 : decode cX5_lay 57 = .ok (.getfield 12, 3) := by decide +kernel
theorem dX5_lay_60 : decode cX5_lay 60 = .ok (.invokevirtual 60, 3) := by decide +kernel
theorem dX5_lay_63 : decode cX5_lay 63 = .ok (.astore 6, 2) := by decide +kernel
theorem dX5_lay_65 : decode cX5_lay 65 = .ok (.aload_n 0, 1) := by decide +kernel
theorem dX5_lay_66 : decode cX5_lay 66 = .ok (.getfield 12, 3) := by decide +kernel
theorem dX5_lay_69 : decode cX5_lay 69 = .ok (.iload_n 1, 1) := by decide +kernel
theorem dX5_lay_70 : decode cX5_lay 70 = .ok (.iload_n 2, 1) := by decide +kernel
theorem dX5_lay_71 : decode cX5_lay 71 = .ok (.iload_n 3, 1) := by decide +kernel
theorem dX5_lay_72 : decode cX5_lay 72 = .ok (.iload 4, 2) := by decide +kernel
theorem dX5_lay_74 : decode cX5_lay 74 = .ok (.iload 5, 2) := by decide +kernel
theorem dX5_lay_76 : decode cX5_lay 76 = .ok (.invokevirtual 64, 3) := by decide +kernel
theorem dX5_lay_79 : decode cX5_lay 79 = .ok (.aload_n 0, 1) := by decide +kernel
theorem dX5_lay_80 : decode cX5_lay 80 = .ok (.getfield 12, 3) := by decide +kernel
theorem dX5_lay_83 : decode cX5_lay 83 = .ok (.aload 6, 2) := by decide +kernel
theorem dX5_lay_85 : decode cX5_lay 85 = .ok (.invokevirtual 68, 3) := by decide +kernel
theorem dX5_lay_88 : decode cX5_lay 88 = .ok (.ireturn, 1) := by decide +kernel
theorem dX5_shift_0 : decode cX5_shift 0 = .ok (.iload_n 1, 1) := by decide +kernel
theorem dX5_shift_1 : decode cX5_shift 1 = .ok (.invokestatic 50, 3) := by decide +kernel
theorem dX5_shift_4 : decode cX5_shift 4 = .ok (.ifCond .eq 15, 3) := by decide +kernel
theorem dX5_shift_7 : decode cX5_shift 7 = .ok (.iload_n 2, 1) := by decide +kernel
theorem dX5_shift_8 : decode cX5_shift 8 = .ok (.bipush (-32), 2) := by decide +kernel
theorem dX5_shift_10 : decode cX5_shift 10 = .ok (.if_icmp .le 9, 3) := by decide +kernel
theorem dX5_shift_13 : decode cX5_shift 13 = .ok (.iload_n 2, 1) := by decide +kernel
theorem dX5_shift_14 : decode cX5_shift 14 = .ok (.bipush 32, 2) := by decide +kernel
theorem dX5_shift_16 : decode cX5_shift 16 = .ok (.if_icmp .lt 5, 3) := by decide +kernel
theorem dX5_shift_19 : decode cX5_shift 19 = .ok (.iconst (-1), 1) := by decide +kernel
theorem dX5_shift_20 : decode cX5_shift 20 = .ok (.ireturn, 1) := by decide +kernel
theorem dX5_shift_21 : decode cX5_shift 21 = .ok (.aload_n 0, 1) := by decide +kernel
theorem dX5_shift_22 : decode cX5_shift 22 = .ok (.getfield 22, 3) := by decide +kernel
theorem dX5_shift_25 : decode cX5_shift 25 = .ok (.aload_n 0, 1) := by decide +kernel
theorem dX5_shift_26 : decode cX5_shift 26 = .ok (.getfield 12, 3) := by decide +kernel
theorem dX5_shift_29 : decode cX5_shift 29 = .ok (.invokevirtual 60, 3) := by decide +kernel
theorem dX5_shift_32 : decode cX5_shift 32 = .ok (.pop, 1) := by decide +kernel
theorem dX5_shift_33 : decode cX5_shift 33 = .ok (.aload_n 0, 1) := by decide +kernel
theorem dX5_shift_34 : decode cX5_shift 34 = .ok (.getfield 36, 3) := by decide +kernel
theorem dX5_shift_37 : decode cX5_shift 37 = .ok (.aload_n 0, 1) := by decide +kernel
theorem dX5_shift_38 : decode cX5_shift 38 = .ok (.getfield 12, 3) := by decide +kernel
theorem dX5_shift_41 : decode cX5_shift 41 = .ok (.iload_n 1, 1) := by decide +kernel
theorem dX5_shift_42 : decode cX5_shift 42 = .ok (.invokevirtual 72, 3) := by decide +kernel
theorem dX5_shift_45 : decode cX5_shift 45 = .ok (.iconst 0, 1) := by decide +kernel
theorem dX5_shift_46 : decode cX5_shift 46 = .ok (.istore_n 3, 1) := by decide +kernel
theorem dX5_shift_47 : decode cX5_shift 47 = .ok (.iconst 0, 1) := by decide +kernel
theorem dX5_shift_48 : decode cX5_shift 48 = .ok (.istore 4, 2) := by decide +kernel
theorem dX5_shift_50 : decode cX5_shift 50 = .ok (.iload 4, 2) := by decide +kernel
theorem dX5_shift_52 : decode cX5_shift 52 = .ok (.bipush 32, 2) := by decide +kernel
theorem dX5_shift_54 : decode cX5_shift 54 = .ok (.if_icmp .ge 63, 3) := by decide +kernel
theorem dX5_shift_57 : decode cX5_shift 57 = .ok (.iload 4, 2) := by decide +kernel
theorem dX5_shift_59 : decode cX5_shift 59 = .ok (.iload_n 2, 1) := by decide +kernel
theorem dX5_shift_60 : decode cX5_shift 60 = .ok (.isub, 1) := by decide +kernel
theorem dX5_shift_61 : decode cX5_shift 61 = .ok (.istore 5, 2) := by decide +kernel
theorem dX5_shift_63 : decode cX5_shift 63 = .ok (.iload 5, 2) := by decide +kernel
theorem dX5_shift_65 : decode cX5_shift 65 = .ok (.invokestatic 54, 3) := by decide +kernel
theorem dX5_shift_68 : decode cX5_shift 68 = .ok (.ifCond .eq 16, 3) := by decide +kernel
theorem dX5_shift_71 : decode cX5_shift 71 = .ok (.aload_n 0, 1) := by decide +kernel
theorem dX5_shift_72 : decode cX5_shift 72 = .ok (.getfield 36, 3) := by decide +kernel
theorem dX5_shift_75 : decode cX5_shift 75 = .ok (.getfield 76, 3) := by decide +kernel
end
section
/-! the instructions, decoded -/
theorem dX5_shift_78 : decode cX5_shift 78 = .ok (.iload 5, 2) := by decide +kernel
theorem dX5_shift_80 : decode cX5_shift 80 = .ok (.iaload, 1) := by decide +kernel
theorem dX5_shift_81 : decode cX5_shift 81 = .ok (.goto 4, 3) := by decide +kernel
theorem dX5_shift_84 : decode cX5_shift 84 = .ok (.iconst 0, 1) := by decide +kernel
theorem dX5_shift_85 : decode cX5_shift 85 = .ok (.istore 6, 2) := by decide +kernel
theorem dX5_shift_87 : decode cX5_shift 87 = .ok (.aload_n 0, 1) := by decide +kernel
theorem dX5_shift_88 : decode cX5_shift 88 = .ok (.getfield 12, 3) := by decide +kernel
theorem dX5_shift_91 : decode cX5_shift 91 = .ok (.getfield 79, 3) := by decide +kernel
theorem dX5_shift_94 : decode cX5_shift 94 = .ok (.iload_n 1, 1) := by decide +kernel
theorem dX5_shift_95 : decode cX5_shift 95 = .ok (.iload 4, 2) := by decide +kernel
theorem dX5_shift_97 : decode cX5_shift 97 = .ok (.invokestatic 80, 3) := by decide +kernel
theorem dX5_shift_100 : decode cX5_shift 100 = .ok (.iload 6, 2) := by decide +kernel
theorem dX5_shift_102 : decode cX5_shift 102 = .ok (.iastore, 1) := by decide +kernel
theorem dX5_shift_103 : decode cX5_shift 103 = .ok (.iload 6, 2) := by decide +kernel
theorem dX5_shift_105 : decode cX5_shift 105 = .ok (.ifCond .le 6, 3) := by decide +kernel
theorem dX5_shift_108 : decode cX5_shift 108 = .ok (.iinc 3 1, 3) := by decide +kernel
theorem dX5_shift_111 : decode cX5_shift 111 = .ok (.iinc 4 1, 3) := by decide +kernel
theorem dX5_shift_114 : decode cX5_shift 114 = .ok (.goto (-64), 3) := by decide +kernel
theorem dX5_shift_117 : decode cX5_shift 117 = .ok (.iload_n 3, 1) := by decide +kernel
theorem dX5_shift_118 : decode cX5_shift 118 = .ok (.ireturn, 1) := by decide +kernel
theorem dX5_swap_0 : decode cX5_swap 0 = .ok (.iload_n 1, 1) := by decide +kernel
theorem dX5_swap_1 : decode cX5_swap 1 = .ok (.invokestatic 50, 3) := by decide +kernel
theorem dX5_swap_4 : decode cX5_swap 4 = .ok (.ifCond .eq 15, 3) := by decide +kernel
theorem dX5_swap_7 : decode cX5_swap 7 = .ok (.iload_n 2, 1) := by decide +kernel
theorem dX5_swap_8 : decode cX5_swap 8 = .ok (.invokestatic 50, 3) := by decide +kernel
theorem dX5_swap_11 : decode cX5_swap 11 = .ok (.ifCond .eq 8, 3) := by decide +kernel
theorem dX5_swap_14 : decode cX5_swap 14 = .ok (.iload_n 1, 1) := by decide +kernel
theorem dX5_swap_15 : decode cX5_swap 15 = .ok (.iload_n 2, 1) := by decide +kernel
theorem dX5_swap_16 : decode cX5_swap 16 = .ok (.if_icmp .ne 5, 3) := by decide +kernel
theorem dX5_swap_19 : decode cX5_swap 19 = .ok (.iconst (-1), 1) := by decide +kernel
theorem dX5_swap_20 : decode cX5_swap 20 = .ok (.ireturn, 1) := by decide +kernel
theorem dX5_swap_21 : decode cX5_swap 21 = .ok (.aload_n 0, 1) := by decide +kernel
theorem dX5_swap_22 : decode cX5_swap 22 = .ok (.getfield 22, 3) := by decide +kernel
theorem dX5_swap_25 : decode cX5_swap 25 = .ok (.aload_n 0, 1) := by decide +kernel
theorem dX5_swap_26 : decode cX5_swap 26 = .ok (.getfield 12, 3) := by decide +kernel
theorem dX5_swap_29 : decode cX5_swap 29 = .ok (.invokevirtual 60, 3) := by decide +kernel
theorem dX5_swap_32 : decode cX5_swap 32 = .ok (.pop, 1) := by decide +kernel
theorem dX5_swap_33 : decode cX5_swap 33 = .ok (.aload_n 0, 1) := by decide +kernel
theorem dX5_swap_34 : decode cX5_swap 34 = .ok (.getfield 36, 3) := by decide +kernel
theorem dX5_swap_37 : decode cX5_swap 37 = .ok (.aload_n 0, 1) := by decide +kernel
theorem dX5_swap_38 : decode cX5_swap 38 = .ok (.getfield 12, 3) := by decide +kernel
theorem dX5_swap_41 : decode cX5_swap 41 = .ok (.iload_n 1, 1) := by decide +kernel
theorem dX5_swap_42 : decode cX5_swap 42 = .ok (.invokevirtual 72, 3) := by decide +kernel
theorem dX5_swap_45 : decode cX5_swap 45 = .ok (.aload_n 0, 1) := by decide +kernel
theorem dX5_swap_46 : decode cX5_swap 46 = .ok (.getfield 40, 3) := by decide +kernel
theorem dX5_swap_49 : decode cX5_swap 49 = .ok (.aload_n 0, 1) := by decide +kernel
theorem dX5_swap_50 : decode cX5_swap 50 = .ok (.getfield 12, 3) := by decide +kernel
theorem dX5_swap_53 : decode cX5_swap 53 = .ok (.iload_n 2, 1) := by decide +kernel
theorem dX5_swap_54 : decode cX5_swap 54 = .ok (.invokevirtual 72, 3) := by decide +kernel
theorem dX5_swap_57 : decode cX5_swap 57 = .ok (.aload_n 0, 1) := by decide +kernel
theorem dX5_swap_58 : decode cX5_swap 58 = .ok (.getfield 36, 3) := by decide +kernel
theorem dX5_swap_61 : decode cX5_swap 61 = .ok (.aload_n 0, 1) := by decide +kernel
theorem dX5_swap_62 : decode cX5_swap 62 = .ok (.getfield 12, 3) := by decide +kernel
theorem dX5_swap_65 : decode cX5_swap 65 = .ok (.iload_n 2, 1) := by decide +kernel
theorem dX5_swap_66 : decode cX5_swap 66 = .ok (.invokevirtual 84, 3) := by decide +kernel
theorem dX5_swap_69 : decode cX5_swap 69 = .ok (.aload_n 0, 1) := by decide +kernel
theorem dX5_swap_70 : decode cX5_swap 70 = .ok (.getfield 40, 3) := by decide +kernel
theorem dX5_swap_73 : decode cX5_swap 73 = .ok (.aload_n 0, 1) := by decide +kernel
theorem dX5_swap_74 : decode cX5_swap 74 = .ok (.getfield 12, 3) := by decide +kernel
theorem dX5_swap_77 : decode cX5_swap 77 = .ok (.iload_n 1, 1) := by decide +kernel
theorem dX5_swap_78 : decode cX5_swap 78 = .ok (.invokevirtual 84, 3) := by decide +kernel
theorem dX5_swap_81 : decode cX5_swap 81 = .ok (.iconst 0, 1) := by decide +kernel
theorem dX5_swap_82 : decode cX5_swap 82 = .ok (.istore_n 3, 1) := by decide +kernel
theorem dX5_swap_83 : decode cX5_swap 83 = .ok (.iconst 0, 1) := by decide +kernel
theorem dX5_swap_84 : decode cX5_swap 84 = .ok (.istore 4, 2) := by decide +kernel
theorem dX5_swap_86 : decode cX5_swap 86 = .ok (.iload 4, 2) := by decide +kernel
theorem dX5_swap_88 : decode cX5_swap 88 = .ok (.bipush 32, 2) := by decide +kernel
theorem dX5_swap_90 : decode cX5_swap 90 = .ok (.if_icmp .ge 35, 3) := by decide +kernel
theorem dX5_swap_93 : decode cX5_swap 93 = .ok (.aload_n 0, 1) := by decide +kernel
theorem dX5_swap_94 : decode cX5_swap 94 = .ok (.getfield 36, 3) := by decide +kernel
theorem dX5_swap_97 : decode cX5_swap 97 = .ok (.getfield 76, 3) := by decide +kernel
theorem dX5_swap_100 : decode cX5_swap 100 = .ok (.iload 4, 2) := by decide +kernel
theorem dX5_swap_102 : decode cX5_swap 102 = .ok (.iaload, 1) := by decide +kernel
theorem dX5_swap_103 : decode cX5_swap 103 = .ok (.aload_n 0, 1) := by decide +kernel
theorem dX5_swap_104 : decode cX5_swap 104 = .ok (.getfield 40, 3) := by decide +kernel
theorem dX5_swap_107 : decode cX5_swap 107 = .ok (.getfield 76, 3) := by decide +kernel
theorem dX5_swap_110 : decode cX5_swap 110 = .ok (.iload 4, 2) := by decide +kernel
theorem dX5_swap_112 : decode cX5_swap 112 = .ok (.iaload, 1) := by decide +kernel
theorem dX5_swap_113 : decode cX5_swap 113 = .ok (.if_icmp .eq 6, 3) := by decide +kernel
theorem dX5_swap_116 : decode cX5_swap 116 = .ok (.iinc 3 1, 3) := by decide +kernel
theorem dX5_swap_119 : decode cX5_swap 119 = .ok (.iinc 4 1, 3) := by decide +kernel
theorem dX5_swap_122 : decode cX5_swap 122 = .ok (.goto (-36), 3) := by decide +kernel
theorem dX5_swap_125 : decode cX5_swap 125 = .ok (.iload_n 3, 1) := by decide +kernel
theorem dX5_swap_126 : decode cX5_swap 126 = .ok (.ireturn, 1) := by decide +kernel
theorem dX5_turn_0 : decode cX5_turn 0 = .ok (.iload_n 1, 1) := by decide +kernel
theorem dX5_turn_1 : decode cX5_turn 1 = .ok (.invokestatic 50, 3) := by decide +kernel
theorem dX5_turn_4 : decode cX5_turn 4 = .ok (.ifCond .ne 5, 3) := by decide +kernel
theorem dX5_turn_7 : decode cX5_turn 7 = .ok (.iconst (-1), 1) := by decide +kernel
theorem dX5_turn_8 : decode cX5_turn 8 = .ok (.ireturn, 1) := by decide +kernel
theorem dX5_turn_9 : decode cX5_turn 9 = .ok (.aload_n 0, 1) := by decide +kernel
theorem dX5_turn_10 : decode cX5_turn 10 = .ok (.getfield 22, 3) := by decide +kernel
theorem dX5_turn_13 : decode cX5_turn 13 = .ok (.aload_n 0, 1) := by decide +kernel
theorem dX5_turn_14 : decode cX5_turn 14 = .ok (.getfield 12, 3) := by decide +kernel
theorem dX5_turn_17 : decode cX5_turn 17 = .ok (.invokevirtual 60, 3) := by decide +kernel
theorem dX5_turn_20 : decode cX5_turn 20 = .ok (.pop, 1) := by decide +kernel
theorem dX5_turn_21 : decode cX5_turn 21 = .ok (.aload_n 0, 1) := by decide +kernel
theorem dX5_turn_22 : decode cX5_turn 22 = .ok (.getfield 36, 3) := by decide +kernel
theorem dX5_turn_25 : decode cX5_turn 25 = .ok (.aload_n 0, 1) := by decide +kernel
theorem dX5_turn_26 : decode cX5_turn 26 = .ok (.getfield 12, 3) := by decide +kernel
theorem dX5_turn_29 : decode cX5_turn 29 = .ok (.iload_n 1, 1) := by decide +kernel
theorem dX5_turn_30 : decode cX5_turn 30 = .ok (.invokevirtual 72, 3) := by decide +kernel
theorem dX5_turn_33 : decode cX5_turn 33 = .ok (.aload_n 0, 1) := by decide +kernel
theorem dX5_turn_34 : decode cX5_turn 34 = .ok (.getfield 36, 3) := by decide +kernel
theorem dX5_turn_37 : decode cX5_turn 37 = .ok (.invokevirtual 87, 3) := by decide +kernel
theorem dX5_turn_40 : decode cX5_turn 40 = .ok (.aload_n 0, 1) := by decide +kernel
theorem dX5_turn_41 : decode cX5_turn 41 = .ok (.getfield 36, 3) := by decide +kernel
theorem dX5_turn_44 : decode cX5_turn 44 = .ok (.aload_n 0, 1) := by decide +kernel
theorem dX5_turn_45 : decode cX5_turn 45 = .ok (.getfield 12, 3) := by decide +kernel
theorem dX5_turn_48 : decode cX5_turn 48 = .ok (.iload_n 1, 1) := by decide +kernel
theorem dX5_turn_49 : decode cX5_turn 49 = .ok (.invokevirtual 84, 3) := by decide +kernel
theorem dX5_turn_52 : decode cX5_turn 52 = .ok (.aload_n 0, 1) := by decide +kernel
theorem dX5_turn_53 : decode cX5_turn 53 = .ok (.iload_n 1, 1) := by decide +kernel
theorem dX5_turn_54 : decode cX5_turn 54 = .ok (.iconst 4, 1) := by decide +kernel
theorem dX5_turn_55 : decode cX5_turn 55 = .ok (.invokevirtual 90, 3) := by decide +kernel
theorem dX5_turn_58 : decode cX5_turn 58 = .ok (.ireturn, 1) := by decide +kernel
theorem dX5_print_0 : decode cX5_print 0 = .ok (.iload_n 1, 1) := by decide +kernel
theorem dX5_print_1 : decode cX5_print 1 = .ok (.invokestatic 50, 3) := by decide +kernel
theorem dX5_print_4 : decode cX5_print 4 = .ok (.ifCond .ne 5, 3) := by decide +kernel
theorem dX5_print_7 : decode cX5_print 7 = .ok (.iconst (-1), 1) := by decide +kernel
theorem dX5_print_8 : decode cX5_print 8 = .ok (.ireturn, 1) := by decide +kernel
theorem dX5_print_9 : decode cX5_print 9 = .ok (.aload_n 0, 1) := by decide +kernel
theorem dX5_print_10 : decode cX5_print 10 = .ok (.getfield 22, 3) := by decide +kernel
theorem dX5_print_13 : decode cX5_print 13 = .ok (.aload_n 0, 1) := by decide +kernel
theorem dX5_print_14 : decode cX5_print 14 = .ok (.getfield 12, 3) := by decide +kernel
theorem dX5_print_17 : decode cX5_print 17 = .ok (.invokevirtual 60, 3) := by decide +kernel
theorem dX5_print_20 : decode cX5_print 20 = .ok (.astore_n 2, 1) := by decide +kernel
theorem dX5_print_21 : decode cX5_print 21 = .ok (.aload_n 0, 1) := by decide +kernel
theorem dX5_print_22 : decode cX5_print 22 = .ok (.iload_n 1, 1) := by decide +kernel
theorem dX5_print_23 : decode cX5_print 23 = .ok (.invokevirtual 93, 3) := by decide +kernel
theorem dX5_print_26 : decode cX5_print 26 = .ok (.aload_n 0, 1) := by decide +kernel
theorem dX5_print_27 : decode cX5_print 27 = .ok (.getfield 12, 3) := by decide +kernel
theorem dX5_print_30 : decode cX5_print 30 = .ok (.aload_n 2, 1) := by decide +kernel
theorem dX5_print_31 : decode cX5_print 31 = .ok (.invokevirtual 97, 3) := by decide +kernel
theorem dX5_print_34 : decode cX5_print 34 = .ok (.ireturn, 1) := by decide +kernel
theorem dX5_printAll_0 : decode cX5_printAll 0 = .ok (.aload_n 0, 1) := by decide +kernel
theorem dX5_printAll_1 : decode cX5_printAll 1 = .ok (.getfield 22, 3) := by decide +kernel
theorem dX5_printAll_4 : decode cX5_printAll 4 = .ok (.aload_n 0, 1) := by decide +kernel
theorem dX5_printAll_5 : decode cX5_printAll 5 = .ok (.getfield 12, 3) := by decide +kernel
theorem dX5_printAll_8 : decode cX5_printAll 8 = .ok (.invokevirtual 60, 3) := by decide +kernel
theorem dX5_printAll_11 : decode cX5_printAll 11 = .ok (.astore_n 1, 1) := by decide +kernel
theorem dX5_printAll_12 : decode cX5_printAll 12 = .ok (.iconst 0, 1) := by decide +kernel
theorem dX5_printAll_13 : decode cX5_printAll 13 = .ok (.istore_n 2, 1) := by decide +kernel
theorem dX5_printAll_14 : decode cX5_printAll 14 = .ok (.iload_n 2, 1) := by decide +kernel
theorem dX5_printAll_15 : decode cX5_printAll 15 = .ok (.bipush 8, 2) := by decide +kernel
theorem dX5_printAll_17 : decode cX5_printAll 17 = .ok (.if_icmp .ge 14, 3) := by decide +kernel
theorem dX5_printAll_20 : decode cX5_printAll 20 = .ok (.aload_n 0, 1) := by decide +kernel
theorem dX5_printAll_21 : decode cX5_printAll 21 = .ok (.iload_n 2, 1) := by decide +kernel
theorem dX5_printAll_22 : decode cX5_printAll 22 = .ok (.invokevirtual 93, 3) := by decide +kernel
theorem dX5_printAll_25 : decode cX5_printAll 25 = .ok (.iinc 2 1, 3) := by decide +kernel
theorem dX5_printAll_28 : decode cX5_printAll 28 = .ok (.goto (-14), 3) := by decide +kernel
theorem dX5_printAll_31 : decode cX5_printAll 31 = .ok (.aload_n 0, 1) := by decide +kernel
theorem dX5_printAll_32 : decode cX5_printAll 32 = .ok (.getfield 12, 3) := by decide +kernel
theorem dX5_printAll_35 : decode cX5_printAll 35 = .ok (.aload_n 1, 1) := by decide +kernel
theorem dX5_printAll_36 : decode cX5_printAll 36 = .ok (.invokevirtual 97, 3) := by decide +kernel
theorem dX5_printAll_39 : decode cX5_printAll 39 = .ok (.ireturn, 1) := by decide +kernel
theorem dX5_paint_0 : decode cX5_paint 0 = .ok (.iload_n 1, 1) := by decide +kernel
theorem dX5_paint_1 : decode cX5_paint 1 = .ok (.invokestatic 50, 3) := by decide +kernel
theorem dX5_paint_4 : decode cX5_paint 4 = .ok (.ifCond .eq 17, 3) := by decide +kernel
theorem dX5_paint_7 : decode cX5_paint 7 = .ok (.iload_n 2, 1) := by decide +kernel
theorem dX5_paint_8 : decode cX5_paint 8 = .ok (.invokestatic 54, 3) := by decide +kernel
theorem dX5_paint_11 : decode cX5_paint 11 = .ok (.ifCond .eq 10, 3) := by decide +kernel
theorem dX5_paint_14 : decode cX5_paint 14 = .ok (.iload_n 3, 1) := by decide +kernel
theorem dX5_paint_15 : decode cX5_paint 15 = .ok (.invokestatic 100, 3) := by decide +kernel
theorem dX5_paint_18 : decode cX5_paint 18 = .ok (.ifCond .ne 5, 3) := by decide +kernel
theorem dX5_paint_21 : decode cX5_paint 21 = .ok (.iconst (-1), 1) := by decide +kernel
theorem dX5_paint_22 : decode cX5_paint 22 = .ok (.ireturn, 1) := by decide +kernel
theorem dX5_paint_23 : decode cX5_paint 23 = .ok (.aload_n 0, 1) := by decide +kernel
theorem dX5_paint_24 : decode cX5_paint 24 = .ok (.getfield 22, 3) := by decide +kernel
theorem dX5_paint_27 : decode cX5_paint 27 = .ok (.aload_n 0, 1) := by decide +kernel
theorem dX5_paint_28 : decode cX5_paint 28 = .ok (.getfield 12, 3) := by decide +kernel
theorem dX5_paint_31 : decode cX5_paint 31 = .ok (.invokevirtual 60, 3) := by decide +kernel
theorem dX5_paint_34 : decode cX5_paint 34 = .ok (.pop, 1) := by decide +kernel
theorem dX5_paint_35 : decode cX5_paint 35 = .ok (.iload_n 1, 1) := by decide +kernel
theorem dX5_paint_36 : decode cX5_paint 36 = .ok (.iload_n 2, 1) := by decide +kernel
theorem dX5_paint_37 : decode cX5_paint 37 = .ok (.invokestatic 80, 3) := by decide +kernel
theorem dX5_paint_40 : decode cX5_paint 40 = .ok (.istore 4, 2) := by decide +kernel
theorem dX5_paint_42 : decode cX5_paint 42 = .ok (.aload_n 0, 1) := by decide +kernel
theorem dX5_paint_43 : decode cX5_paint 43 = .ok (.getfield 12, 3) := by decide +kernel
theorem dX5_paint_46 : decode cX5_paint 46 = .ok (.getfield 103, 3) := by decide +kernel
theorem dX5_paint_49 : decode cX5_paint 49 = .ok (.iload 4, 2) := by decide +kernel
theorem dX5_paint_51 : decode cX5_paint 51 = .ok (.iaload, 1) := by decide +kernel
theorem dX5_paint_52 : decode cX5_paint 52 = .ok (.istore 5, 2) := by decide +kernel
theorem dX5_paint_54 : decode cX5_paint 54 = .ok (.aload_n 0, 1) := by decide +kernel
theorem dX5_paint_55 : decode cX5_paint 55 = .ok (.getfield 12, 3) := by decide +kernel
theorem dX5_paint_58 : decode cX5_paint 58 = .ok (.getfield 106, 3) := by decide +kernel
theorem dX5_paint_61 : decode cX5_paint 61 = .ok (.iload 4, 2) := by decide +kernel
theorem dX5_paint_63 : decode cX5_paint 63 = .ok (.iaload, 1) := by decide +kernel
theorem dX5_paint_64 : decode cX5_paint 64 = .ok (.bipush (-4), 2) := by decide +kernel
theorem dX5_paint_66 : decode cX5_paint 66 = .ok (.if_icmp .ne 15, 3) := by decide +kernel
theorem dX5_paint_69 : decode cX5_paint 69 = .ok (.aload_n 0, 1) := by decide +kernel
theorem dX5_paint_70 : decode cX5_paint 70 = .ok (.getfield 12, 3) := by decide +kernel
theorem dX5_paint_73 : decode cX5_paint 73 = .ok (.getfield 106, 3) := by decide +kernel
theorem dX5_paint_76 : decode cX5_paint 76 = .ok (.iload 4, 2) := by decide +kernel
theorem dX5_paint_78 : decode cX5_paint 78 = .ok (.iload 5, 2) := by decide +kernel
theorem dX5_paint_80 : decode cX5_paint 80 = .ok (.iastore, 1) := by decide +kernel
theorem dX5_paint_81 : decode cX5_paint 81 = .ok (.aload_n 0, 1) := by decide +kernel
theorem dX5_paint_82 : decode cX5_paint 82 = .ok (.getfield 12, 3) := by decide +kernel
theorem dX5_paint_85 : decode cX5_paint 85 = .ok (.getfield 103, 3) := by decide +kernel
theorem dX5_paint_88 : decode cX5_paint 88 = .ok (.iload 4, 2) := by decide +kernel
theorem dX5_paint_90 : decode cX5_paint 90 = .ok (.iload_n 3, 1) := by decide +kernel
theorem dX5_paint_91 : decode cX5_paint 91 = .ok (.iastore, 1) := by decide +kernel
theorem dX5_paint_92 : decode cX5_paint 92 = .ok (.iload 5, 2) := by decide +kernel
theorem dX5_paint_94 : decode cX5_paint 94 = .ok (.ireturn, 1) := by decide +kernel
theorem dX5_wipe_0 : decode cX5_wipe 0 = .ok (.iload_n 1, 1) := by decide +kernel
theorem dX5_wipe_1 : decode cX5_wipe 1 = .ok (.invokestatic 50, 3) := by decide +kernel
theorem dX5_wipe_4 : decode cX5_wipe 4 = .ok (.ifCond .ne 5, 3) := by decide +kernel
theorem dX5_wipe_7 : decode cX5_wipe 7 = .ok (.iconst (-1), 1) := by decide +kernel
theorem dX5_wipe_8 : decode cX5_wipe 8 = .ok (.ireturn, 1) := by decide +kernel
theorem dX5_wipe_9 : decode cX5_wipe 9 = .ok (.aload_n 0, 1) := by decide +kernel
theorem dX5_wipe_10 : decode cX5_wipe 10 = .ok (.getfield 22, 3) := by decide +kernel
theorem dX5_wipe_13 : decode cX5_wipe 13 = .ok (.aload_n 0, 1) := by decide +kernel
theorem dX5_wipe_14 : decode cX5_wipe 14 = .ok (.getfield 12, 3) := by decide +kernel
theorem dX5_wipe_17 : decode cX5_wipe 17 = .ok (.invokevirtual 60, 3) := by decide +kernel
theorem dX5_wipe_20 : decode cX5_wipe 20 = .ok (.pop, 1) := by decide +kernel
theorem dX5_wipe_21 : decode cX5_wipe 21 = .ok (.iconst 0, 1) := by decide +kernel
theorem dX5_wipe_22 : decode cX5_wipe 22 = .ok (.istore_n 2, 1) := by decide +kernel
theorem dX5_wipe_23 : decode cX5_wipe 23 = .ok (.iconst 0, 1) := by decide +kernel
theorem dX5_wipe_24 : decode cX5_wipe 24 = .ok (.istore_n 3, 1) := by decide +kernel
theorem dX5_wipe_25 : decode cX5_wipe 25 = .ok (.iload_n 3, 1) := by decide +kernel
theorem dX5_wipe_26 : decode cX5_wipe 26 = .ok (.bipush 32, 2) := by decide +kernel
theorem dX5_wipe_28 : decode cX5_wipe 28 = .ok (.if_icmp .ge 66, 3) := by decide +kernel
theorem dX5_wipe_31 : decode cX5_wipe 31 = .ok (.iload_n 1, 1) := by decide +kernel
theorem dX5_wipe_32 : decode cX5_wipe 32 = .ok (.iload_n 3, 1) := by decide +kernel
theorem dX5_wipe_33 : decode cX5_wipe 33 = .ok (.invokestatic 80, 3) := by decide +kernel
theorem dX5_wipe_36 : decode cX5_wipe 36 = .ok (.istore 4, 2) := by decide +kernel
theorem dX5_wipe_38 : decode cX5_wipe 38 = .ok (.aload_n 0, 1) := by decide +kernel
theorem dX5_wipe_39 : decode cX5_wipe 39 = .ok (.getfield 12, 3) := by decide +kernel
theorem dX5_wipe_42 : decode cX5_wipe 42 = .ok (.getfield 106, 3) := by decide +kernel
theorem dX5_wipe_45 : decode cX5_wipe 45 = .ok (.iload 4, 2) := by decide +kernel
theorem dX5_wipe_47 : decode cX5_wipe 47 = .ok (.iaload, 1) := by decide +kernel
theorem dX5_wipe_48 : decode cX5_wipe 48 = .ok (.bipush (-4), 2) := by decide +kernel
theorem dX5_wipe_50 : decode cX5_wipe 50 = .ok (.if_icmp .eq 38, 3) := by decide +kernel
theorem dX5_wipe_53 : decode cX5_wipe 53 = .ok (.aload_n 0, 1) := by decide +kernel
theorem dX5_wipe_54 : decode cX5_wipe 54 = .ok (.getfield 12, 3) := by decide +kernel
theorem dX5_wipe_57 : decode cX5_wipe 57 = .ok (.getfield 103, 3) := by decide +kernel
theorem dX5_wipe_60 : decode cX5_wipe 60 = .ok (.iload 4, 2) := by decide +kernel
theorem dX5_wipe_62 : decode cX5_wipe 62 = .ok (.aload_n 0, 1) := by decide +kernel
theorem dX5_wipe_63 : decode cX5_wipe 63 = .ok (.getfield 12, 3) := by decide +kernel
theorem dX5_wipe_66 : decode cX5_wipe 66 = .ok (.getfield 106, 3) := by decide +kernel
theorem dX5_wipe_69 : decode cX5_wipe 69 = .ok (.iload 4, 2) := by decide +kernel
theorem dX5_wipe_71 : decode cX5_wipe 71 = .ok (.iaload, 1) := by decide +kernel
theorem dX5_wipe_72 : decode cX5_wipe 72 = .ok (.iastore, 1) := by decide +kernel
theorem dX5_wipe_73 : decode cX5_wipe 73 = .ok (.aload_n 0, 1) := by decide +kernel
theorem dX5_wipe_74 : decode cX5_wipe 74 = .ok (.getfield 12, 3) := by decide +kernel
theorem dX5_wipe_77 : decode cX5_wipe 77 = .ok (.getfield 106, 3) := by decide +kernel
theorem dX5_wipe_80 : decode cX5_wipe 80 = .ok (.iload 4, 2) := by decide +kernel
theorem dX5_wipe_82 : decode cX5_wipe 82 = .ok (.bipush (-4), 2) := by decide +kernel
theorem dX5_wipe_84 : decode cX5_wipe 84 = .ok (.iastore, 1) := by decide +kernel
theorem dX5_wipe_85 : decode cX5_wipe 85 = .ok (.iinc 2 1, 3) := by decide +kernel
theorem dX5_wipe_88 : decode cX5_wipe 88 = .ok (.iinc 3 1, 3) := by decide +kernel
theorem dX5_wipe_91 : decode cX5_wipe 91 = .ok (.goto (-66), 3) := by decide +kernel
theorem dX5_wipe_94 : decode cX5_wipe 94 = .ok (.iload_n 2, 1) := by decide +kernel
theorem dX5_wipe_95 : decode cX5_wipe 95 = .ok (.ireturn, 1) := by decide +kernel
theorem dX5_set_0 : decode cX5_set 0 = .ok (.iload_n 1, 1) := by decide +kernel
theorem dX5_set_1 : decode cX5_set 1 = .ok (.ifCond .lt 9, 3) := by decide +kernel
theorem dX5_set_4 : decode cX5_set 4 = .ok (.iload_n 1, 1) := by decide +kernel
theorem dX5_set_5 : decode cX5_set 5 = .ok (.bipush 6, 2) := by decide +kernel
theorem dX5_set_7 : decode cX5_set 7 = .ok (.if_icmp .lt 5, 3) := by decide +kernel
theorem dX5_set_10 : decode cX5_set 10 = .ok (.iconst (-1), 1) := by decide +kernel
theorem dX5_set_11 : decode cX5_set 11 = .ok (.ireturn, 1) := by decide +kernel
theorem dX5_set_12 : decode cX5_set 12 = .ok (.iload_n 2, 1) := by decide +kernel
theorem dX5_set_13 : decode cX5_set 13 = .ok (.getstatic 109, 3) := by decide +kernel
theorem dX5_set_16 : decode cX5_set 16 = .ok (.iload_n 1, 1) := by decide +kernel
theorem dX5_set_17 : decode cX5_set 17 = .ok (.iaload, 1) := by decide +kernel
theorem dX5_set_18 : decode cX5_set 18 = .ok (.if_icmp .lt 12, 3) := by decide +kernel
theorem dX5_set_21 : decode cX5_set 21 = .ok (.iload_n 2, 1) := by decide +kernel
theorem dX5_set_22 : decode cX5_set 22 = .ok (.getstatic 112, 3) := by decide +kernel
theorem dX5_set_25 : decode cX5_set 25 = .ok (.iload_n 1, 1) := by decide +kernel
theorem dX5_set_26 : decode cX5_set 26 = .ok (.iaload, 1) := by decide +kernel
theorem dX5_set_27 : decode cX5_set 27 = .ok (.if_icmp .le 5, 3) := by decide +kernel
theorem dX5_set_30 : decode cX5_set 30 = .ok (.iconst (-1), 1) := by decide +kernel
theorem dX5_set_31 : decode cX5_set 31 = .ok (.ireturn, 1) := by decide +kernel
theorem dX5_set_32 : decode cX5_set 32 = .ok (.aload_n 0, 1) := by decide +kernel
theorem dX5_set_33 : decode cX5_set 33 = .ok (.getfield 22, 3) := by decide +kernel
theorem dX5_set_36 : decode cX5_set 36 = .ok (.aload_n 0, 1) := by decide +kernel
theorem dX5_set_37 : decode cX5_set 37 = .ok (.getfield 12, 3) := by decide +kernel
theorem dX5_set_40 : decode cX5_set 40 = .ok (.invokevirtual 60, 3) := by decide +kernel
theorem dX5_set_43 : decode cX5_set 43 = .ok (.pop, 1) := by decide +kernel
theorem dX5_set_44 : decode cX5_set 44 = .ok (.aload_n 0, 1) := by decide +kernel
theorem dX5_set_45 : decode cX5_set 45 = .ok (.getfield 12, 3) := by decide +kernel
theorem dX5_set_48 : decode cX5_set 48 = .ok (.getfield 115, 3) := by decide +kernel
theorem dX5_set_51 : decode cX5_set 51 = .ok (.iload_n 1, 1) := by decide +kernel
theorem dX5_set_52 : decode cX5_set 52 = .ok (.iaload, 1) := by decide +kernel
theorem dX5_set_53 : decode cX5_set 53 = .ok (.istore_n 3, 1) := by decide +kernel
theorem dX5_set_54 : decode cX5_set 54 = .ok (.aload_n 0, 1) := by decide +kernel
theorem dX5_set_55 : decode cX5_set 55 = .ok (.getfield 12, 3) := by decide +kernel
theorem dX5_set_58 : decode cX5_set 58 = .ok (.getfield 115, 3) := by decide +kernel
theorem dX5_set_61 : decode cX5_set 61 = .ok (.iload_n 1, 1) := by decide +kernel
theorem dX5_set_62 : decode cX5_set 62 = .ok (.iload_n 2, 1) := by decide +kernel
theorem dX5_set_63 : decode cX5_set 63 = .ok (.iastore, 1) := by decide +kernel
theorem dX5_set_64 : decode cX5_set 64 = .ok (.iload_n 3, 1) := by decide +kernel
theorem dX5_set_65 : decode cX5_set 65 = .ok (.ireturn, 1) := by decide +kernel
theorem dX5_lot_0 : decode cX5_lot 0 = .ok (.iload_n 1, 1) := by decide +kernel
theorem dX5_lot_1 : decode cX5_lot 1 = .ok (.ifCond .lt 10, 3) := by decide +kernel
theorem dX5_lot_4 : decode cX5_lot 4 = .ok (.iload_n 1, 1) := by decide +kernel
theorem dX5_lot_5 : decode cX5_lot 5 = .ok (.sipush 10000, 3) := by decide +kernel
theorem dX5_lot_8 : decode cX5_lot 8 = .ok (.if_icmp .lt 5, 3) := by decide +kernel
theorem dX5_lot_11 : decode cX5_lot 11 = .ok (.iconst (-1), 1) := by decide +kernel
theorem dX5_lot_12 : decode cX5_lot 12 = .ok (.ireturn, 1) := by decide +kernel
theorem dX5_lot_13 : decode cX5_lot 13 = .ok (.aload_n 0, 1) := by decide +kernel
theorem dX5_lot_14 : decode cX5_lot 14 = .ok (.getfield 22, 3) := by decide +kernel
theorem dX5_lot_17 : decode cX5_lot 17 = .ok (.aload_n 0, 1) := by decide +kernel
theorem dX5_lot_18 : decode cX5_lot 18 = .ok (.getfield 12, 3) := by decide +kernel
theorem dX5_lot_21 : decode cX5_lot 21 = .ok (.invokevirtual 60, 3) := by decide +kernel
theorem dX5_lot_24 : decode cX5_lot 24 = .ok (.pop, 1) := by decide +kernel
theorem dX5_lot_25 : decode cX5_lot 25 = .ok (.aload_n 0, 1) := by decide +kernel
theorem dX5_lot_26 : decode cX5_lot 26 = .ok (.getfield 12, 3) := by decide +kernel
theorem dX5_lot_29 : decode cX5_lot 29 = .ok (.getfield 118, 3) := by decide +kernel
theorem dX5_lot_32 : decode cX5_lot 32 = .ok (.istore_n 2, 1) := by decide +kernel
theorem dX5_lot_33 : decode cX5_lot 33 = .ok (.aload_n 0, 1) := by decide +kernel
theorem dX5_lot_34 : decode cX5_lot 34 = .ok (.getfield 12, 3) := by decide +kernel
theorem dX5_lot_37 : decode cX5_lot 37 = .ok (.iload_n 1, 1) := by decide +kernel
theorem dX5_lot_38 : decode cX5_lot 38 = .ok (.putfield 118, 3) := by decide +kernel
theorem dX5_lot_41 : decode cX5_lot 41 = .ok (.iload_n 2, 1) := by decide +kernel
theorem dX5_lot_42 : decode cX5_lot 42 = .ok (.ireturn, 1) := by decide +kernel
theorem dX5_append_0 : decode cX5_append 0 = .ok (.iload_n 1, 1) := by decide +kernel
theorem dX5_append_1 : decode cX5_append 1 = .ok (.bipush 33, 2) := by decide +kernel
theorem dX5_append_3 : decode cX5_append 3 = .ok (.if_icmp .lt 9, 3) := by decide +kernel
theorem dX5_append_6 : decode cX5_append 6 = .ok (.iload_n 1, 1) := by decide +kernel
theorem dX5_append_7 : decode cX5_append 7 = .ok (.bipush 126, 2) := by decide +kernel
theorem dX5_append_9 : decode cX5_append 9 = .ok (.if_icmp .le 5, 3) := by decide +kernel
theorem dX5_append_12 : decode cX5_append 12 = .ok (.iconst (-1), 1) := by decide +kernel
theorem dX5_append_13 : decode cX5_append 13 = .ok (.ireturn, 1) := by decide +kernel
theorem dX5_append_14 : decode cX5_append 14 = .ok (.aload_n 0, 1) := by decide +kernel
theorem dX5_append_15 : decode cX5_append 15 = .ok (.getfield 29, 3) := by decide +kernel
theorem dX5_append_18 : decode cX5_append 18 = .ok (.iload_n 1, 1) := by decide +kernel
theorem dX5_append_19 : decode cX5_append 19 = .ok (.invokevirtual 122, 3) := by decide +kernel
theorem dX5_append_22 : decode cX5_append 22 = .ok (.ifCond .eq 13, 3) := by decide +kernel
theorem dX5_append_25 : decode cX5_append 25 = .ok (.aload_n 0, 1) := by decide +kernel
theorem dX5_append_26 : decode cX5_append 26 = .ok (.getfield 29, 3) := by decide +kernel
theorem dX5_append_29 : decode cX5_append 29 = .ok (.getfield 125, 3) := by decide +kernel
theorem dX5_append_32 : decode cX5_append 32 = .ok (.goto 5, 3) := by decide +kernel
theorem dX5_append_35 : decode cX5_append 35 = .ok (.bipush (-3), 2) := by decide +kernel
theorem dX5_append_37 : decode cX5_append 37 = .ok (.ireturn, 1) := by decide +kernel
theorem dX5_clear_0 : decode cX5_clear 0 = .ok (.aload_n 0, 1) := by decide +kernel
theorem dX5_clear_1 : decode cX5_clear 1 = .ok (.getfield 29, 3) := by decide +kernel
theorem dX5_clear_4 : decode cX5_clear 4 = .ok (.getfield 125, 3) := by decide +kernel
theorem dX5_clear_7 : decode cX5_clear 7 = .ok (.istore_n 1, 1) := by decide +kernel
theorem dX5_clear_8 : decode cX5_clear 8 = .ok (.aload_n 0, 1) := by decide +kernel
theorem dX5_clear_9 : decode cX5_clear 9 = .ok (.getfield 29, 3) := by decide +kernel
theorem dX5_clear_12 : decode cX5_clear 12 = .ok (.iconst 0, 1) := by decide +kernel
theorem dX5_clear_13 : decode cX5_clear 13 = .ok (.putfield 125, 3) := by decide +kernel
theorem dX5_clear_16 : decode cX5_clear 16 = .ok (.iload_n 1, 1) := by decide +kernel
theorem dX5_clear_17 : decode cX5_clear 17 = .ok (.ireturn, 1) := by decide +kernel
theorem dX5_fault_0 : decode cX5_fault 0 = .ok (.iload_n 1, 1) := by decide +kernel
theorem dX5_fault_1 : decode cX5_fault 1 = .ok (.lookupswitch 43 #[(0, 27), (1, 35)], 27) := by decide +kernel
theorem dX5_fault_28 : decode cX5_fault 28 = .ok (.aload_n 0, 1) := by decide +kernel
theorem dX5_fault_29 : decode cX5_fault 29 = .ok (.getfield 29, 3) := by decide +kernel
theorem dX5_fault_32 : decode cX5_fault 32 = .ok (.invokevirtual 128, 3) := by decide +kernel
theorem dX5_fault_35 : decode cX5_fault 35 = .ok (.ireturn, 1) := by decide +kernel
theorem dX5_fault_36 : decode cX5_fault 36 = .ok (.aload_n 0, 1) := by decide +kernel
theorem dX5_fault_37 : decode cX5_fault 37 = .ok (.getfield 29, 3) := by decide +kernel
theorem dX5_fault_40 : decode cX5_fault 40 = .ok (.invokevirtual 132, 3) := by decide +kernel
theorem dX5_fault_43 : decode cX5_fault 43 = .ok (.ireturn, 1) := by decide +kernel
theorem dX5_fault_44 : decode cX5_fault 44 = .ok (.iconst (-1), 1) := by decide +kernel
theorem dX5_fault_45 : decode cX5_fault 45 = .ok (.ireturn, 1) := by decide +kernel
theorem dX5_draw_0 : decode cX5_draw 0 = .ok (.aload_n 0, 1) := by decide +kernel
theorem dX5_draw_1 : decode cX5_draw 1 = .ok (.getfield 29, 3) := by decide +kernel
theorem dX5_draw_4 : decode cX5_draw 4 = .ok (.invokevirtual 128, 3) := by decide +kernel
theorem dX5_draw_7 : decode cX5_draw 7 = .ok (.bipush (-4), 2) := by decide +kernel
theorem dX5_draw_9 : decode cX5_draw 9 = .ok (.if_icmp .eq 6, 3) := by decide +kernel
theorem dX5_draw_12 : decode cX5_draw 12 = .ok (.bipush (-2), 2) := by decide +kernel
theorem dX5_draw_14 : decode cX5_draw 14 = .ok (.ireturn, 1) := by decide +kernel
theorem dX5_draw_15 : decode cX5_draw 15 = .ok (.aload_n 0, 1) := by decide +kernel
theorem dX5_draw_16 : decode cX5_draw 16 = .ok (.getfield 22, 3) := by decide +kernel
theorem dX5_draw_19 : decode cX5_draw 19 = .ok (.aload_n 0, 1) := by decide +kernel
theorem dX5_draw_20 : decode cX5_draw 20 = .ok (.getfield 12, 3) := by decide +kernel
theorem dX5_draw_23 : decode cX5_draw 23 = .ok (.invokevirtual 60, 3) := by decide +kernel
theorem dX5_draw_26 : decode cX5_draw 26 = .ok (.astore_n 1, 1) := by decide +kernel
theorem dX5_draw_27 : decode cX5_draw 27 = .ok (.aload_n 0, 1) := by decide +kernel
theorem dX5_draw_28 : decode cX5_draw 28 = .ok (.getfield 29, 3) := by decide +kernel
theorem dX5_draw_31 : decode cX5_draw 31 = .ok (.aload_n 0, 1) := by decide +kernel
theorem dX5_draw_32 : decode cX5_draw 32 = .ok (.getfield 12, 3) := by decide +kernel
theorem dX5_draw_35 : decode cX5_draw 35 = .ok (.invokevirtual 135, 3) := by decide +kernel
theorem dX5_draw_38 : decode cX5_draw 38 = .ok (.aload_n 0, 1) := by decide +kernel
theorem dX5_draw_39 : decode cX5_draw 39 = .ok (.getfield 29, 3) := by decide +kernel
theorem dX5_draw_42 : decode cX5_draw 42 = .ok (.iconst 0, 1) := by decide +kernel
theorem dX5_draw_43 : decode cX5_draw 43 = .ok (.putfield 125, 3) := by decide +kernel
theorem dX5_draw_46 : decode cX5_draw 46 = .ok (.aload_n 0, 1) := by decide +kernel
theorem dX5_draw_47 : decode cX5_draw 47 = .ok (.getfield 12, 3) := by decide +kernel
theorem dX5_draw_50 : decode cX5_draw 50 = .ok (.aload_n 1, 1) := by decide +kernel
theorem dX5_draw_51 : decode cX5_draw 51 = .ok (.invokevirtual 68, 3) := by decide +kernel
theorem dX5_draw_54 : decode cX5_draw 54 = .ok (.ireturn, 1) := by decide +kernel
theorem dX5_wind_0 : decode cX5_wind 0 = .ok (.aload_n 0, 1) := by decide +kernel
theorem dX5_wind_1 : decode cX5_wind 1 = .ok (.getfield 29, 3) := by decide +kernel
theorem dX5_wind_4 : decode cX5_wind 4 = .ok (.invokevirtual 132, 3) := by decide +kernel
theorem dX5_wind_7 : decode cX5_wind 7 = .ok (.bipush (-4), 2) := by decide +kernel
theorem dX5_wind_9 : decode cX5_wind 9 = .ok (.if_icmp .eq 6, 3) := by decide +kernel
theorem dX5_wind_12 : decode cX5_wind 12 = .ok (.bipush (-2), 2) := by decide +kernel
theorem dX5_wind_14 : decode cX5_wind 14 = .ok (.ireturn, 1) := by decide +kernel
theorem dX5_wind_15 : decode cX5_wind 15 = .ok (.aload_n 0, 1) := by decide +kernel
theorem dX5_wind_16 : decode cX5_wind 16 = .ok (.getfield 22, 3) := by decide +kernel
theorem dX5_wind_19 : decode cX5_wind 19 = .ok (.aload_n 0, 1) := by decide +kernel
theorem dX5_wind_20 : decode cX5_wind 20 = .ok (.getfield 12, 3) := by decide +kernel
theorem dX5_wind_23 : decode cX5_wind 23 = .ok (.invokevirtual 60, 3) := by decide +kernel
theorem dX5_wind_26 : decode cX5_wind 26 = .ok (.pop, 1) := by decide +kernel
theorem dX5_wind_27 : decode cX5_wind 27 = .ok (.aload_n 0, 1) := by decide +kernel
theorem dX5_wind_28 : decode cX5_wind 28 = .ok (.getfield 29, 3) := by decide +kernel
theorem dX5_wind_31 : decode cX5_wind 31 = .ok (.aload_n 0, 1) := by decide +kernel
theorem dX5_wind_32 : decode cX5_wind 32 = .ok (.getfield 12, 3) := by decide +kernel
theorem dX5_wind_35 : decode cX5_wind 35 = .ok (.invokevirtual 139, 3) := by decide +kernel
theorem dX5_wind_38 : decode cX5_wind 38 = .ok (.aload_n 0, 1) := by decide +kernel
theorem dX5_wind_39 : decode cX5_wind 39 = .ok (.getfield 29, 3) := by decide +kernel
theorem dX5_wind_42 : decode cX5_wind 42 = .ok (.iconst 0, 1) := by decide +kernel
theorem dX5_wind_43 : decode cX5_wind 43 = .ok (.putfield 125, 3) := by decide +kernel
theorem dX5_wind_46 : decode cX5_wind 46 = .ok (.aload_n 0, 1) := by decide +kernel
theorem dX5_wind_47 : decode cX5_wind 47 = .ok (.getfield 12, 3) := by decide +kernel
theorem dX5_wind_50 : decode cX5_wind 50 = .ok (.getfield 142, 3) := by decide +kernel
theorem dX5_wind_53 : decode cX5_wind 53 = .ok (.ireturn, 1) := by decide +kernel
theorem dX5_unwind_0 : decode cX5_unwind 0 = .ok (.aload_n 0, 1) := by decide +kernel
theorem dX5_unwind_1 : decode cX5_unwind 1 = .ok (.getfield 12, 3) := by decide +kernel
theorem dX5_unwind_4 : decode cX5_unwind 4 = .ok (.getfield 142, 3) := by decide +kernel
theorem dX5_unwind_7 : decode cX5_unwind 7 = .ok (.ifCond .ne 6, 3) := by decide +kernel
theorem dX5_unwind_10 : decode cX5_unwind 10 = .ok (.bipush (-2), 2) := by decide +kernel
theorem dX5_unwind_12 : decode cX5_unwind 12 = .ok (.ireturn, 1) := by decide +kernel
theorem dX5_unwind_13 : decode cX5_unwind 13 = .ok (.aload_n 0, 1) := by decide +kernel
theorem dX5_unwind_14 : decode cX5_unwind 14 = .ok (.getfield 22, 3) := by decide +kernel
theorem dX5_unwind_17 : decode cX5_unwind 17 = .ok (.aload_n 0, 1) := by decide +kernel
theorem dX5_unwind_18 : decode cX5_unwind 18 = .ok (.getfield 12, 3) := by decide +kernel
theorem dX5_unwind_21 : decode cX5_unwind 21 = .ok (.invokevirtual 60, 3) := by decide +kernel
theorem dX5_unwind_24 : decode cX5_unwind 24 = .ok (.pop, 1) := by decide +kernel
theorem dX5_unwind_25 : decode cX5_unwind 25 = .ok (.aload_n 0, 1) := by decide +kernel
theorem dX5_unwind_26 : decode cX5_unwind 26 = .ok (.getfield 12, 3) := by decide +kernel
theorem dX5_unwind_29 : decode cX5_unwind 29 = .ok (.getfield 142, 3) := by decide +kernel
theorem dX5_unwind_32 : decode cX5_unwind 32 = .ok (.istore_n 1, 1) := by decide +kernel
theorem dX5_unwind_33 : decode cX5_unwind 33 = .ok (.aload_n 0, 1) := by decide +kernel
theorem dX5_unwind_34 : decode cX5_unwind 34 = .ok (.getfield 12, 3) := by decide +kernel
theorem dX5_unwind_37 : decode cX5_unwind 37 = .ok (.iconst 0, 1) := by decide +kernel
theorem dX5_unwind_38 : decode cX5_unwind 38 = .ok (.putfield 142, 3) := by decide +kernel
theorem dX5_unwind_41 : decode cX5_unwind 41 = .ok (.iload_n 1, 1) := by decide +kernel
theorem dX5_unwind_42 : decode cX5_unwind 42 = .ok (.ireturn, 1) := by decide +kernel
theorem dX5_at_0 : decode cX5_at 0 = .ok (.iload_n 1, 1) := by decide +kernel
theorem dX5_at_1 : decode cX5_at 1 = .ok (.invokestatic 50, 3) := by decide +kernel
theorem dX5_at_4 : decode cX5_at 4 = .ok (.ifCond .eq 10, 3) := by decide +kernel
theorem dX5_at_7 : decode cX5_at 7 = .ok (.iload_n 2, 1) := by decide +kernel
theorem dX5_at_8 : decode cX5_at 8 = .ok (.invokestatic 54, 3) := by decide +kernel
theorem dX5_at_11 : decode cX5_at 11 = .ok (.ifCond .ne 5, 3) := by decide +kernel
theorem dX5_at_14 : decode cX5_at 14 = .ok (.iconst (-1), 1) := by decide +kernel
theorem dX5_at_15 : decode cX5_at 15 = .ok (.ireturn, 1) := by decide +kernel
theorem dX5_at_16 : decode cX5_at 16 = .ok (.aload_n 0, 1) := by decide +kernel
theorem dX5_at_17 : decode cX5_at 17 = .ok (.getfield 36, 3) := by decide +kernel
theorem dX5_at_20 : decode cX5_at 20 = .ok (.aload_n 0, 1) := by decide +kernel
theorem dX5_at_21 : decode cX5_at 21 = .ok (.getfield 12, 3) := by decide +kernel
theorem dX5_at_24 : decode cX5_at 24 = .ok (.iload_n 1, 1) := by decide +kernel
theorem dX5_at_25 : decode cX5_at 25 = .ok (.invokevirtual 145, 3) := by decide +kernel
theorem dX5_at_28 : decode cX5_at 28 = .ok (.iload_n 3, 1) := by decide +kernel
theorem dX5_at_29 : decode cX5_at 29 = .ok (.tableswitch 133 0 7 #[47, 57, 67, 77, 86, 96, 106, 123], 47) := by decide +kernel
theorem dX5_at_76 : decode cX5_at 76 = .ok (.aload_n 0, 1) := by decide +kernel
theorem dX5_at_77 : decode cX5_at 77 = .ok (.getfield 36, 3) := by decide +kernel
theorem dX5_at_80 : decode cX5_at 80 = .ok (.getfield 76, 3) := by decide +kernel
theorem dX5_at_83 : decode cX5_at 83 = .ok (.iload_n 2, 1) := by decide +kernel
theorem dX5_at_84 : decode cX5_at 84 = .ok (.iaload, 1) := by decide +kernel
theorem dX5_at_85 : decode cX5_at 85 = .ok (.ireturn, 1) := by decide +kernel
theorem dX5_at_86 : decode cX5_at 86 = .ok (.aload_n 0, 1) := by decide +kernel
theorem dX5_at_87 : decode cX5_at 87 = .ok (.getfield 36, 3) := by decide +kernel
theorem dX5_at_90 : decode cX5_at 90 = .ok (.getfield 148, 3) := by decide +kernel
theorem dX5_at_93 : decode cX5_at 93 = .ok (.iload_n 2, 1) := by decide +kernel
theorem dX5_at_94 : decode cX5_at 94 = .ok (.iaload, 1) := by decide +kernel
theorem dX5_at_95 : decode cX5_at 95 = .ok (.ireturn, 1) := by decide +kernel
theorem dX5_at_96 : decode cX5_at 96 = .ok (.aload_n 0, 1) := by decide +kernel
theorem dX5_at_97 : decode cX5_at 97 = .ok (.getfield 36, 3) := by decide +kernel
theorem dX5_at_100 : decode cX5_at 100 = .ok (.getfield 149, 3) := by decide +kernel
theorem dX5_at_103 : decode cX5_at 103 = .ok (.iload_n 2, 1) := by decide +kernel
theorem dX5_at_104 : decode cX5_at 104 = .ok (.iaload, 1) := by decide +kernel
theorem dX5_at_105 : decode cX5_at 105 = .ok (.ireturn, 1) := by decide +kernel
theorem dX5_at_106 : decode cX5_at 106 = .ok (.aload_n 0, 1) := by decide +kernel
theorem dX5_at_107 : decode cX5_at 107 = .ok (.getfield 36, 3) := by decide +kernel
theorem dX5_at_110 : decode cX5_at 110 = .ok (.iload_n 2, 1) := by decide +kernel
theorem dX5_at_111 : decode cX5_at 111 = .ok (.invokevirtual 152, 3) := by decide +kernel
theorem dX5_at_114 : decode cX5_at 114 = .ok (.ireturn, 1) := by decide +kernel
theorem dX5_at_115 : decode cX5_at 115 = .ok (.aload_n 0, 1) := by decide +kernel
theorem dX5_at_116 : decode cX5_at 116 = .ok (.getfield 36, 3) := by decide +kernel
theorem dX5_at_119 : decode cX5_at 119 = .ok (.getfield 156, 3) := by decide +kernel
theorem dX5_at_122 : decode cX5_at 122 = .ok (.iload_n 2, 1) := by decide +kernel
theorem dX5_at_123 : decode cX5_at 123 = .ok (.iaload, 1) := by decide +kernel
theorem dX5_at_124 : decode cX5_at 124 = .ok (.ireturn, 1) := by decide +kernel
theorem dX5_at_125 : decode cX5_at 125 = .ok (.aload_n 0, 1) := by decide +kernel
theorem dX5_at_126 : decode cX5_at 126 = .ok (.getfield 36, 3) := by decide +kernel
theorem dX5_at_129 : decode cX5_at 129 = .ok (.getfield 159, 3) := by decide +kernel
theorem dX5_at_132 : decode cX5_at 132 = .ok (.iload_n 2, 1) := by decide +kernel
theorem dX5_at_133 : decode cX5_at 133 = .ok (.iaload, 1) := by decide +kernel
theorem dX5_at_134 : decode cX5_at 134 = .ok (.ireturn, 1) := by decide +kernel
theorem dX5_at_135 : decode cX5_at 135 = .ok (.aload_n 0, 1) := by decide +kernel
theorem dX5_at_136 : decode cX5_at 136 = .ok (.getfield 36, 3) := by decide +kernel
theorem dX5_at_139 : decode cX5_at 139 = .ok (.aload_n 0, 1) := by decide +kernel
theorem dX5_at_140 : decode cX5_at 140 = .ok (.getfield 36, 3) := by decide +kernel
theorem dX5_at_143 : decode cX5_at 143 = .ok (.getfield 159, 3) := by decide +kernel
theorem dX5_at_146 : decode cX5_at 146 = .ok (.iload_n 2, 1) := by decide +kernel
theorem dX5_at_147 : decode cX5_at 147 = .ok (.iaload, 1) := by decide +kernel
theorem dX5_at_148 : decode cX5_at 148 = .ok (.invokevirtual 162, 3) := by decide +kernel
theorem dX5_at_151 : decode cX5_at 151 = .ok (.ireturn, 1) := by decide +kernel
theorem dX5_at_152 : decode cX5_at 152 = .ok (.aload_n 0, 1) := by decide +kernel
theorem dX5_at_153 : decode cX5_at 153 = .ok (.getfield 36, 3) := by decide +kernel
theorem dX5_at_156 : decode cX5_at 156 = .ok (.getfield 165, 3) := by decide +kernel
theorem dX5_at_159 : decode cX5_at 159 = .ok (.iload_n 2, 1) := by decide +kernel
theorem dX5_at_160 : decode cX5_at 160 = .ok (.iaload, 1) := by decide +kernel
theorem dX5_at_161 : decode cX5_at 161 = .ok (.ireturn, 1) := by decide +kernel
theorem dX5_at_162 : decode cX5_at 162 = .ok (.iconst (-1), 1) := by decide +kernel
theorem dX5_at_163 : decode cX5_at 163 = .ok (.ireturn, 1) := by decide +kernel
theorem dX5_fits_0 : decode cX5_fits 0 = .ok (.iload_n 1, 1) := by decide +kernel
theorem dX5_fits_1 : decode cX5_fits 1 = .ok (.invokestatic 50, 3) := by decide +kernel
theorem dX5_fits_4 : decode cX5_fits 4 = .ok (.ifCond .eq 17, 3) := by decide +kernel
theorem dX5_fits_7 : decode cX5_fits 7 = .ok (.iload_n 2, 1) := by decide +kernel
theorem dX5_fits_8 : decode cX5_fits 8 = .ok (.invokestatic 54, 3) := by decide +kernel
theorem dX5_fits_11 : decode cX5_fits 11 = .ok (.ifCond .eq 10, 3) := by decide +kernel
theorem dX5_fits_14 : decode cX5_fits 14 = .ok (.iload_n 3, 1) := by decide +kernel
theorem dX5_fits_15 : decode cX5_fits 15 = .ok (.invokestatic 57, 3) := by decide +kernel
theorem dX5_fits_18 : decode cX5_fits 18 = .ok (.ifCond .ne 5, 3) := by decide +kernel
theorem dX5_fits_21 : decode cX5_fits 21 = .ok (.iconst (-1), 1) := by decide +kernel
theorem dX5_fits_22 : decode cX5_fits 22 = .ok (.ireturn, 1) := by decide +kernel
theorem dX5_fits_23 : decode cX5_fits 23 = .ok (.aload_n 0, 1) := by decide +kernel
theorem dX5_fits_24 : decode cX5_fits 24 = .ok (.getfield 36, 3) := by decide +kernel
theorem dX5_fits_27 : decode cX5_fits 27 = .ok (.aload_n 0, 1) := by decide +kernel
theorem dX5_fits_28 : decode cX5_fits 28 = .ok (.getfield 12, 3) := by decide +kernel
theorem dX5_fits_31 : decode cX5_fits 31 = .ok (.iload_n 1, 1) := by decide +kernel
theorem dX5_fits_32 : decode cX5_fits 32 = .ok (.invokevirtual 72, 3) := by decide +kernel
theorem dX5_fits_35 : decode cX5_fits 35 = .ok (.aload_n 0, 1) := by decide +kernel
theorem dX5_fits_36 : decode cX5_fits 36 = .ok (.getfield 36, 3) := by decide +kernel
theorem dX5_fits_39 : decode cX5_fits 39 = .ok (.iload_n 2, 1) := by decide +kernel
theorem dX5_fits_40 : decode cX5_fits 40 = .ok (.iload_n 3, 1) := by decide +kernel
theorem dX5_fits_41 : decode cX5_fits 41 = .ok (.invokevirtual 166, 3) := by decide +kernel
theorem dX5_fits_44 : decode cX5_fits 44 = .ok (.ifCond .eq 7, 3) := by decide +kernel
theorem dX5_fits_47 : decode cX5_fits 47 = .ok (.iconst 1, 1) := by decide +kernel
theorem dX5_fits_48 : decode cX5_fits 48 = .ok (.goto 4, 3) := by decide +kernel
theorem dX5_fits_51 : decode cX5_fits 51 = .ok (.iconst 0, 1) := by decide +kernel
theorem dX5_fits_52 : decode cX5_fits 52 = .ok (.ireturn, 1) := by decide +kernel
theorem dX5_row_0 : decode cX5_row 0 = .ok (.iload_n 1, 1) := by decide +kernel
theorem dX5_row_1 : decode cX5_row 1 = .ok (.invokestatic 50, 3) := by decide +kernel
theorem dX5_row_4 : decode cX5_row 4 = .ok (.ifCond .eq 13, 3) := by decide +kernel
theorem dX5_row_7 : decode cX5_row 7 = .ok (.iload_n 2, 1) := by decide +kernel
theorem dX5_row_8 : decode cX5_row 8 = .ok (.ifCond .lt 9, 3) := by decide +kernel
theorem dX5_row_11 : decode cX5_row 11 = .ok (.iload_n 2, 1) := by decide +kernel
theorem dX5_row_12 : decode cX5_row 12 = .ok (.bipush 10, 2) := by decide +kernel
theorem dX5_row_14 : decode cX5_row 14 = .ok (.if_icmp .le 5, 3) := by decide +kernel
theorem dX5_row_17 : decode cX5_row 17 = .ok (.iconst (-1), 1) := by decide +kernel
theorem dX5_row_18 : decode cX5_row 18 = .ok (.ireturn, 1) := by decide +kernel
theorem dX5_row_19 : decode cX5_row 19 = .ok (.aload_n 0, 1) := by decide +kernel
theorem dX5_row_20 : decode cX5_row 20 = .ok (.getfield 36, 3) := by decide +kernel
theorem dX5_row_23 : decode cX5_row 23 = .ok (.aload_n 0, 1) := by decide +kernel
theorem dX5_row_24 : decode cX5_row 24 = .ok (.getfield 12, 3) := by decide +kernel
theorem dX5_row_27 : decode cX5_row 27 = .ok (.iload_n 1, 1) := by decide +kernel
theorem dX5_row_28 : decode cX5_row 28 = .ok (.invokevirtual 145, 3) := by decide +kernel
theorem dX5_row_31 : decode cX5_row 31 = .ok (.iload_n 2, 1) := by decide +kernel
theorem dX5_row_32 : decode cX5_row 32 = .ok (.tableswitch 52 8 10 #[28, 36, 44], 28) := by decide +kernel
theorem dX5_row_60 : decode cX5_row 60 = .ok (.aload_n 0, 1) := by decide +kernel
theorem dX5_row_61 : decode cX5_row 61 = .ok (.getfield 36, 3) := by decide +kernel
theorem dX5_row_64 : decode cX5_row 64 = .ok (.invokevirtual 170, 3) := by decide +kernel
theorem dX5_row_67 : decode cX5_row 67 = .ok (.ireturn, 1) := by decide +kernel
theorem dX5_row_68 : decode cX5_row 68 = .ok (.aload_n 0, 1) := by decide +kernel
theorem dX5_row_69 : decode cX5_row 69 = .ok (.getfield 36, 3) := by decide +kernel
theorem dX5_row_72 : decode cX5_row 72 = .ok (.invokevirtual 173, 3) := by decide +kernel
theorem dX5_row_75 : decode cX5_row 75 = .ok (.ireturn, 1) := by decide +kernel
theorem dX5_row_76 : decode cX5_row 76 = .ok (.aload_n 0, 1) := by decide +kernel
theorem dX5_row_77 : decode cX5_row 77 = .ok (.getfield 36, 3) := by decide +kernel
theorem dX5_row_80 : decode cX5_row 80 = .ok (.invokevirtual 176, 3) := by decide +kernel
theorem dX5_row_83 : decode cX5_row 83 = .ok (.ireturn, 1) := by decide +kernel
theorem dX5_row_84 : decode cX5_row 84 = .ok (.aload_n 0, 1) := by decide +kernel
theorem dX5_row_85 : decode cX5_row 85 = .ok (.getfield 36, 3) := by decide +kernel
theorem dX5_row_88 : decode cX5_row 88 = .ok (.iload_n 2, 1) := by decide +kernel
theorem dX5_row_89 : decode cX5_row 89 = .ok (.invokevirtual 179, 3) := by decide +kernel
theorem dX5_row_92 : decode cX5_row 92 = .ok (.ireturn, 1) := by decide +kernel
theorem dX5_echo_0 : decode cX5_echo 0 = .ok (.iload_n 1, 1) := by decide +kernel
theorem dX5_echo_1 : decode cX5_echo 1 = .ok (.invokestatic 50, 3) := by decide +kernel
theorem dX5_echo_4 : decode cX5_echo 4 = .ok (.ifCond .eq 14, 3) := by decide +kernel
theorem dX5_echo_7 : decode cX5_echo 7 = .ok (.iload_n 2, 1) := by decide +kernel
theorem dX5_echo_8 : decode cX5_echo 8 = .ok (.iconst 2, 1) := by decide +kernel
theorem dX5_echo_9 : decode cX5_echo 9 = .ok (.if_icmp .lt 9, 3) := by decide +kernel
theorem dX5_echo_12 : decode cX5_echo 12 = .ok (.iload_n 2, 1) := by decide +kernel
theorem dX5_echo_13 : decode cX5_echo 13 = .ok (.bipush 24, 2) := by decide +kernel
theorem dX5_echo_15 : decode cX5_echo 15 = .ok (.if_icmp .le 5, 3) := by decide +kernel
theorem dX5_echo_18 : decode cX5_echo 18 = .ok (.iconst (-1), 1) := by decide +kernel
theorem dX5_echo_19 : decode cX5_echo 19 = .ok (.ireturn, 1) := by decide +kernel
theorem dX5_echo_20 : decode cX5_echo 20 = .ok (.aload_n 0, 1) := by decide +kernel
theorem dX5_echo_21 : decode cX5_echo 21 = .ok (.getfield 36, 3) := by decide +kernel
theorem dX5_echo_24 : decode cX5_echo 24 = .ok (.aload_n 0, 1) := by decide +kernel
theorem dX5_echo_25 : decode cX5_echo 25 = .ok (.getfield 12, 3) := by decide +kernel
theorem dX5_echo_28 : decode cX5_echo 28 = .ok (.iload_n 1, 1) := by decide +kernel
theorem dX5_echo_29 : decode cX5_echo 29 = .ok (.invokevirtual 72, 3) := by decide +kernel
theorem dX5_echo_32 : decode cX5_echo 32 = .ok (.aload_n 0, 1) := by decide +kernel
theorem dX5_echo_33 : decode cX5_echo 33 = .ok (.getfield 36, 3) := by decide +kernel
theorem dX5_echo_36 : decode cX5_echo 36 = .ok (.iload_n 2, 1) := by decide +kernel
theorem dX5_echo_37 : decode cX5_echo 37 = .ok (.invokevirtual 181, 3) := by decide +kernel
theorem dX5_echo_40 : decode cX5_echo 40 = .ok (.ireturn, 1) := by decide +kernel
theorem dX5_echoAt_0 : decode cX5_echoAt 0 = .ok (.iload_n 1, 1) := by decide +kernel
theorem dX5_echoAt_1 : decode cX5_echoAt 1 = .ok (.invokestatic 50, 3) := by decide +kernel
theorem dX5_echoAt_4 : decode cX5_echoAt 4 = .ok (.ifCond .eq 13, 3) := by decide +kernel
theorem dX5_echoAt_7 : decode cX5_echoAt 7 = .ok (.iload_n 2, 1) := by decide +kernel
theorem dX5_echoAt_8 : decode cX5_echoAt 8 = .ok (.ifCond .lt 9, 3) := by decide +kernel
theorem dX5_echoAt_11 : decode cX5_echoAt 11 = .ok (.iload_n 2, 1) := by decide +kernel
theorem dX5_echoAt_12 : decode cX5_echoAt 12 = .ok (.bipush 23, 2) := by decide +kernel
theorem dX5_echoAt_14 : decode cX5_echoAt 14 = .ok (.if_icmp .lt 5, 3) := by decide +kernel
theorem dX5_echoAt_17 : decode cX5_echoAt 17 = .ok (.iconst (-1), 1) := by decide +kernel
theorem dX5_echoAt_18 : decode cX5_echoAt 18 = .ok (.ireturn, 1) := by decide +kernel
theorem dX5_echoAt_19 : decode cX5_echoAt 19 = .ok (.aload_n 0, 1) := by decide +kernel
theorem dX5_echoAt_20 : decode cX5_echoAt 20 = .ok (.getfield 36, 3) := by decide +kernel
theorem dX5_echoAt_23 : decode cX5_echoAt 23 = .ok (.aload_n 0, 1) := by decide +kernel
theorem dX5_echoAt_24 : decode cX5_echoAt 24 = .ok (.getfield 12, 3) := by decide +kernel
theorem dX5_echoAt_27 : decode cX5_echoAt 27 = .ok (.iload_n 1, 1) := by decide +kernel
theorem dX5_echoAt_28 : decode cX5_echoAt 28 = .ok (.invokevirtual 72, 3) := by decide +kernel
theorem dX5_echoAt_31 : decode cX5_echoAt 31 = .ok (.iconst 0, 1) := by decide +kernel
theorem dX5_echoAt_32 : decode cX5_echoAt 32 = .ok (.istore_n 3, 1) := by decide +kernel
theorem dX5_echoAt_33 : decode cX5_echoAt 33 = .ok (.iload_n 3, 1) := by decide +kernel
theorem dX5_echoAt_34 : decode cX5_echoAt 34 = .ok (.bipush 23, 2) := by decide +kernel
theorem dX5_echoAt_36 : decode cX5_echoAt 36 = .ok (.if_icmp .ge 25, 3) := by decide +kernel
theorem dX5_echoAt_39 : decode cX5_echoAt 39 = .ok (.aload_n 0, 1) := by decide +kernel
theorem dX5_echoAt_40 : decode cX5_echoAt 40 = .ok (.getfield 47, 3) := by decide +kernel
theorem dX5_echoAt_43 : decode cX5_echoAt 43 = .ok (.iload_n 3, 1) := by decide +kernel
theorem dX5_echoAt_44 : decode cX5_echoAt 44 = .ok (.aload_n 0, 1) := by decide +kernel
theorem dX5_echoAt_45 : decode cX5_echoAt 45 = .ok (.getfield 36, 3) := by decide +kernel
theorem dX5_echoAt_48 : decode cX5_echoAt 48 = .ok (.iconst 2, 1) := by decide +kernel
theorem dX5_echoAt_49 : decode cX5_echoAt 49 = .ok (.iload_n 3, 1) := by decide +kernel
theorem dX5_echoAt_50 : decode cX5_echoAt 50 = .ok (.iadd, 1) := by decide +kernel
theorem dX5_echoAt_51 : decode cX5_echoAt 51 = .ok (.invokevirtual 181, 3) := by decide +kernel
theorem dX5_echoAt_54 : decode cX5_echoAt 54 = .ok (.iastore, 1) := by decide +kernel
theorem dX5_echoAt_55 : decode cX5_echoAt 55 = .ok (.iinc 3 1, 3) := by decide +kernel
theorem dX5_echoAt_58 : decode cX5_echoAt 58 = .ok (.goto (-25), 3) := by decide +kernel
theorem dX5_echoAt_61 : decode cX5_echoAt 61 = .ok (.iconst 2, 1) := by decide +kernel
theorem dX5_echoAt_62 : decode cX5_echoAt 62 = .ok (.aload_n 0, 1) := by decide +kernel
theorem dX5_echoAt_63 : decode cX5_echoAt 63 = .ok (.bipush 23, 2) := by decide +kernel
theorem dX5_echoAt_65 : decode cX5_echoAt 65 = .ok (.iload_n 2, 1) := by decide +kernel
theorem dX5_echoAt_66 : decode cX5_echoAt 66 = .ok (.invokevirtual 184, 3) := by decide +kernel
theorem dX5_echoAt_69 : decode cX5_echoAt 69 = .ok (.iadd, 1) := by decide +kernel
theorem dX5_echoAt_70 : decode cX5_echoAt 70 = .ok (.ireturn, 1) := by decide +kernel
theorem dX5_faulty_0 : decode cX5_faulty 0 = .ok (.iload_n 1, 1) := by decide +kernel
theorem dX5_faulty_1 : decode cX5_faulty 1 = .ok (.invokestatic 50, 3) := by decide +kernel
theorem dX5_faulty_4 : decode cX5_faulty 4 = .ok (.ifCond .ne 5, 3) := by decide +kernel
theorem dX5_faulty_7 : decode cX5_faulty 7 = .ok (.iconst (-1), 1) := by decide +kernel
theorem dX5_faulty_8 : decode cX5_faulty 8 = .ok (.ireturn, 1) := by decide +kernel
theorem dX5_faulty_9 : decode cX5_faulty 9 = .ok (.iconst 0, 1) := by decide +kernel
theorem dX5_faulty_10 : decode cX5_faulty 10 = .ok (.istore_n 2, 1) := by decide +kernel
theorem dX5_faulty_11 : decode cX5_faulty 11 = .ok (.iload_n 2, 1) := by decide +kernel
theorem dX5_faulty_12 : decode cX5_faulty 12 = .ok (.bipush 8, 2) := by decide +kernel
theorem dX5_faulty_14 : decode cX5_faulty 14 = .ok (.if_icmp .ge 56, 3) := by decide +kernel
theorem dX5_faulty_17 : decode cX5_faulty 17 = .ok (.aload_n 0, 1) := by decide +kernel
theorem dX5_faulty_18 : decode cX5_faulty 18 = .ok (.getfield 36, 3) := by decide +kernel
theorem dX5_faulty_21 : decode cX5_faulty 21 = .ok (.aload_n 0, 1) := by decide +kernel
theorem dX5_faulty_22 : decode cX5_faulty 22 = .ok (.getfield 12, 3) := by decide +kernel
theorem dX5_faulty_25 : decode cX5_faulty 25 = .ok (.iload_n 2, 1) := by decide +kernel
theorem dX5_faulty_26 : decode cX5_faulty 26 = .ok (.invokevirtual 145, 3) := by decide +kernel
theorem dX5_faulty_29 : decode cX5_faulty 29 = .ok (.aload_n 0, 1) := by decide +kernel
theorem dX5_faulty_30 : decode cX5_faulty 30 = .ok (.getfield 36, 3) := by decide +kernel
theorem dX5_faulty_33 : decode cX5_faulty 33 = .ok (.bipush 6, 2) := by decide +kernel
theorem dX5_faulty_35 : decode cX5_faulty 35 = .ok (.invokevirtual 179, 3) := by decide +kernel
theorem dX5_faulty_38 : decode cX5_faulty 38 = .ok (.istore_n 3, 1) := by decide +kernel
theorem dX5_faulty_39 : decode cX5_faulty 39 = .ok (.iload_n 3, 1) := by decide +kernel
theorem dX5_faulty_40 : decode cX5_faulty 40 = .ok (.aload_n 0, 1) := by decide +kernel
theorem dX5_faulty_41 : decode cX5_faulty 41 = .ok (.getfield 36, 3) := by decide +kernel
theorem dX5_faulty_44 : decode cX5_faulty 44 = .ok (.iconst 5, 1) := by decide +kernel
theorem dX5_faulty_45 : decode cX5_faulty 45 = .ok (.invokevirtual 179, 3) := by decide +kernel
theorem dX5_faulty_48 : decode cX5_faulty 48 = .ok (.iadd, 1) := by decide +kernel
theorem dX5_faulty_49 : decode cX5_faulty 49 = .ok (.istore 4, 2) := by decide +kernel
theorem dX5_faulty_51 : decode cX5_faulty 51 = .ok (.aload_n 0, 1) := by decide +kernel
theorem dX5_faulty_52 : decode cX5_faulty 52 = .ok (.getfield 47, 3) := by decide +kernel
theorem dX5_faulty_55 : decode cX5_faulty 55 = .ok (.iload_n 2, 1) := by decide +kernel
theorem dX5_faulty_56 : decode cX5_faulty 56 = .ok (.iload 4, 2) := by decide +kernel
theorem dX5_faulty_58 : decode cX5_faulty 58 = .ok (.bipush 33, 2) := by decide +kernel
theorem dX5_faulty_60 : decode cX5_faulty 60 = .ok (.imul, 1) := by decide +kernel
theorem dX5_faulty_61 : decode cX5_faulty 61 = .ok (.iload_n 3, 1) := by decide +kernel
theorem dX5_faulty_62 : decode cX5_faulty 62 = .ok (.iadd, 1) := by decide +kernel
theorem dX5_faulty_63 : decode cX5_faulty 63 = .ok (.iastore, 1) := by decide +kernel
theorem dX5_faulty_64 : decode cX5_faulty 64 = .ok (.iinc 2 1, 3) := by decide +kernel
theorem dX5_faulty_67 : decode cX5_faulty 67 = .ok (.goto (-56), 3) := by decide +kernel
theorem dX5_faulty_70 : decode cX5_faulty 70 = .ok (.aload_n 0, 1) := by decide +kernel
theorem dX5_faulty_71 : decode cX5_faulty 71 = .ok (.bipush 8, 2) := by decide +kernel
theorem dX5_faulty_73 : decode cX5_faulty 73 = .ok (.iload_n 1, 1) := by decide +kernel
theorem dX5_faulty_74 : decode cX5_faulty 74 = .ok (.invokevirtual 184, 3) := by decide +kernel
theorem dX5_faulty_77 : decode cX5_faulty 77 = .ok (.ireturn, 1) := by decide +kernel
theorem dX5_plane_0 : decode cX5_plane 0 = .ok (.iload_n 1, 1) := by decide +kernel
theorem dX5_plane_1 : decode cX5_plane 1 = .ok (.invokestatic 57, 3) := by decide +kernel
theorem dX5_plane_4 : decode cX5_plane 4 = .ok (.ifCond .eq 12, 3) := by decide +kernel
theorem dX5_plane_7 : decode cX5_plane 7 = .ok (.iload_n 2, 1) := by decide +kernel
theorem dX5_plane_8 : decode cX5_plane 8 = .ok (.ifCond .lt 8, 3) := by decide +kernel
theorem dX5_plane_11 : decode cX5_plane 11 = .ok (.iload_n 2, 1) := by decide +kernel
theorem dX5_plane_12 : decode cX5_plane 12 = .ok (.iconst 3, 1) := by decide +kernel
theorem dX5_plane_13 : decode cX5_plane 13 = .ok (.if_icmp .le 5, 3) := by decide +kernel
theorem dX5_plane_16 : decode cX5_plane 16 = .ok (.iconst (-1), 1) := by decide +kernel
theorem dX5_plane_17 : decode cX5_plane 17 = .ok (.ireturn, 1) := by decide +kernel
theorem dX5_plane_18 : decode cX5_plane 18 = .ok (.iconst 0, 1) := by decide +kernel
theorem dX5_plane_19 : decode cX5_plane 19 = .ok (.istore_n 3, 1) := by decide +kernel
theorem dX5_plane_20 : decode cX5_plane 20 = .ok (.iconst 0, 1) := by decide +kernel
theorem dX5_plane_21 : decode cX5_plane 21 = .ok (.istore 4, 2) := by decide +kernel
theorem dX5_plane_23 : decode cX5_plane 23 = .ok (.iload 4, 2) := by decide +kernel
theorem dX5_plane_25 : decode cX5_plane 25 = .ok (.bipush 8, 2) := by decide +kernel
theorem dX5_plane_27 : decode cX5_plane 27 = .ok (.if_icmp .ge 34, 3) := by decide +kernel
theorem dX5_plane_30 : decode cX5_plane 30 = .ok (.aload_n 0, 1) := by decide +kernel
theorem dX5_plane_31 : decode cX5_plane 31 = .ok (.getfield 36, 3) := by decide +kernel
theorem dX5_plane_34 : decode cX5_plane 34 = .ok (.aload_n 0, 1) := by decide +kernel
theorem dX5_plane_35 : decode cX5_plane 35 = .ok (.getfield 12, 3) := by decide +kernel
theorem dX5_plane_38 : decode cX5_plane 38 = .ok (.iload 4, 2) := by decide +kernel
theorem dX5_plane_40 : decode cX5_plane 40 = .ok (.invokevirtual 145, 3) := by decide +kernel
theorem dX5_plane_43 : decode cX5_plane 43 = .ok (.iload_n 3, 1) := by decide +kernel
theorem dX5_plane_44 : decode cX5_plane 44 = .ok (.aload_n 0, 1) := by decide +kernel
theorem dX5_plane_45 : decode cX5_plane 45 = .ok (.getfield 36, 3) := by decide +kernel
theorem dX5_plane_48 : decode cX5_plane 48 = .ok (.iload_n 1, 1) := by decide +kernel
theorem dX5_plane_49 : decode cX5_plane 49 = .ok (.iload_n 2, 1) := by decide +kernel
theorem dX5_plane_50 : decode cX5_plane 50 = .ok (.invokevirtual 187, 3) := by decide +kernel
theorem dX5_plane_53 : decode cX5_plane 53 = .ok (.iadd, 1) := by decide +kernel
theorem dX5_plane_54 : decode cX5_plane 54 = .ok (.istore_n 3, 1) := by decide +kernel
theorem dX5_plane_55 : decode cX5_plane 55 = .ok (.iinc 4 1, 3) := by decide +kernel
theorem dX5_plane_58 : decode cX5_plane 58 = .ok (.goto (-35), 3) := by decide +kernel
theorem dX5_plane_61 : decode cX5_plane 61 = .ok (.iload_n 3, 1) := by decide +kernel
theorem dX5_plane_62 : decode cX5_plane 62 = .ok (.ireturn, 1) := by decide +kernel
theorem dX5_pictures_0 : decode cX5_pictures 0 = .ok (.iconst 0, 1) := by decide +kernel
theorem dX5_pictures_1 : decode cX5_pictures 1 = .ok (.istore_n 1, 1) := by decide +kernel
theorem dX5_pictures_2 : decode cX5_pictures 2 = .ok (.iload_n 1, 1) := by decide +kernel
theorem dX5_pictures_3 : decode cX5_pictures 3 = .ok (.bipush 8, 2) := by decide +kernel
theorem dX5_pictures_5 : decode cX5_pictures 5 = .ok (.if_icmp .ge 43, 3) := by decide +kernel
theorem dX5_pictures_8 : decode cX5_pictures 8 = .ok (.aload_n 0, 1) := by decide +kernel
theorem dX5_pictures_9 : decode cX5_pictures 9 = .ok (.getfield 36, 3) := by decide +kernel
theorem dX5_pictures_12 : decode cX5_pictures 12 = .ok (.aload_n 0, 1) := by decide +kernel
theorem dX5_pictures_13 : decode cX5_pictures 13 = .ok (.getfield 12, 3) := by decide +kernel
theorem dX5_pictures_16 : decode cX5_pictures 16 = .ok (.iload_n 1, 1) := by decide +kernel
theorem dX5_pictures_17 : decode cX5_pictures 17 = .ok (.invokevirtual 145, 3) := by decide +kernel
theorem dX5_pictures_20 : decode cX5_pictures 20 = .ok (.aload_n 0, 1) := by decide +kernel
theorem dX5_pictures_21 : decode cX5_pictures 21 = .ok (.getfield 36, 3) := by decide +kernel
theorem dX5_pictures_24 : decode cX5_pictures 24 = .ok (.getfield 149, 3) := by decide +kernel
theorem dX5_pictures_27 : decode cX5_pictures 27 = .ok (.iconst 0, 1) := by decide +kernel
theorem dX5_pictures_28 : decode cX5_pictures 28 = .ok (.aload_n 0, 1) := by decide +kernel
theorem dX5_pictures_29 : decode cX5_pictures 29 = .ok (.getfield 43, 3) := by decide +kernel
theorem dX5_pictures_32 : decode cX5_pictures 32 = .ok (.iload_n 1, 1) := by decide +kernel
theorem dX5_pictures_33 : decode cX5_pictures 33 = .ok (.iconst 0, 1) := by decide +kernel
theorem dX5_pictures_34 : decode cX5_pictures 34 = .ok (.invokestatic 80, 3) := by decide +kernel
theorem dX5_pictures_37 : decode cX5_pictures 37 = .ok (.bipush 32, 2) := by decide +kernel
theorem dX5_pictures_39 : decode cX5_pictures 39 = .ok (.invokestatic 190, 3) := by decide +kernel
theorem dX5_pictures_42 : decode cX5_pictures 42 = .ok (.iinc 1 1, 3) := by decide +kernel
theorem dX5_pictures_45 : decode cX5_pictures 45 = .ok (.goto (-43), 3) := by decide +kernel
theorem dX5_pictures_48 : decode cX5_pictures 48 = .ok (.iconst 0, 1) := by decide +kernel
theorem dX5_pictures_49 : decode cX5_pictures 49 = .ok (.istore_n 1, 1) := by decide +kernel
theorem dX5_pictures_50 : decode cX5_pictures 50 = .ok (.iconst 0, 1) := by decide +kernel
theorem dX5_pictures_51 : decode cX5_pictures 51 = .ok (.istore_n 2, 1) := by decide +kernel
theorem dX5_pictures_52 : decode cX5_pictures 52 = .ok (.iload_n 2, 1) := by decide +kernel
theorem dX5_pictures_53 : decode cX5_pictures 53 = .ok (.bipush 8, 2) := by decide +kernel
theorem dX5_pictures_55 : decode cX5_pictures 55 = .ok (.if_icmp .ge 20, 3) := by decide +kernel
theorem dX5_pictures_58 : decode cX5_pictures 58 = .ok (.aload_n 0, 1) := by decide +kernel
theorem dX5_pictures_59 : decode cX5_pictures 59 = .ok (.iload_n 2, 1) := by decide +kernel
theorem dX5_pictures_60 : decode cX5_pictures 60 = .ok (.invokevirtual 196, 3) := by decide +kernel
theorem dX5_pictures_63 : decode cX5_pictures 63 = .ok (.ifCond .eq 6, 3) := by decide +kernel
theorem dX5_pictures_66 : decode cX5_pictures 66 = .ok (.iinc 1 1, 3) := by decide +kernel
theorem dX5_pictures_69 : decode cX5_pictures 69 = .ok (.iinc 2 1, 3) := by decide +kernel
theorem dX5_pictures_72 : decode cX5_pictures 72 = .ok (.goto (-20), 3) := by decide +kernel
theorem dX5_pictures_75 : decode cX5_pictures 75 = .ok (.iload_n 1, 1) := by decide +kernel
theorem dX5_pictures_76 : decode cX5_pictures 76 = .ok (.ireturn, 1) := by decide +kernel
theorem dX5_count_0 : decode cX5_count 0 = .ok (.iload_n 1, 1) := by decide +kernel
theorem dX5_count_1 : decode cX5_count 1 = .ok (.ifCond .lt 9, 3) := by decide +kernel
theorem dX5_count_4 : decode cX5_count 4 = .ok (.iload_n 1, 1) := by decide +kernel
theorem dX5_count_5 : decode cX5_count 5 = .ok (.bipush 18, 2) := by decide +kernel
theorem dX5_count_7 : decode cX5_count 7 = .ok (.if_icmp .le 5, 3) := by decide +kernel
theorem dX5_count_10 : decode cX5_count 10 = .ok (.iconst (-1), 1) := by decide +kernel
theorem dX5_count_11 : decode cX5_count 11 = .ok (.ireturn, 1) := by decide +kernel
theorem dX5_count_12 : decode cX5_count 12 = .ok (.iload_n 1, 1) := by decide +kernel
theorem dX5_count_13 : decode cX5_count 13 = .ok (.bipush 13, 2) := by decide +kernel
theorem dX5_count_15 : decode cX5_count 15 = .ok (.if_icmp .lt 16, 3) := by decide +kernel
theorem dX5_count_18 : decode cX5_count 18 = .ok (.aload_n 0, 1) := by decide +kernel
theorem dX5_count_19 : decode cX5_count 19 = .ok (.getfield 12, 3) := by decide +kernel
theorem dX5_count_22 : decode cX5_count 22 = .ok (.getfield 115, 3) := by decide +kernel
theorem dX5_count_25 : decode cX5_count 25 = .ok (.iload_n 1, 1) := by decide +kernel
theorem dX5_count_26 : decode cX5_count 26 = .ok (.bipush 13, 2) := by decide +kernel
theorem dX5_count_28 : decode cX5_count 28 = .ok (.isub, 1) := by decide +kernel
theorem dX5_count_29 : decode cX5_count 29 = .ok (.iaload, 1) := by decide +kernel
theorem dX5_count_30 : decode cX5_count 30 = .ok (.ireturn, 1) := by decide +kernel
theorem dX5_count_31 : decode cX5_count 31 = .ok (.iload_n 1, 1) := by decide +kernel
theorem dX5_count_32 : decode cX5_count 32 = .ok (.tableswitch 108 0 12 #[68, 108, 108, 108, 108, 108, 108, 108, 108, 76, 84, 92, 100], 68) := by decide +kernel
theorem dX5_count_100 : decode cX5_count 100 = .ok (.aload_n 0, 1) := by decide +kernel
theorem dX5_count_101 : decode cX5_count 101 = .ok (.getfield 12, 3) := by decide +kernel
theorem dX5_count_104 : decode cX5_count 104 = .ok (.invokevirtual 199, 3) := by decide +kernel
theorem dX5_count_107 : decode cX5_count 107 = .ok (.ireturn, 1) := by decide +kernel
theorem dX5_count_108 : decode cX5_count 108 = .ok (.aload_n 0, 1) := by decide +kernel
theorem dX5_count_109 : decode cX5_count 109 = .ok (.getfield 12, 3) := by decide +kernel
theorem dX5_count_112 : decode cX5_count 112 = .ok (.getfield 118, 3) := by decide +kernel
theorem dX5_count_115 : decode cX5_count 115 = .ok (.ireturn, 1) := by decide +kernel
theorem dX5_count_116 : decode cX5_count 116 = .ok (.aload_n 0, 1) := by decide +kernel
theorem dX5_count_117 : decode cX5_count 117 = .ok (.getfield 12, 3) := by decide +kernel
theorem dX5_count_120 : decode cX5_count 120 = .ok (.getfield 142, 3) := by decide +kernel
theorem dX5_count_123 : decode cX5_count 123 = .ok (.ireturn, 1) := by decide +kernel
theorem dX5_count_124 : decode cX5_count 124 = .ok (.aload_n 0, 1) := by decide +kernel
theorem dX5_count_125 : decode cX5_count 125 = .ok (.getfield 29, 3) := by decide +kernel
theorem dX5_count_128 : decode cX5_count 128 = .ok (.getfield 125, 3) := by decide +kernel
theorem dX5_count_131 : decode cX5_count 131 = .ok (.ireturn, 1) := by decide +kernel
theorem dX5_count_132 : decode cX5_count 132 = .ok (.aload_n 0, 1) := by decide +kernel
theorem dX5_count_133 : decode cX5_count 133 = .ok (.getfield 22, 3) := by decide +kernel
theorem dX5_count_136 : decode cX5_count 136 = .ok (.getfield 202, 3) := by decide +kernel
theorem dX5_count_139 : decode cX5_count 139 = .ok (.ireturn, 1) := by decide +kernel
theorem dX5_count_140 : decode cX5_count 140 = .ok (.aload_n 0, 1) := by decide +kernel
theorem dX5_count_141 : decode cX5_count 141 = .ok (.iload_n 1, 1) := by decide +kernel
theorem dX5_count_142 : decode cX5_count 142 = .ok (.iconst 1, 1) := by decide +kernel
theorem dX5_count_143 : decode cX5_count 143 = .ok (.isub, 1) := by decide +kernel
theorem dX5_count_144 : decode cX5_count 144 = .ok (.invokevirtual 205, 3) := by decide +kernel
theorem dX5_count_147 : decode cX5_count 147 = .ok (.ireturn, 1) := by decide +kernel
theorem dX5_away_0 : decode cX5_away 0 = .ok (.iload_n 1, 1) := by decide +kernel
theorem dX5_away_1 : decode cX5_away 1 = .ok (.invokestatic 57, 3) := by decide +kernel
theorem dX5_away_4 : decode cX5_away 4 = .ok (.ifCond .ne 6, 3) := by decide +kernel
theorem dX5_away_7 : decode cX5_away 7 = .ok (.ldc 208, 2) := by decide +kernel
theorem dX5_away_9 : decode cX5_away 9 = .ok (.freturn, 1) := by decide +kernel
theorem dX5_away_10 : decode cX5_away 10 = .ok (.aload_n 0, 1) := by decide +kernel
theorem dX5_away_11 : decode cX5_away 11 = .ok (.getfield 12, 3) := by decide +kernel
theorem dX5_away_14 : decode cX5_away 14 = .ok (.getfield 115, 3) := by decide +kernel
theorem dX5_away_17 : decode cX5_away 17 = .ok (.iconst 0, 1) := by decide +kernel
theorem dX5_away_18 : decode cX5_away 18 = .ok (.iaload, 1) := by decide +kernel
theorem dX5_away_19 : decode cX5_away 19 = .ok (.iload_n 1, 1) := by decide +kernel
theorem dX5_away_20 : decode cX5_away 20 = .ok (.isub, 1) := by decide +kernel
theorem dX5_away_21 : decode cX5_away 21 = .ok (.istore_n 2, 1) := by decide +kernel
theorem dX5_away_22 : decode cX5_away 22 = .ok (.aload_n 0, 1) := by decide +kernel
theorem dX5_away_23 : decode cX5_away 23 = .ok (.getfield 12, 3) := by decide +kernel
theorem dX5_away_26 : decode cX5_away 26 = .ok (.getfield 115, 3) := by decide +kernel
theorem dX5_away_29 : decode cX5_away 29 = .ok (.iconst 4, 1) := by decide +kernel
theorem dX5_away_30 : decode cX5_away 30 = .ok (.iaload, 1) := by decide +kernel
theorem dX5_away_31 : decode cX5_away 31 = .ok (.istore_n 3, 1) := by decide +kernel
theorem dX5_away_32 : decode cX5_away 32 = .ok (.aload_n 0, 1) := by decide +kernel
theorem dX5_away_33 : decode cX5_away 33 = .ok (.getfield 12, 3) := by decide +kernel
theorem dX5_away_36 : decode cX5_away 36 = .ok (.getfield 115, 3) := by decide +kernel
theorem dX5_away_39 : decode cX5_away 39 = .ok (.iconst 3, 1) := by decide +kernel
theorem dX5_away_40 : decode cX5_away 40 = .ok (.iaload, 1) := by decide +kernel
theorem dX5_away_41 : decode cX5_away 41 = .ok (.iconst 1, 1) := by decide +kernel
theorem dX5_away_42 : decode cX5_away 42 = .ok (.if_icmp .ne 9, 3) := by decide +kernel
theorem dX5_away_45 : decode cX5_away 45 = .ok (.iload_n 3, 1) := by decide +kernel
theorem dX5_away_46 : decode cX5_away 46 = .ok (.iload_n 2, 1) := by decide +kernel
theorem dX5_away_47 : decode cX5_away 47 = .ok (.iadd, 1) := by decide +kernel
theorem dX5_away_48 : decode cX5_away 48 = .ok (.goto 6, 3) := by decide +kernel
theorem dX5_away_51 : decode cX5_away 51 = .ok (.iload_n 3, 1) := by decide +kernel
theorem dX5_away_52 : decode cX5_away 52 = .ok (.iload_n 2, 1) := by decide +kernel
theorem dX5_away_53 : decode cX5_away 53 = .ok (.isub, 1) := by decide +kernel
theorem dX5_away_54 : decode cX5_away 54 = .ok (.istore 4, 2) := by decide +kernel
theorem dX5_away_56 : decode cX5_away 56 = .ok (.iload 4, 2) := by decide +kernel
theorem dX5_away_58 : decode cX5_away 58 = .ok (.ifCond .le 22, 3) := by decide +kernel
theorem dX5_away_61 : decode cX5_away 61 = .ok (.aload_n 0, 1) := by decide +kernel
theorem dX5_away_62 : decode cX5_away 62 = .ok (.getfield 12, 3) := by decide +kernel
theorem dX5_away_65 : decode cX5_away 65 = .ok (.getfield 115, 3) := by decide +kernel
theorem dX5_away_68 : decode cX5_away 68 = .ok (.iconst 5, 1) := by decide +kernel
theorem dX5_away_69 : decode cX5_away 69 = .ok (.iaload, 1) := by decide +kernel
theorem dX5_away_70 : decode cX5_away 70 = .ok (.iload_n 2, 1) := by decide +kernel
theorem dX5_away_71 : decode cX5_away 71 = .ok (.imul, 1) := by decide +kernel
theorem dX5_away_72 : decode cX5_away 72 = .ok (.i2f, 1) := by decide +kernel
theorem dX5_away_73 : decode cX5_away 73 = .ok (.iload 4, 2) := by decide +kernel
theorem dX5_away_75 : decode cX5_away 75 = .ok (.i2f, 1) := by decide +kernel
theorem dX5_away_76 : decode cX5_away 76 = .ok (.fdiv, 1) := by decide +kernel
theorem dX5_away_77 : decode cX5_away 77 = .ok (.goto 5, 3) := by decide +kernel
theorem dX5_away_80 : decode cX5_away 80 = .ok (.ldc 208, 2) := by decide +kernel
theorem dX5_away_82 : decode cX5_away 82 = .ok (.freturn, 1) := by decide +kernel
theorem dX5_clearness_0 : decode cX5_clearness 0 = .ok (.iload_n 1, 1) := by decide +kernel
theorem dX5_clearness_1 : decode cX5_clearness 1 = .ok (.invokestatic 50, 3) := by decide +kernel
theorem dX5_clearness_4 : decode cX5_clearness 4 = .ok (.ifCond .ne 7, 3) := by decide +kernel
theorem dX5_clearness_7 : decode cX5_clearness 7 = .ok (.ldc2_w 209, 3) := by decide +kernel
theorem dX5_clearness_10 : decode cX5_clearness 10 = .ok (.dreturn, 1) := by decide +kernel
theorem dX5_clearness_11 : decode cX5_clearness 11 = .ok (.aload_n 0, 1) := by decide +kernel
theorem dX5_clearness_12 : decode cX5_clearness 12 = .ok (.iload_n 1, 1) := by decide +kernel
theorem dX5_clearness_13 : decode cX5_clearness 13 = .ok (.iconst 4, 1) := by decide +kernel
theorem dX5_clearness_14 : decode cX5_clearness 14 = .ok (.invokevirtual 90, 3) := by decide +kernel
theorem dX5_clearness_17 : decode cX5_clearness 17 = .ok (.i2d, 1) := by decide +kernel
theorem dX5_clearness_18 : decode cX5_clearness 18 = .ok (.ldc2_w 211, 3) := by decide +kernel
theorem dX5_clearness_21 : decode cX5_clearness 21 = .ok (.ddiv, 1) := by decide +kernel
theorem dX5_clearness_22 : decode cX5_clearness 22 = .ok (.dreturn, 1) := by decide +kernel
theorem dX5_ifPainted_0 : decode cX5_ifPainted 0 = .ok (.iload_n 1, 1) := by decide +kernel
theorem dX5_ifPainted_1 : decode cX5_ifPainted 1 = .ok (.invokestatic 50, 3) := by decide +kernel
theorem dX5_ifPainted_4 : decode cX5_ifPainted 4 = .ok (.ifCond .eq 17, 3) := by decide +kernel
theorem dX5_ifPainted_7 : decode cX5_ifPainted 7 = .ok (.iload_n 2, 1) := by decide +kernel
theorem dX5_ifPainted_8 : decode cX5_ifPainted 8 = .ok (.invokestatic 54, 3) := by decide +kernel
theorem dX5_ifPainted_11 : decode cX5_ifPainted 11 = .ok (.ifCond .eq 10, 3) := by decide +kernel
theorem dX5_ifPainted_14 : decode cX5_ifPainted 14 = .ok (.iload_n 3, 1) := by decide +kernel
theorem dX5_ifPainted_15 : decode cX5_ifPainted 15 = .ok (.invokestatic 100, 3) := by decide +kernel
theorem dX5_ifPainted_18 : decode cX5_ifPainted 18 = .ok (.ifCond .ne 5, 3) := by decide +kernel
theorem dX5_ifPainted_21 : decode cX5_ifPainted 21 = .ok (.iconst (-1), 1) := by decide +kernel
theorem dX5_ifPainted_22 : decode cX5_ifPainted 22 = .ok (.ireturn, 1) := by decide +kernel
theorem dX5_ifPainted_23 : decode cX5_ifPainted 23 = .ok (.aload_n 0, 1) := by decide +kernel
theorem dX5_ifPainted_24 : decode cX5_ifPainted 24 = .ok (.getfield 36, 3) := by decide +kernel
theorem dX5_ifPainted_27 : decode cX5_ifPainted 27 = .ok (.aload_n 0, 1) := by decide +kernel
theorem dX5_ifPainted_28 : decode cX5_ifPainted 28 = .ok (.getfield 12, 3) := by decide +kernel
theorem dX5_ifPainted_31 : decode cX5_ifPainted 31 = .ok (.iload_n 1, 1) := by decide +kernel
theorem dX5_ifPainted_32 : decode cX5_ifPainted 32 = .ok (.invokevirtual 145, 3) := by decide +kernel
theorem dX5_ifPainted_35 : decode cX5_ifPainted 35 = .ok (.aload_n 0, 1) := by decide +kernel
theorem dX5_ifPainted_36 : decode cX5_ifPainted 36 = .ok (.getfield 40, 3) := by decide +kernel
theorem dX5_ifPainted_39 : decode cX5_ifPainted 39 = .ok (.aload_n 0, 1) := by decide +kernel
theorem dX5_ifPainted_40 : decode cX5_ifPainted 40 = .ok (.getfield 12, 3) := by decide +kernel
theorem dX5_ifPainted_43 : decode cX5_ifPainted 43 = .ok (.iload_n 1, 1) := by decide +kernel
theorem dX5_ifPainted_44 : decode cX5_ifPainted 44 = .ok (.invokevirtual 72, 3) := by decide +kernel
theorem dX5_ifPainted_47 : decode cX5_ifPainted 47 = .ok (.aload_n 0, 1) := by decide +kernel
theorem dX5_ifPainted_48 : decode cX5_ifPainted 48 = .ok (.getfield 40, 3) := by decide +kernel
theorem dX5_ifPainted_51 : decode cX5_ifPainted 51 = .ok (.getfield 148, 3) := by decide +kernel
theorem dX5_ifPainted_54 : decode cX5_ifPainted 54 = .ok (.iload_n 2, 1) := by decide +kernel
theorem dX5_ifPainted_55 : decode cX5_ifPainted 55 = .ok (.iload_n 3, 1) := by decide +kernel
theorem dX5_ifPainted_56 : decode cX5_ifPainted 56 = .ok (.iastore, 1) := by decide +kernel
theorem dX5_ifPainted_57 : decode cX5_ifPainted 57 = .ok (.aload_n 0, 1) := by decide +kernel
theorem dX5_ifPainted_58 : decode cX5_ifPainted 58 = .ok (.getfield 40, 3) := by decide +kernel
theorem dX5_ifPainted_61 : decode cX5_ifPainted 61 = .ok (.invokevirtual 213, 3) := by decide +kernel
theorem dX5_ifPainted_64 : decode cX5_ifPainted 64 = .ok (.iload 4, 2) := by decide +kernel
theorem dX5_ifPainted_66 : decode cX5_ifPainted 66 = .ok (.tableswitch 63 0 2 #[26, 41, 50], 26) := by decide +kernel
theorem dX5_ifPainted_92 : decode cX5_ifPainted 92 = .ok (.bipush 32, 2) := by decide +kernel
theorem dX5_ifPainted_94 : decode cX5_ifPainted 94 = .ok (.aload_n 0, 1) := by decide +kernel
theorem dX5_ifPainted_95 : decode cX5_ifPainted 95 = .ok (.getfield 36, 3) := by decide +kernel
theorem dX5_ifPainted_98 : decode cX5_ifPainted 98 = .ok (.aload_n 0, 1) := by decide +kernel
theorem dX5_ifPainted_99 : decode cX5_ifPainted 99 = .ok (.getfield 40, 3) := by decide +kernel
theorem dX5_ifPainted_102 : decode cX5_ifPainted 102 = .ok (.invokevirtual 216, 3) := by decide +kernel
theorem dX5_ifPainted_105 : decode cX5_ifPainted 105 = .ok (.isub, 1) := by decide +kernel
theorem dX5_ifPainted_106 : decode cX5_ifPainted 106 = .ok (.ireturn, 1) := by decide +kernel
theorem dX5_ifPainted_107 : decode cX5_ifPainted 107 = .ok (.aload_n 0, 1) := by decide +kernel
theorem dX5_ifPainted_108 : decode cX5_ifPainted 108 = .ok (.getfield 40, 3) := by decide +kernel
theorem dX5_ifPainted_111 : decode cX5_ifPainted 111 = .ok (.iconst 4, 1) := by decide +kernel
theorem dX5_ifPainted_112 : decode cX5_ifPainted 112 = .ok (.invokevirtual 179, 3) := by decide +kernel
theorem dX5_ifPainted_115 : decode cX5_ifPainted 115 = .ok (.ireturn, 1) := by decide +kernel
theorem dX5_ifPainted_116 : decode cX5_ifPainted 116 = .ok (.aload_n 0, 1) := by decide +kernel
theorem dX5_ifPainted_117 : decode cX5_ifPainted 117 = .ok (.getfield 36, 3) := by decide +kernel
theorem dX5_ifPainted_120 : decode cX5_ifPainted 120 = .ok (.aload_n 0, 1) := by decide +kernel
theorem dX5_ifPainted_121 : decode cX5_ifPainted 121 = .ok (.getfield 40, 3) := by decide +kernel
theorem dX5_ifPainted_124 : decode cX5_ifPainted 124 = .ok (.iload_n 2, 1) := by decide +kernel
theorem dX5_ifPainted_125 : decode cX5_ifPainted 125 = .ok (.invokevirtual 220, 3) := by decide +kernel
theorem dX5_ifPainted_128 : decode cX5_ifPainted 128 = .ok (.ireturn, 1) := by decide +kernel
theorem dX5_ifPainted_129 : decode cX5_ifPainted 129 = .ok (.iconst (-1), 1) := by decide +kernel
theorem dX5_ifPainted_130 : decode cX5_ifPainted 130 = .ok (.ireturn, 1) := by decide +kernel
theorem dX5_ifPrinted_0 : decode cX5_ifPrinted 0 = .ok (.iload_n 1, 1) := by decide +kernel
theorem dX5_ifPrinted_1 : decode cX5_ifPrinted 1 = .ok (.invokestatic 50, 3) := by decide +kernel
theorem dX5_ifPrinted_4 : decode cX5_ifPrinted 4 = .ok (.ifCond .eq 15, 3) := by decide +kernel
theorem dX5_ifPrinted_7 : decode cX5_ifPrinted 7 = .ok (.iload_n 2, 1) := by decide +kernel
theorem dX5_ifPrinted_8 : decode cX5_ifPrinted 8 = .ok (.bipush 6, 2) := by decide +kernel
theorem dX5_ifPrinted_10 : decode cX5_ifPrinted 10 = .ok (.if_icmp .lt 9, 3) := by decide +kernel
theorem dX5_ifPrinted_13 : decode cX5_ifPrinted 13 = .ok (.iload_n 2, 1) := by decide +kernel
theorem dX5_ifPrinted_14 : decode cX5_ifPrinted 14 = .ok (.bipush 16, 2) := by decide +kernel
theorem dX5_ifPrinted_16 : decode cX5_ifPrinted 16 = .ok (.if_icmp .le 5, 3) := by decide +kernel
theorem dX5_ifPrinted_19 : decode cX5_ifPrinted 19 = .ok (.iconst (-1), 1) := by decide +kernel
theorem dX5_ifPrinted_20 : decode cX5_ifPrinted 20 = .ok (.ireturn, 1) := by decide +kernel
theorem dX5_ifPrinted_21 : decode cX5_ifPrinted 21 = .ok (.aload_n 0, 1) := by decide +kernel
theorem dX5_ifPrinted_22 : decode cX5_ifPrinted 22 = .ok (.iload_n 1, 1) := by decide +kernel
theorem dX5_ifPrinted_23 : decode cX5_ifPrinted 23 = .ok (.iload_n 2, 1) := by decide +kernel
theorem dX5_ifPrinted_24 : decode cX5_ifPrinted 24 = .ok (.invokevirtual 224, 3) := by decide +kernel
theorem dX5_ifPrinted_27 : decode cX5_ifPrinted 27 = .ok (.ireturn, 1) := by decide +kernel
theorem dX5_shortest_0 : decode cX5_shortest 0 = .ok (.iload_n 1, 1) := by decide +kernel
theorem dX5_shortest_1 : decode cX5_shortest 1 = .ok (.invokestatic 50, 3) := by decide +kernel
theorem dX5_shortest_4 : decode cX5_shortest 4 = .ok (.ifCond .ne 5, 3) := by decide +kernel
theorem dX5_shortest_7 : decode cX5_shortest 7 = .ok (.iconst (-1), 1) := by decide +kernel
theorem dX5_shortest_8 : decode cX5_shortest 8 = .ok (.ireturn, 1) := by decide +kernel
theorem dX5_shortest_9 : decode cX5_shortest 9 = .ok (.bipush 6, 2) := by decide +kernel
theorem dX5_shortest_11 : decode cX5_shortest 11 = .ok (.istore_n 2, 1) := by decide +kernel
theorem dX5_shortest_12 : decode cX5_shortest 12 = .ok (.iconst (-1), 1) := by decide +kernel
theorem dX5_shortest_13 : decode cX5_shortest 13 = .ok (.istore_n 3, 1) := by decide +kernel
theorem dX5_shortest_14 : decode cX5_shortest 14 = .ok (.bipush 6, 2) := by decide +kernel
theorem dX5_shortest_16 : decode cX5_shortest 16 = .ok (.istore 4, 2) := by decide +kernel
theorem dX5_shortest_18 : decode cX5_shortest 18 = .ok (.iload 4, 2) := by decide +kernel
theorem dX5_shortest_20 : decode cX5_shortest 20 = .ok (.bipush 16, 2) := by decide +kernel
theorem dX5_shortest_22 : decode cX5_shortest 22 = .ok (.if_icmp .gt 30, 3) := by decide +kernel
theorem dX5_shortest_25 : decode cX5_shortest 25 = .ok (.aload_n 0, 1) := by decide +kernel
theorem dX5_shortest_26 : decode cX5_shortest 26 = .ok (.iload_n 1, 1) := by decide +kernel
theorem dX5_shortest_27 : decode cX5_shortest 27 = .ok (.iload 4, 2) := by decide +kernel
theorem dX5_shortest_29 : decode cX5_shortest 29 = .ok (.invokevirtual 224, 3) := by decide +kernel
theorem dX5_shortest_32 : decode cX5_shortest 32 = .ok (.istore 5, 2) := by decide +kernel
theorem dX5_shortest_34 : decode cX5_shortest 34 = .ok (.iload 5, 2) := by decide +kernel
theorem dX5_shortest_36 : decode cX5_shortest 36 = .ok (.iload_n 3, 1) := by decide +kernel
theorem dX5_shortest_37 : decode cX5_shortest 37 = .ok (.if_icmp .le 9, 3) := by decide +kernel
theorem dX5_shortest_40 : decode cX5_shortest 40 = .ok (.iload 5, 2) := by decide +kernel
theorem dX5_shortest_42 : decode cX5_shortest 42 = .ok (.istore_n 3, 1) := by decide +kernel
theorem dX5_shortest_43 : decode cX5_shortest 43 = .ok (.iload 4, 2) := by decide +kernel
theorem dX5_shortest_45 : decode cX5_shortest 45 = .ok (.istore_n 2, 1) := by decide +kernel
theorem dX5_shortest_46 : decode cX5_shortest 46 = .ok (.iinc 4 1, 3) := by decide +kernel
theorem dX5_shortest_49 : decode cX5_shortest 49 = .ok (.goto (-31), 3) := by decide +kernel
theorem dX5_shortest_52 : decode cX5_shortest 52 = .ok (.iload_n 2, 1) := by decide +kernel
theorem dX5_shortest_53 : decode cX5_shortest 53 = .ok (.ireturn, 1) := by decide +kernel
theorem dX5_bestWindow_0 : decode cX5_bestWindow 0 = .ok (.iload_n 1, 1) := by decide +kernel
theorem dX5_bestWindow_1 : decode cX5_bestWindow 1 = .ok (.invokestatic 50, 3) := by decide +kernel
theorem dX5_bestWindow_4 : decode cX5_bestWindow 4 = .ok (.ifCond .ne 5, 3) := by decide +kernel
theorem dX5_bestWindow_7 : decode cX5_bestWindow 7 = .ok (.iconst (-1), 1) := by decide +kernel
theorem dX5_bestWindow_8 : decode cX5_bestWindow 8 = .ok (.ireturn, 1) := by decide +kernel
theorem dX5_bestWindow_9 : decode cX5_bestWindow 9 = .ok (.aload_n 0, 1) := by decide +kernel
theorem dX5_bestWindow_10 : decode cX5_bestWindow 10 = .ok (.getfield 36, 3) := by decide +kernel
theorem dX5_bestWindow_13 : decode cX5_bestWindow 13 = .ok (.aload_n 0, 1) := by decide +kernel
theorem dX5_bestWindow_14 : decode cX5_bestWindow 14 = .ok (.getfield 12, 3) := by decide +kernel
theorem dX5_bestWindow_17 : decode cX5_bestWindow 17 = .ok (.iload_n 1, 1) := by decide +kernel
theorem dX5_bestWindow_18 : decode cX5_bestWindow 18 = .ok (.invokevirtual 72, 3) := by decide +kernel
theorem dX5_bestWindow_21 : decode cX5_bestWindow 21 = .ok (.iconst 0, 1) := by decide +kernel
theorem dX5_bestWindow_22 : decode cX5_bestWindow 22 = .ok (.istore_n 2, 1) := by decide +kernel
theorem dX5_bestWindow_23 : decode cX5_bestWindow 23 = .ok (.iconst (-1), 1) := by decide +kernel
theorem dX5_bestWindow_24 : decode cX5_bestWindow 24 = .ok (.istore_n 3, 1) := by decide +kernel
theorem dX5_bestWindow_25 : decode cX5_bestWindow 25 = .ok (.iconst 0, 1) := by decide +kernel
theorem dX5_bestWindow_26 : decode cX5_bestWindow 26 = .ok (.istore 4, 2) := by decide +kernel
theorem dX5_bestWindow_28 : decode cX5_bestWindow 28 = .ok (.iload 4, 2) := by decide +kernel
theorem dX5_bestWindow_30 : decode cX5_bestWindow 30 = .ok (.iconst 3, 1) := by decide +kernel
theorem dX5_bestWindow_31 : decode cX5_bestWindow 31 = .ok (.if_icmp .gt 47, 3) := by decide +kernel
theorem dX5_bestWindow_34 : decode cX5_bestWindow 34 = .ok (.aload_n 0, 1) := by decide +kernel
theorem dX5_bestWindow_35 : decode cX5_bestWindow 35 = .ok (.getfield 36, 3) := by decide +kernel
theorem dX5_bestWindow_38 : decode cX5_bestWindow 38 = .ok (.iload 4, 2) := by decide +kernel
theorem dX5_bestWindow_40 : decode cX5_bestWindow 40 = .ok (.putfield 227, 3) := by decide +kernel
theorem dX5_bestWindow_43 : decode cX5_bestWindow 43 = .ok (.aload_n 0, 1) := by decide +kernel
theorem dX5_bestWindow_44 : decode cX5_bestWindow 44 = .ok (.getfield 36, 3) := by decide +kernel
theorem dX5_bestWindow_47 : decode cX5_bestWindow 47 = .ok (.invokevirtual 213, 3) := by decide +kernel
theorem dX5_bestWindow_50 : decode cX5_bestWindow 50 = .ok (.aload_n 0, 1) := by decide +kernel
theorem dX5_bestWindow_51 : decode cX5_bestWindow 51 = .ok (.getfield 36, 3) := by decide +kernel
theorem dX5_bestWindow_54 : decode cX5_bestWindow 54 = .ok (.iconst 4, 1) := by decide +kernel
theorem dX5_bestWindow_55 : decode cX5_bestWindow 55 = .ok (.invokevirtual 179, 3) := by decide +kernel
theorem dX5_bestWindow_58 : decode cX5_bestWindow 58 = .ok (.istore 5, 2) := by decide +kernel
theorem dX5_bestWindow_60 : decode cX5_bestWindow 60 = .ok (.iload 5, 2) := by decide +kernel
theorem dX5_bestWindow_62 : decode cX5_bestWindow 62 = .ok (.iload_n 3, 1) := by decide +kernel
theorem dX5_bestWindow_63 : decode cX5_bestWindow 63 = .ok (.if_icmp .le 9, 3) := by decide +kernel
theorem dX5_bestWindow_66 : decode cX5_bestWindow 66 = .ok (.iload 5, 2) := by decide +kernel
theorem dX5_bestWindow_68 : decode cX5_bestWindow 68 = .ok (.istore_n 3, 1) := by decide +kernel
theorem dX5_bestWindow_69 : decode cX5_bestWindow 69 = .ok (.iload 4, 2) := by decide +kernel
theorem dX5_bestWindow_71 : decode cX5_bestWindow 71 = .ok (.istore_n 2, 1) := by decide +kernel
theorem dX5_bestWindow_72 : decode cX5_bestWindow 72 = .ok (.iinc 4 1, 3) := by decide +kernel
theorem dX5_bestWindow_75 : decode cX5_bestWindow 75 = .ok (.goto (-47), 3) := by decide +kernel
theorem dX5_bestWindow_78 : decode cX5_bestWindow 78 = .ok (.iload_n 2, 1) := by decide +kernel
theorem dX5_bestWindow_79 : decode cX5_bestWindow 79 = .ok (.ireturn, 1) := by decide +kernel
theorem dX5_alike_0 : decode cX5_alike 0 = .ok (.iload_n 1, 1) := by decide +kernel
theorem dX5_alike_1 : decode cX5_alike 1 = .ok (.invokestatic 50, 3) := by decide +kernel
theorem dX5_alike_4 : decode cX5_alike 4 = .ok (.ifCond .eq 10, 3) := by decide +kernel
theorem dX5_alike_7 : decode cX5_alike 7 = .ok (.iload_n 2, 1) := by decide +kernel
theorem dX5_alike_8 : decode cX5_alike 8 = .ok (.invokestatic 50, 3) := by decide +kernel
theorem dX5_alike_11 : decode cX5_alike 11 = .ok (.ifCond .ne 5, 3) := by decide +kernel
theorem dX5_alike_14 : decode cX5_alike 14 = .ok (.iconst (-1), 1) := by decide +kernel
theorem dX5_alike_15 : decode cX5_alike 15 = .ok (.ireturn, 1) := by decide +kernel
theorem dX5_alike_16 : decode cX5_alike 16 = .ok (.aload_n 0, 1) := by decide +kernel
theorem dX5_alike_17 : decode cX5_alike 17 = .ok (.getfield 36, 3) := by decide +kernel
theorem dX5_alike_20 : decode cX5_alike 20 = .ok (.aload_n 0, 1) := by decide +kernel
theorem dX5_alike_21 : decode cX5_alike 21 = .ok (.getfield 12, 3) := by decide +kernel
theorem dX5_alike_24 : decode cX5_alike 24 = .ok (.iload_n 1, 1) := by decide +kernel
theorem dX5_alike_25 : decode cX5_alike 25 = .ok (.invokevirtual 145, 3) := by decide +kernel
theorem dX5_alike_28 : decode cX5_alike 28 = .ok (.aload_n 0, 1) := by decide +kernel
theorem dX5_alike_29 : decode cX5_alike 29 = .ok (.getfield 40, 3) := by decide +kernel
theorem dX5_alike_32 : decode cX5_alike 32 = .ok (.aload_n 0, 1) := by decide +kernel
theorem dX5_alike_33 : decode cX5_alike 33 = .ok (.getfield 12, 3) := by decide +kernel
theorem dX5_alike_36 : decode cX5_alike 36 = .ok (.iload_n 2, 1) := by decide +kernel
theorem dX5_alike_37 : decode cX5_alike 37 = .ok (.invokevirtual 145, 3) := by decide +kernel
theorem dX5_alike_40 : decode cX5_alike 40 = .ok (.aload_n 0, 1) := by decide +kernel
theorem dX5_alike_41 : decode cX5_alike 41 = .ok (.getfield 36, 3) := by decide +kernel
theorem dX5_alike_44 : decode cX5_alike 44 = .ok (.aload_n 0, 1) := by decide +kernel
theorem dX5_alike_45 : decode cX5_alike 45 = .ok (.getfield 40, 3) := by decide +kernel
theorem dX5_alike_48 : decode cX5_alike 48 = .ok (.invokevirtual 216, 3) := by decide +kernel
theorem dX5_alike_51 : decode cX5_alike 51 = .ok (.ireturn, 1) := by decide +kernel
theorem dX5_undo_0 : decode cX5_undo 0 = .ok (.aload_n 0, 1) := by decide +kernel
theorem dX5_undo_1 : decode cX5_undo 1 = .ok (.getfield 22, 3) := by decide +kernel
theorem dX5_undo_4 : decode cX5_undo 4 = .ok (.aload_n 0, 1) := by decide +kernel
theorem dX5_undo_5 : decode cX5_undo 5 = .ok (.getfield 12, 3) := by decide +kernel
theorem dX5_undo_8 : decode cX5_undo 8 = .ok (.invokevirtual 230, 3) := by decide +kernel
theorem dX5_undo_11 : decode cX5_undo 11 = .ok (.ifCond .eq 13, 3) := by decide +kernel
theorem dX5_undo_14 : decode cX5_undo 14 = .ok (.aload_n 0, 1) := by decide +kernel
theorem dX5_undo_15 : decode cX5_undo 15 = .ok (.getfield 22, 3) := by decide +kernel
theorem dX5_undo_18 : decode cX5_undo 18 = .ok (.getfield 202, 3) := by decide +kernel
theorem dX5_undo_21 : decode cX5_undo 21 = .ok (.goto 5, 3) := by decide +kernel
theorem dX5_undo_24 : decode cX5_undo 24 = .ok (.bipush (-2), 2) := by decide +kernel
theorem dX5_undo_26 : decode cX5_undo 26 = .ok (.ireturn, 1) := by decide +kernel
theorem dX5_save_0 : decode cX5_save 0 = .ok (.aload_n 0, 1) := by decide +kernel
theorem dX5_save_1 : decode cX5_save 1 = .ok (.getfield 16, 3) := by decide +kernel
theorem dX5_save_4 : decode cX5_save 4 = .ok (.aload_n 0, 1) := by decide +kernel
theorem dX5_save_5 : decode cX5_save 5 = .ok (.getfield 12, 3) := by decide +kernel
theorem dX5_save_8 : decode cX5_save 8 = .ok (.invokevirtual 234, 3) := by decide +kernel
theorem dX5_save_11 : decode cX5_save 11 = .ok (.aload_n 0, 1) := by decide +kernel
theorem dX5_save_12 : decode cX5_save 12 = .ok (.iconst 1, 1) := by decide +kernel
theorem dX5_save_13 : decode cX5_save 13 = .ok (.putfield 237, 3) := by decide +kernel
theorem dX5_save_16 : decode cX5_save 16 = .ok (.aload_n 0, 1) := by decide +kernel
theorem dX5_save_17 : decode cX5_save 17 = .ok (.iconst 4, 1) := by decide +kernel
theorem dX5_save_18 : decode cX5_save 18 = .ok (.invokevirtual 205, 3) := by decide +kernel
theorem dX5_save_21 : decode cX5_save 21 = .ok (.ireturn, 1) := by decide +kernel
theorem dX5_restore_0 : decode cX5_restore 0 = .ok (.aload_n 0, 1) := by decide +kernel
theorem dX5_restore_1 : decode cX5_restore 1 = .ok (.getfield 237, 3) := by decide +kernel
theorem dX5_restore_4 : decode cX5_restore 4 = .ok (.ifCond .ne 6, 3) := by decide +kernel
theorem dX5_restore_7 : decode cX5_restore 7 = .ok (.bipush (-2), 2) := by decide +kernel
theorem dX5_restore_9 : decode cX5_restore 9 = .ok (.ireturn, 1) := by decide +kernel
theorem dX5_restore_10 : decode cX5_restore 10 = .ok (.aload_n 0, 1) := by decide +kernel
theorem dX5_restore_11 : decode cX5_restore 11 = .ok (.getfield 22, 3) := by decide +kernel
theorem dX5_restore_14 : decode cX5_restore 14 = .ok (.aload_n 0, 1) := by decide +kernel
theorem dX5_restore_15 : decode cX5_restore 15 = .ok (.getfield 12, 3) := by decide +kernel
theorem dX5_restore_18 : decode cX5_restore 18 = .ok (.invokevirtual 60, 3) := by decide +kernel
theorem dX5_restore_21 : decode cX5_restore 21 = .ok (.pop, 1) := by decide +kernel
theorem dX5_restore_22 : decode cX5_restore 22 = .ok (.aload_n 0, 1) := by decide +kernel
theorem dX5_restore_23 : decode cX5_restore 23 = .ok (.getfield 12, 3) := by decide +kernel
theorem dX5_restore_26 : decode cX5_restore 26 = .ok (.aload_n 0, 1) := by decide +kernel
theorem dX5_restore_27 : decode cX5_restore 27 = .ok (.getfield 16, 3) := by decide +kernel
theorem dX5_restore_30 : decode cX5_restore 30 = .ok (.invokevirtual 234, 3) := by decide +kernel
theorem dX5_restore_33 : decode cX5_restore 33 = .ok (.aload_n 0, 1) := by decide +kernel
theorem dX5_restore_34 : decode cX5_restore 34 = .ok (.iconst 4, 1) := by decide +kernel
theorem dX5_restore_35 : decode cX5_restore 35 = .ok (.invokevirtual 205, 3) := by decide +kernel
theorem dX5_restore_38 : decode cX5_restore 38 = .ok (.ireturn, 1) := by decide +kernel
theorem dX5_isRow_0 : decode cX5_isRow 0 = .ok (.iload_n 0, 1) := by decide +kernel
theorem dX5_isRow_1 : decode cX5_isRow 1 = .ok (.ifCond .lt 13, 3) := by decide +kernel
theorem dX5_isRow_4 : decode cX5_isRow 4 = .ok (.iload_n 0, 1) := by decide +kernel
theorem dX5_isRow_5 : decode cX5_isRow 5 = .ok (.bipush 8, 2) := by decide +kernel
theorem dX5_isRow_7 : decode cX5_isRow 7 = .ok (.if_icmp .ge 7, 3) := by decide +kernel
theorem dX5_isRow_10 : decode cX5_isRow 10 = .ok (.iconst 1, 1) := by decide +kernel
theorem dX5_isRow_11 : decode cX5_isRow 11 = .ok (.goto 4, 3) := by decide +kernel
theorem dX5_isRow_14 : decode cX5_isRow 14 = .ok (.iconst 0, 1) := by decide +kernel
theorem dX5_isRow_15 : decode cX5_isRow 15 = .ok (.ireturn, 1) := by decide +kernel
theorem dX5_isColumn_0 : decode cX5_isColumn 0 = .ok (.iload_n 0, 1) := by decide +kernel
theorem dX5_isColumn_1 : decode cX5_isColumn 1 = .ok (.ifCond .lt 13, 3) := by decide +kernel
theorem dX5_isColumn_4 : decode cX5_isColumn 4 = .ok (.iload_n 0, 1) := by decide +kernel
theorem dX5_isColumn_5 : decode cX5_isColumn 5 = .ok (.bipush 32, 2) := by decide +kernel
theorem dX5_isColumn_7 : decode cX5_isColumn 7 = .ok (.if_icmp .ge 7, 3) := by decide +kernel
theorem dX5_isColumn_10 : decode cX5_isColumn 10 = .ok (.iconst 1, 1) := by decide +kernel
theorem dX5_isColumn_11 : decode cX5_isColumn 11 = .ok (.goto 4, 3) := by decide +kernel
theorem dX5_isColumn_14 : decode cX5_isColumn 14 = .ok (.iconst 0, 1) := by decide +kernel
theorem dX5_isColumn_15 : decode cX5_isColumn 15 = .ok (.ireturn, 1) := by decide +kernel
theorem dX5_isPlane_0 : decode cX5_isPlane 0 = .ok (.iload_n 0, 1) := by decide +kernel
theorem dX5_isPlane_1 : decode cX5_isPlane 1 = .ok (.ifCond .lt 12, 3) := by decide +kernel
theorem dX5_isPlane_4 : decode cX5_isPlane 4 = .ok (.iload_n 0, 1) := by decide +kernel
theorem dX5_isPlane_5 : decode cX5_isPlane 5 = .ok (.iconst 5, 1) := by decide +kernel
theorem dX5_isPlane_6 : decode cX5_isPlane 6 = .ok (.if_icmp .ge 7, 3) := by decide +kernel
theorem dX5_isPlane_9 : decode cX5_isPlane 9 = .ok (.iconst 1, 1) := by decide +kernel
theorem dX5_isPlane_10 : decode cX5_isPlane 10 = .ok (.goto 4, 3) := by decide +kernel
theorem dX5_isPlane_13 : decode cX5_isPlane 13 = .ok (.iconst 0, 1) := by decide +kernel
theorem dX5_isPlane_14 : decode cX5_isPlane 14 = .ok (.ireturn, 1) := by decide +kernel
theorem dX5_isDot_0 : decode cX5_isDot 0 = .ok (.iload_n 0, 1) := by decide +kernel
theorem dX5_isDot_1 : decode cX5_isDot 1 = .ok (.ifCond .lt 13, 3) := by decide +kernel
theorem dX5_isDot_4 : decode cX5_isDot 4 = .ok (.iload_n 0, 1) := by decide +kernel
theorem dX5_isDot_5 : decode cX5_isDot 5 = .ok (.bipush 8, 2) := by decide +kernel
theorem dX5_isDot_7 : decode cX5_isDot 7 = .ok (.if_icmp .ge 7, 3) := by decide +kernel
theorem dX5_isDot_10 : decode cX5_isDot 10 = .ok (.iconst 1, 1) := by decide +kernel
theorem dX5_isDot_11 : decode cX5_isDot 11 = .ok (.goto 4, 3) := by decide +kernel
theorem dX5_isDot_14 : decode cX5_isDot 14 = .ok (.iconst 0, 1) := by decide +kernel
theorem dX5_isDot_15 : decode cX5_isDot 15 = .ok (.ireturn, 1) := by decide +kernel
theorem dX5_placeOf_0 : decode cX5_placeOf 0 = .ok (.iload_n 0, 1) := by decide +kernel
theorem dX5_placeOf_1 : decode cX5_placeOf 1 = .ok (.bipush 32, 2) := by decide +kernel
theorem dX5_placeOf_3 : decode cX5_placeOf 3 = .ok (.imul, 1) := by decide +kernel
theorem dX5_placeOf_4 : decode cX5_placeOf 4 = .ok (.iload_n 1, 1) := by decide +kernel
theorem dX5_placeOf_5 : decode cX5_placeOf 5 = .ok (.iadd, 1) := by decide +kernel
theorem dX5_placeOf_6 : decode cX5_placeOf 6 = .ok (.ireturn, 1) := by decide +kernel
theorem dX5_printRow_0 : decode cX5_printRow 0 = .ok (.aload_n 0, 1) := by decide +kernel
theorem dX5_printRow_1 : decode cX5_printRow 1 = .ok (.getfield 36, 3) := by decide +kernel
theorem dX5_printRow_4 : decode cX5_printRow 4 = .ok (.aload_n 0, 1) := by decide +kernel
theorem dX5_printRow_5 : decode cX5_printRow 5 = .ok (.getfield 12, 3) := by decide +kernel
theorem dX5_printRow_8 : decode cX5_printRow 8 = .ok (.iload_n 1, 1) := by decide +kernel
theorem dX5_printRow_9 : decode cX5_printRow 9 = .ok (.invokevirtual 72, 3) := by decide +kernel
theorem dX5_printRow_12 : decode cX5_printRow 12 = .ok (.aload_n 0, 1) := by decide +kernel
theorem dX5_printRow_13 : decode cX5_printRow 13 = .ok (.getfield 12, 3) := by decide +kernel
theorem dX5_printRow_16 : decode cX5_printRow 16 = .ok (.aload_n 0, 1) := by decide +kernel
theorem dX5_printRow_17 : decode cX5_printRow 17 = .ok (.getfield 36, 3) := by decide +kernel
theorem dX5_printRow_20 : decode cX5_printRow 20 = .ok (.aload_n 0, 1) := by decide +kernel
theorem dX5_printRow_21 : decode cX5_printRow 21 = .ok (.getfield 12, 3) := by decide +kernel
theorem dX5_printRow_24 : decode cX5_printRow 24 = .ok (.invokevirtual 241, 3) := by decide +kernel
theorem dX5_printRow_27 : decode cX5_printRow 27 = .ok (.putfield 118, 3) := by decide +kernel
theorem dX5_printRow_30 : decode cX5_printRow 30 = .ok (.aload_n 0, 1) := by decide +kernel
theorem dX5_printRow_31 : decode cX5_printRow 31 = .ok (.getfield 36, 3) := by decide +kernel
theorem dX5_printRow_34 : decode cX5_printRow 34 = .ok (.invokevirtual 244, 3) := by decide +kernel
theorem dX5_printRow_37 : decode cX5_printRow 37 = .ok (.aload_n 0, 1) := by decide +kernel
theorem dX5_printRow_38 : decode cX5_printRow 38 = .ok (.getfield 36, 3) := by decide +kernel
theorem dX5_printRow_41 : decode cX5_printRow 41 = .ok (.aload_n 0, 1) := by decide +kernel
theorem dX5_printRow_42 : decode cX5_printRow 42 = .ok (.getfield 12, 3) := by decide +kernel
theorem dX5_printRow_45 : decode cX5_printRow 45 = .ok (.iload_n 1, 1) := by decide +kernel
theorem dX5_printRow_46 : decode cX5_printRow 46 = .ok (.invokevirtual 84, 3) := by decide +kernel
theorem dX5_printRow_49 : decode cX5_printRow 49 = .ok (.return_, 1) := by decide +kernel
theorem dX5_rightIfPrinted_0 : decode cX5_rightIfPrinted 0 = .ok (.aload_n 0, 1) := by decide +kernel
theorem dX5_rightIfPrinted_1 : decode cX5_rightIfPrinted 1 = .ok (.getfield 36, 3) := by decide +kernel
theorem dX5_rightIfPrinted_4 : decode cX5_rightIfPrinted 4 = .ok (.aload_n 0, 1) := by decide +kernel
theorem dX5_rightIfPrinted_5 : decode cX5_rightIfPrinted 5 = .ok (.getfield 12, 3) := by decide +kernel
theorem dX5_rightIfPrinted_8 : decode cX5_rightIfPrinted 8 = .ok (.iload_n 1, 1) := by decide +kernel
theorem dX5_rightIfPrinted_9 : decode cX5_rightIfPrinted 9 = .ok (.invokevirtual 72, 3) := by decide +kernel
theorem dX5_rightIfPrinted_12 : decode cX5_rightIfPrinted 12 = .ok (.aload_n 0, 1) := by decide +kernel
theorem dX5_rightIfPrinted_13 : decode cX5_rightIfPrinted 13 = .ok (.getfield 36, 3) := by decide +kernel
theorem dX5_rightIfPrinted_16 : decode cX5_rightIfPrinted 16 = .ok (.iload_n 2, 1) := by decide +kernel
theorem dX5_rightIfPrinted_17 : decode cX5_rightIfPrinted 17 = .ok (.putfield 247, 3) := by decide +kernel
theorem dX5_rightIfPrinted_20 : decode cX5_rightIfPrinted 20 = .ok (.aload_n 0, 1) := by decide +kernel
theorem dX5_rightIfPrinted_21 : decode cX5_rightIfPrinted 21 = .ok (.getfield 36, 3) := by decide +kernel
theorem dX5_rightIfPrinted_24 : decode cX5_rightIfPrinted 24 = .ok (.aload_n 0, 1) := by decide +kernel
theorem dX5_rightIfPrinted_25 : decode cX5_rightIfPrinted 25 = .ok (.getfield 12, 3) := by decide +kernel
theorem dX5_rightIfPrinted_28 : decode cX5_rightIfPrinted 28 = .ok (.invokevirtual 241, 3) := by decide +kernel
theorem dX5_rightIfPrinted_31 : decode cX5_rightIfPrinted 31 = .ok (.pop, 1) := by decide +kernel
theorem dX5_rightIfPrinted_32 : decode cX5_rightIfPrinted 32 = .ok (.aload_n 0, 1) := by decide +kernel
theorem dX5_rightIfPrinted_33 : decode cX5_rightIfPrinted 33 = .ok (.getfield 36, 3) := by decide +kernel
theorem dX5_rightIfPrinted_36 : decode cX5_rightIfPrinted 36 = .ok (.invokevirtual 213, 3) := by decide +kernel
theorem dX5_rightIfPrinted_39 : decode cX5_rightIfPrinted 39 = .ok (.aload_n 0, 1) := by decide +kernel
theorem dX5_rightIfPrinted_40 : decode cX5_rightIfPrinted 40 = .ok (.getfield 36, 3) := by decide +kernel
theorem dX5_rightIfPrinted_43 : decode cX5_rightIfPrinted 43 = .ok (.iconst 4, 1) := by decide +kernel
theorem dX5_rightIfPrinted_44 : decode cX5_rightIfPrinted 44 = .ok (.invokevirtual 179, 3) := by decide +kernel
theorem dX5_rightIfPrinted_47 : decode cX5_rightIfPrinted 47 = .ok (.ireturn, 1) := by decide +kernel
theorem dX5_placesOfKind_0 : decode cX5_placesOfKind 0 = .ok (.aload_n 0, 1) := by decide +kernel
theorem dX5_placesOfKind_1 : decode cX5_placesOfKind 1 = .ok (.getfield 36, 3) := by decide +kernel
theorem dX5_placesOfKind_4 : decode cX5_placesOfKind 4 = .ok (.aload_n 0, 1) := by decide +kernel
theorem dX5_placesOfKind_5 : decode cX5_placesOfKind 5 = .ok (.getfield 12, 3) := by decide +kernel
theorem dX5_placesOfKind_8 : decode cX5_placesOfKind 8 = .ok (.iload_n 1, 1) := by decide +kernel
theorem dX5_placesOfKind_9 : decode cX5_placesOfKind 9 = .ok (.invokevirtual 145, 3) := by decide +kernel
theorem dX5_placesOfKind_12 : decode cX5_placesOfKind 12 = .ok (.aload_n 0, 1) := by decide +kernel
theorem dX5_placesOfKind_13 : decode cX5_placesOfKind 13 = .ok (.getfield 36, 3) := by decide +kernel
theorem dX5_placesOfKind_16 : decode cX5_placesOfKind 16 = .ok (.iload_n 2, 1) := by decide +kernel
theorem dX5_placesOfKind_17 : decode cX5_placesOfKind 17 = .ok (.invokevirtual 179, 3) := by decide +kernel
theorem dX5_placesOfKind_20 : decode cX5_placesOfKind 20 = .ok (.ireturn, 1) := by decide +kernel
theorem dX5_allPlacesOfKind_0 : decode cX5_allPlacesOfKind 0 = .ok (.iconst 0, 1) := by decide +kernel
theorem dX5_allPlacesOfKind_1 : decode cX5_allPlacesOfKind 1 = .ok (.istore_n 2, 1) := by decide +kernel
theorem dX5_allPlacesOfKind_2 : decode cX5_allPlacesOfKind 2 = .ok (.iconst 0, 1) := by decide +kernel
theorem dX5_allPlacesOfKind_3 : decode cX5_allPlacesOfKind 3 = .ok (.istore_n 3, 1) := by decide +kernel
theorem dX5_allPlacesOfKind_4 : decode cX5_allPlacesOfKind 4 = .ok (.iload_n 3, 1) := by decide +kernel
theorem dX5_allPlacesOfKind_5 : decode cX5_allPlacesOfKind 5 = .ok (.bipush 8, 2) := by decide +kernel
theorem dX5_allPlacesOfKind_7 : decode cX5_allPlacesOfKind 7 = .ok (.if_icmp .ge 18, 3) := by decide +kernel
theorem dX5_allPlacesOfKind_10 : decode cX5_allPlacesOfKind 10 = .ok (.iload_n 2, 1) := by decide +kernel
theorem dX5_allPlacesOfKind_11 : decode cX5_allPlacesOfKind 11 = .ok (.aload_n 0, 1) := by decide +kernel
theorem dX5_allPlacesOfKind_12 : decode cX5_allPlacesOfKind 12 = .ok (.iload_n 3, 1) := by decide +kernel
theorem dX5_allPlacesOfKind_13 : decode cX5_allPlacesOfKind 13 = .ok (.iload_n 1, 1) := by decide +kernel
theorem dX5_allPlacesOfKind_14 : decode cX5_allPlacesOfKind 14 = .ok (.invokevirtual 90, 3) := by decide +kernel
theorem dX5_allPlacesOfKind_17 : decode cX5_allPlacesOfKind 17 = .ok (.iadd, 1) := by decide +kernel
theorem dX5_allPlacesOfKind_18 : decode cX5_allPlacesOfKind 18 = .ok (.istore_n 2, 1) := by decide +kernel
theorem dX5_allPlacesOfKind_19 : decode cX5_allPlacesOfKind 19 = .ok (.iinc 3 1, 3) := by decide +kernel
theorem dX5_allPlacesOfKind_22 : decode cX5_allPlacesOfKind 22 = .ok (.goto (-18), 3) := by decide +kernel
theorem dX5_allPlacesOfKind_25 : decode cX5_allPlacesOfKind 25 = .ok (.iload_n 2, 1) := by decide +kernel
theorem dX5_allPlacesOfKind_26 : decode cX5_allPlacesOfKind 26 = .ok (.ireturn, 1) := by decide +kernel
theorem dX5_rankedAt_0 : decode cX5_rankedAt 0 = .ok (.iconst 0, 1) := by decide +kernel
theorem dX5_rankedAt_1 : decode cX5_rankedAt 1 = .ok (.istore_n 3, 1) := by decide +kernel
theorem dX5_rankedAt_2 : decode cX5_rankedAt 2 = .ok (.iload_n 3, 1) := by decide +kernel
theorem dX5_rankedAt_3 : decode cX5_rankedAt 3 = .ok (.iload_n 1, 1) := by decide +kernel
theorem dX5_rankedAt_4 : decode cX5_rankedAt 4 = .ok (.if_icmp .ge 21, 3) := by decide +kernel
theorem dX5_rankedAt_7 : decode cX5_rankedAt 7 = .ok (.aload_n 0, 1) := by decide +kernel
theorem dX5_rankedAt_8 : decode cX5_rankedAt 8 = .ok (.iload_n 3, 1) := by decide +kernel
theorem dX5_rankedAt_9 : decode cX5_rankedAt 9 = .ok (.iload_n 1, 1) := by decide +kernel
theorem dX5_rankedAt_10 : decode cX5_rankedAt 10 = .ok (.invokevirtual 250, 3) := by decide +kernel
theorem dX5_rankedAt_13 : decode cX5_rankedAt 13 = .ok (.iload_n 2, 1) := by decide +kernel
theorem dX5_rankedAt_14 : decode cX5_rankedAt 14 = .ok (.if_icmp .ne 5, 3) := by decide +kernel
theorem dX5_rankedAt_17 : decode cX5_rankedAt 17 = .ok (.iload_n 3, 1) := by decide +kernel
theorem dX5_rankedAt_18 : decode cX5_rankedAt 18 = .ok (.ireturn, 1) := by decide +kernel
theorem dX5_rankedAt_19 : decode cX5_rankedAt 19 = .ok (.iinc 3 1, 3) := by decide +kernel
theorem dX5_rankedAt_22 : decode cX5_rankedAt 22 = .ok (.goto (-20), 3) := by decide +kernel
theorem dX5_rankedAt_25 : decode cX5_rankedAt 25 = .ok (.iconst 0, 1) := by decide +kernel
theorem dX5_rankedAt_26 : decode cX5_rankedAt 26 = .ok (.ireturn, 1) := by decide +kernel
theorem dX5_rankOf_0 : decode cX5_rankOf 0 = .ok (.iconst 0, 1) := by decide +kernel
theorem dX5_rankOf_1 : decode cX5_rankOf 1 = .ok (.istore_n 3, 1) := by decide +kernel
theorem dX5_rankOf_2 : decode cX5_rankOf 2 = .ok (.iconst 0, 1) := by decide +kernel
theorem dX5_rankOf_3 : decode cX5_rankOf 3 = .ok (.istore 4, 2) := by decide +kernel
theorem dX5_rankOf_5 : decode cX5_rankOf 5 = .ok (.iload 4, 2) := by decide +kernel
theorem dX5_rankOf_7 : decode cX5_rankOf 7 = .ok (.iload_n 2, 1) := by decide +kernel
theorem dX5_rankOf_8 : decode cX5_rankOf 8 = .ok (.if_icmp .ge 50, 3) := by decide +kernel
theorem dX5_rankOf_11 : decode cX5_rankOf 11 = .ok (.aload_n 0, 1) := by decide +kernel
theorem dX5_rankOf_12 : decode cX5_rankOf 12 = .ok (.getfield 47, 3) := by decide +kernel
theorem dX5_rankOf_15 : decode cX5_rankOf 15 = .ok (.iload 4, 2) := by decide +kernel
theorem dX5_rankOf_17 : decode cX5_rankOf 17 = .ok (.iaload, 1) := by decide +kernel
theorem dX5_rankOf_18 : decode cX5_rankOf 18 = .ok (.aload_n 0, 1) := by decide +kernel
theorem dX5_rankOf_19 : decode cX5_rankOf 19 = .ok (.getfield 47, 3) := by decide +kernel
theorem dX5_rankOf_22 : decode cX5_rankOf 22 = .ok (.iload_n 1, 1) := by decide +kernel
theorem dX5_rankOf_23 : decode cX5_rankOf 23 = .ok (.iaload, 1) := by decide +kernel
theorem dX5_rankOf_24 : decode cX5_rankOf 24 = .ok (.if_icmp .gt 25, 3) := by decide +kernel
theorem dX5_rankOf_27 : decode cX5_rankOf 27 = .ok (.aload_n 0, 1) := by decide +kernel
theorem dX5_rankOf_28 : decode cX5_rankOf 28 = .ok (.getfield 47, 3) := by decide +kernel
theorem dX5_rankOf_31 : decode cX5_rankOf 31 = .ok (.iload 4, 2) := by decide +kernel
theorem dX5_rankOf_33 : decode cX5_rankOf 33 = .ok (.iaload, 1) := by decide +kernel
theorem dX5_rankOf_34 : decode cX5_rankOf 34 = .ok (.aload_n 0, 1) := by decide +kernel
theorem dX5_rankOf_35 : decode cX5_rankOf 35 = .ok (.getfield 47, 3) := by decide +kernel
theorem dX5_rankOf_38 : decode cX5_rankOf 38 = .ok (.iload_n 1, 1) := by decide +kernel
theorem dX5_rankOf_39 : decode cX5_rankOf 39 = .ok (.iaload, 1) := by decide +kernel
theorem dX5_rankOf_40 : decode cX5_rankOf 40 = .ok (.if_icmp .ne 12, 3) := by decide +kernel
theorem dX5_rankOf_43 : decode cX5_rankOf 43 = .ok (.iload 4, 2) := by decide +kernel
theorem dX5_rankOf_45 : decode cX5_rankOf 45 = .ok (.iload_n 1, 1) := by decide +kernel
theorem dX5_rankOf_46 : decode cX5_rankOf 46 = .ok (.if_icmp .ge 6, 3) := by decide +kernel
theorem dX5_rankOf_49 : decode cX5_rankOf 49 = .ok (.iinc 3 1, 3) := by decide +kernel
theorem dX5_rankOf_52 : decode cX5_rankOf 52 = .ok (.iinc 4 1, 3) := by decide +kernel
theorem dX5_rankOf_55 : decode cX5_rankOf 55 = .ok (.goto (-50), 3) := by decide +kernel
theorem dX5_rankOf_58 : decode cX5_rankOf 58 = .ok (.iload_n 3, 1) := by decide +kernel
theorem dX5_rankOf_59 : decode cX5_rankOf 59 = .ok (.ireturn, 1) := by decide +kernel
theorem dX5_isNewPicture_0 : decode cX5_isNewPicture 0 = .ok (.iconst 0, 1) := by decide +kernel
theorem dX5_isNewPicture_1 : decode cX5_isNewPicture 1 = .ok (.istore_n 2, 1) := by decide +kernel
theorem dX5_isNewPicture_2 : decode cX5_isNewPicture 2 = .ok (.iload_n 2, 1) := by decide +kernel
theorem dX5_isNewPicture_3 : decode cX5_isNewPicture 3 = .ok (.iload_n 1, 1) := by decide +kernel
theorem dX5_isNewPicture_4 : decode cX5_isNewPicture 4 = .ok (.if_icmp .ge 20, 3) := by decide +kernel
theorem dX5_isNewPicture_7 : decode cX5_isNewPicture 7 = .ok (.aload_n 0, 1) := by decide +kernel
theorem dX5_isNewPicture_8 : decode cX5_isNewPicture 8 = .ok (.iload_n 1, 1) := by decide +kernel
theorem dX5_isNewPicture_9 : decode cX5_isNewPicture 9 = .ok (.iload_n 2, 1) := by decide +kernel
theorem dX5_isNewPicture_10 : decode cX5_isNewPicture 10 = .ok (.invokevirtual 253, 3) := by decide +kernel
theorem dX5_isNewPicture_13 : decode cX5_isNewPicture 13 = .ok (.ifCond .eq 5, 3) := by decide +kernel
theorem dX5_isNewPicture_16 : decode cX5_isNewPicture 16 = .ok (.iconst 0, 1) := by decide +kernel
theorem dX5_isNewPicture_17 : decode cX5_isNewPicture 17 = .ok (.ireturn, 1) := by decide +kernel
theorem dX5_isNewPicture_18 : decode cX5_isNewPicture 18 = .ok (.iinc 2 1, 3) := by decide +kernel
theorem dX5_isNewPicture_21 : decode cX5_isNewPicture 21 = .ok (.goto (-19), 3) := by decide +kernel
theorem dX5_isNewPicture_24 : decode cX5_isNewPicture 24 = .ok (.iconst 1, 1) := by decide +kernel
theorem dX5_isNewPicture_25 : decode cX5_isNewPicture 25 = .ok (.ireturn, 1) := by decide +kernel
theorem dX5_isSameView_0 : decode cX5_isSameView 0 = .ok (.iconst 0, 1) := by decide +kernel
theorem dX5_isSameView_1 : decode cX5_isSameView 1 = .ok (.istore_n 3, 1) := by decide +kernel
theorem dX5_isSameView_2 : decode cX5_isSameView 2 = .ok (.iload_n 3, 1) := by decide +kernel
theorem dX5_isSameView_3 : decode cX5_isSameView 3 = .ok (.bipush 32, 2) := by decide +kernel
theorem dX5_isSameView_5 : decode cX5_isSameView 5 = .ok (.if_icmp .ge 34, 3) := by decide +kernel
theorem dX5_isSameView_8 : decode cX5_isSameView 8 = .ok (.aload_n 0, 1) := by decide +kernel
theorem dX5_isSameView_9 : decode cX5_isSameView 9 = .ok (.getfield 43, 3) := by decide +kernel
theorem dX5_isSameView_12 : decode cX5_isSameView 12 = .ok (.iload_n 1, 1) := by decide +kernel
theorem dX5_isSameView_13 : decode cX5_isSameView 13 = .ok (.iload_n 3, 1) := by decide +kernel
theorem dX5_isSameView_14 : decode cX5_isSameView 14 = .ok (.invokestatic 80, 3) := by decide +kernel
theorem dX5_isSameView_17 : decode cX5_isSameView 17 = .ok (.iaload, 1) := by decide +kernel
theorem dX5_isSameView_18 : decode cX5_isSameView 18 = .ok (.aload_n 0, 1) := by decide +kernel
theorem dX5_isSameView_19 : decode cX5_isSameView 19 = .ok (.getfield 43, 3) := by decide +kernel
theorem dX5_isSameView_22 : decode cX5_isSameView 22 = .ok (.iload_n 2, 1) := by decide +kernel
theorem dX5_isSameView_23 : decode cX5_isSameView 23 = .ok (.iload_n 3, 1) := by decide +kernel
theorem dX5_isSameView_24 : decode cX5_isSameView 24 = .ok (.invokestatic 80, 3) := by decide +kernel
theorem dX5_isSameView_27 : decode cX5_isSameView 27 = .ok (.iaload, 1) := by decide +kernel
theorem dX5_isSameView_28 : decode cX5_isSameView 28 = .ok (.if_icmp .eq 5, 3) := by decide +kernel
theorem dX5_isSameView_31 : decode cX5_isSameView 31 = .ok (.iconst 0, 1) := by decide +kernel
theorem dX5_isSameView_32 : decode cX5_isSameView 32 = .ok (.ireturn, 1) := by decide +kernel
theorem dX5_isSameView_33 : decode cX5_isSameView 33 = .ok (.iinc 3 1, 3) := by decide +kernel
theorem dX5_isSameView_36 : decode cX5_isSameView 36 = .ok (.goto (-34), 3) := by decide +kernel
theorem dX5_isSameView_39 : decode cX5_isSameView 39 = .ok (.iconst 1, 1) := by decide +kernel
theorem dX5_isSameView_40 : decode cX5_isSameView 40 = .ok (.ireturn, 1) := by decide +kernel
theorem dX6_init_0 : decode cX6_init 0 = .ok (.aload_n 0, 1) := by decide +kernel
theorem dX6_init_1 : decode cX6_init 1 = .ok (.invokespecial 1, 3) := by decide +kernel
theorem dX6_init_4 : decode cX6_init 4 = .ok (.aload_n 0, 1) := by decide +kernel
theorem dX6_init_5 : decode cX6_init 5 = .ok (.sipush 800, 3) := by decide +kernel
theorem dX6_init_8 : decode cX6_init 8 = .ok (.newarray .int, 2) := by decide +kernel
theorem dX6_init_10 : decode cX6_init 10 = .ok (.putfield 7, 3) := by decide +kernel
theorem dX6_init_13 : decode cX6_init 13 = .ok (.aload_n 0, 1) := by decide +kernel
theorem dX6_init_14 : decode cX6_init 14 = .ok (.sipush 800, 3) := by decide +kernel
theorem dX6_init_17 : decode cX6_init 17 = .ok (.newarray .int, 2) := by decide +kernel
theorem dX6_init_19 : decode cX6_init 19 = .ok (.putfield 13, 3) := by decide +kernel
theorem dX6_init_22 : decode cX6_init 22 = .ok (.aload_n 0, 1) := by decide +kernel
theorem dX6_init_23 : decode cX6_init 23 = .ok (.sipush 3200, 3) := by decide +kernel
theorem dX6_init_26 : decode cX6_init 26 = .ok (.newarray .int, 2) := by decide +kernel
theorem dX6_init_28 : decode cX6_init 28 = .ok (.putfield 16, 3) := by decide +kernel
theorem dX6_init_31 : decode cX6_init 31 = .ok (.aload_n 0, 1) := by decide +kernel
theorem dX6_init_32 : decode cX6_init 32 = .ok (.sipush 800, 3) := by decide +kernel
theorem dX6_init_35 : decode cX6_init 35 = .ok (.newarray .int, 2) := by decide +kernel
theorem dX6_init_37 : decode cX6_init 37 = .ok (.putfield 19, 3) := by decide +kernel
theorem dX6_init_40 : decode cX6_init 40 = .ok (.aload_n 0, 1) := by decide +kernel
theorem dX6_init_41 : decode cX6_init 41 = .ok (.bipush 80, 2) := by decide +kernel
theorem dX6_init_43 : decode cX6_init 43 = .ok (.newarray .int, 2) := by decide +kernel
theorem dX6_init_45 : decode cX6_init 45 = .ok (.putfield 22, 3) := by decide +kernel
theorem dX6_init_48 : decode cX6_init 48 = .ok (.aload_n 0, 1) := by decide +kernel
theorem dX6_init_49 : decode cX6_init 49 = .ok (.bipush 32, 2) := by decide +kernel
theorem dX6_init_51 : decode cX6_init 51 = .ok (.newarray .int, 2) := by decide +kernel
theorem dX6_init_53 : decode cX6_init 53 = .ok (.putfield 25, 3) := by decide +kernel
theorem dX6_init_56 : decode cX6_init 56 = .ok (.aload_n 0, 1) := by decide +kernel
theorem dX6_init_57 : decode cX6_init 57 = .ok (.bipush 32, 2) := by decide +kernel
theorem dX6_init_59 : decode cX6_init 59 = .ok (.newarray .int, 2) := by decide +kernel
theorem dX6_init_61 : decode cX6_init 61 = .ok (.putfield 28, 3) := by decide +kernel
theorem dX6_init_64 : decode cX6_init 64 = .ok (.aload_n 0, 1) := by decide +kernel
theorem dX6_init_65 : decode cX6_init 65 = .ok (.getfield 7, 3) := by decide +kernel
theorem dX6_init_68 : decode cX6_init 68 = .ok (.iconst 0, 1) := by decide +kernel
theorem dX6_init_69 : decode cX6_init 69 = .ok (.bipush 8, 2) := by decide +kernel
theorem dX6_init_71 : decode cX6_init 71 = .ok (.iastore, 1) := by decide +kernel
theorem dX6_init_72 : decode cX6_init 72 = .ok (.aload_n 0, 1) := by decide +kernel
theorem dX6_init_73 : decode cX6_init 73 = .ok (.getfield 7, 3) := by decide +kernel
theorem dX6_init_76 : decode cX6_init 76 = .ok (.iconst 1, 1) := by decide +kernel
theorem dX6_init_77 : decode cX6_init 77 = .ok (.iconst 4, 1) := by decide +kernel
theorem dX6_init_78 : decode cX6_init 78 = .ok (.iastore, 1) := by decide +kernel
theorem dX6_init_79 : decode cX6_init 79 = .ok (.aload_n 0, 1) := by decide +kernel
theorem dX6_init_80 : decode cX6_init 80 = .ok (.getfield 7, 3) := by decide +kernel
theorem dX6_init_83 : decode cX6_init 83 = .ok (.iconst 2, 1) := by decide +kernel
theorem dX6_init_84 : decode cX6_init 84 = .ok (.iconst 1, 1) := by decide +kernel
theorem dX6_init_85 : decode cX6_init 85 = .ok (.iastore, 1) := by decide +kernel
theorem dX6_init_86 : decode cX6_init 86 = .ok (.aload_n 0, 1) := by decide +kernel
theorem dX6_init_87 : decode cX6_init 87 = .ok (.getfield 7, 3) := by decide +kernel
theorem dX6_init_90 : decode cX6_init 90 = .ok (.iconst 4, 1) := by decide +kernel
theorem dX6_init_91 : decode cX6_init 91 = .ok (.bipush 60, 2) := by decide +kernel
theorem dX6_init_93 : decode cX6_init 93 = .ok (.iastore, 1) := by decide +kernel
theorem dX6_init_94 : decode cX6_init 94 = .ok (.aload_n 0, 1) := by decide +kernel
theorem dX6_init_95 : decode cX6_init 95 = .ok (.getfield 7, 3) := by decide +kernel
theorem dX6_init_98 : decode cX6_init 98 = .ok (.iconst 5, 1) := by decide +kernel
theorem dX6_init_99 : decode cX6_init 99 = .ok (.bipush 120, 2) := by decide +kernel
theorem dX6_init_101 : decode cX6_init 101 = .ok (.iastore, 1) := by decide +kernel
theorem dX6_init_102 : decode cX6_init 102 = .ok (.aload_n 0, 1) := by decide +kernel
theorem dX6_init_103 : decode cX6_init 103 = .ok (.getfield 7, 3) := by decide +kernel
theorem dX6_init_106 : decode cX6_init 106 = .ok (.bipush 6, 2) := by decide +kernel
theorem dX6_init_108 : decode cX6_init 108 = .ok (.iconst 1, 1) := by decide +kernel
theorem dX6_init_109 : decode cX6_init 109 = .ok (.iastore, 1) := by decide +kernel
theorem dX6_init_110 : decode cX6_init 110 = .ok (.return_, 1) := by decide +kernel
theorem dX6_in_0 : decode cX6_in 0 = .ok (.iload_n 0, 1) := by decide +kernel
theorem dX6_in_1 : decode cX6_in 1 = .ok (.iload_n 1, 1) := by decide +kernel
theorem dX6_in_2 : decode cX6_in 2 = .ok (.if_icmp .lt 12, 3) := by decide +kernel
theorem dX6_in_5 : decode cX6_in 5 = .ok (.iload_n 0, 1) := by decide +kernel
theorem dX6_in_6 : decode cX6_in 6 = .ok (.iload_n 2, 1) := by decide +kernel
theorem dX6_in_7 : decode cX6_in 7 = .ok (.if_icmp .gt 7, 3) := by decide +kernel
theorem dX6_in_10 : decode cX6_in 10 = .ok (.iconst 1, 1) := by decide +kernel
theorem dX6_in_11 : decode cX6_in 11 = .ok (.goto 4, 3) := by decide +kernel
theorem dX6_in_14 : decode cX6_in 14 = .ok (.iconst 0, 1) := by decide +kernel
theorem dX6_in_15 : decode cX6_in 15 = .ok (.ireturn, 1) := by decide +kernel
theorem dX6_greater_0 : decode cX6_greater 0 = .ok (.iload_n 0, 1) := by decide +kernel
theorem dX6_greater_1 : decode cX6_greater 1 = .ok (.iload_n 1, 1) := by decide +kernel
theorem dX6_greater_2 : decode cX6_greater 2 = .ok (.if_icmp .le 7, 3) := by decide +kernel
theorem dX6_greater_5 : decode cX6_greater 5 = .ok (.iload_n 0, 1) := by decide +kernel
theorem dX6_greater_6 : decode cX6_greater 6 = .ok (.goto 4, 3) := by decide +kernel
theorem dX6_greater_9 : decode cX6_greater 9 = .ok (.iload_n 1, 1) := by decide +kernel
theorem dX6_greater_10 : decode cX6_greater 10 = .ok (.ireturn, 1) := by decide +kernel
theorem dX6_isRow_0 : decode cX6_isRow 0 = .ok (.iload_n 0, 1) := by decide +kernel
theorem dX6_isRow_1 : decode cX6_isRow 1 = .ok (.iconst 0, 1) := by decide +kernel
theorem dX6_isRow_2 : decode cX6_isRow 2 = .ok (.bipush 7, 2) := by decide +kernel
theorem dX6_isRow_4 : decode cX6_isRow 4 = .ok (.invokestatic 31, 3) := by decide +kernel
theorem dX6_isRow_7 : decode cX6_isRow 7 = .ok (.ireturn, 1) := by decide +kernel
theorem dX6_isColumn_0 : decode cX6_isColumn 0 = .ok (.iload_n 0, 1) := by decide +kernel
theorem dX6_isColumn_1 : decode cX6_isColumn 1 = .ok (.iconst 0, 1) := by decide +kernel
theorem dX6_isColumn_2 : decode cX6_isColumn 2 = .ok (.bipush 31, 2) := by decide +kernel
theorem dX6_isColumn_4 : decode cX6_isColumn 4 = .ok (.invokestatic 31, 3) := by decide +kernel
theorem dX6_isColumn_7 : decode cX6_isColumn 7 = .ok (.ireturn, 1) := by decide +kernel
theorem dX6_place_0 : decode cX6_place 0 = .ok (.bipush 32, 2) := by decide +kernel
theorem dX6_place_2 : decode cX6_place 2 = .ok (.iload_n 0, 1) := by decide +kernel
theorem dX6_place_3 : decode cX6_place 3 = .ok (.imul, 1) := by decide +kernel
theorem dX6_place_4 : decode cX6_place 4 = .ok (.iload_n 1, 1) := by decide +kernel
theorem dX6_place_5 : decode cX6_place 5 = .ok (.iadd, 1) := by decide +kernel
theorem dX6_place_6 : decode cX6_place 6 = .ok (.ireturn, 1) := by decide +kernel
theorem dX6_planeOf_0 : decode cX6_planeOf 0 = .ok (.aload_n 0, 1) := by decide +kernel
theorem dX6_planeOf_1 : decode cX6_planeOf 1 = .ok (.getfield 7, 3) := by decide +kernel
theorem dX6_planeOf_4 : decode cX6_planeOf 4 = .ok (.bipush 32, 2) := by decide +kernel
theorem dX6_planeOf_6 : decode cX6_planeOf 6 = .ok (.iload_n 1, 1) := by decide +kernel
theorem dX6_planeOf_7 : decode cX6_planeOf 7 = .ok (.iload_n 2, 1) := by decide +kernel
theorem dX6_planeOf_8 : decode cX6_planeOf 8 = .ok (.invokestatic 35, 3) := by decide +kernel
theorem dX6_planeOf_11 : decode cX6_planeOf 11 = .ok (.iadd, 1) := by decide +kernel
theorem dX6_planeOf_12 : decode cX6_planeOf 12 = .ok (.iaload, 1) := by decide +kernel
theorem dX6_planeOf_13 : decode cX6_planeOf 13 = .ok (.ireturn, 1) := by decide +kernel
theorem dX6_dotOf_0 : decode cX6_dotOf 0 = .ok (.aload_n 0, 1) := by decide +kernel
theorem dX6_dotOf_1 : decode cX6_dotOf 1 = .ok (.getfield 7, 3) := by decide +kernel
theorem dX6_dotOf_4 : decode cX6_dotOf 4 = .ok (.sipush 288, 3) := by decide +kernel
theorem dX6_dotOf_7 : decode cX6_dotOf 7 = .ok (.iload_n 1, 1) := by decide +kernel
theorem dX6_dotOf_8 : decode cX6_dotOf 8 = .ok (.iload_n 2, 1) := by decide +kernel
theorem dX6_dotOf_9 : decode cX6_dotOf 9 = .ok (.invokestatic 35, 3) := by decide +kernel
theorem dX6_dotOf_12 : decode cX6_dotOf 12 = .ok (.iadd, 1) := by decide +kernel
theorem dX6_dotOf_13 : decode cX6_dotOf 13 = .ok (.iaload, 1) := by decide +kernel
theorem dX6_dotOf_14 : decode cX6_dotOf 14 = .ok (.ireturn, 1) := by decide +kernel
theorem dX6_putAside_0 : decode cX6_putAside 0 = .ok (.iconst 0, 1) := by decide +kernel
theorem dX6_putAside_1 : decode cX6_putAside 1 = .ok (.istore_n 1, 1) := by decide +kernel
theorem dX6_putAside_2 : decode cX6_putAside 2 = .ok (.iload_n 1, 1) := by decide +kernel
theorem dX6_putAside_3 : decode cX6_putAside 3 = .ok (.sipush 800, 3) := by decide +kernel
theorem dX6_putAside_6 : decode cX6_putAside 6 = .ok (.if_icmp .ge 21, 3) := by decide +kernel
theorem dX6_putAside_9 : decode cX6_putAside 9 = .ok (.aload_n 0, 1) := by decide +kernel
theorem dX6_putAside_10 : decode cX6_putAside 10 = .ok (.getfield 13, 3) := by decide +kernel
theorem dX6_putAside_13 : decode cX6_putAside 13 = .ok (.iload_n 1, 1) := by decide +kernel
theorem dX6_putAside_14 : decode cX6_putAside 14 = .ok (.aload_n 0, 1) := by decide +kernel
theorem dX6_putAside_15 : decode cX6_putAside 15 = .ok (.getfield 7, 3) := by decide +kernel
theorem dX6_putAside_18 : decode cX6_putAside 18 = .ok (.iload_n 1, 1) := by decide +kernel
theorem dX6_putAside_19 : decode cX6_putAside 19 = .ok (.iaload, 1) := by decide +kernel
theorem dX6_putAside_20 : decode cX6_putAside 20 = .ok (.iastore, 1) := by decide +kernel
theorem dX6_putAside_21 : decode cX6_putAside 21 = .ok (.iinc 1 1, 3) := by decide +kernel
theorem dX6_putAside_24 : decode cX6_putAside 24 = .ok (.goto (-22), 3) := by decide +kernel
theorem dX6_putAside_27 : decode cX6_putAside 27 = .ok (.return_, 1) := by decide +kernel
theorem dX6_putBack_0 : decode cX6_putBack 0 = .ok (.iconst 0, 1) := by decide +kernel
theorem dX6_putBack_1 : decode cX6_putBack 1 = .ok (.istore_n 1, 1) := by decide +kernel
theorem dX6_putBack_2 : decode cX6_putBack 2 = .ok (.iload_n 1, 1) := by decide +kernel
theorem dX6_putBack_3 : decode cX6_putBack 3 = .ok (.sipush 800, 3) := by decide +kernel
theorem dX6_putBack_6 : decode cX6_putBack 6 = .ok (.if_icmp .ge 21, 3) := by decide +kernel
theorem dX6_putBack_9 : decode cX6_putBack 9 = .ok (.aload_n 0, 1) := by decide +kernel
theorem dX6_putBack_10 : decode cX6_putBack 10 = .ok (.getfield 7, 3) := by decide +kernel
theorem dX6_putBack_13 : decode cX6_putBack 13 = .ok (.iload_n 1, 1) := by decide +kernel
theorem dX6_putBack_14 : decode cX6_putBack 14 = .ok (.aload_n 0, 1) := by decide +kernel
theorem dX6_putBack_15 : decode cX6_putBack 15 = .ok (.getfield 13, 3) := by decide +kernel
theorem dX6_putBack_18 : decode cX6_putBack 18 = .ok (.iload_n 1, 1) := by decide +kernel
theorem dX6_putBack_19 : decode cX6_putBack 19 = .ok (.iaload, 1) := by decide +kernel
theorem dX6_putBack_20 : decode cX6_putBack 20 = .ok (.iastore, 1) := by decide +kernel
theorem dX6_putBack_21 : decode cX6_putBack 21 = .ok (.iinc 1 1, 3) := by decide +kernel
theorem dX6_putBack_24 : decode cX6_putBack 24 = .ok (.goto (-22), 3) := by decide +kernel
theorem dX6_putBack_27 : decode cX6_putBack 27 = .ok (.return_, 1) := by decide +kernel
theorem dX6_records_0 : decode cX6_records 0 = .ok (.aload_n 0, 1) := by decide +kernel
theorem dX6_records_1 : decode cX6_records 1 = .ok (.getfield 39, 3) := by decide +kernel
theorem dX6_records_4 : decode cX6_records 4 = .ok (.iconst 4, 1) := by decide +kernel
theorem dX6_records_5 : decode cX6_records 5 = .ok (.if_icmp .ne 44, 3) := by decide +kernel
theorem dX6_records_8 : decode cX6_records 8 = .ok (.iconst 0, 1) := by decide +kernel
theorem dX6_records_9 : decode cX6_records 9 = .ok (.istore_n 1, 1) := by decide +kernel
theorem dX6_records_10 : decode cX6_records 10 = .ok (.iload_n 1, 1) := by decide +kernel
theorem dX6_records_11 : decode cX6_records 11 = .ok (.sipush 2400, 3) := by decide +kernel
theorem dX6_records_14 : decode cX6_records 14 = .ok (.if_icmp .ge 25, 3) := by decide +kernel
theorem dX6_records_17 : decode cX6_records 17 = .ok (.aload_n 0, 1) := by decide +kernel
theorem dX6_records_18 : decode cX6_records 18 = .ok (.getfield 16, 3) := by decide +kernel
theorem dX6_records_21 : decode cX6_records 21 = .ok (.iload_n 1, 1) := by decide +kernel
theorem dX6_records_22 : decode cX6_records 22 = .ok (.aload_n 0, 1) := by decide +kernel
theorem dX6_records_23 : decode cX6_records 23 = .ok (.getfield 16, 3) := by decide +kernel
theorem dX6_records_26 : decode cX6_records 26 = .ok (.sipush 800, 3) := by decide +kernel
theorem dX6_records_29 : decode cX6_records 29 = .ok (.iload_n 1, 1) := by decide +kernel
theorem dX6_records_30 : decode cX6_records 30 = .ok (.iadd, 1) := by decide +kernel
theorem dX6_records_31 : decode cX6_records 31 = .ok (.iaload, 1) := by decide +kernel
theorem dX6_records_32 : decode cX6_records 32 = .ok (.iastore, 1) := by decide +kernel
theorem dX6_records_33 : decode cX6_records 33 = .ok (.iinc 1 1, 3) := by decide +kernel
theorem dX6_records_36 : decode cX6_records 36 = .ok (.goto (-26), 3) := by decide +kernel
theorem dX6_records_39 : decode cX6_records 39 = .ok (.aload_n 0, 1) := by decide +kernel
theorem dX6_records_40 : decode cX6_records 40 = .ok (.dup, 1) := by decide +kernel
theorem dX6_records_41 : decode cX6_records 41 = .ok (.getfield 39, 3) := by decide +kernel
theorem dX6_records_44 : decode cX6_records 44 = .ok (.iconst 1, 1) := by decide +kernel
theorem dX6_records_45 : decode cX6_records 45 = .ok (.isub, 1) := by decide +kernel
theorem dX6_records_46 : decode cX6_records 46 = .ok (.putfield 39, 3) := by decide +kernel
theorem dX6_records_49 : decode cX6_records 49 = .ok (.iconst 0, 1) := by decide +kernel
theorem dX6_records_50 : decode cX6_records 50 = .ok (.istore_n 1, 1) := by decide +kernel
theorem dX6_records_51 : decode cX6_records 51 = .ok (.iload_n 1, 1) := by decide +kernel
theorem dX6_records_52 : decode cX6_records 52 = .ok (.sipush 800, 3) := by decide +kernel
theorem dX6_records_55 : decode cX6_records 55 = .ok (.if_icmp .ge 30, 3) := by decide +kernel
theorem dX6_records_58 : decode cX6_records 58 = .ok (.aload_n 0, 1) := by decide +kernel
theorem dX6_records_59 : decode cX6_records 59 = .ok (.getfield 16, 3) := by decide +kernel
theorem dX6_records_62 : decode cX6_records 62 = .ok (.sipush 800, 3) := by decide +kernel
theorem dX6_records_65 : decode cX6_records 65 = .ok (.aload_n 0, 1) := by decide +kernel
theorem dX6_records_66 : decode cX6_records 66 = .ok (.getfield 39, 3) := by decide +kernel
theorem dX6_records_69 : decode cX6_records 69 = .ok (.imul, 1) := by decide +kernel
theorem dX6_records_70 : decode cX6_records 70 = .ok (.iload_n 1, 1) := by decide +kernel
theorem dX6_records_71 : decode cX6_records 71 = .ok (.iadd, 1) := by decide +kernel
theorem dX6_records_72 : decode cX6_records 72 = .ok (.aload_n 0, 1) := by decide +kernel
theorem dX6_records_73 : decode cX6_records 73 = .ok (.getfield 7, 3) := by decide +kernel
theorem dX6_records_76 : decode cX6_records 76 = .ok (.iload_n 1, 1) := by decide +kernel
theorem dX6_records_77 : decode cX6_records 77 = .ok (.iaload, 1) := by decide +kernel
theorem dX6_records_78 : decode cX6_records 78 = .ok (.iastore, 1) := by decide +kernel
theorem dX6_records_79 : decode cX6_records 79 = .ok (.iinc 1 1, 3) := by decide +kernel
theorem dX6_records_82 : decode cX6_records 82 = .ok (.goto (-31), 3) := by decide +kernel
theorem dX6_records_85 : decode cX6_records 85 = .ok (.aload_n 0, 1) := by decide +kernel
theorem dX6_records_86 : decode cX6_records 86 = .ok (.dup, 1) := by decide +kernel
theorem dX6_records_87 : decode cX6_records 87 = .ok (.getfield 39, 3) := by decide +kernel
theorem dX6_records_90 : decode cX6_records 90 = .ok (.iconst 1, 1) := by decide +kernel
theorem dX6_records_91 : decode cX6_records 91 = .ok (.iadd, 1) := by decide +kernel
theorem dX6_records_92 : decode cX6_records 92 = .ok (.putfield 39, 3) := by decide +kernel
theorem dX6_records_95 : decode cX6_records 95 = .ok (.return_, 1) := by decide +kernel
theorem dX6_boundTo_0 : decode cX6_boundTo 0 = .ok (.iload_n 2, 1) := by decide +kernel
theorem dX6_boundTo_1 : decode cX6_boundTo 1 = .ok (.aload_n 0, 1) := by decide +kernel
theorem dX6_boundTo_2 : decode cX6_boundTo 2 = .ok (.getfield 7, 3) := by decide +kernel
theorem dX6_boundTo_5 : decode cX6_boundTo 5 = .ok (.iconst 0, 1) := by decide +kernel
theorem dX6_boundTo_6 : decode cX6_boundTo 6 = .ok (.iaload, 1) := by decide +kernel
theorem dX6_boundTo_7 : decode cX6_boundTo 7 = .ok (.isub, 1) := by decide +kernel
theorem dX6_boundTo_8 : decode cX6_boundTo 8 = .ok (.aload_n 0, 1) := by decide +kernel
theorem dX6_boundTo_9 : decode cX6_boundTo 9 = .ok (.iload_n 1, 1) := by decide +kernel
theorem dX6_boundTo_10 : decode cX6_boundTo 10 = .ok (.iload_n 2, 1) := by decide +kernel
theorem dX6_boundTo_11 : decode cX6_boundTo 11 = .ok (.invokevirtual 43, 3) := by decide +kernel
theorem dX6_boundTo_14 : decode cX6_boundTo 14 = .ok (.iadd, 1) := by decide +kernel
theorem dX6_boundTo_15 : decode cX6_boundTo 15 = .ok (.istore_n 3, 1) := by decide +kernel
theorem dX6_boundTo_16 : decode cX6_boundTo 16 = .ok (.iload_n 3, 1) := by decide +kernel
theorem dX6_boundTo_17 : decode cX6_boundTo 17 = .ok (.ifCond .ge 7, 3) := by decide +kernel
theorem dX6_boundTo_20 : decode cX6_boundTo 20 = .ok (.iconst (-1), 1) := by decide +kernel
theorem dX6_boundTo_21 : decode cX6_boundTo 21 = .ok (.goto 4, 3) := by decide +kernel
theorem dX6_boundTo_24 : decode cX6_boundTo 24 = .ok (.iload_n 3, 1) := by decide +kernel
theorem dX6_boundTo_25 : decode cX6_boundTo 25 = .ok (.ireturn, 1) := by decide +kernel
theorem dX6_manyBoundTo_0 : decode cX6_manyBoundTo 0 = .ok (.iconst 0, 1) := by decide +kernel
theorem dX6_manyBoundTo_1 : decode cX6_manyBoundTo 1 = .ok (.istore_n 3, 1) := by decide +kernel
theorem dX6_manyBoundTo_2 : decode cX6_manyBoundTo 2 = .ok (.iload_n 2, 1) := by decide +kernel
theorem dX6_manyBoundTo_3 : decode cX6_manyBoundTo 3 = .ok (.iconst 1, 1) := by decide +kernel
theorem dX6_manyBoundTo_4 : decode cX6_manyBoundTo 4 = .ok (.iadd, 1) := by decide +kernel
theorem dX6_manyBoundTo_5 : decode cX6_manyBoundTo 5 = .ok (.istore 4, 2) := by decide +kernel
theorem dX6_manyBoundTo_7 : decode cX6_manyBoundTo 7 = .ok (.iload 4, 2) := by decide +kernel
theorem dX6_manyBoundTo_9 : decode cX6_manyBoundTo 9 = .ok (.bipush 32, 2) := by decide +kernel
theorem dX6_manyBoundTo_11 : decode cX6_manyBoundTo 11 = .ok (.if_icmp .ge 28, 3) := by decide +kernel
theorem dX6_manyBoundTo_14 : decode cX6_manyBoundTo 14 = .ok (.iload_n 3, 1) := by decide +kernel
theorem dX6_manyBoundTo_15 : decode cX6_manyBoundTo 15 = .ok (.aload_n 0, 1) := by decide +kernel
theorem dX6_manyBoundTo_16 : decode cX6_manyBoundTo 16 = .ok (.iload_n 1, 1) := by decide +kernel
theorem dX6_manyBoundTo_17 : decode cX6_manyBoundTo 17 = .ok (.iload 4, 2) := by decide +kernel
theorem dX6_manyBoundTo_19 : decode cX6_manyBoundTo 19 = .ok (.invokevirtual 46, 3) := by decide +kernel
theorem dX6_manyBoundTo_22 : decode cX6_manyBoundTo 22 = .ok (.iload_n 2, 1) := by decide +kernel
theorem dX6_manyBoundTo_23 : decode cX6_manyBoundTo 23 = .ok (.if_icmp .ne 7, 3) := by decide +kernel
theorem dX6_manyBoundTo_26 : decode cX6_manyBoundTo 26 = .ok (.iconst 1, 1) := by decide +kernel
theorem dX6_manyBoundTo_27 : decode cX6_manyBoundTo 27 = .ok (.goto 4, 3) := by decide +kernel
theorem dX6_manyBoundTo_30 : decode cX6_manyBoundTo 30 = .ok (.iconst 0, 1) := by decide +kernel
theorem dX6_manyBoundTo_31 : decode cX6_manyBoundTo 31 = .ok (.iadd, 1) := by decide +kernel
theorem dX6_manyBoundTo_32 : decode cX6_manyBoundTo 32 = .ok (.istore_n 3, 1) := by decide +kernel
theorem dX6_manyBoundTo_33 : decode cX6_manyBoundTo 33 = .ok (.iinc 4 1, 3) := by decide +kernel
theorem dX6_manyBoundTo_36 : decode cX6_manyBoundTo 36 = .ok (.goto (-29), 3) := by decide +kernel
theorem dX6_manyBoundTo_39 : decode cX6_manyBoundTo 39 = .ok (.iload_n 3, 1) := by decide +kernel
theorem dX6_manyBoundTo_40 : decode cX6_manyBoundTo 40 = .ok (.ireturn, 1) := by decide +kernel
theorem dX6_freeOf_0 : decode cX6_freeOf 0 = .ok (.iload_n 2, 1) := by decide +kernel
theorem dX6_freeOf_1 : decode cX6_freeOf 1 = .ok (.istore_n 3, 1) := by decide +kernel
theorem dX6_freeOf_2 : decode cX6_freeOf 2 = .ok (.aload_n 0, 1) := by decide +kernel
theorem dX6_freeOf_3 : decode cX6_freeOf 3 = .ok (.iload_n 1, 1) := by decide +kernel
theorem dX6_freeOf_4 : decode cX6_freeOf 4 = .ok (.iload_n 3, 1) := by decide +kernel
theorem dX6_freeOf_5 : decode cX6_freeOf 5 = .ok (.invokevirtual 46, 3) := by decide +kernel
theorem dX6_freeOf_8 : decode cX6_freeOf 8 = .ok (.iconst (-1), 1) := by decide +kernel
theorem dX6_freeOf_9 : decode cX6_freeOf 9 = .ok (.if_icmp .eq 13, 3) := by decide +kernel
theorem dX6_freeOf_12 : decode cX6_freeOf 12 = .ok (.aload_n 0, 1) := by decide +kernel
theorem dX6_freeOf_13 : decode cX6_freeOf 13 = .ok (.iload_n 1, 1) := by decide +kernel
theorem dX6_freeOf_14 : decode cX6_freeOf 14 = .ok (.iload_n 3, 1) := by decide +kernel
theorem dX6_freeOf_15 : decode cX6_freeOf 15 = .ok (.invokevirtual 46, 3) := by decide +kernel
theorem dX6_freeOf_18 : decode cX6_freeOf 18 = .ok (.istore_n 3, 1) := by decide +kernel
theorem dX6_freeOf_19 : decode cX6_freeOf 19 = .ok (.goto (-17), 3) := by decide +kernel
theorem dX6_freeOf_22 : decode cX6_freeOf 22 = .ok (.iload_n 3, 1) := by decide +kernel
theorem dX6_freeOf_23 : decode cX6_freeOf 23 = .ok (.ireturn, 1) := by decide +kernel
theorem dX6_chain_0 : decode cX6_chain 0 = .ok (.iconst 0, 1) := by decide +kernel
theorem dX6_chain_1 : decode cX6_chain 1 = .ok (.istore_n 3, 1) := by decide +kernel
theorem dX6_chain_2 : decode cX6_chain 2 = .ok (.iconst 0, 1) := by decide +kernel
theorem dX6_chain_3 : decode cX6_chain 3 = .ok (.istore 4, 2) := by decide +kernel
theorem dX6_chain_5 : decode cX6_chain 5 = .ok (.iload 4, 2) := by decide +kernel
theorem dX6_chain_7 : decode cX6_chain 7 = .ok (.bipush 32, 2) := by decide +kernel
theorem dX6_chain_9 : decode cX6_chain 9 = .ok (.if_icmp .ge 33, 3) := by decide +kernel
theorem dX6_chain_12 : decode cX6_chain 12 = .ok (.iload_n 3, 1) := by decide +kernel
theorem dX6_chain_13 : decode cX6_chain 13 = .ok (.aload_n 0, 1) := by decide +kernel
theorem dX6_chain_14 : decode cX6_chain 14 = .ok (.iload_n 1, 1) := by decide +kernel
theorem dX6_chain_15 : decode cX6_chain 15 = .ok (.iload 4, 2) := by decide +kernel
theorem dX6_chain_17 : decode cX6_chain 17 = .ok (.invokevirtual 49, 3) := by decide +kernel
theorem dX6_chain_20 : decode cX6_chain 20 = .ok (.aload_n 0, 1) := by decide +kernel
theorem dX6_chain_21 : decode cX6_chain 21 = .ok (.iload_n 1, 1) := by decide +kernel
theorem dX6_chain_22 : decode cX6_chain 22 = .ok (.iload_n 2, 1) := by decide +kernel
theorem dX6_chain_23 : decode cX6_chain 23 = .ok (.invokevirtual 49, 3) := by decide +kernel
theorem dX6_chain_26 : decode cX6_chain 26 = .ok (.if_icmp .ne 7, 3) := by decide +kernel
theorem dX6_chain_29 : decode cX6_chain 29 = .ok (.iconst 1, 1) := by decide +kernel
theorem dX6_chain_30 : decode cX6_chain 30 = .ok (.goto 4, 3) := by decide +kernel
theorem dX6_chain_33 : decode cX6_chain 33 = .ok (.iconst 0, 1) := by decide +kernel
theorem dX6_chain_34 : decode cX6_chain 34 = .ok (.iadd, 1) := by decide +kernel
theorem dX6_chain_35 : decode cX6_chain 35 = .ok (.istore_n 3, 1) := by decide +kernel
theorem dX6_chain_36 : decode cX6_chain 36 = .ok (.iinc 4 1, 3) := by decide +kernel
theorem dX6_chain_39 : decode cX6_chain 39 = .ok (.goto (-34), 3) := by decide +kernel
theorem dX6_chain_42 : decode cX6_chain 42 = .ok (.iload_n 3, 1) := by decide +kernel
theorem dX6_chain_43 : decode cX6_chain 43 = .ok (.ireturn, 1) := by decide +kernel
theorem dX6_doesFit_0 : decode cX6_doesFit 0 = .ok (.aload_n 0, 1) := by decide +kernel
theorem dX6_doesFit_1 : decode cX6_doesFit 1 = .ok (.getfield 7, 3) := by decide +kernel
theorem dX6_doesFit_4 : decode cX6_doesFit 4 = .ok (.iconst 0, 1) := by decide +kernel
theorem dX6_doesFit_5 : decode cX6_doesFit 5 = .ok (.iaload, 1) := by decide +kernel
theorem dX6_doesFit_6 : decode cX6_doesFit 6 = .ok (.iload_n 3, 1) := by decide +kernel
theorem dX6_doesFit_7 : decode cX6_doesFit 7 = .ok (.isub, 1) := by decide +kernel
theorem dX6_doesFit_8 : decode cX6_doesFit 8 = .ok (.istore 4, 2) := by decide +kernel
theorem dX6_doesFit_10 : decode cX6_doesFit 10 = .ok (.iload_n 2, 1) := by decide +kernel
theorem dX6_doesFit_11 : decode cX6_doesFit 11 = .ok (.iload 4, 2) := by decide +kernel
theorem dX6_doesFit_13 : decode cX6_doesFit 13 = .ok (.if_icmp .ge 5, 3) := by decide +kernel
theorem dX6_doesFit_16 : decode cX6_doesFit 16 = .ok (.iconst 0, 1) := by decide +kernel
theorem dX6_doesFit_17 : decode cX6_doesFit 17 = .ok (.ireturn, 1) := by decide +kernel
theorem dX6_doesFit_18 : decode cX6_doesFit 18 = .ok (.iconst 1, 1) := by decide +kernel
theorem dX6_doesFit_19 : decode cX6_doesFit 19 = .ok (.istore 5, 2) := by decide +kernel
theorem dX6_doesFit_21 : decode cX6_doesFit 21 = .ok (.iload_n 2, 1) := by decide +kernel
theorem dX6_doesFit_22 : decode cX6_doesFit 22 = .ok (.aload_n 0, 1) := by decide +kernel
theorem dX6_doesFit_23 : decode cX6_doesFit 23 = .ok (.getfield 7, 3) := by decide +kernel
theorem dX6_doesFit_26 : decode cX6_doesFit 26 = .ok (.iconst 2, 1) := by decide +kernel
theorem dX6_doesFit_27 : decode cX6_doesFit 27 = .ok (.iaload, 1) := by decide +kernel
theorem dX6_doesFit_28 : decode cX6_doesFit 28 = .ok (.isub, 1) := by decide +kernel
theorem dX6_doesFit_29 : decode cX6_doesFit 29 = .ok (.istore 6, 2) := by decide +kernel
theorem dX6_doesFit_31 : decode cX6_doesFit 31 = .ok (.iload 6, 2) := by decide +kernel
theorem dX6_doesFit_33 : decode cX6_doesFit 33 = .ok (.iload_n 2, 1) := by decide +kernel
theorem dX6_doesFit_34 : decode cX6_doesFit 34 = .ok (.aload_n 0, 1) := by decide +kernel
theorem dX6_doesFit_35 : decode cX6_doesFit 35 = .ok (.getfield 7, 3) := by decide +kernel
theorem dX6_doesFit_38 : decode cX6_doesFit 38 = .ok (.iconst 2, 1) := by decide +kernel
theorem dX6_doesFit_39 : decode cX6_doesFit 39 = .ok (.iaload, 1) := by decide +kernel
theorem dX6_doesFit_40 : decode cX6_doesFit 40 = .ok (.iadd, 1) := by decide +kernel
theorem dX6_doesFit_41 : decode cX6_doesFit 41 = .ok (.if_icmp .gt 72, 3) := by decide +kernel
theorem dX6_doesFit_44 : decode cX6_doesFit 44 = .ok (.iload 6, 2) := by decide +kernel
theorem dX6_doesFit_46 : decode cX6_doesFit 46 = .ok (.invokestatic 52, 3) := by decide +kernel
theorem dX6_doesFit_49 : decode cX6_doesFit 49 = .ok (.ifCond .eq 18, 3) := by decide +kernel
theorem dX6_doesFit_52 : decode cX6_doesFit 52 = .ok (.iload 6, 2) := by decide +kernel
theorem dX6_doesFit_54 : decode cX6_doesFit 54 = .ok (.iload 4, 2) := by decide +kernel
theorem dX6_doesFit_56 : decode cX6_doesFit 56 = .ok (.isub, 1) := by decide +kernel
theorem dX6_doesFit_57 : decode cX6_doesFit 57 = .ok (.invokestatic 52, 3) := by decide +kernel
theorem dX6_doesFit_60 : decode cX6_doesFit 60 = .ok (.ifCond .eq 7, 3) := by decide +kernel
theorem dX6_doesFit_63 : decode cX6_doesFit 63 = .ok (.iconst 1, 1) := by decide +kernel
theorem dX6_doesFit_64 : decode cX6_doesFit 64 = .ok (.goto 4, 3) := by decide +kernel
theorem dX6_doesFit_67 : decode cX6_doesFit 67 = .ok (.iconst 0, 1) := by decide +kernel
theorem dX6_doesFit_68 : decode cX6_doesFit 68 = .ok (.istore 7, 2) := by decide +kernel
theorem dX6_doesFit_70 : decode cX6_doesFit 70 = .ok (.iload 5, 2) := by decide +kernel
theorem dX6_doesFit_72 : decode cX6_doesFit 72 = .ok (.ifCond .eq 32, 3) := by decide +kernel
theorem dX6_doesFit_75 : decode cX6_doesFit 75 = .ok (.iload 7, 2) := by decide +kernel
theorem dX6_doesFit_77 : decode cX6_doesFit 77 = .ok (.ifCond .eq 23, 3) := by decide +kernel
theorem dX6_doesFit_80 : decode cX6_doesFit 80 = .ok (.aload_n 0, 1) := by decide +kernel
theorem dX6_doesFit_81 : decode cX6_doesFit 81 = .ok (.iload_n 1, 1) := by decide +kernel
theorem dX6_doesFit_82 : decode cX6_doesFit 82 = .ok (.iload 6, 2) := by decide +kernel
theorem dX6_doesFit_84 : decode cX6_doesFit 84 = .ok (.invokevirtual 56, 3) := by decide +kernel
theorem dX6_doesFit_87 : decode cX6_doesFit 87 = .ok (.aload_n 0, 1) := by decide +kernel
theorem dX6_doesFit_88 : decode cX6_doesFit 88 = .ok (.iload_n 1, 1) := by decide +kernel
theorem dX6_doesFit_89 : decode cX6_doesFit 89 = .ok (.iload 6, 2) := by decide +kernel
theorem dX6_doesFit_91 : decode cX6_doesFit 91 = .ok (.iload 4, 2) := by decide +kernel
theorem dX6_doesFit_93 : decode cX6_doesFit 93 = .ok (.isub, 1) := by decide +kernel
theorem dX6_doesFit_94 : decode cX6_doesFit 94 = .ok (.invokevirtual 56, 3) := by decide +kernel
theorem dX6_doesFit_97 : decode cX6_doesFit 97 = .ok (.if_icmp .ne 7, 3) := by decide +kernel
theorem dX6_doesFit_100 : decode cX6_doesFit 100 = .ok (.iconst 1, 1) := by decide +kernel
theorem dX6_doesFit_101 : decode cX6_doesFit 101 = .ok (.goto 4, 3) := by decide +kernel
theorem dX6_doesFit_104 : decode cX6_doesFit 104 = .ok (.iconst 0, 1) := by decide +kernel
theorem dX6_doesFit_105 : decode cX6_doesFit 105 = .ok (.istore 5, 2) := by decide +kernel
end
section
/-! the instructions, decoded -/
theorem dX6_doesFit_107 : decode cX6_doesFit 107 = .ok (.iinc 6 1, 3) := by decide +kernel
theorem dX6_doesFit_110 : decode cX6_doesFit 110 = .ok (.goto (-79), 3) := by decide +kernel
theorem dX6_doesFit_113 : decode cX6_doesFit 113 = .ok (.iload 5, 2) := by decide +kernel
theorem dX6_doesFit_115 : decode cX6_doesFit 115 = .ok (.ireturn, 1) := by decide +kernel
theorem dX6_nearest_0 : decode cX6_nearest 0 = .ok (.iconst (-1), 1) := by decide +kernel
theorem dX6_nearest_1 : decode cX6_nearest 1 = .ok (.istore 4, 2) := by decide +kernel
theorem dX6_nearest_3 : decode cX6_nearest 3 = .ok (.iconst 5, 1) := by decide +kernel
theorem dX6_nearest_4 : decode cX6_nearest 4 = .ok (.istore 5, 2) := by decide +kernel
theorem dX6_nearest_6 : decode cX6_nearest 6 = .ok (.iconst 0, 1) := by decide +kernel
theorem dX6_nearest_7 : decode cX6_nearest 7 = .ok (.istore 6, 2) := by decide +kernel
theorem dX6_nearest_9 : decode cX6_nearest 9 = .ok (.iload 6, 2) := by decide +kernel
theorem dX6_nearest_11 : decode cX6_nearest 11 = .ok (.iconst 5, 1) := by decide +kernel
theorem dX6_nearest_12 : decode cX6_nearest 12 = .ok (.if_icmp .ge 54, 3) := by decide +kernel
theorem dX6_nearest_15 : decode cX6_nearest 15 = .ok (.iload 6, 2) := by decide +kernel
theorem dX6_nearest_17 : decode cX6_nearest 17 = .ok (.iload_n 3, 1) := by decide +kernel
theorem dX6_nearest_18 : decode cX6_nearest 18 = .ok (.if_icmp .ge 10, 3) := by decide +kernel
theorem dX6_nearest_21 : decode cX6_nearest 21 = .ok (.iload_n 3, 1) := by decide +kernel
theorem dX6_nearest_22 : decode cX6_nearest 22 = .ok (.iload 6, 2) := by decide +kernel
theorem dX6_nearest_24 : decode cX6_nearest 24 = .ok (.isub, 1) := by decide +kernel
theorem dX6_nearest_25 : decode cX6_nearest 25 = .ok (.goto 7, 3) := by decide +kernel
theorem dX6_nearest_28 : decode cX6_nearest 28 = .ok (.iload 6, 2) := by decide +kernel
theorem dX6_nearest_30 : decode cX6_nearest 30 = .ok (.iload_n 3, 1) := by decide +kernel
theorem dX6_nearest_31 : decode cX6_nearest 31 = .ok (.isub, 1) := by decide +kernel
theorem dX6_nearest_32 : decode cX6_nearest 32 = .ok (.istore 7, 2) := by decide +kernel
theorem dX6_nearest_34 : decode cX6_nearest 34 = .ok (.iload 7, 2) := by decide +kernel
theorem dX6_nearest_36 : decode cX6_nearest 36 = .ok (.iload 5, 2) := by decide +kernel
theorem dX6_nearest_38 : decode cX6_nearest 38 = .ok (.if_icmp .gt 22, 3) := by decide +kernel
theorem dX6_nearest_41 : decode cX6_nearest 41 = .ok (.aload_n 0, 1) := by decide +kernel
theorem dX6_nearest_42 : decode cX6_nearest 42 = .ok (.iload_n 1, 1) := by decide +kernel
theorem dX6_nearest_43 : decode cX6_nearest 43 = .ok (.iload_n 2, 1) := by decide +kernel
theorem dX6_nearest_44 : decode cX6_nearest 44 = .ok (.iload 6, 2) := by decide +kernel
theorem dX6_nearest_46 : decode cX6_nearest 46 = .ok (.invokevirtual 59, 3) := by decide +kernel
theorem dX6_nearest_49 : decode cX6_nearest 49 = .ok (.ifCond .eq 11, 3) := by decide +kernel
theorem dX6_nearest_52 : decode cX6_nearest 52 = .ok (.iload 6, 2) := by decide +kernel
theorem dX6_nearest_54 : decode cX6_nearest 54 = .ok (.istore 4, 2) := by decide +kernel
theorem dX6_nearest_56 : decode cX6_nearest 56 = .ok (.iload 7, 2) := by decide +kernel
theorem dX6_nearest_58 : decode cX6_nearest 58 = .ok (.istore 5, 2) := by decide +kernel
theorem dX6_nearest_60 : decode cX6_nearest 60 = .ok (.iinc 6 1, 3) := by decide +kernel
theorem dX6_nearest_63 : decode cX6_nearest 63 = .ok (.goto (-54), 3) := by decide +kernel
theorem dX6_nearest_66 : decode cX6_nearest 66 = .ok (.iload 4, 2) := by decide +kernel
theorem dX6_nearest_68 : decode cX6_nearest 68 = .ok (.ireturn, 1) := by decide +kernel
theorem dX6_looks_0 : decode cX6_looks 0 = .ok (.iconst 0, 1) := by decide +kernel
theorem dX6_looks_1 : decode cX6_looks 1 = .ok (.istore_n 2, 1) := by decide +kernel
theorem dX6_looks_2 : decode cX6_looks 2 = .ok (.iconst 0, 1) := by decide +kernel
theorem dX6_looks_3 : decode cX6_looks 3 = .ok (.istore_n 3, 1) := by decide +kernel
theorem dX6_looks_4 : decode cX6_looks 4 = .ok (.iload_n 3, 1) := by decide +kernel
theorem dX6_looks_5 : decode cX6_looks 5 = .ok (.bipush 32, 2) := by decide +kernel
theorem dX6_looks_7 : decode cX6_looks 7 = .ok (.if_icmp .ge 66, 3) := by decide +kernel
theorem dX6_looks_10 : decode cX6_looks 10 = .ok (.aload_n 0, 1) := by decide +kernel
theorem dX6_looks_11 : decode cX6_looks 11 = .ok (.iload_n 1, 1) := by decide +kernel
theorem dX6_looks_12 : decode cX6_looks 12 = .ok (.iload_n 3, 1) := by decide +kernel
theorem dX6_looks_13 : decode cX6_looks 13 = .ok (.iload_n 2, 1) := by decide +kernel
theorem dX6_looks_14 : decode cX6_looks 14 = .ok (.invokevirtual 62, 3) := by decide +kernel
theorem dX6_looks_17 : decode cX6_looks 17 = .ok (.istore 4, 2) := by decide +kernel
theorem dX6_looks_19 : decode cX6_looks 19 = .ok (.iload 4, 2) := by decide +kernel
theorem dX6_looks_21 : decode cX6_looks 21 = .ok (.iconst (-1), 1) := by decide +kernel
theorem dX6_looks_22 : decode cX6_looks 22 = .ok (.if_icmp .ne 7, 3) := by decide +kernel
theorem dX6_looks_25 : decode cX6_looks 25 = .ok (.iload_n 2, 1) := by decide +kernel
theorem dX6_looks_26 : decode cX6_looks 26 = .ok (.goto 5, 3) := by decide +kernel
theorem dX6_looks_29 : decode cX6_looks 29 = .ok (.iload 4, 2) := by decide +kernel
theorem dX6_looks_31 : decode cX6_looks 31 = .ok (.istore_n 2, 1) := by decide +kernel
theorem dX6_looks_32 : decode cX6_looks 32 = .ok (.aload_n 0, 1) := by decide +kernel
theorem dX6_looks_33 : decode cX6_looks 33 = .ok (.getfield 25, 3) := by decide +kernel
theorem dX6_looks_36 : decode cX6_looks 36 = .ok (.iload_n 3, 1) := by decide +kernel
theorem dX6_looks_37 : decode cX6_looks 37 = .ok (.iload 4, 2) := by decide +kernel
theorem dX6_looks_39 : decode cX6_looks 39 = .ok (.iconst (-1), 1) := by decide +kernel
theorem dX6_looks_40 : decode cX6_looks 40 = .ok (.if_icmp .ne 7, 3) := by decide +kernel
theorem dX6_looks_43 : decode cX6_looks 43 = .ok (.iconst (-1), 1) := by decide +kernel
theorem dX6_looks_44 : decode cX6_looks 44 = .ok (.goto 22, 3) := by decide +kernel
theorem dX6_looks_47 : decode cX6_looks 47 = .ok (.aload_n 0, 1) := by decide +kernel
theorem dX6_looks_48 : decode cX6_looks 48 = .ok (.getfield 7, 3) := by decide +kernel
theorem dX6_looks_51 : decode cX6_looks 51 = .ok (.iconst 3, 1) := by decide +kernel
theorem dX6_looks_52 : decode cX6_looks 52 = .ok (.iaload, 1) := by decide +kernel
theorem dX6_looks_53 : decode cX6_looks 53 = .ok (.iconst 1, 1) := by decide +kernel
theorem dX6_looks_54 : decode cX6_looks 54 = .ok (.if_icmp .ne 10, 3) := by decide +kernel
theorem dX6_looks_57 : decode cX6_looks 57 = .ok (.iconst 4, 1) := by decide +kernel
theorem dX6_looks_58 : decode cX6_looks 58 = .ok (.iload 4, 2) := by decide +kernel
theorem dX6_looks_60 : decode cX6_looks 60 = .ok (.isub, 1) := by decide +kernel
theorem dX6_looks_61 : decode cX6_looks 61 = .ok (.goto 5, 3) := by decide +kernel
theorem dX6_looks_64 : decode cX6_looks 64 = .ok (.iload 4, 2) := by decide +kernel
theorem dX6_looks_66 : decode cX6_looks 66 = .ok (.iastore, 1) := by decide +kernel
theorem dX6_looks_67 : decode cX6_looks 67 = .ok (.iinc 3 1, 3) := by decide +kernel
theorem dX6_looks_70 : decode cX6_looks 70 = .ok (.goto (-66), 3) := by decide +kernel
theorem dX6_looks_73 : decode cX6_looks 73 = .ok (.return_, 1) := by decide +kernel
theorem dX6_looksBeside_0 : decode cX6_looksBeside 0 = .ok (.aload_n 0, 1) := by decide +kernel
theorem dX6_looksBeside_1 : decode cX6_looksBeside 1 = .ok (.iload_n 1, 1) := by decide +kernel
theorem dX6_looksBeside_2 : decode cX6_looksBeside 2 = .ok (.invokevirtual 66, 3) := by decide +kernel
theorem dX6_looksBeside_5 : decode cX6_looksBeside 5 = .ok (.iconst 0, 1) := by decide +kernel
theorem dX6_looksBeside_6 : decode cX6_looksBeside 6 = .ok (.istore_n 2, 1) := by decide +kernel
theorem dX6_looksBeside_7 : decode cX6_looksBeside 7 = .ok (.iload_n 2, 1) := by decide +kernel
theorem dX6_looksBeside_8 : decode cX6_looksBeside 8 = .ok (.bipush 32, 2) := by decide +kernel
theorem dX6_looksBeside_10 : decode cX6_looksBeside 10 = .ok (.if_icmp .ge 21, 3) := by decide +kernel
theorem dX6_looksBeside_13 : decode cX6_looksBeside 13 = .ok (.aload_n 0, 1) := by decide +kernel
theorem dX6_looksBeside_14 : decode cX6_looksBeside 14 = .ok (.getfield 28, 3) := by decide +kernel
theorem dX6_looksBeside_17 : decode cX6_looksBeside 17 = .ok (.iload_n 2, 1) := by decide +kernel
theorem dX6_looksBeside_18 : decode cX6_looksBeside 18 = .ok (.aload_n 0, 1) := by decide +kernel
theorem dX6_looksBeside_19 : decode cX6_looksBeside 19 = .ok (.getfield 25, 3) := by decide +kernel
theorem dX6_looksBeside_22 : decode cX6_looksBeside 22 = .ok (.iload_n 2, 1) := by decide +kernel
theorem dX6_looksBeside_23 : decode cX6_looksBeside 23 = .ok (.iaload, 1) := by decide +kernel
theorem dX6_looksBeside_24 : decode cX6_looksBeside 24 = .ok (.iastore, 1) := by decide +kernel
theorem dX6_looksBeside_25 : decode cX6_looksBeside 25 = .ok (.iinc 2 1, 3) := by decide +kernel
theorem dX6_looksBeside_28 : decode cX6_looksBeside 28 = .ok (.goto (-21), 3) := by decide +kernel
theorem dX6_looksBeside_31 : decode cX6_looksBeside 31 = .ok (.return_, 1) := by decide +kernel
theorem dX6_isRight_0 : decode cX6_isRight 0 = .ok (.aload_n 0, 1) := by decide +kernel
theorem dX6_isRight_1 : decode cX6_isRight 1 = .ok (.getfield 25, 3) := by decide +kernel
theorem dX6_isRight_4 : decode cX6_isRight 4 = .ok (.iload_n 2, 1) := by decide +kernel
theorem dX6_isRight_5 : decode cX6_isRight 5 = .ok (.iaload, 1) := by decide +kernel
theorem dX6_isRight_6 : decode cX6_isRight 6 = .ok (.aload_n 0, 1) := by decide +kernel
theorem dX6_isRight_7 : decode cX6_isRight 7 = .ok (.iload_n 1, 1) := by decide +kernel
theorem dX6_isRight_8 : decode cX6_isRight 8 = .ok (.iload_n 2, 1) := by decide +kernel
theorem dX6_isRight_9 : decode cX6_isRight 9 = .ok (.invokevirtual 43, 3) := by decide +kernel
theorem dX6_isRight_12 : decode cX6_isRight 12 = .ok (.if_icmp .ne 7, 3) := by decide +kernel
theorem dX6_isRight_15 : decode cX6_isRight 15 = .ok (.iconst 1, 1) := by decide +kernel
theorem dX6_isRight_16 : decode cX6_isRight 16 = .ok (.goto 4, 3) := by decide +kernel
theorem dX6_isRight_19 : decode cX6_isRight 19 = .ok (.iconst 0, 1) := by decide +kernel
theorem dX6_isRight_20 : decode cX6_isRight 20 = .ok (.ireturn, 1) := by decide +kernel
theorem dX6_rightOnes_0 : decode cX6_rightOnes 0 = .ok (.aload_n 0, 1) := by decide +kernel
theorem dX6_rightOnes_1 : decode cX6_rightOnes 1 = .ok (.iload_n 1, 1) := by decide +kernel
theorem dX6_rightOnes_2 : decode cX6_rightOnes 2 = .ok (.invokevirtual 66, 3) := by decide +kernel
theorem dX6_rightOnes_5 : decode cX6_rightOnes 5 = .ok (.iconst 0, 1) := by decide +kernel
theorem dX6_rightOnes_6 : decode cX6_rightOnes 6 = .ok (.istore_n 2, 1) := by decide +kernel
theorem dX6_rightOnes_7 : decode cX6_rightOnes 7 = .ok (.iconst 0, 1) := by decide +kernel
theorem dX6_rightOnes_8 : decode cX6_rightOnes 8 = .ok (.istore_n 3, 1) := by decide +kernel
theorem dX6_rightOnes_9 : decode cX6_rightOnes 9 = .ok (.iload_n 3, 1) := by decide +kernel
theorem dX6_rightOnes_10 : decode cX6_rightOnes 10 = .ok (.bipush 32, 2) := by decide +kernel
theorem dX6_rightOnes_12 : decode cX6_rightOnes 12 = .ok (.if_icmp .ge 26, 3) := by decide +kernel
theorem dX6_rightOnes_15 : decode cX6_rightOnes 15 = .ok (.iload_n 2, 1) := by decide +kernel
theorem dX6_rightOnes_16 : decode cX6_rightOnes 16 = .ok (.aload_n 0, 1) := by decide +kernel
theorem dX6_rightOnes_17 : decode cX6_rightOnes 17 = .ok (.iload_n 1, 1) := by decide +kernel
theorem dX6_rightOnes_18 : decode cX6_rightOnes 18 = .ok (.iload_n 3, 1) := by decide +kernel
theorem dX6_rightOnes_19 : decode cX6_rightOnes 19 = .ok (.invokevirtual 70, 3) := by decide +kernel
theorem dX6_rightOnes_22 : decode cX6_rightOnes 22 = .ok (.ifCond .eq 7, 3) := by decide +kernel
theorem dX6_rightOnes_25 : decode cX6_rightOnes 25 = .ok (.iconst 1, 1) := by decide +kernel
theorem dX6_rightOnes_26 : decode cX6_rightOnes 26 = .ok (.goto 4, 3) := by decide +kernel
theorem dX6_rightOnes_29 : decode cX6_rightOnes 29 = .ok (.iconst 0, 1) := by decide +kernel
theorem dX6_rightOnes_30 : decode cX6_rightOnes 30 = .ok (.iadd, 1) := by decide +kernel
theorem dX6_rightOnes_31 : decode cX6_rightOnes 31 = .ok (.istore_n 2, 1) := by decide +kernel
theorem dX6_rightOnes_32 : decode cX6_rightOnes 32 = .ok (.iinc 3 1, 3) := by decide +kernel
theorem dX6_rightOnes_35 : decode cX6_rightOnes 35 = .ok (.goto (-26), 3) := by decide +kernel
theorem dX6_rightOnes_38 : decode cX6_rightOnes 38 = .ok (.iload_n 2, 1) := by decide +kernel
theorem dX6_rightOnes_39 : decode cX6_rightOnes 39 = .ok (.ireturn, 1) := by decide +kernel
theorem dX6_allRight_0 : decode cX6_allRight 0 = .ok (.iconst 0, 1) := by decide +kernel
theorem dX6_allRight_1 : decode cX6_allRight 1 = .ok (.istore_n 1, 1) := by decide +kernel
theorem dX6_allRight_2 : decode cX6_allRight 2 = .ok (.iconst 0, 1) := by decide +kernel
theorem dX6_allRight_3 : decode cX6_allRight 3 = .ok (.istore_n 2, 1) := by decide +kernel
theorem dX6_allRight_4 : decode cX6_allRight 4 = .ok (.iload_n 2, 1) := by decide +kernel
theorem dX6_allRight_5 : decode cX6_allRight 5 = .ok (.bipush 8, 2) := by decide +kernel
theorem dX6_allRight_7 : decode cX6_allRight 7 = .ok (.if_icmp .ge 17, 3) := by decide +kernel
theorem dX6_allRight_10 : decode cX6_allRight 10 = .ok (.iload_n 1, 1) := by decide +kernel
theorem dX6_allRight_11 : decode cX6_allRight 11 = .ok (.aload_n 0, 1) := by decide +kernel
theorem dX6_allRight_12 : decode cX6_allRight 12 = .ok (.iload_n 2, 1) := by decide +kernel
theorem dX6_allRight_13 : decode cX6_allRight 13 = .ok (.invokevirtual 74, 3) := by decide +kernel
theorem dX6_allRight_16 : decode cX6_allRight 16 = .ok (.iadd, 1) := by decide +kernel
theorem dX6_allRight_17 : decode cX6_allRight 17 = .ok (.istore_n 1, 1) := by decide +kernel
theorem dX6_allRight_18 : decode cX6_allRight 18 = .ok (.iinc 2 1, 3) := by decide +kernel
theorem dX6_allRight_21 : decode cX6_allRight 21 = .ok (.goto (-17), 3) := by decide +kernel
theorem dX6_allRight_24 : decode cX6_allRight 24 = .ok (.iload_n 1, 1) := by decide +kernel
theorem dX6_allRight_25 : decode cX6_allRight 25 = .ok (.ireturn, 1) := by decide +kernel
theorem dX6_changed_0 : decode cX6_changed 0 = .ok (.iconst 0, 1) := by decide +kernel
theorem dX6_changed_1 : decode cX6_changed 1 = .ok (.istore_n 2, 1) := by decide +kernel
theorem dX6_changed_2 : decode cX6_changed 2 = .ok (.iload_n 1, 1) := by decide +kernel
theorem dX6_changed_3 : decode cX6_changed 3 = .ok (.istore_n 3, 1) := by decide +kernel
theorem dX6_changed_4 : decode cX6_changed 4 = .ok (.iload_n 3, 1) := by decide +kernel
theorem dX6_changed_5 : decode cX6_changed 5 = .ok (.iload_n 1, 1) := by decide +kernel
theorem dX6_changed_6 : decode cX6_changed 6 = .ok (.sipush 256, 3) := by decide +kernel
theorem dX6_changed_9 : decode cX6_changed 9 = .ok (.iadd, 1) := by decide +kernel
theorem dX6_changed_10 : decode cX6_changed 10 = .ok (.if_icmp .ge 32, 3) := by decide +kernel
theorem dX6_changed_13 : decode cX6_changed 13 = .ok (.iload_n 2, 1) := by decide +kernel
theorem dX6_changed_14 : decode cX6_changed 14 = .ok (.aload_n 0, 1) := by decide +kernel
theorem dX6_changed_15 : decode cX6_changed 15 = .ok (.getfield 7, 3) := by decide +kernel
theorem dX6_changed_18 : decode cX6_changed 18 = .ok (.iload_n 3, 1) := by decide +kernel
theorem dX6_changed_19 : decode cX6_changed 19 = .ok (.iaload, 1) := by decide +kernel
theorem dX6_changed_20 : decode cX6_changed 20 = .ok (.aload_n 0, 1) := by decide +kernel
theorem dX6_changed_21 : decode cX6_changed 21 = .ok (.getfield 13, 3) := by decide +kernel
theorem dX6_changed_24 : decode cX6_changed 24 = .ok (.iload_n 3, 1) := by decide +kernel
theorem dX6_changed_25 : decode cX6_changed 25 = .ok (.iaload, 1) := by decide +kernel
theorem dX6_changed_26 : decode cX6_changed 26 = .ok (.if_icmp .eq 7, 3) := by decide +kernel
theorem dX6_changed_29 : decode cX6_changed 29 = .ok (.iconst 1, 1) := by decide +kernel
theorem dX6_changed_30 : decode cX6_changed 30 = .ok (.goto 4, 3) := by decide +kernel
theorem dX6_changed_33 : decode cX6_changed 33 = .ok (.iconst 0, 1) := by decide +kernel
theorem dX6_changed_34 : decode cX6_changed 34 = .ok (.iadd, 1) := by decide +kernel
theorem dX6_changed_35 : decode cX6_changed 35 = .ok (.istore_n 2, 1) := by decide +kernel
theorem dX6_changed_36 : decode cX6_changed 36 = .ok (.iinc 3 1, 3) := by decide +kernel
theorem dX6_changed_39 : decode cX6_changed 39 = .ok (.goto (-35), 3) := by decide +kernel
theorem dX6_changed_42 : decode cX6_changed 42 = .ok (.iload_n 2, 1) := by decide +kernel
theorem dX6_changed_43 : decode cX6_changed 43 = .ok (.ireturn, 1) := by decide +kernel
theorem dX6_lays_0 : decode cX6_lays 0 = .ok (.iload_n 1, 1) := by decide +kernel
theorem dX6_lays_1 : decode cX6_lays 1 = .ok (.istore 6, 2) := by decide +kernel
theorem dX6_lays_3 : decode cX6_lays 3 = .ok (.iload 6, 2) := by decide +kernel
theorem dX6_lays_5 : decode cX6_lays 5 = .ok (.iload_n 3, 1) := by decide +kernel
theorem dX6_lays_6 : decode cX6_lays 6 = .ok (.if_icmp .gt 42, 3) := by decide +kernel
theorem dX6_lays_9 : decode cX6_lays 9 = .ok (.iload_n 2, 1) := by decide +kernel
theorem dX6_lays_10 : decode cX6_lays 10 = .ok (.istore 7, 2) := by decide +kernel
theorem dX6_lays_12 : decode cX6_lays 12 = .ok (.iload 7, 2) := by decide +kernel
theorem dX6_lays_14 : decode cX6_lays 14 = .ok (.iload 4, 2) := by decide +kernel
theorem dX6_lays_16 : decode cX6_lays 16 = .ok (.if_icmp .gt 26, 3) := by decide +kernel
theorem dX6_lays_19 : decode cX6_lays 19 = .ok (.aload_n 0, 1) := by decide +kernel
theorem dX6_lays_20 : decode cX6_lays 20 = .ok (.getfield 7, 3) := by decide +kernel
theorem dX6_lays_23 : decode cX6_lays 23 = .ok (.bipush 32, 2) := by decide +kernel
theorem dX6_lays_25 : decode cX6_lays 25 = .ok (.iload 6, 2) := by decide +kernel
theorem dX6_lays_27 : decode cX6_lays 27 = .ok (.iload 7, 2) := by decide +kernel
theorem dX6_lays_29 : decode cX6_lays 29 = .ok (.invokestatic 35, 3) := by decide +kernel
theorem dX6_lays_32 : decode cX6_lays 32 = .ok (.iadd, 1) := by decide +kernel
theorem dX6_lays_33 : decode cX6_lays 33 = .ok (.iload 5, 2) := by decide +kernel
theorem dX6_lays_35 : decode cX6_lays 35 = .ok (.iastore, 1) := by decide +kernel
theorem dX6_lays_36 : decode cX6_lays 36 = .ok (.iinc 7 1, 3) := by decide +kernel
theorem dX6_lays_39 : decode cX6_lays 39 = .ok (.goto (-27), 3) := by decide +kernel
theorem dX6_lays_42 : decode cX6_lays 42 = .ok (.iinc 6 1, 3) := by decide +kernel
theorem dX6_lays_45 : decode cX6_lays 45 = .ok (.goto (-42), 3) := by decide +kernel
theorem dX6_lays_48 : decode cX6_lays 48 = .ok (.return_, 1) := by decide +kernel
theorem dX6_lay_0 : decode cX6_lay 0 = .ok (.iload_n 1, 1) := by decide +kernel
theorem dX6_lay_1 : decode cX6_lay 1 = .ok (.invokestatic 78, 3) := by decide +kernel
theorem dX6_lay_4 : decode cX6_lay 4 = .ok (.ifCond .eq 41, 3) := by decide +kernel
theorem dX6_lay_7 : decode cX6_lay 7 = .ok (.iload_n 2, 1) := by decide +kernel
theorem dX6_lay_8 : decode cX6_lay 8 = .ok (.invokestatic 52, 3) := by decide +kernel
theorem dX6_lay_11 : decode cX6_lay 11 = .ok (.ifCond .eq 34, 3) := by decide +kernel
theorem dX6_lay_14 : decode cX6_lay 14 = .ok (.iload_n 3, 1) := by decide +kernel
theorem dX6_lay_15 : decode cX6_lay 15 = .ok (.iload_n 1, 1) := by decide +kernel
theorem dX6_lay_16 : decode cX6_lay 16 = .ok (.bipush 7, 2) := by decide +kernel
theorem dX6_lay_18 : decode cX6_lay 18 = .ok (.invokestatic 31, 3) := by decide +kernel
theorem dX6_lay_21 : decode cX6_lay 21 = .ok (.ifCond .eq 24, 3) := by decide +kernel
theorem dX6_lay_24 : decode cX6_lay 24 = .ok (.iload 4, 2) := by decide +kernel
theorem dX6_lay_26 : decode cX6_lay 26 = .ok (.iload_n 2, 1) := by decide +kernel
theorem dX6_lay_27 : decode cX6_lay 27 = .ok (.bipush 31, 2) := by decide +kernel
theorem dX6_lay_29 : decode cX6_lay 29 = .ok (.invokestatic 31, 3) := by decide +kernel
theorem dX6_lay_32 : decode cX6_lay 32 = .ok (.ifCond .eq 13, 3) := by decide +kernel
theorem dX6_lay_35 : decode cX6_lay 35 = .ok (.iload 5, 2) := by decide +kernel
theorem dX6_lay_37 : decode cX6_lay 37 = .ok (.iconst 0, 1) := by decide +kernel
theorem dX6_lay_38 : decode cX6_lay 38 = .ok (.iconst 4, 1) := by decide +kernel
theorem dX6_lay_39 : decode cX6_lay 39 = .ok (.invokestatic 31, 3) := by decide +kernel
theorem dX6_lay_42 : decode cX6_lay 42 = .ok (.ifCond .ne 5, 3) := by decide +kernel
theorem dX6_lay_45 : decode cX6_lay 45 = .ok (.iconst (-1), 1) := by decide +kernel
theorem dX6_lay_46 : decode cX6_lay 46 = .ok (.ireturn, 1) := by decide +kernel
theorem dX6_lay_47 : decode cX6_lay 47 = .ok (.aload_n 0, 1) := by decide +kernel
theorem dX6_lay_48 : decode cX6_lay 48 = .ok (.invokevirtual 81, 3) := by decide +kernel
theorem dX6_lay_51 : decode cX6_lay 51 = .ok (.aload_n 0, 1) := by decide +kernel
theorem dX6_lay_52 : decode cX6_lay 52 = .ok (.invokevirtual 84, 3) := by decide +kernel
theorem dX6_lay_55 : decode cX6_lay 55 = .ok (.aload_n 0, 1) := by decide +kernel
theorem dX6_lay_56 : decode cX6_lay 56 = .ok (.iload_n 1, 1) := by decide +kernel
theorem dX6_lay_57 : decode cX6_lay 57 = .ok (.iload_n 2, 1) := by decide +kernel
theorem dX6_lay_58 : decode cX6_lay 58 = .ok (.iload_n 3, 1) := by decide +kernel
theorem dX6_lay_59 : decode cX6_lay 59 = .ok (.iload 4, 2) := by decide +kernel
theorem dX6_lay_61 : decode cX6_lay 61 = .ok (.iload 5, 2) := by decide +kernel
theorem dX6_lay_63 : decode cX6_lay 63 = .ok (.invokevirtual 87, 3) := by decide +kernel
theorem dX6_lay_66 : decode cX6_lay 66 = .ok (.aload_n 0, 1) := by decide +kernel
theorem dX6_lay_67 : decode cX6_lay 67 = .ok (.bipush 32, 2) := by decide +kernel
theorem dX6_lay_69 : decode cX6_lay 69 = .ok (.invokevirtual 91, 3) := by decide +kernel
theorem dX6_lay_72 : decode cX6_lay 72 = .ok (.ireturn, 1) := by decide +kernel
theorem dX6_shift_0 : decode cX6_shift 0 = .ok (.iload_n 1, 1) := by decide +kernel
theorem dX6_shift_1 : decode cX6_shift 1 = .ok (.invokestatic 78, 3) := by decide +kernel
theorem dX6_shift_4 : decode cX6_shift 4 = .ok (.ifCond .eq 14, 3) := by decide +kernel
theorem dX6_shift_7 : decode cX6_shift 7 = .ok (.iload_n 2, 1) := by decide +kernel
theorem dX6_shift_8 : decode cX6_shift 8 = .ok (.bipush (-31), 2) := by decide +kernel
theorem dX6_shift_10 : decode cX6_shift 10 = .ok (.bipush 31, 2) := by decide +kernel
theorem dX6_shift_12 : decode cX6_shift 12 = .ok (.invokestatic 31, 3) := by decide +kernel
theorem dX6_shift_15 : decode cX6_shift 15 = .ok (.ifCond .ne 5, 3) := by decide +kernel
theorem dX6_shift_18 : decode cX6_shift 18 = .ok (.iconst (-1), 1) := by decide +kernel
theorem dX6_shift_19 : decode cX6_shift 19 = .ok (.ireturn, 1) := by decide +kernel
theorem dX6_shift_20 : decode cX6_shift 20 = .ok (.aload_n 0, 1) := by decide +kernel
theorem dX6_shift_21 : decode cX6_shift 21 = .ok (.invokevirtual 81, 3) := by decide +kernel
theorem dX6_shift_24 : decode cX6_shift 24 = .ok (.aload_n 0, 1) := by decide +kernel
theorem dX6_shift_25 : decode cX6_shift 25 = .ok (.invokevirtual 84, 3) := by decide +kernel
theorem dX6_shift_28 : decode cX6_shift 28 = .ok (.iconst 0, 1) := by decide +kernel
theorem dX6_shift_29 : decode cX6_shift 29 = .ok (.istore_n 3, 1) := by decide +kernel
theorem dX6_shift_30 : decode cX6_shift 30 = .ok (.iconst 0, 1) := by decide +kernel
theorem dX6_shift_31 : decode cX6_shift 31 = .ok (.istore 4, 2) := by decide +kernel
theorem dX6_shift_33 : decode cX6_shift 33 = .ok (.iload 4, 2) := by decide +kernel
theorem dX6_shift_35 : decode cX6_shift 35 = .ok (.bipush 32, 2) := by decide +kernel
theorem dX6_shift_37 : decode cX6_shift 37 = .ok (.if_icmp .ge 70, 3) := by decide +kernel
theorem dX6_shift_40 : decode cX6_shift 40 = .ok (.iload 4, 2) := by decide +kernel
theorem dX6_shift_42 : decode cX6_shift 42 = .ok (.iload_n 2, 1) := by decide +kernel
theorem dX6_shift_43 : decode cX6_shift 43 = .ok (.isub, 1) := by decide +kernel
theorem dX6_shift_44 : decode cX6_shift 44 = .ok (.invokestatic 52, 3) := by decide +kernel
theorem dX6_shift_47 : decode cX6_shift 47 = .ok (.ifCond .eq 22, 3) := by decide +kernel
theorem dX6_shift_50 : decode cX6_shift 50 = .ok (.aload_n 0, 1) := by decide +kernel
theorem dX6_shift_51 : decode cX6_shift 51 = .ok (.getfield 13, 3) := by decide +kernel
theorem dX6_shift_54 : decode cX6_shift 54 = .ok (.bipush 32, 2) := by decide +kernel
theorem dX6_shift_56 : decode cX6_shift 56 = .ok (.iload_n 1, 1) := by decide +kernel
theorem dX6_shift_57 : decode cX6_shift 57 = .ok (.iload 4, 2) := by decide +kernel
theorem dX6_shift_59 : decode cX6_shift 59 = .ok (.iload_n 2, 1) := by decide +kernel
theorem dX6_shift_60 : decode cX6_shift 60 = .ok (.isub, 1) := by decide +kernel
theorem dX6_shift_61 : decode cX6_shift 61 = .ok (.invokestatic 35, 3) := by decide +kernel
theorem dX6_shift_64 : decode cX6_shift 64 = .ok (.iadd, 1) := by decide +kernel
theorem dX6_shift_65 : decode cX6_shift 65 = .ok (.iaload, 1) := by decide +kernel
theorem dX6_shift_66 : decode cX6_shift 66 = .ok (.goto 4, 3) := by decide +kernel
theorem dX6_shift_69 : decode cX6_shift 69 = .ok (.iconst 0, 1) := by decide +kernel
theorem dX6_shift_70 : decode cX6_shift 70 = .ok (.istore 5, 2) := by decide +kernel
theorem dX6_shift_72 : decode cX6_shift 72 = .ok (.aload_n 0, 1) := by decide +kernel
theorem dX6_shift_73 : decode cX6_shift 73 = .ok (.getfield 7, 3) := by decide +kernel
theorem dX6_shift_76 : decode cX6_shift 76 = .ok (.bipush 32, 2) := by decide +kernel
theorem dX6_shift_78 : decode cX6_shift 78 = .ok (.iload_n 1, 1) := by decide +kernel
theorem dX6_shift_79 : decode cX6_shift 79 = .ok (.iload 4, 2) := by decide +kernel
theorem dX6_shift_81 : decode cX6_shift 81 = .ok (.invokestatic 35, 3) := by decide +kernel
theorem dX6_shift_84 : decode cX6_shift 84 = .ok (.iadd, 1) := by decide +kernel
theorem dX6_shift_85 : decode cX6_shift 85 = .ok (.iload 5, 2) := by decide +kernel
theorem dX6_shift_87 : decode cX6_shift 87 = .ok (.iastore, 1) := by decide +kernel
theorem dX6_shift_88 : decode cX6_shift 88 = .ok (.iload_n 3, 1) := by decide +kernel
theorem dX6_shift_89 : decode cX6_shift 89 = .ok (.iload 5, 2) := by decide +kernel
theorem dX6_shift_91 : decode cX6_shift 91 = .ok (.ifCond .le 7, 3) := by decide +kernel
theorem dX6_shift_94 : decode cX6_shift 94 = .ok (.iconst 1, 1) := by decide +kernel
theorem dX6_shift_95 : decode cX6_shift 95 = .ok (.goto 4, 3) := by decide +kernel
theorem dX6_shift_98 : decode cX6_shift 98 = .ok (.iconst 0, 1) := by decide +kernel
theorem dX6_shift_99 : decode cX6_shift 99 = .ok (.iadd, 1) := by decide +kernel
theorem dX6_shift_100 : decode cX6_shift 100 = .ok (.istore_n 3, 1) := by decide +kernel
theorem dX6_shift_101 : decode cX6_shift 101 = .ok (.iinc 4 1, 3) := by decide +kernel
theorem dX6_shift_104 : decode cX6_shift 104 = .ok (.goto (-71), 3) := by decide +kernel
theorem dX6_shift_107 : decode cX6_shift 107 = .ok (.iload_n 3, 1) := by decide +kernel
theorem dX6_shift_108 : decode cX6_shift 108 = .ok (.ireturn, 1) := by decide +kernel
theorem dX6_swap_0 : decode cX6_swap 0 = .ok (.iload_n 1, 1) := by decide +kernel
theorem dX6_swap_1 : decode cX6_swap 1 = .ok (.invokestatic 78, 3) := by decide +kernel
theorem dX6_swap_4 : decode cX6_swap 4 = .ok (.ifCond .eq 15, 3) := by decide +kernel
theorem dX6_swap_7 : decode cX6_swap 7 = .ok (.iload_n 2, 1) := by decide +kernel
theorem dX6_swap_8 : decode cX6_swap 8 = .ok (.invokestatic 78, 3) := by decide +kernel
theorem dX6_swap_11 : decode cX6_swap 11 = .ok (.ifCond .eq 8, 3) := by decide +kernel
theorem dX6_swap_14 : decode cX6_swap 14 = .ok (.iload_n 1, 1) := by decide +kernel
theorem dX6_swap_15 : decode cX6_swap 15 = .ok (.iload_n 2, 1) := by decide +kernel
theorem dX6_swap_16 : decode cX6_swap 16 = .ok (.if_icmp .ne 5, 3) := by decide +kernel
theorem dX6_swap_19 : decode cX6_swap 19 = .ok (.iconst (-1), 1) := by decide +kernel
theorem dX6_swap_20 : decode cX6_swap 20 = .ok (.ireturn, 1) := by decide +kernel
theorem dX6_swap_21 : decode cX6_swap 21 = .ok (.aload_n 0, 1) := by decide +kernel
theorem dX6_swap_22 : decode cX6_swap 22 = .ok (.invokevirtual 81, 3) := by decide +kernel
theorem dX6_swap_25 : decode cX6_swap 25 = .ok (.aload_n 0, 1) := by decide +kernel
theorem dX6_swap_26 : decode cX6_swap 26 = .ok (.invokevirtual 84, 3) := by decide +kernel
theorem dX6_swap_29 : decode cX6_swap 29 = .ok (.iconst 0, 1) := by decide +kernel
theorem dX6_swap_30 : decode cX6_swap 30 = .ok (.istore_n 3, 1) := by decide +kernel
theorem dX6_swap_31 : decode cX6_swap 31 = .ok (.iconst 0, 1) := by decide +kernel
theorem dX6_swap_32 : decode cX6_swap 32 = .ok (.istore 4, 2) := by decide +kernel
theorem dX6_swap_34 : decode cX6_swap 34 = .ok (.iload 4, 2) := by decide +kernel
theorem dX6_swap_36 : decode cX6_swap 36 = .ok (.bipush 32, 2) := by decide +kernel
theorem dX6_swap_38 : decode cX6_swap 38 = .ok (.if_icmp .ge 34, 3) := by decide +kernel
theorem dX6_swap_41 : decode cX6_swap 41 = .ok (.iload_n 3, 1) := by decide +kernel
theorem dX6_swap_42 : decode cX6_swap 42 = .ok (.aload_n 0, 1) := by decide +kernel
theorem dX6_swap_43 : decode cX6_swap 43 = .ok (.iload_n 1, 1) := by decide +kernel
theorem dX6_swap_44 : decode cX6_swap 44 = .ok (.iload 4, 2) := by decide +kernel
theorem dX6_swap_46 : decode cX6_swap 46 = .ok (.invokevirtual 43, 3) := by decide +kernel
theorem dX6_swap_49 : decode cX6_swap 49 = .ok (.aload_n 0, 1) := by decide +kernel
theorem dX6_swap_50 : decode cX6_swap 50 = .ok (.iload_n 2, 1) := by decide +kernel
theorem dX6_swap_51 : decode cX6_swap 51 = .ok (.iload 4, 2) := by decide +kernel
theorem dX6_swap_53 : decode cX6_swap 53 = .ok (.invokevirtual 43, 3) := by decide +kernel
theorem dX6_swap_56 : decode cX6_swap 56 = .ok (.if_icmp .eq 7, 3) := by decide +kernel
theorem dX6_swap_59 : decode cX6_swap 59 = .ok (.iconst 1, 1) := by decide +kernel
theorem dX6_swap_60 : decode cX6_swap 60 = .ok (.goto 4, 3) := by decide +kernel
theorem dX6_swap_63 : decode cX6_swap 63 = .ok (.iconst 0, 1) := by decide +kernel
theorem dX6_swap_64 : decode cX6_swap 64 = .ok (.iadd, 1) := by decide +kernel
theorem dX6_swap_65 : decode cX6_swap 65 = .ok (.istore_n 3, 1) := by decide +kernel
theorem dX6_swap_66 : decode cX6_swap 66 = .ok (.iinc 4 1, 3) := by decide +kernel
theorem dX6_swap_69 : decode cX6_swap 69 = .ok (.goto (-35), 3) := by decide +kernel
theorem dX6_swap_72 : decode cX6_swap 72 = .ok (.bipush 32, 2) := by decide +kernel
theorem dX6_swap_74 : decode cX6_swap 74 = .ok (.istore 4, 2) := by decide +kernel
theorem dX6_swap_76 : decode cX6_swap 76 = .ok (.iload 4, 2) := by decide +kernel
theorem dX6_swap_78 : decode cX6_swap 78 = .ok (.sipush 800, 3) := by decide +kernel
theorem dX6_swap_81 : decode cX6_swap 81 = .ok (.if_icmp .ge 84, 3) := by decide +kernel
theorem dX6_swap_84 : decode cX6_swap 84 = .ok (.iconst 0, 1) := by decide +kernel
theorem dX6_swap_85 : decode cX6_swap 85 = .ok (.istore 5, 2) := by decide +kernel
theorem dX6_swap_87 : decode cX6_swap 87 = .ok (.iload 5, 2) := by decide +kernel
theorem dX6_swap_89 : decode cX6_swap 89 = .ok (.bipush 32, 2) := by decide +kernel
theorem dX6_swap_91 : decode cX6_swap 91 = .ok (.if_icmp .ge 65, 3) := by decide +kernel
theorem dX6_swap_94 : decode cX6_swap 94 = .ok (.aload_n 0, 1) := by decide +kernel
theorem dX6_swap_95 : decode cX6_swap 95 = .ok (.getfield 7, 3) := by decide +kernel
theorem dX6_swap_98 : decode cX6_swap 98 = .ok (.iload 4, 2) := by decide +kernel
theorem dX6_swap_100 : decode cX6_swap 100 = .ok (.iload_n 1, 1) := by decide +kernel
theorem dX6_swap_101 : decode cX6_swap 101 = .ok (.iload 5, 2) := by decide +kernel
theorem dX6_swap_103 : decode cX6_swap 103 = .ok (.invokestatic 35, 3) := by decide +kernel
theorem dX6_swap_106 : decode cX6_swap 106 = .ok (.iadd, 1) := by decide +kernel
theorem dX6_swap_107 : decode cX6_swap 107 = .ok (.aload_n 0, 1) := by decide +kernel
theorem dX6_swap_108 : decode cX6_swap 108 = .ok (.getfield 13, 3) := by decide +kernel
theorem dX6_swap_111 : decode cX6_swap 111 = .ok (.iload 4, 2) := by decide +kernel
theorem dX6_swap_113 : decode cX6_swap 113 = .ok (.iload_n 2, 1) := by decide +kernel
theorem dX6_swap_114 : decode cX6_swap 114 = .ok (.iload 5, 2) := by decide +kernel
theorem dX6_swap_116 : decode cX6_swap 116 = .ok (.invokestatic 35, 3) := by decide +kernel
theorem dX6_swap_119 : decode cX6_swap 119 = .ok (.iadd, 1) := by decide +kernel
theorem dX6_swap_120 : decode cX6_swap 120 = .ok (.iaload, 1) := by decide +kernel
theorem dX6_swap_121 : decode cX6_swap 121 = .ok (.iastore, 1) := by decide +kernel
theorem dX6_swap_122 : decode cX6_swap 122 = .ok (.aload_n 0, 1) := by decide +kernel
theorem dX6_swap_123 : decode cX6_swap 123 = .ok (.getfield 7, 3) := by decide +kernel
theorem dX6_swap_126 : decode cX6_swap 126 = .ok (.iload 4, 2) := by decide +kernel
theorem dX6_swap_128 : decode cX6_swap 128 = .ok (.iload_n 2, 1) := by decide +kernel
theorem dX6_swap_129 : decode cX6_swap 129 = .ok (.iload 5, 2) := by decide +kernel
theorem dX6_swap_131 : decode cX6_swap 131 = .ok (.invokestatic 35, 3) := by decide +kernel
theorem dX6_swap_134 : decode cX6_swap 134 = .ok (.iadd, 1) := by decide +kernel
theorem dX6_swap_135 : decode cX6_swap 135 = .ok (.aload_n 0, 1) := by decide +kernel
theorem dX6_swap_136 : decode cX6_swap 136 = .ok (.getfield 13, 3) := by decide +kernel
theorem dX6_swap_139 : decode cX6_swap 139 = .ok (.iload 4, 2) := by decide +kernel
theorem dX6_swap_141 : decode cX6_swap 141 = .ok (.iload_n 1, 1) := by decide +kernel
theorem dX6_swap_142 : decode cX6_swap 142 = .ok (.iload 5, 2) := by decide +kernel
theorem dX6_swap_144 : decode cX6_swap 144 = .ok (.invokestatic 35, 3) := by decide +kernel
theorem dX6_swap_147 : decode cX6_swap 147 = .ok (.iadd, 1) := by decide +kernel
theorem dX6_swap_148 : decode cX6_swap 148 = .ok (.iaload, 1) := by decide +kernel
theorem dX6_swap_149 : decode cX6_swap 149 = .ok (.iastore, 1) := by decide +kernel
theorem dX6_swap_150 : decode cX6_swap 150 = .ok (.iinc 5 1, 3) := by decide +kernel
theorem dX6_swap_153 : decode cX6_swap 153 = .ok (.goto (-66), 3) := by decide +kernel
theorem dX6_swap_156 : decode cX6_swap 156 = .ok (.iinc 4 256, 6) := by decide +kernel
theorem dX6_swap_162 : decode cX6_swap 162 = .ok (.goto (-86), 3) := by decide +kernel
theorem dX6_swap_165 : decode cX6_swap 165 = .ok (.iload_n 3, 1) := by decide +kernel
theorem dX6_swap_166 : decode cX6_swap 166 = .ok (.ireturn, 1) := by decide +kernel
theorem dX6_turn_0 : decode cX6_turn 0 = .ok (.iload_n 1, 1) := by decide +kernel
theorem dX6_turn_1 : decode cX6_turn 1 = .ok (.invokestatic 78, 3) := by decide +kernel
theorem dX6_turn_4 : decode cX6_turn 4 = .ok (.ifCond .ne 5, 3) := by decide +kernel
theorem dX6_turn_7 : decode cX6_turn 7 = .ok (.iconst (-1), 1) := by decide +kernel
theorem dX6_turn_8 : decode cX6_turn 8 = .ok (.ireturn, 1) := by decide +kernel
theorem dX6_turn_9 : decode cX6_turn 9 = .ok (.aload_n 0, 1) := by decide +kernel
theorem dX6_turn_10 : decode cX6_turn 10 = .ok (.invokevirtual 81, 3) := by decide +kernel
theorem dX6_turn_13 : decode cX6_turn 13 = .ok (.aload_n 0, 1) := by decide +kernel
theorem dX6_turn_14 : decode cX6_turn 14 = .ok (.invokevirtual 84, 3) := by decide +kernel
theorem dX6_turn_17 : decode cX6_turn 17 = .ok (.bipush 32, 2) := by decide +kernel
theorem dX6_turn_19 : decode cX6_turn 19 = .ok (.istore_n 2, 1) := by decide +kernel
theorem dX6_turn_20 : decode cX6_turn 20 = .ok (.iload_n 2, 1) := by decide +kernel
theorem dX6_turn_21 : decode cX6_turn 21 = .ok (.sipush 800, 3) := by decide +kernel
theorem dX6_turn_24 : decode cX6_turn 24 = .ok (.if_icmp .ge 53, 3) := by decide +kernel
theorem dX6_turn_27 : decode cX6_turn 27 = .ok (.iconst 0, 1) := by decide +kernel
theorem dX6_turn_28 : decode cX6_turn 28 = .ok (.istore_n 3, 1) := by decide +kernel
theorem dX6_turn_29 : decode cX6_turn 29 = .ok (.iload_n 3, 1) := by decide +kernel
theorem dX6_turn_30 : decode cX6_turn 30 = .ok (.bipush 32, 2) := by decide +kernel
theorem dX6_turn_32 : decode cX6_turn 32 = .ok (.if_icmp .ge 36, 3) := by decide +kernel
theorem dX6_turn_35 : decode cX6_turn 35 = .ok (.aload_n 0, 1) := by decide +kernel
theorem dX6_turn_36 : decode cX6_turn 36 = .ok (.getfield 7, 3) := by decide +kernel
theorem dX6_turn_39 : decode cX6_turn 39 = .ok (.iload_n 2, 1) := by decide +kernel
theorem dX6_turn_40 : decode cX6_turn 40 = .ok (.iload_n 1, 1) := by decide +kernel
theorem dX6_turn_41 : decode cX6_turn 41 = .ok (.iload_n 3, 1) := by decide +kernel
theorem dX6_turn_42 : decode cX6_turn 42 = .ok (.invokestatic 35, 3) := by decide +kernel
theorem dX6_turn_45 : decode cX6_turn 45 = .ok (.iadd, 1) := by decide +kernel
theorem dX6_turn_46 : decode cX6_turn 46 = .ok (.aload_n 0, 1) := by decide +kernel
theorem dX6_turn_47 : decode cX6_turn 47 = .ok (.getfield 13, 3) := by decide +kernel
theorem dX6_turn_50 : decode cX6_turn 50 = .ok (.iload_n 2, 1) := by decide +kernel
theorem dX6_turn_51 : decode cX6_turn 51 = .ok (.iload_n 1, 1) := by decide +kernel
theorem dX6_turn_52 : decode cX6_turn 52 = .ok (.bipush 31, 2) := by decide +kernel
theorem dX6_turn_54 : decode cX6_turn 54 = .ok (.iload_n 3, 1) := by decide +kernel
theorem dX6_turn_55 : decode cX6_turn 55 = .ok (.isub, 1) := by decide +kernel
theorem dX6_turn_56 : decode cX6_turn 56 = .ok (.invokestatic 35, 3) := by decide +kernel
theorem dX6_turn_59 : decode cX6_turn 59 = .ok (.iadd, 1) := by decide +kernel
theorem dX6_turn_60 : decode cX6_turn 60 = .ok (.iaload, 1) := by decide +kernel
theorem dX6_turn_61 : decode cX6_turn 61 = .ok (.iastore, 1) := by decide +kernel
theorem dX6_turn_62 : decode cX6_turn 62 = .ok (.iinc 3 1, 3) := by decide +kernel
theorem dX6_turn_65 : decode cX6_turn 65 = .ok (.goto (-36), 3) := by decide +kernel
theorem dX6_turn_68 : decode cX6_turn 68 = .ok (.iinc 2 256, 6) := by decide +kernel
theorem dX6_turn_74 : decode cX6_turn 74 = .ok (.goto (-54), 3) := by decide +kernel
theorem dX6_turn_77 : decode cX6_turn 77 = .ok (.aload_n 0, 1) := by decide +kernel
theorem dX6_turn_78 : decode cX6_turn 78 = .ok (.iload_n 1, 1) := by decide +kernel
theorem dX6_turn_79 : decode cX6_turn 79 = .ok (.invokevirtual 74, 3) := by decide +kernel
theorem dX6_turn_82 : decode cX6_turn 82 = .ok (.ireturn, 1) := by decide +kernel
theorem dX6_prints_0 : decode cX6_prints 0 = .ok (.iconst 0, 1) := by decide +kernel
theorem dX6_prints_1 : decode cX6_prints 1 = .ok (.istore_n 2, 1) := by decide +kernel
theorem dX6_prints_2 : decode cX6_prints 2 = .ok (.iconst 0, 1) := by decide +kernel
theorem dX6_prints_3 : decode cX6_prints 3 = .ok (.istore_n 3, 1) := by decide +kernel
theorem dX6_prints_4 : decode cX6_prints 4 = .ok (.iload_n 3, 1) := by decide +kernel
theorem dX6_prints_5 : decode cX6_prints 5 = .ok (.bipush 32, 2) := by decide +kernel
theorem dX6_prints_7 : decode cX6_prints 7 = .ok (.if_icmp .ge 143, 3) := by decide +kernel
theorem dX6_prints_10 : decode cX6_prints 10 = .ok (.aload_n 0, 1) := by decide +kernel
theorem dX6_prints_11 : decode cX6_prints 11 = .ok (.iload_n 1, 1) := by decide +kernel
theorem dX6_prints_12 : decode cX6_prints 12 = .ok (.iload_n 3, 1) := by decide +kernel
theorem dX6_prints_13 : decode cX6_prints 13 = .ok (.invokevirtual 46, 3) := by decide +kernel
theorem dX6_prints_16 : decode cX6_prints 16 = .ok (.istore 4, 2) := by decide +kernel
theorem dX6_prints_18 : decode cX6_prints 18 = .ok (.iload 4, 2) := by decide +kernel
theorem dX6_prints_20 : decode cX6_prints 20 = .ok (.iconst (-1), 1) := by decide +kernel
theorem dX6_prints_21 : decode cX6_prints 21 = .ok (.if_icmp .eq 15, 3) := by decide +kernel
theorem dX6_prints_24 : decode cX6_prints 24 = .ok (.aload_n 0, 1) := by decide +kernel
theorem dX6_prints_25 : decode cX6_prints 25 = .ok (.iload_n 1, 1) := by decide +kernel
theorem dX6_prints_26 : decode cX6_prints 26 = .ok (.iload 4, 2) := by decide +kernel
theorem dX6_prints_28 : decode cX6_prints 28 = .ok (.invokevirtual 56, 3) := by decide +kernel
theorem dX6_prints_31 : decode cX6_prints 31 = .ok (.istore 5, 2) := by decide +kernel
theorem dX6_prints_33 : decode cX6_prints 33 = .ok (.goto 80, 3) := by decide +kernel
theorem dX6_prints_36 : decode cX6_prints 36 = .ok (.aload_n 0, 1) := by decide +kernel
theorem dX6_prints_37 : decode cX6_prints 37 = .ok (.getfield 7, 3) := by decide +kernel
theorem dX6_prints_40 : decode cX6_prints 40 = .ok (.bipush 7, 2) := by decide +kernel
theorem dX6_prints_42 : decode cX6_prints 42 = .ok (.iaload, 1) := by decide +kernel
theorem dX6_prints_43 : decode cX6_prints 43 = .ok (.ifCond .le 28, 3) := by decide +kernel
theorem dX6_prints_46 : decode cX6_prints 46 = .ok (.aload_n 0, 1) := by decide +kernel
theorem dX6_prints_47 : decode cX6_prints 47 = .ok (.getfield 7, 3) := by decide +kernel
theorem dX6_prints_50 : decode cX6_prints 50 = .ok (.bipush 8, 2) := by decide +kernel
theorem dX6_prints_52 : decode cX6_prints 52 = .ok (.iload_n 2, 1) := by decide +kernel
theorem dX6_prints_53 : decode cX6_prints 53 = .ok (.aload_n 0, 1) := by decide +kernel
theorem dX6_prints_54 : decode cX6_prints 54 = .ok (.getfield 7, 3) := by decide +kernel
theorem dX6_prints_57 : decode cX6_prints 57 = .ok (.bipush 7, 2) := by decide +kernel
theorem dX6_prints_59 : decode cX6_prints 59 = .ok (.iaload, 1) := by decide +kernel
theorem dX6_prints_60 : decode cX6_prints 60 = .ok (.irem, 1) := by decide +kernel
theorem dX6_prints_61 : decode cX6_prints 61 = .ok (.iadd, 1) := by decide +kernel
theorem dX6_prints_62 : decode cX6_prints 62 = .ok (.iaload, 1) := by decide +kernel
theorem dX6_prints_63 : decode cX6_prints 63 = .ok (.istore 5, 2) := by decide +kernel
theorem dX6_prints_65 : decode cX6_prints 65 = .ok (.iinc 2 1, 3) := by decide +kernel
theorem dX6_prints_68 : decode cX6_prints 68 = .ok (.goto 45, 3) := by decide +kernel
theorem dX6_prints_71 : decode cX6_prints 71 = .ok (.aload_n 0, 1) := by decide +kernel
theorem dX6_prints_72 : decode cX6_prints 72 = .ok (.getfield 7, 3) := by decide +kernel
theorem dX6_prints_75 : decode cX6_prints 75 = .ok (.bipush 6, 2) := by decide +kernel
theorem dX6_prints_77 : decode cX6_prints 77 = .ok (.sipush 421, 3) := by decide +kernel
theorem dX6_prints_80 : decode cX6_prints 80 = .ok (.aload_n 0, 1) := by decide +kernel
theorem dX6_prints_81 : decode cX6_prints 81 = .ok (.getfield 7, 3) := by decide +kernel
theorem dX6_prints_84 : decode cX6_prints 84 = .ok (.bipush 6, 2) := by decide +kernel
theorem dX6_prints_86 : decode cX6_prints 86 = .ok (.iaload, 1) := by decide +kernel
theorem dX6_prints_87 : decode cX6_prints 87 = .ok (.imul, 1) := by decide +kernel
theorem dX6_prints_88 : decode cX6_prints 88 = .ok (.sipush 1663, 3) := by decide +kernel
theorem dX6_prints_91 : decode cX6_prints 91 = .ok (.iadd, 1) := by decide +kernel
theorem dX6_prints_92 : decode cX6_prints 92 = .ok (.sipush 10000, 3) := by decide +kernel
theorem dX6_prints_95 : decode cX6_prints 95 = .ok (.irem, 1) := by decide +kernel
theorem dX6_prints_96 : decode cX6_prints 96 = .ok (.iastore, 1) := by decide +kernel
theorem dX6_prints_97 : decode cX6_prints 97 = .ok (.aload_n 0, 1) := by decide +kernel
theorem dX6_prints_98 : decode cX6_prints 98 = .ok (.getfield 7, 3) := by decide +kernel
theorem dX6_prints_101 : decode cX6_prints 101 = .ok (.bipush 6, 2) := by decide +kernel
theorem dX6_prints_103 : decode cX6_prints 103 = .ok (.iaload, 1) := by decide +kernel
theorem dX6_prints_104 : decode cX6_prints 104 = .ok (.aload_n 0, 1) := by decide +kernel
theorem dX6_prints_105 : decode cX6_prints 105 = .ok (.getfield 7, 3) := by decide +kernel
theorem dX6_prints_108 : decode cX6_prints 108 = .ok (.iconst 1, 1) := by decide +kernel
theorem dX6_prints_109 : decode cX6_prints 109 = .ok (.iaload, 1) := by decide +kernel
theorem dX6_prints_110 : decode cX6_prints 110 = .ok (.irem, 1) := by decide +kernel
theorem dX6_prints_111 : decode cX6_prints 111 = .ok (.istore 5, 2) := by decide +kernel
theorem dX6_prints_113 : decode cX6_prints 113 = .ok (.aload_n 0, 1) := by decide +kernel
theorem dX6_prints_114 : decode cX6_prints 114 = .ok (.getfield 7, 3) := by decide +kernel
theorem dX6_prints_117 : decode cX6_prints 117 = .ok (.sipush 288, 3) := by decide +kernel
theorem dX6_prints_120 : decode cX6_prints 120 = .ok (.iload_n 1, 1) := by decide +kernel
theorem dX6_prints_121 : decode cX6_prints 121 = .ok (.iload_n 3, 1) := by decide +kernel
theorem dX6_prints_122 : decode cX6_prints 122 = .ok (.invokestatic 35, 3) := by decide +kernel
theorem dX6_prints_125 : decode cX6_prints 125 = .ok (.iadd, 1) := by decide +kernel
theorem dX6_prints_126 : decode cX6_prints 126 = .ok (.iload 5, 2) := by decide +kernel
theorem dX6_prints_128 : decode cX6_prints 128 = .ok (.iastore, 1) := by decide +kernel
theorem dX6_prints_129 : decode cX6_prints 129 = .ok (.aload_n 0, 1) := by decide +kernel
theorem dX6_prints_130 : decode cX6_prints 130 = .ok (.getfield 7, 3) := by decide +kernel
theorem dX6_prints_133 : decode cX6_prints 133 = .ok (.sipush 544, 3) := by decide +kernel
theorem dX6_prints_136 : decode cX6_prints 136 = .ok (.iload_n 1, 1) := by decide +kernel
theorem dX6_prints_137 : decode cX6_prints 137 = .ok (.iload_n 3, 1) := by decide +kernel
theorem dX6_prints_138 : decode cX6_prints 138 = .ok (.invokestatic 35, 3) := by decide +kernel
theorem dX6_prints_141 : decode cX6_prints 141 = .ok (.iadd, 1) := by decide +kernel
theorem dX6_prints_142 : decode cX6_prints 142 = .ok (.iconst 0, 1) := by decide +kernel
theorem dX6_prints_143 : decode cX6_prints 143 = .ok (.iastore, 1) := by decide +kernel
theorem dX6_prints_144 : decode cX6_prints 144 = .ok (.iinc 3 1, 3) := by decide +kernel
theorem dX6_prints_147 : decode cX6_prints 147 = .ok (.goto (-143), 3) := by decide +kernel
theorem dX6_prints_150 : decode cX6_prints 150 = .ok (.return_, 1) := by decide +kernel
theorem dX6_print_0 : decode cX6_print 0 = .ok (.iload_n 1, 1) := by decide +kernel
theorem dX6_print_1 : decode cX6_print 1 = .ok (.invokestatic 78, 3) := by decide +kernel
theorem dX6_print_4 : decode cX6_print 4 = .ok (.ifCond .ne 5, 3) := by decide +kernel
theorem dX6_print_7 : decode cX6_print 7 = .ok (.iconst (-1), 1) := by decide +kernel
theorem dX6_print_8 : decode cX6_print 8 = .ok (.ireturn, 1) := by decide +kernel
theorem dX6_print_9 : decode cX6_print 9 = .ok (.aload_n 0, 1) := by decide +kernel
theorem dX6_print_10 : decode cX6_print 10 = .ok (.invokevirtual 81, 3) := by decide +kernel
theorem dX6_print_13 : decode cX6_print 13 = .ok (.aload_n 0, 1) := by decide +kernel
theorem dX6_print_14 : decode cX6_print 14 = .ok (.invokevirtual 84, 3) := by decide +kernel
theorem dX6_print_17 : decode cX6_print 17 = .ok (.aload_n 0, 1) := by decide +kernel
theorem dX6_print_18 : decode cX6_print 18 = .ok (.iload_n 1, 1) := by decide +kernel
theorem dX6_print_19 : decode cX6_print 19 = .ok (.invokevirtual 94, 3) := by decide +kernel
theorem dX6_print_22 : decode cX6_print 22 = .ok (.aload_n 0, 1) := by decide +kernel
theorem dX6_print_23 : decode cX6_print 23 = .ok (.sipush 288, 3) := by decide +kernel
theorem dX6_print_26 : decode cX6_print 26 = .ok (.invokevirtual 91, 3) := by decide +kernel
theorem dX6_print_29 : decode cX6_print 29 = .ok (.ireturn, 1) := by decide +kernel
theorem dX6_printAll_0 : decode cX6_printAll 0 = .ok (.aload_n 0, 1) := by decide +kernel
theorem dX6_printAll_1 : decode cX6_printAll 1 = .ok (.invokevirtual 81, 3) := by decide +kernel
theorem dX6_printAll_4 : decode cX6_printAll 4 = .ok (.aload_n 0, 1) := by decide +kernel
theorem dX6_printAll_5 : decode cX6_printAll 5 = .ok (.invokevirtual 84, 3) := by decide +kernel
theorem dX6_printAll_8 : decode cX6_printAll 8 = .ok (.iconst 0, 1) := by decide +kernel
theorem dX6_printAll_9 : decode cX6_printAll 9 = .ok (.istore_n 1, 1) := by decide +kernel
theorem dX6_printAll_10 : decode cX6_printAll 10 = .ok (.iload_n 1, 1) := by decide +kernel
theorem dX6_printAll_11 : decode cX6_printAll 11 = .ok (.bipush 8, 2) := by decide +kernel
theorem dX6_printAll_13 : decode cX6_printAll 13 = .ok (.if_icmp .ge 14, 3) := by decide +kernel
theorem dX6_printAll_16 : decode cX6_printAll 16 = .ok (.aload_n 0, 1) := by decide +kernel
theorem dX6_printAll_17 : decode cX6_printAll 17 = .ok (.iload_n 1, 1) := by decide +kernel
theorem dX6_printAll_18 : decode cX6_printAll 18 = .ok (.invokevirtual 94, 3) := by decide +kernel
theorem dX6_printAll_21 : decode cX6_printAll 21 = .ok (.iinc 1 1, 3) := by decide +kernel
theorem dX6_printAll_24 : decode cX6_printAll 24 = .ok (.goto (-14), 3) := by decide +kernel
theorem dX6_printAll_27 : decode cX6_printAll 27 = .ok (.aload_n 0, 1) := by decide +kernel
theorem dX6_printAll_28 : decode cX6_printAll 28 = .ok (.sipush 288, 3) := by decide +kernel
theorem dX6_printAll_31 : decode cX6_printAll 31 = .ok (.invokevirtual 91, 3) := by decide +kernel
theorem dX6_printAll_34 : decode cX6_printAll 34 = .ok (.ireturn, 1) := by decide +kernel
theorem dX6_paint_0 : decode cX6_paint 0 = .ok (.iload_n 1, 1) := by decide +kernel
theorem dX6_paint_1 : decode cX6_paint 1 = .ok (.invokestatic 78, 3) := by decide +kernel
theorem dX6_paint_4 : decode cX6_paint 4 = .ok (.ifCond .eq 20, 3) := by decide +kernel
theorem dX6_paint_7 : decode cX6_paint 7 = .ok (.iload_n 2, 1) := by decide +kernel
theorem dX6_paint_8 : decode cX6_paint 8 = .ok (.invokestatic 52, 3) := by decide +kernel
theorem dX6_paint_11 : decode cX6_paint 11 = .ok (.ifCond .eq 13, 3) := by decide +kernel
theorem dX6_paint_14 : decode cX6_paint 14 = .ok (.iload_n 3, 1) := by decide +kernel
theorem dX6_paint_15 : decode cX6_paint 15 = .ok (.iconst 0, 1) := by decide +kernel
theorem dX6_paint_16 : decode cX6_paint 16 = .ok (.bipush 7, 2) := by decide +kernel
theorem dX6_paint_18 : decode cX6_paint 18 = .ok (.invokestatic 31, 3) := by decide +kernel
theorem dX6_paint_21 : decode cX6_paint 21 = .ok (.ifCond .ne 5, 3) := by decide +kernel
theorem dX6_paint_24 : decode cX6_paint 24 = .ok (.iconst (-1), 1) := by decide +kernel
theorem dX6_paint_25 : decode cX6_paint 25 = .ok (.ireturn, 1) := by decide +kernel
theorem dX6_paint_26 : decode cX6_paint 26 = .ok (.aload_n 0, 1) := by decide +kernel
theorem dX6_paint_27 : decode cX6_paint 27 = .ok (.invokevirtual 81, 3) := by decide +kernel
theorem dX6_paint_30 : decode cX6_paint 30 = .ok (.aload_n 0, 1) := by decide +kernel
theorem dX6_paint_31 : decode cX6_paint 31 = .ok (.iload_n 1, 1) := by decide +kernel
theorem dX6_paint_32 : decode cX6_paint 32 = .ok (.iload_n 2, 1) := by decide +kernel
theorem dX6_paint_33 : decode cX6_paint 33 = .ok (.invokevirtual 56, 3) := by decide +kernel
theorem dX6_paint_36 : decode cX6_paint 36 = .ok (.istore 4, 2) := by decide +kernel
theorem dX6_paint_38 : decode cX6_paint 38 = .ok (.sipush 544, 3) := by decide +kernel
theorem dX6_paint_41 : decode cX6_paint 41 = .ok (.iload_n 1, 1) := by decide +kernel
theorem dX6_paint_42 : decode cX6_paint 42 = .ok (.iload_n 2, 1) := by decide +kernel
theorem dX6_paint_43 : decode cX6_paint 43 = .ok (.invokestatic 35, 3) := by decide +kernel
theorem dX6_paint_46 : decode cX6_paint 46 = .ok (.iadd, 1) := by decide +kernel
theorem dX6_paint_47 : decode cX6_paint 47 = .ok (.istore 5, 2) := by decide +kernel
theorem dX6_paint_49 : decode cX6_paint 49 = .ok (.aload_n 0, 1) := by decide +kernel
theorem dX6_paint_50 : decode cX6_paint 50 = .ok (.getfield 7, 3) := by decide +kernel
theorem dX6_paint_53 : decode cX6_paint 53 = .ok (.iload 5, 2) := by decide +kernel
theorem dX6_paint_55 : decode cX6_paint 55 = .ok (.aload_n 0, 1) := by decide +kernel
theorem dX6_paint_56 : decode cX6_paint 56 = .ok (.getfield 7, 3) := by decide +kernel
theorem dX6_paint_59 : decode cX6_paint 59 = .ok (.iload 5, 2) := by decide +kernel
theorem dX6_paint_61 : decode cX6_paint 61 = .ok (.iaload, 1) := by decide +kernel
theorem dX6_paint_62 : decode cX6_paint 62 = .ok (.ifCond .ne 10, 3) := by decide +kernel
theorem dX6_paint_65 : decode cX6_paint 65 = .ok (.iload 4, 2) := by decide +kernel
theorem dX6_paint_67 : decode cX6_paint 67 = .ok (.iconst 1, 1) := by decide +kernel
theorem dX6_paint_68 : decode cX6_paint 68 = .ok (.iadd, 1) := by decide +kernel
theorem dX6_paint_69 : decode cX6_paint 69 = .ok (.goto 10, 3) := by decide +kernel
theorem dX6_paint_72 : decode cX6_paint 72 = .ok (.aload_n 0, 1) := by decide +kernel
theorem dX6_paint_73 : decode cX6_paint 73 = .ok (.getfield 7, 3) := by decide +kernel
theorem dX6_paint_76 : decode cX6_paint 76 = .ok (.iload 5, 2) := by decide +kernel
theorem dX6_paint_78 : decode cX6_paint 78 = .ok (.iaload, 1) := by decide +kernel
theorem dX6_paint_79 : decode cX6_paint 79 = .ok (.iastore, 1) := by decide +kernel
theorem dX6_paint_80 : decode cX6_paint 80 = .ok (.aload_n 0, 1) := by decide +kernel
theorem dX6_paint_81 : decode cX6_paint 81 = .ok (.getfield 7, 3) := by decide +kernel
theorem dX6_paint_84 : decode cX6_paint 84 = .ok (.sipush 288, 3) := by decide +kernel
theorem dX6_paint_87 : decode cX6_paint 87 = .ok (.iload_n 1, 1) := by decide +kernel
theorem dX6_paint_88 : decode cX6_paint 88 = .ok (.iload_n 2, 1) := by decide +kernel
theorem dX6_paint_89 : decode cX6_paint 89 = .ok (.invokestatic 35, 3) := by decide +kernel
theorem dX6_paint_92 : decode cX6_paint 92 = .ok (.iadd, 1) := by decide +kernel
theorem dX6_paint_93 : decode cX6_paint 93 = .ok (.iload_n 3, 1) := by decide +kernel
theorem dX6_paint_94 : decode cX6_paint 94 = .ok (.iastore, 1) := by decide +kernel
theorem dX6_paint_95 : decode cX6_paint 95 = .ok (.iload 4, 2) := by decide +kernel
theorem dX6_paint_97 : decode cX6_paint 97 = .ok (.ireturn, 1) := by decide +kernel
theorem dX6_wipe_0 : decode cX6_wipe 0 = .ok (.iload_n 1, 1) := by decide +kernel
theorem dX6_wipe_1 : decode cX6_wipe 1 = .ok (.invokestatic 78, 3) := by decide +kernel
theorem dX6_wipe_4 : decode cX6_wipe 4 = .ok (.ifCond .ne 5, 3) := by decide +kernel
theorem dX6_wipe_7 : decode cX6_wipe 7 = .ok (.iconst (-1), 1) := by decide +kernel
theorem dX6_wipe_8 : decode cX6_wipe 8 = .ok (.ireturn, 1) := by decide +kernel
theorem dX6_wipe_9 : decode cX6_wipe 9 = .ok (.aload_n 0, 1) := by decide +kernel
theorem dX6_wipe_10 : decode cX6_wipe 10 = .ok (.invokevirtual 81, 3) := by decide +kernel
theorem dX6_wipe_13 : decode cX6_wipe 13 = .ok (.iconst 0, 1) := by decide +kernel
theorem dX6_wipe_14 : decode cX6_wipe 14 = .ok (.istore_n 2, 1) := by decide +kernel
theorem dX6_wipe_15 : decode cX6_wipe 15 = .ok (.iconst 0, 1) := by decide +kernel
theorem dX6_wipe_16 : decode cX6_wipe 16 = .ok (.istore_n 3, 1) := by decide +kernel
theorem dX6_wipe_17 : decode cX6_wipe 17 = .ok (.iload_n 3, 1) := by decide +kernel
theorem dX6_wipe_18 : decode cX6_wipe 18 = .ok (.bipush 32, 2) := by decide +kernel
theorem dX6_wipe_20 : decode cX6_wipe 20 = .ok (.if_icmp .ge 66, 3) := by decide +kernel
theorem dX6_wipe_23 : decode cX6_wipe 23 = .ok (.aload_n 0, 1) := by decide +kernel
theorem dX6_wipe_24 : decode cX6_wipe 24 = .ok (.getfield 7, 3) := by decide +kernel
theorem dX6_wipe_27 : decode cX6_wipe 27 = .ok (.sipush 544, 3) := by decide +kernel
theorem dX6_wipe_30 : decode cX6_wipe 30 = .ok (.iload_n 1, 1) := by decide +kernel
theorem dX6_wipe_31 : decode cX6_wipe 31 = .ok (.iload_n 3, 1) := by decide +kernel
theorem dX6_wipe_32 : decode cX6_wipe 32 = .ok (.invokestatic 35, 3) := by decide +kernel
theorem dX6_wipe_35 : decode cX6_wipe 35 = .ok (.iadd, 1) := by decide +kernel
theorem dX6_wipe_36 : decode cX6_wipe 36 = .ok (.iaload, 1) := by decide +kernel
theorem dX6_wipe_37 : decode cX6_wipe 37 = .ok (.istore 4, 2) := by decide +kernel
theorem dX6_wipe_39 : decode cX6_wipe 39 = .ok (.iload 4, 2) := by decide +kernel
theorem dX6_wipe_41 : decode cX6_wipe 41 = .ok (.ifCond .le 39, 3) := by decide +kernel
theorem dX6_wipe_44 : decode cX6_wipe 44 = .ok (.aload_n 0, 1) := by decide +kernel
theorem dX6_wipe_45 : decode cX6_wipe 45 = .ok (.getfield 7, 3) := by decide +kernel
theorem dX6_wipe_48 : decode cX6_wipe 48 = .ok (.sipush 288, 3) := by decide +kernel
theorem dX6_wipe_51 : decode cX6_wipe 51 = .ok (.iload_n 1, 1) := by decide +kernel
theorem dX6_wipe_52 : decode cX6_wipe 52 = .ok (.iload_n 3, 1) := by decide +kernel
theorem dX6_wipe_53 : decode cX6_wipe 53 = .ok (.invokestatic 35, 3) := by decide +kernel
theorem dX6_wipe_56 : decode cX6_wipe 56 = .ok (.iadd, 1) := by decide +kernel
theorem dX6_wipe_57 : decode cX6_wipe 57 = .ok (.iload 4, 2) := by decide +kernel
theorem dX6_wipe_59 : decode cX6_wipe 59 = .ok (.iconst 1, 1) := by decide +kernel
theorem dX6_wipe_60 : decode cX6_wipe 60 = .ok (.isub, 1) := by decide +kernel
theorem dX6_wipe_61 : decode cX6_wipe 61 = .ok (.iastore, 1) := by decide +kernel
theorem dX6_wipe_62 : decode cX6_wipe 62 = .ok (.aload_n 0, 1) := by decide +kernel
theorem dX6_wipe_63 : decode cX6_wipe 63 = .ok (.getfield 7, 3) := by decide +kernel
theorem dX6_wipe_66 : decode cX6_wipe 66 = .ok (.sipush 544, 3) := by decide +kernel
theorem dX6_wipe_69 : decode cX6_wipe 69 = .ok (.iload_n 1, 1) := by decide +kernel
theorem dX6_wipe_70 : decode cX6_wipe 70 = .ok (.iload_n 3, 1) := by decide +kernel
theorem dX6_wipe_71 : decode cX6_wipe 71 = .ok (.invokestatic 35, 3) := by decide +kernel
theorem dX6_wipe_74 : decode cX6_wipe 74 = .ok (.iadd, 1) := by decide +kernel
theorem dX6_wipe_75 : decode cX6_wipe 75 = .ok (.iconst 0, 1) := by decide +kernel
theorem dX6_wipe_76 : decode cX6_wipe 76 = .ok (.iastore, 1) := by decide +kernel
theorem dX6_wipe_77 : decode cX6_wipe 77 = .ok (.iinc 2 1, 3) := by decide +kernel
theorem dX6_wipe_80 : decode cX6_wipe 80 = .ok (.iinc 3 1, 3) := by decide +kernel
theorem dX6_wipe_83 : decode cX6_wipe 83 = .ok (.goto (-66), 3) := by decide +kernel
theorem dX6_wipe_86 : decode cX6_wipe 86 = .ok (.iload_n 2, 1) := by decide +kernel
theorem dX6_wipe_87 : decode cX6_wipe 87 = .ok (.ireturn, 1) := by decide +kernel
theorem dX6_leastOf_0 : decode cX6_leastOf 0 = .ok (.iload_n 0, 1) := by decide +kernel
theorem dX6_leastOf_1 : decode cX6_leastOf 1 = .ok (.tableswitch 50 0 5 #[39, 42, 50, 50, 44, 47], 39) := by decide +kernel
theorem dX6_leastOf_40 : decode cX6_leastOf 40 = .ok (.bipush 6, 2) := by decide +kernel
theorem dX6_leastOf_42 : decode cX6_leastOf 42 = .ok (.ireturn, 1) := by decide +kernel
theorem dX6_leastOf_43 : decode cX6_leastOf 43 = .ok (.iconst 2, 1) := by decide +kernel
theorem dX6_leastOf_44 : decode cX6_leastOf 44 = .ok (.ireturn, 1) := by decide +kernel
theorem dX6_leastOf_45 : decode cX6_leastOf 45 = .ok (.bipush 20, 2) := by decide +kernel
theorem dX6_leastOf_47 : decode cX6_leastOf 47 = .ok (.ireturn, 1) := by decide +kernel
theorem dX6_leastOf_48 : decode cX6_leastOf 48 = .ok (.bipush 10, 2) := by decide +kernel
theorem dX6_leastOf_50 : decode cX6_leastOf 50 = .ok (.ireturn, 1) := by decide +kernel
theorem dX6_leastOf_51 : decode cX6_leastOf 51 = .ok (.iconst 0, 1) := by decide +kernel
theorem dX6_leastOf_52 : decode cX6_leastOf 52 = .ok (.ireturn, 1) := by decide +kernel
theorem dX6_mostOf_0 : decode cX6_mostOf 0 = .ok (.iload_n 0, 1) := by decide +kernel
theorem dX6_mostOf_1 : decode cX6_mostOf 1 = .ok (.tableswitch 48 0 4 #[35, 38, 41, 43, 45], 35) := by decide +kernel
theorem dX6_mostOf_36 : decode cX6_mostOf 36 = .ok (.bipush 16, 2) := by decide +kernel
theorem dX6_mostOf_38 : decode cX6_mostOf 38 = .ok (.ireturn, 1) := by decide +kernel
theorem dX6_mostOf_39 : decode cX6_mostOf 39 = .ok (.bipush 8, 2) := by decide +kernel
theorem dX6_mostOf_41 : decode cX6_mostOf 41 = .ok (.ireturn, 1) := by decide +kernel
theorem dX6_mostOf_42 : decode cX6_mostOf 42 = .ok (.iconst 3, 1) := by decide +kernel
theorem dX6_mostOf_43 : decode cX6_mostOf 43 = .ok (.ireturn, 1) := by decide +kernel
theorem dX6_mostOf_44 : decode cX6_mostOf 44 = .ok (.iconst 1, 1) := by decide +kernel
theorem dX6_mostOf_45 : decode cX6_mostOf 45 = .ok (.ireturn, 1) := by decide +kernel
theorem dX6_mostOf_46 : decode cX6_mostOf 46 = .ok (.bipush 99, 2) := by decide +kernel
theorem dX6_mostOf_48 : decode cX6_mostOf 48 = .ok (.ireturn, 1) := by decide +kernel
theorem dX6_mostOf_49 : decode cX6_mostOf 49 = .ok (.sipush 400, 3) := by decide +kernel
theorem dX6_mostOf_52 : decode cX6_mostOf 52 = .ok (.ireturn, 1) := by decide +kernel
theorem dX6_set_0 : decode cX6_set 0 = .ok (.iload_n 1, 1) := by decide +kernel
theorem dX6_set_1 : decode cX6_set 1 = .ok (.iconst 0, 1) := by decide +kernel
theorem dX6_set_2 : decode cX6_set 2 = .ok (.iconst 5, 1) := by decide +kernel
theorem dX6_set_3 : decode cX6_set 3 = .ok (.invokestatic 31, 3) := by decide +kernel
theorem dX6_set_6 : decode cX6_set 6 = .ok (.ifCond .eq 18, 3) := by decide +kernel
theorem dX6_set_9 : decode cX6_set 9 = .ok (.iload_n 2, 1) := by decide +kernel
theorem dX6_set_10 : decode cX6_set 10 = .ok (.iload_n 1, 1) := by decide +kernel
theorem dX6_set_11 : decode cX6_set 11 = .ok (.invokestatic 97, 3) := by decide +kernel
theorem dX6_set_14 : decode cX6_set 14 = .ok (.iload_n 1, 1) := by decide +kernel
theorem dX6_set_15 : decode cX6_set 15 = .ok (.invokestatic 100, 3) := by decide +kernel
theorem dX6_set_18 : decode cX6_set 18 = .ok (.invokestatic 31, 3) := by decide +kernel
theorem dX6_set_21 : decode cX6_set 21 = .ok (.ifCond .ne 5, 3) := by decide +kernel
theorem dX6_set_24 : decode cX6_set 24 = .ok (.iconst (-1), 1) := by decide +kernel
theorem dX6_set_25 : decode cX6_set 25 = .ok (.ireturn, 1) := by decide +kernel
theorem dX6_set_26 : decode cX6_set 26 = .ok (.aload_n 0, 1) := by decide +kernel
theorem dX6_set_27 : decode cX6_set 27 = .ok (.invokevirtual 81, 3) := by decide +kernel
theorem dX6_set_30 : decode cX6_set 30 = .ok (.aload_n 0, 1) := by decide +kernel
theorem dX6_set_31 : decode cX6_set 31 = .ok (.getfield 7, 3) := by decide +kernel
theorem dX6_set_34 : decode cX6_set 34 = .ok (.iload_n 1, 1) := by decide +kernel
theorem dX6_set_35 : decode cX6_set 35 = .ok (.iaload, 1) := by decide +kernel
theorem dX6_set_36 : decode cX6_set 36 = .ok (.istore_n 3, 1) := by decide +kernel
theorem dX6_set_37 : decode cX6_set 37 = .ok (.aload_n 0, 1) := by decide +kernel
theorem dX6_set_38 : decode cX6_set 38 = .ok (.getfield 7, 3) := by decide +kernel
theorem dX6_set_41 : decode cX6_set 41 = .ok (.iload_n 1, 1) := by decide +kernel
theorem dX6_set_42 : decode cX6_set 42 = .ok (.iload_n 2, 1) := by decide +kernel
theorem dX6_set_43 : decode cX6_set 43 = .ok (.iastore, 1) := by decide +kernel
theorem dX6_set_44 : decode cX6_set 44 = .ok (.iload_n 3, 1) := by decide +kernel
theorem dX6_set_45 : decode cX6_set 45 = .ok (.ireturn, 1) := by decide +kernel
theorem dX6_lot_0 : decode cX6_lot 0 = .ok (.iload_n 1, 1) := by decide +kernel
theorem dX6_lot_1 : decode cX6_lot 1 = .ok (.iconst 0, 1) := by decide +kernel
theorem dX6_lot_2 : decode cX6_lot 2 = .ok (.sipush 9999, 3) := by decide +kernel
theorem dX6_lot_5 : decode cX6_lot 5 = .ok (.invokestatic 31, 3) := by decide +kernel
theorem dX6_lot_8 : decode cX6_lot 8 = .ok (.ifCond .ne 5, 3) := by decide +kernel
theorem dX6_lot_11 : decode cX6_lot 11 = .ok (.iconst (-1), 1) := by decide +kernel
theorem dX6_lot_12 : decode cX6_lot 12 = .ok (.ireturn, 1) := by decide +kernel
theorem dX6_lot_13 : decode cX6_lot 13 = .ok (.aload_n 0, 1) := by decide +kernel
theorem dX6_lot_14 : decode cX6_lot 14 = .ok (.invokevirtual 81, 3) := by decide +kernel
theorem dX6_lot_17 : decode cX6_lot 17 = .ok (.aload_n 0, 1) := by decide +kernel
theorem dX6_lot_18 : decode cX6_lot 18 = .ok (.getfield 7, 3) := by decide +kernel
theorem dX6_lot_21 : decode cX6_lot 21 = .ok (.bipush 6, 2) := by decide +kernel
theorem dX6_lot_23 : decode cX6_lot 23 = .ok (.iaload, 1) := by decide +kernel
theorem dX6_lot_24 : decode cX6_lot 24 = .ok (.istore_n 2, 1) := by decide +kernel
theorem dX6_lot_25 : decode cX6_lot 25 = .ok (.aload_n 0, 1) := by decide +kernel
theorem dX6_lot_26 : decode cX6_lot 26 = .ok (.getfield 7, 3) := by decide +kernel
theorem dX6_lot_29 : decode cX6_lot 29 = .ok (.bipush 6, 2) := by decide +kernel
theorem dX6_lot_31 : decode cX6_lot 31 = .ok (.iload_n 1, 1) := by decide +kernel
theorem dX6_lot_32 : decode cX6_lot 32 = .ok (.iastore, 1) := by decide +kernel
theorem dX6_lot_33 : decode cX6_lot 33 = .ok (.iload_n 2, 1) := by decide +kernel
theorem dX6_lot_34 : decode cX6_lot 34 = .ok (.ireturn, 1) := by decide +kernel
theorem dX6_append_0 : decode cX6_append 0 = .ok (.iload_n 1, 1) := by decide +kernel
theorem dX6_append_1 : decode cX6_append 1 = .ok (.bipush 33, 2) := by decide +kernel
theorem dX6_append_3 : decode cX6_append 3 = .ok (.bipush 126, 2) := by decide +kernel
theorem dX6_append_5 : decode cX6_append 5 = .ok (.invokestatic 31, 3) := by decide +kernel
theorem dX6_append_8 : decode cX6_append 8 = .ok (.ifCond .ne 5, 3) := by decide +kernel
theorem dX6_append_11 : decode cX6_append 11 = .ok (.iconst (-1), 1) := by decide +kernel
theorem dX6_append_12 : decode cX6_append 12 = .ok (.ireturn, 1) := by decide +kernel
theorem dX6_append_13 : decode cX6_append 13 = .ok (.aload_n 0, 1) := by decide +kernel
theorem dX6_append_14 : decode cX6_append 14 = .ok (.getfield 103, 3) := by decide +kernel
theorem dX6_append_17 : decode cX6_append 17 = .ok (.bipush 80, 2) := by decide +kernel
theorem dX6_append_19 : decode cX6_append 19 = .ok (.if_icmp .ne 6, 3) := by decide +kernel
theorem dX6_append_22 : decode cX6_append 22 = .ok (.bipush (-3), 2) := by decide +kernel
theorem dX6_append_24 : decode cX6_append 24 = .ok (.ireturn, 1) := by decide +kernel
theorem dX6_append_25 : decode cX6_append 25 = .ok (.aload_n 0, 1) := by decide +kernel
theorem dX6_append_26 : decode cX6_append 26 = .ok (.getfield 22, 3) := by decide +kernel
theorem dX6_append_29 : decode cX6_append 29 = .ok (.aload_n 0, 1) := by decide +kernel
theorem dX6_append_30 : decode cX6_append 30 = .ok (.getfield 103, 3) := by decide +kernel
theorem dX6_append_33 : decode cX6_append 33 = .ok (.iload_n 1, 1) := by decide +kernel
theorem dX6_append_34 : decode cX6_append 34 = .ok (.iastore, 1) := by decide +kernel
theorem dX6_append_35 : decode cX6_append 35 = .ok (.aload_n 0, 1) := by decide +kernel
theorem dX6_append_36 : decode cX6_append 36 = .ok (.dup, 1) := by decide +kernel
theorem dX6_append_37 : decode cX6_append 37 = .ok (.getfield 103, 3) := by decide +kernel
theorem dX6_append_40 : decode cX6_append 40 = .ok (.iconst 1, 1) := by decide +kernel
theorem dX6_append_41 : decode cX6_append 41 = .ok (.iadd, 1) := by decide +kernel
theorem dX6_append_42 : decode cX6_append 42 = .ok (.putfield 103, 3) := by decide +kernel
theorem dX6_append_45 : decode cX6_append 45 = .ok (.aload_n 0, 1) := by decide +kernel
theorem dX6_append_46 : decode cX6_append 46 = .ok (.getfield 103, 3) := by decide +kernel
theorem dX6_append_49 : decode cX6_append 49 = .ok (.ireturn, 1) := by decide +kernel
theorem dX6_clear_0 : decode cX6_clear 0 = .ok (.aload_n 0, 1) := by decide +kernel
theorem dX6_clear_1 : decode cX6_clear 1 = .ok (.getfield 103, 3) := by decide +kernel
theorem dX6_clear_4 : decode cX6_clear 4 = .ok (.istore_n 1, 1) := by decide +kernel
theorem dX6_clear_5 : decode cX6_clear 5 = .ok (.aload_n 0, 1) := by decide +kernel
theorem dX6_clear_6 : decode cX6_clear 6 = .ok (.iconst 0, 1) := by decide +kernel
theorem dX6_clear_7 : decode cX6_clear 7 = .ok (.putfield 103, 3) := by decide +kernel
theorem dX6_clear_10 : decode cX6_clear 10 = .ok (.iload_n 1, 1) := by decide +kernel
theorem dX6_clear_11 : decode cX6_clear 11 = .ok (.ireturn, 1) := by decide +kernel
theorem dX6_next_0 : decode cX6_next 0 = .ok (.aload_n 0, 1) := by decide +kernel
theorem dX6_next_1 : decode cX6_next 1 = .ok (.getfield 106, 3) := by decide +kernel
theorem dX6_next_4 : decode cX6_next 4 = .ok (.aload_n 0, 1) := by decide +kernel
theorem dX6_next_5 : decode cX6_next 5 = .ok (.getfield 103, 3) := by decide +kernel
theorem dX6_next_8 : decode cX6_next 8 = .ok (.if_icmp .ge 15, 3) := by decide +kernel
theorem dX6_next_11 : decode cX6_next 11 = .ok (.aload_n 0, 1) := by decide +kernel
theorem dX6_next_12 : decode cX6_next 12 = .ok (.getfield 22, 3) := by decide +kernel
theorem dX6_next_15 : decode cX6_next 15 = .ok (.aload_n 0, 1) := by decide +kernel
theorem dX6_next_16 : decode cX6_next 16 = .ok (.getfield 106, 3) := by decide +kernel
theorem dX6_next_19 : decode cX6_next 19 = .ok (.iaload, 1) := by decide +kernel
theorem dX6_next_20 : decode cX6_next 20 = .ok (.goto 4, 3) := by decide +kernel
theorem dX6_next_23 : decode cX6_next 23 = .ok (.iconst 0, 1) := by decide +kernel
theorem dX6_next_24 : decode cX6_next 24 = .ok (.ireturn, 1) := by decide +kernel
theorem dX6_isNext_0 : decode cX6_isNext 0 = .ok (.aload_n 0, 1) := by decide +kernel
theorem dX6_isNext_1 : decode cX6_isNext 1 = .ok (.getfield 109, 3) := by decide +kernel
theorem dX6_isNext_4 : decode cX6_isNext 4 = .ok (.ifCond .ne 15, 3) := by decide +kernel
theorem dX6_isNext_7 : decode cX6_isNext 7 = .ok (.aload_n 0, 1) := by decide +kernel
theorem dX6_isNext_8 : decode cX6_isNext 8 = .ok (.invokevirtual 113, 3) := by decide +kernel
theorem dX6_isNext_11 : decode cX6_isNext 11 = .ok (.iload_n 1, 1) := by decide +kernel
theorem dX6_isNext_12 : decode cX6_isNext 12 = .ok (.if_icmp .ne 7, 3) := by decide +kernel
theorem dX6_isNext_15 : decode cX6_isNext 15 = .ok (.iconst 1, 1) := by decide +kernel
theorem dX6_isNext_16 : decode cX6_isNext 16 = .ok (.goto 4, 3) := by decide +kernel
theorem dX6_isNext_19 : decode cX6_isNext 19 = .ok (.iconst 0, 1) := by decide +kernel
theorem dX6_isNext_20 : decode cX6_isNext 20 = .ok (.ireturn, 1) := by decide +kernel
theorem dX6_wants_0 : decode cX6_wants 0 = .ok (.aload_n 0, 1) := by decide +kernel
theorem dX6_wants_1 : decode cX6_wants 1 = .ok (.aload_n 0, 1) := by decide +kernel
theorem dX6_wants_2 : decode cX6_wants 2 = .ok (.getfield 109, 3) := by decide +kernel
theorem dX6_wants_5 : decode cX6_wants 5 = .ok (.ifCond .ne 11, 3) := by decide +kernel
theorem dX6_wants_8 : decode cX6_wants 8 = .ok (.aload_n 0, 1) := by decide +kernel
theorem dX6_wants_9 : decode cX6_wants 9 = .ok (.invokevirtual 113, 3) := by decide +kernel
theorem dX6_wants_12 : decode cX6_wants 12 = .ok (.iload_n 1, 1) := by decide +kernel
theorem dX6_wants_13 : decode cX6_wants 13 = .ok (.if_icmp .eq 7, 3) := by decide +kernel
theorem dX6_wants_16 : decode cX6_wants 16 = .ok (.iconst 1, 1) := by decide +kernel
theorem dX6_wants_17 : decode cX6_wants 17 = .ok (.goto 4, 3) := by decide +kernel
theorem dX6_wants_20 : decode cX6_wants 20 = .ok (.iconst 0, 1) := by decide +kernel
theorem dX6_wants_21 : decode cX6_wants 21 = .ok (.putfield 109, 3) := by decide +kernel
theorem dX6_wants_24 : decode cX6_wants 24 = .ok (.aload_n 0, 1) := by decide +kernel
theorem dX6_wants_25 : decode cX6_wants 25 = .ok (.dup, 1) := by decide +kernel
theorem dX6_wants_26 : decode cX6_wants 26 = .ok (.getfield 106, 3) := by decide +kernel
theorem dX6_wants_29 : decode cX6_wants 29 = .ok (.aload_n 0, 1) := by decide +kernel
theorem dX6_wants_30 : decode cX6_wants 30 = .ok (.getfield 109, 3) := by decide +kernel
theorem dX6_wants_33 : decode cX6_wants 33 = .ok (.ifCond .eq 7, 3) := by decide +kernel
theorem dX6_wants_36 : decode cX6_wants 36 = .ok (.iconst 0, 1) := by decide +kernel
theorem dX6_wants_37 : decode cX6_wants 37 = .ok (.goto 4, 3) := by decide +kernel
theorem dX6_wants_40 : decode cX6_wants 40 = .ok (.iconst 1, 1) := by decide +kernel
theorem dX6_wants_41 : decode cX6_wants 41 = .ok (.iadd, 1) := by decide +kernel
theorem dX6_wants_42 : decode cX6_wants 42 = .ok (.putfield 106, 3) := by decide +kernel
theorem dX6_wants_45 : decode cX6_wants 45 = .ok (.return_, 1) := by decide +kernel
theorem dX6_digit_0 : decode cX6_digit 0 = .ok (.aload_n 0, 1) := by decide +kernel
theorem dX6_digit_1 : decode cX6_digit 1 = .ok (.invokevirtual 113, 3) := by decide +kernel
theorem dX6_digit_4 : decode cX6_digit 4 = .ok (.bipush 48, 2) := by decide +kernel
theorem dX6_digit_6 : decode cX6_digit 6 = .ok (.isub, 1) := by decide +kernel
theorem dX6_digit_7 : decode cX6_digit 7 = .ok (.istore_n 3, 1) := by decide +kernel
theorem dX6_digit_8 : decode cX6_digit 8 = .ok (.aload_n 0, 1) := by decide +kernel
theorem dX6_digit_9 : decode cX6_digit 9 = .ok (.aload_n 0, 1) := by decide +kernel
theorem dX6_digit_10 : decode cX6_digit 10 = .ok (.getfield 109, 3) := by decide +kernel
theorem dX6_digit_13 : decode cX6_digit 13 = .ok (.ifCond .ne 12, 3) := by decide +kernel
theorem dX6_digit_16 : decode cX6_digit 16 = .ok (.iload_n 3, 1) := by decide +kernel
theorem dX6_digit_17 : decode cX6_digit 17 = .ok (.iload_n 1, 1) := by decide +kernel
theorem dX6_digit_18 : decode cX6_digit 18 = .ok (.iload_n 2, 1) := by decide +kernel
theorem dX6_digit_19 : decode cX6_digit 19 = .ok (.invokestatic 31, 3) := by decide +kernel
theorem dX6_digit_22 : decode cX6_digit 22 = .ok (.ifCond .ne 7, 3) := by decide +kernel
theorem dX6_digit_25 : decode cX6_digit 25 = .ok (.iconst 1, 1) := by decide +kernel
theorem dX6_digit_26 : decode cX6_digit 26 = .ok (.goto 4, 3) := by decide +kernel
theorem dX6_digit_29 : decode cX6_digit 29 = .ok (.iconst 0, 1) := by decide +kernel
theorem dX6_digit_30 : decode cX6_digit 30 = .ok (.putfield 109, 3) := by decide +kernel
theorem dX6_digit_33 : decode cX6_digit 33 = .ok (.aload_n 0, 1) := by decide +kernel
theorem dX6_digit_34 : decode cX6_digit 34 = .ok (.dup, 1) := by decide +kernel
theorem dX6_digit_35 : decode cX6_digit 35 = .ok (.getfield 106, 3) := by decide +kernel
theorem dX6_digit_38 : decode cX6_digit 38 = .ok (.aload_n 0, 1) := by decide +kernel
theorem dX6_digit_39 : decode cX6_digit 39 = .ok (.getfield 109, 3) := by decide +kernel
theorem dX6_digit_42 : decode cX6_digit 42 = .ok (.ifCond .eq 7, 3) := by decide +kernel
theorem dX6_digit_45 : decode cX6_digit 45 = .ok (.iconst 0, 1) := by decide +kernel
theorem dX6_digit_46 : decode cX6_digit 46 = .ok (.goto 4, 3) := by decide +kernel
theorem dX6_digit_49 : decode cX6_digit 49 = .ok (.iconst 1, 1) := by decide +kernel
theorem dX6_digit_50 : decode cX6_digit 50 = .ok (.iadd, 1) := by decide +kernel
theorem dX6_digit_51 : decode cX6_digit 51 = .ok (.putfield 106, 3) := by decide +kernel
theorem dX6_digit_54 : decode cX6_digit 54 = .ok (.iload_n 3, 1) := by decide +kernel
theorem dX6_digit_55 : decode cX6_digit 55 = .ok (.ireturn, 1) := by decide +kernel
theorem dX6_column_0 : decode cX6_column 0 = .ok (.aload_n 0, 1) := by decide +kernel
theorem dX6_column_1 : decode cX6_column 1 = .ok (.iconst 0, 1) := by decide +kernel
theorem dX6_column_2 : decode cX6_column 2 = .ok (.bipush 9, 2) := by decide +kernel
theorem dX6_column_4 : decode cX6_column 4 = .ok (.invokevirtual 117, 3) := by decide +kernel
theorem dX6_column_7 : decode cX6_column 7 = .ok (.istore_n 2, 1) := by decide +kernel
theorem dX6_column_8 : decode cX6_column 8 = .ok (.iload_n 2, 1) := by decide +kernel
theorem dX6_column_9 : decode cX6_column 9 = .ok (.ifCond .eq 8, 3) := by decide +kernel
theorem dX6_column_12 : decode cX6_column 12 = .ok (.iload_n 2, 1) := by decide +kernel
theorem dX6_column_13 : decode cX6_column 13 = .ok (.iconst 3, 1) := by decide +kernel
theorem dX6_column_14 : decode cX6_column 14 = .ok (.if_icmp .le 7, 3) := by decide +kernel
theorem dX6_column_17 : decode cX6_column 17 = .ok (.iload_n 2, 1) := by decide +kernel
theorem dX6_column_18 : decode cX6_column 18 = .ok (.goto 20, 3) := by decide +kernel
theorem dX6_column_21 : decode cX6_column 21 = .ok (.iload_n 2, 1) := by decide +kernel
theorem dX6_column_22 : decode cX6_column 22 = .ok (.iconst 3, 1) := by decide +kernel
theorem dX6_column_23 : decode cX6_column 23 = .ok (.if_icmp .ne 8, 3) := by decide +kernel
theorem dX6_column_26 : decode cX6_column 26 = .ok (.bipush 31, 2) := by decide +kernel
theorem dX6_column_28 : decode cX6_column 28 = .ok (.goto 10, 3) := by decide +kernel
theorem dX6_column_31 : decode cX6_column 31 = .ok (.bipush 10, 2) := by decide +kernel
theorem dX6_column_33 : decode cX6_column 33 = .ok (.iload_n 2, 1) := by decide +kernel
theorem dX6_column_34 : decode cX6_column 34 = .ok (.imul, 1) := by decide +kernel
theorem dX6_column_35 : decode cX6_column 35 = .ok (.bipush 9, 2) := by decide +kernel
theorem dX6_column_37 : decode cX6_column 37 = .ok (.iadd, 1) := by decide +kernel
theorem dX6_column_38 : decode cX6_column 38 = .ok (.istore_n 3, 1) := by decide +kernel
theorem dX6_column_39 : decode cX6_column 39 = .ok (.aload_n 0, 1) := by decide +kernel
theorem dX6_column_40 : decode cX6_column 40 = .ok (.getfield 109, 3) := by decide +kernel
theorem dX6_column_43 : decode cX6_column 43 = .ok (.ifCond .eq 5, 3) := by decide +kernel
theorem dX6_column_46 : decode cX6_column 46 = .ok (.iconst 0, 1) := by decide +kernel
theorem dX6_column_47 : decode cX6_column 47 = .ok (.ireturn, 1) := by decide +kernel
theorem dX6_column_48 : decode cX6_column 48 = .ok (.iload_n 3, 1) := by decide +kernel
theorem dX6_column_49 : decode cX6_column 49 = .ok (.iload_n 1, 1) := by decide +kernel
theorem dX6_column_50 : decode cX6_column 50 = .ok (.if_icmp .ge 20, 3) := by decide +kernel
theorem dX6_column_53 : decode cX6_column 53 = .ok (.aload_n 0, 1) := by decide +kernel
theorem dX6_column_54 : decode cX6_column 54 = .ok (.dup, 1) := by decide +kernel
theorem dX6_column_55 : decode cX6_column 55 = .ok (.getfield 106, 3) := by decide +kernel
theorem dX6_column_58 : decode cX6_column 58 = .ok (.iconst 1, 1) := by decide +kernel
theorem dX6_column_59 : decode cX6_column 59 = .ok (.isub, 1) := by decide +kernel
theorem dX6_column_60 : decode cX6_column 60 = .ok (.putfield 106, 3) := by decide +kernel
theorem dX6_column_63 : decode cX6_column 63 = .ok (.aload_n 0, 1) := by decide +kernel
theorem dX6_column_64 : decode cX6_column 64 = .ok (.iconst 1, 1) := by decide +kernel
theorem dX6_column_65 : decode cX6_column 65 = .ok (.putfield 109, 3) := by decide +kernel
theorem dX6_column_68 : decode cX6_column 68 = .ok (.iconst 0, 1) := by decide +kernel
theorem dX6_column_69 : decode cX6_column 69 = .ok (.ireturn, 1) := by decide +kernel
theorem dX6_column_70 : decode cX6_column 70 = .ok (.bipush 10, 2) := by decide +kernel
theorem dX6_column_72 : decode cX6_column 72 = .ok (.iload_n 2, 1) := by decide +kernel
theorem dX6_column_73 : decode cX6_column 73 = .ok (.imul, 1) := by decide +kernel
theorem dX6_column_74 : decode cX6_column 74 = .ok (.aload_n 0, 1) := by decide +kernel
theorem dX6_column_75 : decode cX6_column 75 = .ok (.invokevirtual 113, 3) := by decide +kernel
theorem dX6_column_78 : decode cX6_column 78 = .ok (.iadd, 1) := by decide +kernel
theorem dX6_column_79 : decode cX6_column 79 = .ok (.bipush 48, 2) := by decide +kernel
theorem dX6_column_81 : decode cX6_column 81 = .ok (.isub, 1) := by decide +kernel
theorem dX6_column_82 : decode cX6_column 82 = .ok (.istore 4, 2) := by decide +kernel
theorem dX6_column_84 : decode cX6_column 84 = .ok (.aload_n 0, 1) := by decide +kernel
theorem dX6_column_85 : decode cX6_column 85 = .ok (.invokevirtual 113, 3) := by decide +kernel
theorem dX6_column_88 : decode cX6_column 88 = .ok (.bipush 48, 2) := by decide +kernel
theorem dX6_column_90 : decode cX6_column 90 = .ok (.bipush 57, 2) := by decide +kernel
theorem dX6_column_92 : decode cX6_column 92 = .ok (.invokestatic 31, 3) := by decide +kernel
theorem dX6_column_95 : decode cX6_column 95 = .ok (.ifCond .eq 31, 3) := by decide +kernel
theorem dX6_column_98 : decode cX6_column 98 = .ok (.iload_n 2, 1) := by decide +kernel
theorem dX6_column_99 : decode cX6_column 99 = .ok (.ifCond .le 27, 3) := by decide +kernel
theorem dX6_column_102 : decode cX6_column 102 = .ok (.iload 4, 2) := by decide +kernel
theorem dX6_column_104 : decode cX6_column 104 = .ok (.iload_n 1, 1) := by decide +kernel
theorem dX6_column_105 : decode cX6_column 105 = .ok (.bipush 31, 2) := by decide +kernel
theorem dX6_column_107 : decode cX6_column 107 = .ok (.invokestatic 31, 3) := by decide +kernel
theorem dX6_column_110 : decode cX6_column 110 = .ok (.ifCond .eq 16, 3) := by decide +kernel
theorem dX6_column_113 : decode cX6_column 113 = .ok (.aload_n 0, 1) := by decide +kernel
theorem dX6_column_114 : decode cX6_column 114 = .ok (.dup, 1) := by decide +kernel
theorem dX6_column_115 : decode cX6_column 115 = .ok (.getfield 106, 3) := by decide +kernel
theorem dX6_column_118 : decode cX6_column 118 = .ok (.iconst 1, 1) := by decide +kernel
theorem dX6_column_119 : decode cX6_column 119 = .ok (.iadd, 1) := by decide +kernel
theorem dX6_column_120 : decode cX6_column 120 = .ok (.putfield 106, 3) := by decide +kernel
theorem dX6_column_123 : decode cX6_column 123 = .ok (.iload 4, 2) := by decide +kernel
theorem dX6_column_125 : decode cX6_column 125 = .ok (.ireturn, 1) := by decide +kernel
theorem dX6_column_126 : decode cX6_column 126 = .ok (.aload_n 0, 1) := by decide +kernel
theorem dX6_column_127 : decode cX6_column 127 = .ok (.iload_n 2, 1) := by decide +kernel
theorem dX6_column_128 : decode cX6_column 128 = .ok (.iload_n 1, 1) := by decide +kernel
theorem dX6_column_129 : decode cX6_column 129 = .ok (.if_icmp .ge 7, 3) := by decide +kernel
theorem dX6_column_132 : decode cX6_column 132 = .ok (.iconst 1, 1) := by decide +kernel
theorem dX6_column_133 : decode cX6_column 133 = .ok (.goto 4, 3) := by decide +kernel
theorem dX6_column_136 : decode cX6_column 136 = .ok (.iconst 0, 1) := by decide +kernel
theorem dX6_column_137 : decode cX6_column 137 = .ok (.putfield 109, 3) := by decide +kernel
theorem dX6_column_140 : decode cX6_column 140 = .ok (.iload_n 2, 1) := by decide +kernel
theorem dX6_column_141 : decode cX6_column 141 = .ok (.ireturn, 1) := by decide +kernel
theorem dX6_shape_0 : decode cX6_shape 0 = .ok (.aload_n 0, 1) := by decide +kernel
theorem dX6_shape_1 : decode cX6_shape 1 = .ok (.aload_n 0, 1) := by decide +kernel
theorem dX6_shape_2 : decode cX6_shape 2 = .ok (.iconst 0, 1) := by decide +kernel
theorem dX6_shape_3 : decode cX6_shape 3 = .ok (.bipush 7, 2) := by decide +kernel
theorem dX6_shape_5 : decode cX6_shape 5 = .ok (.invokevirtual 117, 3) := by decide +kernel
theorem dX6_shape_8 : decode cX6_shape 8 = .ok (.putfield 120, 3) := by decide +kernel
theorem dX6_shape_11 : decode cX6_shape 11 = .ok (.aload_n 0, 1) := by decide +kernel
theorem dX6_shape_12 : decode cX6_shape 12 = .ok (.aload_n 0, 1) := by decide +kernel
theorem dX6_shape_13 : decode cX6_shape 13 = .ok (.getfield 120, 3) := by decide +kernel
theorem dX6_shape_16 : decode cX6_shape 16 = .ok (.putfield 123, 3) := by decide +kernel
theorem dX6_shape_19 : decode cX6_shape 19 = .ok (.aload_n 0, 1) := by decide +kernel
theorem dX6_shape_20 : decode cX6_shape 20 = .ok (.bipush 45, 2) := by decide +kernel
theorem dX6_shape_22 : decode cX6_shape 22 = .ok (.invokevirtual 126, 3) := by decide +kernel
theorem dX6_shape_25 : decode cX6_shape 25 = .ok (.ifCond .eq 27, 3) := by decide +kernel
theorem dX6_shape_28 : decode cX6_shape 28 = .ok (.aload_n 0, 1) := by decide +kernel
theorem dX6_shape_29 : decode cX6_shape 29 = .ok (.dup, 1) := by decide +kernel
theorem dX6_shape_30 : decode cX6_shape 30 = .ok (.getfield 106, 3) := by decide +kernel
theorem dX6_shape_33 : decode cX6_shape 33 = .ok (.iconst 1, 1) := by decide +kernel
theorem dX6_shape_34 : decode cX6_shape 34 = .ok (.iadd, 1) := by decide +kernel
theorem dX6_shape_35 : decode cX6_shape 35 = .ok (.putfield 106, 3) := by decide +kernel
theorem dX6_shape_38 : decode cX6_shape 38 = .ok (.aload_n 0, 1) := by decide +kernel
theorem dX6_shape_39 : decode cX6_shape 39 = .ok (.aload_n 0, 1) := by decide +kernel
theorem dX6_shape_40 : decode cX6_shape 40 = .ok (.aload_n 0, 1) := by decide +kernel
theorem dX6_shape_41 : decode cX6_shape 41 = .ok (.getfield 120, 3) := by decide +kernel
theorem dX6_shape_44 : decode cX6_shape 44 = .ok (.bipush 7, 2) := by decide +kernel
theorem dX6_shape_46 : decode cX6_shape 46 = .ok (.invokevirtual 117, 3) := by decide +kernel
theorem dX6_shape_49 : decode cX6_shape 49 = .ok (.putfield 123, 3) := by decide +kernel
theorem dX6_shape_52 : decode cX6_shape 52 = .ok (.aload_n 0, 1) := by decide +kernel
theorem dX6_shape_53 : decode cX6_shape 53 = .ok (.bipush 44, 2) := by decide +kernel
theorem dX6_shape_55 : decode cX6_shape 55 = .ok (.invokevirtual 129, 3) := by decide +kernel
theorem dX6_shape_58 : decode cX6_shape 58 = .ok (.aload_n 0, 1) := by decide +kernel
theorem dX6_shape_59 : decode cX6_shape 59 = .ok (.aload_n 0, 1) := by decide +kernel
theorem dX6_shape_60 : decode cX6_shape 60 = .ok (.iconst 0, 1) := by decide +kernel
theorem dX6_shape_61 : decode cX6_shape 61 = .ok (.invokevirtual 132, 3) := by decide +kernel
theorem dX6_shape_64 : decode cX6_shape 64 = .ok (.putfield 135, 3) := by decide +kernel
theorem dX6_shape_67 : decode cX6_shape 67 = .ok (.aload_n 0, 1) := by decide +kernel
theorem dX6_shape_68 : decode cX6_shape 68 = .ok (.aload_n 0, 1) := by decide +kernel
theorem dX6_shape_69 : decode cX6_shape 69 = .ok (.getfield 135, 3) := by decide +kernel
theorem dX6_shape_72 : decode cX6_shape 72 = .ok (.putfield 138, 3) := by decide +kernel
theorem dX6_shape_75 : decode cX6_shape 75 = .ok (.aload_n 0, 1) := by decide +kernel
theorem dX6_shape_76 : decode cX6_shape 76 = .ok (.bipush 45, 2) := by decide +kernel
theorem dX6_shape_78 : decode cX6_shape 78 = .ok (.invokevirtual 126, 3) := by decide +kernel
theorem dX6_shape_81 : decode cX6_shape 81 = .ok (.ifCond .eq 25, 3) := by decide +kernel
theorem dX6_shape_84 : decode cX6_shape 84 = .ok (.aload_n 0, 1) := by decide +kernel
theorem dX6_shape_85 : decode cX6_shape 85 = .ok (.dup, 1) := by decide +kernel
theorem dX6_shape_86 : decode cX6_shape 86 = .ok (.getfield 106, 3) := by decide +kernel
theorem dX6_shape_89 : decode cX6_shape 89 = .ok (.iconst 1, 1) := by decide +kernel
theorem dX6_shape_90 : decode cX6_shape 90 = .ok (.iadd, 1) := by decide +kernel
theorem dX6_shape_91 : decode cX6_shape 91 = .ok (.putfield 106, 3) := by decide +kernel
theorem dX6_shape_94 : decode cX6_shape 94 = .ok (.aload_n 0, 1) := by decide +kernel
theorem dX6_shape_95 : decode cX6_shape 95 = .ok (.aload_n 0, 1) := by decide +kernel
theorem dX6_shape_96 : decode cX6_shape 96 = .ok (.aload_n 0, 1) := by decide +kernel
theorem dX6_shape_97 : decode cX6_shape 97 = .ok (.getfield 135, 3) := by decide +kernel
theorem dX6_shape_100 : decode cX6_shape 100 = .ok (.invokevirtual 132, 3) := by decide +kernel
theorem dX6_shape_103 : decode cX6_shape 103 = .ok (.putfield 138, 3) := by decide +kernel
theorem dX6_shape_106 : decode cX6_shape 106 = .ok (.aload_n 0, 1) := by decide +kernel
theorem dX6_shape_107 : decode cX6_shape 107 = .ok (.bipush 58, 2) := by decide +kernel
theorem dX6_shape_109 : decode cX6_shape 109 = .ok (.invokevirtual 129, 3) := by decide +kernel
theorem dX6_shape_112 : decode cX6_shape 112 = .ok (.aload_n 0, 1) := by decide +kernel
theorem dX6_shape_113 : decode cX6_shape 113 = .ok (.aload_n 0, 1) := by decide +kernel
theorem dX6_shape_114 : decode cX6_shape 114 = .ok (.iconst 0, 1) := by decide +kernel
theorem dX6_shape_115 : decode cX6_shape 115 = .ok (.iconst 4, 1) := by decide +kernel
theorem dX6_shape_116 : decode cX6_shape 116 = .ok (.invokevirtual 117, 3) := by decide +kernel
theorem dX6_shape_119 : decode cX6_shape 119 = .ok (.putfield 141, 3) := by decide +kernel
theorem dX6_shape_122 : decode cX6_shape 122 = .ok (.return_, 1) := by decide +kernel
theorem dX6_goesWrong_0 : decode cX6_goesWrong 0 = .ok (.aload_n 0, 1) := by decide +kernel
theorem dX6_goesWrong_1 : decode cX6_goesWrong 1 = .ok (.iconst 0, 1) := by decide +kernel
theorem dX6_goesWrong_2 : decode cX6_goesWrong 2 = .ok (.putfield 106, 3) := by decide +kernel
theorem dX6_goesWrong_5 : decode cX6_goesWrong 5 = .ok (.aload_n 0, 1) := by decide +kernel
theorem dX6_goesWrong_6 : decode cX6_goesWrong 6 = .ok (.iconst 0, 1) := by decide +kernel
theorem dX6_goesWrong_7 : decode cX6_goesWrong 7 = .ok (.putfield 109, 3) := by decide +kernel
theorem dX6_goesWrong_10 : decode cX6_goesWrong 10 = .ok (.iconst 1, 1) := by decide +kernel
theorem dX6_goesWrong_11 : decode cX6_goesWrong 11 = .ok (.istore_n 2, 1) := by decide +kernel
theorem dX6_goesWrong_12 : decode cX6_goesWrong 12 = .ok (.iload_n 2, 1) := by decide +kernel
theorem dX6_goesWrong_13 : decode cX6_goesWrong 13 = .ok (.ifCond .eq 92, 3) := by decide +kernel
theorem dX6_goesWrong_16 : decode cX6_goesWrong 16 = .ok (.aload_n 0, 1) := by decide +kernel
theorem dX6_goesWrong_17 : decode cX6_goesWrong 17 = .ok (.invokevirtual 144, 3) := by decide +kernel
theorem dX6_goesWrong_20 : decode cX6_goesWrong 20 = .ok (.aload_n 0, 1) := by decide +kernel
theorem dX6_goesWrong_21 : decode cX6_goesWrong 21 = .ok (.getfield 109, 3) := by decide +kernel
theorem dX6_goesWrong_24 : decode cX6_goesWrong 24 = .ok (.ifCond .ne 31, 3) := by decide +kernel
theorem dX6_goesWrong_27 : decode cX6_goesWrong 27 = .ok (.iload_n 1, 1) := by decide +kernel
theorem dX6_goesWrong_28 : decode cX6_goesWrong 28 = .ok (.ifCond .eq 27, 3) := by decide +kernel
theorem dX6_goesWrong_31 : decode cX6_goesWrong 31 = .ok (.aload_n 0, 1) := by decide +kernel
theorem dX6_goesWrong_32 : decode cX6_goesWrong 32 = .ok (.aload_n 0, 1) := by decide +kernel
theorem dX6_goesWrong_33 : decode cX6_goesWrong 33 = .ok (.getfield 120, 3) := by decide +kernel
theorem dX6_goesWrong_36 : decode cX6_goesWrong 36 = .ok (.aload_n 0, 1) := by decide +kernel
theorem dX6_goesWrong_37 : decode cX6_goesWrong 37 = .ok (.getfield 135, 3) := by decide +kernel
theorem dX6_goesWrong_40 : decode cX6_goesWrong 40 = .ok (.aload_n 0, 1) := by decide +kernel
theorem dX6_goesWrong_41 : decode cX6_goesWrong 41 = .ok (.getfield 123, 3) := by decide +kernel
theorem dX6_goesWrong_44 : decode cX6_goesWrong 44 = .ok (.aload_n 0, 1) := by decide +kernel
theorem dX6_goesWrong_45 : decode cX6_goesWrong 45 = .ok (.getfield 138, 3) := by decide +kernel
theorem dX6_goesWrong_48 : decode cX6_goesWrong 48 = .ok (.aload_n 0, 1) := by decide +kernel
theorem dX6_goesWrong_49 : decode cX6_goesWrong 49 = .ok (.getfield 141, 3) := by decide +kernel
theorem dX6_goesWrong_52 : decode cX6_goesWrong 52 = .ok (.invokevirtual 87, 3) := by decide +kernel
theorem dX6_goesWrong_55 : decode cX6_goesWrong 55 = .ok (.aload_n 0, 1) := by decide +kernel
theorem dX6_goesWrong_56 : decode cX6_goesWrong 56 = .ok (.getfield 109, 3) := by decide +kernel
theorem dX6_goesWrong_59 : decode cX6_goesWrong 59 = .ok (.ifCond .ne 18, 3) := by decide +kernel
theorem dX6_goesWrong_62 : decode cX6_goesWrong 62 = .ok (.aload_n 0, 1) := by decide +kernel
theorem dX6_goesWrong_63 : decode cX6_goesWrong 63 = .ok (.getfield 106, 3) := by decide +kernel
theorem dX6_goesWrong_66 : decode cX6_goesWrong 66 = .ok (.aload_n 0, 1) := by decide +kernel
theorem dX6_goesWrong_67 : decode cX6_goesWrong 67 = .ok (.getfield 103, 3) := by decide +kernel
theorem dX6_goesWrong_70 : decode cX6_goesWrong 70 = .ok (.if_icmp .ge 7, 3) := by decide +kernel
theorem dX6_goesWrong_73 : decode cX6_goesWrong 73 = .ok (.iconst 1, 1) := by decide +kernel
theorem dX6_goesWrong_74 : decode cX6_goesWrong 74 = .ok (.goto 4, 3) := by decide +kernel
theorem dX6_goesWrong_77 : decode cX6_goesWrong 77 = .ok (.iconst 0, 1) := by decide +kernel
theorem dX6_goesWrong_78 : decode cX6_goesWrong 78 = .ok (.istore_n 2, 1) := by decide +kernel
theorem dX6_goesWrong_79 : decode cX6_goesWrong 79 = .ok (.iload_n 2, 1) := by decide +kernel
theorem dX6_goesWrong_80 : decode cX6_goesWrong 80 = .ok (.ifCond .eq (-68), 3) := by decide +kernel
theorem dX6_goesWrong_83 : decode cX6_goesWrong 83 = .ok (.aload_n 0, 1) := by decide +kernel
theorem dX6_goesWrong_84 : decode cX6_goesWrong 84 = .ok (.bipush 59, 2) := by decide +kernel
theorem dX6_goesWrong_86 : decode cX6_goesWrong 86 = .ok (.invokevirtual 129, 3) := by decide +kernel
theorem dX6_goesWrong_89 : decode cX6_goesWrong 89 = .ok (.aload_n 0, 1) := by decide +kernel
theorem dX6_goesWrong_90 : decode cX6_goesWrong 90 = .ok (.getfield 109, 3) := by decide +kernel
theorem dX6_goesWrong_93 : decode cX6_goesWrong 93 = .ok (.ifCond .ne 7, 3) := by decide +kernel
theorem dX6_goesWrong_96 : decode cX6_goesWrong 96 = .ok (.iconst 1, 1) := by decide +kernel
theorem dX6_goesWrong_97 : decode cX6_goesWrong 97 = .ok (.goto 4, 3) := by decide +kernel
theorem dX6_goesWrong_100 : decode cX6_goesWrong 100 = .ok (.iconst 0, 1) := by decide +kernel
theorem dX6_goesWrong_101 : decode cX6_goesWrong 101 = .ok (.istore_n 2, 1) := by decide +kernel
theorem dX6_goesWrong_102 : decode cX6_goesWrong 102 = .ok (.goto (-90), 3) := by decide +kernel
theorem dX6_goesWrong_105 : decode cX6_goesWrong 105 = .ok (.aload_n 0, 1) := by decide +kernel
theorem dX6_goesWrong_106 : decode cX6_goesWrong 106 = .ok (.getfield 109, 3) := by decide +kernel
theorem dX6_goesWrong_109 : decode cX6_goesWrong 109 = .ok (.ireturn, 1) := by decide +kernel
theorem dX6_isNoStrip_0 : decode cX6_isNoStrip 0 = .ok (.aload_n 0, 1) := by decide +kernel
theorem dX6_isNoStrip_1 : decode cX6_isNoStrip 1 = .ok (.iconst 0, 1) := by decide +kernel
theorem dX6_isNoStrip_2 : decode cX6_isNoStrip 2 = .ok (.putfield 106, 3) := by decide +kernel
theorem dX6_isNoStrip_5 : decode cX6_isNoStrip 5 = .ok (.aload_n 0, 1) := by decide +kernel
theorem dX6_isNoStrip_6 : decode cX6_isNoStrip 6 = .ok (.aload_n 0, 1) := by decide +kernel
theorem dX6_isNoStrip_7 : decode cX6_isNoStrip 7 = .ok (.getfield 103, 3) := by decide +kernel
theorem dX6_isNoStrip_10 : decode cX6_isNoStrip 10 = .ok (.ifCond .ne 7, 3) := by decide +kernel
theorem dX6_isNoStrip_13 : decode cX6_isNoStrip 13 = .ok (.iconst 1, 1) := by decide +kernel
theorem dX6_isNoStrip_14 : decode cX6_isNoStrip 14 = .ok (.goto 4, 3) := by decide +kernel
theorem dX6_isNoStrip_17 : decode cX6_isNoStrip 17 = .ok (.iconst 0, 1) := by decide +kernel
theorem dX6_isNoStrip_18 : decode cX6_isNoStrip 18 = .ok (.putfield 109, 3) := by decide +kernel
theorem dX6_isNoStrip_21 : decode cX6_isNoStrip 21 = .ok (.aload_n 0, 1) := by decide +kernel
theorem dX6_isNoStrip_22 : decode cX6_isNoStrip 22 = .ok (.getfield 109, 3) := by decide +kernel
theorem dX6_isNoStrip_25 : decode cX6_isNoStrip 25 = .ok (.ifCond .ne 75, 3) := by decide +kernel
theorem dX6_isNoStrip_28 : decode cX6_isNoStrip 28 = .ok (.aload_n 0, 1) := by decide +kernel
theorem dX6_isNoStrip_29 : decode cX6_isNoStrip 29 = .ok (.getfield 106, 3) := by decide +kernel
theorem dX6_isNoStrip_32 : decode cX6_isNoStrip 32 = .ok (.aload_n 0, 1) := by decide +kernel
theorem dX6_isNoStrip_33 : decode cX6_isNoStrip 33 = .ok (.getfield 103, 3) := by decide +kernel
theorem dX6_isNoStrip_36 : decode cX6_isNoStrip 36 = .ok (.if_icmp .ge 64, 3) := by decide +kernel
theorem dX6_isNoStrip_39 : decode cX6_isNoStrip 39 = .ok (.aload_n 0, 1) := by decide +kernel
theorem dX6_isNoStrip_40 : decode cX6_isNoStrip 40 = .ok (.aload_n 0, 1) := by decide +kernel
theorem dX6_isNoStrip_41 : decode cX6_isNoStrip 41 = .ok (.getfield 106, 3) := by decide +kernel
theorem dX6_isNoStrip_44 : decode cX6_isNoStrip 44 = .ok (.bipush 24, 2) := by decide +kernel
theorem dX6_isNoStrip_46 : decode cX6_isNoStrip 46 = .ok (.if_icmp .eq 22, 3) := by decide +kernel
theorem dX6_isNoStrip_49 : decode cX6_isNoStrip 49 = .ok (.aload_n 0, 1) := by decide +kernel
theorem dX6_isNoStrip_50 : decode cX6_isNoStrip 50 = .ok (.getfield 22, 3) := by decide +kernel
theorem dX6_isNoStrip_53 : decode cX6_isNoStrip 53 = .ok (.aload_n 0, 1) := by decide +kernel
theorem dX6_isNoStrip_54 : decode cX6_isNoStrip 54 = .ok (.getfield 106, 3) := by decide +kernel
theorem dX6_isNoStrip_57 : decode cX6_isNoStrip 57 = .ok (.iaload, 1) := by decide +kernel
theorem dX6_isNoStrip_58 : decode cX6_isNoStrip 58 = .ok (.bipush 48, 2) := by decide +kernel
theorem dX6_isNoStrip_60 : decode cX6_isNoStrip 60 = .ok (.bipush 55, 2) := by decide +kernel
theorem dX6_isNoStrip_62 : decode cX6_isNoStrip 62 = .ok (.invokestatic 31, 3) := by decide +kernel
theorem dX6_isNoStrip_65 : decode cX6_isNoStrip 65 = .ok (.ifCond .ne 7, 3) := by decide +kernel
theorem dX6_isNoStrip_68 : decode cX6_isNoStrip 68 = .ok (.iconst 1, 1) := by decide +kernel
theorem dX6_isNoStrip_69 : decode cX6_isNoStrip 69 = .ok (.goto 4, 3) := by decide +kernel
theorem dX6_isNoStrip_72 : decode cX6_isNoStrip 72 = .ok (.iconst 0, 1) := by decide +kernel
theorem dX6_isNoStrip_73 : decode cX6_isNoStrip 73 = .ok (.putfield 109, 3) := by decide +kernel
theorem dX6_isNoStrip_76 : decode cX6_isNoStrip 76 = .ok (.aload_n 0, 1) := by decide +kernel
theorem dX6_isNoStrip_77 : decode cX6_isNoStrip 77 = .ok (.dup, 1) := by decide +kernel
theorem dX6_isNoStrip_78 : decode cX6_isNoStrip 78 = .ok (.getfield 106, 3) := by decide +kernel
theorem dX6_isNoStrip_81 : decode cX6_isNoStrip 81 = .ok (.aload_n 0, 1) := by decide +kernel
theorem dX6_isNoStrip_82 : decode cX6_isNoStrip 82 = .ok (.getfield 109, 3) := by decide +kernel
theorem dX6_isNoStrip_85 : decode cX6_isNoStrip 85 = .ok (.ifCond .eq 7, 3) := by decide +kernel
theorem dX6_isNoStrip_88 : decode cX6_isNoStrip 88 = .ok (.iconst 0, 1) := by decide +kernel
theorem dX6_isNoStrip_89 : decode cX6_isNoStrip 89 = .ok (.goto 4, 3) := by decide +kernel
theorem dX6_isNoStrip_92 : decode cX6_isNoStrip 92 = .ok (.iconst 1, 1) := by decide +kernel
theorem dX6_isNoStrip_93 : decode cX6_isNoStrip 93 = .ok (.iadd, 1) := by decide +kernel
theorem dX6_isNoStrip_94 : decode cX6_isNoStrip 94 = .ok (.putfield 106, 3) := by decide +kernel
theorem dX6_isNoStrip_97 : decode cX6_isNoStrip 97 = .ok (.goto (-76), 3) := by decide +kernel
theorem dX6_isNoStrip_100 : decode cX6_isNoStrip 100 = .ok (.aload_n 0, 1) := by decide +kernel
theorem dX6_isNoStrip_101 : decode cX6_isNoStrip 101 = .ok (.getfield 109, 3) := by decide +kernel
theorem dX6_isNoStrip_104 : decode cX6_isNoStrip 104 = .ok (.ireturn, 1) := by decide +kernel
theorem dX6_fault_0 : decode cX6_fault 0 = .ok (.iload_n 1, 1) := by decide +kernel
theorem dX6_fault_1 : decode cX6_fault 1 = .ok (.iconst 0, 1) := by decide +kernel
theorem dX6_fault_2 : decode cX6_fault 2 = .ok (.iconst 1, 1) := by decide +kernel
theorem dX6_fault_3 : decode cX6_fault 3 = .ok (.invokestatic 31, 3) := by decide +kernel
theorem dX6_fault_6 : decode cX6_fault 6 = .ok (.ifCond .ne 5, 3) := by decide +kernel
theorem dX6_fault_9 : decode cX6_fault 9 = .ok (.iconst (-1), 1) := by decide +kernel
theorem dX6_fault_10 : decode cX6_fault 10 = .ok (.ireturn, 1) := by decide +kernel
theorem dX6_fault_11 : decode cX6_fault 11 = .ok (.iload_n 1, 1) := by decide +kernel
theorem dX6_fault_12 : decode cX6_fault 12 = .ok (.ifCond .ne 11, 3) := by decide +kernel
theorem dX6_fault_15 : decode cX6_fault 15 = .ok (.aload_n 0, 1) := by decide +kernel
theorem dX6_fault_16 : decode cX6_fault 16 = .ok (.iconst 0, 1) := by decide +kernel
theorem dX6_fault_17 : decode cX6_fault 17 = .ok (.invokevirtual 147, 3) := by decide +kernel
theorem dX6_fault_20 : decode cX6_fault 20 = .ok (.goto 7, 3) := by decide +kernel
theorem dX6_fault_23 : decode cX6_fault 23 = .ok (.aload_n 0, 1) := by decide +kernel
theorem dX6_fault_24 : decode cX6_fault 24 = .ok (.invokevirtual 151, 3) := by decide +kernel
theorem dX6_fault_27 : decode cX6_fault 27 = .ok (.istore_n 2, 1) := by decide +kernel
theorem dX6_fault_28 : decode cX6_fault 28 = .ok (.iload_n 2, 1) := by decide +kernel
theorem dX6_fault_29 : decode cX6_fault 29 = .ok (.ifCond .eq 10, 3) := by decide +kernel
theorem dX6_fault_32 : decode cX6_fault 32 = .ok (.aload_n 0, 1) := by decide +kernel
theorem dX6_fault_33 : decode cX6_fault 33 = .ok (.getfield 106, 3) := by decide +kernel
theorem dX6_fault_36 : decode cX6_fault 36 = .ok (.goto 5, 3) := by decide +kernel
theorem dX6_fault_39 : decode cX6_fault 39 = .ok (.bipush (-4), 2) := by decide +kernel
theorem dX6_fault_41 : decode cX6_fault 41 = .ok (.ireturn, 1) := by decide +kernel
theorem dX6_draw_0 : decode cX6_draw 0 = .ok (.aload_n 0, 1) := by decide +kernel
theorem dX6_draw_1 : decode cX6_draw 1 = .ok (.iconst 0, 1) := by decide +kernel
theorem dX6_draw_2 : decode cX6_draw 2 = .ok (.invokevirtual 147, 3) := by decide +kernel
theorem dX6_draw_5 : decode cX6_draw 5 = .ok (.ifCond .eq 6, 3) := by decide +kernel
theorem dX6_draw_8 : decode cX6_draw 8 = .ok (.bipush (-2), 2) := by decide +kernel
theorem dX6_draw_10 : decode cX6_draw 10 = .ok (.ireturn, 1) := by decide +kernel
theorem dX6_draw_11 : decode cX6_draw 11 = .ok (.aload_n 0, 1) := by decide +kernel
theorem dX6_draw_12 : decode cX6_draw 12 = .ok (.invokevirtual 81, 3) := by decide +kernel
theorem dX6_draw_15 : decode cX6_draw 15 = .ok (.aload_n 0, 1) := by decide +kernel
theorem dX6_draw_16 : decode cX6_draw 16 = .ok (.invokevirtual 84, 3) := by decide +kernel
theorem dX6_draw_19 : decode cX6_draw 19 = .ok (.aload_n 0, 1) := by decide +kernel
theorem dX6_draw_20 : decode cX6_draw 20 = .ok (.iconst 1, 1) := by decide +kernel
theorem dX6_draw_21 : decode cX6_draw 21 = .ok (.invokevirtual 147, 3) := by decide +kernel
theorem dX6_draw_24 : decode cX6_draw 24 = .ok (.istore_n 1, 1) := by decide +kernel
theorem dX6_draw_25 : decode cX6_draw 25 = .ok (.aload_n 0, 1) := by decide +kernel
theorem dX6_draw_26 : decode cX6_draw 26 = .ok (.iconst 0, 1) := by decide +kernel
theorem dX6_draw_27 : decode cX6_draw 27 = .ok (.putfield 103, 3) := by decide +kernel
theorem dX6_draw_30 : decode cX6_draw 30 = .ok (.aload_n 0, 1) := by decide +kernel
theorem dX6_draw_31 : decode cX6_draw 31 = .ok (.bipush 32, 2) := by decide +kernel
theorem dX6_draw_33 : decode cX6_draw 33 = .ok (.invokevirtual 91, 3) := by decide +kernel
theorem dX6_draw_36 : decode cX6_draw 36 = .ok (.ireturn, 1) := by decide +kernel
theorem dX6_wind_0 : decode cX6_wind 0 = .ok (.aload_n 0, 1) := by decide +kernel
theorem dX6_wind_1 : decode cX6_wind 1 = .ok (.invokevirtual 151, 3) := by decide +kernel
theorem dX6_wind_4 : decode cX6_wind 4 = .ok (.ifCond .eq 6, 3) := by decide +kernel
theorem dX6_wind_7 : decode cX6_wind 7 = .ok (.bipush (-2), 2) := by decide +kernel
theorem dX6_wind_9 : decode cX6_wind 9 = .ok (.ireturn, 1) := by decide +kernel
theorem dX6_wind_10 : decode cX6_wind 10 = .ok (.aload_n 0, 1) := by decide +kernel
theorem dX6_wind_11 : decode cX6_wind 11 = .ok (.invokevirtual 81, 3) := by decide +kernel
theorem dX6_wind_14 : decode cX6_wind 14 = .ok (.iconst 0, 1) := by decide +kernel
theorem dX6_wind_15 : decode cX6_wind 15 = .ok (.istore_n 1, 1) := by decide +kernel
theorem dX6_wind_16 : decode cX6_wind 16 = .ok (.iload_n 1, 1) := by decide +kernel
theorem dX6_wind_17 : decode cX6_wind 17 = .ok (.bipush 24, 2) := by decide +kernel
theorem dX6_wind_19 : decode cX6_wind 19 = .ok (.if_icmp .ge 39, 3) := by decide +kernel
theorem dX6_wind_22 : decode cX6_wind 22 = .ok (.aload_n 0, 1) := by decide +kernel
theorem dX6_wind_23 : decode cX6_wind 23 = .ok (.getfield 7, 3) := by decide +kernel
theorem dX6_wind_26 : decode cX6_wind 26 = .ok (.bipush 8, 2) := by decide +kernel
theorem dX6_wind_28 : decode cX6_wind 28 = .ok (.iload_n 1, 1) := by decide +kernel
theorem dX6_wind_29 : decode cX6_wind 29 = .ok (.iadd, 1) := by decide +kernel
theorem dX6_wind_30 : decode cX6_wind 30 = .ok (.iload_n 1, 1) := by decide +kernel
theorem dX6_wind_31 : decode cX6_wind 31 = .ok (.aload_n 0, 1) := by decide +kernel
theorem dX6_wind_32 : decode cX6_wind 32 = .ok (.getfield 103, 3) := by decide +kernel
theorem dX6_wind_35 : decode cX6_wind 35 = .ok (.if_icmp .ge 15, 3) := by decide +kernel
theorem dX6_wind_38 : decode cX6_wind 38 = .ok (.aload_n 0, 1) := by decide +kernel
theorem dX6_wind_39 : decode cX6_wind 39 = .ok (.getfield 22, 3) := by decide +kernel
theorem dX6_wind_42 : decode cX6_wind 42 = .ok (.iload_n 1, 1) := by decide +kernel
theorem dX6_wind_43 : decode cX6_wind 43 = .ok (.iaload, 1) := by decide +kernel
theorem dX6_wind_44 : decode cX6_wind 44 = .ok (.bipush 48, 2) := by decide +kernel
theorem dX6_wind_46 : decode cX6_wind 46 = .ok (.isub, 1) := by decide +kernel
theorem dX6_wind_47 : decode cX6_wind 47 = .ok (.goto 4, 3) := by decide +kernel
theorem dX6_wind_50 : decode cX6_wind 50 = .ok (.iconst 0, 1) := by decide +kernel
theorem dX6_wind_51 : decode cX6_wind 51 = .ok (.iastore, 1) := by decide +kernel
theorem dX6_wind_52 : decode cX6_wind 52 = .ok (.iinc 1 1, 3) := by decide +kernel
theorem dX6_wind_55 : decode cX6_wind 55 = .ok (.goto (-39), 3) := by decide +kernel
theorem dX6_wind_58 : decode cX6_wind 58 = .ok (.aload_n 0, 1) := by decide +kernel
theorem dX6_wind_59 : decode cX6_wind 59 = .ok (.getfield 7, 3) := by decide +kernel
theorem dX6_wind_62 : decode cX6_wind 62 = .ok (.bipush 7, 2) := by decide +kernel
theorem dX6_wind_64 : decode cX6_wind 64 = .ok (.aload_n 0, 1) := by decide +kernel
theorem dX6_wind_65 : decode cX6_wind 65 = .ok (.getfield 103, 3) := by decide +kernel
theorem dX6_wind_68 : decode cX6_wind 68 = .ok (.iastore, 1) := by decide +kernel
theorem dX6_wind_69 : decode cX6_wind 69 = .ok (.aload_n 0, 1) := by decide +kernel
theorem dX6_wind_70 : decode cX6_wind 70 = .ok (.iconst 0, 1) := by decide +kernel
theorem dX6_wind_71 : decode cX6_wind 71 = .ok (.putfield 103, 3) := by decide +kernel
theorem dX6_wind_74 : decode cX6_wind 74 = .ok (.aload_n 0, 1) := by decide +kernel
theorem dX6_wind_75 : decode cX6_wind 75 = .ok (.getfield 7, 3) := by decide +kernel
theorem dX6_wind_78 : decode cX6_wind 78 = .ok (.bipush 7, 2) := by decide +kernel
theorem dX6_wind_80 : decode cX6_wind 80 = .ok (.iaload, 1) := by decide +kernel
theorem dX6_wind_81 : decode cX6_wind 81 = .ok (.ireturn, 1) := by decide +kernel
theorem dX6_unwind_0 : decode cX6_unwind 0 = .ok (.aload_n 0, 1) := by decide +kernel
theorem dX6_unwind_1 : decode cX6_unwind 1 = .ok (.getfield 7, 3) := by decide +kernel
theorem dX6_unwind_4 : decode cX6_unwind 4 = .ok (.bipush 7, 2) := by decide +kernel
theorem dX6_unwind_6 : decode cX6_unwind 6 = .ok (.iaload, 1) := by decide +kernel
theorem dX6_unwind_7 : decode cX6_unwind 7 = .ok (.ifCond .ne 6, 3) := by decide +kernel
theorem dX6_unwind_10 : decode cX6_unwind 10 = .ok (.bipush (-2), 2) := by decide +kernel
theorem dX6_unwind_12 : decode cX6_unwind 12 = .ok (.ireturn, 1) := by decide +kernel
theorem dX6_unwind_13 : decode cX6_unwind 13 = .ok (.aload_n 0, 1) := by decide +kernel
theorem dX6_unwind_14 : decode cX6_unwind 14 = .ok (.invokevirtual 81, 3) := by decide +kernel
theorem dX6_unwind_17 : decode cX6_unwind 17 = .ok (.aload_n 0, 1) := by decide +kernel
theorem dX6_unwind_18 : decode cX6_unwind 18 = .ok (.getfield 7, 3) := by decide +kernel
theorem dX6_unwind_21 : decode cX6_unwind 21 = .ok (.bipush 7, 2) := by decide +kernel
theorem dX6_unwind_23 : decode cX6_unwind 23 = .ok (.iaload, 1) := by decide +kernel
theorem dX6_unwind_24 : decode cX6_unwind 24 = .ok (.istore_n 1, 1) := by decide +kernel
theorem dX6_unwind_25 : decode cX6_unwind 25 = .ok (.aload_n 0, 1) := by decide +kernel
theorem dX6_unwind_26 : decode cX6_unwind 26 = .ok (.getfield 7, 3) := by decide +kernel
theorem dX6_unwind_29 : decode cX6_unwind 29 = .ok (.bipush 7, 2) := by decide +kernel
theorem dX6_unwind_31 : decode cX6_unwind 31 = .ok (.iconst 0, 1) := by decide +kernel
theorem dX6_unwind_32 : decode cX6_unwind 32 = .ok (.iastore, 1) := by decide +kernel
theorem dX6_unwind_33 : decode cX6_unwind 33 = .ok (.iload_n 1, 1) := by decide +kernel
theorem dX6_unwind_34 : decode cX6_unwind 34 = .ok (.ireturn, 1) := by decide +kernel
theorem dX6_at_0 : decode cX6_at 0 = .ok (.iload_n 1, 1) := by decide +kernel
theorem dX6_at_1 : decode cX6_at 1 = .ok (.invokestatic 78, 3) := by decide +kernel
theorem dX6_at_4 : decode cX6_at 4 = .ok (.ifCond .eq 10, 3) := by decide +kernel
theorem dX6_at_7 : decode cX6_at 7 = .ok (.iload_n 2, 1) := by decide +kernel
theorem dX6_at_8 : decode cX6_at 8 = .ok (.invokestatic 52, 3) := by decide +kernel
theorem dX6_at_11 : decode cX6_at 11 = .ok (.ifCond .ne 5, 3) := by decide +kernel
theorem dX6_at_14 : decode cX6_at 14 = .ok (.iconst (-1), 1) := by decide +kernel
theorem dX6_at_15 : decode cX6_at 15 = .ok (.ireturn, 1) := by decide +kernel
theorem dX6_at_16 : decode cX6_at 16 = .ok (.iload_n 3, 1) := by decide +kernel
theorem dX6_at_17 : decode cX6_at 17 = .ok (.tableswitch 170 0 7 #[47, 54, 61, 88, 110, 117, 124, 131], 47) := by decide +kernel
theorem dX6_at_64 : decode cX6_at 64 = .ok (.aload_n 0, 1) := by decide +kernel
theorem dX6_at_65 : decode cX6_at 65 = .ok (.iload_n 1, 1) := by decide +kernel
theorem dX6_at_66 : decode cX6_at 66 = .ok (.iload_n 2, 1) := by decide +kernel
theorem dX6_at_67 : decode cX6_at 67 = .ok (.invokevirtual 43, 3) := by decide +kernel
theorem dX6_at_70 : decode cX6_at 70 = .ok (.ireturn, 1) := by decide +kernel
theorem dX6_at_71 : decode cX6_at 71 = .ok (.aload_n 0, 1) := by decide +kernel
theorem dX6_at_72 : decode cX6_at 72 = .ok (.iload_n 1, 1) := by decide +kernel
theorem dX6_at_73 : decode cX6_at 73 = .ok (.iload_n 2, 1) := by decide +kernel
theorem dX6_at_74 : decode cX6_at 74 = .ok (.invokevirtual 56, 3) := by decide +kernel
theorem dX6_at_77 : decode cX6_at 77 = .ok (.ireturn, 1) := by decide +kernel
theorem dX6_at_78 : decode cX6_at 78 = .ok (.aload_n 0, 1) := by decide +kernel
theorem dX6_at_79 : decode cX6_at 79 = .ok (.iload_n 1, 1) := by decide +kernel
theorem dX6_at_80 : decode cX6_at 80 = .ok (.invokevirtual 66, 3) := by decide +kernel
theorem dX6_at_83 : decode cX6_at 83 = .ok (.aload_n 0, 1) := by decide +kernel
theorem dX6_at_84 : decode cX6_at 84 = .ok (.getfield 25, 3) := by decide +kernel
theorem dX6_at_87 : decode cX6_at 87 = .ok (.iload_n 2, 1) := by decide +kernel
theorem dX6_at_88 : decode cX6_at 88 = .ok (.iaload, 1) := by decide +kernel
theorem dX6_at_89 : decode cX6_at 89 = .ok (.iconst (-1), 1) := by decide +kernel
theorem dX6_at_90 : decode cX6_at 90 = .ok (.if_icmp .ne 8, 3) := by decide +kernel
theorem dX6_at_93 : decode cX6_at 93 = .ok (.bipush (-4), 2) := by decide +kernel
theorem dX6_at_95 : decode cX6_at 95 = .ok (.goto 9, 3) := by decide +kernel
theorem dX6_at_98 : decode cX6_at 98 = .ok (.aload_n 0, 1) := by decide +kernel
theorem dX6_at_99 : decode cX6_at 99 = .ok (.getfield 25, 3) := by decide +kernel
theorem dX6_at_102 : decode cX6_at 102 = .ok (.iload_n 2, 1) := by decide +kernel
theorem dX6_at_103 : decode cX6_at 103 = .ok (.iaload, 1) := by decide +kernel
theorem dX6_at_104 : decode cX6_at 104 = .ok (.ireturn, 1) := by decide +kernel
theorem dX6_at_105 : decode cX6_at 105 = .ok (.aload_n 0, 1) := by decide +kernel
theorem dX6_at_106 : decode cX6_at 106 = .ok (.iload_n 1, 1) := by decide +kernel
theorem dX6_at_107 : decode cX6_at 107 = .ok (.iload_n 2, 1) := by decide +kernel
theorem dX6_at_108 : decode cX6_at 108 = .ok (.invokevirtual 46, 3) := by decide +kernel
theorem dX6_at_111 : decode cX6_at 111 = .ok (.iconst (-1), 1) := by decide +kernel
theorem dX6_at_112 : decode cX6_at 112 = .ok (.if_icmp .ne 8, 3) := by decide +kernel
theorem dX6_at_115 : decode cX6_at 115 = .ok (.bipush (-4), 2) := by decide +kernel
theorem dX6_at_117 : decode cX6_at 117 = .ok (.goto 9, 3) := by decide +kernel
theorem dX6_at_120 : decode cX6_at 120 = .ok (.aload_n 0, 1) := by decide +kernel
theorem dX6_at_121 : decode cX6_at 121 = .ok (.iload_n 1, 1) := by decide +kernel
theorem dX6_at_122 : decode cX6_at 122 = .ok (.iload_n 2, 1) := by decide +kernel
theorem dX6_at_123 : decode cX6_at 123 = .ok (.invokevirtual 46, 3) := by decide +kernel
theorem dX6_at_126 : decode cX6_at 126 = .ok (.ireturn, 1) := by decide +kernel
theorem dX6_at_127 : decode cX6_at 127 = .ok (.aload_n 0, 1) := by decide +kernel
theorem dX6_at_128 : decode cX6_at 128 = .ok (.iload_n 1, 1) := by decide +kernel
theorem dX6_at_129 : decode cX6_at 129 = .ok (.iload_n 2, 1) := by decide +kernel
theorem dX6_at_130 : decode cX6_at 130 = .ok (.invokevirtual 155, 3) := by decide +kernel
theorem dX6_at_133 : decode cX6_at 133 = .ok (.ireturn, 1) := by decide +kernel
theorem dX6_at_134 : decode cX6_at 134 = .ok (.aload_n 0, 1) := by decide +kernel
theorem dX6_at_135 : decode cX6_at 135 = .ok (.iload_n 1, 1) := by decide +kernel
theorem dX6_at_136 : decode cX6_at 136 = .ok (.iload_n 2, 1) := by decide +kernel
theorem dX6_at_137 : decode cX6_at 137 = .ok (.invokevirtual 49, 3) := by decide +kernel
theorem dX6_at_140 : decode cX6_at 140 = .ok (.ireturn, 1) := by decide +kernel
theorem dX6_at_141 : decode cX6_at 141 = .ok (.aload_n 0, 1) := by decide +kernel
theorem dX6_at_142 : decode cX6_at 142 = .ok (.iload_n 1, 1) := by decide +kernel
theorem dX6_at_143 : decode cX6_at 143 = .ok (.iload_n 2, 1) := by decide +kernel
theorem dX6_at_144 : decode cX6_at 144 = .ok (.invokevirtual 158, 3) := by decide +kernel
theorem dX6_at_147 : decode cX6_at 147 = .ok (.ireturn, 1) := by decide +kernel
theorem dX6_at_148 : decode cX6_at 148 = .ok (.aload_n 0, 1) := by decide +kernel
theorem dX6_at_149 : decode cX6_at 149 = .ok (.getfield 7, 3) := by decide +kernel
theorem dX6_at_152 : decode cX6_at 152 = .ok (.sipush 544, 3) := by decide +kernel
theorem dX6_at_155 : decode cX6_at 155 = .ok (.iload_n 1, 1) := by decide +kernel
theorem dX6_at_156 : decode cX6_at 156 = .ok (.iload_n 2, 1) := by decide +kernel
theorem dX6_at_157 : decode cX6_at 157 = .ok (.invokestatic 35, 3) := by decide +kernel
theorem dX6_at_160 : decode cX6_at 160 = .ok (.iadd, 1) := by decide +kernel
theorem dX6_at_161 : decode cX6_at 161 = .ok (.iaload, 1) := by decide +kernel
theorem dX6_at_162 : decode cX6_at 162 = .ok (.ifCond .ne 8, 3) := by decide +kernel
theorem dX6_at_165 : decode cX6_at 165 = .ok (.bipush (-4), 2) := by decide +kernel
theorem dX6_at_167 : decode cX6_at 167 = .ok (.goto 19, 3) := by decide +kernel
theorem dX6_at_170 : decode cX6_at 170 = .ok (.aload_n 0, 1) := by decide +kernel
theorem dX6_at_171 : decode cX6_at 171 = .ok (.getfield 7, 3) := by decide +kernel
theorem dX6_at_174 : decode cX6_at 174 = .ok (.sipush 544, 3) := by decide +kernel
theorem dX6_at_177 : decode cX6_at 177 = .ok (.iload_n 1, 1) := by decide +kernel
theorem dX6_at_178 : decode cX6_at 178 = .ok (.iload_n 2, 1) := by decide +kernel
theorem dX6_at_179 : decode cX6_at 179 = .ok (.invokestatic 35, 3) := by decide +kernel
theorem dX6_at_182 : decode cX6_at 182 = .ok (.iadd, 1) := by decide +kernel
theorem dX6_at_183 : decode cX6_at 183 = .ok (.iaload, 1) := by decide +kernel
theorem dX6_at_184 : decode cX6_at 184 = .ok (.iconst 1, 1) := by decide +kernel
theorem dX6_at_185 : decode cX6_at 185 = .ok (.isub, 1) := by decide +kernel
theorem dX6_at_186 : decode cX6_at 186 = .ok (.ireturn, 1) := by decide +kernel
theorem dX6_at_187 : decode cX6_at 187 = .ok (.iconst (-1), 1) := by decide +kernel
theorem dX6_at_188 : decode cX6_at 188 = .ok (.ireturn, 1) := by decide +kernel
theorem dX6_fits_0 : decode cX6_fits 0 = .ok (.iload_n 1, 1) := by decide +kernel
theorem dX6_fits_1 : decode cX6_fits 1 = .ok (.invokestatic 78, 3) := by decide +kernel
theorem dX6_fits_4 : decode cX6_fits 4 = .ok (.ifCond .eq 19, 3) := by decide +kernel
theorem dX6_fits_7 : decode cX6_fits 7 = .ok (.iload_n 2, 1) := by decide +kernel
theorem dX6_fits_8 : decode cX6_fits 8 = .ok (.invokestatic 52, 3) := by decide +kernel
theorem dX6_fits_11 : decode cX6_fits 11 = .ok (.ifCond .eq 12, 3) := by decide +kernel
theorem dX6_fits_14 : decode cX6_fits 14 = .ok (.iload_n 3, 1) := by decide +kernel
theorem dX6_fits_15 : decode cX6_fits 15 = .ok (.iconst 0, 1) := by decide +kernel
theorem dX6_fits_16 : decode cX6_fits 16 = .ok (.iconst 4, 1) := by decide +kernel
theorem dX6_fits_17 : decode cX6_fits 17 = .ok (.invokestatic 31, 3) := by decide +kernel
theorem dX6_fits_20 : decode cX6_fits 20 = .ok (.ifCond .ne 5, 3) := by decide +kernel
theorem dX6_fits_23 : decode cX6_fits 23 = .ok (.iconst (-1), 1) := by decide +kernel
theorem dX6_fits_24 : decode cX6_fits 24 = .ok (.ireturn, 1) := by decide +kernel
theorem dX6_fits_25 : decode cX6_fits 25 = .ok (.aload_n 0, 1) := by decide +kernel
theorem dX6_fits_26 : decode cX6_fits 26 = .ok (.iload_n 1, 1) := by decide +kernel
theorem dX6_fits_27 : decode cX6_fits 27 = .ok (.iload_n 2, 1) := by decide +kernel
theorem dX6_fits_28 : decode cX6_fits 28 = .ok (.iload_n 3, 1) := by decide +kernel
theorem dX6_fits_29 : decode cX6_fits 29 = .ok (.invokevirtual 59, 3) := by decide +kernel
theorem dX6_fits_32 : decode cX6_fits 32 = .ok (.ifCond .eq 7, 3) := by decide +kernel
theorem dX6_fits_35 : decode cX6_fits 35 = .ok (.iconst 1, 1) := by decide +kernel
theorem dX6_fits_36 : decode cX6_fits 36 = .ok (.goto 4, 3) := by decide +kernel
theorem dX6_fits_39 : decode cX6_fits 39 = .ok (.iconst 0, 1) := by decide +kernel
theorem dX6_fits_40 : decode cX6_fits 40 = .ok (.ireturn, 1) := by decide +kernel
theorem dX6_isOne_0 : decode cX6_isOne 0 = .ok (.aload_n 0, 1) := by decide +kernel
theorem dX6_isOne_1 : decode cX6_isOne 1 = .ok (.iload_n 1, 1) := by decide +kernel
theorem dX6_isOne_2 : decode cX6_isOne 2 = .ok (.iload_n 2, 1) := by decide +kernel
theorem dX6_isOne_3 : decode cX6_isOne 3 = .ok (.invokevirtual 46, 3) := by decide +kernel
theorem dX6_isOne_6 : decode cX6_isOne 6 = .ok (.istore 4, 2) := by decide +kernel
theorem dX6_isOne_8 : decode cX6_isOne 8 = .ok (.iload_n 3, 1) := by decide +kernel
theorem dX6_isOne_9 : decode cX6_isOne 9 = .ok (.tableswitch 162 0 6 #[43, 55, 71, 86, 114, 121, 146], 43) := by decide +kernel
theorem dX6_isOne_52 : decode cX6_isOne 52 = .ok (.iload 4, 2) := by decide +kernel
theorem dX6_isOne_54 : decode cX6_isOne 54 = .ok (.iconst (-1), 1) := by decide +kernel
theorem dX6_isOne_55 : decode cX6_isOne 55 = .ok (.if_icmp .ne 7, 3) := by decide +kernel
theorem dX6_isOne_58 : decode cX6_isOne 58 = .ok (.iconst 1, 1) := by decide +kernel
theorem dX6_isOne_59 : decode cX6_isOne 59 = .ok (.goto 4, 3) := by decide +kernel
theorem dX6_isOne_62 : decode cX6_isOne 62 = .ok (.iconst 0, 1) := by decide +kernel
theorem dX6_isOne_63 : decode cX6_isOne 63 = .ok (.ireturn, 1) := by decide +kernel
theorem dX6_isOne_64 : decode cX6_isOne 64 = .ok (.aload_n 0, 1) := by decide +kernel
theorem dX6_isOne_65 : decode cX6_isOne 65 = .ok (.iload_n 1, 1) := by decide +kernel
theorem dX6_isOne_66 : decode cX6_isOne 66 = .ok (.iload_n 2, 1) := by decide +kernel
theorem dX6_isOne_67 : decode cX6_isOne 67 = .ok (.invokevirtual 155, 3) := by decide +kernel
theorem dX6_isOne_70 : decode cX6_isOne 70 = .ok (.iconst 1, 1) := by decide +kernel
theorem dX6_isOne_71 : decode cX6_isOne 71 = .ok (.if_icmp .le 7, 3) := by decide +kernel
theorem dX6_isOne_74 : decode cX6_isOne 74 = .ok (.iconst 1, 1) := by decide +kernel
theorem dX6_isOne_75 : decode cX6_isOne 75 = .ok (.goto 4, 3) := by decide +kernel
theorem dX6_isOne_78 : decode cX6_isOne 78 = .ok (.iconst 0, 1) := by decide +kernel
theorem dX6_isOne_79 : decode cX6_isOne 79 = .ok (.ireturn, 1) := by decide +kernel
theorem dX6_isOne_80 : decode cX6_isOne 80 = .ok (.aload_n 0, 1) := by decide +kernel
theorem dX6_isOne_81 : decode cX6_isOne 81 = .ok (.iload_n 1, 1) := by decide +kernel
theorem dX6_isOne_82 : decode cX6_isOne 82 = .ok (.iload_n 2, 1) := by decide +kernel
theorem dX6_isOne_83 : decode cX6_isOne 83 = .ok (.invokevirtual 155, 3) := by decide +kernel
theorem dX6_isOne_86 : decode cX6_isOne 86 = .ok (.ifCond .ne 7, 3) := by decide +kernel
theorem dX6_isOne_89 : decode cX6_isOne 89 = .ok (.iconst 1, 1) := by decide +kernel
theorem dX6_isOne_90 : decode cX6_isOne 90 = .ok (.goto 4, 3) := by decide +kernel
theorem dX6_isOne_93 : decode cX6_isOne 93 = .ok (.iconst 0, 1) := by decide +kernel
theorem dX6_isOne_94 : decode cX6_isOne 94 = .ok (.ireturn, 1) := by decide +kernel
theorem dX6_isOne_95 : decode cX6_isOne 95 = .ok (.iload 4, 2) := by decide +kernel
theorem dX6_isOne_97 : decode cX6_isOne 97 = .ok (.iconst (-1), 1) := by decide +kernel
theorem dX6_isOne_98 : decode cX6_isOne 98 = .ok (.if_icmp .eq 23, 3) := by decide +kernel
theorem dX6_isOne_101 : decode cX6_isOne 101 = .ok (.aload_n 0, 1) := by decide +kernel
theorem dX6_isOne_102 : decode cX6_isOne 102 = .ok (.iload_n 1, 1) := by decide +kernel
theorem dX6_isOne_103 : decode cX6_isOne 103 = .ok (.iload 4, 2) := by decide +kernel
theorem dX6_isOne_105 : decode cX6_isOne 105 = .ok (.invokevirtual 56, 3) := by decide +kernel
theorem dX6_isOne_108 : decode cX6_isOne 108 = .ok (.aload_n 0, 1) := by decide +kernel
theorem dX6_isOne_109 : decode cX6_isOne 109 = .ok (.iload_n 1, 1) := by decide +kernel
theorem dX6_isOne_110 : decode cX6_isOne 110 = .ok (.iload_n 2, 1) := by decide +kernel
theorem dX6_isOne_111 : decode cX6_isOne 111 = .ok (.invokevirtual 56, 3) := by decide +kernel
theorem dX6_isOne_114 : decode cX6_isOne 114 = .ok (.if_icmp .eq 7, 3) := by decide +kernel
theorem dX6_isOne_117 : decode cX6_isOne 117 = .ok (.iconst 1, 1) := by decide +kernel
theorem dX6_isOne_118 : decode cX6_isOne 118 = .ok (.goto 4, 3) := by decide +kernel
theorem dX6_isOne_121 : decode cX6_isOne 121 = .ok (.iconst 0, 1) := by decide +kernel
theorem dX6_isOne_122 : decode cX6_isOne 122 = .ok (.ireturn, 1) := by decide +kernel
theorem dX6_isOne_123 : decode cX6_isOne 123 = .ok (.aload_n 0, 1) := by decide +kernel
theorem dX6_isOne_124 : decode cX6_isOne 124 = .ok (.iload_n 1, 1) := by decide +kernel
theorem dX6_isOne_125 : decode cX6_isOne 125 = .ok (.iload_n 2, 1) := by decide +kernel
theorem dX6_isOne_126 : decode cX6_isOne 126 = .ok (.invokevirtual 70, 3) := by decide +kernel
theorem dX6_isOne_129 : decode cX6_isOne 129 = .ok (.ireturn, 1) := by decide +kernel
theorem dX6_isOne_130 : decode cX6_isOne 130 = .ok (.aload_n 0, 1) := by decide +kernel
theorem dX6_isOne_131 : decode cX6_isOne 131 = .ok (.getfield 25, 3) := by decide +kernel
theorem dX6_isOne_134 : decode cX6_isOne 134 = .ok (.iload_n 2, 1) := by decide +kernel
theorem dX6_isOne_135 : decode cX6_isOne 135 = .ok (.iaload, 1) := by decide +kernel
theorem dX6_isOne_136 : decode cX6_isOne 136 = .ok (.iconst (-1), 1) := by decide +kernel
theorem dX6_isOne_137 : decode cX6_isOne 137 = .ok (.if_icmp .eq 16, 3) := by decide +kernel
theorem dX6_isOne_140 : decode cX6_isOne 140 = .ok (.aload_n 0, 1) := by decide +kernel
theorem dX6_isOne_141 : decode cX6_isOne 141 = .ok (.iload_n 1, 1) := by decide +kernel
theorem dX6_isOne_142 : decode cX6_isOne 142 = .ok (.iload_n 2, 1) := by decide +kernel
theorem dX6_isOne_143 : decode cX6_isOne 143 = .ok (.invokevirtual 70, 3) := by decide +kernel
theorem dX6_isOne_146 : decode cX6_isOne 146 = .ok (.ifCond .ne 7, 3) := by decide +kernel
theorem dX6_isOne_149 : decode cX6_isOne 149 = .ok (.iconst 1, 1) := by decide +kernel
theorem dX6_isOne_150 : decode cX6_isOne 150 = .ok (.goto 4, 3) := by decide +kernel
theorem dX6_isOne_153 : decode cX6_isOne 153 = .ok (.iconst 0, 1) := by decide +kernel
theorem dX6_isOne_154 : decode cX6_isOne 154 = .ok (.ireturn, 1) := by decide +kernel
theorem dX6_isOne_155 : decode cX6_isOne 155 = .ok (.aload_n 0, 1) := by decide +kernel
theorem dX6_isOne_156 : decode cX6_isOne 156 = .ok (.getfield 25, 3) := by decide +kernel
theorem dX6_isOne_159 : decode cX6_isOne 159 = .ok (.iload_n 2, 1) := by decide +kernel
theorem dX6_isOne_160 : decode cX6_isOne 160 = .ok (.iaload, 1) := by decide +kernel
theorem dX6_isOne_161 : decode cX6_isOne 161 = .ok (.iconst (-1), 1) := by decide +kernel
theorem dX6_isOne_162 : decode cX6_isOne 162 = .ok (.if_icmp .ne 7, 3) := by decide +kernel
theorem dX6_isOne_165 : decode cX6_isOne 165 = .ok (.iconst 1, 1) := by decide +kernel
theorem dX6_isOne_166 : decode cX6_isOne 166 = .ok (.goto 4, 3) := by decide +kernel
theorem dX6_isOne_169 : decode cX6_isOne 169 = .ok (.iconst 0, 1) := by decide +kernel
theorem dX6_isOne_170 : decode cX6_isOne 170 = .ok (.ireturn, 1) := by decide +kernel
theorem dX6_isOne_171 : decode cX6_isOne 171 = .ok (.aload_n 0, 1) := by decide +kernel
theorem dX6_isOne_172 : decode cX6_isOne 172 = .ok (.getfield 7, 3) := by decide +kernel
theorem dX6_isOne_175 : decode cX6_isOne 175 = .ok (.sipush 544, 3) := by decide +kernel
theorem dX6_isOne_178 : decode cX6_isOne 178 = .ok (.iload_n 1, 1) := by decide +kernel
theorem dX6_isOne_179 : decode cX6_isOne 179 = .ok (.iload_n 2, 1) := by decide +kernel
theorem dX6_isOne_180 : decode cX6_isOne 180 = .ok (.invokestatic 35, 3) := by decide +kernel
theorem dX6_isOne_183 : decode cX6_isOne 183 = .ok (.iadd, 1) := by decide +kernel
theorem dX6_isOne_184 : decode cX6_isOne 184 = .ok (.iaload, 1) := by decide +kernel
theorem dX6_isOne_185 : decode cX6_isOne 185 = .ok (.ifCond .le 7, 3) := by decide +kernel
theorem dX6_isOne_188 : decode cX6_isOne 188 = .ok (.iconst 1, 1) := by decide +kernel
theorem dX6_isOne_189 : decode cX6_isOne 189 = .ok (.goto 4, 3) := by decide +kernel
theorem dX6_isOne_192 : decode cX6_isOne 192 = .ok (.iconst 0, 1) := by decide +kernel
theorem dX6_isOne_193 : decode cX6_isOne 193 = .ok (.ireturn, 1) := by decide +kernel
theorem dX6_many_0 : decode cX6_many 0 = .ok (.aload_n 0, 1) := by decide +kernel
theorem dX6_many_1 : decode cX6_many 1 = .ok (.iload_n 1, 1) := by decide +kernel
theorem dX6_many_2 : decode cX6_many 2 = .ok (.invokevirtual 66, 3) := by decide +kernel
theorem dX6_many_5 : decode cX6_many 5 = .ok (.iconst 0, 1) := by decide +kernel
theorem dX6_many_6 : decode cX6_many 6 = .ok (.istore_n 3, 1) := by decide +kernel
theorem dX6_many_7 : decode cX6_many 7 = .ok (.iconst 0, 1) := by decide +kernel
theorem dX6_many_8 : decode cX6_many 8 = .ok (.istore 4, 2) := by decide +kernel
theorem dX6_many_10 : decode cX6_many 10 = .ok (.iload 4, 2) := by decide +kernel
theorem dX6_many_12 : decode cX6_many 12 = .ok (.bipush 32, 2) := by decide +kernel
theorem dX6_many_14 : decode cX6_many 14 = .ok (.if_icmp .ge 28, 3) := by decide +kernel
theorem dX6_many_17 : decode cX6_many 17 = .ok (.iload_n 3, 1) := by decide +kernel
theorem dX6_many_18 : decode cX6_many 18 = .ok (.aload_n 0, 1) := by decide +kernel
theorem dX6_many_19 : decode cX6_many 19 = .ok (.iload_n 1, 1) := by decide +kernel
theorem dX6_many_20 : decode cX6_many 20 = .ok (.iload 4, 2) := by decide +kernel
theorem dX6_many_22 : decode cX6_many 22 = .ok (.iload_n 2, 1) := by decide +kernel
theorem dX6_many_23 : decode cX6_many 23 = .ok (.invokevirtual 161, 3) := by decide +kernel
theorem dX6_many_26 : decode cX6_many 26 = .ok (.ifCond .eq 7, 3) := by decide +kernel
theorem dX6_many_29 : decode cX6_many 29 = .ok (.iconst 1, 1) := by decide +kernel
theorem dX6_many_30 : decode cX6_many 30 = .ok (.goto 4, 3) := by decide +kernel
theorem dX6_many_33 : decode cX6_many 33 = .ok (.iconst 0, 1) := by decide +kernel
theorem dX6_many_34 : decode cX6_many 34 = .ok (.iadd, 1) := by decide +kernel
theorem dX6_many_35 : decode cX6_many 35 = .ok (.istore_n 3, 1) := by decide +kernel
theorem dX6_many_36 : decode cX6_many 36 = .ok (.iinc 4 1, 3) := by decide +kernel
theorem dX6_many_39 : decode cX6_many 39 = .ok (.goto (-29), 3) := by decide +kernel
theorem dX6_many_42 : decode cX6_many 42 = .ok (.iload_n 3, 1) := by decide +kernel
theorem dX6_many_43 : decode cX6_many 43 = .ok (.ireturn, 1) := by decide +kernel
theorem dX6_longestChain_0 : decode cX6_longestChain 0 = .ok (.iconst 0, 1) := by decide +kernel
theorem dX6_longestChain_1 : decode cX6_longestChain 1 = .ok (.istore_n 2, 1) := by decide +kernel
theorem dX6_longestChain_2 : decode cX6_longestChain 2 = .ok (.iconst 0, 1) := by decide +kernel
theorem dX6_longestChain_3 : decode cX6_longestChain 3 = .ok (.istore_n 3, 1) := by decide +kernel
theorem dX6_longestChain_4 : decode cX6_longestChain 4 = .ok (.iload_n 3, 1) := by decide +kernel
theorem dX6_longestChain_5 : decode cX6_longestChain 5 = .ok (.bipush 32, 2) := by decide +kernel
theorem dX6_longestChain_7 : decode cX6_longestChain 7 = .ok (.if_icmp .ge 34, 3) := by decide +kernel
theorem dX6_longestChain_10 : decode cX6_longestChain 10 = .ok (.iload_n 2, 1) := by decide +kernel
theorem dX6_longestChain_11 : decode cX6_longestChain 11 = .ok (.aload_n 0, 1) := by decide +kernel
theorem dX6_longestChain_12 : decode cX6_longestChain 12 = .ok (.iload_n 1, 1) := by decide +kernel
theorem dX6_longestChain_13 : decode cX6_longestChain 13 = .ok (.iload_n 3, 1) := by decide +kernel
theorem dX6_longestChain_14 : decode cX6_longestChain 14 = .ok (.invokevirtual 46, 3) := by decide +kernel
theorem dX6_longestChain_17 : decode cX6_longestChain 17 = .ok (.iconst (-1), 1) := by decide +kernel
theorem dX6_longestChain_18 : decode cX6_longestChain 18 = .ok (.if_icmp .ne 12, 3) := by decide +kernel
theorem dX6_longestChain_21 : decode cX6_longestChain 21 = .ok (.aload_n 0, 1) := by decide +kernel
theorem dX6_longestChain_22 : decode cX6_longestChain 22 = .ok (.iload_n 1, 1) := by decide +kernel
theorem dX6_longestChain_23 : decode cX6_longestChain 23 = .ok (.iload_n 3, 1) := by decide +kernel
theorem dX6_longestChain_24 : decode cX6_longestChain 24 = .ok (.invokevirtual 158, 3) := by decide +kernel
theorem dX6_longestChain_27 : decode cX6_longestChain 27 = .ok (.goto 4, 3) := by decide +kernel
theorem dX6_longestChain_30 : decode cX6_longestChain 30 = .ok (.iconst 0, 1) := by decide +kernel
theorem dX6_longestChain_31 : decode cX6_longestChain 31 = .ok (.invokestatic 164, 3) := by decide +kernel
theorem dX6_longestChain_34 : decode cX6_longestChain 34 = .ok (.istore_n 2, 1) := by decide +kernel
theorem dX6_longestChain_35 : decode cX6_longestChain 35 = .ok (.iinc 3 1, 3) := by decide +kernel
theorem dX6_longestChain_38 : decode cX6_longestChain 38 = .ok (.goto (-34), 3) := by decide +kernel
theorem dX6_longestChain_41 : decode cX6_longestChain 41 = .ok (.iload_n 2, 1) := by decide +kernel
theorem dX6_longestChain_42 : decode cX6_longestChain 42 = .ok (.ireturn, 1) := by decide +kernel
theorem dX6_differentDots_0 : decode cX6_differentDots 0 = .ok (.iconst 0, 1) := by decide +kernel
theorem dX6_differentDots_1 : decode cX6_differentDots 1 = .ok (.istore_n 2, 1) := by decide +kernel
theorem dX6_differentDots_2 : decode cX6_differentDots 2 = .ok (.iconst 0, 1) := by decide +kernel
theorem dX6_differentDots_3 : decode cX6_differentDots 3 = .ok (.istore_n 3, 1) := by decide +kernel
theorem dX6_differentDots_4 : decode cX6_differentDots 4 = .ok (.iload_n 3, 1) := by decide +kernel
theorem dX6_differentDots_5 : decode cX6_differentDots 5 = .ok (.bipush 8, 2) := by decide +kernel
theorem dX6_differentDots_7 : decode cX6_differentDots 7 = .ok (.if_icmp .ge 64, 3) := by decide +kernel
theorem dX6_differentDots_10 : decode cX6_differentDots 10 = .ok (.iconst 0, 1) := by decide +kernel
theorem dX6_differentDots_11 : decode cX6_differentDots 11 = .ok (.istore 4, 2) := by decide +kernel
theorem dX6_differentDots_13 : decode cX6_differentDots 13 = .ok (.iconst 0, 1) := by decide +kernel
theorem dX6_differentDots_14 : decode cX6_differentDots 14 = .ok (.istore 5, 2) := by decide +kernel
theorem dX6_differentDots_16 : decode cX6_differentDots 16 = .ok (.iload 5, 2) := by decide +kernel
theorem dX6_differentDots_18 : decode cX6_differentDots 18 = .ok (.bipush 32, 2) := by decide +kernel
theorem dX6_differentDots_20 : decode cX6_differentDots 20 = .ok (.if_icmp .ge 32, 3) := by decide +kernel
theorem dX6_differentDots_23 : decode cX6_differentDots 23 = .ok (.iload 4, 2) := by decide +kernel
theorem dX6_differentDots_25 : decode cX6_differentDots 25 = .ok (.ifCond .ne 14, 3) := by decide +kernel
theorem dX6_differentDots_28 : decode cX6_differentDots 28 = .ok (.aload_n 0, 1) := by decide +kernel
theorem dX6_differentDots_29 : decode cX6_differentDots 29 = .ok (.iload_n 1, 1) := by decide +kernel
theorem dX6_differentDots_30 : decode cX6_differentDots 30 = .ok (.iload 5, 2) := by decide +kernel
theorem dX6_differentDots_32 : decode cX6_differentDots 32 = .ok (.invokevirtual 56, 3) := by decide +kernel
theorem dX6_differentDots_35 : decode cX6_differentDots 35 = .ok (.iload_n 3, 1) := by decide +kernel
theorem dX6_differentDots_36 : decode cX6_differentDots 36 = .ok (.if_icmp .ne 7, 3) := by decide +kernel
theorem dX6_differentDots_39 : decode cX6_differentDots 39 = .ok (.iconst 1, 1) := by decide +kernel
theorem dX6_differentDots_40 : decode cX6_differentDots 40 = .ok (.goto 4, 3) := by decide +kernel
theorem dX6_differentDots_43 : decode cX6_differentDots 43 = .ok (.iconst 0, 1) := by decide +kernel
theorem dX6_differentDots_44 : decode cX6_differentDots 44 = .ok (.istore 4, 2) := by decide +kernel
theorem dX6_differentDots_46 : decode cX6_differentDots 46 = .ok (.iinc 5 1, 3) := by decide +kernel
theorem dX6_differentDots_49 : decode cX6_differentDots 49 = .ok (.goto (-33), 3) := by decide +kernel
theorem dX6_differentDots_52 : decode cX6_differentDots 52 = .ok (.iload_n 2, 1) := by decide +kernel
theorem dX6_differentDots_53 : decode cX6_differentDots 53 = .ok (.iload 4, 2) := by decide +kernel
theorem dX6_differentDots_55 : decode cX6_differentDots 55 = .ok (.ifCond .eq 7, 3) := by decide +kernel
theorem dX6_differentDots_58 : decode cX6_differentDots 58 = .ok (.iconst 1, 1) := by decide +kernel
theorem dX6_differentDots_59 : decode cX6_differentDots 59 = .ok (.goto 4, 3) := by decide +kernel
theorem dX6_differentDots_62 : decode cX6_differentDots 62 = .ok (.iconst 0, 1) := by decide +kernel
theorem dX6_differentDots_63 : decode cX6_differentDots 63 = .ok (.iadd, 1) := by decide +kernel
theorem dX6_differentDots_64 : decode cX6_differentDots 64 = .ok (.istore_n 2, 1) := by decide +kernel
theorem dX6_differentDots_65 : decode cX6_differentDots 65 = .ok (.iinc 3 1, 3) := by decide +kernel
theorem dX6_differentDots_68 : decode cX6_differentDots 68 = .ok (.goto (-64), 3) := by decide +kernel
theorem dX6_differentDots_71 : decode cX6_differentDots 71 = .ok (.iload_n 2, 1) := by decide +kernel
theorem dX6_differentDots_72 : decode cX6_differentDots 72 = .ok (.ireturn, 1) := by decide +kernel
theorem dX6_turnsOfPlane_0 : decode cX6_turnsOfPlane 0 = .ok (.aload_n 0, 1) := by decide +kernel
theorem dX6_turnsOfPlane_1 : decode cX6_turnsOfPlane 1 = .ok (.iload_n 1, 1) := by decide +kernel
theorem dX6_turnsOfPlane_2 : decode cX6_turnsOfPlane 2 = .ok (.invokevirtual 66, 3) := by decide +kernel
theorem dX6_turnsOfPlane_5 : decode cX6_turnsOfPlane 5 = .ok (.iconst 0, 1) := by decide +kernel
theorem dX6_turnsOfPlane_6 : decode cX6_turnsOfPlane 6 = .ok (.istore_n 2, 1) := by decide +kernel
theorem dX6_turnsOfPlane_7 : decode cX6_turnsOfPlane 7 = .ok (.iconst (-1), 1) := by decide +kernel
theorem dX6_turnsOfPlane_8 : decode cX6_turnsOfPlane 8 = .ok (.istore_n 3, 1) := by decide +kernel
theorem dX6_turnsOfPlane_9 : decode cX6_turnsOfPlane 9 = .ok (.iconst 0, 1) := by decide +kernel
theorem dX6_turnsOfPlane_10 : decode cX6_turnsOfPlane 10 = .ok (.istore 4, 2) := by decide +kernel
theorem dX6_turnsOfPlane_12 : decode cX6_turnsOfPlane 12 = .ok (.iload 4, 2) := by decide +kernel
theorem dX6_turnsOfPlane_14 : decode cX6_turnsOfPlane 14 = .ok (.bipush 32, 2) := by decide +kernel
theorem dX6_turnsOfPlane_16 : decode cX6_turnsOfPlane 16 = .ok (.if_icmp .ge 52, 3) := by decide +kernel
theorem dX6_turnsOfPlane_19 : decode cX6_turnsOfPlane 19 = .ok (.aload_n 0, 1) := by decide +kernel
theorem dX6_turnsOfPlane_20 : decode cX6_turnsOfPlane 20 = .ok (.getfield 25, 3) := by decide +kernel
theorem dX6_turnsOfPlane_23 : decode cX6_turnsOfPlane 23 = .ok (.iload 4, 2) := by decide +kernel
theorem dX6_turnsOfPlane_25 : decode cX6_turnsOfPlane 25 = .ok (.iaload, 1) := by decide +kernel
theorem dX6_turnsOfPlane_26 : decode cX6_turnsOfPlane 26 = .ok (.iconst (-1), 1) := by decide +kernel
theorem dX6_turnsOfPlane_27 : decode cX6_turnsOfPlane 27 = .ok (.if_icmp .eq 35, 3) := by decide +kernel
theorem dX6_turnsOfPlane_30 : decode cX6_turnsOfPlane 30 = .ok (.iload_n 2, 1) := by decide +kernel
theorem dX6_turnsOfPlane_31 : decode cX6_turnsOfPlane 31 = .ok (.iload_n 3, 1) := by decide +kernel
theorem dX6_turnsOfPlane_32 : decode cX6_turnsOfPlane 32 = .ok (.iconst (-1), 1) := by decide +kernel
theorem dX6_turnsOfPlane_33 : decode cX6_turnsOfPlane 33 = .ok (.if_icmp .eq 18, 3) := by decide +kernel
theorem dX6_turnsOfPlane_36 : decode cX6_turnsOfPlane 36 = .ok (.iload_n 3, 1) := by decide +kernel
theorem dX6_turnsOfPlane_37 : decode cX6_turnsOfPlane 37 = .ok (.aload_n 0, 1) := by decide +kernel
theorem dX6_turnsOfPlane_38 : decode cX6_turnsOfPlane 38 = .ok (.getfield 25, 3) := by decide +kernel
theorem dX6_turnsOfPlane_41 : decode cX6_turnsOfPlane 41 = .ok (.iload 4, 2) := by decide +kernel
theorem dX6_turnsOfPlane_43 : decode cX6_turnsOfPlane 43 = .ok (.iaload, 1) := by decide +kernel
theorem dX6_turnsOfPlane_44 : decode cX6_turnsOfPlane 44 = .ok (.if_icmp .eq 7, 3) := by decide +kernel
theorem dX6_turnsOfPlane_47 : decode cX6_turnsOfPlane 47 = .ok (.iconst 1, 1) := by decide +kernel
theorem dX6_turnsOfPlane_48 : decode cX6_turnsOfPlane 48 = .ok (.goto 4, 3) := by decide +kernel
theorem dX6_turnsOfPlane_51 : decode cX6_turnsOfPlane 51 = .ok (.iconst 0, 1) := by decide +kernel
theorem dX6_turnsOfPlane_52 : decode cX6_turnsOfPlane 52 = .ok (.iadd, 1) := by decide +kernel
theorem dX6_turnsOfPlane_53 : decode cX6_turnsOfPlane 53 = .ok (.istore_n 2, 1) := by decide +kernel
theorem dX6_turnsOfPlane_54 : decode cX6_turnsOfPlane 54 = .ok (.aload_n 0, 1) := by decide +kernel
theorem dX6_turnsOfPlane_55 : decode cX6_turnsOfPlane 55 = .ok (.getfield 25, 3) := by decide +kernel
theorem dX6_turnsOfPlane_58 : decode cX6_turnsOfPlane 58 = .ok (.iload 4, 2) := by decide +kernel
theorem dX6_turnsOfPlane_60 : decode cX6_turnsOfPlane 60 = .ok (.iaload, 1) := by decide +kernel
theorem dX6_turnsOfPlane_61 : decode cX6_turnsOfPlane 61 = .ok (.istore_n 3, 1) := by decide +kernel
theorem dX6_turnsOfPlane_62 : decode cX6_turnsOfPlane 62 = .ok (.iinc 4 1, 3) := by decide +kernel
theorem dX6_turnsOfPlane_65 : decode cX6_turnsOfPlane 65 = .ok (.goto (-53), 3) := by decide +kernel
theorem dX6_turnsOfPlane_68 : decode cX6_turnsOfPlane 68 = .ok (.iload_n 2, 1) := by decide +kernel
theorem dX6_turnsOfPlane_69 : decode cX6_turnsOfPlane 69 = .ok (.ireturn, 1) := by decide +kernel
theorem dX6_row_0 : decode cX6_row 0 = .ok (.iload_n 1, 1) := by decide +kernel
theorem dX6_row_1 : decode cX6_row 1 = .ok (.invokestatic 78, 3) := by decide +kernel
theorem dX6_row_4 : decode cX6_row 4 = .ok (.ifCond .eq 13, 3) := by decide +kernel
theorem dX6_row_7 : decode cX6_row 7 = .ok (.iload_n 2, 1) := by decide +kernel
theorem dX6_row_8 : decode cX6_row 8 = .ok (.iconst 0, 1) := by decide +kernel
theorem dX6_row_9 : decode cX6_row 9 = .ok (.bipush 10, 2) := by decide +kernel
theorem dX6_row_11 : decode cX6_row 11 = .ok (.invokestatic 31, 3) := by decide +kernel
theorem dX6_row_14 : decode cX6_row 14 = .ok (.ifCond .ne 5, 3) := by decide +kernel
theorem dX6_row_17 : decode cX6_row 17 = .ok (.iconst (-1), 1) := by decide +kernel
theorem dX6_row_18 : decode cX6_row 18 = .ok (.ireturn, 1) := by decide +kernel
theorem dX6_row_19 : decode cX6_row 19 = .ok (.iload_n 2, 1) := by decide +kernel
theorem dX6_row_20 : decode cX6_row 20 = .ok (.bipush 8, 2) := by decide +kernel
theorem dX6_row_22 : decode cX6_row 22 = .ok (.if_icmp .ge 12, 3) := by decide +kernel
theorem dX6_row_25 : decode cX6_row 25 = .ok (.aload_n 0, 1) := by decide +kernel
theorem dX6_row_26 : decode cX6_row 26 = .ok (.iload_n 1, 1) := by decide +kernel
theorem dX6_row_27 : decode cX6_row 27 = .ok (.iload_n 2, 1) := by decide +kernel
theorem dX6_row_28 : decode cX6_row 28 = .ok (.invokevirtual 167, 3) := by decide +kernel
theorem dX6_row_31 : decode cX6_row 31 = .ok (.goto 36, 3) := by decide +kernel
theorem dX6_row_34 : decode cX6_row 34 = .ok (.iload_n 2, 1) := by decide +kernel
theorem dX6_row_35 : decode cX6_row 35 = .ok (.bipush 8, 2) := by decide +kernel
theorem dX6_row_37 : decode cX6_row 37 = .ok (.if_icmp .ne 11, 3) := by decide +kernel
theorem dX6_row_40 : decode cX6_row 40 = .ok (.aload_n 0, 1) := by decide +kernel
theorem dX6_row_41 : decode cX6_row 41 = .ok (.iload_n 1, 1) := by decide +kernel
theorem dX6_row_42 : decode cX6_row 42 = .ok (.invokevirtual 170, 3) := by decide +kernel
theorem dX6_row_45 : decode cX6_row 45 = .ok (.goto 22, 3) := by decide +kernel
theorem dX6_row_48 : decode cX6_row 48 = .ok (.iload_n 2, 1) := by decide +kernel
theorem dX6_row_49 : decode cX6_row 49 = .ok (.bipush 9, 2) := by decide +kernel
theorem dX6_row_51 : decode cX6_row 51 = .ok (.if_icmp .ne 11, 3) := by decide +kernel
theorem dX6_row_54 : decode cX6_row 54 = .ok (.aload_n 0, 1) := by decide +kernel
theorem dX6_row_55 : decode cX6_row 55 = .ok (.iload_n 1, 1) := by decide +kernel
theorem dX6_row_56 : decode cX6_row 56 = .ok (.invokevirtual 173, 3) := by decide +kernel
theorem dX6_row_59 : decode cX6_row 59 = .ok (.goto 8, 3) := by decide +kernel
theorem dX6_row_62 : decode cX6_row 62 = .ok (.aload_n 0, 1) := by decide +kernel
theorem dX6_row_63 : decode cX6_row 63 = .ok (.iload_n 1, 1) := by decide +kernel
theorem dX6_row_64 : decode cX6_row 64 = .ok (.invokevirtual 176, 3) := by decide +kernel
theorem dX6_row_67 : decode cX6_row 67 = .ok (.ireturn, 1) := by decide +kernel
theorem dX6_echoes_0 : decode cX6_echoes 0 = .ok (.iconst 0, 1) := by decide +kernel
theorem dX6_echoes_1 : decode cX6_echoes 1 = .ok (.istore_n 3, 1) := by decide +kernel
theorem dX6_echoes_2 : decode cX6_echoes 2 = .ok (.iload_n 2, 1) := by decide +kernel
theorem dX6_echoes_3 : decode cX6_echoes 3 = .ok (.istore 4, 2) := by decide +kernel
theorem dX6_echoes_5 : decode cX6_echoes 5 = .ok (.iload 4, 2) := by decide +kernel
theorem dX6_echoes_7 : decode cX6_echoes 7 = .ok (.bipush 32, 2) := by decide +kernel
theorem dX6_echoes_9 : decode cX6_echoes 9 = .ok (.if_icmp .ge 36, 3) := by decide +kernel
theorem dX6_echoes_12 : decode cX6_echoes 12 = .ok (.iload_n 3, 1) := by decide +kernel
theorem dX6_echoes_13 : decode cX6_echoes 13 = .ok (.aload_n 0, 1) := by decide +kernel
theorem dX6_echoes_14 : decode cX6_echoes 14 = .ok (.iload_n 1, 1) := by decide +kernel
theorem dX6_echoes_15 : decode cX6_echoes 15 = .ok (.iload 4, 2) := by decide +kernel
theorem dX6_echoes_17 : decode cX6_echoes 17 = .ok (.invokevirtual 56, 3) := by decide +kernel
theorem dX6_echoes_20 : decode cX6_echoes 20 = .ok (.aload_n 0, 1) := by decide +kernel
theorem dX6_echoes_21 : decode cX6_echoes 21 = .ok (.iload_n 1, 1) := by decide +kernel
theorem dX6_echoes_22 : decode cX6_echoes 22 = .ok (.iload 4, 2) := by decide +kernel
theorem dX6_echoes_24 : decode cX6_echoes 24 = .ok (.iload_n 2, 1) := by decide +kernel
theorem dX6_echoes_25 : decode cX6_echoes 25 = .ok (.isub, 1) := by decide +kernel
theorem dX6_echoes_26 : decode cX6_echoes 26 = .ok (.invokevirtual 56, 3) := by decide +kernel
theorem dX6_echoes_29 : decode cX6_echoes 29 = .ok (.if_icmp .ne 7, 3) := by decide +kernel
theorem dX6_echoes_32 : decode cX6_echoes 32 = .ok (.iconst 1, 1) := by decide +kernel
theorem dX6_echoes_33 : decode cX6_echoes 33 = .ok (.goto 4, 3) := by decide +kernel
theorem dX6_echoes_36 : decode cX6_echoes 36 = .ok (.iconst 0, 1) := by decide +kernel
theorem dX6_echoes_37 : decode cX6_echoes 37 = .ok (.iadd, 1) := by decide +kernel
theorem dX6_echoes_38 : decode cX6_echoes 38 = .ok (.istore_n 3, 1) := by decide +kernel
theorem dX6_echoes_39 : decode cX6_echoes 39 = .ok (.iinc 4 1, 3) := by decide +kernel
end
section
/-! the instructions, decoded -/
theorem dX6_echoes_42 : decode cX6_echoes 42 = .ok (.goto (-37), 3) := by decide +kernel
theorem dX6_echoes_45 : decode cX6_echoes 45 = .ok (.iload_n 3, 1) := by decide +kernel
theorem dX6_echoes_46 : decode cX6_echoes 46 = .ok (.ireturn, 1) := by decide +kernel
theorem dX6_echo_0 : decode cX6_echo 0 = .ok (.iload_n 1, 1) := by decide +kernel
theorem dX6_echo_1 : decode cX6_echo 1 = .ok (.invokestatic 78, 3) := by decide +kernel
theorem dX6_echo_4 : decode cX6_echo 4 = .ok (.ifCond .eq 22, 3) := by decide +kernel
theorem dX6_echo_7 : decode cX6_echo 7 = .ok (.iload_n 2, 1) := by decide +kernel
theorem dX6_echo_8 : decode cX6_echo 8 = .ok (.iconst 2, 1) := by decide +kernel
theorem dX6_echo_9 : decode cX6_echo 9 = .ok (.bipush 24, 2) := by decide +kernel
theorem dX6_echo_11 : decode cX6_echo 11 = .ok (.invokestatic 31, 3) := by decide +kernel
theorem dX6_echo_14 : decode cX6_echo 14 = .ok (.ifCond .eq 12, 3) := by decide +kernel
theorem dX6_echo_17 : decode cX6_echo 17 = .ok (.aload_n 0, 1) := by decide +kernel
theorem dX6_echo_18 : decode cX6_echo 18 = .ok (.iload_n 1, 1) := by decide +kernel
theorem dX6_echo_19 : decode cX6_echo 19 = .ok (.iload_n 2, 1) := by decide +kernel
theorem dX6_echo_20 : decode cX6_echo 20 = .ok (.invokevirtual 179, 3) := by decide +kernel
theorem dX6_echo_23 : decode cX6_echo 23 = .ok (.goto 4, 3) := by decide +kernel
theorem dX6_echo_26 : decode cX6_echo 26 = .ok (.iconst (-1), 1) := by decide +kernel
theorem dX6_echo_27 : decode cX6_echo 27 = .ok (.ireturn, 1) := by decide +kernel
theorem dX6_echoAt_0 : decode cX6_echoAt 0 = .ok (.iload_n 1, 1) := by decide +kernel
theorem dX6_echoAt_1 : decode cX6_echoAt 1 = .ok (.invokestatic 78, 3) := by decide +kernel
theorem dX6_echoAt_4 : decode cX6_echoAt 4 = .ok (.ifCond .eq 13, 3) := by decide +kernel
theorem dX6_echoAt_7 : decode cX6_echoAt 7 = .ok (.iload_n 2, 1) := by decide +kernel
theorem dX6_echoAt_8 : decode cX6_echoAt 8 = .ok (.iconst 0, 1) := by decide +kernel
theorem dX6_echoAt_9 : decode cX6_echoAt 9 = .ok (.bipush 22, 2) := by decide +kernel
theorem dX6_echoAt_11 : decode cX6_echoAt 11 = .ok (.invokestatic 31, 3) := by decide +kernel
theorem dX6_echoAt_14 : decode cX6_echoAt 14 = .ok (.ifCond .ne 5, 3) := by decide +kernel
theorem dX6_echoAt_17 : decode cX6_echoAt 17 = .ok (.iconst (-1), 1) := by decide +kernel
theorem dX6_echoAt_18 : decode cX6_echoAt 18 = .ok (.ireturn, 1) := by decide +kernel
theorem dX6_echoAt_19 : decode cX6_echoAt 19 = .ok (.iconst 2, 1) := by decide +kernel
theorem dX6_echoAt_20 : decode cX6_echoAt 20 = .ok (.istore_n 3, 1) := by decide +kernel
theorem dX6_echoAt_21 : decode cX6_echoAt 21 = .ok (.iconst 2, 1) := by decide +kernel
theorem dX6_echoAt_22 : decode cX6_echoAt 22 = .ok (.istore 4, 2) := by decide +kernel
theorem dX6_echoAt_24 : decode cX6_echoAt 24 = .ok (.iload 4, 2) := by decide +kernel
theorem dX6_echoAt_26 : decode cX6_echoAt 26 = .ok (.bipush 25, 2) := by decide +kernel
theorem dX6_echoAt_28 : decode cX6_echoAt 28 = .ok (.if_icmp .ge 85, 3) := by decide +kernel
theorem dX6_echoAt_31 : decode cX6_echoAt 31 = .ok (.iconst 0, 1) := by decide +kernel
theorem dX6_echoAt_32 : decode cX6_echoAt 32 = .ok (.istore 5, 2) := by decide +kernel
theorem dX6_echoAt_34 : decode cX6_echoAt 34 = .ok (.iconst 2, 1) := by decide +kernel
theorem dX6_echoAt_35 : decode cX6_echoAt 35 = .ok (.istore 6, 2) := by decide +kernel
theorem dX6_echoAt_37 : decode cX6_echoAt 37 = .ok (.iload 6, 2) := by decide +kernel
theorem dX6_echoAt_39 : decode cX6_echoAt 39 = .ok (.bipush 25, 2) := by decide +kernel
theorem dX6_echoAt_41 : decode cX6_echoAt 41 = .ok (.if_icmp .ge 53, 3) := by decide +kernel
theorem dX6_echoAt_44 : decode cX6_echoAt 44 = .ok (.aload_n 0, 1) := by decide +kernel
theorem dX6_echoAt_45 : decode cX6_echoAt 45 = .ok (.iload_n 1, 1) := by decide +kernel
theorem dX6_echoAt_46 : decode cX6_echoAt 46 = .ok (.iload 6, 2) := by decide +kernel
theorem dX6_echoAt_48 : decode cX6_echoAt 48 = .ok (.invokevirtual 179, 3) := by decide +kernel
theorem dX6_echoAt_51 : decode cX6_echoAt 51 = .ok (.aload_n 0, 1) := by decide +kernel
theorem dX6_echoAt_52 : decode cX6_echoAt 52 = .ok (.iload_n 1, 1) := by decide +kernel
theorem dX6_echoAt_53 : decode cX6_echoAt 53 = .ok (.iload 4, 2) := by decide +kernel
theorem dX6_echoAt_55 : decode cX6_echoAt 55 = .ok (.invokevirtual 179, 3) := by decide +kernel
theorem dX6_echoAt_58 : decode cX6_echoAt 58 = .ok (.isub, 1) := by decide +kernel
theorem dX6_echoAt_59 : decode cX6_echoAt 59 = .ok (.istore 7, 2) := by decide +kernel
theorem dX6_echoAt_61 : decode cX6_echoAt 61 = .ok (.iload 5, 2) := by decide +kernel
theorem dX6_echoAt_63 : decode cX6_echoAt 63 = .ok (.iload 7, 2) := by decide +kernel
theorem dX6_echoAt_65 : decode cX6_echoAt 65 = .ok (.ifCond .gt 15, 3) := by decide +kernel
theorem dX6_echoAt_68 : decode cX6_echoAt 68 = .ok (.iload 7, 2) := by decide +kernel
theorem dX6_echoAt_70 : decode cX6_echoAt 70 = .ok (.ifCond .ne 14, 3) := by decide +kernel
theorem dX6_echoAt_73 : decode cX6_echoAt 73 = .ok (.iload 6, 2) := by decide +kernel
theorem dX6_echoAt_75 : decode cX6_echoAt 75 = .ok (.iload 4, 2) := by decide +kernel
theorem dX6_echoAt_77 : decode cX6_echoAt 77 = .ok (.if_icmp .ge 7, 3) := by decide +kernel
theorem dX6_echoAt_80 : decode cX6_echoAt 80 = .ok (.iconst 1, 1) := by decide +kernel
theorem dX6_echoAt_81 : decode cX6_echoAt 81 = .ok (.goto 4, 3) := by decide +kernel
theorem dX6_echoAt_84 : decode cX6_echoAt 84 = .ok (.iconst 0, 1) := by decide +kernel
theorem dX6_echoAt_85 : decode cX6_echoAt 85 = .ok (.iadd, 1) := by decide +kernel
theorem dX6_echoAt_86 : decode cX6_echoAt 86 = .ok (.istore 5, 2) := by decide +kernel
theorem dX6_echoAt_88 : decode cX6_echoAt 88 = .ok (.iinc 6 1, 3) := by decide +kernel
theorem dX6_echoAt_91 : decode cX6_echoAt 91 = .ok (.goto (-54), 3) := by decide +kernel
theorem dX6_echoAt_94 : decode cX6_echoAt 94 = .ok (.iload 5, 2) := by decide +kernel
theorem dX6_echoAt_96 : decode cX6_echoAt 96 = .ok (.iload_n 2, 1) := by decide +kernel
theorem dX6_echoAt_97 : decode cX6_echoAt 97 = .ok (.if_icmp .ne 8, 3) := by decide +kernel
theorem dX6_echoAt_100 : decode cX6_echoAt 100 = .ok (.iload 4, 2) := by decide +kernel
theorem dX6_echoAt_102 : decode cX6_echoAt 102 = .ok (.goto 4, 3) := by decide +kernel
theorem dX6_echoAt_105 : decode cX6_echoAt 105 = .ok (.iload_n 3, 1) := by decide +kernel
theorem dX6_echoAt_106 : decode cX6_echoAt 106 = .ok (.istore_n 3, 1) := by decide +kernel
theorem dX6_echoAt_107 : decode cX6_echoAt 107 = .ok (.iinc 4 1, 3) := by decide +kernel
theorem dX6_echoAt_110 : decode cX6_echoAt 110 = .ok (.goto (-86), 3) := by decide +kernel
theorem dX6_echoAt_113 : decode cX6_echoAt 113 = .ok (.iload_n 3, 1) := by decide +kernel
theorem dX6_echoAt_114 : decode cX6_echoAt 114 = .ok (.ireturn, 1) := by decide +kernel
theorem dX6_faults_0 : decode cX6_faults 0 = .ok (.aload_n 0, 1) := by decide +kernel
theorem dX6_faults_1 : decode cX6_faults 1 = .ok (.iload_n 1, 1) := by decide +kernel
theorem dX6_faults_2 : decode cX6_faults 2 = .ok (.bipush 6, 2) := by decide +kernel
theorem dX6_faults_4 : decode cX6_faults 4 = .ok (.invokevirtual 167, 3) := by decide +kernel
theorem dX6_faults_7 : decode cX6_faults 7 = .ok (.istore_n 2, 1) := by decide +kernel
theorem dX6_faults_8 : decode cX6_faults 8 = .ok (.bipush 100, 2) := by decide +kernel
theorem dX6_faults_10 : decode cX6_faults 10 = .ok (.iload_n 2, 1) := by decide +kernel
theorem dX6_faults_11 : decode cX6_faults 11 = .ok (.aload_n 0, 1) := by decide +kernel
theorem dX6_faults_12 : decode cX6_faults 12 = .ok (.iload_n 1, 1) := by decide +kernel
theorem dX6_faults_13 : decode cX6_faults 13 = .ok (.iconst 5, 1) := by decide +kernel
theorem dX6_faults_14 : decode cX6_faults 14 = .ok (.invokevirtual 167, 3) := by decide +kernel
theorem dX6_faults_17 : decode cX6_faults 17 = .ok (.iadd, 1) := by decide +kernel
theorem dX6_faults_18 : decode cX6_faults 18 = .ok (.imul, 1) := by decide +kernel
theorem dX6_faults_19 : decode cX6_faults 19 = .ok (.iload_n 2, 1) := by decide +kernel
theorem dX6_faults_20 : decode cX6_faults 20 = .ok (.iadd, 1) := by decide +kernel
theorem dX6_faults_21 : decode cX6_faults 21 = .ok (.ireturn, 1) := by decide +kernel
theorem dX6_faulty_0 : decode cX6_faulty 0 = .ok (.iload_n 1, 1) := by decide +kernel
theorem dX6_faulty_1 : decode cX6_faulty 1 = .ok (.iconst 0, 1) := by decide +kernel
theorem dX6_faulty_2 : decode cX6_faulty 2 = .ok (.bipush 7, 2) := by decide +kernel
theorem dX6_faulty_4 : decode cX6_faulty 4 = .ok (.invokestatic 31, 3) := by decide +kernel
theorem dX6_faulty_7 : decode cX6_faulty 7 = .ok (.ifCond .ne 5, 3) := by decide +kernel
theorem dX6_faulty_10 : decode cX6_faulty 10 = .ok (.iconst (-1), 1) := by decide +kernel
theorem dX6_faulty_11 : decode cX6_faulty 11 = .ok (.ireturn, 1) := by decide +kernel
theorem dX6_faulty_12 : decode cX6_faulty 12 = .ok (.iconst 0, 1) := by decide +kernel
theorem dX6_faulty_13 : decode cX6_faulty 13 = .ok (.istore_n 2, 1) := by decide +kernel
theorem dX6_faulty_14 : decode cX6_faulty 14 = .ok (.iconst 0, 1) := by decide +kernel
theorem dX6_faulty_15 : decode cX6_faulty 15 = .ok (.istore_n 3, 1) := by decide +kernel
theorem dX6_faulty_16 : decode cX6_faulty 16 = .ok (.iload_n 3, 1) := by decide +kernel
theorem dX6_faulty_17 : decode cX6_faulty 17 = .ok (.bipush 8, 2) := by decide +kernel
theorem dX6_faulty_19 : decode cX6_faulty 19 = .ok (.if_icmp .ge 80, 3) := by decide +kernel
theorem dX6_faulty_22 : decode cX6_faulty 22 = .ok (.iconst 0, 1) := by decide +kernel
theorem dX6_faulty_23 : decode cX6_faulty 23 = .ok (.istore 4, 2) := by decide +kernel
theorem dX6_faulty_25 : decode cX6_faulty 25 = .ok (.iconst 0, 1) := by decide +kernel
theorem dX6_faulty_26 : decode cX6_faulty 26 = .ok (.istore 5, 2) := by decide +kernel
theorem dX6_faulty_28 : decode cX6_faulty 28 = .ok (.iload 5, 2) := by decide +kernel
theorem dX6_faulty_30 : decode cX6_faulty 30 = .ok (.bipush 8, 2) := by decide +kernel
theorem dX6_faulty_32 : decode cX6_faulty 32 = .ok (.if_icmp .ge 49, 3) := by decide +kernel
theorem dX6_faulty_35 : decode cX6_faulty 35 = .ok (.aload_n 0, 1) := by decide +kernel
theorem dX6_faulty_36 : decode cX6_faulty 36 = .ok (.iload 5, 2) := by decide +kernel
theorem dX6_faulty_38 : decode cX6_faulty 38 = .ok (.invokevirtual 182, 3) := by decide +kernel
theorem dX6_faulty_41 : decode cX6_faulty 41 = .ok (.aload_n 0, 1) := by decide +kernel
theorem dX6_faulty_42 : decode cX6_faulty 42 = .ok (.iload_n 3, 1) := by decide +kernel
theorem dX6_faulty_43 : decode cX6_faulty 43 = .ok (.invokevirtual 182, 3) := by decide +kernel
theorem dX6_faulty_46 : decode cX6_faulty 46 = .ok (.isub, 1) := by decide +kernel
theorem dX6_faulty_47 : decode cX6_faulty 47 = .ok (.istore 6, 2) := by decide +kernel
theorem dX6_faulty_49 : decode cX6_faulty 49 = .ok (.iload 4, 2) := by decide +kernel
theorem dX6_faulty_51 : decode cX6_faulty 51 = .ok (.iload 6, 2) := by decide +kernel
theorem dX6_faulty_53 : decode cX6_faulty 53 = .ok (.ifCond .gt 14, 3) := by decide +kernel
theorem dX6_faulty_56 : decode cX6_faulty 56 = .ok (.iload 6, 2) := by decide +kernel
theorem dX6_faulty_58 : decode cX6_faulty 58 = .ok (.ifCond .ne 13, 3) := by decide +kernel
theorem dX6_faulty_61 : decode cX6_faulty 61 = .ok (.iload 5, 2) := by decide +kernel
theorem dX6_faulty_63 : decode cX6_faulty 63 = .ok (.iload_n 3, 1) := by decide +kernel
theorem dX6_faulty_64 : decode cX6_faulty 64 = .ok (.if_icmp .ge 7, 3) := by decide +kernel
theorem dX6_faulty_67 : decode cX6_faulty 67 = .ok (.iconst 1, 1) := by decide +kernel
theorem dX6_faulty_68 : decode cX6_faulty 68 = .ok (.goto 4, 3) := by decide +kernel
theorem dX6_faulty_71 : decode cX6_faulty 71 = .ok (.iconst 0, 1) := by decide +kernel
theorem dX6_faulty_72 : decode cX6_faulty 72 = .ok (.iadd, 1) := by decide +kernel
theorem dX6_faulty_73 : decode cX6_faulty 73 = .ok (.istore 4, 2) := by decide +kernel
theorem dX6_faulty_75 : decode cX6_faulty 75 = .ok (.iinc 5 1, 3) := by decide +kernel
theorem dX6_faulty_78 : decode cX6_faulty 78 = .ok (.goto (-50), 3) := by decide +kernel
theorem dX6_faulty_81 : decode cX6_faulty 81 = .ok (.iload 4, 2) := by decide +kernel
theorem dX6_faulty_83 : decode cX6_faulty 83 = .ok (.iload_n 1, 1) := by decide +kernel
theorem dX6_faulty_84 : decode cX6_faulty 84 = .ok (.if_icmp .ne 7, 3) := by decide +kernel
theorem dX6_faulty_87 : decode cX6_faulty 87 = .ok (.iload_n 3, 1) := by decide +kernel
theorem dX6_faulty_88 : decode cX6_faulty 88 = .ok (.goto 4, 3) := by decide +kernel
theorem dX6_faulty_91 : decode cX6_faulty 91 = .ok (.iload_n 2, 1) := by decide +kernel
theorem dX6_faulty_92 : decode cX6_faulty 92 = .ok (.istore_n 2, 1) := by decide +kernel
theorem dX6_faulty_93 : decode cX6_faulty 93 = .ok (.iinc 3 1, 3) := by decide +kernel
theorem dX6_faulty_96 : decode cX6_faulty 96 = .ok (.goto (-80), 3) := by decide +kernel
theorem dX6_faulty_99 : decode cX6_faulty 99 = .ok (.iload_n 2, 1) := by decide +kernel
theorem dX6_faulty_100 : decode cX6_faulty 100 = .ok (.ireturn, 1) := by decide +kernel
theorem dX6_plane_0 : decode cX6_plane 0 = .ok (.iload_n 1, 1) := by decide +kernel
theorem dX6_plane_1 : decode cX6_plane 1 = .ok (.iconst 0, 1) := by decide +kernel
theorem dX6_plane_2 : decode cX6_plane 2 = .ok (.iconst 4, 1) := by decide +kernel
theorem dX6_plane_3 : decode cX6_plane 3 = .ok (.invokestatic 31, 3) := by decide +kernel
theorem dX6_plane_6 : decode cX6_plane 6 = .ok (.ifCond .eq 12, 3) := by decide +kernel
theorem dX6_plane_9 : decode cX6_plane 9 = .ok (.iload_n 2, 1) := by decide +kernel
theorem dX6_plane_10 : decode cX6_plane 10 = .ok (.iconst 0, 1) := by decide +kernel
theorem dX6_plane_11 : decode cX6_plane 11 = .ok (.iconst 3, 1) := by decide +kernel
theorem dX6_plane_12 : decode cX6_plane 12 = .ok (.invokestatic 31, 3) := by decide +kernel
theorem dX6_plane_15 : decode cX6_plane 15 = .ok (.ifCond .ne 5, 3) := by decide +kernel
theorem dX6_plane_18 : decode cX6_plane 18 = .ok (.iconst (-1), 1) := by decide +kernel
theorem dX6_plane_19 : decode cX6_plane 19 = .ok (.ireturn, 1) := by decide +kernel
theorem dX6_plane_20 : decode cX6_plane 20 = .ok (.iconst 0, 1) := by decide +kernel
theorem dX6_plane_21 : decode cX6_plane 21 = .ok (.istore_n 3, 1) := by decide +kernel
theorem dX6_plane_22 : decode cX6_plane 22 = .ok (.iconst 0, 1) := by decide +kernel
theorem dX6_plane_23 : decode cX6_plane 23 = .ok (.istore 4, 2) := by decide +kernel
theorem dX6_plane_25 : decode cX6_plane 25 = .ok (.iconst 0, 1) := by decide +kernel
theorem dX6_plane_26 : decode cX6_plane 26 = .ok (.istore 5, 2) := by decide +kernel
theorem dX6_plane_28 : decode cX6_plane 28 = .ok (.iload 5, 2) := by decide +kernel
theorem dX6_plane_30 : decode cX6_plane 30 = .ok (.bipush 8, 2) := by decide +kernel
theorem dX6_plane_32 : decode cX6_plane 32 = .ok (.if_icmp .ge 135, 3) := by decide +kernel
theorem dX6_plane_35 : decode cX6_plane 35 = .ok (.aload_n 0, 1) := by decide +kernel
theorem dX6_plane_36 : decode cX6_plane 36 = .ok (.iload 5, 2) := by decide +kernel
theorem dX6_plane_38 : decode cX6_plane 38 = .ok (.invokevirtual 66, 3) := by decide +kernel
theorem dX6_plane_41 : decode cX6_plane 41 = .ok (.iconst 0, 1) := by decide +kernel
theorem dX6_plane_42 : decode cX6_plane 42 = .ok (.istore 6, 2) := by decide +kernel
theorem dX6_plane_44 : decode cX6_plane 44 = .ok (.iconst 0, 1) := by decide +kernel
theorem dX6_plane_45 : decode cX6_plane 45 = .ok (.istore 7, 2) := by decide +kernel
theorem dX6_plane_47 : decode cX6_plane 47 = .ok (.iload 7, 2) := by decide +kernel
theorem dX6_plane_49 : decode cX6_plane 49 = .ok (.bipush 32, 2) := by decide +kernel
theorem dX6_plane_51 : decode cX6_plane 51 = .ok (.if_icmp .ge 95, 3) := by decide +kernel
theorem dX6_plane_54 : decode cX6_plane 54 = .ok (.aload_n 0, 1) := by decide +kernel
theorem dX6_plane_55 : decode cX6_plane 55 = .ok (.iload 5, 2) := by decide +kernel
theorem dX6_plane_57 : decode cX6_plane 57 = .ok (.iload 7, 2) := by decide +kernel
theorem dX6_plane_59 : decode cX6_plane 59 = .ok (.invokevirtual 43, 3) := by decide +kernel
theorem dX6_plane_62 : decode cX6_plane 62 = .ok (.iload_n 1, 1) := by decide +kernel
theorem dX6_plane_63 : decode cX6_plane 63 = .ok (.if_icmp .ne 7, 3) := by decide +kernel
theorem dX6_plane_66 : decode cX6_plane 66 = .ok (.iconst 1, 1) := by decide +kernel
theorem dX6_plane_67 : decode cX6_plane 67 = .ok (.goto 4, 3) := by decide +kernel
theorem dX6_plane_70 : decode cX6_plane 70 = .ok (.iconst 0, 1) := by decide +kernel
theorem dX6_plane_71 : decode cX6_plane 71 = .ok (.istore 8, 2) := by decide +kernel
theorem dX6_plane_73 : decode cX6_plane 73 = .ok (.iload_n 2, 1) := by decide +kernel
theorem dX6_plane_74 : decode cX6_plane 74 = .ok (.ifCond .ne 8, 3) := by decide +kernel
theorem dX6_plane_77 : decode cX6_plane 77 = .ok (.iload 8, 2) := by decide +kernel
theorem dX6_plane_79 : decode cX6_plane 79 = .ok (.goto 29, 3) := by decide +kernel
theorem dX6_plane_82 : decode cX6_plane 82 = .ok (.aload_n 0, 1) := by decide +kernel
theorem dX6_plane_83 : decode cX6_plane 83 = .ok (.getfield 25, 3) := by decide +kernel
theorem dX6_plane_86 : decode cX6_plane 86 = .ok (.iload 7, 2) := by decide +kernel
theorem dX6_plane_88 : decode cX6_plane 88 = .ok (.iaload, 1) := by decide +kernel
theorem dX6_plane_89 : decode cX6_plane 89 = .ok (.iload_n 1, 1) := by decide +kernel
theorem dX6_plane_90 : decode cX6_plane 90 = .ok (.if_icmp .ne 17, 3) := by decide +kernel
theorem dX6_plane_93 : decode cX6_plane 93 = .ok (.iload_n 2, 1) := by decide +kernel
theorem dX6_plane_94 : decode cX6_plane 94 = .ok (.iconst 1, 1) := by decide +kernel
theorem dX6_plane_95 : decode cX6_plane 95 = .ok (.if_icmp .eq 8, 3) := by decide +kernel
theorem dX6_plane_98 : decode cX6_plane 98 = .ok (.iload 8, 2) := by decide +kernel
theorem dX6_plane_100 : decode cX6_plane 100 = .ok (.ifCond .eq 7, 3) := by decide +kernel
theorem dX6_plane_103 : decode cX6_plane 103 = .ok (.iconst 1, 1) := by decide +kernel
theorem dX6_plane_104 : decode cX6_plane 104 = .ok (.goto 4, 3) := by decide +kernel
theorem dX6_plane_107 : decode cX6_plane 107 = .ok (.iconst 0, 1) := by decide +kernel
theorem dX6_plane_108 : decode cX6_plane 108 = .ok (.istore 9, 2) := by decide +kernel
theorem dX6_plane_110 : decode cX6_plane 110 = .ok (.iload_n 3, 1) := by decide +kernel
theorem dX6_plane_111 : decode cX6_plane 111 = .ok (.iload 9, 2) := by decide +kernel
theorem dX6_plane_113 : decode cX6_plane 113 = .ok (.ifCond .eq 7, 3) := by decide +kernel
theorem dX6_plane_116 : decode cX6_plane 116 = .ok (.iconst 1, 1) := by decide +kernel
theorem dX6_plane_117 : decode cX6_plane 117 = .ok (.goto 4, 3) := by decide +kernel
theorem dX6_plane_120 : decode cX6_plane 120 = .ok (.iconst 0, 1) := by decide +kernel
theorem dX6_plane_121 : decode cX6_plane 121 = .ok (.iadd, 1) := by decide +kernel
theorem dX6_plane_122 : decode cX6_plane 122 = .ok (.istore_n 3, 1) := by decide +kernel
theorem dX6_plane_123 : decode cX6_plane 123 = .ok (.iload 6, 2) := by decide +kernel
theorem dX6_plane_125 : decode cX6_plane 125 = .ok (.ifCond .ne 8, 3) := by decide +kernel
theorem dX6_plane_128 : decode cX6_plane 128 = .ok (.iload 8, 2) := by decide +kernel
theorem dX6_plane_130 : decode cX6_plane 130 = .ok (.ifCond .eq 7, 3) := by decide +kernel
theorem dX6_plane_133 : decode cX6_plane 133 = .ok (.iconst 1, 1) := by decide +kernel
theorem dX6_plane_134 : decode cX6_plane 134 = .ok (.goto 4, 3) := by decide +kernel
theorem dX6_plane_137 : decode cX6_plane 137 = .ok (.iconst 0, 1) := by decide +kernel
theorem dX6_plane_138 : decode cX6_plane 138 = .ok (.istore 6, 2) := by decide +kernel
theorem dX6_plane_140 : decode cX6_plane 140 = .ok (.iinc 7 1, 3) := by decide +kernel
theorem dX6_plane_143 : decode cX6_plane 143 = .ok (.goto (-96), 3) := by decide +kernel
theorem dX6_plane_146 : decode cX6_plane 146 = .ok (.iload 4, 2) := by decide +kernel
theorem dX6_plane_148 : decode cX6_plane 148 = .ok (.iload 6, 2) := by decide +kernel
theorem dX6_plane_150 : decode cX6_plane 150 = .ok (.ifCond .eq 7, 3) := by decide +kernel
theorem dX6_plane_153 : decode cX6_plane 153 = .ok (.iconst 1, 1) := by decide +kernel
theorem dX6_plane_154 : decode cX6_plane 154 = .ok (.goto 4, 3) := by decide +kernel
theorem dX6_plane_157 : decode cX6_plane 157 = .ok (.iconst 0, 1) := by decide +kernel
theorem dX6_plane_158 : decode cX6_plane 158 = .ok (.iadd, 1) := by decide +kernel
theorem dX6_plane_159 : decode cX6_plane 159 = .ok (.istore 4, 2) := by decide +kernel
theorem dX6_plane_161 : decode cX6_plane 161 = .ok (.iinc 5 1, 3) := by decide +kernel
theorem dX6_plane_164 : decode cX6_plane 164 = .ok (.goto (-136), 3) := by decide +kernel
theorem dX6_plane_167 : decode cX6_plane 167 = .ok (.iload_n 2, 1) := by decide +kernel
theorem dX6_plane_168 : decode cX6_plane 168 = .ok (.iconst 3, 1) := by decide +kernel
theorem dX6_plane_169 : decode cX6_plane 169 = .ok (.if_icmp .ne 8, 3) := by decide +kernel
theorem dX6_plane_172 : decode cX6_plane 172 = .ok (.iload 4, 2) := by decide +kernel
theorem dX6_plane_174 : decode cX6_plane 174 = .ok (.goto 4, 3) := by decide +kernel
theorem dX6_plane_177 : decode cX6_plane 177 = .ok (.iload_n 3, 1) := by decide +kernel
theorem dX6_plane_178 : decode cX6_plane 178 = .ok (.ireturn, 1) := by decide +kernel
theorem dX6_likes_0 : decode cX6_likes 0 = .ok (.aload_n 0, 1) := by decide +kernel
theorem dX6_likes_1 : decode cX6_likes 1 = .ok (.iload_n 2, 1) := by decide +kernel
theorem dX6_likes_2 : decode cX6_likes 2 = .ok (.invokevirtual 185, 3) := by decide +kernel
theorem dX6_likes_5 : decode cX6_likes 5 = .ok (.aload_n 0, 1) := by decide +kernel
theorem dX6_likes_6 : decode cX6_likes 6 = .ok (.iload_n 1, 1) := by decide +kernel
theorem dX6_likes_7 : decode cX6_likes 7 = .ok (.invokevirtual 66, 3) := by decide +kernel
theorem dX6_likes_10 : decode cX6_likes 10 = .ok (.iconst 0, 1) := by decide +kernel
theorem dX6_likes_11 : decode cX6_likes 11 = .ok (.istore_n 3, 1) := by decide +kernel
theorem dX6_likes_12 : decode cX6_likes 12 = .ok (.iconst 0, 1) := by decide +kernel
theorem dX6_likes_13 : decode cX6_likes 13 = .ok (.istore 4, 2) := by decide +kernel
theorem dX6_likes_15 : decode cX6_likes 15 = .ok (.iload 4, 2) := by decide +kernel
theorem dX6_likes_17 : decode cX6_likes 17 = .ok (.bipush 32, 2) := by decide +kernel
theorem dX6_likes_19 : decode cX6_likes 19 = .ok (.if_icmp .ge 34, 3) := by decide +kernel
theorem dX6_likes_22 : decode cX6_likes 22 = .ok (.iload_n 3, 1) := by decide +kernel
theorem dX6_likes_23 : decode cX6_likes 23 = .ok (.aload_n 0, 1) := by decide +kernel
theorem dX6_likes_24 : decode cX6_likes 24 = .ok (.getfield 25, 3) := by decide +kernel
theorem dX6_likes_27 : decode cX6_likes 27 = .ok (.iload 4, 2) := by decide +kernel
theorem dX6_likes_29 : decode cX6_likes 29 = .ok (.iaload, 1) := by decide +kernel
theorem dX6_likes_30 : decode cX6_likes 30 = .ok (.aload_n 0, 1) := by decide +kernel
theorem dX6_likes_31 : decode cX6_likes 31 = .ok (.getfield 28, 3) := by decide +kernel
theorem dX6_likes_34 : decode cX6_likes 34 = .ok (.iload 4, 2) := by decide +kernel
theorem dX6_likes_36 : decode cX6_likes 36 = .ok (.iaload, 1) := by decide +kernel
theorem dX6_likes_37 : decode cX6_likes 37 = .ok (.if_icmp .ne 7, 3) := by decide +kernel
theorem dX6_likes_40 : decode cX6_likes 40 = .ok (.iconst 1, 1) := by decide +kernel
theorem dX6_likes_41 : decode cX6_likes 41 = .ok (.goto 4, 3) := by decide +kernel
theorem dX6_likes_44 : decode cX6_likes 44 = .ok (.iconst 0, 1) := by decide +kernel
theorem dX6_likes_45 : decode cX6_likes 45 = .ok (.iadd, 1) := by decide +kernel
theorem dX6_likes_46 : decode cX6_likes 46 = .ok (.istore_n 3, 1) := by decide +kernel
theorem dX6_likes_47 : decode cX6_likes 47 = .ok (.iinc 4 1, 3) := by decide +kernel
theorem dX6_likes_50 : decode cX6_likes 50 = .ok (.goto (-35), 3) := by decide +kernel
theorem dX6_likes_53 : decode cX6_likes 53 = .ok (.iload_n 3, 1) := by decide +kernel
theorem dX6_likes_54 : decode cX6_likes 54 = .ok (.ireturn, 1) := by decide +kernel
theorem dX6_pictures_0 : decode cX6_pictures 0 = .ok (.iconst 0, 1) := by decide +kernel
theorem dX6_pictures_1 : decode cX6_pictures 1 = .ok (.istore_n 1, 1) := by decide +kernel
theorem dX6_pictures_2 : decode cX6_pictures 2 = .ok (.iconst 0, 1) := by decide +kernel
theorem dX6_pictures_3 : decode cX6_pictures 3 = .ok (.istore_n 2, 1) := by decide +kernel
theorem dX6_pictures_4 : decode cX6_pictures 4 = .ok (.iload_n 2, 1) := by decide +kernel
theorem dX6_pictures_5 : decode cX6_pictures 5 = .ok (.bipush 8, 2) := by decide +kernel
theorem dX6_pictures_7 : decode cX6_pictures 7 = .ok (.if_icmp .ge 60, 3) := by decide +kernel
theorem dX6_pictures_10 : decode cX6_pictures 10 = .ok (.iconst 1, 1) := by decide +kernel
theorem dX6_pictures_11 : decode cX6_pictures 11 = .ok (.istore_n 3, 1) := by decide +kernel
theorem dX6_pictures_12 : decode cX6_pictures 12 = .ok (.iconst 0, 1) := by decide +kernel
theorem dX6_pictures_13 : decode cX6_pictures 13 = .ok (.istore 4, 2) := by decide +kernel
theorem dX6_pictures_15 : decode cX6_pictures 15 = .ok (.iload 4, 2) := by decide +kernel
theorem dX6_pictures_17 : decode cX6_pictures 17 = .ok (.iload_n 2, 1) := by decide +kernel
theorem dX6_pictures_18 : decode cX6_pictures 18 = .ok (.if_icmp .ge 31, 3) := by decide +kernel
theorem dX6_pictures_21 : decode cX6_pictures 21 = .ok (.iload_n 3, 1) := by decide +kernel
theorem dX6_pictures_22 : decode cX6_pictures 22 = .ok (.ifCond .eq 19, 3) := by decide +kernel
theorem dX6_pictures_25 : decode cX6_pictures 25 = .ok (.aload_n 0, 1) := by decide +kernel
theorem dX6_pictures_26 : decode cX6_pictures 26 = .ok (.iload_n 2, 1) := by decide +kernel
theorem dX6_pictures_27 : decode cX6_pictures 27 = .ok (.iload 4, 2) := by decide +kernel
theorem dX6_pictures_29 : decode cX6_pictures 29 = .ok (.invokevirtual 188, 3) := by decide +kernel
theorem dX6_pictures_32 : decode cX6_pictures 32 = .ok (.bipush 32, 2) := by decide +kernel
theorem dX6_pictures_34 : decode cX6_pictures 34 = .ok (.if_icmp .ge 7, 3) := by decide +kernel
theorem dX6_pictures_37 : decode cX6_pictures 37 = .ok (.iconst 1, 1) := by decide +kernel
theorem dX6_pictures_38 : decode cX6_pictures 38 = .ok (.goto 4, 3) := by decide +kernel
theorem dX6_pictures_41 : decode cX6_pictures 41 = .ok (.iconst 0, 1) := by decide +kernel
theorem dX6_pictures_42 : decode cX6_pictures 42 = .ok (.istore_n 3, 1) := by decide +kernel
theorem dX6_pictures_43 : decode cX6_pictures 43 = .ok (.iinc 4 1, 3) := by decide +kernel
theorem dX6_pictures_46 : decode cX6_pictures 46 = .ok (.goto (-31), 3) := by decide +kernel
theorem dX6_pictures_49 : decode cX6_pictures 49 = .ok (.iload_n 1, 1) := by decide +kernel
theorem dX6_pictures_50 : decode cX6_pictures 50 = .ok (.iload_n 3, 1) := by decide +kernel
theorem dX6_pictures_51 : decode cX6_pictures 51 = .ok (.ifCond .eq 7, 3) := by decide +kernel
theorem dX6_pictures_54 : decode cX6_pictures 54 = .ok (.iconst 1, 1) := by decide +kernel
theorem dX6_pictures_55 : decode cX6_pictures 55 = .ok (.goto 4, 3) := by decide +kernel
theorem dX6_pictures_58 : decode cX6_pictures 58 = .ok (.iconst 0, 1) := by decide +kernel
theorem dX6_pictures_59 : decode cX6_pictures 59 = .ok (.iadd, 1) := by decide +kernel
theorem dX6_pictures_60 : decode cX6_pictures 60 = .ok (.istore_n 1, 1) := by decide +kernel
theorem dX6_pictures_61 : decode cX6_pictures 61 = .ok (.iinc 2 1, 3) := by decide +kernel
theorem dX6_pictures_64 : decode cX6_pictures 64 = .ok (.goto (-60), 3) := by decide +kernel
theorem dX6_pictures_67 : decode cX6_pictures 67 = .ok (.iload_n 1, 1) := by decide +kernel
theorem dX6_pictures_68 : decode cX6_pictures 68 = .ok (.ireturn, 1) := by decide +kernel
theorem dX6_overAll_0 : decode cX6_overAll 0 = .ok (.iconst 0, 1) := by decide +kernel
theorem dX6_overAll_1 : decode cX6_overAll 1 = .ok (.istore_n 2, 1) := by decide +kernel
theorem dX6_overAll_2 : decode cX6_overAll 2 = .ok (.iconst 0, 1) := by decide +kernel
theorem dX6_overAll_3 : decode cX6_overAll 3 = .ok (.istore_n 3, 1) := by decide +kernel
theorem dX6_overAll_4 : decode cX6_overAll 4 = .ok (.iload_n 3, 1) := by decide +kernel
theorem dX6_overAll_5 : decode cX6_overAll 5 = .ok (.bipush 8, 2) := by decide +kernel
theorem dX6_overAll_7 : decode cX6_overAll 7 = .ok (.if_icmp .ge 18, 3) := by decide +kernel
theorem dX6_overAll_10 : decode cX6_overAll 10 = .ok (.iload_n 2, 1) := by decide +kernel
theorem dX6_overAll_11 : decode cX6_overAll 11 = .ok (.aload_n 0, 1) := by decide +kernel
theorem dX6_overAll_12 : decode cX6_overAll 12 = .ok (.iload_n 3, 1) := by decide +kernel
theorem dX6_overAll_13 : decode cX6_overAll 13 = .ok (.iload_n 1, 1) := by decide +kernel
theorem dX6_overAll_14 : decode cX6_overAll 14 = .ok (.invokevirtual 167, 3) := by decide +kernel
theorem dX6_overAll_17 : decode cX6_overAll 17 = .ok (.iadd, 1) := by decide +kernel
theorem dX6_overAll_18 : decode cX6_overAll 18 = .ok (.istore_n 2, 1) := by decide +kernel
theorem dX6_overAll_19 : decode cX6_overAll 19 = .ok (.iinc 3 1, 3) := by decide +kernel
theorem dX6_overAll_22 : decode cX6_overAll 22 = .ok (.goto (-18), 3) := by decide +kernel
theorem dX6_overAll_25 : decode cX6_overAll 25 = .ok (.iload_n 2, 1) := by decide +kernel
theorem dX6_overAll_26 : decode cX6_overAll 26 = .ok (.ireturn, 1) := by decide +kernel
theorem dX6_raised_0 : decode cX6_raised 0 = .ok (.iconst 0, 1) := by decide +kernel
theorem dX6_raised_1 : decode cX6_raised 1 = .ok (.istore_n 1, 1) := by decide +kernel
theorem dX6_raised_2 : decode cX6_raised 2 = .ok (.bipush 32, 2) := by decide +kernel
theorem dX6_raised_4 : decode cX6_raised 4 = .ok (.istore_n 2, 1) := by decide +kernel
theorem dX6_raised_5 : decode cX6_raised 5 = .ok (.iload_n 2, 1) := by decide +kernel
theorem dX6_raised_6 : decode cX6_raised 6 = .ok (.sipush 288, 3) := by decide +kernel
theorem dX6_raised_9 : decode cX6_raised 9 = .ok (.if_icmp .ge 26, 3) := by decide +kernel
theorem dX6_raised_12 : decode cX6_raised 12 = .ok (.iload_n 1, 1) := by decide +kernel
theorem dX6_raised_13 : decode cX6_raised 13 = .ok (.aload_n 0, 1) := by decide +kernel
theorem dX6_raised_14 : decode cX6_raised 14 = .ok (.getfield 7, 3) := by decide +kernel
theorem dX6_raised_17 : decode cX6_raised 17 = .ok (.iload_n 2, 1) := by decide +kernel
theorem dX6_raised_18 : decode cX6_raised 18 = .ok (.iaload, 1) := by decide +kernel
theorem dX6_raised_19 : decode cX6_raised 19 = .ok (.ifCond .le 7, 3) := by decide +kernel
theorem dX6_raised_22 : decode cX6_raised 22 = .ok (.iconst 1, 1) := by decide +kernel
theorem dX6_raised_23 : decode cX6_raised 23 = .ok (.goto 4, 3) := by decide +kernel
theorem dX6_raised_26 : decode cX6_raised 26 = .ok (.iconst 0, 1) := by decide +kernel
theorem dX6_raised_27 : decode cX6_raised 27 = .ok (.iadd, 1) := by decide +kernel
theorem dX6_raised_28 : decode cX6_raised 28 = .ok (.istore_n 1, 1) := by decide +kernel
theorem dX6_raised_29 : decode cX6_raised 29 = .ok (.iinc 2 1, 3) := by decide +kernel
theorem dX6_raised_32 : decode cX6_raised 32 = .ok (.goto (-27), 3) := by decide +kernel
theorem dX6_raised_35 : decode cX6_raised 35 = .ok (.iload_n 1, 1) := by decide +kernel
theorem dX6_raised_36 : decode cX6_raised 36 = .ok (.ireturn, 1) := by decide +kernel
theorem dX6_count_0 : decode cX6_count 0 = .ok (.iload_n 1, 1) := by decide +kernel
theorem dX6_count_1 : decode cX6_count 1 = .ok (.iconst 1, 1) := by decide +kernel
theorem dX6_count_2 : decode cX6_count 2 = .ok (.bipush 8, 2) := by decide +kernel
theorem dX6_count_4 : decode cX6_count 4 = .ok (.invokestatic 31, 3) := by decide +kernel
theorem dX6_count_7 : decode cX6_count 7 = .ok (.ifCond .eq 11, 3) := by decide +kernel
theorem dX6_count_10 : decode cX6_count 10 = .ok (.aload_n 0, 1) := by decide +kernel
theorem dX6_count_11 : decode cX6_count 11 = .ok (.iload_n 1, 1) := by decide +kernel
theorem dX6_count_12 : decode cX6_count 12 = .ok (.iconst 1, 1) := by decide +kernel
theorem dX6_count_13 : decode cX6_count 13 = .ok (.isub, 1) := by decide +kernel
theorem dX6_count_14 : decode cX6_count 14 = .ok (.invokevirtual 191, 3) := by decide +kernel
theorem dX6_count_17 : decode cX6_count 17 = .ok (.ireturn, 1) := by decide +kernel
theorem dX6_count_18 : decode cX6_count 18 = .ok (.iload_n 1, 1) := by decide +kernel
theorem dX6_count_19 : decode cX6_count 19 = .ok (.bipush 13, 2) := by decide +kernel
theorem dX6_count_21 : decode cX6_count 21 = .ok (.bipush 18, 2) := by decide +kernel
theorem dX6_count_23 : decode cX6_count 23 = .ok (.invokestatic 31, 3) := by decide +kernel
theorem dX6_count_26 : decode cX6_count 26 = .ok (.ifCond .eq 13, 3) := by decide +kernel
theorem dX6_count_29 : decode cX6_count 29 = .ok (.aload_n 0, 1) := by decide +kernel
theorem dX6_count_30 : decode cX6_count 30 = .ok (.getfield 7, 3) := by decide +kernel
theorem dX6_count_33 : decode cX6_count 33 = .ok (.iload_n 1, 1) := by decide +kernel
theorem dX6_count_34 : decode cX6_count 34 = .ok (.bipush 13, 2) := by decide +kernel
theorem dX6_count_36 : decode cX6_count 36 = .ok (.isub, 1) := by decide +kernel
theorem dX6_count_37 : decode cX6_count 37 = .ok (.iaload, 1) := by decide +kernel
theorem dX6_count_38 : decode cX6_count 38 = .ok (.ireturn, 1) := by decide +kernel
theorem dX6_count_39 : decode cX6_count 39 = .ok (.iload_n 1, 1) := by decide +kernel
theorem dX6_count_40 : decode cX6_count 40 = .ok (.tableswitch 99 0 12 #[68, 99, 99, 99, 99, 99, 99, 99, 99, 73, 81, 89, 94], 68) := by decide +kernel
theorem dX6_count_108 : decode cX6_count 108 = .ok (.aload_n 0, 1) := by decide +kernel
theorem dX6_count_109 : decode cX6_count 109 = .ok (.invokevirtual 194, 3) := by decide +kernel
theorem dX6_count_112 : decode cX6_count 112 = .ok (.ireturn, 1) := by decide +kernel
theorem dX6_count_113 : decode cX6_count 113 = .ok (.aload_n 0, 1) := by decide +kernel
theorem dX6_count_114 : decode cX6_count 114 = .ok (.getfield 7, 3) := by decide +kernel
theorem dX6_count_117 : decode cX6_count 117 = .ok (.bipush 6, 2) := by decide +kernel
theorem dX6_count_119 : decode cX6_count 119 = .ok (.iaload, 1) := by decide +kernel
theorem dX6_count_120 : decode cX6_count 120 = .ok (.ireturn, 1) := by decide +kernel
theorem dX6_count_121 : decode cX6_count 121 = .ok (.aload_n 0, 1) := by decide +kernel
theorem dX6_count_122 : decode cX6_count 122 = .ok (.getfield 7, 3) := by decide +kernel
theorem dX6_count_125 : decode cX6_count 125 = .ok (.bipush 7, 2) := by decide +kernel
theorem dX6_count_127 : decode cX6_count 127 = .ok (.iaload, 1) := by decide +kernel
theorem dX6_count_128 : decode cX6_count 128 = .ok (.ireturn, 1) := by decide +kernel
theorem dX6_count_129 : decode cX6_count 129 = .ok (.aload_n 0, 1) := by decide +kernel
theorem dX6_count_130 : decode cX6_count 130 = .ok (.getfield 103, 3) := by decide +kernel
theorem dX6_count_133 : decode cX6_count 133 = .ok (.ireturn, 1) := by decide +kernel
theorem dX6_count_134 : decode cX6_count 134 = .ok (.aload_n 0, 1) := by decide +kernel
theorem dX6_count_135 : decode cX6_count 135 = .ok (.getfield 39, 3) := by decide +kernel
theorem dX6_count_138 : decode cX6_count 138 = .ok (.ireturn, 1) := by decide +kernel
theorem dX6_count_139 : decode cX6_count 139 = .ok (.iconst (-1), 1) := by decide +kernel
theorem dX6_count_140 : decode cX6_count 140 = .ok (.ireturn, 1) := by decide +kernel
theorem dX6_away_0 : decode cX6_away 0 = .ok (.iload_n 1, 1) := by decide +kernel
theorem dX6_away_1 : decode cX6_away 1 = .ok (.iconst 0, 1) := by decide +kernel
theorem dX6_away_2 : decode cX6_away 2 = .ok (.iconst 4, 1) := by decide +kernel
theorem dX6_away_3 : decode cX6_away 3 = .ok (.invokestatic 31, 3) := by decide +kernel
theorem dX6_away_6 : decode cX6_away 6 = .ok (.ifCond .ne 6, 3) := by decide +kernel
theorem dX6_away_9 : decode cX6_away 9 = .ok (.ldc 197, 2) := by decide +kernel
theorem dX6_away_11 : decode cX6_away 11 = .ok (.freturn, 1) := by decide +kernel
theorem dX6_away_12 : decode cX6_away 12 = .ok (.aload_n 0, 1) := by decide +kernel
theorem dX6_away_13 : decode cX6_away 13 = .ok (.getfield 7, 3) := by decide +kernel
theorem dX6_away_16 : decode cX6_away 16 = .ok (.iconst 0, 1) := by decide +kernel
theorem dX6_away_17 : decode cX6_away 17 = .ok (.iaload, 1) := by decide +kernel
theorem dX6_away_18 : decode cX6_away 18 = .ok (.iload_n 1, 1) := by decide +kernel
theorem dX6_away_19 : decode cX6_away 19 = .ok (.isub, 1) := by decide +kernel
theorem dX6_away_20 : decode cX6_away 20 = .ok (.istore_n 2, 1) := by decide +kernel
theorem dX6_away_21 : decode cX6_away 21 = .ok (.aload_n 0, 1) := by decide +kernel
theorem dX6_away_22 : decode cX6_away 22 = .ok (.getfield 7, 3) := by decide +kernel
theorem dX6_away_25 : decode cX6_away 25 = .ok (.iconst 3, 1) := by decide +kernel
theorem dX6_away_26 : decode cX6_away 26 = .ok (.iaload, 1) := by decide +kernel
theorem dX6_away_27 : decode cX6_away 27 = .ok (.iconst 1, 1) := by decide +kernel
theorem dX6_away_28 : decode cX6_away 28 = .ok (.if_icmp .ne 14, 3) := by decide +kernel
theorem dX6_away_31 : decode cX6_away 31 = .ok (.aload_n 0, 1) := by decide +kernel
theorem dX6_away_32 : decode cX6_away 32 = .ok (.getfield 7, 3) := by decide +kernel
theorem dX6_away_35 : decode cX6_away 35 = .ok (.iconst 4, 1) := by decide +kernel
theorem dX6_away_36 : decode cX6_away 36 = .ok (.iaload, 1) := by decide +kernel
theorem dX6_away_37 : decode cX6_away 37 = .ok (.iload_n 2, 1) := by decide +kernel
theorem dX6_away_38 : decode cX6_away 38 = .ok (.iadd, 1) := by decide +kernel
theorem dX6_away_39 : decode cX6_away 39 = .ok (.goto 11, 3) := by decide +kernel
theorem dX6_away_42 : decode cX6_away 42 = .ok (.aload_n 0, 1) := by decide +kernel
theorem dX6_away_43 : decode cX6_away 43 = .ok (.getfield 7, 3) := by decide +kernel
theorem dX6_away_46 : decode cX6_away 46 = .ok (.iconst 4, 1) := by decide +kernel
theorem dX6_away_47 : decode cX6_away 47 = .ok (.iaload, 1) := by decide +kernel
theorem dX6_away_48 : decode cX6_away 48 = .ok (.iload_n 2, 1) := by decide +kernel
theorem dX6_away_49 : decode cX6_away 49 = .ok (.isub, 1) := by decide +kernel
theorem dX6_away_50 : decode cX6_away 50 = .ok (.istore_n 3, 1) := by decide +kernel
theorem dX6_away_51 : decode cX6_away 51 = .ok (.aload_n 0, 1) := by decide +kernel
theorem dX6_away_52 : decode cX6_away 52 = .ok (.getfield 7, 3) := by decide +kernel
theorem dX6_away_55 : decode cX6_away 55 = .ok (.iconst 5, 1) := by decide +kernel
theorem dX6_away_56 : decode cX6_away 56 = .ok (.iaload, 1) := by decide +kernel
theorem dX6_away_57 : decode cX6_away 57 = .ok (.iload_n 2, 1) := by decide +kernel
theorem dX6_away_58 : decode cX6_away 58 = .ok (.imul, 1) := by decide +kernel
theorem dX6_away_59 : decode cX6_away 59 = .ok (.i2f, 1) := by decide +kernel
theorem dX6_away_60 : decode cX6_away 60 = .ok (.iload_n 3, 1) := by decide +kernel
theorem dX6_away_61 : decode cX6_away 61 = .ok (.i2f, 1) := by decide +kernel
theorem dX6_away_62 : decode cX6_away 62 = .ok (.fdiv, 1) := by decide +kernel
theorem dX6_away_63 : decode cX6_away 63 = .ok (.freturn, 1) := by decide +kernel
theorem dX6_clearness_0 : decode cX6_clearness 0 = .ok (.iload_n 1, 1) := by decide +kernel
theorem dX6_clearness_1 : decode cX6_clearness 1 = .ok (.invokestatic 78, 3) := by decide +kernel
theorem dX6_clearness_4 : decode cX6_clearness 4 = .ok (.ifCond .eq 16, 3) := by decide +kernel
theorem dX6_clearness_7 : decode cX6_clearness 7 = .ok (.aload_n 0, 1) := by decide +kernel
theorem dX6_clearness_8 : decode cX6_clearness 8 = .ok (.iload_n 1, 1) := by decide +kernel
theorem dX6_clearness_9 : decode cX6_clearness 9 = .ok (.invokevirtual 74, 3) := by decide +kernel
theorem dX6_clearness_12 : decode cX6_clearness 12 = .ok (.i2d, 1) := by decide +kernel
theorem dX6_clearness_13 : decode cX6_clearness 13 = .ok (.ldc2_w 198, 3) := by decide +kernel
theorem dX6_clearness_16 : decode cX6_clearness 16 = .ok (.ddiv, 1) := by decide +kernel
theorem dX6_clearness_17 : decode cX6_clearness 17 = .ok (.goto 6, 3) := by decide +kernel
theorem dX6_clearness_20 : decode cX6_clearness 20 = .ok (.ldc2_w 200, 3) := by decide +kernel
theorem dX6_clearness_23 : decode cX6_clearness 23 = .ok (.dreturn, 1) := by decide +kernel
theorem dX6_ifPainted_0 : decode cX6_ifPainted 0 = .ok (.iload_n 1, 1) := by decide +kernel
theorem dX6_ifPainted_1 : decode cX6_ifPainted 1 = .ok (.invokestatic 78, 3) := by decide +kernel
theorem dX6_ifPainted_4 : decode cX6_ifPainted 4 = .ok (.ifCond .eq 30, 3) := by decide +kernel
theorem dX6_ifPainted_7 : decode cX6_ifPainted 7 = .ok (.iload_n 2, 1) := by decide +kernel
theorem dX6_ifPainted_8 : decode cX6_ifPainted 8 = .ok (.invokestatic 52, 3) := by decide +kernel
theorem dX6_ifPainted_11 : decode cX6_ifPainted 11 = .ok (.ifCond .eq 23, 3) := by decide +kernel
theorem dX6_ifPainted_14 : decode cX6_ifPainted 14 = .ok (.iload_n 3, 1) := by decide +kernel
theorem dX6_ifPainted_15 : decode cX6_ifPainted 15 = .ok (.iconst 0, 1) := by decide +kernel
theorem dX6_ifPainted_16 : decode cX6_ifPainted 16 = .ok (.bipush 7, 2) := by decide +kernel
theorem dX6_ifPainted_18 : decode cX6_ifPainted 18 = .ok (.invokestatic 31, 3) := by decide +kernel
theorem dX6_ifPainted_21 : decode cX6_ifPainted 21 = .ok (.ifCond .eq 13, 3) := by decide +kernel
theorem dX6_ifPainted_24 : decode cX6_ifPainted 24 = .ok (.iload 4, 2) := by decide +kernel
theorem dX6_ifPainted_26 : decode cX6_ifPainted 26 = .ok (.iconst 0, 1) := by decide +kernel
theorem dX6_ifPainted_27 : decode cX6_ifPainted 27 = .ok (.iconst 2, 1) := by decide +kernel
theorem dX6_ifPainted_28 : decode cX6_ifPainted 28 = .ok (.invokestatic 31, 3) := by decide +kernel
theorem dX6_ifPainted_31 : decode cX6_ifPainted 31 = .ok (.ifCond .ne 5, 3) := by decide +kernel
theorem dX6_ifPainted_34 : decode cX6_ifPainted 34 = .ok (.iconst (-1), 1) := by decide +kernel
theorem dX6_ifPainted_35 : decode cX6_ifPainted 35 = .ok (.ireturn, 1) := by decide +kernel
theorem dX6_ifPainted_36 : decode cX6_ifPainted 36 = .ok (.aload_n 0, 1) := by decide +kernel
theorem dX6_ifPainted_37 : decode cX6_ifPainted 37 = .ok (.iload_n 1, 1) := by decide +kernel
theorem dX6_ifPainted_38 : decode cX6_ifPainted 38 = .ok (.invokevirtual 185, 3) := by decide +kernel
theorem dX6_ifPainted_41 : decode cX6_ifPainted 41 = .ok (.aload_n 0, 1) := by decide +kernel
theorem dX6_ifPainted_42 : decode cX6_ifPainted 42 = .ok (.iload_n 1, 1) := by decide +kernel
theorem dX6_ifPainted_43 : decode cX6_ifPainted 43 = .ok (.iload_n 2, 1) := by decide +kernel
theorem dX6_ifPainted_44 : decode cX6_ifPainted 44 = .ok (.invokevirtual 56, 3) := by decide +kernel
theorem dX6_ifPainted_47 : decode cX6_ifPainted 47 = .ok (.istore 5, 2) := by decide +kernel
theorem dX6_ifPainted_49 : decode cX6_ifPainted 49 = .ok (.aload_n 0, 1) := by decide +kernel
theorem dX6_ifPainted_50 : decode cX6_ifPainted 50 = .ok (.getfield 7, 3) := by decide +kernel
theorem dX6_ifPainted_53 : decode cX6_ifPainted 53 = .ok (.sipush 288, 3) := by decide +kernel
theorem dX6_ifPainted_56 : decode cX6_ifPainted 56 = .ok (.iload_n 1, 1) := by decide +kernel
theorem dX6_ifPainted_57 : decode cX6_ifPainted 57 = .ok (.iload_n 2, 1) := by decide +kernel
theorem dX6_ifPainted_58 : decode cX6_ifPainted 58 = .ok (.invokestatic 35, 3) := by decide +kernel
theorem dX6_ifPainted_61 : decode cX6_ifPainted 61 = .ok (.iadd, 1) := by decide +kernel
theorem dX6_ifPainted_62 : decode cX6_ifPainted 62 = .ok (.iload_n 3, 1) := by decide +kernel
theorem dX6_ifPainted_63 : decode cX6_ifPainted 63 = .ok (.iastore, 1) := by decide +kernel
theorem dX6_ifPainted_64 : decode cX6_ifPainted 64 = .ok (.aload_n 0, 1) := by decide +kernel
theorem dX6_ifPainted_65 : decode cX6_ifPainted 65 = .ok (.iload_n 1, 1) := by decide +kernel
theorem dX6_ifPainted_66 : decode cX6_ifPainted 66 = .ok (.invokevirtual 74, 3) := by decide +kernel
theorem dX6_ifPainted_69 : decode cX6_ifPainted 69 = .ok (.istore 6, 2) := by decide +kernel
theorem dX6_ifPainted_71 : decode cX6_ifPainted 71 = .ok (.aload_n 0, 1) := by decide +kernel
theorem dX6_ifPainted_72 : decode cX6_ifPainted 72 = .ok (.getfield 7, 3) := by decide +kernel
theorem dX6_ifPainted_75 : decode cX6_ifPainted 75 = .ok (.sipush 288, 3) := by decide +kernel
theorem dX6_ifPainted_78 : decode cX6_ifPainted 78 = .ok (.iload_n 1, 1) := by decide +kernel
theorem dX6_ifPainted_79 : decode cX6_ifPainted 79 = .ok (.iload_n 2, 1) := by decide +kernel
theorem dX6_ifPainted_80 : decode cX6_ifPainted 80 = .ok (.invokestatic 35, 3) := by decide +kernel
theorem dX6_ifPainted_83 : decode cX6_ifPainted 83 = .ok (.iadd, 1) := by decide +kernel
theorem dX6_ifPainted_84 : decode cX6_ifPainted 84 = .ok (.iload 5, 2) := by decide +kernel
theorem dX6_ifPainted_86 : decode cX6_ifPainted 86 = .ok (.iastore, 1) := by decide +kernel
theorem dX6_ifPainted_87 : decode cX6_ifPainted 87 = .ok (.iconst 0, 1) := by decide +kernel
theorem dX6_ifPainted_88 : decode cX6_ifPainted 88 = .ok (.istore 7, 2) := by decide +kernel
theorem dX6_ifPainted_90 : decode cX6_ifPainted 90 = .ok (.bipush (-4), 2) := by decide +kernel
theorem dX6_ifPainted_92 : decode cX6_ifPainted 92 = .ok (.istore 8, 2) := by decide +kernel
theorem dX6_ifPainted_94 : decode cX6_ifPainted 94 = .ok (.iconst 0, 1) := by decide +kernel
theorem dX6_ifPainted_95 : decode cX6_ifPainted 95 = .ok (.istore 9, 2) := by decide +kernel
theorem dX6_ifPainted_97 : decode cX6_ifPainted 97 = .ok (.iload 9, 2) := by decide +kernel
theorem dX6_ifPainted_99 : decode cX6_ifPainted 99 = .ok (.bipush 32, 2) := by decide +kernel
theorem dX6_ifPainted_101 : decode cX6_ifPainted 101 = .ok (.if_icmp .ge 53, 3) := by decide +kernel
theorem dX6_ifPainted_104 : decode cX6_ifPainted 104 = .ok (.aload_n 0, 1) := by decide +kernel
theorem dX6_ifPainted_105 : decode cX6_ifPainted 105 = .ok (.getfield 25, 3) := by decide +kernel
theorem dX6_ifPainted_108 : decode cX6_ifPainted 108 = .ok (.iload 9, 2) := by decide +kernel
theorem dX6_ifPainted_110 : decode cX6_ifPainted 110 = .ok (.iaload, 1) := by decide +kernel
theorem dX6_ifPainted_111 : decode cX6_ifPainted 111 = .ok (.aload_n 0, 1) := by decide +kernel
theorem dX6_ifPainted_112 : decode cX6_ifPainted 112 = .ok (.getfield 28, 3) := by decide +kernel
theorem dX6_ifPainted_115 : decode cX6_ifPainted 115 = .ok (.iload 9, 2) := by decide +kernel
theorem dX6_ifPainted_117 : decode cX6_ifPainted 117 = .ok (.iaload, 1) := by decide +kernel
theorem dX6_ifPainted_118 : decode cX6_ifPainted 118 = .ok (.if_icmp .eq 30, 3) := by decide +kernel
theorem dX6_ifPainted_121 : decode cX6_ifPainted 121 = .ok (.iinc 7 1, 3) := by decide +kernel
theorem dX6_ifPainted_124 : decode cX6_ifPainted 124 = .ok (.iload 8, 2) := by decide +kernel
theorem dX6_ifPainted_126 : decode cX6_ifPainted 126 = .ok (.iload 9, 2) := by decide +kernel
theorem dX6_ifPainted_128 : decode cX6_ifPainted 128 = .ok (.iload_n 2, 1) := by decide +kernel
theorem dX6_ifPainted_129 : decode cX6_ifPainted 129 = .ok (.if_icmp .ge 10, 3) := by decide +kernel
theorem dX6_ifPainted_132 : decode cX6_ifPainted 132 = .ok (.iload_n 2, 1) := by decide +kernel
theorem dX6_ifPainted_133 : decode cX6_ifPainted 133 = .ok (.iload 9, 2) := by decide +kernel
theorem dX6_ifPainted_135 : decode cX6_ifPainted 135 = .ok (.isub, 1) := by decide +kernel
theorem dX6_ifPainted_136 : decode cX6_ifPainted 136 = .ok (.goto 7, 3) := by decide +kernel
theorem dX6_ifPainted_139 : decode cX6_ifPainted 139 = .ok (.iload 9, 2) := by decide +kernel
theorem dX6_ifPainted_141 : decode cX6_ifPainted 141 = .ok (.iload_n 2, 1) := by decide +kernel
theorem dX6_ifPainted_142 : decode cX6_ifPainted 142 = .ok (.isub, 1) := by decide +kernel
theorem dX6_ifPainted_143 : decode cX6_ifPainted 143 = .ok (.invokestatic 164, 3) := by decide +kernel
theorem dX6_ifPainted_146 : decode cX6_ifPainted 146 = .ok (.istore 8, 2) := by decide +kernel
theorem dX6_ifPainted_148 : decode cX6_ifPainted 148 = .ok (.iinc 9 1, 3) := by decide +kernel
theorem dX6_ifPainted_151 : decode cX6_ifPainted 151 = .ok (.goto (-54), 3) := by decide +kernel
theorem dX6_ifPainted_154 : decode cX6_ifPainted 154 = .ok (.iload 4, 2) := by decide +kernel
theorem dX6_ifPainted_156 : decode cX6_ifPainted 156 = .ok (.ifCond .ne 8, 3) := by decide +kernel
theorem dX6_ifPainted_159 : decode cX6_ifPainted 159 = .ok (.iload 7, 2) := by decide +kernel
theorem dX6_ifPainted_161 : decode cX6_ifPainted 161 = .ok (.goto 16, 3) := by decide +kernel
theorem dX6_ifPainted_164 : decode cX6_ifPainted 164 = .ok (.iload 4, 2) := by decide +kernel
theorem dX6_ifPainted_166 : decode cX6_ifPainted 166 = .ok (.iconst 1, 1) := by decide +kernel
theorem dX6_ifPainted_167 : decode cX6_ifPainted 167 = .ok (.if_icmp .ne 8, 3) := by decide +kernel
theorem dX6_ifPainted_170 : decode cX6_ifPainted 170 = .ok (.iload 6, 2) := by decide +kernel
theorem dX6_ifPainted_172 : decode cX6_ifPainted 172 = .ok (.goto 5, 3) := by decide +kernel
theorem dX6_ifPainted_175 : decode cX6_ifPainted 175 = .ok (.iload 8, 2) := by decide +kernel
theorem dX6_ifPainted_177 : decode cX6_ifPainted 177 = .ok (.ireturn, 1) := by decide +kernel
theorem dX6_rightBy_0 : decode cX6_rightBy 0 = .ok (.aload_n 0, 1) := by decide +kernel
theorem dX6_rightBy_1 : decode cX6_rightBy 1 = .ok (.invokevirtual 84, 3) := by decide +kernel
theorem dX6_rightBy_4 : decode cX6_rightBy 4 = .ok (.aload_n 0, 1) := by decide +kernel
theorem dX6_rightBy_5 : decode cX6_rightBy 5 = .ok (.getfield 7, 3) := by decide +kernel
theorem dX6_rightBy_8 : decode cX6_rightBy 8 = .ok (.iconst 0, 1) := by decide +kernel
theorem dX6_rightBy_9 : decode cX6_rightBy 9 = .ok (.iload_n 2, 1) := by decide +kernel
theorem dX6_rightBy_10 : decode cX6_rightBy 10 = .ok (.iastore, 1) := by decide +kernel
theorem dX6_rightBy_11 : decode cX6_rightBy 11 = .ok (.aload_n 0, 1) := by decide +kernel
theorem dX6_rightBy_12 : decode cX6_rightBy 12 = .ok (.iload_n 1, 1) := by decide +kernel
theorem dX6_rightBy_13 : decode cX6_rightBy 13 = .ok (.invokevirtual 94, 3) := by decide +kernel
theorem dX6_rightBy_16 : decode cX6_rightBy 16 = .ok (.aload_n 0, 1) := by decide +kernel
theorem dX6_rightBy_17 : decode cX6_rightBy 17 = .ok (.iload_n 1, 1) := by decide +kernel
theorem dX6_rightBy_18 : decode cX6_rightBy 18 = .ok (.invokevirtual 74, 3) := by decide +kernel
theorem dX6_rightBy_21 : decode cX6_rightBy 21 = .ok (.istore_n 3, 1) := by decide +kernel
theorem dX6_rightBy_22 : decode cX6_rightBy 22 = .ok (.aload_n 0, 1) := by decide +kernel
theorem dX6_rightBy_23 : decode cX6_rightBy 23 = .ok (.invokevirtual 202, 3) := by decide +kernel
theorem dX6_rightBy_26 : decode cX6_rightBy 26 = .ok (.iload_n 3, 1) := by decide +kernel
theorem dX6_rightBy_27 : decode cX6_rightBy 27 = .ok (.ireturn, 1) := by decide +kernel
theorem dX6_ifPrinted_0 : decode cX6_ifPrinted 0 = .ok (.iload_n 1, 1) := by decide +kernel
theorem dX6_ifPrinted_1 : decode cX6_ifPrinted 1 = .ok (.invokestatic 78, 3) := by decide +kernel
theorem dX6_ifPrinted_4 : decode cX6_ifPrinted 4 = .ok (.ifCond .eq 23, 3) := by decide +kernel
theorem dX6_ifPrinted_7 : decode cX6_ifPrinted 7 = .ok (.iload_n 2, 1) := by decide +kernel
theorem dX6_ifPrinted_8 : decode cX6_ifPrinted 8 = .ok (.bipush 6, 2) := by decide +kernel
theorem dX6_ifPrinted_10 : decode cX6_ifPrinted 10 = .ok (.bipush 16, 2) := by decide +kernel
theorem dX6_ifPrinted_12 : decode cX6_ifPrinted 12 = .ok (.invokestatic 31, 3) := by decide +kernel
theorem dX6_ifPrinted_15 : decode cX6_ifPrinted 15 = .ok (.ifCond .eq 12, 3) := by decide +kernel
theorem dX6_ifPrinted_18 : decode cX6_ifPrinted 18 = .ok (.aload_n 0, 1) := by decide +kernel
theorem dX6_ifPrinted_19 : decode cX6_ifPrinted 19 = .ok (.iload_n 1, 1) := by decide +kernel
theorem dX6_ifPrinted_20 : decode cX6_ifPrinted 20 = .ok (.iload_n 2, 1) := by decide +kernel
theorem dX6_ifPrinted_21 : decode cX6_ifPrinted 21 = .ok (.invokevirtual 205, 3) := by decide +kernel
theorem dX6_ifPrinted_24 : decode cX6_ifPrinted 24 = .ok (.goto 4, 3) := by decide +kernel
theorem dX6_ifPrinted_27 : decode cX6_ifPrinted 27 = .ok (.iconst (-1), 1) := by decide +kernel
theorem dX6_ifPrinted_28 : decode cX6_ifPrinted 28 = .ok (.ireturn, 1) := by decide +kernel
theorem dX6_shortest_0 : decode cX6_shortest 0 = .ok (.iload_n 1, 1) := by decide +kernel
theorem dX6_shortest_1 : decode cX6_shortest 1 = .ok (.invokestatic 78, 3) := by decide +kernel
theorem dX6_shortest_4 : decode cX6_shortest 4 = .ok (.ifCond .ne 5, 3) := by decide +kernel
theorem dX6_shortest_7 : decode cX6_shortest 7 = .ok (.iconst (-1), 1) := by decide +kernel
theorem dX6_shortest_8 : decode cX6_shortest 8 = .ok (.ireturn, 1) := by decide +kernel
theorem dX6_shortest_9 : decode cX6_shortest 9 = .ok (.bipush 6, 2) := by decide +kernel
theorem dX6_shortest_11 : decode cX6_shortest 11 = .ok (.istore_n 2, 1) := by decide +kernel
theorem dX6_shortest_12 : decode cX6_shortest 12 = .ok (.bipush 7, 2) := by decide +kernel
theorem dX6_shortest_14 : decode cX6_shortest 14 = .ok (.istore_n 3, 1) := by decide +kernel
theorem dX6_shortest_15 : decode cX6_shortest 15 = .ok (.iload_n 3, 1) := by decide +kernel
theorem dX6_shortest_16 : decode cX6_shortest 16 = .ok (.bipush 17, 2) := by decide +kernel
theorem dX6_shortest_18 : decode cX6_shortest 18 = .ok (.if_icmp .ge 30, 3) := by decide +kernel
theorem dX6_shortest_21 : decode cX6_shortest 21 = .ok (.aload_n 0, 1) := by decide +kernel
theorem dX6_shortest_22 : decode cX6_shortest 22 = .ok (.iload_n 1, 1) := by decide +kernel
theorem dX6_shortest_23 : decode cX6_shortest 23 = .ok (.iload_n 3, 1) := by decide +kernel
theorem dX6_shortest_24 : decode cX6_shortest 24 = .ok (.invokevirtual 205, 3) := by decide +kernel
theorem dX6_shortest_27 : decode cX6_shortest 27 = .ok (.aload_n 0, 1) := by decide +kernel
theorem dX6_shortest_28 : decode cX6_shortest 28 = .ok (.iload_n 1, 1) := by decide +kernel
theorem dX6_shortest_29 : decode cX6_shortest 29 = .ok (.iload_n 2, 1) := by decide +kernel
theorem dX6_shortest_30 : decode cX6_shortest 30 = .ok (.invokevirtual 205, 3) := by decide +kernel
theorem dX6_shortest_33 : decode cX6_shortest 33 = .ok (.if_icmp .le 7, 3) := by decide +kernel
theorem dX6_shortest_36 : decode cX6_shortest 36 = .ok (.iload_n 3, 1) := by decide +kernel
theorem dX6_shortest_37 : decode cX6_shortest 37 = .ok (.goto 4, 3) := by decide +kernel
theorem dX6_shortest_40 : decode cX6_shortest 40 = .ok (.iload_n 2, 1) := by decide +kernel
theorem dX6_shortest_41 : decode cX6_shortest 41 = .ok (.istore_n 2, 1) := by decide +kernel
theorem dX6_shortest_42 : decode cX6_shortest 42 = .ok (.iinc 3 1, 3) := by decide +kernel
theorem dX6_shortest_45 : decode cX6_shortest 45 = .ok (.goto (-30), 3) := by decide +kernel
theorem dX6_shortest_48 : decode cX6_shortest 48 = .ok (.iload_n 2, 1) := by decide +kernel
theorem dX6_shortest_49 : decode cX6_shortest 49 = .ok (.ireturn, 1) := by decide +kernel
theorem dX6_rightThrough_0 : decode cX6_rightThrough 0 = .ok (.aload_n 0, 1) := by decide +kernel
theorem dX6_rightThrough_1 : decode cX6_rightThrough 1 = .ok (.getfield 7, 3) := by decide +kernel
theorem dX6_rightThrough_4 : decode cX6_rightThrough 4 = .ok (.iconst 2, 1) := by decide +kernel
theorem dX6_rightThrough_5 : decode cX6_rightThrough 5 = .ok (.iaload, 1) := by decide +kernel
theorem dX6_rightThrough_6 : decode cX6_rightThrough 6 = .ok (.istore_n 3, 1) := by decide +kernel
theorem dX6_rightThrough_7 : decode cX6_rightThrough 7 = .ok (.aload_n 0, 1) := by decide +kernel
theorem dX6_rightThrough_8 : decode cX6_rightThrough 8 = .ok (.getfield 7, 3) := by decide +kernel
theorem dX6_rightThrough_11 : decode cX6_rightThrough 11 = .ok (.iconst 2, 1) := by decide +kernel
theorem dX6_rightThrough_12 : decode cX6_rightThrough 12 = .ok (.iload_n 2, 1) := by decide +kernel
theorem dX6_rightThrough_13 : decode cX6_rightThrough 13 = .ok (.iastore, 1) := by decide +kernel
theorem dX6_rightThrough_14 : decode cX6_rightThrough 14 = .ok (.aload_n 0, 1) := by decide +kernel
theorem dX6_rightThrough_15 : decode cX6_rightThrough 15 = .ok (.iload_n 1, 1) := by decide +kernel
theorem dX6_rightThrough_16 : decode cX6_rightThrough 16 = .ok (.invokevirtual 74, 3) := by decide +kernel
theorem dX6_rightThrough_19 : decode cX6_rightThrough 19 = .ok (.istore 4, 2) := by decide +kernel
theorem dX6_rightThrough_21 : decode cX6_rightThrough 21 = .ok (.aload_n 0, 1) := by decide +kernel
theorem dX6_rightThrough_22 : decode cX6_rightThrough 22 = .ok (.getfield 7, 3) := by decide +kernel
theorem dX6_rightThrough_25 : decode cX6_rightThrough 25 = .ok (.iconst 2, 1) := by decide +kernel
theorem dX6_rightThrough_26 : decode cX6_rightThrough 26 = .ok (.iload_n 3, 1) := by decide +kernel
theorem dX6_rightThrough_27 : decode cX6_rightThrough 27 = .ok (.iastore, 1) := by decide +kernel
theorem dX6_rightThrough_28 : decode cX6_rightThrough 28 = .ok (.iload 4, 2) := by decide +kernel
theorem dX6_rightThrough_30 : decode cX6_rightThrough 30 = .ok (.ireturn, 1) := by decide +kernel
theorem dX6_bestWindow_0 : decode cX6_bestWindow 0 = .ok (.iload_n 1, 1) := by decide +kernel
theorem dX6_bestWindow_1 : decode cX6_bestWindow 1 = .ok (.invokestatic 78, 3) := by decide +kernel
theorem dX6_bestWindow_4 : decode cX6_bestWindow 4 = .ok (.ifCond .ne 5, 3) := by decide +kernel
theorem dX6_bestWindow_7 : decode cX6_bestWindow 7 = .ok (.iconst (-1), 1) := by decide +kernel
theorem dX6_bestWindow_8 : decode cX6_bestWindow 8 = .ok (.ireturn, 1) := by decide +kernel
theorem dX6_bestWindow_9 : decode cX6_bestWindow 9 = .ok (.iconst 0, 1) := by decide +kernel
theorem dX6_bestWindow_10 : decode cX6_bestWindow 10 = .ok (.istore_n 2, 1) := by decide +kernel
theorem dX6_bestWindow_11 : decode cX6_bestWindow 11 = .ok (.iconst 1, 1) := by decide +kernel
theorem dX6_bestWindow_12 : decode cX6_bestWindow 12 = .ok (.istore_n 3, 1) := by decide +kernel
theorem dX6_bestWindow_13 : decode cX6_bestWindow 13 = .ok (.iload_n 3, 1) := by decide +kernel
theorem dX6_bestWindow_14 : decode cX6_bestWindow 14 = .ok (.iconst 4, 1) := by decide +kernel
theorem dX6_bestWindow_15 : decode cX6_bestWindow 15 = .ok (.if_icmp .ge 30, 3) := by decide +kernel
theorem dX6_bestWindow_18 : decode cX6_bestWindow 18 = .ok (.aload_n 0, 1) := by decide +kernel
theorem dX6_bestWindow_19 : decode cX6_bestWindow 19 = .ok (.iload_n 1, 1) := by decide +kernel
theorem dX6_bestWindow_20 : decode cX6_bestWindow 20 = .ok (.iload_n 3, 1) := by decide +kernel
theorem dX6_bestWindow_21 : decode cX6_bestWindow 21 = .ok (.invokevirtual 208, 3) := by decide +kernel
theorem dX6_bestWindow_24 : decode cX6_bestWindow 24 = .ok (.aload_n 0, 1) := by decide +kernel
theorem dX6_bestWindow_25 : decode cX6_bestWindow 25 = .ok (.iload_n 1, 1) := by decide +kernel
theorem dX6_bestWindow_26 : decode cX6_bestWindow 26 = .ok (.iload_n 2, 1) := by decide +kernel
theorem dX6_bestWindow_27 : decode cX6_bestWindow 27 = .ok (.invokevirtual 208, 3) := by decide +kernel
theorem dX6_bestWindow_30 : decode cX6_bestWindow 30 = .ok (.if_icmp .le 7, 3) := by decide +kernel
theorem dX6_bestWindow_33 : decode cX6_bestWindow 33 = .ok (.iload_n 3, 1) := by decide +kernel
theorem dX6_bestWindow_34 : decode cX6_bestWindow 34 = .ok (.goto 4, 3) := by decide +kernel
theorem dX6_bestWindow_37 : decode cX6_bestWindow 37 = .ok (.iload_n 2, 1) := by decide +kernel
theorem dX6_bestWindow_38 : decode cX6_bestWindow 38 = .ok (.istore_n 2, 1) := by decide +kernel
theorem dX6_bestWindow_39 : decode cX6_bestWindow 39 = .ok (.iinc 3 1, 3) := by decide +kernel
theorem dX6_bestWindow_42 : decode cX6_bestWindow 42 = .ok (.goto (-29), 3) := by decide +kernel
theorem dX6_bestWindow_45 : decode cX6_bestWindow 45 = .ok (.iload_n 2, 1) := by decide +kernel
theorem dX6_bestWindow_46 : decode cX6_bestWindow 46 = .ok (.ireturn, 1) := by decide +kernel
theorem dX6_alike_0 : decode cX6_alike 0 = .ok (.iload_n 1, 1) := by decide +kernel
theorem dX6_alike_1 : decode cX6_alike 1 = .ok (.invokestatic 78, 3) := by decide +kernel
theorem dX6_alike_4 : decode cX6_alike 4 = .ok (.ifCond .eq 19, 3) := by decide +kernel
theorem dX6_alike_7 : decode cX6_alike 7 = .ok (.iload_n 2, 1) := by decide +kernel
theorem dX6_alike_8 : decode cX6_alike 8 = .ok (.invokestatic 78, 3) := by decide +kernel
theorem dX6_alike_11 : decode cX6_alike 11 = .ok (.ifCond .eq 12, 3) := by decide +kernel
theorem dX6_alike_14 : decode cX6_alike 14 = .ok (.aload_n 0, 1) := by decide +kernel
theorem dX6_alike_15 : decode cX6_alike 15 = .ok (.iload_n 1, 1) := by decide +kernel
theorem dX6_alike_16 : decode cX6_alike 16 = .ok (.iload_n 2, 1) := by decide +kernel
theorem dX6_alike_17 : decode cX6_alike 17 = .ok (.invokevirtual 188, 3) := by decide +kernel
theorem dX6_alike_20 : decode cX6_alike 20 = .ok (.goto 4, 3) := by decide +kernel
theorem dX6_alike_23 : decode cX6_alike 23 = .ok (.iconst (-1), 1) := by decide +kernel
theorem dX6_alike_24 : decode cX6_alike 24 = .ok (.ireturn, 1) := by decide +kernel
theorem dX6_undo_0 : decode cX6_undo 0 = .ok (.aload_n 0, 1) := by decide +kernel
theorem dX6_undo_1 : decode cX6_undo 1 = .ok (.getfield 39, 3) := by decide +kernel
theorem dX6_undo_4 : decode cX6_undo 4 = .ok (.ifCond .ne 6, 3) := by decide +kernel
theorem dX6_undo_7 : decode cX6_undo 7 = .ok (.bipush (-2), 2) := by decide +kernel
theorem dX6_undo_9 : decode cX6_undo 9 = .ok (.ireturn, 1) := by decide +kernel
theorem dX6_undo_10 : decode cX6_undo 10 = .ok (.aload_n 0, 1) := by decide +kernel
theorem dX6_undo_11 : decode cX6_undo 11 = .ok (.dup, 1) := by decide +kernel
theorem dX6_undo_12 : decode cX6_undo 12 = .ok (.getfield 39, 3) := by decide +kernel
theorem dX6_undo_15 : decode cX6_undo 15 = .ok (.iconst 1, 1) := by decide +kernel
theorem dX6_undo_16 : decode cX6_undo 16 = .ok (.isub, 1) := by decide +kernel
theorem dX6_undo_17 : decode cX6_undo 17 = .ok (.putfield 39, 3) := by decide +kernel
theorem dX6_undo_20 : decode cX6_undo 20 = .ok (.iconst 0, 1) := by decide +kernel
theorem dX6_undo_21 : decode cX6_undo 21 = .ok (.istore_n 1, 1) := by decide +kernel
theorem dX6_undo_22 : decode cX6_undo 22 = .ok (.iload_n 1, 1) := by decide +kernel
theorem dX6_undo_23 : decode cX6_undo 23 = .ok (.sipush 800, 3) := by decide +kernel
theorem dX6_undo_26 : decode cX6_undo 26 = .ok (.if_icmp .ge 30, 3) := by decide +kernel
theorem dX6_undo_29 : decode cX6_undo 29 = .ok (.aload_n 0, 1) := by decide +kernel
theorem dX6_undo_30 : decode cX6_undo 30 = .ok (.getfield 7, 3) := by decide +kernel
theorem dX6_undo_33 : decode cX6_undo 33 = .ok (.iload_n 1, 1) := by decide +kernel
theorem dX6_undo_34 : decode cX6_undo 34 = .ok (.aload_n 0, 1) := by decide +kernel
theorem dX6_undo_35 : decode cX6_undo 35 = .ok (.getfield 16, 3) := by decide +kernel
theorem dX6_undo_38 : decode cX6_undo 38 = .ok (.sipush 800, 3) := by decide +kernel
theorem dX6_undo_41 : decode cX6_undo 41 = .ok (.aload_n 0, 1) := by decide +kernel
theorem dX6_undo_42 : decode cX6_undo 42 = .ok (.getfield 39, 3) := by decide +kernel
theorem dX6_undo_45 : decode cX6_undo 45 = .ok (.imul, 1) := by decide +kernel
theorem dX6_undo_46 : decode cX6_undo 46 = .ok (.iload_n 1, 1) := by decide +kernel
theorem dX6_undo_47 : decode cX6_undo 47 = .ok (.iadd, 1) := by decide +kernel
theorem dX6_undo_48 : decode cX6_undo 48 = .ok (.iaload, 1) := by decide +kernel
theorem dX6_undo_49 : decode cX6_undo 49 = .ok (.iastore, 1) := by decide +kernel
theorem dX6_undo_50 : decode cX6_undo 50 = .ok (.iinc 1 1, 3) := by decide +kernel
theorem dX6_undo_53 : decode cX6_undo 53 = .ok (.goto (-31), 3) := by decide +kernel
theorem dX6_undo_56 : decode cX6_undo 56 = .ok (.aload_n 0, 1) := by decide +kernel
theorem dX6_undo_57 : decode cX6_undo 57 = .ok (.getfield 39, 3) := by decide +kernel
theorem dX6_undo_60 : decode cX6_undo 60 = .ok (.ireturn, 1) := by decide +kernel
theorem dX6_save_0 : decode cX6_save 0 = .ok (.iconst 0, 1) := by decide +kernel
theorem dX6_save_1 : decode cX6_save 1 = .ok (.istore_n 1, 1) := by decide +kernel
theorem dX6_save_2 : decode cX6_save 2 = .ok (.iload_n 1, 1) := by decide +kernel
theorem dX6_save_3 : decode cX6_save 3 = .ok (.sipush 800, 3) := by decide +kernel
theorem dX6_save_6 : decode cX6_save 6 = .ok (.if_icmp .ge 21, 3) := by decide +kernel
theorem dX6_save_9 : decode cX6_save 9 = .ok (.aload_n 0, 1) := by decide +kernel
theorem dX6_save_10 : decode cX6_save 10 = .ok (.getfield 19, 3) := by decide +kernel
theorem dX6_save_13 : decode cX6_save 13 = .ok (.iload_n 1, 1) := by decide +kernel
theorem dX6_save_14 : decode cX6_save 14 = .ok (.aload_n 0, 1) := by decide +kernel
theorem dX6_save_15 : decode cX6_save 15 = .ok (.getfield 7, 3) := by decide +kernel
theorem dX6_save_18 : decode cX6_save 18 = .ok (.iload_n 1, 1) := by decide +kernel
theorem dX6_save_19 : decode cX6_save 19 = .ok (.iaload, 1) := by decide +kernel
theorem dX6_save_20 : decode cX6_save 20 = .ok (.iastore, 1) := by decide +kernel
theorem dX6_save_21 : decode cX6_save 21 = .ok (.iinc 1 1, 3) := by decide +kernel
theorem dX6_save_24 : decode cX6_save 24 = .ok (.goto (-22), 3) := by decide +kernel
theorem dX6_save_27 : decode cX6_save 27 = .ok (.aload_n 0, 1) := by decide +kernel
theorem dX6_save_28 : decode cX6_save 28 = .ok (.iconst 1, 1) := by decide +kernel
theorem dX6_save_29 : decode cX6_save 29 = .ok (.putfield 211, 3) := by decide +kernel
theorem dX6_save_32 : decode cX6_save 32 = .ok (.aload_n 0, 1) := by decide +kernel
theorem dX6_save_33 : decode cX6_save 33 = .ok (.invokevirtual 214, 3) := by decide +kernel
theorem dX6_save_36 : decode cX6_save 36 = .ok (.ireturn, 1) := by decide +kernel
theorem dX6_restore_0 : decode cX6_restore 0 = .ok (.aload_n 0, 1) := by decide +kernel
theorem dX6_restore_1 : decode cX6_restore 1 = .ok (.getfield 211, 3) := by decide +kernel
theorem dX6_restore_4 : decode cX6_restore 4 = .ok (.ifCond .ne 6, 3) := by decide +kernel
theorem dX6_restore_7 : decode cX6_restore 7 = .ok (.bipush (-2), 2) := by decide +kernel
theorem dX6_restore_9 : decode cX6_restore 9 = .ok (.ireturn, 1) := by decide +kernel
theorem dX6_restore_10 : decode cX6_restore 10 = .ok (.aload_n 0, 1) := by decide +kernel
theorem dX6_restore_11 : decode cX6_restore 11 = .ok (.invokevirtual 81, 3) := by decide +kernel
theorem dX6_restore_14 : decode cX6_restore 14 = .ok (.iconst 0, 1) := by decide +kernel
theorem dX6_restore_15 : decode cX6_restore 15 = .ok (.istore_n 1, 1) := by decide +kernel
theorem dX6_restore_16 : decode cX6_restore 16 = .ok (.iload_n 1, 1) := by decide +kernel
theorem dX6_restore_17 : decode cX6_restore 17 = .ok (.sipush 800, 3) := by decide +kernel
theorem dX6_restore_20 : decode cX6_restore 20 = .ok (.if_icmp .ge 21, 3) := by decide +kernel
theorem dX6_restore_23 : decode cX6_restore 23 = .ok (.aload_n 0, 1) := by decide +kernel
theorem dX6_restore_24 : decode cX6_restore 24 = .ok (.getfield 7, 3) := by decide +kernel
theorem dX6_restore_27 : decode cX6_restore 27 = .ok (.iload_n 1, 1) := by decide +kernel
theorem dX6_restore_28 : decode cX6_restore 28 = .ok (.aload_n 0, 1) := by decide +kernel
theorem dX6_restore_29 : decode cX6_restore 29 = .ok (.getfield 19, 3) := by decide +kernel
theorem dX6_restore_32 : decode cX6_restore 32 = .ok (.iload_n 1, 1) := by decide +kernel
theorem dX6_restore_33 : decode cX6_restore 33 = .ok (.iaload, 1) := by decide +kernel
theorem dX6_restore_34 : decode cX6_restore 34 = .ok (.iastore, 1) := by decide +kernel
theorem dX6_restore_35 : decode cX6_restore 35 = .ok (.iinc 1 1, 3) := by decide +kernel
theorem dX6_restore_38 : decode cX6_restore 38 = .ok (.goto (-22), 3) := by decide +kernel
theorem dX6_restore_41 : decode cX6_restore 41 = .ok (.aload_n 0, 1) := by decide +kernel
theorem dX6_restore_42 : decode cX6_restore 42 = .ok (.invokevirtual 214, 3) := by decide +kernel
theorem dX6_restore_45 : decode cX6_restore 45 = .ok (.ireturn, 1) := by decide +kernel
theorem dJ6_bitCount_0f7a4_0 : decode cJ6_bitCount_0f7a4 0 = .ok (.iload_n 0, 1) := by decide +kernel
theorem dJ6_bitCount_0f7a4_1 : decode cJ6_bitCount_0f7a4 1 = .ok (.iload_n 0, 1) := by decide +kernel
theorem dJ6_bitCount_0f7a4_2 : decode cJ6_bitCount_0f7a4 2 = .ok (.iconst 1, 1) := by decide +kernel
theorem dJ6_bitCount_0f7a4_3 : decode cJ6_bitCount_0f7a4 3 = .ok (.iushr, 1) := by decide +kernel
theorem dJ6_bitCount_0f7a4_4 : decode cJ6_bitCount_0f7a4 4 = .ok (.ldc_w 265, 3) := by decide +kernel
theorem dJ6_bitCount_0f7a4_7 : decode cJ6_bitCount_0f7a4 7 = .ok (.iand, 1) := by decide +kernel
theorem dJ6_bitCount_0f7a4_8 : decode cJ6_bitCount_0f7a4 8 = .ok (.isub, 1) := by decide +kernel
theorem dJ6_bitCount_0f7a4_9 : decode cJ6_bitCount_0f7a4 9 = .ok (.istore_n 0, 1) := by decide +kernel
theorem dJ6_bitCount_0f7a4_10 : decode cJ6_bitCount_0f7a4 10 = .ok (.iload_n 0, 1) := by decide +kernel
theorem dJ6_bitCount_0f7a4_11 : decode cJ6_bitCount_0f7a4 11 = .ok (.ldc_w 266, 3) := by decide +kernel
theorem dJ6_bitCount_0f7a4_14 : decode cJ6_bitCount_0f7a4 14 = .ok (.iand, 1) := by decide +kernel
theorem dJ6_bitCount_0f7a4_15 : decode cJ6_bitCount_0f7a4 15 = .ok (.iload_n 0, 1) := by decide +kernel
theorem dJ6_bitCount_0f7a4_16 : decode cJ6_bitCount_0f7a4 16 = .ok (.iconst 2, 1) := by decide +kernel
theorem dJ6_bitCount_0f7a4_17 : decode cJ6_bitCount_0f7a4 17 = .ok (.iushr, 1) := by decide +kernel
theorem dJ6_bitCount_0f7a4_18 : decode cJ6_bitCount_0f7a4 18 = .ok (.ldc_w 266, 3) := by decide +kernel
theorem dJ6_bitCount_0f7a4_21 : decode cJ6_bitCount_0f7a4 21 = .ok (.iand, 1) := by decide +kernel
theorem dJ6_bitCount_0f7a4_22 : decode cJ6_bitCount_0f7a4 22 = .ok (.iadd, 1) := by decide +kernel
theorem dJ6_bitCount_0f7a4_23 : decode cJ6_bitCount_0f7a4 23 = .ok (.istore_n 0, 1) := by decide +kernel
theorem dJ6_bitCount_0f7a4_24 : decode cJ6_bitCount_0f7a4 24 = .ok (.iload_n 0, 1) := by decide +kernel
theorem dJ6_bitCount_0f7a4_25 : decode cJ6_bitCount_0f7a4 25 = .ok (.iload_n 0, 1) := by decide +kernel
theorem dJ6_bitCount_0f7a4_26 : decode cJ6_bitCount_0f7a4 26 = .ok (.iconst 4, 1) := by decide +kernel
theorem dJ6_bitCount_0f7a4_27 : decode cJ6_bitCount_0f7a4 27 = .ok (.iushr, 1) := by decide +kernel
theorem dJ6_bitCount_0f7a4_28 : decode cJ6_bitCount_0f7a4 28 = .ok (.iadd, 1) := by decide +kernel
theorem dJ6_bitCount_0f7a4_29 : decode cJ6_bitCount_0f7a4 29 = .ok (.ldc_w 267, 3) := by decide +kernel
theorem dJ6_bitCount_0f7a4_32 : decode cJ6_bitCount_0f7a4 32 = .ok (.iand, 1) := by decide +kernel
theorem dJ6_bitCount_0f7a4_33 : decode cJ6_bitCount_0f7a4 33 = .ok (.istore_n 0, 1) := by decide +kernel
theorem dJ6_bitCount_0f7a4_34 : decode cJ6_bitCount_0f7a4 34 = .ok (.iload_n 0, 1) := by decide +kernel
theorem dJ6_bitCount_0f7a4_35 : decode cJ6_bitCount_0f7a4 35 = .ok (.iload_n 0, 1) := by decide +kernel
theorem dJ6_bitCount_0f7a4_36 : decode cJ6_bitCount_0f7a4 36 = .ok (.bipush 8, 2) := by decide +kernel
theorem dJ6_bitCount_0f7a4_38 : decode cJ6_bitCount_0f7a4 38 = .ok (.iushr, 1) := by decide +kernel
theorem dJ6_bitCount_0f7a4_39 : decode cJ6_bitCount_0f7a4 39 = .ok (.iadd, 1) := by decide +kernel
theorem dJ6_bitCount_0f7a4_40 : decode cJ6_bitCount_0f7a4 40 = .ok (.istore_n 0, 1) := by decide +kernel
theorem dJ6_bitCount_0f7a4_41 : decode cJ6_bitCount_0f7a4 41 = .ok (.iload_n 0, 1) := by decide +kernel
theorem dJ6_bitCount_0f7a4_42 : decode cJ6_bitCount_0f7a4 42 = .ok (.iload_n 0, 1) := by decide +kernel
theorem dJ6_bitCount_0f7a4_43 : decode cJ6_bitCount_0f7a4 43 = .ok (.bipush 16, 2) := by decide +kernel
theorem dJ6_bitCount_0f7a4_45 : decode cJ6_bitCount_0f7a4 45 = .ok (.iushr, 1) := by decide +kernel
theorem dJ6_bitCount_0f7a4_46 : decode cJ6_bitCount_0f7a4 46 = .ok (.iadd, 1) := by decide +kernel
theorem dJ6_bitCount_0f7a4_47 : decode cJ6_bitCount_0f7a4 47 = .ok (.istore_n 0, 1) := by decide +kernel
theorem dJ6_bitCount_0f7a4_48 : decode cJ6_bitCount_0f7a4 48 = .ok (.iload_n 0, 1) := by decide +kernel
theorem dJ6_bitCount_0f7a4_49 : decode cJ6_bitCount_0f7a4 49 = .ok (.bipush 63, 2) := by decide +kernel
theorem dJ6_bitCount_0f7a4_51 : decode cJ6_bitCount_0f7a4 51 = .ok (.iand, 1) := by decide +kernel
theorem dJ6_bitCount_0f7a4_52 : decode cJ6_bitCount_0f7a4 52 = .ok (.ireturn, 1) := by decide +kernel
theorem dJ9_abs_0f7a4_0 : decode cJ9_abs_0f7a4 0 = .ok (.iload_n 0, 1) := by decide +kernel
theorem dJ9_abs_0f7a4_1 : decode cJ9_abs_0f7a4 1 = .ok (.ifCond .ge 8, 3) := by decide +kernel
theorem dJ9_abs_0f7a4_4 : decode cJ9_abs_0f7a4 4 = .ok (.iload_n 0, 1) := by decide +kernel
theorem dJ9_abs_0f7a4_5 : decode cJ9_abs_0f7a4 5 = .ok (.ineg, 1) := by decide +kernel
theorem dJ9_abs_0f7a4_6 : decode cJ9_abs_0f7a4 6 = .ok (.goto 4, 3) := by decide +kernel
theorem dJ9_abs_0f7a4_9 : decode cJ9_abs_0f7a4 9 = .ok (.iload_n 0, 1) := by decide +kernel
theorem dJ9_abs_0f7a4_10 : decode cJ9_abs_0f7a4 10 = .ok (.ireturn, 1) := by decide +kernel
theorem dJ9_max_7cf53_0 : decode cJ9_max_7cf53 0 = .ok (.iload_n 0, 1) := by decide +kernel
theorem dJ9_max_7cf53_1 : decode cJ9_max_7cf53 1 = .ok (.iload_n 1, 1) := by decide +kernel
theorem dJ9_max_7cf53_2 : decode cJ9_max_7cf53 2 = .ok (.if_icmp .lt 7, 3) := by decide +kernel
theorem dJ9_max_7cf53_5 : decode cJ9_max_7cf53 5 = .ok (.iload_n 0, 1) := by decide +kernel
theorem dJ9_max_7cf53_6 : decode cJ9_max_7cf53 6 = .ok (.goto 4, 3) := by decide +kernel
theorem dJ9_max_7cf53_9 : decode cJ9_max_7cf53 9 = .ok (.iload_n 1, 1) := by decide +kernel
theorem dJ9_max_7cf53_10 : decode cJ9_max_7cf53 10 = .ok (.ireturn, 1) := by decide +kernel
theorem dJ9_min_7cf53_0 : decode cJ9_min_7cf53 0 = .ok (.iload_n 0, 1) := by decide +kernel
theorem dJ9_min_7cf53_1 : decode cJ9_min_7cf53 1 = .ok (.iload_n 1, 1) := by decide +kernel
theorem dJ9_min_7cf53_2 : decode cJ9_min_7cf53 2 = .ok (.if_icmp .gt 7, 3) := by decide +kernel
theorem dJ9_min_7cf53_5 : decode cJ9_min_7cf53 5 = .ok (.iload_n 0, 1) := by decide +kernel
theorem dJ9_min_7cf53_6 : decode cJ9_min_7cf53 6 = .ok (.goto 4, 3) := by decide +kernel
theorem dJ9_min_7cf53_9 : decode cJ9_min_7cf53 9 = .ok (.iload_n 1, 1) := by decide +kernel
theorem dJ9_min_7cf53_10 : decode cJ9_min_7cf53 10 = .ok (.ireturn, 1) := by decide +kernel
theorem dJ7_fill_53178_0 : decode cJ7_fill_53178 0 = .ok (.iconst 0, 1) := by decide +kernel
theorem dJ7_fill_53178_1 : decode cJ7_fill_53178 1 = .ok (.istore_n 2, 1) := by decide +kernel
theorem dJ7_fill_53178_2 : decode cJ7_fill_53178 2 = .ok (.aload_n 0, 1) := by decide +kernel
theorem dJ7_fill_53178_3 : decode cJ7_fill_53178 3 = .ok (.arraylength, 1) := by decide +kernel
theorem dJ7_fill_53178_4 : decode cJ7_fill_53178 4 = .ok (.istore_n 3, 1) := by decide +kernel
theorem dJ7_fill_53178_5 : decode cJ7_fill_53178 5 = .ok (.iload_n 2, 1) := by decide +kernel
theorem dJ7_fill_53178_6 : decode cJ7_fill_53178 6 = .ok (.iload_n 3, 1) := by decide +kernel
theorem dJ7_fill_53178_7 : decode cJ7_fill_53178 7 = .ok (.if_icmp .ge 13, 3) := by decide +kernel
theorem dJ7_fill_53178_10 : decode cJ7_fill_53178 10 = .ok (.aload_n 0, 1) := by decide +kernel
theorem dJ7_fill_53178_11 : decode cJ7_fill_53178 11 = .ok (.iload_n 2, 1) := by decide +kernel
theorem dJ7_fill_53178_12 : decode cJ7_fill_53178 12 = .ok (.iload_n 1, 1) := by decide +kernel
theorem dJ7_fill_53178_13 : decode cJ7_fill_53178 13 = .ok (.iastore, 1) := by decide +kernel
theorem dJ7_fill_53178_14 : decode cJ7_fill_53178 14 = .ok (.iinc 2 1, 3) := by decide +kernel
theorem dJ7_fill_53178_17 : decode cJ7_fill_53178 17 = .ok (.goto (-12), 3) := by decide +kernel
theorem dJ7_fill_53178_20 : decode cJ7_fill_53178 20 = .ok (.return_, 1) := by decide +kernel
theorem dL_law_0 : decode cL_law 0 = .ok (.new 7, 3) := by decide +kernel
theorem dL_law_3 : decode cL_law 3 = .ok (.dup, 1) := by decide +kernel
theorem dL_law_4 : decode cL_law 4 = .ok (.invokespecial 9, 3) := by decide +kernel
theorem dL_law_7 : decode cL_law 7 = .ok (.astore_n 1, 1) := by decide +kernel
theorem dL_law_8 : decode cL_law 8 = .ok (.new 10, 3) := by decide +kernel
theorem dL_law_11 : decode cL_law 11 = .ok (.dup, 1) := by decide +kernel
theorem dL_law_12 : decode cL_law 12 = .ok (.invokespecial 12, 3) := by decide +kernel
theorem dL_law_15 : decode cL_law 15 = .ok (.astore_n 2, 1) := by decide +kernel
theorem dL_law_16 : decode cL_law 16 = .ok (.iconst 0, 1) := by decide +kernel
theorem dL_law_17 : decode cL_law 17 = .ok (.istore_n 3, 1) := by decide +kernel
theorem dL_law_18 : decode cL_law 18 = .ok (.iload_n 3, 1) := by decide +kernel
theorem dL_law_19 : decode cL_law 19 = .ok (.aload_n 0, 1) := by decide +kernel
theorem dL_law_20 : decode cL_law 20 = .ok (.arraylength, 1) := by decide +kernel
theorem dL_law_21 : decode cL_law 21 = .ok (.bipush 6, 2) := by decide +kernel
theorem dL_law_23 : decode cL_law 23 = .ok (.isub, 1) := by decide +kernel
theorem dL_law_24 : decode cL_law 24 = .ok (.if_icmp .gt 1163, 3) := by decide +kernel
theorem dL_law_27 : decode cL_law 27 = .ok (.aload_n 0, 1) := by decide +kernel
theorem dL_law_28 : decode cL_law 28 = .ok (.iload_n 3, 1) := by decide +kernel
theorem dL_law_29 : decode cL_law 29 = .ok (.iaload, 1) := by decide +kernel
theorem dL_law_30 : decode cL_law 30 = .ok (.bipush 63, 2) := by decide +kernel
theorem dL_law_32 : decode cL_law 32 = .ok (.iand, 1) := by decide +kernel
theorem dL_law_33 : decode cL_law 33 = .ok (.tableswitch 1148 0 34 #[155, 218, 251, 284, 307, 330, 343, 386, 409, 442, 465, 488, 501, 524, 537, 550, 563, 606, 649, 682, 715, 748, 771, 804, 817, 840, 893, 944, 997, 1030, 1053, 1076, 1109, 1122, 1135], 155) := by decide +kernel
theorem dL_law_188 : decode cL_law 188 = .ok (.aload_n 1, 1) := by decide +kernel
theorem dL_law_189 : decode cL_law 189 = .ok (.aload_n 0, 1) := by decide +kernel
theorem dL_law_190 : decode cL_law 190 = .ok (.iload_n 3, 1) := by decide +kernel
theorem dL_law_191 : decode cL_law 191 = .ok (.iconst 1, 1) := by decide +kernel
theorem dL_law_192 : decode cL_law 192 = .ok (.iadd, 1) := by decide +kernel
theorem dL_law_193 : decode cL_law 193 = .ok (.iaload, 1) := by decide +kernel
theorem dL_law_194 : decode cL_law 194 = .ok (.aload_n 0, 1) := by decide +kernel
theorem dL_law_195 : decode cL_law 195 = .ok (.iload_n 3, 1) := by decide +kernel
theorem dL_law_196 : decode cL_law 196 = .ok (.iconst 2, 1) := by decide +kernel
theorem dL_law_197 : decode cL_law 197 = .ok (.iadd, 1) := by decide +kernel
theorem dL_law_198 : decode cL_law 198 = .ok (.iaload, 1) := by decide +kernel
theorem dL_law_199 : decode cL_law 199 = .ok (.aload_n 0, 1) := by decide +kernel
theorem dL_law_200 : decode cL_law 200 = .ok (.iload_n 3, 1) := by decide +kernel
theorem dL_law_201 : decode cL_law 201 = .ok (.iconst 3, 1) := by decide +kernel
theorem dL_law_202 : decode cL_law 202 = .ok (.iadd, 1) := by decide +kernel
theorem dL_law_203 : decode cL_law 203 = .ok (.iaload, 1) := by decide +kernel
theorem dL_law_204 : decode cL_law 204 = .ok (.aload_n 0, 1) := by decide +kernel
theorem dL_law_205 : decode cL_law 205 = .ok (.iload_n 3, 1) := by decide +kernel
theorem dL_law_206 : decode cL_law 206 = .ok (.iconst 4, 1) := by decide +kernel
theorem dL_law_207 : decode cL_law 207 = .ok (.iadd, 1) := by decide +kernel
theorem dL_law_208 : decode cL_law 208 = .ok (.iaload, 1) := by decide +kernel
theorem dL_law_209 : decode cL_law 209 = .ok (.aload_n 0, 1) := by decide +kernel
theorem dL_law_210 : decode cL_law 210 = .ok (.iload_n 3, 1) := by decide +kernel
theorem dL_law_211 : decode cL_law 211 = .ok (.iconst 5, 1) := by decide +kernel
theorem dL_law_212 : decode cL_law 212 = .ok (.iadd, 1) := by decide +kernel
theorem dL_law_213 : decode cL_law 213 = .ok (.iaload, 1) := by decide +kernel
theorem dL_law_214 : decode cL_law 214 = .ok (.invokevirtual 13, 3) := by decide +kernel
theorem dL_law_217 : decode cL_law 217 = .ok (.aload_n 2, 1) := by decide +kernel
theorem dL_law_218 : decode cL_law 218 = .ok (.aload_n 0, 1) := by decide +kernel
theorem dL_law_219 : decode cL_law 219 = .ok (.iload_n 3, 1) := by decide +kernel
theorem dL_law_220 : decode cL_law 220 = .ok (.iconst 1, 1) := by decide +kernel
theorem dL_law_221 : decode cL_law 221 = .ok (.iadd, 1) := by decide +kernel
theorem dL_law_222 : decode cL_law 222 = .ok (.iaload, 1) := by decide +kernel
theorem dL_law_223 : decode cL_law 223 = .ok (.aload_n 0, 1) := by decide +kernel
theorem dL_law_224 : decode cL_law 224 = .ok (.iload_n 3, 1) := by decide +kernel
theorem dL_law_225 : decode cL_law 225 = .ok (.iconst 2, 1) := by decide +kernel
theorem dL_law_226 : decode cL_law 226 = .ok (.iadd, 1) := by decide +kernel
theorem dL_law_227 : decode cL_law 227 = .ok (.iaload, 1) := by decide +kernel
theorem dL_law_228 : decode cL_law 228 = .ok (.aload_n 0, 1) := by decide +kernel
theorem dL_law_229 : decode cL_law 229 = .ok (.iload_n 3, 1) := by decide +kernel
theorem dL_law_230 : decode cL_law 230 = .ok (.iconst 3, 1) := by decide +kernel
theorem dL_law_231 : decode cL_law 231 = .ok (.iadd, 1) := by decide +kernel
theorem dL_law_232 : decode cL_law 232 = .ok (.iaload, 1) := by decide +kernel
theorem dL_law_233 : decode cL_law 233 = .ok (.aload_n 0, 1) := by decide +kernel
theorem dL_law_234 : decode cL_law 234 = .ok (.iload_n 3, 1) := by decide +kernel
theorem dL_law_235 : decode cL_law 235 = .ok (.iconst 4, 1) := by decide +kernel
theorem dL_law_236 : decode cL_law 236 = .ok (.iadd, 1) := by decide +kernel
theorem dL_law_237 : decode cL_law 237 = .ok (.iaload, 1) := by decide +kernel
theorem dL_law_238 : decode cL_law 238 = .ok (.aload_n 0, 1) := by decide +kernel
theorem dL_law_239 : decode cL_law 239 = .ok (.iload_n 3, 1) := by decide +kernel
theorem dL_law_240 : decode cL_law 240 = .ok (.iconst 5, 1) := by decide +kernel
theorem dL_law_241 : decode cL_law 241 = .ok (.iadd, 1) := by decide +kernel
theorem dL_law_242 : decode cL_law 242 = .ok (.iaload, 1) := by decide +kernel
theorem dL_law_243 : decode cL_law 243 = .ok (.invokevirtual 17, 3) := by decide +kernel
theorem dL_law_246 : decode cL_law 246 = .ok (.if_icmp .eq 935, 3) := by decide +kernel
theorem dL_law_249 : decode cL_law 249 = .ok (.iconst 0, 1) := by decide +kernel
theorem dL_law_250 : decode cL_law 250 = .ok (.ireturn, 1) := by decide +kernel
theorem dL_law_251 : decode cL_law 251 = .ok (.aload_n 1, 1) := by decide +kernel
theorem dL_law_252 : decode cL_law 252 = .ok (.aload_n 0, 1) := by decide +kernel
theorem dL_law_253 : decode cL_law 253 = .ok (.iload_n 3, 1) := by decide +kernel
theorem dL_law_254 : decode cL_law 254 = .ok (.iconst 1, 1) := by decide +kernel
theorem dL_law_255 : decode cL_law 255 = .ok (.iadd, 1) := by decide +kernel
theorem dL_law_256 : decode cL_law 256 = .ok (.iaload, 1) := by decide +kernel
theorem dL_law_257 : decode cL_law 257 = .ok (.aload_n 0, 1) := by decide +kernel
theorem dL_law_258 : decode cL_law 258 = .ok (.iload_n 3, 1) := by decide +kernel
theorem dL_law_259 : decode cL_law 259 = .ok (.iconst 2, 1) := by decide +kernel
theorem dL_law_260 : decode cL_law 260 = .ok (.iadd, 1) := by decide +kernel
theorem dL_law_261 : decode cL_law 261 = .ok (.iaload, 1) := by decide +kernel
theorem dL_law_262 : decode cL_law 262 = .ok (.invokevirtual 18, 3) := by decide +kernel
theorem dL_law_265 : decode cL_law 265 = .ok (.aload_n 2, 1) := by decide +kernel
theorem dL_law_266 : decode cL_law 266 = .ok (.aload_n 0, 1) := by decide +kernel
theorem dL_law_267 : decode cL_law 267 = .ok (.iload_n 3, 1) := by decide +kernel
theorem dL_law_268 : decode cL_law 268 = .ok (.iconst 1, 1) := by decide +kernel
theorem dL_law_269 : decode cL_law 269 = .ok (.iadd, 1) := by decide +kernel
theorem dL_law_270 : decode cL_law 270 = .ok (.iaload, 1) := by decide +kernel
theorem dL_law_271 : decode cL_law 271 = .ok (.aload_n 0, 1) := by decide +kernel
theorem dL_law_272 : decode cL_law 272 = .ok (.iload_n 3, 1) := by decide +kernel
theorem dL_law_273 : decode cL_law 273 = .ok (.iconst 2, 1) := by decide +kernel
theorem dL_law_274 : decode cL_law 274 = .ok (.iadd, 1) := by decide +kernel
theorem dL_law_275 : decode cL_law 275 = .ok (.iaload, 1) := by decide +kernel
theorem dL_law_276 : decode cL_law 276 = .ok (.invokevirtual 22, 3) := by decide +kernel
theorem dL_law_279 : decode cL_law 279 = .ok (.if_icmp .eq 902, 3) := by decide +kernel
theorem dL_law_282 : decode cL_law 282 = .ok (.iconst 0, 1) := by decide +kernel
theorem dL_law_283 : decode cL_law 283 = .ok (.ireturn, 1) := by decide +kernel
theorem dL_law_284 : decode cL_law 284 = .ok (.aload_n 1, 1) := by decide +kernel
theorem dL_law_285 : decode cL_law 285 = .ok (.aload_n 0, 1) := by decide +kernel
theorem dL_law_286 : decode cL_law 286 = .ok (.iload_n 3, 1) := by decide +kernel
theorem dL_law_287 : decode cL_law 287 = .ok (.iconst 1, 1) := by decide +kernel
theorem dL_law_288 : decode cL_law 288 = .ok (.iadd, 1) := by decide +kernel
theorem dL_law_289 : decode cL_law 289 = .ok (.iaload, 1) := by decide +kernel
theorem dL_law_290 : decode cL_law 290 = .ok (.aload_n 0, 1) := by decide +kernel
theorem dL_law_291 : decode cL_law 291 = .ok (.iload_n 3, 1) := by decide +kernel
theorem dL_law_292 : decode cL_law 292 = .ok (.iconst 2, 1) := by decide +kernel
theorem dL_law_293 : decode cL_law 293 = .ok (.iadd, 1) := by decide +kernel
theorem dL_law_294 : decode cL_law 294 = .ok (.iaload, 1) := by decide +kernel
theorem dL_law_295 : decode cL_law 295 = .ok (.invokevirtual 23, 3) := by decide +kernel
theorem dL_law_298 : decode cL_law 298 = .ok (.aload_n 2, 1) := by decide +kernel
theorem dL_law_299 : decode cL_law 299 = .ok (.aload_n 0, 1) := by decide +kernel
theorem dL_law_300 : decode cL_law 300 = .ok (.iload_n 3, 1) := by decide +kernel
theorem dL_law_301 : decode cL_law 301 = .ok (.iconst 1, 1) := by decide +kernel
theorem dL_law_302 : decode cL_law 302 = .ok (.iadd, 1) := by decide +kernel
theorem dL_law_303 : decode cL_law 303 = .ok (.iaload, 1) := by decide +kernel
theorem dL_law_304 : decode cL_law 304 = .ok (.aload_n 0, 1) := by decide +kernel
theorem dL_law_305 : decode cL_law 305 = .ok (.iload_n 3, 1) := by decide +kernel
theorem dL_law_306 : decode cL_law 306 = .ok (.iconst 2, 1) := by decide +kernel
theorem dL_law_307 : decode cL_law 307 = .ok (.iadd, 1) := by decide +kernel
theorem dL_law_308 : decode cL_law 308 = .ok (.iaload, 1) := by decide +kernel
theorem dL_law_309 : decode cL_law 309 = .ok (.invokevirtual 26, 3) := by decide +kernel
theorem dL_law_312 : decode cL_law 312 = .ok (.if_icmp .eq 869, 3) := by decide +kernel
theorem dL_law_315 : decode cL_law 315 = .ok (.iconst 0, 1) := by decide +kernel
theorem dL_law_316 : decode cL_law 316 = .ok (.ireturn, 1) := by decide +kernel
theorem dL_law_317 : decode cL_law 317 = .ok (.aload_n 1, 1) := by decide +kernel
theorem dL_law_318 : decode cL_law 318 = .ok (.aload_n 0, 1) := by decide +kernel
theorem dL_law_319 : decode cL_law 319 = .ok (.iload_n 3, 1) := by decide +kernel
theorem dL_law_320 : decode cL_law 320 = .ok (.iconst 1, 1) := by decide +kernel
theorem dL_law_321 : decode cL_law 321 = .ok (.iadd, 1) := by decide +kernel
theorem dL_law_322 : decode cL_law 322 = .ok (.iaload, 1) := by decide +kernel
theorem dL_law_323 : decode cL_law 323 = .ok (.invokevirtual 27, 3) := by decide +kernel
theorem dL_law_326 : decode cL_law 326 = .ok (.aload_n 2, 1) := by decide +kernel
theorem dL_law_327 : decode cL_law 327 = .ok (.aload_n 0, 1) := by decide +kernel
theorem dL_law_328 : decode cL_law 328 = .ok (.iload_n 3, 1) := by decide +kernel
theorem dL_law_329 : decode cL_law 329 = .ok (.iconst 1, 1) := by decide +kernel
theorem dL_law_330 : decode cL_law 330 = .ok (.iadd, 1) := by decide +kernel
theorem dL_law_331 : decode cL_law 331 = .ok (.iaload, 1) := by decide +kernel
theorem dL_law_332 : decode cL_law 332 = .ok (.invokevirtual 31, 3) := by decide +kernel
theorem dL_law_335 : decode cL_law 335 = .ok (.if_icmp .eq 846, 3) := by decide +kernel
theorem dL_law_338 : decode cL_law 338 = .ok (.iconst 0, 1) := by decide +kernel
theorem dL_law_339 : decode cL_law 339 = .ok (.ireturn, 1) := by decide +kernel
theorem dL_law_340 : decode cL_law 340 = .ok (.aload_n 1, 1) := by decide +kernel
theorem dL_law_341 : decode cL_law 341 = .ok (.aload_n 0, 1) := by decide +kernel
theorem dL_law_342 : decode cL_law 342 = .ok (.iload_n 3, 1) := by decide +kernel
theorem dL_law_343 : decode cL_law 343 = .ok (.iconst 1, 1) := by decide +kernel
theorem dL_law_344 : decode cL_law 344 = .ok (.iadd, 1) := by decide +kernel
theorem dL_law_345 : decode cL_law 345 = .ok (.iaload, 1) := by decide +kernel
theorem dL_law_346 : decode cL_law 346 = .ok (.invokevirtual 32, 3) := by decide +kernel
theorem dL_law_349 : decode cL_law 349 = .ok (.aload_n 2, 1) := by decide +kernel
theorem dL_law_350 : decode cL_law 350 = .ok (.aload_n 0, 1) := by decide +kernel
theorem dL_law_351 : decode cL_law 351 = .ok (.iload_n 3, 1) := by decide +kernel
theorem dL_law_352 : decode cL_law 352 = .ok (.iconst 1, 1) := by decide +kernel
theorem dL_law_353 : decode cL_law 353 = .ok (.iadd, 1) := by decide +kernel
theorem dL_law_354 : decode cL_law 354 = .ok (.iaload, 1) := by decide +kernel
theorem dL_law_355 : decode cL_law 355 = .ok (.invokevirtual 35, 3) := by decide +kernel
theorem dL_law_358 : decode cL_law 358 = .ok (.if_icmp .eq 823, 3) := by decide +kernel
theorem dL_law_361 : decode cL_law 361 = .ok (.iconst 0, 1) := by decide +kernel
theorem dL_law_362 : decode cL_law 362 = .ok (.ireturn, 1) := by decide +kernel
theorem dL_law_363 : decode cL_law 363 = .ok (.aload_n 1, 1) := by decide +kernel
theorem dL_law_364 : decode cL_law 364 = .ok (.invokevirtual 36, 3) := by decide +kernel
theorem dL_law_367 : decode cL_law 367 = .ok (.aload_n 2, 1) := by decide +kernel
theorem dL_law_368 : decode cL_law 368 = .ok (.invokevirtual 40, 3) := by decide +kernel
theorem dL_law_371 : decode cL_law 371 = .ok (.if_icmp .eq 810, 3) := by decide +kernel
theorem dL_law_374 : decode cL_law 374 = .ok (.iconst 0, 1) := by decide +kernel
theorem dL_law_375 : decode cL_law 375 = .ok (.ireturn, 1) := by decide +kernel
theorem dL_law_376 : decode cL_law 376 = .ok (.aload_n 1, 1) := by decide +kernel
theorem dL_law_377 : decode cL_law 377 = .ok (.aload_n 0, 1) := by decide +kernel
theorem dL_law_378 : decode cL_law 378 = .ok (.iload_n 3, 1) := by decide +kernel
theorem dL_law_379 : decode cL_law 379 = .ok (.iconst 1, 1) := by decide +kernel
theorem dL_law_380 : decode cL_law 380 = .ok (.iadd, 1) := by decide +kernel
theorem dL_law_381 : decode cL_law 381 = .ok (.iaload, 1) := by decide +kernel
theorem dL_law_382 : decode cL_law 382 = .ok (.aload_n 0, 1) := by decide +kernel
theorem dL_law_383 : decode cL_law 383 = .ok (.iload_n 3, 1) := by decide +kernel
theorem dL_law_384 : decode cL_law 384 = .ok (.iconst 2, 1) := by decide +kernel
theorem dL_law_385 : decode cL_law 385 = .ok (.iadd, 1) := by decide +kernel
theorem dL_law_386 : decode cL_law 386 = .ok (.iaload, 1) := by decide +kernel
theorem dL_law_387 : decode cL_law 387 = .ok (.aload_n 0, 1) := by decide +kernel
theorem dL_law_388 : decode cL_law 388 = .ok (.iload_n 3, 1) := by decide +kernel
theorem dL_law_389 : decode cL_law 389 = .ok (.iconst 3, 1) := by decide +kernel
theorem dL_law_390 : decode cL_law 390 = .ok (.iadd, 1) := by decide +kernel
theorem dL_law_391 : decode cL_law 391 = .ok (.iaload, 1) := by decide +kernel
theorem dL_law_392 : decode cL_law 392 = .ok (.invokevirtual 41, 3) := by decide +kernel
theorem dL_law_395 : decode cL_law 395 = .ok (.aload_n 2, 1) := by decide +kernel
theorem dL_law_396 : decode cL_law 396 = .ok (.aload_n 0, 1) := by decide +kernel
theorem dL_law_397 : decode cL_law 397 = .ok (.iload_n 3, 1) := by decide +kernel
theorem dL_law_398 : decode cL_law 398 = .ok (.iconst 1, 1) := by decide +kernel
theorem dL_law_399 : decode cL_law 399 = .ok (.iadd, 1) := by decide +kernel
theorem dL_law_400 : decode cL_law 400 = .ok (.iaload, 1) := by decide +kernel
theorem dL_law_401 : decode cL_law 401 = .ok (.aload_n 0, 1) := by decide +kernel
theorem dL_law_402 : decode cL_law 402 = .ok (.iload_n 3, 1) := by decide +kernel
theorem dL_law_403 : decode cL_law 403 = .ok (.iconst 2, 1) := by decide +kernel
theorem dL_law_404 : decode cL_law 404 = .ok (.iadd, 1) := by decide +kernel
theorem dL_law_405 : decode cL_law 405 = .ok (.iaload, 1) := by decide +kernel
theorem dL_law_406 : decode cL_law 406 = .ok (.aload_n 0, 1) := by decide +kernel
theorem dL_law_407 : decode cL_law 407 = .ok (.iload_n 3, 1) := by decide +kernel
theorem dL_law_408 : decode cL_law 408 = .ok (.iconst 3, 1) := by decide +kernel
theorem dL_law_409 : decode cL_law 409 = .ok (.iadd, 1) := by decide +kernel
theorem dL_law_410 : decode cL_law 410 = .ok (.iaload, 1) := by decide +kernel
theorem dL_law_411 : decode cL_law 411 = .ok (.invokevirtual 45, 3) := by decide +kernel
theorem dL_law_414 : decode cL_law 414 = .ok (.if_icmp .eq 767, 3) := by decide +kernel
theorem dL_law_417 : decode cL_law 417 = .ok (.iconst 0, 1) := by decide +kernel
theorem dL_law_418 : decode cL_law 418 = .ok (.ireturn, 1) := by decide +kernel
theorem dL_law_419 : decode cL_law 419 = .ok (.aload_n 1, 1) := by decide +kernel
theorem dL_law_420 : decode cL_law 420 = .ok (.aload_n 0, 1) := by decide +kernel
theorem dL_law_421 : decode cL_law 421 = .ok (.iload_n 3, 1) := by decide +kernel
theorem dL_law_422 : decode cL_law 422 = .ok (.iconst 1, 1) := by decide +kernel
theorem dL_law_423 : decode cL_law 423 = .ok (.iadd, 1) := by decide +kernel
theorem dL_law_424 : decode cL_law 424 = .ok (.iaload, 1) := by decide +kernel
theorem dL_law_425 : decode cL_law 425 = .ok (.invokevirtual 46, 3) := by decide +kernel
theorem dL_law_428 : decode cL_law 428 = .ok (.aload_n 2, 1) := by decide +kernel
theorem dL_law_429 : decode cL_law 429 = .ok (.aload_n 0, 1) := by decide +kernel
theorem dL_law_430 : decode cL_law 430 = .ok (.iload_n 3, 1) := by decide +kernel
theorem dL_law_431 : decode cL_law 431 = .ok (.iconst 1, 1) := by decide +kernel
theorem dL_law_432 : decode cL_law 432 = .ok (.iadd, 1) := by decide +kernel
theorem dL_law_433 : decode cL_law 433 = .ok (.iaload, 1) := by decide +kernel
theorem dL_law_434 : decode cL_law 434 = .ok (.invokevirtual 49, 3) := by decide +kernel
theorem dL_law_437 : decode cL_law 437 = .ok (.if_icmp .eq 744, 3) := by decide +kernel
theorem dL_law_440 : decode cL_law 440 = .ok (.iconst 0, 1) := by decide +kernel
theorem dL_law_441 : decode cL_law 441 = .ok (.ireturn, 1) := by decide +kernel
theorem dL_law_442 : decode cL_law 442 = .ok (.aload_n 1, 1) := by decide +kernel
theorem dL_law_443 : decode cL_law 443 = .ok (.aload_n 0, 1) := by decide +kernel
theorem dL_law_444 : decode cL_law 444 = .ok (.iload_n 3, 1) := by decide +kernel
theorem dL_law_445 : decode cL_law 445 = .ok (.iconst 1, 1) := by decide +kernel
theorem dL_law_446 : decode cL_law 446 = .ok (.iadd, 1) := by decide +kernel
theorem dL_law_447 : decode cL_law 447 = .ok (.iaload, 1) := by decide +kernel
theorem dL_law_448 : decode cL_law 448 = .ok (.aload_n 0, 1) := by decide +kernel
theorem dL_law_449 : decode cL_law 449 = .ok (.iload_n 3, 1) := by decide +kernel
theorem dL_law_450 : decode cL_law 450 = .ok (.iconst 2, 1) := by decide +kernel
theorem dL_law_451 : decode cL_law 451 = .ok (.iadd, 1) := by decide +kernel
theorem dL_law_452 : decode cL_law 452 = .ok (.iaload, 1) := by decide +kernel
theorem dL_law_453 : decode cL_law 453 = .ok (.invokevirtual 50, 3) := by decide +kernel
theorem dL_law_456 : decode cL_law 456 = .ok (.aload_n 2, 1) := by decide +kernel
theorem dL_law_457 : decode cL_law 457 = .ok (.aload_n 0, 1) := by decide +kernel
theorem dL_law_458 : decode cL_law 458 = .ok (.iload_n 3, 1) := by decide +kernel
theorem dL_law_459 : decode cL_law 459 = .ok (.iconst 1, 1) := by decide +kernel
theorem dL_law_460 : decode cL_law 460 = .ok (.iadd, 1) := by decide +kernel
theorem dL_law_461 : decode cL_law 461 = .ok (.iaload, 1) := by decide +kernel
theorem dL_law_462 : decode cL_law 462 = .ok (.aload_n 0, 1) := by decide +kernel
theorem dL_law_463 : decode cL_law 463 = .ok (.iload_n 3, 1) := by decide +kernel
theorem dL_law_464 : decode cL_law 464 = .ok (.iconst 2, 1) := by decide +kernel
theorem dL_law_465 : decode cL_law 465 = .ok (.iadd, 1) := by decide +kernel
theorem dL_law_466 : decode cL_law 466 = .ok (.iaload, 1) := by decide +kernel
theorem dL_law_467 : decode cL_law 467 = .ok (.invokevirtual 53, 3) := by decide +kernel
theorem dL_law_470 : decode cL_law 470 = .ok (.if_icmp .eq 711, 3) := by decide +kernel
theorem dL_law_473 : decode cL_law 473 = .ok (.iconst 0, 1) := by decide +kernel
theorem dL_law_474 : decode cL_law 474 = .ok (.ireturn, 1) := by decide +kernel
theorem dL_law_475 : decode cL_law 475 = .ok (.aload_n 1, 1) := by decide +kernel
theorem dL_law_476 : decode cL_law 476 = .ok (.aload_n 0, 1) := by decide +kernel
theorem dL_law_477 : decode cL_law 477 = .ok (.iload_n 3, 1) := by decide +kernel
theorem dL_law_478 : decode cL_law 478 = .ok (.iconst 1, 1) := by decide +kernel
theorem dL_law_479 : decode cL_law 479 = .ok (.iadd, 1) := by decide +kernel
theorem dL_law_480 : decode cL_law 480 = .ok (.iaload, 1) := by decide +kernel
theorem dL_law_481 : decode cL_law 481 = .ok (.invokevirtual 54, 3) := by decide +kernel
theorem dL_law_484 : decode cL_law 484 = .ok (.aload_n 2, 1) := by decide +kernel
theorem dL_law_485 : decode cL_law 485 = .ok (.aload_n 0, 1) := by decide +kernel
theorem dL_law_486 : decode cL_law 486 = .ok (.iload_n 3, 1) := by decide +kernel
theorem dL_law_487 : decode cL_law 487 = .ok (.iconst 1, 1) := by decide +kernel
theorem dL_law_488 : decode cL_law 488 = .ok (.iadd, 1) := by decide +kernel
theorem dL_law_489 : decode cL_law 489 = .ok (.iaload, 1) := by decide +kernel
theorem dL_law_490 : decode cL_law 490 = .ok (.invokevirtual 57, 3) := by decide +kernel
theorem dL_law_493 : decode cL_law 493 = .ok (.if_icmp .eq 688, 3) := by decide +kernel
theorem dL_law_496 : decode cL_law 496 = .ok (.iconst 0, 1) := by decide +kernel
theorem dL_law_497 : decode cL_law 497 = .ok (.ireturn, 1) := by decide +kernel
theorem dL_law_498 : decode cL_law 498 = .ok (.aload_n 1, 1) := by decide +kernel
theorem dL_law_499 : decode cL_law 499 = .ok (.aload_n 0, 1) := by decide +kernel
theorem dL_law_500 : decode cL_law 500 = .ok (.iload_n 3, 1) := by decide +kernel
theorem dL_law_501 : decode cL_law 501 = .ok (.iconst 1, 1) := by decide +kernel
theorem dL_law_502 : decode cL_law 502 = .ok (.iadd, 1) := by decide +kernel
theorem dL_law_503 : decode cL_law 503 = .ok (.iaload, 1) := by decide +kernel
theorem dL_law_504 : decode cL_law 504 = .ok (.invokevirtual 58, 3) := by decide +kernel
theorem dL_law_507 : decode cL_law 507 = .ok (.aload_n 2, 1) := by decide +kernel
theorem dL_law_508 : decode cL_law 508 = .ok (.aload_n 0, 1) := by decide +kernel
theorem dL_law_509 : decode cL_law 509 = .ok (.iload_n 3, 1) := by decide +kernel
theorem dL_law_510 : decode cL_law 510 = .ok (.iconst 1, 1) := by decide +kernel
theorem dL_law_511 : decode cL_law 511 = .ok (.iadd, 1) := by decide +kernel
theorem dL_law_512 : decode cL_law 512 = .ok (.iaload, 1) := by decide +kernel
theorem dL_law_513 : decode cL_law 513 = .ok (.invokevirtual 61, 3) := by decide +kernel
theorem dL_law_516 : decode cL_law 516 = .ok (.if_icmp .eq 665, 3) := by decide +kernel
theorem dL_law_519 : decode cL_law 519 = .ok (.iconst 0, 1) := by decide +kernel
theorem dL_law_520 : decode cL_law 520 = .ok (.ireturn, 1) := by decide +kernel
theorem dL_law_521 : decode cL_law 521 = .ok (.aload_n 1, 1) := by decide +kernel
theorem dL_law_522 : decode cL_law 522 = .ok (.invokevirtual 62, 3) := by decide +kernel
theorem dL_law_525 : decode cL_law 525 = .ok (.aload_n 2, 1) := by decide +kernel
theorem dL_law_526 : decode cL_law 526 = .ok (.invokevirtual 65, 3) := by decide +kernel
theorem dL_law_529 : decode cL_law 529 = .ok (.if_icmp .eq 652, 3) := by decide +kernel
theorem dL_law_532 : decode cL_law 532 = .ok (.iconst 0, 1) := by decide +kernel
theorem dL_law_533 : decode cL_law 533 = .ok (.ireturn, 1) := by decide +kernel
theorem dL_law_534 : decode cL_law 534 = .ok (.aload_n 1, 1) := by decide +kernel
theorem dL_law_535 : decode cL_law 535 = .ok (.aload_n 0, 1) := by decide +kernel
theorem dL_law_536 : decode cL_law 536 = .ok (.iload_n 3, 1) := by decide +kernel
theorem dL_law_537 : decode cL_law 537 = .ok (.iconst 1, 1) := by decide +kernel
theorem dL_law_538 : decode cL_law 538 = .ok (.iadd, 1) := by decide +kernel
theorem dL_law_539 : decode cL_law 539 = .ok (.iaload, 1) := by decide +kernel
theorem dL_law_540 : decode cL_law 540 = .ok (.invokevirtual 66, 3) := by decide +kernel
theorem dL_law_543 : decode cL_law 543 = .ok (.aload_n 2, 1) := by decide +kernel
theorem dL_law_544 : decode cL_law 544 = .ok (.aload_n 0, 1) := by decide +kernel
theorem dL_law_545 : decode cL_law 545 = .ok (.iload_n 3, 1) := by decide +kernel
theorem dL_law_546 : decode cL_law 546 = .ok (.iconst 1, 1) := by decide +kernel
theorem dL_law_547 : decode cL_law 547 = .ok (.iadd, 1) := by decide +kernel
theorem dL_law_548 : decode cL_law 548 = .ok (.iaload, 1) := by decide +kernel
theorem dL_law_549 : decode cL_law 549 = .ok (.invokevirtual 69, 3) := by decide +kernel
theorem dL_law_552 : decode cL_law 552 = .ok (.if_icmp .eq 629, 3) := by decide +kernel
theorem dL_law_555 : decode cL_law 555 = .ok (.iconst 0, 1) := by decide +kernel
theorem dL_law_556 : decode cL_law 556 = .ok (.ireturn, 1) := by decide +kernel
theorem dL_law_557 : decode cL_law 557 = .ok (.aload_n 1, 1) := by decide +kernel
theorem dL_law_558 : decode cL_law 558 = .ok (.invokevirtual 70, 3) := by decide +kernel
theorem dL_law_561 : decode cL_law 561 = .ok (.aload_n 2, 1) := by decide +kernel
theorem dL_law_562 : decode cL_law 562 = .ok (.invokevirtual 73, 3) := by decide +kernel
theorem dL_law_565 : decode cL_law 565 = .ok (.if_icmp .eq 616, 3) := by decide +kernel
theorem dL_law_568 : decode cL_law 568 = .ok (.iconst 0, 1) := by decide +kernel
theorem dL_law_569 : decode cL_law 569 = .ok (.ireturn, 1) := by decide +kernel
theorem dL_law_570 : decode cL_law 570 = .ok (.aload_n 1, 1) := by decide +kernel
theorem dL_law_571 : decode cL_law 571 = .ok (.invokevirtual 74, 3) := by decide +kernel
theorem dL_law_574 : decode cL_law 574 = .ok (.aload_n 2, 1) := by decide +kernel
theorem dL_law_575 : decode cL_law 575 = .ok (.invokevirtual 77, 3) := by decide +kernel
theorem dL_law_578 : decode cL_law 578 = .ok (.if_icmp .eq 603, 3) := by decide +kernel
theorem dL_law_581 : decode cL_law 581 = .ok (.iconst 0, 1) := by decide +kernel
theorem dL_law_582 : decode cL_law 582 = .ok (.ireturn, 1) := by decide +kernel
theorem dL_law_583 : decode cL_law 583 = .ok (.aload_n 1, 1) := by decide +kernel
theorem dL_law_584 : decode cL_law 584 = .ok (.invokevirtual 78, 3) := by decide +kernel
theorem dL_law_587 : decode cL_law 587 = .ok (.aload_n 2, 1) := by decide +kernel
theorem dL_law_588 : decode cL_law 588 = .ok (.invokevirtual 81, 3) := by decide +kernel
theorem dL_law_591 : decode cL_law 591 = .ok (.if_icmp .eq 590, 3) := by decide +kernel
theorem dL_law_594 : decode cL_law 594 = .ok (.iconst 0, 1) := by decide +kernel
theorem dL_law_595 : decode cL_law 595 = .ok (.ireturn, 1) := by decide +kernel
theorem dL_law_596 : decode cL_law 596 = .ok (.aload_n 1, 1) := by decide +kernel
theorem dL_law_597 : decode cL_law 597 = .ok (.aload_n 0, 1) := by decide +kernel
theorem dL_law_598 : decode cL_law 598 = .ok (.iload_n 3, 1) := by decide +kernel
theorem dL_law_599 : decode cL_law 599 = .ok (.iconst 1, 1) := by decide +kernel
theorem dL_law_600 : decode cL_law 600 = .ok (.iadd, 1) := by decide +kernel
theorem dL_law_601 : decode cL_law 601 = .ok (.iaload, 1) := by decide +kernel
theorem dL_law_602 : decode cL_law 602 = .ok (.aload_n 0, 1) := by decide +kernel
theorem dL_law_603 : decode cL_law 603 = .ok (.iload_n 3, 1) := by decide +kernel
theorem dL_law_604 : decode cL_law 604 = .ok (.iconst 2, 1) := by decide +kernel
theorem dL_law_605 : decode cL_law 605 = .ok (.iadd, 1) := by decide +kernel
theorem dL_law_606 : decode cL_law 606 = .ok (.iaload, 1) := by decide +kernel
theorem dL_law_607 : decode cL_law 607 = .ok (.aload_n 0, 1) := by decide +kernel
theorem dL_law_608 : decode cL_law 608 = .ok (.iload_n 3, 1) := by decide +kernel
theorem dL_law_609 : decode cL_law 609 = .ok (.iconst 3, 1) := by decide +kernel
theorem dL_law_610 : decode cL_law 610 = .ok (.iadd, 1) := by decide +kernel
theorem dL_law_611 : decode cL_law 611 = .ok (.iaload, 1) := by decide +kernel
theorem dL_law_612 : decode cL_law 612 = .ok (.invokevirtual 82, 3) := by decide +kernel
theorem dL_law_615 : decode cL_law 615 = .ok (.aload_n 2, 1) := by decide +kernel
theorem dL_law_616 : decode cL_law 616 = .ok (.aload_n 0, 1) := by decide +kernel
theorem dL_law_617 : decode cL_law 617 = .ok (.iload_n 3, 1) := by decide +kernel
theorem dL_law_618 : decode cL_law 618 = .ok (.iconst 1, 1) := by decide +kernel
theorem dL_law_619 : decode cL_law 619 = .ok (.iadd, 1) := by decide +kernel
theorem dL_law_620 : decode cL_law 620 = .ok (.iaload, 1) := by decide +kernel
theorem dL_law_621 : decode cL_law 621 = .ok (.aload_n 0, 1) := by decide +kernel
theorem dL_law_622 : decode cL_law 622 = .ok (.iload_n 3, 1) := by decide +kernel
theorem dL_law_623 : decode cL_law 623 = .ok (.iconst 2, 1) := by decide +kernel
theorem dL_law_624 : decode cL_law 624 = .ok (.iadd, 1) := by decide +kernel
theorem dL_law_625 : decode cL_law 625 = .ok (.iaload, 1) := by decide +kernel
theorem dL_law_626 : decode cL_law 626 = .ok (.aload_n 0, 1) := by decide +kernel
theorem dL_law_627 : decode cL_law 627 = .ok (.iload_n 3, 1) := by decide +kernel
theorem dL_law_628 : decode cL_law 628 = .ok (.iconst 3, 1) := by decide +kernel
theorem dL_law_629 : decode cL_law 629 = .ok (.iadd, 1) := by decide +kernel
theorem dL_law_630 : decode cL_law 630 = .ok (.iaload, 1) := by decide +kernel
theorem dL_law_631 : decode cL_law 631 = .ok (.invokevirtual 85, 3) := by decide +kernel
theorem dL_law_634 : decode cL_law 634 = .ok (.if_icmp .eq 547, 3) := by decide +kernel
theorem dL_law_637 : decode cL_law 637 = .ok (.iconst 0, 1) := by decide +kernel
theorem dL_law_638 : decode cL_law 638 = .ok (.ireturn, 1) := by decide +kernel
theorem dL_law_639 : decode cL_law 639 = .ok (.aload_n 1, 1) := by decide +kernel
theorem dL_law_640 : decode cL_law 640 = .ok (.aload_n 0, 1) := by decide +kernel
theorem dL_law_641 : decode cL_law 641 = .ok (.iload_n 3, 1) := by decide +kernel
theorem dL_law_642 : decode cL_law 642 = .ok (.iconst 1, 1) := by decide +kernel
theorem dL_law_643 : decode cL_law 643 = .ok (.iadd, 1) := by decide +kernel
theorem dL_law_644 : decode cL_law 644 = .ok (.iaload, 1) := by decide +kernel
theorem dL_law_645 : decode cL_law 645 = .ok (.aload_n 0, 1) := by decide +kernel
theorem dL_law_646 : decode cL_law 646 = .ok (.iload_n 3, 1) := by decide +kernel
theorem dL_law_647 : decode cL_law 647 = .ok (.iconst 2, 1) := by decide +kernel
theorem dL_law_648 : decode cL_law 648 = .ok (.iadd, 1) := by decide +kernel
theorem dL_law_649 : decode cL_law 649 = .ok (.iaload, 1) := by decide +kernel
theorem dL_law_650 : decode cL_law 650 = .ok (.aload_n 0, 1) := by decide +kernel
theorem dL_law_651 : decode cL_law 651 = .ok (.iload_n 3, 1) := by decide +kernel
theorem dL_law_652 : decode cL_law 652 = .ok (.iconst 3, 1) := by decide +kernel
theorem dL_law_653 : decode cL_law 653 = .ok (.iadd, 1) := by decide +kernel
theorem dL_law_654 : decode cL_law 654 = .ok (.iaload, 1) := by decide +kernel
theorem dL_law_655 : decode cL_law 655 = .ok (.invokevirtual 86, 3) := by decide +kernel
theorem dL_law_658 : decode cL_law 658 = .ok (.aload_n 2, 1) := by decide +kernel
theorem dL_law_659 : decode cL_law 659 = .ok (.aload_n 0, 1) := by decide +kernel
theorem dL_law_660 : decode cL_law 660 = .ok (.iload_n 3, 1) := by decide +kernel
theorem dL_law_661 : decode cL_law 661 = .ok (.iconst 1, 1) := by decide +kernel
theorem dL_law_662 : decode cL_law 662 = .ok (.iadd, 1) := by decide +kernel
theorem dL_law_663 : decode cL_law 663 = .ok (.iaload, 1) := by decide +kernel
theorem dL_law_664 : decode cL_law 664 = .ok (.aload_n 0, 1) := by decide +kernel
theorem dL_law_665 : decode cL_law 665 = .ok (.iload_n 3, 1) := by decide +kernel
theorem dL_law_666 : decode cL_law 666 = .ok (.iconst 2, 1) := by decide +kernel
theorem dL_law_667 : decode cL_law 667 = .ok (.iadd, 1) := by decide +kernel
theorem dL_law_668 : decode cL_law 668 = .ok (.iaload, 1) := by decide +kernel
theorem dL_law_669 : decode cL_law 669 = .ok (.aload_n 0, 1) := by decide +kernel
theorem dL_law_670 : decode cL_law 670 = .ok (.iload_n 3, 1) := by decide +kernel
theorem dL_law_671 : decode cL_law 671 = .ok (.iconst 3, 1) := by decide +kernel
theorem dL_law_672 : decode cL_law 672 = .ok (.iadd, 1) := by decide +kernel
theorem dL_law_673 : decode cL_law 673 = .ok (.iaload, 1) := by decide +kernel
theorem dL_law_674 : decode cL_law 674 = .ok (.invokevirtual 89, 3) := by decide +kernel
theorem dL_law_677 : decode cL_law 677 = .ok (.if_icmp .eq 504, 3) := by decide +kernel
theorem dL_law_680 : decode cL_law 680 = .ok (.iconst 0, 1) := by decide +kernel
theorem dL_law_681 : decode cL_law 681 = .ok (.ireturn, 1) := by decide +kernel
theorem dL_law_682 : decode cL_law 682 = .ok (.aload_n 1, 1) := by decide +kernel
theorem dL_law_683 : decode cL_law 683 = .ok (.aload_n 0, 1) := by decide +kernel
theorem dL_law_684 : decode cL_law 684 = .ok (.iload_n 3, 1) := by decide +kernel
theorem dL_law_685 : decode cL_law 685 = .ok (.iconst 1, 1) := by decide +kernel
theorem dL_law_686 : decode cL_law 686 = .ok (.iadd, 1) := by decide +kernel
theorem dL_law_687 : decode cL_law 687 = .ok (.iaload, 1) := by decide +kernel
theorem dL_law_688 : decode cL_law 688 = .ok (.aload_n 0, 1) := by decide +kernel
theorem dL_law_689 : decode cL_law 689 = .ok (.iload_n 3, 1) := by decide +kernel
theorem dL_law_690 : decode cL_law 690 = .ok (.iconst 2, 1) := by decide +kernel
theorem dL_law_691 : decode cL_law 691 = .ok (.iadd, 1) := by decide +kernel
theorem dL_law_692 : decode cL_law 692 = .ok (.iaload, 1) := by decide +kernel
theorem dL_law_693 : decode cL_law 693 = .ok (.invokevirtual 90, 3) := by decide +kernel
theorem dL_law_696 : decode cL_law 696 = .ok (.aload_n 2, 1) := by decide +kernel
theorem dL_law_697 : decode cL_law 697 = .ok (.aload_n 0, 1) := by decide +kernel
theorem dL_law_698 : decode cL_law 698 = .ok (.iload_n 3, 1) := by decide +kernel
theorem dL_law_699 : decode cL_law 699 = .ok (.iconst 1, 1) := by decide +kernel
theorem dL_law_700 : decode cL_law 700 = .ok (.iadd, 1) := by decide +kernel
theorem dL_law_701 : decode cL_law 701 = .ok (.iaload, 1) := by decide +kernel
theorem dL_law_702 : decode cL_law 702 = .ok (.aload_n 0, 1) := by decide +kernel
theorem dL_law_703 : decode cL_law 703 = .ok (.iload_n 3, 1) := by decide +kernel
theorem dL_law_704 : decode cL_law 704 = .ok (.iconst 2, 1) := by decide +kernel
theorem dL_law_705 : decode cL_law 705 = .ok (.iadd, 1) := by decide +kernel
theorem dL_law_706 : decode cL_law 706 = .ok (.iaload, 1) := by decide +kernel
theorem dL_law_707 : decode cL_law 707 = .ok (.invokevirtual 93, 3) := by decide +kernel
theorem dL_law_710 : decode cL_law 710 = .ok (.if_icmp .eq 471, 3) := by decide +kernel
theorem dL_law_713 : decode cL_law 713 = .ok (.iconst 0, 1) := by decide +kernel
theorem dL_law_714 : decode cL_law 714 = .ok (.ireturn, 1) := by decide +kernel
theorem dL_law_715 : decode cL_law 715 = .ok (.aload_n 1, 1) := by decide +kernel
theorem dL_law_716 : decode cL_law 716 = .ok (.aload_n 0, 1) := by decide +kernel
theorem dL_law_717 : decode cL_law 717 = .ok (.iload_n 3, 1) := by decide +kernel
theorem dL_law_718 : decode cL_law 718 = .ok (.iconst 1, 1) := by decide +kernel
theorem dL_law_719 : decode cL_law 719 = .ok (.iadd, 1) := by decide +kernel
theorem dL_law_720 : decode cL_law 720 = .ok (.iaload, 1) := by decide +kernel
theorem dL_law_721 : decode cL_law 721 = .ok (.aload_n 0, 1) := by decide +kernel
theorem dL_law_722 : decode cL_law 722 = .ok (.iload_n 3, 1) := by decide +kernel
theorem dL_law_723 : decode cL_law 723 = .ok (.iconst 2, 1) := by decide +kernel
theorem dL_law_724 : decode cL_law 724 = .ok (.iadd, 1) := by decide +kernel
theorem dL_law_725 : decode cL_law 725 = .ok (.iaload, 1) := by decide +kernel
theorem dL_law_726 : decode cL_law 726 = .ok (.invokevirtual 94, 3) := by decide +kernel
theorem dL_law_729 : decode cL_law 729 = .ok (.aload_n 2, 1) := by decide +kernel
theorem dL_law_730 : decode cL_law 730 = .ok (.aload_n 0, 1) := by decide +kernel
theorem dL_law_731 : decode cL_law 731 = .ok (.iload_n 3, 1) := by decide +kernel
theorem dL_law_732 : decode cL_law 732 = .ok (.iconst 1, 1) := by decide +kernel
theorem dL_law_733 : decode cL_law 733 = .ok (.iadd, 1) := by decide +kernel
theorem dL_law_734 : decode cL_law 734 = .ok (.iaload, 1) := by decide +kernel
theorem dL_law_735 : decode cL_law 735 = .ok (.aload_n 0, 1) := by decide +kernel
theorem dL_law_736 : decode cL_law 736 = .ok (.iload_n 3, 1) := by decide +kernel
theorem dL_law_737 : decode cL_law 737 = .ok (.iconst 2, 1) := by decide +kernel
theorem dL_law_738 : decode cL_law 738 = .ok (.iadd, 1) := by decide +kernel
theorem dL_law_739 : decode cL_law 739 = .ok (.iaload, 1) := by decide +kernel
theorem dL_law_740 : decode cL_law 740 = .ok (.invokevirtual 97, 3) := by decide +kernel
theorem dL_law_743 : decode cL_law 743 = .ok (.if_icmp .eq 438, 3) := by decide +kernel
theorem dL_law_746 : decode cL_law 746 = .ok (.iconst 0, 1) := by decide +kernel
theorem dL_law_747 : decode cL_law 747 = .ok (.ireturn, 1) := by decide +kernel
theorem dL_law_748 : decode cL_law 748 = .ok (.aload_n 1, 1) := by decide +kernel
theorem dL_law_749 : decode cL_law 749 = .ok (.aload_n 0, 1) := by decide +kernel
theorem dL_law_750 : decode cL_law 750 = .ok (.iload_n 3, 1) := by decide +kernel
theorem dL_law_751 : decode cL_law 751 = .ok (.iconst 1, 1) := by decide +kernel
theorem dL_law_752 : decode cL_law 752 = .ok (.iadd, 1) := by decide +kernel
theorem dL_law_753 : decode cL_law 753 = .ok (.iaload, 1) := by decide +kernel
theorem dL_law_754 : decode cL_law 754 = .ok (.aload_n 0, 1) := by decide +kernel
theorem dL_law_755 : decode cL_law 755 = .ok (.iload_n 3, 1) := by decide +kernel
theorem dL_law_756 : decode cL_law 756 = .ok (.iconst 2, 1) := by decide +kernel
theorem dL_law_757 : decode cL_law 757 = .ok (.iadd, 1) := by decide +kernel
theorem dL_law_758 : decode cL_law 758 = .ok (.iaload, 1) := by decide +kernel
theorem dL_law_759 : decode cL_law 759 = .ok (.invokevirtual 98, 3) := by decide +kernel
theorem dL_law_762 : decode cL_law 762 = .ok (.aload_n 2, 1) := by decide +kernel
theorem dL_law_763 : decode cL_law 763 = .ok (.aload_n 0, 1) := by decide +kernel
theorem dL_law_764 : decode cL_law 764 = .ok (.iload_n 3, 1) := by decide +kernel
theorem dL_law_765 : decode cL_law 765 = .ok (.iconst 1, 1) := by decide +kernel
theorem dL_law_766 : decode cL_law 766 = .ok (.iadd, 1) := by decide +kernel
theorem dL_law_767 : decode cL_law 767 = .ok (.iaload, 1) := by decide +kernel
theorem dL_law_768 : decode cL_law 768 = .ok (.aload_n 0, 1) := by decide +kernel
theorem dL_law_769 : decode cL_law 769 = .ok (.iload_n 3, 1) := by decide +kernel
theorem dL_law_770 : decode cL_law 770 = .ok (.iconst 2, 1) := by decide +kernel
theorem dL_law_771 : decode cL_law 771 = .ok (.iadd, 1) := by decide +kernel
theorem dL_law_772 : decode cL_law 772 = .ok (.iaload, 1) := by decide +kernel
theorem dL_law_773 : decode cL_law 773 = .ok (.invokevirtual 101, 3) := by decide +kernel
theorem dL_law_776 : decode cL_law 776 = .ok (.if_icmp .eq 405, 3) := by decide +kernel
theorem dL_law_779 : decode cL_law 779 = .ok (.iconst 0, 1) := by decide +kernel
theorem dL_law_780 : decode cL_law 780 = .ok (.ireturn, 1) := by decide +kernel
theorem dL_law_781 : decode cL_law 781 = .ok (.aload_n 1, 1) := by decide +kernel
theorem dL_law_782 : decode cL_law 782 = .ok (.aload_n 0, 1) := by decide +kernel
theorem dL_law_783 : decode cL_law 783 = .ok (.iload_n 3, 1) := by decide +kernel
theorem dL_law_784 : decode cL_law 784 = .ok (.iconst 1, 1) := by decide +kernel
theorem dL_law_785 : decode cL_law 785 = .ok (.iadd, 1) := by decide +kernel
theorem dL_law_786 : decode cL_law 786 = .ok (.iaload, 1) := by decide +kernel
theorem dL_law_787 : decode cL_law 787 = .ok (.invokevirtual 102, 3) := by decide +kernel
theorem dL_law_790 : decode cL_law 790 = .ok (.aload_n 2, 1) := by decide +kernel
theorem dL_law_791 : decode cL_law 791 = .ok (.aload_n 0, 1) := by decide +kernel
theorem dL_law_792 : decode cL_law 792 = .ok (.iload_n 3, 1) := by decide +kernel
theorem dL_law_793 : decode cL_law 793 = .ok (.iconst 1, 1) := by decide +kernel
theorem dL_law_794 : decode cL_law 794 = .ok (.iadd, 1) := by decide +kernel
theorem dL_law_795 : decode cL_law 795 = .ok (.iaload, 1) := by decide +kernel
theorem dL_law_796 : decode cL_law 796 = .ok (.invokevirtual 105, 3) := by decide +kernel
theorem dL_law_799 : decode cL_law 799 = .ok (.if_icmp .eq 382, 3) := by decide +kernel
theorem dL_law_802 : decode cL_law 802 = .ok (.iconst 0, 1) := by decide +kernel
theorem dL_law_803 : decode cL_law 803 = .ok (.ireturn, 1) := by decide +kernel
theorem dL_law_804 : decode cL_law 804 = .ok (.aload_n 1, 1) := by decide +kernel
theorem dL_law_805 : decode cL_law 805 = .ok (.aload_n 0, 1) := by decide +kernel
theorem dL_law_806 : decode cL_law 806 = .ok (.iload_n 3, 1) := by decide +kernel
theorem dL_law_807 : decode cL_law 807 = .ok (.iconst 1, 1) := by decide +kernel
theorem dL_law_808 : decode cL_law 808 = .ok (.iadd, 1) := by decide +kernel
theorem dL_law_809 : decode cL_law 809 = .ok (.iaload, 1) := by decide +kernel
theorem dL_law_810 : decode cL_law 810 = .ok (.aload_n 0, 1) := by decide +kernel
theorem dL_law_811 : decode cL_law 811 = .ok (.iload_n 3, 1) := by decide +kernel
theorem dL_law_812 : decode cL_law 812 = .ok (.iconst 2, 1) := by decide +kernel
theorem dL_law_813 : decode cL_law 813 = .ok (.iadd, 1) := by decide +kernel
theorem dL_law_814 : decode cL_law 814 = .ok (.iaload, 1) := by decide +kernel
theorem dL_law_815 : decode cL_law 815 = .ok (.invokevirtual 106, 3) := by decide +kernel
theorem dL_law_818 : decode cL_law 818 = .ok (.aload_n 2, 1) := by decide +kernel
theorem dL_law_819 : decode cL_law 819 = .ok (.aload_n 0, 1) := by decide +kernel
theorem dL_law_820 : decode cL_law 820 = .ok (.iload_n 3, 1) := by decide +kernel
theorem dL_law_821 : decode cL_law 821 = .ok (.iconst 1, 1) := by decide +kernel
theorem dL_law_822 : decode cL_law 822 = .ok (.iadd, 1) := by decide +kernel
theorem dL_law_823 : decode cL_law 823 = .ok (.iaload, 1) := by decide +kernel
theorem dL_law_824 : decode cL_law 824 = .ok (.aload_n 0, 1) := by decide +kernel
theorem dL_law_825 : decode cL_law 825 = .ok (.iload_n 3, 1) := by decide +kernel
theorem dL_law_826 : decode cL_law 826 = .ok (.iconst 2, 1) := by decide +kernel
theorem dL_law_827 : decode cL_law 827 = .ok (.iadd, 1) := by decide +kernel
theorem dL_law_828 : decode cL_law 828 = .ok (.iaload, 1) := by decide +kernel
theorem dL_law_829 : decode cL_law 829 = .ok (.invokevirtual 109, 3) := by decide +kernel
theorem dL_law_832 : decode cL_law 832 = .ok (.if_icmp .eq 349, 3) := by decide +kernel
theorem dL_law_835 : decode cL_law 835 = .ok (.iconst 0, 1) := by decide +kernel
theorem dL_law_836 : decode cL_law 836 = .ok (.ireturn, 1) := by decide +kernel
theorem dL_law_837 : decode cL_law 837 = .ok (.aload_n 1, 1) := by decide +kernel
theorem dL_law_838 : decode cL_law 838 = .ok (.invokevirtual 110, 3) := by decide +kernel
theorem dL_law_841 : decode cL_law 841 = .ok (.aload_n 2, 1) := by decide +kernel
theorem dL_law_842 : decode cL_law 842 = .ok (.invokevirtual 113, 3) := by decide +kernel
theorem dL_law_845 : decode cL_law 845 = .ok (.if_icmp .eq 336, 3) := by decide +kernel
theorem dL_law_848 : decode cL_law 848 = .ok (.iconst 0, 1) := by decide +kernel
theorem dL_law_849 : decode cL_law 849 = .ok (.ireturn, 1) := by decide +kernel
theorem dL_law_850 : decode cL_law 850 = .ok (.aload_n 1, 1) := by decide +kernel
theorem dL_law_851 : decode cL_law 851 = .ok (.aload_n 0, 1) := by decide +kernel
theorem dL_law_852 : decode cL_law 852 = .ok (.iload_n 3, 1) := by decide +kernel
theorem dL_law_853 : decode cL_law 853 = .ok (.iconst 1, 1) := by decide +kernel
theorem dL_law_854 : decode cL_law 854 = .ok (.iadd, 1) := by decide +kernel
theorem dL_law_855 : decode cL_law 855 = .ok (.iaload, 1) := by decide +kernel
theorem dL_law_856 : decode cL_law 856 = .ok (.invokevirtual 114, 3) := by decide +kernel
theorem dL_law_859 : decode cL_law 859 = .ok (.aload_n 2, 1) := by decide +kernel
theorem dL_law_860 : decode cL_law 860 = .ok (.aload_n 0, 1) := by decide +kernel
theorem dL_law_861 : decode cL_law 861 = .ok (.iload_n 3, 1) := by decide +kernel
theorem dL_law_862 : decode cL_law 862 = .ok (.iconst 1, 1) := by decide +kernel
theorem dL_law_863 : decode cL_law 863 = .ok (.iadd, 1) := by decide +kernel
theorem dL_law_864 : decode cL_law 864 = .ok (.iaload, 1) := by decide +kernel
theorem dL_law_865 : decode cL_law 865 = .ok (.invokevirtual 117, 3) := by decide +kernel
theorem dL_law_868 : decode cL_law 868 = .ok (.if_icmp .eq 313, 3) := by decide +kernel
theorem dL_law_871 : decode cL_law 871 = .ok (.iconst 0, 1) := by decide +kernel
theorem dL_law_872 : decode cL_law 872 = .ok (.ireturn, 1) := by decide +kernel
theorem dL_law_873 : decode cL_law 873 = .ok (.aload_n 1, 1) := by decide +kernel
theorem dL_law_874 : decode cL_law 874 = .ok (.aload_n 0, 1) := by decide +kernel
theorem dL_law_875 : decode cL_law 875 = .ok (.iload_n 3, 1) := by decide +kernel
theorem dL_law_876 : decode cL_law 876 = .ok (.iconst 1, 1) := by decide +kernel
theorem dL_law_877 : decode cL_law 877 = .ok (.iadd, 1) := by decide +kernel
theorem dL_law_878 : decode cL_law 878 = .ok (.iaload, 1) := by decide +kernel
theorem dL_law_879 : decode cL_law 879 = .ok (.invokevirtual 118, 3) := by decide +kernel
theorem dL_law_882 : decode cL_law 882 = .ok (.f2d, 1) := by decide +kernel
theorem dL_law_883 : decode cL_law 883 = .ok (.dstore 4, 2) := by decide +kernel
theorem dL_law_885 : decode cL_law 885 = .ok (.aload_n 2, 1) := by decide +kernel
theorem dL_law_886 : decode cL_law 886 = .ok (.aload_n 0, 1) := by decide +kernel
theorem dL_law_887 : decode cL_law 887 = .ok (.iload_n 3, 1) := by decide +kernel
theorem dL_law_888 : decode cL_law 888 = .ok (.iconst 1, 1) := by decide +kernel
theorem dL_law_889 : decode cL_law 889 = .ok (.iadd, 1) := by decide +kernel
theorem dL_law_890 : decode cL_law 890 = .ok (.iaload, 1) := by decide +kernel
theorem dL_law_891 : decode cL_law 891 = .ok (.invokevirtual 122, 3) := by decide +kernel
theorem dL_law_894 : decode cL_law 894 = .ok (.f2d, 1) := by decide +kernel
theorem dL_law_895 : decode cL_law 895 = .ok (.dstore 6, 2) := by decide +kernel
theorem dL_law_897 : decode cL_law 897 = .ok (.dload 4, 2) := by decide +kernel
theorem dL_law_899 : decode cL_law 899 = .ok (.dload 6, 2) := by decide +kernel
theorem dL_law_901 : decode cL_law 901 = .ok (.dcmp .l, 1) := by decide +kernel
theorem dL_law_902 : decode cL_law 902 = .ok (.ifCond .eq 21, 3) := by decide +kernel
theorem dL_law_905 : decode cL_law 905 = .ok (.dload 4, 2) := by decide +kernel
theorem dL_law_907 : decode cL_law 907 = .ok (.dload 4, 2) := by decide +kernel
theorem dL_law_909 : decode cL_law 909 = .ok (.dcmp .l, 1) := by decide +kernel
theorem dL_law_910 : decode cL_law 910 = .ok (.ifCond .eq 11, 3) := by decide +kernel
theorem dL_law_913 : decode cL_law 913 = .ok (.dload 6, 2) := by decide +kernel
theorem dL_law_915 : decode cL_law 915 = .ok (.dload 6, 2) := by decide +kernel
theorem dL_law_917 : decode cL_law 917 = .ok (.dcmp .l, 1) := by decide +kernel
theorem dL_law_918 : decode cL_law 918 = .ok (.ifCond .ne 5, 3) := by decide +kernel
theorem dL_law_921 : decode cL_law 921 = .ok (.iconst 0, 1) := by decide +kernel
theorem dL_law_922 : decode cL_law 922 = .ok (.ireturn, 1) := by decide +kernel
theorem dL_law_923 : decode cL_law 923 = .ok (.goto 258, 3) := by decide +kernel
theorem dL_law_926 : decode cL_law 926 = .ok (.aload_n 1, 1) := by decide +kernel
theorem dL_law_927 : decode cL_law 927 = .ok (.aload_n 0, 1) := by decide +kernel
theorem dL_law_928 : decode cL_law 928 = .ok (.iload_n 3, 1) := by decide +kernel
theorem dL_law_929 : decode cL_law 929 = .ok (.iconst 1, 1) := by decide +kernel
theorem dL_law_930 : decode cL_law 930 = .ok (.iadd, 1) := by decide +kernel
theorem dL_law_931 : decode cL_law 931 = .ok (.iaload, 1) := by decide +kernel
theorem dL_law_932 : decode cL_law 932 = .ok (.invokevirtual 123, 3) := by decide +kernel
theorem dL_law_935 : decode cL_law 935 = .ok (.dstore 4, 2) := by decide +kernel
theorem dL_law_937 : decode cL_law 937 = .ok (.aload_n 2, 1) := by decide +kernel
theorem dL_law_938 : decode cL_law 938 = .ok (.aload_n 0, 1) := by decide +kernel
theorem dL_law_939 : decode cL_law 939 = .ok (.iload_n 3, 1) := by decide +kernel
theorem dL_law_940 : decode cL_law 940 = .ok (.iconst 1, 1) := by decide +kernel
theorem dL_law_941 : decode cL_law 941 = .ok (.iadd, 1) := by decide +kernel
theorem dL_law_942 : decode cL_law 942 = .ok (.iaload, 1) := by decide +kernel
theorem dL_law_943 : decode cL_law 943 = .ok (.invokevirtual 127, 3) := by decide +kernel
theorem dL_law_946 : decode cL_law 946 = .ok (.dstore 6, 2) := by decide +kernel
theorem dL_law_948 : decode cL_law 948 = .ok (.dload 4, 2) := by decide +kernel
theorem dL_law_950 : decode cL_law 950 = .ok (.dload 6, 2) := by decide +kernel
theorem dL_law_952 : decode cL_law 952 = .ok (.dcmp .l, 1) := by decide +kernel
theorem dL_law_953 : decode cL_law 953 = .ok (.ifCond .eq 21, 3) := by decide +kernel
theorem dL_law_956 : decode cL_law 956 = .ok (.dload 4, 2) := by decide +kernel
theorem dL_law_958 : decode cL_law 958 = .ok (.dload 4, 2) := by decide +kernel
theorem dL_law_960 : decode cL_law 960 = .ok (.dcmp .l, 1) := by decide +kernel
theorem dL_law_961 : decode cL_law 961 = .ok (.ifCond .eq 11, 3) := by decide +kernel
theorem dL_law_964 : decode cL_law 964 = .ok (.dload 6, 2) := by decide +kernel
theorem dL_law_966 : decode cL_law 966 = .ok (.dload 6, 2) := by decide +kernel
theorem dL_law_968 : decode cL_law 968 = .ok (.dcmp .l, 1) := by decide +kernel
theorem dL_law_969 : decode cL_law 969 = .ok (.ifCond .ne 5, 3) := by decide +kernel
theorem dL_law_972 : decode cL_law 972 = .ok (.iconst 0, 1) := by decide +kernel
theorem dL_law_973 : decode cL_law 973 = .ok (.ireturn, 1) := by decide +kernel
theorem dL_law_974 : decode cL_law 974 = .ok (.goto 207, 3) := by decide +kernel
theorem dL_law_977 : decode cL_law 977 = .ok (.aload_n 1, 1) := by decide +kernel
theorem dL_law_978 : decode cL_law 978 = .ok (.aload_n 0, 1) := by decide +kernel
theorem dL_law_979 : decode cL_law 979 = .ok (.iload_n 3, 1) := by decide +kernel
theorem dL_law_980 : decode cL_law 980 = .ok (.iconst 1, 1) := by decide +kernel
theorem dL_law_981 : decode cL_law 981 = .ok (.iadd, 1) := by decide +kernel
theorem dL_law_982 : decode cL_law 982 = .ok (.iaload, 1) := by decide +kernel
theorem dL_law_983 : decode cL_law 983 = .ok (.aload_n 0, 1) := by decide +kernel
theorem dL_law_984 : decode cL_law 984 = .ok (.iload_n 3, 1) := by decide +kernel
theorem dL_law_985 : decode cL_law 985 = .ok (.iconst 2, 1) := by decide +kernel
theorem dL_law_986 : decode cL_law 986 = .ok (.iadd, 1) := by decide +kernel
theorem dL_law_987 : decode cL_law 987 = .ok (.iaload, 1) := by decide +kernel
theorem dL_law_988 : decode cL_law 988 = .ok (.aload_n 0, 1) := by decide +kernel
theorem dL_law_989 : decode cL_law 989 = .ok (.iload_n 3, 1) := by decide +kernel
theorem dL_law_990 : decode cL_law 990 = .ok (.iconst 3, 1) := by decide +kernel
theorem dL_law_991 : decode cL_law 991 = .ok (.iadd, 1) := by decide +kernel
theorem dL_law_992 : decode cL_law 992 = .ok (.iaload, 1) := by decide +kernel
theorem dL_law_993 : decode cL_law 993 = .ok (.aload_n 0, 1) := by decide +kernel
theorem dL_law_994 : decode cL_law 994 = .ok (.iload_n 3, 1) := by decide +kernel
theorem dL_law_995 : decode cL_law 995 = .ok (.iconst 4, 1) := by decide +kernel
theorem dL_law_996 : decode cL_law 996 = .ok (.iadd, 1) := by decide +kernel
theorem dL_law_997 : decode cL_law 997 = .ok (.iaload, 1) := by decide +kernel
theorem dL_law_998 : decode cL_law 998 = .ok (.invokevirtual 128, 3) := by decide +kernel
theorem dL_law_1001 : decode cL_law 1001 = .ok (.aload_n 2, 1) := by decide +kernel
theorem dL_law_1002 : decode cL_law 1002 = .ok (.aload_n 0, 1) := by decide +kernel
theorem dL_law_1003 : decode cL_law 1003 = .ok (.iload_n 3, 1) := by decide +kernel
theorem dL_law_1004 : decode cL_law 1004 = .ok (.iconst 1, 1) := by decide +kernel
theorem dL_law_1005 : decode cL_law 1005 = .ok (.iadd, 1) := by decide +kernel
theorem dL_law_1006 : decode cL_law 1006 = .ok (.iaload, 1) := by decide +kernel
theorem dL_law_1007 : decode cL_law 1007 = .ok (.aload_n 0, 1) := by decide +kernel
theorem dL_law_1008 : decode cL_law 1008 = .ok (.iload_n 3, 1) := by decide +kernel
theorem dL_law_1009 : decode cL_law 1009 = .ok (.iconst 2, 1) := by decide +kernel
theorem dL_law_1010 : decode cL_law 1010 = .ok (.iadd, 1) := by decide +kernel
theorem dL_law_1011 : decode cL_law 1011 = .ok (.iaload, 1) := by decide +kernel
theorem dL_law_1012 : decode cL_law 1012 = .ok (.aload_n 0, 1) := by decide +kernel
theorem dL_law_1013 : decode cL_law 1013 = .ok (.iload_n 3, 1) := by decide +kernel
theorem dL_law_1014 : decode cL_law 1014 = .ok (.iconst 3, 1) := by decide +kernel
theorem dL_law_1015 : decode cL_law 1015 = .ok (.iadd, 1) := by decide +kernel
theorem dL_law_1016 : decode cL_law 1016 = .ok (.iaload, 1) := by decide +kernel
theorem dL_law_1017 : decode cL_law 1017 = .ok (.aload_n 0, 1) := by decide +kernel
theorem dL_law_1018 : decode cL_law 1018 = .ok (.iload_n 3, 1) := by decide +kernel
theorem dL_law_1019 : decode cL_law 1019 = .ok (.iconst 4, 1) := by decide +kernel
theorem dL_law_1020 : decode cL_law 1020 = .ok (.iadd, 1) := by decide +kernel
theorem dL_law_1021 : decode cL_law 1021 = .ok (.iaload, 1) := by decide +kernel
theorem dL_law_1022 : decode cL_law 1022 = .ok (.invokevirtual 132, 3) := by decide +kernel
theorem dL_law_1025 : decode cL_law 1025 = .ok (.if_icmp .eq 156, 3) := by decide +kernel
theorem dL_law_1028 : decode cL_law 1028 = .ok (.iconst 0, 1) := by decide +kernel
theorem dL_law_1029 : decode cL_law 1029 = .ok (.ireturn, 1) := by decide +kernel
theorem dL_law_1030 : decode cL_law 1030 = .ok (.aload_n 1, 1) := by decide +kernel
theorem dL_law_1031 : decode cL_law 1031 = .ok (.aload_n 0, 1) := by decide +kernel
theorem dL_law_1032 : decode cL_law 1032 = .ok (.iload_n 3, 1) := by decide +kernel
theorem dL_law_1033 : decode cL_law 1033 = .ok (.iconst 1, 1) := by decide +kernel
theorem dL_law_1034 : decode cL_law 1034 = .ok (.iadd, 1) := by decide +kernel
theorem dL_law_1035 : decode cL_law 1035 = .ok (.iaload, 1) := by decide +kernel
theorem dL_law_1036 : decode cL_law 1036 = .ok (.aload_n 0, 1) := by decide +kernel
theorem dL_law_1037 : decode cL_law 1037 = .ok (.iload_n 3, 1) := by decide +kernel
theorem dL_law_1038 : decode cL_law 1038 = .ok (.iconst 2, 1) := by decide +kernel
theorem dL_law_1039 : decode cL_law 1039 = .ok (.iadd, 1) := by decide +kernel
theorem dL_law_1040 : decode cL_law 1040 = .ok (.iaload, 1) := by decide +kernel
theorem dL_law_1041 : decode cL_law 1041 = .ok (.invokevirtual 133, 3) := by decide +kernel
theorem dL_law_1044 : decode cL_law 1044 = .ok (.aload_n 2, 1) := by decide +kernel
theorem dL_law_1045 : decode cL_law 1045 = .ok (.aload_n 0, 1) := by decide +kernel
theorem dL_law_1046 : decode cL_law 1046 = .ok (.iload_n 3, 1) := by decide +kernel
theorem dL_law_1047 : decode cL_law 1047 = .ok (.iconst 1, 1) := by decide +kernel
theorem dL_law_1048 : decode cL_law 1048 = .ok (.iadd, 1) := by decide +kernel
theorem dL_law_1049 : decode cL_law 1049 = .ok (.iaload, 1) := by decide +kernel
theorem dL_law_1050 : decode cL_law 1050 = .ok (.aload_n 0, 1) := by decide +kernel
theorem dL_law_1051 : decode cL_law 1051 = .ok (.iload_n 3, 1) := by decide +kernel
theorem dL_law_1052 : decode cL_law 1052 = .ok (.iconst 2, 1) := by decide +kernel
theorem dL_law_1053 : decode cL_law 1053 = .ok (.iadd, 1) := by decide +kernel
theorem dL_law_1054 : decode cL_law 1054 = .ok (.iaload, 1) := by decide +kernel
theorem dL_law_1055 : decode cL_law 1055 = .ok (.invokevirtual 136, 3) := by decide +kernel
theorem dL_law_1058 : decode cL_law 1058 = .ok (.if_icmp .eq 123, 3) := by decide +kernel
theorem dL_law_1061 : decode cL_law 1061 = .ok (.iconst 0, 1) := by decide +kernel
theorem dL_law_1062 : decode cL_law 1062 = .ok (.ireturn, 1) := by decide +kernel
theorem dL_law_1063 : decode cL_law 1063 = .ok (.aload_n 1, 1) := by decide +kernel
theorem dL_law_1064 : decode cL_law 1064 = .ok (.aload_n 0, 1) := by decide +kernel
theorem dL_law_1065 : decode cL_law 1065 = .ok (.iload_n 3, 1) := by decide +kernel
theorem dL_law_1066 : decode cL_law 1066 = .ok (.iconst 1, 1) := by decide +kernel
theorem dL_law_1067 : decode cL_law 1067 = .ok (.iadd, 1) := by decide +kernel
theorem dL_law_1068 : decode cL_law 1068 = .ok (.iaload, 1) := by decide +kernel
theorem dL_law_1069 : decode cL_law 1069 = .ok (.invokevirtual 137, 3) := by decide +kernel
theorem dL_law_1072 : decode cL_law 1072 = .ok (.aload_n 2, 1) := by decide +kernel
theorem dL_law_1073 : decode cL_law 1073 = .ok (.aload_n 0, 1) := by decide +kernel
theorem dL_law_1074 : decode cL_law 1074 = .ok (.iload_n 3, 1) := by decide +kernel
theorem dL_law_1075 : decode cL_law 1075 = .ok (.iconst 1, 1) := by decide +kernel
theorem dL_law_1076 : decode cL_law 1076 = .ok (.iadd, 1) := by decide +kernel
theorem dL_law_1077 : decode cL_law 1077 = .ok (.iaload, 1) := by decide +kernel
theorem dL_law_1078 : decode cL_law 1078 = .ok (.invokevirtual 140, 3) := by decide +kernel
theorem dL_law_1081 : decode cL_law 1081 = .ok (.if_icmp .eq 100, 3) := by decide +kernel
theorem dL_law_1084 : decode cL_law 1084 = .ok (.iconst 0, 1) := by decide +kernel
theorem dL_law_1085 : decode cL_law 1085 = .ok (.ireturn, 1) := by decide +kernel
theorem dL_law_1086 : decode cL_law 1086 = .ok (.aload_n 1, 1) := by decide +kernel
theorem dL_law_1087 : decode cL_law 1087 = .ok (.aload_n 0, 1) := by decide +kernel
theorem dL_law_1088 : decode cL_law 1088 = .ok (.iload_n 3, 1) := by decide +kernel
theorem dL_law_1089 : decode cL_law 1089 = .ok (.iconst 1, 1) := by decide +kernel
theorem dL_law_1090 : decode cL_law 1090 = .ok (.iadd, 1) := by decide +kernel
theorem dL_law_1091 : decode cL_law 1091 = .ok (.iaload, 1) := by decide +kernel
theorem dL_law_1092 : decode cL_law 1092 = .ok (.invokevirtual 141, 3) := by decide +kernel
theorem dL_law_1095 : decode cL_law 1095 = .ok (.aload_n 2, 1) := by decide +kernel
theorem dL_law_1096 : decode cL_law 1096 = .ok (.aload_n 0, 1) := by decide +kernel
theorem dL_law_1097 : decode cL_law 1097 = .ok (.iload_n 3, 1) := by decide +kernel
theorem dL_law_1098 : decode cL_law 1098 = .ok (.iconst 1, 1) := by decide +kernel
theorem dL_law_1099 : decode cL_law 1099 = .ok (.iadd, 1) := by decide +kernel
theorem dL_law_1100 : decode cL_law 1100 = .ok (.iaload, 1) := by decide +kernel
theorem dL_law_1101 : decode cL_law 1101 = .ok (.invokevirtual 144, 3) := by decide +kernel
theorem dL_law_1104 : decode cL_law 1104 = .ok (.if_icmp .eq 77, 3) := by decide +kernel
theorem dL_law_1107 : decode cL_law 1107 = .ok (.iconst 0, 1) := by decide +kernel
theorem dL_law_1108 : decode cL_law 1108 = .ok (.ireturn, 1) := by decide +kernel
theorem dL_law_1109 : decode cL_law 1109 = .ok (.aload_n 1, 1) := by decide +kernel
theorem dL_law_1110 : decode cL_law 1110 = .ok (.aload_n 0, 1) := by decide +kernel
theorem dL_law_1111 : decode cL_law 1111 = .ok (.iload_n 3, 1) := by decide +kernel
theorem dL_law_1112 : decode cL_law 1112 = .ok (.iconst 1, 1) := by decide +kernel
theorem dL_law_1113 : decode cL_law 1113 = .ok (.iadd, 1) := by decide +kernel
theorem dL_law_1114 : decode cL_law 1114 = .ok (.iaload, 1) := by decide +kernel
theorem dL_law_1115 : decode cL_law 1115 = .ok (.aload_n 0, 1) := by decide +kernel
theorem dL_law_1116 : decode cL_law 1116 = .ok (.iload_n 3, 1) := by decide +kernel
theorem dL_law_1117 : decode cL_law 1117 = .ok (.iconst 2, 1) := by decide +kernel
theorem dL_law_1118 : decode cL_law 1118 = .ok (.iadd, 1) := by decide +kernel
theorem dL_law_1119 : decode cL_law 1119 = .ok (.iaload, 1) := by decide +kernel
theorem dL_law_1120 : decode cL_law 1120 = .ok (.invokevirtual 145, 3) := by decide +kernel
theorem dL_law_1123 : decode cL_law 1123 = .ok (.aload_n 2, 1) := by decide +kernel
theorem dL_law_1124 : decode cL_law 1124 = .ok (.aload_n 0, 1) := by decide +kernel
theorem dL_law_1125 : decode cL_law 1125 = .ok (.iload_n 3, 1) := by decide +kernel
theorem dL_law_1126 : decode cL_law 1126 = .ok (.iconst 1, 1) := by decide +kernel
theorem dL_law_1127 : decode cL_law 1127 = .ok (.iadd, 1) := by decide +kernel
theorem dL_law_1128 : decode cL_law 1128 = .ok (.iaload, 1) := by decide +kernel
theorem dL_law_1129 : decode cL_law 1129 = .ok (.aload_n 0, 1) := by decide +kernel
theorem dL_law_1130 : decode cL_law 1130 = .ok (.iload_n 3, 1) := by decide +kernel
theorem dL_law_1131 : decode cL_law 1131 = .ok (.iconst 2, 1) := by decide +kernel
theorem dL_law_1132 : decode cL_law 1132 = .ok (.iadd, 1) := by decide +kernel
theorem dL_law_1133 : decode cL_law 1133 = .ok (.iaload, 1) := by decide +kernel
theorem dL_law_1134 : decode cL_law 1134 = .ok (.invokevirtual 148, 3) := by decide +kernel
theorem dL_law_1137 : decode cL_law 1137 = .ok (.if_icmp .eq 44, 3) := by decide +kernel
theorem dL_law_1140 : decode cL_law 1140 = .ok (.iconst 0, 1) := by decide +kernel
theorem dL_law_1141 : decode cL_law 1141 = .ok (.ireturn, 1) := by decide +kernel
theorem dL_law_1142 : decode cL_law 1142 = .ok (.aload_n 1, 1) := by decide +kernel
theorem dL_law_1143 : decode cL_law 1143 = .ok (.invokevirtual 149, 3) := by decide +kernel
theorem dL_law_1146 : decode cL_law 1146 = .ok (.aload_n 2, 1) := by decide +kernel
theorem dL_law_1147 : decode cL_law 1147 = .ok (.invokevirtual 152, 3) := by decide +kernel
theorem dL_law_1150 : decode cL_law 1150 = .ok (.if_icmp .eq 31, 3) := by decide +kernel
theorem dL_law_1153 : decode cL_law 1153 = .ok (.iconst 0, 1) := by decide +kernel
theorem dL_law_1154 : decode cL_law 1154 = .ok (.ireturn, 1) := by decide +kernel
theorem dL_law_1155 : decode cL_law 1155 = .ok (.aload_n 1, 1) := by decide +kernel
theorem dL_law_1156 : decode cL_law 1156 = .ok (.invokevirtual 153, 3) := by decide +kernel
theorem dL_law_1159 : decode cL_law 1159 = .ok (.aload_n 2, 1) := by decide +kernel
theorem dL_law_1160 : decode cL_law 1160 = .ok (.invokevirtual 156, 3) := by decide +kernel
theorem dL_law_1163 : decode cL_law 1163 = .ok (.if_icmp .eq 18, 3) := by decide +kernel
theorem dL_law_1166 : decode cL_law 1166 = .ok (.iconst 0, 1) := by decide +kernel
theorem dL_law_1167 : decode cL_law 1167 = .ok (.ireturn, 1) := by decide +kernel
theorem dL_law_1168 : decode cL_law 1168 = .ok (.aload_n 1, 1) := by decide +kernel
theorem dL_law_1169 : decode cL_law 1169 = .ok (.invokevirtual 157, 3) := by decide +kernel
theorem dL_law_1172 : decode cL_law 1172 = .ok (.aload_n 2, 1) := by decide +kernel
theorem dL_law_1173 : decode cL_law 1173 = .ok (.invokevirtual 160, 3) := by decide +kernel
theorem dL_law_1176 : decode cL_law 1176 = .ok (.if_icmp .eq 5, 3) := by decide +kernel
theorem dL_law_1179 : decode cL_law 1179 = .ok (.iconst 0, 1) := by decide +kernel
theorem dL_law_1180 : decode cL_law 1180 = .ok (.ireturn, 1) := by decide +kernel
theorem dL_law_1181 : decode cL_law 1181 = .ok (.iinc 3 6, 3) := by decide +kernel
theorem dL_law_1184 : decode cL_law 1184 = .ok (.goto (-1166), 3) := by decide +kernel
theorem dL_law_1187 : decode cL_law 1187 = .ok (.iconst 1, 1) := by decide +kernel
theorem dL_law_1188 : decode cL_law 1188 = .ok (.ireturn, 1) := by decide +kernel
end
section
/-! ===== Int numbers as Int32 ===== -/
def zI (x : Int) : Int32 := Int32.ofInt x
def zR (x : Int) : Prop := -2147483648 ≤ x ∧ x < 2147483648
theorem zI_toInt {x : Int} (h : zR x) : (zI x).toInt = x := by
  have h1 := h.1
  have h2 := h.2
  unfold zI
  first
  | exact Int32.toInt_ofInt_of_le (by omega) (by omega)
  | (rw [Int32.toInt_ofInt]; exact Int.bmod_eq_of_le (by omega) (by omega))
theorem zI_of (x : Int32) : zI x.toInt = x := by
  unfold zI
  first
  | exact Int32.ofInt_toInt x
  | simp
theorem zR_of (x : Int32) : zR x.toInt := by
  have h1 := Int32.le_toInt x
  have h2 := Int32.toInt_lt x
  constructor <;> omega
theorem zI_add (a b : Int) : zI a + zI b = zI (a + b) := by
  unfold zI
  first
  | exact (Int32.ofInt_add a b).symm
  | simp [Int32.ofInt_add]
theorem zI_sub (a b : Int) : zI a - zI b = zI (a - b) := by
  unfold zI
  first
  | exact (Int32.ofInt_sub a b).symm
  | simp [Int32.ofInt_sub]
theorem zI_mul (a b : Int) : zI a * zI b = zI (a * b) := by
  unfold zI
  first
  | exact (Int32.ofInt_mul a b).symm
  | simp [Int32.ofInt_mul]
theorem zI_lt {a b : Int} (ha : zR a) (hb : zR b) : zI a < zI b ↔ a < b := by
  rw [Int32.lt_iff_toInt_lt, zI_toInt ha, zI_toInt hb]
theorem zI_le {a b : Int} (ha : zR a) (hb : zR b) : zI a ≤ zI b ↔ a ≤ b := by
  rw [Int32.le_iff_toInt_le, zI_toInt ha, zI_toInt hb]
theorem zI_eq {a b : Int} (ha : zR a) (hb : zR b) : zI a = zI b ↔ a = b := by
  constructor
  · intro h
    have := congrArg Int32.toInt h
    rwa [zI_toInt ha, zI_toInt hb] at this
  · intro h; rw [h]
theorem zR0 : zR 0 := by constructor <;> omega
theorem zI_0 : zI 0 = 0 := by decide +kernel
theorem zI_nat (n : Nat) : zI (n : Int) = nI n := by
  unfold zI nI
  first
  | rfl
  | exact Int32.ofInt_eq_ofNat
  | simp
theorem zI_cl {i : Int} (h0 : 0 ≤ i) (h1 : i < 2147483648) : (zI i).toNatClampNeg = i.toNat := by
  obtain ⟨n, rfl⟩ := Int.eq_ofNat_of_zero_le h0
  rw [zI_nat, nI_clamp (by omega)]
  rfl
theorem zI_in {i : Int} {n : Nat} (h0 : 0 ≤ i) (h1 : i < (n : Int)) (hn : n ≤ 2147483647) : vp_in (zI i) n := by
  rw [vp_in_iff, zI_toInt ⟨by omega, by omega⟩]
  exact ⟨h0, h1⟩
/-! arrays of ints by functions of Int -/
def zA (g : Int → Int) : Nat → Int32 := fun k => zI (g (k : Int))
def zU (g : Int → Int) (i v : Int) : Int → Int := fun j => if j = i then v else g j
def zC (f g : Int → Int) (sp dp n : Int) : Int → Int := fun k => if dp ≤ k ∧ k < dp + n then f (sp + (k - dp)) else g k
theorem zU_s (g : Int → Int) (i v : Int) : zU g i v i = v := by simp [zU]
theorem zU_n {g : Int → Int} {i v j : Int} (h : j ≠ i) : zU g i v j = g j := by simp [zU, h]
theorem zC_in {f g : Int → Int} {sp dp n k : Int} (h : dp ≤ k) (h2 : k < dp + n) : zC f g sp dp n k = f (sp + (k - dp)) := by simp [zC, h, h2]
theorem zC_out {f g : Int → Int} {sp dp n k : Int} (h : k < dp ∨ dp + n ≤ k) : zC f g sp dp n k = g k := by
  unfold zC
  rw [if_neg (by omega)]
theorem zA_at {g : Int → Int} {i : Int} (h0 : 0 ≤ i) (h1 : i < 2147483648) : zA g (zI i).toNatClampNeg = zI (g i) := by
  rw [zI_cl h0 h1]
  show zI (g ((i.toNat : Nat) : Int)) = _
  rw [Int.toNat_of_nonneg h0]
theorem zA_upd {g : Int → Int} {i v : Int} (h0 : 0 ≤ i) (h1 : i < 2147483648) : upd (zA g) (zI i).toNatClampNeg (zI v) = zA (zU g i v) := by
  rw [zI_cl h0 h1]
  funext j
  unfold upd zA zU
  by_cases h : j = i.toNat
  · subst h
    simp [Int.toNat_of_nonneg h0]
  · have : ¬ ((j : Int) = i) := by omega
    simp [h, this]
theorem zA_cpy {f g : Int → Int} {sp dp n : Int} (h0 : 0 ≤ sp) (h1 : 0 ≤ dp) (h2 : 0 ≤ n) (k0 : sp < 2147483648) (k1 : dp < 2147483648) (k2 : n < 2147483648) : va_cpy (zA f) (zA g) (zI sp).toNatClampNeg (zI dp).toNatClampNeg (zI n).toNatClampNeg = zA (zC f g sp dp n) := by
  rw [zI_cl h0 k0, zI_cl h1 k1, zI_cl h2 k2]
  funext j
  unfold va_cpy zA zC
  by_cases h : dp.toNat ≤ j ∧ j < dp.toNat + n.toNat
  · have h3 : dp ≤ (j : Int) ∧ (j : Int) < dp + n := by omega
    rw [if_pos h, if_pos h3]
    congr 2
    omega
  · have h3 : ¬ (dp ≤ (j : Int) ∧ (j : Int) < dp + n) := by omega
    rw [if_neg h, if_neg h3]
/-! cells -/
abbrev cI (cA : ClassId) (a n : Nat) (g : Int → Int) : Nat × va_E := (a, .inl (cA, n, .inl (zA g)))
abbrev cO (a ci : Nat) (fs : List Value) : Nat × va_E := (a, .inr (ci, fs))
abbrev cQ (cB : ClassId) (a n : Nat) (f : Nat → Option Nat) : Nat × va_E := (a, .inl (cB, n, .inr (.inr (.inr (.inr f)))))
/-! ===== the walk, by cells, locals and stack alone ===== -/
/-- private members that another class of the nest calls -/
def zNest : List (String × Nat × MethodName) := [(RX5, 28, yX2_init), (RX2, 17, yX3_init), (RX5, 35, yX1_init), (RX4, 49, yX5_isRow), (RX4, 53, yX5_isColumn), (RX4, 56, yX5_placeOf), (RX1, 30, yX5_placeOf), (RX3, 41, yX5_isRow), (RX3, 50, yX5_isColumn), (RX3, 69, yX5_isPlane), (RX2, 26, yX5_isDot)]
def zN (U : State) : Prop := ∀ q ∈ zNest, va_Nw (.methodLinkNest q.1 q.2.1 q.2.2 "StripDepths") U
theorem zN_same {u U : State} (h : u.vm = U.vm) (hN : zN u) : zN U := fun q hq => va_Nw.same rfl h (hN q hq)
theorem zN_warm {s U : State} (hW : s.WarmedH U.vm) (hN : zN s) : zN U := fun q hq => va_Nw.warmM hW (hN q hq)
/-- the static rows of numbers, as a JVM has them at the start -/
def zSt : List (String × List Int) := [("LEAST_VALUES", [6, 2, 0, 0, 20, 10]), ("GREATEST_VALUES", [16, 8, 3, 1, 99, 400]), ("FIRST_VALUES", [8, 4, 1, 0, 60, 120])]
def zSv (q : List Int) : Nat → Int32 := fun j => zI (q.getD j 0)
def zS (A : Nat → Prop) (U : State) (H : Heap) : Prop := va_Nw (.fieldLinkNest RX4 37 RX5 "FIRST_VALUES" "[I" "StripDepths") U ∧ ∀ q ∈ zSt, ∃ a : Nat, va_Z RX5 q.1 "[I" (.ref a) A U H ∧ va_X a 6 (zSv q.2) U H ∧ a < H.size ∧ ¬ A a
theorem zS.same {A : Nat → Prop} {u U : State} {H : Heap} (h : u.vm = U.vm) (hZ : zS A u H) : zS A U H := ⟨va_Nw.same rfl h hZ.1, fun q hq => by
  obtain ⟨a, h1, h2, h3, h4⟩ := hZ.2 q hq
  have hv : u.vm.Alike U.vm := by rw [h]; exact Vm.Alike.refl U.vm
  exact ⟨a, va_Z.moved hv h1, va_X.moved hv h2, h3, h4⟩⟩
theorem zS.warm {A : Nat → Prop} {s U : State} {H : Heap} (hW : s.WarmedH U.vm) (hZ : zS A s H) : zS A U H := ⟨va_Nw.warmF hW hZ.1, fun q hq => by
  obtain ⟨a, h1, h2, h3, h4⟩ := hZ.2 q hq
  exact ⟨a, va_Z.moved hW.alike h1, va_X.moved hW.alike h2, h3, h4⟩⟩
theorem zS.kept {A B : Nat → Prop} {U : State} {H H1 : Heap} (hZ : zS A U H) (hq : ∀ a : Nat, a < H.size → ¬ A a → H1[a]? = H[a]?) (hs : H.size ≤ H1.size) (hAB : ∀ q, B q → A q) : zS B U H1 := ⟨hZ.1, fun q hm => by
  obtain ⟨a, h1, h2, h3, h4⟩ := hZ.2 q hm
  exact ⟨a, va_Z.narrow (va_Z.kept h1 hq) hAB, va_X.kept h2 (hq a h3 h4), Nat.lt_of_lt_of_le h3 hs, fun z => h4 (hAB a z)⟩⟩
abbrev KT : Type := Nat → Nat → va_W → List (Nat × Value) → Nat → List Value → Prop
def Yf (p : Program) (l : Launch) (e : Env) (R : Room) (s : State) (m : MethodId) (args : Array Value) (below : List Frame) (meth : Method) (c : Code) (A : Nat → Prop) (nL : Nat) (D : va_G) (Q : State → Prop) : KT := fun k n ws lv pc st =>
  ∀ (H : Heap) (locs : List Loc) (ls : Array Slot), va_P D vwCl ws H → va_D A ws → va_S A s.heap H locs → lv_has ls nL lv → W p l e R s m args below meth c H locs k n Q (F0 m pc ls st)
def YC (l : Launch) (K : KT) (own : String) (cc : ByteArray) (nL : Nat) (R : Room) (D : va_G) (tys : List (ClassId × FieldType)) : Prop :=
  ∃ (p : Program) (e : Env) (s : State) (m : MethodId) (args : Array Value) (below : List Frame) (meth : Method) (c : Code) (A : Nat → Prop) (Q : State → Prop),
    K = Yf p l e R s m args below meth c A nL D Q ∧ p.tables.exec = Jvm.exec ∧ c.code = cc ∧ c.maxLocals = nL ∧ s.vm.findClass own = some m.cls ∧ (∀ w ∈ wsL_law, w.before args s = true) ∧ va_K D vwCl tys s ∧ (∀ q, s.heap.size ≤ q → A q) ∧ zN s ∧ zS A s s.heap
section YR
variable {l : Launch} {K : KT} {own : String} {cc : ByteArray} {nL : Nat} {R : Room} {D : va_G} {tys : List (ClassId × FieldType)} {k n : Nat} {ws : va_W} {lv : List (Nat × Value)} {pc : Nat} {st : List Value}
theorem y_iload_n (C : YC l K own cc nL R D tys) {kk : Fin 4} {x : Int32} (j : Nat) (hd : decode cc pc = .ok (.iload_n kk, 1)) (hl : lv[j]? = some ((kk : Nat), .int x)) (g : K k n ws lv (pc + 1) (.int x :: st)) : K k n ws lv pc st := by
  obtain ⟨p, e, s, m, args, below, meth, c, A, Q, rfl, hx, hb, hml, hown, hts, hK, hA, hNs⟩ := C
  intro H locs ls hP hD hS h
  exact lv_iload_n hx hb hd rfl (lv_at h j hl) (g H locs ls hP hD hS h)
theorem y_iload (C : YC l K own cc nL R D tys) {i : Nat} {x : Int32} (j : Nat) (hd : decode cc pc = .ok (.iload i, 2)) (hl : lv[j]? = some (i, .int x)) (g : K k n ws lv (pc + 2) (.int x :: st)) : K k n ws lv pc st := by
  obtain ⟨p, e, s, m, args, below, meth, c, A, Q, rfl, hx, hb, hml, hown, hts, hK, hA, hNs⟩ := C
  intro H locs ls hP hD hS h
  exact lv_iload hx hb hd (lv_at h j hl) (g H locs ls hP hD hS h)
theorem y_aload_n (C : YC l K own cc nL R D tys) {kk : Fin 4} {x : Nat} (j : Nat) (hd : decode cc pc = .ok (.aload_n kk, 1)) (hl : lv[j]? = some ((kk : Nat), .ref x)) (g : K k n ws lv (pc + 1) (.ref x :: st)) : K k n ws lv pc st := by
  obtain ⟨p, e, s, m, args, below, meth, c, A, Q, rfl, hx, hb, hml, hown, hts, hK, hA, hNs⟩ := C
  intro H locs ls hP hD hS h
  exact lv_aload_n hx hb hd rfl (lv_at h j hl) (g H locs ls hP hD hS h)
theorem y_aload (C : YC l K own cc nL R D tys) {i : Nat} {x : Nat} (j : Nat) (hd : decode cc pc = .ok (.aload i, 2)) (hl : lv[j]? = some (i, .ref x)) (g : K k n ws lv (pc + 2) (.ref x :: st)) : K k n ws lv pc st := by
  obtain ⟨p, e, s, m, args, below, meth, c, A, Q, rfl, hx, hb, hml, hown, hts, hK, hA, hNs⟩ := C
  intro H locs ls hP hD hS h
  exact lv_aload hx hb hd (lv_at h j hl) (g H locs ls hP hD hS h)
theorem y_istore_n (C : YC l K own cc nL R D tys) {kk : Fin 4} {x : Int32} (lv' : List (Nat × Value)) (hd : decode cc pc = .ok (.istore_n kk, 1)) (hn : (kk : Nat) < nL) (hl : ((kk : Nat), Value.int x) :: lv.filter (fun q => !(q.1 == (kk : Nat)) && !(q.1 + 1 == (kk : Nat) && q.2.category == 2)) = lv') (g : K k n ws lv' (pc + 1) st) : K k n ws lv pc (.int x :: st) := by
  obtain ⟨p, e, s, m, args, below, meth, c, A, Q, rfl, hx, hb, hml, hown, hts, hK, hA, hNs⟩ := C
  intro H locs ls hP hD hS h
  exact lv_istore_n hx hb hd rfl h hn hl (fun ls' h' => g H locs ls' hP hD hS h')
theorem y_istore (C : YC l K own cc nL R D tys) {i : Nat} {x : Int32} (lv' : List (Nat × Value)) (hd : decode cc pc = .ok (.istore i, 2)) (hn : i < nL) (hl : (i, Value.int x) :: lv.filter (fun q => !(q.1 == i) && !(q.1 + 1 == i && q.2.category == 2)) = lv') (g : K k n ws lv' (pc + 2) st) : K k n ws lv pc (.int x :: st) := by
  obtain ⟨p, e, s, m, args, below, meth, c, A, Q, rfl, hx, hb, hml, hown, hts, hK, hA, hNs⟩ := C
  intro H locs ls hP hD hS h
  exact lv_istore hx hb hd h hn hl (fun ls' h' => g H locs ls' hP hD hS h')
theorem y_astore_n (C : YC l K own cc nL R D tys) {kk : Fin 4} {x : Nat} (lv' : List (Nat × Value)) (hd : decode cc pc = .ok (.astore_n kk, 1)) (hn : (kk : Nat) < nL) (hl : ((kk : Nat), Value.ref x) :: lv.filter (fun q => !(q.1 == (kk : Nat)) && !(q.1 + 1 == (kk : Nat) && q.2.category == 2)) = lv') (g : K k n ws lv' (pc + 1) st) : K k n ws lv pc (.ref x :: st) := by
  obtain ⟨p, e, s, m, args, below, meth, c, A, Q, rfl, hx, hb, hml, hown, hts, hK, hA, hNs⟩ := C
  intro H locs ls hP hD hS h
  exact lv_astore_n hx hb hd rfl h hn hl (fun ls' h' => g H locs ls' hP hD hS h')
theorem y_astore (C : YC l K own cc nL R D tys) {i : Nat} {x : Nat} (lv' : List (Nat × Value)) (hd : decode cc pc = .ok (.astore i, 2)) (hn : i < nL) (hl : (i, Value.ref x) :: lv.filter (fun q => !(q.1 == i) && !(q.1 + 1 == i && q.2.category == 2)) = lv') (g : K k n ws lv' (pc + 2) st) : K k n ws lv pc (.ref x :: st) := by
  obtain ⟨p, e, s, m, args, below, meth, c, A, Q, rfl, hx, hb, hml, hown, hts, hK, hA, hNs⟩ := C
  intro H locs ls hP hD hS h
  exact lv_astore hx hb hd h hn hl (fun ls' h' => g H locs ls' hP hD hS h')
theorem y_iinc (C : YC l K own cc nL R D tys) {i : Nat} {x q : Int} (j : Nat) (lv' : List (Nat × Value)) (hd : decode cc pc = .ok (.iinc i q, 3)) (hk : lv[j]? = some (i, .int (zI x))) (hn : i < nL) (hl : (i, Value.int (zI (x + q))) :: lv.filter (fun q => !(q.1 == i) && !(q.1 + 1 == i && q.2.category == 2)) = lv') (g : K k n ws lv' (pc + 3) st) : K k n ws lv pc st := by
  obtain ⟨p, e, s, m, args, below, meth, c, A, Q, rfl, hx, hb, hml, hown, hts, hK, hA, hNs⟩ := C
  intro H locs ls hP hD hS h
  exact lv_iinc hx hb hd h hk (zI_add x q) hn hl (fun ls' h' => g H locs ls' hP hD hS h')
theorem y_iconst (C : YC l K own cc nL R D tys) {q : Int} (hd : decode cc pc = .ok (.iconst q, 1)) (g : K k n ws lv (pc + 1) (.int (zI q) :: st)) : K k n ws lv pc st := by
  obtain ⟨p, e, s, m, args, below, meth, c, A, Q, rfl, hx, hb, hml, hown, hts, hK, hA, hNs⟩ := C
  intro H locs ls hP hD hS h
  exact lv_iconst hx hb hd rfl (g H locs ls hP hD hS h)
theorem y_bipush (C : YC l K own cc nL R D tys) {q : Int} (hd : decode cc pc = .ok (.bipush q, 2)) (hq : (Int8.ofInt q).toInt32 = zI q) (g : K k n ws lv (pc + 2) (.int (zI q) :: st)) : K k n ws lv pc st := by
  obtain ⟨p, e, s, m, args, below, meth, c, A, Q, rfl, hx, hb, hml, hown, hts, hK, hA, hNs⟩ := C
  intro H locs ls hP hD hS h
  exact lv_bipush hx hb hd hq (g H locs ls hP hD hS h)
theorem y_sipush (C : YC l K own cc nL R D tys) {q : Int} (hd : decode cc pc = .ok (.sipush q, 3)) (hq : (Int16.ofInt q).toInt32 = zI q) (g : K k n ws lv (pc + 3) (.int (zI q) :: st)) : K k n ws lv pc st := by
  obtain ⟨p, e, s, m, args, below, meth, c, A, Q, rfl, hx, hb, hml, hown, hts, hK, hA, hNs⟩ := C
  intro H locs ls hP hD hS h
  exact lv_sipush hx hb hd hq (g H locs ls hP hD hS h)
theorem y_iadd (C : YC l K own cc nL R D tys) {a b : Int} (hd : decode cc pc = .ok (.iadd, 1)) (g : K k n ws lv (pc + 1) (.int (zI (a + b)) :: st)) : K k n ws lv pc (.int (zI b) :: .int (zI a) :: st) := by
  obtain ⟨p, e, s, m, args, below, meth, c, A, Q, rfl, hx, hb, hml, hown, hts, hK, hA, hNs⟩ := C
  intro H locs ls hP hD hS h
  exact lv_iadd hx hb hd (by rw [zI_add]; exact g H locs ls hP hD hS h)
theorem y_isub (C : YC l K own cc nL R D tys) {a b : Int} (hd : decode cc pc = .ok (.isub, 1)) (g : K k n ws lv (pc + 1) (.int (zI (a - b)) :: st)) : K k n ws lv pc (.int (zI b) :: .int (zI a) :: st) := by
  obtain ⟨p, e, s, m, args, below, meth, c, A, Q, rfl, hx, hb, hml, hown, hts, hK, hA, hNs⟩ := C
  intro H locs ls hP hD hS h
  exact lv_isub hx hb hd (by rw [zI_sub]; exact g H locs ls hP hD hS h)
theorem y_imul (C : YC l K own cc nL R D tys) {a b : Int} (hd : decode cc pc = .ok (.imul, 1)) (g : K k n ws lv (pc + 1) (.int (zI (a * b)) :: st)) : K k n ws lv pc (.int (zI b) :: .int (zI a) :: st) := by
  obtain ⟨p, e, s, m, args, below, meth, c, A, Q, rfl, hx, hb, hml, hown, hts, hK, hA, hNs⟩ := C
  intro H locs ls hP hD hS h
  exact lv_imul hx hb hd (by rw [zI_mul]; exact g H locs ls hP hD hS h)
theorem zI_rem {a b : Int} (ha : 0 ≤ a) (ha2 : a < 2147483648) (hb : 0 < b) (hb2 : b < 2147483648) : zI a - zI a / zI b * zI b = zI (a % b) := by
  obtain ⟨x, rfl⟩ := Int.eq_ofNat_of_zero_le ha
  obtain ⟨y, rfl⟩ := Int.eq_ofNat_of_zero_le (Int.le_of_lt hb)
  rw [zI_nat, zI_nat, pk_rem (by omega) (by omega) (by omega), ← zI_nat]
  rfl
theorem y_irem (C : YC l K own cc nL R D tys) {a b : Int} (hd : decode cc pc = .ok (.irem, 1)) (h : 0 ≤ a ∧ a < 2147483648 ∧ 0 < b ∧ b < 2147483648) (g : K k n ws lv (pc + 1) (.int (zI (a % b)) :: st)) : K k n ws lv pc (.int (zI b) :: .int (zI a) :: st) := by
  obtain ⟨p, e, s, m, args, below, meth, c, A, Q, rfl, hx, hb, hml, hown, hts, hK, hA, hNs⟩ := C
  obtain ⟨h1, h2, h3, h4⟩ := h
  intro H locs ls hP hD hS hl
  refine lv_irem hx hb hd ?_ (by rw [zI_rem h1 h2 h3 h4]; exact g H locs ls hP hD hS hl)
  intro q
  have := (zI_eq (a := b) (b := 0) ⟨by omega, by omega⟩ zR0).mp (by rw [q, zI_0])
  omega
theorem y_ineg (C : YC l K own cc nL R D tys) {a : Int} (hd : decode cc pc = .ok (.ineg, 1)) (g : K k n ws lv (pc + 1) (.int (zI (-a)) :: st)) : K k n ws lv pc (.int (zI a) :: st) := by
  obtain ⟨p, e, s, m, args, below, meth, c, A, Q, rfl, hx, hb, hml, hown, hts, hK, hA, hNs⟩ := C
  intro H locs ls hP hD hS h
  refine lv_ineg hx hb hd ?_
  have e1 : -(zI a) = zI (-a) := by
    have h1 := zI_sub 0 a
    rw [zI_0] at h1
    rw [show (-a) = 0 - a by omega, ← h1]
    simp
  rw [e1]
  exact g H locs ls hP hD hS h
theorem y_dup (C : YC l K own cc nL R D tys) {v : Value} (hd : decode cc pc = .ok (.dup, 1)) (hv : v.category = 1) (g : K k n ws lv (pc + 1) (v :: v :: st)) : K k n ws lv pc (v :: st) := by
  obtain ⟨p, e, s, m, args, below, meth, c, A, Q, rfl, hx, hb, hml, hown, hts, hK, hA, hNs⟩ := C
  intro H locs ls hP hD hS h
  exact lv_dup hx hb hd hv (g H locs ls hP hD hS h)
theorem y_dup2 (C : YC l K own cc nL R D tys) {v w : Value} (hd : decode cc pc = .ok (.dup2, 1)) (hv : v.category = 1) (hw : w.category = 1) (g : K k n ws lv (pc + 1) (v :: w :: v :: w :: st)) : K k n ws lv pc (v :: w :: st) := by
  obtain ⟨p, e, s, m, args, below, meth, c, A, Q, rfl, hx, hb, hml, hown, hts, hK, hA, hNs⟩ := C
  intro H locs ls hP hD hS h
  exact lv_dup2_11 hx hb hd hv hw (g H locs ls hP hD hS h)
theorem y_pop (C : YC l K own cc nL R D tys) {v : Value} (hd : decode cc pc = .ok (.pop, 1)) (hv : v.category = 1) (g : K k n ws lv (pc + 1) st) : K k n ws lv pc (v :: st) := by
  obtain ⟨p, e, s, m, args, below, meth, c, A, Q, rfl, hx, hb, hml, hown, hts, hK, hA, hNs⟩ := C
  intro H locs ls hP hD hS h
  exact lv_pop hx hb hd hv (g H locs ls hP hD hS h)
theorem y_goto (C : YC l K own cc nL R D tys) {off : Int} (tgt : Nat) (hd : decode cc pc = .ok (.goto off, 3)) (ht : (pc : Int) + off = (tgt : Int)) (g : K k n ws lv tgt st) : K k n ws lv pc st := by
  obtain ⟨p, e, s, m, args, below, meth, c, A, Q, rfl, hx, hb, hml, hown, hts, hK, hA, hNs⟩ := C
  intro H locs ls hP hD hS h
  exact lv_goto hx hb hd ht (g H locs ls hP hD hS h)
theorem y_icmp_eq (C : YC l K own cc nL R D tys) {a b : Int} {off : Int} (tgt : Nat) (hd : decode cc pc = .ok (.if_icmp .eq off, 3)) (ht : (pc : Int) + off = (tgt : Int)) (hr : zR a ∧ zR b) (g1 : a = b → K k n ws lv tgt st) (g2 : ¬ a = b → K k n ws lv (pc + 3) st) : K k n ws lv pc (.int (zI b) :: .int (zI a) :: st) := by
  obtain ⟨p, e, s, m, args, below, meth, c, A, Q, rfl, hx, hb, hml, hown, hts, hK, hA, hNs⟩ := C
  intro H locs ls hP hD hS h
  exact lv_icmp_eq hx hb hd ht (fun q => g1 ((zI_eq hr.1 hr.2).mp q) H locs ls hP hD hS h) (fun q => g2 (fun z => q ((zI_eq hr.1 hr.2).mpr z)) H locs ls hP hD hS h)
theorem y_icmp_ne (C : YC l K own cc nL R D tys) {a b : Int} {off : Int} (tgt : Nat) (hd : decode cc pc = .ok (.if_icmp .ne off, 3)) (ht : (pc : Int) + off = (tgt : Int)) (hr : zR a ∧ zR b) (g1 : ¬ a = b → K k n ws lv tgt st) (g2 : a = b → K k n ws lv (pc + 3) st) : K k n ws lv pc (.int (zI b) :: .int (zI a) :: st) := by
  obtain ⟨p, e, s, m, args, below, meth, c, A, Q, rfl, hx, hb, hml, hown, hts, hK, hA, hNs⟩ := C
  intro H locs ls hP hD hS h
  exact lv_icmp_ne hx hb hd ht (fun q => g1 (fun z => q ((zI_eq hr.1 hr.2).mpr z)) H locs ls hP hD hS h) (fun q => g2 ((zI_eq hr.1 hr.2).mp q) H locs ls hP hD hS h)
theorem y_icmp_lt (C : YC l K own cc nL R D tys) {a b : Int} {off : Int} (tgt : Nat) (hd : decode cc pc = .ok (.if_icmp .lt off, 3)) (ht : (pc : Int) + off = (tgt : Int)) (hr : zR a ∧ zR b) (g1 : a < b → K k n ws lv tgt st) (g2 : b ≤ a → K k n ws lv (pc + 3) st) : K k n ws lv pc (.int (zI b) :: .int (zI a) :: st) := by
  obtain ⟨p, e, s, m, args, below, meth, c, A, Q, rfl, hx, hb, hml, hown, hts, hK, hA, hNs⟩ := C
  intro H locs ls hP hD hS h
  exact lv_icmp_lt hx hb hd ht (fun q => g1 ((zI_lt hr.1 hr.2).mp q) H locs ls hP hD hS h) (fun q => g2 (Int.not_lt.mp (fun z => q ((zI_lt hr.1 hr.2).mpr z))) H locs ls hP hD hS h)
theorem y_icmp_ge (C : YC l K own cc nL R D tys) {a b : Int} {off : Int} (tgt : Nat) (hd : decode cc pc = .ok (.if_icmp .ge off, 3)) (ht : (pc : Int) + off = (tgt : Int)) (hr : zR a ∧ zR b) (g1 : b ≤ a → K k n ws lv tgt st) (g2 : a < b → K k n ws lv (pc + 3) st) : K k n ws lv pc (.int (zI b) :: .int (zI a) :: st) := by
  obtain ⟨p, e, s, m, args, below, meth, c, A, Q, rfl, hx, hb, hml, hown, hts, hK, hA, hNs⟩ := C
  intro H locs ls hP hD hS h
  exact lv_icmp_ge hx hb hd ht (fun q => g1 ((zI_le hr.2 hr.1).mp q) H locs ls hP hD hS h) (fun q => g2 (Int.not_le.mp (fun z => q ((zI_le hr.2 hr.1).mpr z))) H locs ls hP hD hS h)
theorem y_icmp_gt (C : YC l K own cc nL R D tys) {a b : Int} {off : Int} (tgt : Nat) (hd : decode cc pc = .ok (.if_icmp .gt off, 3)) (ht : (pc : Int) + off = (tgt : Int)) (hr : zR a ∧ zR b) (g1 : b < a → K k n ws lv tgt st) (g2 : a ≤ b → K k n ws lv (pc + 3) st) : K k n ws lv pc (.int (zI b) :: .int (zI a) :: st) := by
  obtain ⟨p, e, s, m, args, below, meth, c, A, Q, rfl, hx, hb, hml, hown, hts, hK, hA, hNs⟩ := C
  intro H locs ls hP hD hS h
  exact lv_icmp_gt hx hb hd ht (fun q => g1 ((zI_lt hr.2 hr.1).mp q) H locs ls hP hD hS h) (fun q => g2 (Int.not_lt.mp (fun z => q ((zI_lt hr.2 hr.1).mpr z))) H locs ls hP hD hS h)
theorem y_icmp_le (C : YC l K own cc nL R D tys) {a b : Int} {off : Int} (tgt : Nat) (hd : decode cc pc = .ok (.if_icmp .le off, 3)) (ht : (pc : Int) + off = (tgt : Int)) (hr : zR a ∧ zR b) (g1 : a ≤ b → K k n ws lv tgt st) (g2 : b < a → K k n ws lv (pc + 3) st) : K k n ws lv pc (.int (zI b) :: .int (zI a) :: st) := by
  obtain ⟨p, e, s, m, args, below, meth, c, A, Q, rfl, hx, hb, hml, hown, hts, hK, hA, hNs⟩ := C
  intro H locs ls hP hD hS h
  exact lv_icmp_le hx hb hd ht (fun q => g1 ((zI_le hr.1 hr.2).mp q) H locs ls hP hD hS h) (fun q => g2 (Int.not_le.mp (fun z => q ((zI_le hr.1 hr.2).mpr z))) H locs ls hP hD hS h)
theorem y_if_eq (C : YC l K own cc nL R D tys) {a : Int} {off : Int} (tgt : Nat) (hd : decode cc pc = .ok (.ifCond .eq off, 3)) (ht : (pc : Int) + off = (tgt : Int)) (hr : zR a) (g1 : a = 0 → K k n ws lv tgt st) (g2 : ¬ a = 0 → K k n ws lv (pc + 3) st) : K k n ws lv pc (.int (zI a) :: st) := by
  obtain ⟨p, e, s, m, args, below, meth, c, A, Q, rfl, hx, hb, hml, hown, hts, hK, hA, hNs⟩ := C
  intro H locs ls hP hD hS h
  refine lv_if_eq hx hb hd ht ?_ ?_
  · rw [← zI_0]
    exact (fun q => g1 ((zI_eq hr zR0).mp q) H locs ls hP hD hS h)
  · rw [← zI_0]
    exact (fun q => g2 (id (fun z => q ((zI_eq hr zR0).mpr z))) H locs ls hP hD hS h)
theorem y_if_ne (C : YC l K own cc nL R D tys) {a : Int} {off : Int} (tgt : Nat) (hd : decode cc pc = .ok (.ifCond .ne off, 3)) (ht : (pc : Int) + off = (tgt : Int)) (hr : zR a) (g1 : ¬ a = 0 → K k n ws lv tgt st) (g2 : a = 0 → K k n ws lv (pc + 3) st) : K k n ws lv pc (.int (zI a) :: st) := by
  obtain ⟨p, e, s, m, args, below, meth, c, A, Q, rfl, hx, hb, hml, hown, hts, hK, hA, hNs⟩ := C
  intro H locs ls hP hD hS h
  refine lv_if_ne hx hb hd ht ?_ ?_
  · rw [← zI_0]
    exact (fun q => g1 (fun z => q ((zI_eq hr zR0).mpr z)) H locs ls hP hD hS h)
  · rw [← zI_0]
    exact (fun q => g2 ((zI_eq hr zR0).mp q) H locs ls hP hD hS h)
theorem y_if_lt (C : YC l K own cc nL R D tys) {a : Int} {off : Int} (tgt : Nat) (hd : decode cc pc = .ok (.ifCond .lt off, 3)) (ht : (pc : Int) + off = (tgt : Int)) (hr : zR a) (g1 : a < 0 → K k n ws lv tgt st) (g2 : 0 ≤ a → K k n ws lv (pc + 3) st) : K k n ws lv pc (.int (zI a) :: st) := by
  obtain ⟨p, e, s, m, args, below, meth, c, A, Q, rfl, hx, hb, hml, hown, hts, hK, hA, hNs⟩ := C
  intro H locs ls hP hD hS h
  refine lv_if_lt hx hb hd ht ?_ ?_
  · rw [← zI_0]
    exact (fun q => g1 ((zI_lt hr zR0).mp q) H locs ls hP hD hS h)
  · rw [← zI_0]
    exact (fun q => g2 (Int.not_lt.mp (fun z => q ((zI_lt hr zR0).mpr z))) H locs ls hP hD hS h)
theorem y_if_ge (C : YC l K own cc nL R D tys) {a : Int} {off : Int} (tgt : Nat) (hd : decode cc pc = .ok (.ifCond .ge off, 3)) (ht : (pc : Int) + off = (tgt : Int)) (hr : zR a) (g1 : 0 ≤ a → K k n ws lv tgt st) (g2 : a < 0 → K k n ws lv (pc + 3) st) : K k n ws lv pc (.int (zI a) :: st) := by
  obtain ⟨p, e, s, m, args, below, meth, c, A, Q, rfl, hx, hb, hml, hown, hts, hK, hA, hNs⟩ := C
  intro H locs ls hP hD hS h
  refine lv_if_ge hx hb hd ht ?_ ?_
  · rw [← zI_0]
    exact (fun q => g1 ((zI_le zR0 hr).mp q) H locs ls hP hD hS h)
  · rw [← zI_0]
    exact (fun q => g2 (Int.not_le.mp (fun z => q ((zI_le zR0 hr).mpr z))) H locs ls hP hD hS h)
theorem y_if_gt (C : YC l K own cc nL R D tys) {a : Int} {off : Int} (tgt : Nat) (hd : decode cc pc = .ok (.ifCond .gt off, 3)) (ht : (pc : Int) + off = (tgt : Int)) (hr : zR a) (g1 : 0 < a → K k n ws lv tgt st) (g2 : a ≤ 0 → K k n ws lv (pc + 3) st) : K k n ws lv pc (.int (zI a) :: st) := by
  obtain ⟨p, e, s, m, args, below, meth, c, A, Q, rfl, hx, hb, hml, hown, hts, hK, hA, hNs⟩ := C
  intro H locs ls hP hD hS h
  refine lv_if_gt hx hb hd ht ?_ ?_
  · rw [← zI_0]
    exact (fun q => g1 ((zI_lt zR0 hr).mp q) H locs ls hP hD hS h)
  · rw [← zI_0]
    exact (fun q => g2 (Int.not_lt.mp (fun z => q ((zI_lt zR0 hr).mpr z))) H locs ls hP hD hS h)
theorem y_if_le (C : YC l K own cc nL R D tys) {a : Int} {off : Int} (tgt : Nat) (hd : decode cc pc = .ok (.ifCond .le off, 3)) (ht : (pc : Int) + off = (tgt : Int)) (hr : zR a) (g1 : a ≤ 0 → K k n ws lv tgt st) (g2 : 0 < a → K k n ws lv (pc + 3) st) : K k n ws lv pc (.int (zI a) :: st) := by
  obtain ⟨p, e, s, m, args, below, meth, c, A, Q, rfl, hx, hb, hml, hown, hts, hK, hA, hNs⟩ := C
  intro H locs ls hP hD hS h
  refine lv_if_le hx hb hd ht ?_ ?_
  · rw [← zI_0]
    exact (fun q => g1 ((zI_le hr zR0).mp q) H locs ls hP hD hS h)
  · rw [← zI_0]
    exact (fun q => g2 (Int.not_le.mp (fun z => q ((zI_le hr zR0).mpr z))) H locs ls hP hD hS h)
theorem y_tin (C : YC l K own cc nL R D tys) {a : Int} {dflt lo hi : Int} {offs : Array Int} {len : Nat} {off : Int} (tgt : Nat) (i : Nat) (hd : decode cc pc = .ok (.tableswitch dflt lo hi offs, len)) (hr : zR a) (h1 : lo ≤ a ∧ a ≤ hi) (hi : (a - lo).toNat = i) (ho : offs[i]? = some off) (ht : (pc : Int) + off = (tgt : Int)) (g : K k n ws lv tgt st) : K k n ws lv pc (.int (zI a) :: st) := by
  obtain ⟨p, e, s, m, args, below, meth, c, A, Q, rfl, hx, hb, hml, hown, hts, hK, hA, hNs⟩ := C
  intro H locs ls hP hD hS h
  have e := zI_toInt hr
  exact lv_tableIn hx hb hd (by rw [e]; omega) (by rw [e]; omega) (by rw [e, hi]; exact ho) ht (g H locs ls hP hD hS h)
theorem y_tout (C : YC l K own cc nL R D tys) {a : Int} {dflt lo hi : Int} {offs : Array Int} {len : Nat} (tgt : Nat) (hd : decode cc pc = .ok (.tableswitch dflt lo hi offs, len)) (hr : zR a) (h1 : a < lo ∨ hi < a) (ht : (pc : Int) + dflt = (tgt : Int)) (g : K k n ws lv tgt st) : K k n ws lv pc (.int (zI a) :: st) := by
  obtain ⟨p, e, s, m, args, below, meth, c, A, Q, rfl, hx, hb, hml, hown, hts, hK, hA, hNs⟩ := C
  intro H locs ls hP hD hS h
  have e := zI_toInt hr
  exact lv_tableOut hx hb hd (by rw [e]; exact h1) ht (g H locs ls hP hD hS h)
theorem y_lookup (C : YC l K own cc nL R D tys) {a : Int} {dflt : Int} {ps : Array (Int × Int)} {len : Nat} {off : Int} (tgt : Nat) (hd : decode cc pc = .ok (.lookupswitch dflt ps, len)) (hr : zR a) (hp : (ps.toList.zip (ps.toList.drop 1)).all (fun (a, next) => a.1 < next.1) = true) (ho : Op.lookupswitch.offset ps.toList dflt a = off) (ht : (pc : Int) + off = (tgt : Int)) (g : K k n ws lv tgt st) : K k n ws lv pc (.int (zI a) :: st) := by
  obtain ⟨p, e, s, m, args, below, meth, c, A, Q, rfl, hx, hb, hml, hown, hts, hK, hA, hNs⟩ := C
  intro H locs ls hP hD hS h
  have e := zI_toInt hr
  exact lv_lookup hx hb hd hp (by rw [e]; exact ho) ht (g H locs ls hP hD hS h)
/-- a field as an instruction of 'own' names it: pool number idx, class number ci, place kf -/
def FKg (own : String) (idx ci kf : Nat) : Prop := ∃ (Cn : String) (T : u_T) (N : Nat), vwCl[ci]? = some (Cn, T, N) ∧ kf < N ∧ Cond.fieldLink own idx (T kf).1 (T kf).2.1 (T kf).2.2.1 ∈ wsL_law ∧ (∀ w ∈ u_ws Cn T N, w ∈ wsL_law)
/-- .. that can be written -/
def FKp (own : String) (idx ci kf : Nat) (ty : FieldType) : Prop := ∃ (Cn : String) (T : u_T) (N : Nat) (ty0 : Nat → FieldType), vwCl[ci]? = some (Cn, T, N) ∧ kf < N ∧ Cond.fieldLink own idx (T kf).1 (T kf).2.1 (T kf).2.2.1 ∈ wsL_law ∧ (∀ w ∈ u_ws Cn T N, w ∈ wsL_law) ∧ (∀ k, k < N → parseFieldDescriptor (T k).2.2.1 = some (ty0 k)) ∧ (∀ a, a < N → ∀ b, b < N → a ≠ b → (T a).2.1 ≠ (T b).2.1) ∧ (T kf).2.2.2 = false ∧ parseFieldDescriptor (T kf).2.2.1 = some ty
theorem y_get (C : YC l K own cc nL R D tys) {idx ci kf a : Nat} {fs : List Value} {v : Value} (F : FKg own idx ci kf) (q0 : Nat) (hd : decode cc pc = .ok (.getfield idx, 3)) (he : ws[q0]? = some (a, .inr (ci, fs))) (hv : fs[kf]? = some v) (g : K k n ws lv (pc + 3) (v :: st)) : K k n ws lv pc (.ref a :: st) := by
  obtain ⟨Cn, T, N, hc, hk, hl, hin⟩ := F
  obtain ⟨p, e, s, m, args, below, meth, c, A, Q, rfl, hx, hb, hml, hown, hts, hK, hA, hNs⟩ := C
  intro H locs ls hP hD hS h
  exact va_get hx hb hts hin hown hK hP q0 he hc kf hk (hts _ hl) (fun _ h => h) hv hd (g H locs ls hP hD hS h)
theorem y_put (C : YC l K own cc nL R D tys) {idx ci kf a : Nat} {fs : List Value} {v : Value} {ty : FieldType} (F : FKp own idx ci kf ty) (q0 : Nat) (ws' : va_W) (hd : decode cc pc = .ok (.putfield idx, 3)) (he : ws[q0]? = some (a, .inr (ci, fs))) (hn : narrow ty v = v) (hf : fits ty v = true) (hl : kf < fs.length) (hw : ws.set q0 (a, .inr (ci, fs.set kf v)) = ws') (g : K k n ws' lv (pc + 3) st) : K k n ws lv pc (v :: .ref a :: st) := by
  subst hw
  obtain ⟨Cn, T, N, ty0, hc, hk, hlk, hin, hty, hnm, hfin, hdsc⟩ := F
  obtain ⟨p, e, s, m, args, below, meth, c, A, Q, rfl, hx, hb, hml, hown, hts, hK, hA, hNs⟩ := C
  intro H locs ls hP hD hS h
  exact va_put hx hb hts hin ty0 hty hnm hown hK hP hD hS q0 he hc kf hk (hts _ hlk) (fun _ h => h) hfin hdsc hn hf hl hd (fun H1 locs1 p1 d1 s1 => g H1 locs1 ls p1 d1 s1 h)
theorem y_iald (C : YC l K own cc nL R D tys) {a N : Nat} {cA : ClassId} {f : Int → Int} {i : Int} (q0 t0 : Nat) (hd : decode cc pc = .ok (.iaload, 1)) (he : ws[q0]? = some (a, .inl (cA, N, .inl (zA f)))) (ht : tys[t0]? = some (cA, .int)) (hi : 0 ≤ i ∧ i < (N : Int) ∧ N ≤ 2147483647) (g : K k n ws lv (pc + 1) (.int (zI (f i)) :: st)) : K k n ws lv pc (.int (zI i) :: .ref a :: st) := by
  obtain ⟨p, e, s, m, args, below, meth, c, A, Q, rfl, hx, hb, hml, hown, hts, hK, hA, hNs⟩ := C
  intro H locs ls hP hD hS h
  obtain ⟨h1, h2, h3⟩ := hi
  refine va_iald hx hb hK hP q0 t0 he ht (zI_in h1 h2 h3) hd ?_
  rw [zA_at h1 (by omega)]
  exact g H locs ls hP hD hS h
theorem y_iast (C : YC l K own cc nL R D tys) {a N : Nat} {cA : ClassId} {f : Int → Int} {i v : Int} (q0 t0 : Nat) (ws' : va_W) (hd : decode cc pc = .ok (.iastore, 1)) (he : ws[q0]? = some (a, .inl (cA, N, .inl (zA f)))) (ht : tys[t0]? = some (cA, .int)) (hi : 0 ≤ i ∧ i < (N : Int) ∧ N ≤ 2147483647) (hw : ws.set q0 (cI cA a N (zU f i v)) = ws') (g : K k n ws' lv (pc + 1) st) : K k n ws lv pc (.int (zI v) :: .int (zI i) :: .ref a :: st) := by
  subst hw
  obtain ⟨p, e, s, m, args, below, meth, c, A, Q, rfl, hx, hb, hml, hown, hts, hK, hA, hNs⟩ := C
  intro H locs ls hP hD hS h
  obtain ⟨h1, h2, h3⟩ := hi
  refine va_iast hx hb hK hP hD hS q0 t0 he ht (zI_in h1 h2 h3) hd ?_
  rw [zA_upd h1 (by omega)]
  exact fun H1 locs1 p1 d1 s1 => g H1 locs1 ls p1 d1 s1 h
theorem y_alen (C : YC l K own cc nL R D tys) {a N : Nat} {cA : ClassId} {x : (Nat → Int32) ⊕ (Nat → Int64) ⊕ (Nat → UInt32) ⊕ (Nat → UInt64) ⊕ (Nat → Option Nat)} {ty : FieldType} (q0 t0 : Nat) (hd : decode cc pc = .ok (.arraylength, 1)) (he : ws[q0]? = some (a, .inl (cA, N, x))) (ht : tys[t0]? = some (cA, ty)) (g : K k n ws lv (pc + 1) (.int (zI (N : Int)) :: st)) : K k n ws lv pc (.ref a :: st) := by
  obtain ⟨p, e, s, m, args, below, meth, c, A, Q, rfl, hx, hb, hml, hown, hts, hK, hA, hNs⟩ := C
  intro H locs ls hP hD hS h
  refine va_alen hx hb hK hP q0 t0 he ht (v := zI (N : Int)) (zI_nat N).symm hd (g H locs ls hP hD hS h)
theorem y_aald (C : YC l K own cc nL R D tys) {a N b : Nat} {cB : ClassId} {Cn : String} {f : Nat → Option Nat} {i : Int} (q0 t0 : Nat) (hd : decode cc pc = .ok (.aaload, 1)) (he : ws[q0]? = some (a, .inl (cB, N, .inr (.inr (.inr (.inr f)))))) (ht : tys[t0]? = some (cB, .object Cn)) (hi : 0 ≤ i ∧ i < (N : Int) ∧ N ≤ 2147483647) (hf : f i.toNat = some b) (g : K k n ws lv (pc + 1) (.ref b :: st)) : K k n ws lv pc (.int (zI i) :: .ref a :: st) := by
  obtain ⟨p, e, s, m, args, below, meth, c, A, Q, rfl, hx, hb, hml, hown, hts, hK, hA, hNs⟩ := C
  intro H locs ls hP hD hS h
  obtain ⟨h1, h2, h3⟩ := hi
  refine va_aldq hx hb hK hP q0 t0 he ht (zI_in h1 h2 h3) hd ?_
  rw [zI_cl h1 (by omega), hf]
  exact g H locs ls hP hD hS h
theorem y_aast (C : YC l K own cc nL R D tys) {a N b ci : Nat} {cB : ClassId} {r : vw_C} {vs : List Value} {f : Nat → Option Nat} {i : Int} (q0 t0 qk : Nat) (ws' : va_W) (hd : decode cc pc = .ok (.aastore, 1)) (he : ws[q0]? = some (a, .inl (cB, N, .inr (.inr (.inr (.inr f)))))) (ht : tys[t0]? = some (cB, .object r.1)) (hv : ws[qk]? = some (b, .inr (ci, vs))) (hc : vwCl[ci]? = some r) (hi : 0 ≤ i ∧ i < (N : Int) ∧ N ≤ 2147483647) (hw : ws.set q0 (cQ cB a N (va_up f i.toNat (some b))) = ws') (g : K k n ws' lv (pc + 1) st) : K k n ws lv pc (.ref b :: .int (zI i) :: .ref a :: st) := by
  subst hw
  obtain ⟨p, e, s, m, args, below, meth, c, A, Q, rfl, hx, hb, hml, hown, hts, hK, hA, hNs⟩ := C
  intro H locs ls hP hD hS h
  obtain ⟨h1, h2, h3⟩ := hi
  refine va_astq hx hb hK hP hD hS q0 t0 qk ci he ht hv hc (zI_in h1 h2 h3) hd ?_
  rw [zI_cl h1 (by omega)]
  exact fun H1 locs1 p1 d1 s1 => g H1 locs1 ls p1 d1 s1 h
def MxW (own : String) (idx : Nat) (y : MethodName) (yc : ByteArray) (nl : Nat) : Prop := Cond.methodLink own idx y ∈ wsL_law ∧ Cond.static y ∈ wsL_law ∧ Cond.initialized "java/lang/Math" ∈ wsL_law ∧ Cond.code y yc nl (some .int) ∈ wsL_law
theorem y_max (C : YC l K own cc nL R D tys) {idx : Nat} {a b : Int} (M : MxW own idx Lib.Math.max.name Lib.Math.max.code 2) (hd : decode cc pc = .ok (.invokestatic idx, 3)) (hr : zR a ∧ zR b) (hR : 1 ≤ R.frames ∧ (st.map fun v => v.category).sum + 13 ≤ R.locals ∧ k ≤ R.cells ∧ n ≤ R.slots) (g : ∀ x, (a ≤ x ∧ b ≤ x ∧ (x = a ∨ x = b)) → K k n ws lv (pc + 3) (.int (zI x) :: st)) : K k n ws lv pc (.int (zI b) :: .int (zI a) :: st) := by
  obtain ⟨p, e, s, m, args, below, meth, c, A, Q, rfl, hx, hb, hml, hown, hts, hK, hA, hNs⟩ := C
  intro H locs ls hP hD hS h
  refine va_mmax hx hb (by rw [hml]; exact h.1.symm) hown (hts _ M.1) (hts _ M.2.1) (hts _ M.2.2.1) (hts _ M.2.2.2) hR.1 hR.2.1 hR.2.2.1 hR.2.2.2 hd ?_
  by_cases q : zI a < zI b
  · rw [if_pos q]
    have := (zI_lt hr.1 hr.2).mp q
    exact g b (by omega) H locs ls hP hD hS h
  · rw [if_neg q]
    have := Int.not_lt.mp (fun z => q ((zI_lt hr.1 hr.2).mpr z))
    exact g a (by omega) H locs ls hP hD hS h
theorem y_min (C : YC l K own cc nL R D tys) {idx : Nat} {a b : Int} (M : MxW own idx Lib.Math.min.name Lib.Math.min.code 2) (hd : decode cc pc = .ok (.invokestatic idx, 3)) (hr : zR a ∧ zR b) (hR : 1 ≤ R.frames ∧ (st.map fun v => v.category).sum + 13 ≤ R.locals ∧ k ≤ R.cells ∧ n ≤ R.slots) (g : ∀ x, (x ≤ a ∧ x ≤ b ∧ (x = a ∨ x = b)) → K k n ws lv (pc + 3) (.int (zI x) :: st)) : K k n ws lv pc (.int (zI b) :: .int (zI a) :: st) := by
  obtain ⟨p, e, s, m, args, below, meth, c, A, Q, rfl, hx, hb, hml, hown, hts, hK, hA, hNs⟩ := C
  intro H locs ls hP hD hS h
  refine va_mmin hx hb (by rw [hml]; exact h.1.symm) hown (hts _ M.1) (hts _ M.2.1) (hts _ M.2.2.1) (hts _ M.2.2.2) hR.1 hR.2.1 hR.2.2.1 hR.2.2.2 hd ?_
  by_cases q : zI b < zI a
  · rw [if_pos q]
    have := (zI_lt hr.2 hr.1).mp q
    exact g b (by omega) H locs ls hP hD hS h
  · rw [if_neg q]
    have := Int.not_lt.mp (fun z => q ((zI_lt hr.2 hr.1).mpr z))
    exact g a (by omega) H locs ls hP hD hS h
theorem y_abs (C : YC l K own cc nL R D tys) {idx : Nat} {a : Int} (M : MxW own idx Lib.Math.abs.name Lib.Math.abs.code 1) (hd : decode cc pc = .ok (.invokestatic idx, 3)) (hr : zR a) (hR : 1 ≤ R.frames ∧ (st.map fun v => v.category).sum + 13 ≤ R.locals ∧ k ≤ R.cells ∧ n ≤ R.slots) (g : ∀ x, ((0 ≤ a ∧ x = a) ∨ (a < 0 ∧ x = -a)) → K k n ws lv (pc + 3) (.int (zI x) :: st)) : K k n ws lv pc (.int (zI a) :: st) := by
  obtain ⟨p, e, s, m, args, below, meth, c, A, Q, rfl, hx, hb, hml, hown, hts, hK, hA, hNs⟩ := C
  intro H locs ls hP hD hS h
  refine va_mabs hx hb (by rw [hml]; exact h.1.symm) hown (hts _ M.1) (hts _ M.2.1) (hts _ M.2.2.1) (hts _ M.2.2.2) hR.1 hR.2.1 hR.2.2.1 hR.2.2.2 hd ?_
  by_cases q : zI 0 ≤ zI a
  · have h0 := (zI_le zR0 hr).mp q
    rw [zI_0] at q
    rw [if_pos q]
    exact g a (by omega) H locs ls hP hD hS h
  · have h0 := Int.not_le.mp (fun z => q ((zI_le zR0 hr).mpr z))
    rw [zI_0] at q
    rw [if_neg q, ← zI_0, zI_sub, show (0 - a : Int) = -a by omega]
    exact g (-a) (by omega) H locs ls hP hD hS h
def CyW (own : String) (idx : Nat) : Prop := Cond.methodLink own idx arraycopyName ∈ wsL_law ∧ Cond.native arraycopyName ∈ wsL_law ∧ Cond.static arraycopyName ∈ wsL_law ∧ Cond.initialized "java/lang/System" ∈ wsL_law
theorem y_copy (C : YC l K own cc nL R D tys) {idx a0 a1 N0 N1 : Nat} {cA : ClassId} {f g0 : Int → Int} {sp dp q : Int} (M : CyW own idx) (q0 q1 t0 : Nat) (ws' : va_W) (hd : decode cc pc = .ok (.invokestatic idx, 3)) (he0 : ws[q0]? = some (a0, .inl (cA, N0, .inl (zA f)))) (he1 : ws[q1]? = some (a1, .inl (cA, N1, .inl (zA g0)))) (ht : tys[t0]? = some (cA, .int)) (hi : 0 ≤ sp ∧ 0 ≤ dp ∧ 0 ≤ q ∧ sp + q ≤ (N0 : Int) ∧ dp + q ≤ (N1 : Int) ∧ N0 ≤ 2147483647 ∧ N1 ≤ 2147483647) (hR : 1 ≤ R.frames ∧ (st.map fun v => v.category).sum + (nativeFrameWords "java/lang/System" "arraycopy" 5 + 11) ≤ R.locals) (hw : ws.set q1 (cI cA a1 N1 (zC f g0 sp dp q)) = ws') (g : K k n ws' lv (pc + 3) st) : K k n ws lv pc (.int (zI q) :: .int (zI dp) :: .ref a1 :: .int (zI sp) :: .ref a0 :: st) := by
  subst hw
  obtain ⟨p, e, s, m, args, below, meth, c, A, Q, rfl, hx, hb, hml, hown, hts, hK, hA, hNs⟩ := C
  intro H locs ls hP hD hS h
  obtain ⟨h1, h2, h3, h4, h5, h6, h7⟩ := hi
  refine va_copyi hx hb (by rw [hml]; exact h.1.symm) hown (hts _ M.1) (hts _ M.2.1) (hts _ M.2.2.1) (hts _ M.2.2.2) hK hP hD hS q0 q1 t0 t0 he0 he1 ht ht rfl (fun z => ?_) (fun z => ?_) (fun z => ?_) ?_ ?_ (fun _ _ => rfl) hR.1 hR.2 hd ?_
  · rw [← zI_0] at z
    have := (zI_lt ⟨by omega, by omega⟩ zR0).mp z
    omega
  · rw [← zI_0] at z
    have := (zI_lt ⟨by omega, by omega⟩ zR0).mp z
    omega
  · rw [← zI_0] at z
    have := (zI_lt ⟨by omega, by omega⟩ zR0).mp z
    omega
  · rw [zI_cl h1 (by omega), zI_cl h3 (by omega)]
    omega
  · rw [zI_cl h2 (by omega), zI_cl h3 (by omega)]
    omega
  · rw [zA_cpy h1 h2 h3 (by omega) (by omega) (by omega)]
    exact fun H1 locs1 p1 d1 s1 => g H1 locs1 ls p1 d1 s1 h
end YR
/-! ===== contracts ===== -/
def zPre (D : va_G) (tys : List (ClassId × FieldType)) (wc : va_W) (sz : Nat) : State → Prop := fun U => U.heap.size = sz ∧ va_P D vwCl wc U.heap ∧ va_K D vwCl tys U ∧ va_D (fun _ => True) wc ∧ zN U ∧ zS (va_A wc sz) U U.heap
def zB (D : va_G) (tys : List (ClassId × FieldType)) (wc : va_W) (sz : Nat) (w : va_W) (t : State) : Prop := va_P D vwCl w t.heap ∧ va_K D vwCl tys t ∧ va_D (va_A wc sz) w
/-- an int (or boolean) method: its end's number and cells keep to post -/
def MI (l : Launch) (y : MethodName) (cc : ByteArray) (nL : Nat) (ret : FieldType) (R : Room) (D : va_G) (tys : List (ClassId × FieldType)) (As : List Value) (wc : va_W) (post : Int → va_W → Prop) : Prop := ∀ sz : Nat, Met l y (.code y cc nL (some ret) :: wsL_law) R (va_Pc As (zPre D tys wc sz)) (va_Qi (fun (r : Int32) (u : Int × va_W) => r = zI u.1 ∧ post u.1 u.2) (fun u t => zB D tys wc sz u.2 t) (va_A wc sz)) R.cells R.slots (va_A wc sz)
/-- a method without an answer -/
def MV (l : Launch) (y : MethodName) (cc : ByteArray) (nL : Nat) (R : Room) (D : va_G) (tys : List (ClassId × FieldType)) (As : List Value) (wc : va_W) (post : va_W → Prop) : Prop := ∀ sz : Nat, Met l y (.code y cc nL none :: wsL_law) R (va_Pc As (zPre D tys wc sz)) (va_Qv (fun (u : va_W) => post u) (fun u t => zB D tys wc sz u t) (va_A wc sz)) R.cells R.slots (va_A wc sz)
/-- a method that answers an object -/
def MR (l : Launch) (y : MethodName) (cc : ByteArray) (nL : Nat) (ret : FieldType) (R : Room) (D : va_G) (tys : List (ClassId × FieldType)) (As : List Value) (wc : va_W) (post : Nat → va_W → Prop) : Prop := ∀ sz : Nat, Met l y (.code y cc nL (some ret) :: wsL_law) R (va_Pc As (zPre D tys wc sz)) (va_Qr (fun (u : Nat × va_W) => post u.1 u.2) (fun u a t => a = u.1 ∧ zB D tys wc sz u.2 t) (va_A wc sz)) R.cells R.slots (va_A wc sz)
theorem zY_entry {l : Launch} {y : MethodName} {cc : ByteArray} {nL : Nat} {ret : Option FieldType} {R : Room} {D : va_G} {tys : List (ClassId × FieldType)} {As : List Value} {wc : va_W} {sz mc ms : Nat} {Qc : Array Value → State → Outcome → State → Prop} (hy : plainName y.cls = true) (hlen : (lg_sl As).length ≤ nL)
    (body : ∀ (K : KT), YC l K y.cls cc nL R D tys →
      (∀ (w : va_W) (lv : List (Nat × Value)) (pc : Nat) (o : Option Value) (stk : List Value), stk = o.toList → (∀ (p : Program) (e : Env) (s : State) (m : MethodId) (args : Array Value) (below : List Frame) (meth : Method) (c : Code) (H : Heap) (locs : List Loc) (ls : Array Slot), p.tables.exec = Jvm.exec → c.code = cc → meth.sig.returnType = ret → meth.locks = false → s.heap.size = sz → va_P D vwCl w H → va_K D vwCl tys s → va_D (va_A wc sz) w → va_S (va_A wc sz) s.heap H locs → W p l e R s m args below meth c H locs mc ms (MQ below Qc args s mc ms (va_A wc sz)) (F0 m pc ls stk)) → K mc ms w lv pc stk) → K 0 0 wc (lv_args 0 As) 0 []) : Met l y (.code y cc nL ret :: wsL_law) R (va_Pc As (zPre D tys wc sz)) Qc mc ms (va_A wc sz) := by
  refine Met.ofW (cc := cc) (maxL := nL) (ret := ret) hy rfl ?_
  intro p e s m args below meth c s₁ B hml hv
  obtain ⟨rfl, hsz, hP, hK, hD0, hNs⟩ := hv
  have hts := atoms_spec (ws := (Cond.code y cc nL ret :: wsL_law)) B.pre
  have hl := lv_entry As (n := nL) hlen
  rw [lg_entry_eq]
  refine body (Yf p l e R s m As.toArray below meth c (va_A wc sz) nL D (MQ below Qc As.toArray s mc ms (va_A wc sz))) ⟨p, e, s, m, As.toArray, below, meth, c, va_A wc sz, _, rfl, B.exec, B.bytes, hml, findClass_of_methodNamed B.named, fun w h => hts w (List.mem_cons_of_mem _ h), hK, fun q h => Or.inr (by rw [← hsz]; exact h), hNs⟩ ?_ s.heap [] _ hP hD0.self va_S.rf hl
  intro w lv pc o stk _ hh H locs ls hP1 hD1 hS1 _
  exact hh p e s m As.toArray below meth c H locs ls B.exec B.bytes B.returns B.notSynchronized hsz hP1 hK hD1 hS1
theorem MI.of {l : Launch} {y : MethodName} {cc : ByteArray} {nL : Nat} {ret : FieldType} {R : Room} {D : va_G} {tys : List (ClassId × FieldType)} {As : List Value} {wc : va_W} {post : Int → va_W → Prop} (own : String) (hy : y.cls = own ∧ plainName own = true) (hret : ret = .int ∨ ret = .boolean) (hlen : (lg_sl As).length ≤ nL)
    (hbool : ret = .boolean → ∀ r w, post r w → r = 0 ∨ r = 1)
    (body : ∀ (K : KT), YC l K own cc nL R D tys → (∀ (r : Int) (w : va_W) (lv : List (Nat × Value)) (pc : Nat), decode cc pc = .ok (.ireturn, 1) → post r w → K R.cells R.slots w lv pc [.int (zI r)]) → K 0 0 wc (lv_args 0 As) 0 []) : MI l y cc nL ret R D tys As wc post := by
  intro sz
  obtain ⟨rfl, hy⟩ := hy
  refine zY_entry hy hlen (fun K C hret2 => body K C ?_)
  intro r w lv pc hd hp
  refine hret2 w lv pc (some (.int (zI r))) _ rfl ?_
  intro p e s m args below meth c H locs ls hx hb hr hlocks hsz hP hK hD hS
  subst hsz
  have hn : narrow ret (.int (zI r)) = .int (zI r) := by
    rcases hret with rfl | rfl
    · rfl
    · rcases hbool rfl r w hp with rfl | rfl <;> decide +kernel
  exact W.zret hx hb hr hn (fun t ht hW => ⟨⟨zI r, (r, w), rfl, ⟨rfl, hp⟩, by rw [ht]; exact hP, va_K.moved hW.alike hK, hD⟩, hS.F ht⟩) hS.2.2 hd hlocks
theorem MV.of {l : Launch} {y : MethodName} {cc : ByteArray} {nL : Nat} {R : Room} {D : va_G} {tys : List (ClassId × FieldType)} {As : List Value} {wc : va_W} {post : va_W → Prop} (own : String) (hy : y.cls = own ∧ plainName own = true) (hlen : (lg_sl As).length ≤ nL)
    (body : ∀ (K : KT), YC l K own cc nL R D tys → (∀ (w : va_W) (lv : List (Nat × Value)) (pc : Nat), decode cc pc = .ok (.return_, 1) → post w → K R.cells R.slots w lv pc []) → K 0 0 wc (lv_args 0 As) 0 []) : MV l y cc nL R D tys As wc post := by
  intro sz
  obtain ⟨rfl, hy⟩ := hy
  refine zY_entry hy hlen (fun K C hret2 => body K C ?_)
  intro w lv pc hd hp
  refine hret2 w lv pc none _ rfl ?_
  intro p e s m args below meth c H locs ls hx hb hr hlocks hsz hP hK hD hS
  subst hsz
  exact W.vret hx hb hr (fun t ht hW => ⟨⟨w, rfl, hp, by rw [ht]; exact hP, va_K.moved hW.alike hK, hD⟩, hS.F ht⟩) hS.2.2 hd hlocks
theorem MR.of {l : Launch} {y : MethodName} {cc : ByteArray} {nL : Nat} {ret : FieldType} {R : Room} {D : va_G} {tys : List (ClassId × FieldType)} {As : List Value} {wc : va_W} {post : Nat → va_W → Prop} (own : String) (hy : y.cls = own ∧ plainName own = true) (hret : (∃ n, ret = .object n) ∨ ∃ t, ret = .array t) (hlen : (lg_sl As).length ≤ nL)
    (body : ∀ (K : KT), YC l K own cc nL R D tys → (∀ (r : Nat) (w : va_W) (lv : List (Nat × Value)) (pc : Nat), decode cc pc = .ok (.areturn, 1) → post r w → K R.cells R.slots w lv pc [.ref r]) → K 0 0 wc (lv_args 0 As) 0 []) : MR l y cc nL ret R D tys As wc post := by
  intro sz
  obtain ⟨rfl, hy⟩ := hy
  refine zY_entry hy hlen (fun K C hret2 => body K C ?_)
  intro r w lv pc hd hp
  refine hret2 w lv pc (some (.ref r)) _ rfl ?_
  intro p e s m args below meth c H locs ls hx hb hr hlocks hsz hP hK hD hS
  subst hsz
  exact W.aret hx hb hr hret (Or.inr ⟨r, rfl⟩) (fun t ht hW => ⟨⟨(r, w), r, rfl, hp, rfl, by rw [ht]; exact hP, va_K.moved hW.alike hK, hD⟩, hS.F ht⟩) hS.2.2 hd hlocks
/-- the words of a call: of an instance method by a virtual call -/
def LKv (own : String) (idx : Nat) (y : MethodName) (yc : ByteArray) (ynL : Nat) (ret : Option FieldType) (yn : Nat) : Prop := (Cond.methodLink own idx y ∈ wsL_law ∧ Cond.instanceMethod y ∈ wsL_law ∧ Cond.selects y.cls y y ∈ wsL_law ∧ Cond.initialized y.cls ∈ wsL_law ∧ Cond.code y yc ynL ret ∈ wsL_law) ∧ y.cls ≠ "java/lang/invoke/MethodHandle" ∧ y.cls ≠ "java/lang/invoke/VarHandle" ∧ (parseMethodDescriptor y.desc).map (fun d => d.parameters.length) = some yn
/-- .. of a static one -/
def LKs (own : String) (idx : Nat) (y : MethodName) (yc : ByteArray) (ynL : Nat) (ret : Option FieldType) (yn : Nat) : Prop := (Cond.methodLink own idx y ∈ wsL_law ∧ Cond.static y ∈ wsL_law ∧ Cond.initialized y.cls ∈ wsL_law ∧ Cond.code y yc ynL ret ∈ wsL_law) ∧ y.cls ≠ "java/lang/invoke/MethodHandle" ∧ y.cls ≠ "java/lang/invoke/VarHandle" ∧ (parseMethodDescriptor y.desc).map (fun d => d.parameters.length) = some yn
theorem zGood {y : MethodName} {yc : ByteArray} {ynL : Nat} {ret : Option FieldType} (h : Cond.code y yc ynL ret ∈ wsL_law) : GoodIn wsL_law (.code y yc ynL ret :: wsL_law) := by
  intro w hw
  have hg := List.all_eq_true.mp wsL_good
  rcases List.mem_cons.mp hw with rfl | hw
  · exact ⟨h, good_of_word (hg _ h)⟩
  · exact ⟨hw, good_of_word (hg _ hw)⟩
theorem zGoodV {own : String} {idx : Nat} {y : MethodName} {yc : ByteArray} {ynL yn : Nat} {ret : Option FieldType} (h : LKv own idx y yc ynL ret yn) : GoodIn wsL_law (wsV own idx y.cls y (.code y yc ynL ret :: wsL_law)) := by
  intro w hw
  have hg := List.all_eq_true.mp wsL_good
  obtain ⟨⟨h1, h2, h3, h4, h5⟩, -⟩ := h
  unfold wsV at hw
  rcases List.mem_append.mp hw with hw | hw
  · simp only [List.mem_cons, List.not_mem_nil, or_false] at hw
    rcases hw with rfl | rfl | rfl | rfl
    · exact ⟨h1, good_of_word (hg _ h1)⟩
    · exact ⟨h2, good_of_word (hg _ h2)⟩
    · exact ⟨h3, good_of_word (hg _ h3)⟩
    · exact ⟨h4, good_of_word (hg _ h4)⟩
  · exact zGood h5 w hw
theorem zGoodS {own : String} {idx : Nat} {y : MethodName} {yc : ByteArray} {ynL yn : Nat} {ret : Option FieldType} (h : LKs own idx y yc ynL ret yn) : GoodIn wsL_law (va_wsS own idx y (.code y yc ynL ret :: wsL_law)) := by
  intro w hw
  have hg := List.all_eq_true.mp wsL_good
  obtain ⟨⟨h1, h3, h4, h5⟩, -⟩ := h
  unfold va_wsS at hw
  rcases List.mem_append.mp hw with hw | hw
  · simp only [List.mem_cons, List.not_mem_nil, or_false] at hw
    rcases hw with rfl | rfl | rfl
    · exact ⟨h1, good_of_word (hg _ h1)⟩
    · exact ⟨h3, good_of_word (hg _ h3)⟩
    · exact ⟨h4, good_of_word (hg _ h4)⟩
  · exact zGood h5 w hw
/-- how the callee's cells lie among ours: their places, those of the rest -/
def zCut (ws wc wr : va_W) (isC isR : List Nat) : Prop := isC.map (fun i => ws[i]?) = wc.map some ∧ isR.map (fun i => ws[i]?) = wr.map some ∧ va_nd isC = true ∧ va_nd isR = true ∧ ∀ i ∈ isR, i ∉ isC
/-- .. and behind the call -/
def zBack (wr w1 ws2 : va_W) (isN : List Nat) : Prop := isN.map (fun i => (wr ++ w1)[i]?) = ws2.map some ∧ va_nd isN = true
theorem zCut.P {D : va_G} {ws wc : va_W} {isC : List Nat} {H : Heap} (hC : isC.map (fun i => ws[i]?) = wc.map some) (hP : va_P D vwCl ws H) : va_P D vwCl wc H := by
  refine hP.sub isC ?_
  have : isC.filterMap (fun i => ws[i]?) = (isC.map (fun i => ws[i]?)).filterMap id := by rw [List.filterMap_map]; rfl
  rw [this, hC, List.filterMap_map]
  simp
theorem y_calli {l : Launch} {K : KT} {own : String} {cc : ByteArray} {nL : Nat} {R : Room} {D : va_G} {tys : List (ClassId × FieldType)} {k n : Nat} {ws : va_W} {lv : List (Nat × Value)} {pc : Nat} {st stk : List Value} {idx : Nat} {y : MethodName} {yc : ByteArray} {ynL yn : Nat} {yret : FieldType} {rm : Room} {wc wr : va_W} {post : Int → va_W → Prop} {As : List Value} {b ci jb : Nat} {fs : List Value} {T : u_T} {N : Nat} (C : YC l K own cc nL R D tys) (hM : MI l y yc ynL yret rm D tys (.ref b :: As) wc post) (LK : LKv own idx y yc ynL (some yret) yn) (isC isR : List Nat) (hcut : zCut ws wc wr isC isR) (hb0 : wc[jb]? = some (b, .inr (ci, fs))) (hcl : vwCl[ci]? = some (y.cls, T, N)) (hd : decode cc pc = .ok (.invokevirtual idx, 3)) (hstk : stk = As.reverse ++ .ref b :: st) (hn : As.length = yn) (hR : rm.frames + 1 ≤ R.frames ∧ 8 + (ynL + 11) + rm.locals ≤ R.locals ∧ rm.cells = 0 ∧ rm.slots = 0 ∧ k ≤ R.cells ∧ n ≤ R.slots ∧ (st.map fun v => v.category).sum ≤ 8)
    (g : ∀ (r : Int) (w1 : va_W), post r w1 → ∃ isN ws2, zBack wr w1 ws2 isN ∧ K k n ws2 lv (pc + 3) (.int (zI r) :: st)) : K k n ws lv pc stk := by
  subst hstk
  obtain ⟨p, e, s, m, args, below, meth, c, A, Q, rfl, hx, hb, hml, hown, hts, hK, hA, hNs⟩ := C
  obtain ⟨hC, hRr, hnC, hnd, hdis⟩ := hcut
  obtain ⟨hR1, hR2, hR3, hR4, hR5, hR6, hst⟩ := hR
  intro H locs ls hP hD hS h
  have hPc : va_P D vwCl wc H := zCut.P hC hP
  have hDc := hD.sub (ws' := wc) isC hnC hC
  have hFc := va_free (wc := wc) hD hS hA isC hC
  have hM' := hM H.size
  refine va_calli (va_runV (As := As) (rest := st) ⟨hx, hb, hml, hown, hts⟩ hM' (cwV yn hts (zGoodV LK) rfl rfl rfl ⟨rfl, LK.2.1, LK.2.2.1, LK.2.2.2⟩ ⟨hR1, hR2⟩) ⟨fun a U g mk q => ⟨q.1, q.2.1, q.2.2.1, va_K.moved (u := U) (U := U.calling g mk a) (Vm.Alike.refl U.vm) q.2.2.2.1, q.2.2.2.2.1, ⟨zN_same (u := U) (U := U.calling g mk a) rfl q.2.2.2.2.2.1, zS.same (u := U) (U := U.calling g mk a) rfl q.2.2.2.2.2.2⟩⟩, va_recv hK hPc (ci := ci) (q0 := jb) hcl hb0, fun U hU hW => ⟨rfl, by rw [hU], by rw [hU]; exact hPc, va_K.moved hW.alike hK, hDc.weaken (fun _ _ _ _ => trivial), ⟨zN_warm hW hNs.1, by rw [hU]; exact zS.warm hW (zS.kept hNs.2 hS.2.1 hS.1 (fun q h => hFc q h))⟩⟩⟩ rfl hn h.1 rfl (lv_room hst) hd ⟨by omega, by omega⟩) hS (fun q _ h => hFc q h) hFc (fun r u t H1 locs1 ht hvm hw hB hz1 hk1 hS1 => ?_)
  obtain ⟨ri, w1⟩ := u
  obtain ⟨rfl, hw⟩ := hw
  obtain ⟨isN, ws2, ⟨hN, hnN⟩, g⟩ := g ri w1 hw
  obtain ⟨hP1, hK1, hD1⟩ := hB
  rw [ht] at hP1
  obtain ⟨hP2, hD2⟩ := va_join (wr := wr) (w1 := w1) hP hD isC isR hC hRr hnd hdis hk1 hFc hP1 hD1
  rw [hR3, hR4]
  exact g H1 locs1 ls (zCut.P hN hP2) (hD2.sub (ws' := ws2) isN hnN hN) hS1 h
theorem y_callis {l : Launch} {K : KT} {own : String} {cc : ByteArray} {nL : Nat} {R : Room} {D : va_G} {tys : List (ClassId × FieldType)} {k n : Nat} {ws : va_W} {lv : List (Nat × Value)} {pc : Nat} {st stk : List Value} {idx : Nat} {y : MethodName} {yc : ByteArray} {ynL yn : Nat} {yret : FieldType} {rm : Room} {wc wr : va_W} {post : Int → va_W → Prop} {As : List Value}  (C : YC l K own cc nL R D tys) (hM : MI l y yc ynL yret rm D tys As wc post) (LK : LKs own idx y yc ynL (some yret) yn) (isC isR : List Nat) (hcut : zCut ws wc wr isC isR) (hd : decode cc pc = .ok (.invokestatic idx, 3)) (hstk : stk = As.reverse ++ st) (hn : As.length = yn) (hR : rm.frames + 1 ≤ R.frames ∧ 8 + (ynL + 11) + rm.locals ≤ R.locals ∧ rm.cells = 0 ∧ rm.slots = 0 ∧ k ≤ R.cells ∧ n ≤ R.slots ∧ (st.map fun v => v.category).sum ≤ 8)
    (g : ∀ (r : Int) (w1 : va_W), post r w1 → ∃ isN ws2, zBack wr w1 ws2 isN ∧ K k n ws2 lv (pc + 3) (.int (zI r) :: st)) : K k n ws lv pc stk := by
  subst hstk
  obtain ⟨p, e, s, m, args, below, meth, c, A, Q, rfl, hx, hb, hml, hown, hts, hK, hA, hNs⟩ := C
  obtain ⟨hC, hRr, hnC, hnd, hdis⟩ := hcut
  obtain ⟨hR1, hR2, hR3, hR4, hR5, hR6, hst⟩ := hR
  intro H locs ls hP hD hS h
  have hPc : va_P D vwCl wc H := zCut.P hC hP
  have hDc := hD.sub (ws' := wc) isC hnC hC
  have hFc := va_free (wc := wc) hD hS hA isC hC
  have hM' := hM H.size
  refine va_calli (va_runS (As := As) (rest := st) ⟨hx, hb, hml, hown, hts⟩ hM' (va_cwS yn hts (zGoodS LK) rfl rfl rfl ⟨LK.2.1, LK.2.2.1, LK.2.2.2⟩ ⟨hR1, hR2⟩) ⟨fun a U g mk q => ⟨q.1, q.2.1, q.2.2.1, va_K.moved (u := U) (U := U.calling g mk a) (Vm.Alike.refl U.vm) q.2.2.2.1, q.2.2.2.2.1, ⟨zN_same (u := U) (U := U.calling g mk a) rfl q.2.2.2.2.2.1, zS.same (u := U) (U := U.calling g mk a) rfl q.2.2.2.2.2.2⟩⟩, fun U hU hW => ⟨rfl, by rw [hU], by rw [hU]; exact hPc, va_K.moved hW.alike hK, hDc.weaken (fun _ _ _ _ => trivial), ⟨zN_warm hW hNs.1, by rw [hU]; exact zS.warm hW (zS.kept hNs.2 hS.2.1 hS.1 (fun q h => hFc q h))⟩⟩⟩ rfl hn h.1 rfl (lv_room hst) hd ⟨by omega, by omega⟩) hS (fun q _ h => hFc q h) hFc (fun r u t H1 locs1 ht hvm hw hB hz1 hk1 hS1 => ?_)
  obtain ⟨ri, w1⟩ := u
  obtain ⟨rfl, hw⟩ := hw
  obtain ⟨isN, ws2, ⟨hN, hnN⟩, g⟩ := g ri w1 hw
  obtain ⟨hP1, hK1, hD1⟩ := hB
  rw [ht] at hP1
  obtain ⟨hP2, hD2⟩ := va_join (wr := wr) (w1 := w1) hP hD isC isR hC hRr hnd hdis hk1 hFc hP1 hD1
  rw [hR3, hR4]
  exact g H1 locs1 ls (zCut.P hN hP2) (hD2.sub (ws' := ws2) isN hnN hN) hS1 h
/-- .. of a private static method of another class of the nest -/
def LKsN (own : String) (idx : Nat) (y : MethodName) (yc : ByteArray) (ynL : Nat) (ret : Option FieldType) (yn : Nat) : Prop := ((own, idx, y) ∈ zNest ∧ Cond.static y ∈ wsL_law ∧ Cond.initialized y.cls ∈ wsL_law ∧ Cond.code y yc ynL ret ∈ wsL_law) ∧ y.cls ≠ "java/lang/invoke/MethodHandle" ∧ y.cls ≠ "java/lang/invoke/VarHandle" ∧ (parseMethodDescriptor y.desc).map (fun d => d.parameters.length) = some yn
theorem y_callisN {l : Launch} {K : KT} {own : String} {cc : ByteArray} {nL : Nat} {R : Room} {D : va_G} {tys : List (ClassId × FieldType)} {k n : Nat} {ws : va_W} {lv : List (Nat × Value)} {pc : Nat} {st stk : List Value} {idx : Nat} {y : MethodName} {yc : ByteArray} {ynL yn : Nat} {yret : FieldType} {rm : Room} {wc wr : va_W} {post : Int → va_W → Prop} {As : List Value}  (C : YC l K own cc nL R D tys) (hM : MI l y yc ynL yret rm D tys As wc post) (LK : LKsN own idx y yc ynL (some yret) yn) (isC isR : List Nat) (hcut : zCut ws wc wr isC isR) (hd : decode cc pc = .ok (.invokestatic idx, 3)) (hstk : stk = As.reverse ++ st) (hn : As.length = yn) (hR : rm.frames + 1 ≤ R.frames ∧ 8 + (ynL + 11) + rm.locals ≤ R.locals ∧ rm.cells = 0 ∧ rm.slots = 0 ∧ k ≤ R.cells ∧ n ≤ R.slots ∧ (st.map fun v => v.category).sum ≤ 8)
    (g : ∀ (r : Int) (w1 : va_W), post r w1 → ∃ isN ws2, zBack wr w1 ws2 isN ∧ K k n ws2 lv (pc + 3) (.int (zI r) :: st)) : K k n ws lv pc stk := by
  subst hstk
  obtain ⟨p, e, s, m, args, below, meth, c, A, Q, rfl, hx, hb, hml, hown, hts, hK, hA, hNs⟩ := C
  obtain ⟨hC, hRr, hnC, hnd, hdis⟩ := hcut
  obtain ⟨hR1, hR2, hR3, hR4, hR5, hR6, hst⟩ := hR
  intro H locs ls hP hD hS h
  have hPc : va_P D vwCl wc H := zCut.P hC hP
  have hDc := hD.sub (ws' := wc) isC hnC hC
  have hFc := va_free (wc := wc) hD hS hA isC hC
  have hM' := hM H.size
  refine va_calli (va_runSN (As := As) (rest := st) ⟨hx, hb, hml, hown, hts⟩ hM' ⟨va_cnB yn hts (zGood LK.1.2.2.2) rfl rfl rfl (hNs.1 _ LK.1.1) (hts _ LK.1.2.2.1) ⟨LK.2.1, LK.2.2.1, LK.2.2.2⟩ ⟨hR1, hR2⟩, hts _ LK.1.2.1, trivial⟩ ⟨fun a U g mk q => ⟨q.1, q.2.1, q.2.2.1, va_K.moved (u := U) (U := U.calling g mk a) (Vm.Alike.refl U.vm) q.2.2.2.1, q.2.2.2.2.1, ⟨zN_same (u := U) (U := U.calling g mk a) rfl q.2.2.2.2.2.1, zS.same (u := U) (U := U.calling g mk a) rfl q.2.2.2.2.2.2⟩⟩, fun U hU hW => ⟨rfl, by rw [hU], by rw [hU]; exact hPc, va_K.moved hW.alike hK, hDc.weaken (fun _ _ _ _ => trivial), ⟨zN_warm hW hNs.1, by rw [hU]; exact zS.warm hW (zS.kept hNs.2 hS.2.1 hS.1 (fun q h => hFc q h))⟩⟩⟩ rfl hn h.1 rfl (lv_room hst) hd ⟨by omega, by omega⟩) hS (fun q _ h => hFc q h) hFc (fun r u t H1 locs1 ht hvm hw hB hz1 hk1 hS1 => ?_)
  obtain ⟨ri, w1⟩ := u
  obtain ⟨rfl, hw⟩ := hw
  obtain ⟨isN, ws2, ⟨hN, hnN⟩, g⟩ := g ri w1 hw
  obtain ⟨hP1, hK1, hD1⟩ := hB
  rw [ht] at hP1
  obtain ⟨hP2, hD2⟩ := va_join (wr := wr) (w1 := w1) hP hD isC isR hC hRr hnd hdis hk1 hFc hP1 hD1
  rw [hR3, hR4]
  exact g H1 locs1 ls (zCut.P hN hP2) (hD2.sub (ws' := ws2) isN hnN hN) hS1 h
theorem y_callv {l : Launch} {K : KT} {own : String} {cc : ByteArray} {nL : Nat} {R : Room} {D : va_G} {tys : List (ClassId × FieldType)} {k n : Nat} {ws : va_W} {lv : List (Nat × Value)} {pc : Nat} {st stk : List Value} {idx : Nat} {y : MethodName} {yc : ByteArray} {ynL yn : Nat}  {rm : Room} {wc wr : va_W} {post : va_W → Prop} {As : List Value} {b ci jb : Nat} {fs : List Value} {T : u_T} {N : Nat} (C : YC l K own cc nL R D tys) (hM : MV l y yc ynL rm D tys (.ref b :: As) wc post) (LK : LKv own idx y yc ynL none yn) (isC isR : List Nat) (hcut : zCut ws wc wr isC isR) (hb0 : wc[jb]? = some (b, .inr (ci, fs))) (hcl : vwCl[ci]? = some (y.cls, T, N)) (hd : decode cc pc = .ok (.invokevirtual idx, 3)) (hstk : stk = As.reverse ++ .ref b :: st) (hn : As.length = yn) (hR : rm.frames + 1 ≤ R.frames ∧ 8 + (ynL + 11) + rm.locals ≤ R.locals ∧ rm.cells = 0 ∧ rm.slots = 0 ∧ k ≤ R.cells ∧ n ≤ R.slots ∧ (st.map fun v => v.category).sum ≤ 8)
    (g : ∀ (w1 : va_W), post w1 → ∃ isN ws2, zBack wr w1 ws2 isN ∧ K k n ws2 lv (pc + 3) st) : K k n ws lv pc stk := by
  subst hstk
  obtain ⟨p, e, s, m, args, below, meth, c, A, Q, rfl, hx, hb, hml, hown, hts, hK, hA, hNs⟩ := C
  obtain ⟨hC, hRr, hnC, hnd, hdis⟩ := hcut
  obtain ⟨hR1, hR2, hR3, hR4, hR5, hR6, hst⟩ := hR
  intro H locs ls hP hD hS h
  have hPc : va_P D vwCl wc H := zCut.P hC hP
  have hDc := hD.sub (ws' := wc) isC hnC hC
  have hFc := va_free (wc := wc) hD hS hA isC hC
  have hM' := hM H.size
  refine va_callv (va_runV (As := As) (rest := st) ⟨hx, hb, hml, hown, hts⟩ hM' (cwV yn hts (zGoodV LK) rfl rfl rfl ⟨rfl, LK.2.1, LK.2.2.1, LK.2.2.2⟩ ⟨hR1, hR2⟩) ⟨fun a U g mk q => ⟨q.1, q.2.1, q.2.2.1, va_K.moved (u := U) (U := U.calling g mk a) (Vm.Alike.refl U.vm) q.2.2.2.1, q.2.2.2.2.1, ⟨zN_same (u := U) (U := U.calling g mk a) rfl q.2.2.2.2.2.1, zS.same (u := U) (U := U.calling g mk a) rfl q.2.2.2.2.2.2⟩⟩, va_recv hK hPc (ci := ci) (q0 := jb) hcl hb0, fun U hU hW => ⟨rfl, by rw [hU], by rw [hU]; exact hPc, va_K.moved hW.alike hK, hDc.weaken (fun _ _ _ _ => trivial), ⟨zN_warm hW hNs.1, by rw [hU]; exact zS.warm hW (zS.kept hNs.2 hS.2.1 hS.1 (fun q h => hFc q h))⟩⟩⟩ rfl hn h.1 rfl (lv_room hst) hd ⟨by omega, by omega⟩) hS (fun q _ h => hFc q h) hFc (fun u t H1 locs1 ht hvm hw hB hz1 hk1 hS1 => ?_)
  obtain ⟨isN, ws2, ⟨hN, hnN⟩, g⟩ := g u hw
  obtain ⟨hP1, hK1, hD1⟩ := hB
  rw [ht] at hP1
  obtain ⟨hP2, hD2⟩ := va_join (wr := wr) (w1 := u) hP hD isC isR hC hRr hnd hdis hk1 hFc hP1 hD1
  rw [hR3, hR4]
  exact g H1 locs1 ls (zCut.P hN hP2) (hD2.sub (ws' := ws2) isN hnN hN) hS1 h
theorem y_callvs {l : Launch} {K : KT} {own : String} {cc : ByteArray} {nL : Nat} {R : Room} {D : va_G} {tys : List (ClassId × FieldType)} {k n : Nat} {ws : va_W} {lv : List (Nat × Value)} {pc : Nat} {st stk : List Value} {idx : Nat} {y : MethodName} {yc : ByteArray} {ynL yn : Nat}  {rm : Room} {wc wr : va_W} {post : va_W → Prop} {As : List Value}  (C : YC l K own cc nL R D tys) (hM : MV l y yc ynL rm D tys As wc post) (LK : LKs own idx y yc ynL none yn) (isC isR : List Nat) (hcut : zCut ws wc wr isC isR) (hd : decode cc pc = .ok (.invokestatic idx, 3)) (hstk : stk = As.reverse ++ st) (hn : As.length = yn) (hR : rm.frames + 1 ≤ R.frames ∧ 8 + (ynL + 11) + rm.locals ≤ R.locals ∧ rm.cells = 0 ∧ rm.slots = 0 ∧ k ≤ R.cells ∧ n ≤ R.slots ∧ (st.map fun v => v.category).sum ≤ 8)
    (g : ∀ (w1 : va_W), post w1 → ∃ isN ws2, zBack wr w1 ws2 isN ∧ K k n ws2 lv (pc + 3) st) : K k n ws lv pc stk := by
  subst hstk
  obtain ⟨p, e, s, m, args, below, meth, c, A, Q, rfl, hx, hb, hml, hown, hts, hK, hA, hNs⟩ := C
  obtain ⟨hC, hRr, hnC, hnd, hdis⟩ := hcut
  obtain ⟨hR1, hR2, hR3, hR4, hR5, hR6, hst⟩ := hR
  intro H locs ls hP hD hS h
  have hPc : va_P D vwCl wc H := zCut.P hC hP
  have hDc := hD.sub (ws' := wc) isC hnC hC
  have hFc := va_free (wc := wc) hD hS hA isC hC
  have hM' := hM H.size
  refine va_callv (va_runS (As := As) (rest := st) ⟨hx, hb, hml, hown, hts⟩ hM' (va_cwS yn hts (zGoodS LK) rfl rfl rfl ⟨LK.2.1, LK.2.2.1, LK.2.2.2⟩ ⟨hR1, hR2⟩) ⟨fun a U g mk q => ⟨q.1, q.2.1, q.2.2.1, va_K.moved (u := U) (U := U.calling g mk a) (Vm.Alike.refl U.vm) q.2.2.2.1, q.2.2.2.2.1, ⟨zN_same (u := U) (U := U.calling g mk a) rfl q.2.2.2.2.2.1, zS.same (u := U) (U := U.calling g mk a) rfl q.2.2.2.2.2.2⟩⟩, fun U hU hW => ⟨rfl, by rw [hU], by rw [hU]; exact hPc, va_K.moved hW.alike hK, hDc.weaken (fun _ _ _ _ => trivial), ⟨zN_warm hW hNs.1, by rw [hU]; exact zS.warm hW (zS.kept hNs.2 hS.2.1 hS.1 (fun q h => hFc q h))⟩⟩⟩ rfl hn h.1 rfl (lv_room hst) hd ⟨by omega, by omega⟩) hS (fun q _ h => hFc q h) hFc (fun u t H1 locs1 ht hvm hw hB hz1 hk1 hS1 => ?_)
  obtain ⟨isN, ws2, ⟨hN, hnN⟩, g⟩ := g u hw
  obtain ⟨hP1, hK1, hD1⟩ := hB
  rw [ht] at hP1
  obtain ⟨hP2, hD2⟩ := va_join (wr := wr) (w1 := u) hP hD isC isR hC hRr hnd hdis hk1 hFc hP1 hD1
  rw [hR3, hR4]
  exact g H1 locs1 ls (zCut.P hN hP2) (hD2.sub (ws' := ws2) isN hnN hN) hS1 h
theorem y_callr {l : Launch} {K : KT} {own : String} {cc : ByteArray} {nL : Nat} {R : Room} {D : va_G} {tys : List (ClassId × FieldType)} {k n : Nat} {ws : va_W} {lv : List (Nat × Value)} {pc : Nat} {st stk : List Value} {idx : Nat} {y : MethodName} {yc : ByteArray} {ynL yn : Nat} {yret : FieldType} {rm : Room} {wc wr : va_W} {post : Nat → va_W → Prop} {As : List Value} {b ci jb : Nat} {fs : List Value} {T : u_T} {N : Nat} (C : YC l K own cc nL R D tys) (hM : MR l y yc ynL yret rm D tys (.ref b :: As) wc post) (LK : LKv own idx y yc ynL (some yret) yn) (isC isR : List Nat) (hcut : zCut ws wc wr isC isR) (hb0 : wc[jb]? = some (b, .inr (ci, fs))) (hcl : vwCl[ci]? = some (y.cls, T, N)) (hd : decode cc pc = .ok (.invokevirtual idx, 3)) (hstk : stk = As.reverse ++ .ref b :: st) (hn : As.length = yn) (hR : rm.frames + 1 ≤ R.frames ∧ 8 + (ynL + 11) + rm.locals ≤ R.locals ∧ rm.cells = 0 ∧ rm.slots = 0 ∧ k ≤ R.cells ∧ n ≤ R.slots ∧ (st.map fun v => v.category).sum ≤ 8)
    (g : ∀ (r : Nat) (w1 : va_W), post r w1 → ∃ isN ws2, zBack wr w1 ws2 isN ∧ K k n ws2 lv (pc + 3) (.ref r :: st)) : K k n ws lv pc stk := by
  subst hstk
  obtain ⟨p, e, s, m, args, below, meth, c, A, Q, rfl, hx, hb, hml, hown, hts, hK, hA, hNs⟩ := C
  obtain ⟨hC, hRr, hnC, hnd, hdis⟩ := hcut
  obtain ⟨hR1, hR2, hR3, hR4, hR5, hR6, hst⟩ := hR
  intro H locs ls hP hD hS h
  have hPc : va_P D vwCl wc H := zCut.P hC hP
  have hDc := hD.sub (ws' := wc) isC hnC hC
  have hFc := va_free (wc := wc) hD hS hA isC hC
  have hM' := hM H.size
  refine va_callr (va_runV (As := As) (rest := st) ⟨hx, hb, hml, hown, hts⟩ hM' (cwV yn hts (zGoodV LK) rfl rfl rfl ⟨rfl, LK.2.1, LK.2.2.1, LK.2.2.2⟩ ⟨hR1, hR2⟩) ⟨fun a U g mk q => ⟨q.1, q.2.1, q.2.2.1, va_K.moved (u := U) (U := U.calling g mk a) (Vm.Alike.refl U.vm) q.2.2.2.1, q.2.2.2.2.1, ⟨zN_same (u := U) (U := U.calling g mk a) rfl q.2.2.2.2.2.1, zS.same (u := U) (U := U.calling g mk a) rfl q.2.2.2.2.2.2⟩⟩, va_recv hK hPc (ci := ci) (q0 := jb) hcl hb0, fun U hU hW => ⟨rfl, by rw [hU], by rw [hU]; exact hPc, va_K.moved hW.alike hK, hDc.weaken (fun _ _ _ _ => trivial), ⟨zN_warm hW hNs.1, by rw [hU]; exact zS.warm hW (zS.kept hNs.2 hS.2.1 hS.1 (fun q h => hFc q h))⟩⟩⟩ rfl hn h.1 rfl (lv_room hst) hd ⟨by omega, by omega⟩) hS (fun q _ h => hFc q h) hFc (fun u r t H1 locs1 ht hvm hw hB hz1 hk1 hS1 => ?_)
  obtain ⟨ri, w1⟩ := u
  obtain ⟨rfl, hB⟩ := hB
  obtain ⟨isN, ws2, ⟨hN, hnN⟩, g⟩ := g r w1 hw
  obtain ⟨hP1, hK1, hD1⟩ := hB
  rw [ht] at hP1
  obtain ⟨hP2, hD2⟩ := va_join (wr := wr) (w1 := w1) hP hD isC isR hC hRr hnd hdis hk1 hFc hP1 hD1
  rw [hR3, hR4]
  exact g H1 locs1 ls (zCut.P hN hP2) (hD2.sub (ws' := ws2) isN hnN hN) hS1 h
/-- .. of a constructor -/
def LKi (own : String) (idx : Nat) (y : MethodName) (yc : ByteArray) (ynL : Nat) (ret : Option FieldType) (yn : Nat) : Prop := (Cond.methodLink own idx y ∈ wsL_law ∧ Cond.instanceMethod y ∈ wsL_law ∧ Cond.initialized y.cls ∈ wsL_law ∧ Cond.code y yc ynL ret ∈ wsL_law) ∧ y.name = "<init>" ∧ y.cls ≠ "java/lang/invoke/MethodHandle" ∧ y.cls ≠ "java/lang/invoke/VarHandle" ∧ (parseMethodDescriptor y.desc).map (fun d => d.parameters.length) = some yn
/-- the cells at some places -/
def zPick (ws : va_W) (is : List Nat) : va_W := is.filterMap (fun i => ws[i]?)
/-- a virtual call that leaves its cells as they are -/
theorem y_pcall {l : Launch} {K : KT} {own : String} {cc : ByteArray} {nL : Nat} {R : Room} {D : va_G} {tys : List (ClassId × FieldType)} {k n : Nat} {ws : va_W} {lv : List (Nat × Value)} {pc : Nat} {st stk : List Value} {idx : Nat} {y : MethodName} {yc : ByteArray} {ynL yn : Nat} {yret : FieldType} {rm : Room} {wc : va_W} {Pr : Int → Prop} {As : List Value} {b ci : Nat} {fs : List Value} {T : u_T} {N : Nat} (C : YC l K own cc nL R D tys) (hM : MI l y yc ynL yret rm D tys (.ref b :: As) wc (fun r w => w = wc ∧ Pr r)) (LK : LKv own idx y yc ynL (some yret) yn) (isC isR isN : List Nat) (hcut : zCut ws wc (zPick ws isR) isC isR) (hback : zBack (zPick ws isR) wc ws isN) (hb0 : wc[0]? = some (b, .inr (ci, fs))) (hcl : vwCl[ci]? = some (y.cls, T, N)) (hd : decode cc pc = .ok (.invokevirtual idx, 3)) (hstk : stk = As.reverse ++ .ref b :: st) (hn : As.length = yn) (hR : rm.frames + 1 ≤ R.frames ∧ 8 + (ynL + 11) + rm.locals ≤ R.locals ∧ rm.cells = 0 ∧ rm.slots = 0 ∧ k ≤ R.cells ∧ n ≤ R.slots ∧ (st.map fun v => v.category).sum ≤ 8)
    (g : ∀ r : Int, Pr r → K k n ws lv (pc + 3) (.int (zI r) :: st)) : K k n ws lv pc stk :=
  y_calli C hM LK isC isR hcut hb0 hcl hd hstk hn hR (fun r w1 h => ⟨isN, ws, by rw [h.1]; exact hback, g r h.2⟩)
/-- .. a static one -/
theorem y_pcalls {l : Launch} {K : KT} {own : String} {cc : ByteArray} {nL : Nat} {R : Room} {D : va_G} {tys : List (ClassId × FieldType)} {k n : Nat} {ws : va_W} {lv : List (Nat × Value)} {pc : Nat} {st stk : List Value} {idx : Nat} {y : MethodName} {yc : ByteArray} {ynL yn : Nat} {yret : FieldType} {rm : Room} {wc : va_W} {Pr : Int → Prop} {As : List Value} (C : YC l K own cc nL R D tys) (hM : MI l y yc ynL yret rm D tys As wc (fun r w => w = wc ∧ Pr r)) (LK : LKs own idx y yc ynL (some yret) yn) (isC isR isN : List Nat) (hcut : zCut ws wc (zPick ws isR) isC isR) (hback : zBack (zPick ws isR) wc ws isN) (hd : decode cc pc = .ok (.invokestatic idx, 3)) (hstk : stk = As.reverse ++ st) (hn : As.length = yn) (hR : rm.frames + 1 ≤ R.frames ∧ 8 + (ynL + 11) + rm.locals ≤ R.locals ∧ rm.cells = 0 ∧ rm.slots = 0 ∧ k ≤ R.cells ∧ n ≤ R.slots ∧ (st.map fun v => v.category).sum ≤ 8)
    (g : ∀ r : Int, Pr r → K k n ws lv (pc + 3) (.int (zI r) :: st)) : K k n ws lv pc stk :=
  y_callis C hM LK isC isR hcut hd hstk hn hR (fun r w1 h => ⟨isN, ws, by rw [h.1]; exact hback, g r h.2⟩)
/-- .. a static one -/
theorem y_pcallsN {l : Launch} {K : KT} {own : String} {cc : ByteArray} {nL : Nat} {R : Room} {D : va_G} {tys : List (ClassId × FieldType)} {k n : Nat} {ws : va_W} {lv : List (Nat × Value)} {pc : Nat} {st stk : List Value} {idx : Nat} {y : MethodName} {yc : ByteArray} {ynL yn : Nat} {yret : FieldType} {rm : Room} {wc : va_W} {Pr : Int → Prop} {As : List Value} (C : YC l K own cc nL R D tys) (hM : MI l y yc ynL yret rm D tys As wc (fun r w => w = wc ∧ Pr r)) (LK : LKsN own idx y yc ynL (some yret) yn) (isC isR isN : List Nat) (hcut : zCut ws wc (zPick ws isR) isC isR) (hback : zBack (zPick ws isR) wc ws isN) (hd : decode cc pc = .ok (.invokestatic idx, 3)) (hstk : stk = As.reverse ++ st) (hn : As.length = yn) (hR : rm.frames + 1 ≤ R.frames ∧ 8 + (ynL + 11) + rm.locals ≤ R.locals ∧ rm.cells = 0 ∧ rm.slots = 0 ∧ k ≤ R.cells ∧ n ≤ R.slots ∧ (st.map fun v => v.category).sum ≤ 8)
    (g : ∀ r : Int, Pr r → K k n ws lv (pc + 3) (.int (zI r) :: st)) : K k n ws lv pc stk :=
  y_callisN C hM LK isC isR hcut hd hstk hn hR (fun r w1 h => ⟨isN, ws, by rw [h.1]; exact hback, g r h.2⟩)
/-- the locals in another order, or fewer -/
theorem y_lsub {l : Launch} {K : KT} {own : String} {cc : ByteArray} {nL : Nat} {R : Room} {D : va_G} {tys : List (ClassId × FieldType)} {k n : Nat} {ws : va_W} {lv lv' : List (Nat × Value)} {pc : Nat} {st : List Value} (C : YC l K own cc nL R D tys) (ks : List Nat) (h : lv_pick lv ks = lv') (g : K k n ws lv' pc st) : K k n ws lv pc st := by
  obtain ⟨p, e, s, m, args, below, meth, c, A, Q, rfl, -⟩ := C
  intro H locs ls hP hD hS hl
  exact g H locs ls hP hD hS (lv_sub hl ks h)
/-- the cells in another order, or fewer -/
theorem y_wsub {l : Launch} {K : KT} {own : String} {cc : ByteArray} {nL : Nat} {R : Room} {D : va_G} {tys : List (ClassId × FieldType)} {k n : Nat} {ws ws' : va_W} {lv : List (Nat × Value)} {pc : Nat} {st : List Value} (C : YC l K own cc nL R D tys) (is : List Nat) (h : is.map (fun i => ws[i]?) = ws'.map some) (hn : va_nd is = true) (g : K k n ws' lv pc st) : K k n ws lv pc st := by
  obtain ⟨p, e, s, m, args, below, meth, c, A, Q, rfl, -⟩ := C
  intro H locs ls hP hD hS hl
  exact g H locs ls (zCut.P h hP) (hD.sub is hn h) hS hl
/-- room is only ever too much -/
theorem y_widen {l : Launch} {K : KT} {own : String} {cc : ByteArray} {nL : Nat} {R : Room} {D : va_G} {tys : List (ClassId × FieldType)} {k n k2 n2 : Nat} {ws : va_W} {lv : List (Nat × Value)} {pc : Nat} {st : List Value} (C : YC l K own cc nL R D tys) (h1 : k ≤ k2) (h2 : n ≤ n2) (g : K k2 n2 ws lv pc st) : K k n ws lv pc st := by
  obtain ⟨p, e, s, m, args, below, meth, c, A, Q, rfl, -⟩ := C
  intro H locs ls hP hD hS hl
  exact W.widen h1 h2 (g H locs ls hP hD hS hl)
/-! ===== truth as a number, counts ===== -/
noncomputable def bI (P : Prop) : Int := @ite Int P (Classical.propDecidable P) 1 0
theorem bI_t {P : Prop} (h : P) : bI P = 1 := by simp [bI, h]
theorem bI_f {P : Prop} (h : ¬ P) : bI P = 0 := by simp [bI, h]
theorem bI_01 (P : Prop) : bI P = 0 ∨ bI P = 1 := by
  by_cases h : P
  · exact Or.inr (bI_t h)
  · exact Or.inl (bI_f h)
theorem bI_iff {P Q : Prop} (h : P ↔ Q) : bI P = bI Q := by rw [propext h]
theorem bI_1 {P : Prop} (h : ¬ bI P = 0) : P := Classical.byContradiction fun q => h (bI_f q)
theorem bI_0 {P : Prop} (h : bI P = 0) : ¬ P := fun q => by rw [bI_t q] at h; omega
theorem bI_R (P : Prop) : zR (bI P) := by
  rcases bI_01 P with h | h <;> rw [h] <;> constructor <;> omega
/-- how many c from 0 on, below n, keep to P -/
noncomputable def cnt (P : Int → Prop) : Nat → Int
  | 0 => 0
  | n + 1 => cnt P n + bI (P (n : Int))
noncomputable def zcnt (P : Int → Prop) (c : Int) : Int := cnt P c.toNat
theorem zcnt_0 (P : Int → Prop) : zcnt P 0 = 0 := rfl
theorem zcnt_s (P : Int → Prop) {c : Int} (h : 0 ≤ c) : zcnt P (c + 1) = zcnt P c + bI (P c) := by
  obtain ⟨n, rfl⟩ := Int.eq_ofNat_of_zero_le h
  show cnt P (n + 1) = _
  rfl
theorem zcnt_r (P : Int → Prop) {c : Int} (h : 0 ≤ c) : 0 ≤ zcnt P c ∧ zcnt P c ≤ c := by
  obtain ⟨n, rfl⟩ := Int.eq_ofNat_of_zero_le h
  show 0 ≤ cnt P n ∧ cnt P n ≤ n
  induction n with
  | zero => exact ⟨Int.le_refl _, Int.le_refl _⟩
  | succ n ih =>
    have := ih (by omega)
    have e : cnt P (n + 1) = cnt P n + bI (P (n : Int)) := rfl
    rcases bI_01 (P (n : Int)) with h | h <;> rw [e, h] <;> omega
theorem zcnt_t {P : Int → Prop} {c : Int} (h : 0 ≤ c) (hp : P c) : zcnt P (c + 1) = zcnt P c + 1 := by rw [zcnt_s P h, bI_t hp]
theorem zcnt_f {P : Int → Prop} {c : Int} (h : 0 ≤ c) (hp : ¬ P c) : zcnt P (c + 1) = zcnt P c := by rw [zcnt_s P h, bI_f hp]; omega
theorem cnt_congr {P Q : Int → Prop} (n : Nat) (h : ∀ c : Int, 0 ≤ c → c < n → (P c ↔ Q c)) : cnt P n = cnt Q n := by
  induction n with
  | zero => rfl
  | succ n ih =>
    show cnt P n + bI (P n) = cnt Q n + bI (Q n)
    rw [ih (fun c h0 h1 => h c h0 (by omega)), bI_iff (h n (by omega) (by omega))]
theorem zcnt_congr {P Q : Int → Prop} {c : Int} (h : ∀ k : Int, 0 ≤ k → k < c → (P k ↔ Q k)) : zcnt P c = zcnt Q c :=
  cnt_congr _ (fun k h0 h1 => h k h0 (by omega))
def LKiN (own : String) (idx : Nat) (y : MethodName) (yc : ByteArray) (ynL : Nat) (ret : Option FieldType) (yn : Nat) : Prop := ((own, idx, y) ∈ zNest ∧ Cond.instanceMethod y ∈ wsL_law ∧ Cond.initialized y.cls ∈ wsL_law ∧ Cond.code y yc ynL ret ∈ wsL_law) ∧ y.name = "<init>" ∧ y.cls ≠ "java/lang/invoke/MethodHandle" ∧ y.cls ≠ "java/lang/invoke/VarHandle" ∧ (parseMethodDescriptor y.desc).map (fun d => d.parameters.length) = some yn
theorem y_mcalli {l : Launch} {K : KT} {own : String} {cc : ByteArray} {nL : Nat} {R : Room} {D : va_G} {tys : List (ClassId × FieldType)} {k n : Nat} {ws : va_W} {lv : List (Nat × Value)} {pc : Nat} {st stk : List Value} {idx : Nat} {y : MethodName} {yc : ByteArray} {ynL yn : Nat} {yret : FieldType} {rm : Room} {wc : va_W} {post : Int → va_W → Prop} {As : List Value} {b ci jb : Nat} {fs : List Value} {T : u_T} {N : Nat} (C : YC l K own cc nL R D tys) (hM : MI l y yc ynL yret rm D tys (.ref b :: As) wc post) (LK : LKv own idx y yc ynL (some yret) yn) (isC isR : List Nat) (hcut : zCut ws wc (zPick ws isR) isC isR) (hb0 : wc[jb]? = some (b, .inr (ci, fs))) (hcl : vwCl[ci]? = some (y.cls, T, N)) (hd : decode cc pc = .ok (.invokevirtual idx, 3)) (hstk : stk = As.reverse ++ .ref b :: st) (hn : As.length = yn) (hR : rm.frames + 1 ≤ R.frames ∧ 8 + (ynL + 11) + rm.locals ≤ R.locals ∧ rm.cells = 0 ∧ rm.slots = 0 ∧ k ≤ R.cells ∧ n ≤ R.slots ∧ (st.map fun v => v.category).sum ≤ 8)
    (g : ∀ (r : Int) (w1 : va_W), post r w1 → ∃ isN ws2, zBack (zPick ws isR) w1 ws2 isN ∧ K k n ws2 lv (pc + 3) (.int (zI r) :: st)) : K k n ws lv pc stk := y_calli C hM LK isC isR hcut hb0 hcl hd hstk hn hR g
theorem y_mcallis {l : Launch} {K : KT} {own : String} {cc : ByteArray} {nL : Nat} {R : Room} {D : va_G} {tys : List (ClassId × FieldType)} {k n : Nat} {ws : va_W} {lv : List (Nat × Value)} {pc : Nat} {st stk : List Value} {idx : Nat} {y : MethodName} {yc : ByteArray} {ynL yn : Nat} {yret : FieldType} {rm : Room} {wc : va_W} {post : Int → va_W → Prop} {As : List Value}  (C : YC l K own cc nL R D tys) (hM : MI l y yc ynL yret rm D tys As wc post) (LK : LKs own idx y yc ynL (some yret) yn) (isC isR : List Nat) (hcut : zCut ws wc (zPick ws isR) isC isR) (hd : decode cc pc = .ok (.invokestatic idx, 3)) (hstk : stk = As.reverse ++ st) (hn : As.length = yn) (hR : rm.frames + 1 ≤ R.frames ∧ 8 + (ynL + 11) + rm.locals ≤ R.locals ∧ rm.cells = 0 ∧ rm.slots = 0 ∧ k ≤ R.cells ∧ n ≤ R.slots ∧ (st.map fun v => v.category).sum ≤ 8)
    (g : ∀ (r : Int) (w1 : va_W), post r w1 → ∃ isN ws2, zBack (zPick ws isR) w1 ws2 isN ∧ K k n ws2 lv (pc + 3) (.int (zI r) :: st)) : K k n ws lv pc stk := y_callis C hM LK isC isR hcut hd hstk hn hR g
theorem y_mcallv {l : Launch} {K : KT} {own : String} {cc : ByteArray} {nL : Nat} {R : Room} {D : va_G} {tys : List (ClassId × FieldType)} {k n : Nat} {ws : va_W} {lv : List (Nat × Value)} {pc : Nat} {st stk : List Value} {idx : Nat} {y : MethodName} {yc : ByteArray} {ynL yn : Nat}  {rm : Room} {wc : va_W} {post : va_W → Prop} {As : List Value} {b ci jb : Nat} {fs : List Value} {T : u_T} {N : Nat} (C : YC l K own cc nL R D tys) (hM : MV l y yc ynL rm D tys (.ref b :: As) wc post) (LK : LKv own idx y yc ynL none yn) (isC isR : List Nat) (hcut : zCut ws wc (zPick ws isR) isC isR) (hb0 : wc[jb]? = some (b, .inr (ci, fs))) (hcl : vwCl[ci]? = some (y.cls, T, N)) (hd : decode cc pc = .ok (.invokevirtual idx, 3)) (hstk : stk = As.reverse ++ .ref b :: st) (hn : As.length = yn) (hR : rm.frames + 1 ≤ R.frames ∧ 8 + (ynL + 11) + rm.locals ≤ R.locals ∧ rm.cells = 0 ∧ rm.slots = 0 ∧ k ≤ R.cells ∧ n ≤ R.slots ∧ (st.map fun v => v.category).sum ≤ 8)
    (g : ∀ (w1 : va_W), post w1 → ∃ isN ws2, zBack (zPick ws isR) w1 ws2 isN ∧ K k n ws2 lv (pc + 3) st) : K k n ws lv pc stk := y_callv C hM LK isC isR hcut hb0 hcl hd hstk hn hR g
theorem y_mcallvs {l : Launch} {K : KT} {own : String} {cc : ByteArray} {nL : Nat} {R : Room} {D : va_G} {tys : List (ClassId × FieldType)} {k n : Nat} {ws : va_W} {lv : List (Nat × Value)} {pc : Nat} {st stk : List Value} {idx : Nat} {y : MethodName} {yc : ByteArray} {ynL yn : Nat}  {rm : Room} {wc : va_W} {post : va_W → Prop} {As : List Value}  (C : YC l K own cc nL R D tys) (hM : MV l y yc ynL rm D tys As wc post) (LK : LKs own idx y yc ynL none yn) (isC isR : List Nat) (hcut : zCut ws wc (zPick ws isR) isC isR) (hd : decode cc pc = .ok (.invokestatic idx, 3)) (hstk : stk = As.reverse ++ st) (hn : As.length = yn) (hR : rm.frames + 1 ≤ R.frames ∧ 8 + (ynL + 11) + rm.locals ≤ R.locals ∧ rm.cells = 0 ∧ rm.slots = 0 ∧ k ≤ R.cells ∧ n ≤ R.slots ∧ (st.map fun v => v.category).sum ≤ 8)
    (g : ∀ (w1 : va_W), post w1 → ∃ isN ws2, zBack (zPick ws isR) w1 ws2 isN ∧ K k n ws2 lv (pc + 3) st) : K k n ws lv pc stk := y_callvs C hM LK isC isR hcut hd hstk hn hR g
theorem y_mcallr {l : Launch} {K : KT} {own : String} {cc : ByteArray} {nL : Nat} {R : Room} {D : va_G} {tys : List (ClassId × FieldType)} {k n : Nat} {ws : va_W} {lv : List (Nat × Value)} {pc : Nat} {st stk : List Value} {idx : Nat} {y : MethodName} {yc : ByteArray} {ynL yn : Nat} {yret : FieldType} {rm : Room} {wc : va_W} {post : Nat → va_W → Prop} {As : List Value} {b ci jb : Nat} {fs : List Value} {T : u_T} {N : Nat} (C : YC l K own cc nL R D tys) (hM : MR l y yc ynL yret rm D tys (.ref b :: As) wc post) (LK : LKv own idx y yc ynL (some yret) yn) (isC isR : List Nat) (hcut : zCut ws wc (zPick ws isR) isC isR) (hb0 : wc[jb]? = some (b, .inr (ci, fs))) (hcl : vwCl[ci]? = some (y.cls, T, N)) (hd : decode cc pc = .ok (.invokevirtual idx, 3)) (hstk : stk = As.reverse ++ .ref b :: st) (hn : As.length = yn) (hR : rm.frames + 1 ≤ R.frames ∧ 8 + (ynL + 11) + rm.locals ≤ R.locals ∧ rm.cells = 0 ∧ rm.slots = 0 ∧ k ≤ R.cells ∧ n ≤ R.slots ∧ (st.map fun v => v.category).sum ≤ 8)
    (g : ∀ (r : Nat) (w1 : va_W), post r w1 → ∃ isN ws2, zBack (zPick ws isR) w1 ws2 isN ∧ K k n ws2 lv (pc + 3) (.ref r :: st)) : K k n ws lv pc stk := y_callr C hM LK isC isR hcut hb0 hcl hd hstk hn hR g
theorem zcnt_step {P : Int → Prop} {n n' c : Int} (h : 0 ≤ c) (hn : n = zcnt P c) (h2 : (P c ∧ n' = n + 1) ∨ (¬ P c ∧ n' = n)) : n' = zcnt P (c + 1) := by
  rcases h2 with ⟨a, b⟩ | ⟨a, b⟩
  · rw [zcnt_t h a, b, hn]
  · rw [zcnt_f h a, b, hn]
theorem y_top {K : KT} {k n : Nat} {ws : va_W} {lv : List (Nat × Value)} {pc : Nat} {st : List Value} {a b : Int} (h : a = b) (g : K k n ws lv pc (.int (zI b) :: st)) : K k n ws lv pc (.int (zI a) :: st) := Eq.mpr (congrArg (fun x => K k n ws lv pc (.int (zI x) :: st)) h) g
theorem zbn {x : Int} (h : x = 0 ∨ x = 1) : narrow .boolean (.int (zI x)) = .int (zI x) := by
  rcases h with rfl | rfl <;> decide +kernel
theorem zbf {x : Int} (h : x = 0 ∨ x = 1) : fits .boolean (.int (zI x)) = true := by
  rcases h with rfl | rfl <;> decide +kernel
end
