/-! ===== BEGIN words of one list among another's, by their places ===== -/
theorem goodIn_r {big : List Cond} (ws : List Cond) (ps : List Nat) (hp : ws = ps.filterMap (fun i => big[i]?)) (h : ws.all goodWord = true) : GoodIn big ws := by
  intro w hw
  have h1 := List.all_eq_true.mp h w hw
  rw [hp] at hw
  obtain ⟨i, -, hi⟩ := List.mem_filterMap.mp hw
  have hm : w ∈ big := by first | exact List.mem_of_getElem? hi | exact List.getElem?_mem hi
  exact ⟨hm, good_of_word h1⟩
theorem goodIn_app {big a b : List Cond} (ha : GoodIn big a) (hb : GoodIn big b) : GoodIn big (a ++ b) := fun w h => (List.mem_append.mp h).elim (ha w) (hb w)
theorem goodIn_ca {big a b : List Cond} {c : Cond} (ha : GoodIn big (c :: a)) (hb : GoodIn big b) : GoodIn big (c :: (a ++ b)) := fun w h => (List.mem_cons.mp h).elim (fun e => ha w (List.mem_cons.mpr (Or.inl e))) (fun h => (List.mem_append.mp h).elim (fun h => ha w (List.mem_cons.mpr (Or.inr h))) (hb w))
theorem goodIn_sub {big ws : List Cond} (hm : ∀ w ∈ ws, w ∈ big) (h : ws.all goodWord = true) : GoodIn big ws := fun w hw => ⟨hm w hw, good_of_word (List.all_eq_true.mp h w hw)⟩
/-! ===== END ===== -/

/-! ===== BEGIN printed: names, fields, word lists, decode rows ===== -/
def RX0 : String := "StripDepths$History"
def TX0 : u_T := fun k => match k with
  | 0 => ("StripDepths$History", "kept", "[LStripDepths$Sheet;", true)
  | _ => ("StripDepths$History", "states", "I", false)
def tyX0 : Nat → FieldType := fun k => match k with
  | 0 => .array (.object "StripDepths$Sheet")
  | _ => .int
abbrev wsX00 : List Cond := u_ws RX0 TX0 2
theorem nmX0 : ∀ a, a < 2 → ∀ b, b < 2 → a ≠ b → (TX0 a).2.1 ≠ (TX0 b).2.1 := by decide +kernel
theorem tyX0_ok : ∀ k, k < 2 → parseFieldDescriptor (TX0 k).2.2.1 = some (tyX0 k) := by decide +kernel
abbrev cX0_init : ByteArray := prog_2_method_1_code
def yX0_init : MethodName := ⟨RX0, "<init>", "()V"⟩
abbrev cX0_record : ByteArray := prog_2_method_2_code
def yX0_record : MethodName := ⟨RX0, "record", "(LStripDepths$Sheet;)LStripDepths$Sheet;"⟩
abbrev cX0_dropOldest : ByteArray := prog_2_method_3_code
def yX0_dropOldest : MethodName := ⟨RX0, "dropOldest", "()V"⟩
abbrev cX0_takeBack : ByteArray := prog_2_method_4_code
def yX0_takeBack : MethodName := ⟨RX0, "takeBack", "(LStripDepths$Sheet;)Z"⟩
def RX1 : String := "StripDepths$Look"
def TX1 : u_T := fun k => match k with
  | 0 => ("StripDepths$Look", "planes", "[I", true)
  | 1 => ("StripDepths$Look", "dots", "[I", true)
  | 2 => ("StripDepths$Look", "remembered", "[I", true)
  | 3 => ("StripDepths$Look", "seen", "[I", true)
  | 4 => ("StripDepths$Look", "binders", "[I", true)
  | 5 => ("StripDepths$Look", "chains", "[I", true)
  | 6 => ("StripDepths$Look", "period", "I", false)
  | 7 => ("StripDepths$Look", "window", "I", false)
  | _ => ("StripDepths$Look", "crossed", "Z", false)
def tyX1 : Nat → FieldType := fun k => match k with
  | 0 => .array .int
  | 1 => .array .int
  | 2 => .array .int
  | 3 => .array .int
  | 4 => .array .int
  | 5 => .array .int
  | 6 => .int
  | 7 => .int
  | _ => .boolean
abbrev wsX10 : List Cond := u_ws RX1 TX1 9
theorem nmX1 : ∀ a, a < 9 → ∀ b, b < 9 → a ≠ b → (TX1 a).2.1 ≠ (TX1 b).2.1 := by decide +kernel
theorem tyX1_ok : ∀ k, k < 9 → parseFieldDescriptor (TX1 k).2.2.1 = some (tyX1 k) := by decide +kernel
abbrev cX1_init : ByteArray := prog_3_method_1_code
def yX1_init : MethodName := ⟨RX1, "<init>", "()V"⟩
abbrev cX1_takeRow : ByteArray := prog_3_method_2_code
def yX1_takeRow : MethodName := ⟨RX1, "takeRow", "(LStripDepths$Sheet;I)V"⟩
abbrev cX1_putRow : ByteArray := prog_3_method_3_code
def yX1_putRow : MethodName := ⟨RX1, "putRow", "(LStripDepths$Sheet;I)V"⟩
abbrev cX1_study : ByteArray := prog_3_method_4_code
def yX1_study : MethodName := ⟨RX1, "study", "(LStripDepths$Sheet;I)V"⟩
abbrev cX1_turnRound : ByteArray := prog_3_method_5_code
def yX1_turnRound : MethodName := ⟨RX1, "turnRound", "()V"⟩
abbrev cX1_reverse : ByteArray := prog_3_method_6_code
def yX1_reverse : MethodName := ⟨RX1, "reverse", "([I)V"⟩
abbrev cX1_forgetSmudges : ByteArray := prog_3_method_7_code
def yX1_forgetSmudges : MethodName := ⟨RX1, "forgetSmudges", "()V"⟩
abbrev cX1_printFrom : ByteArray := prog_3_method_8_code
def yX1_printFrom : MethodName := ⟨RX1, "printFrom", "(LStripDepths$Sheet;)I"⟩
abbrev cX1_boundTo : ByteArray := prog_3_method_9_code
def yX1_boundTo : MethodName := ⟨RX1, "boundTo", "(I)I"⟩
abbrev cX1_bind : ByteArray := prog_3_method_10_code
def yX1_bind : MethodName := ⟨RX1, "bind", "()V"⟩
abbrev cX1_watch : ByteArray := prog_3_method_11_code
def yX1_watch : MethodName := ⟨RX1, "watch", "()V"⟩
abbrev cX1_nearestFitting : ByteArray := prog_3_method_12_code
def yX1_nearestFitting : MethodName := ⟨RX1, "nearestFitting", "(II)I"⟩
abbrev cX1_isFitting : ByteArray := prog_3_method_13_code
def yX1_isFitting : MethodName := ⟨RX1, "isFitting", "(II)Z"⟩
abbrev cX1_placesOfKind : ByteArray := prog_3_method_14_code
def yX1_placesOfKind : MethodName := ⟨RX1, "placesOfKind", "(I)I"⟩
abbrev cX1_isOfKind : ByteArray := prog_3_method_15_code
def yX1_isOfKind : MethodName := ⟨RX1, "isOfKind", "(II)Z"⟩
abbrev cX1_isTorn : ByteArray := prog_3_method_16_code
def yX1_isTorn : MethodName := ⟨RX1, "isTorn", "(I)Z"⟩
abbrev cX1_placesOfChain : ByteArray := prog_3_method_17_code
def yX1_placesOfChain : MethodName := ⟨RX1, "placesOfChain", "(I)I"⟩
abbrev cX1_longestChain : ByteArray := prog_3_method_18_code
def yX1_longestChain : MethodName := ⟨RX1, "longestChain", "()I"⟩
abbrev cX1_differentDots : ByteArray := prog_3_method_19_code
def yX1_differentDots : MethodName := ⟨RX1, "differentDots", "()I"⟩
abbrev cX1_changesOfPlane : ByteArray := prog_3_method_20_code
def yX1_changesOfPlane : MethodName := ⟨RX1, "changesOfPlane", "()I"⟩
abbrev cX1_echoOf : ByteArray := prog_3_method_21_code
def yX1_echoOf : MethodName := ⟨RX1, "echoOf", "(I)I"⟩
abbrev cX1_numberOfPlane : ByteArray := prog_3_method_22_code
def yX1_numberOfPlane : MethodName := ⟨RX1, "numberOfPlane", "(II)I"⟩
abbrev cX1_placesSeenAs : ByteArray := prog_3_method_23_code
def yX1_placesSeenAs : MethodName := ⟨RX1, "placesSeenAs", "(LStripDepths$Look;)I"⟩
abbrev cX1_farthestSeenOtherwise : ByteArray := prog_3_method_24_code
def yX1_farthestSeenOtherwise : MethodName := ⟨RX1, "farthestSeenOtherwise", "(LStripDepths$Look;I)I"⟩
def RX2 : String := "StripDepths$Pad"
def TX2 : u_T := fun k => match k with
  | 0 => ("StripDepths$Pad", "codes", "[I", true)
  | 1 => ("StripDepths$Pad", "reader", "LStripDepths$ShapeReader;", true)
  | _ => ("StripDepths$Pad", "length", "I", false)
def tyX2 : Nat → FieldType := fun k => match k with
  | 0 => .array .int
  | 1 => .object "StripDepths$ShapeReader"
  | _ => .int
abbrev wsX20 : List Cond := u_ws RX2 TX2 3
theorem nmX2 : ∀ a, a < 3 → ∀ b, b < 3 → a ≠ b → (TX2 a).2.1 ≠ (TX2 b).2.1 := by decide +kernel
theorem tyX2_ok : ∀ k, k < 3 → parseFieldDescriptor (TX2 k).2.2.1 = some (tyX2 k) := by decide +kernel
abbrev cX2_init : ByteArray := prog_4_method_1_code
def yX2_init : MethodName := ⟨RX2, "<init>", "()V"⟩
abbrev cX2_add : ByteArray := prog_4_method_2_code
def yX2_add : MethodName := ⟨RX2, "add", "(I)Z"⟩
abbrev cX2_faultAsStrip : ByteArray := prog_4_method_3_code
def yX2_faultAsStrip : MethodName := ⟨RX2, "faultAsStrip", "()I"⟩
abbrev cX2_putStrip : ByteArray := prog_4_method_4_code
def yX2_putStrip : MethodName := ⟨RX2, "putStrip", "(LStripDepths$Sheet;)V"⟩
abbrev cX2_faultAsShapes : ByteArray := prog_4_method_5_code
def yX2_faultAsShapes : MethodName := ⟨RX2, "faultAsShapes", "()I"⟩
abbrev cX2_layShapes : ByteArray := prog_4_method_6_code
def yX2_layShapes : MethodName := ⟨RX2, "layShapes", "(LStripDepths$Sheet;)V"⟩
def RX3 : String := "StripDepths$ShapeReader"
def TX3 : u_T := fun k => match k with
  | 0 => ("StripDepths$ShapeReader", "top", "I", false)
  | 1 => ("StripDepths$ShapeReader", "bottom", "I", false)
  | 2 => ("StripDepths$ShapeReader", "left", "I", false)
  | 3 => ("StripDepths$ShapeReader", "right", "I", false)
  | 4 => ("StripDepths$ShapeReader", "plane", "I", false)
  | _ => ("StripDepths$ShapeReader", "stage", "I", false)
def tyX3 : Nat → FieldType := fun k => match k with
  | 0 => .int
  | 1 => .int
  | 2 => .int
  | 3 => .int
  | 4 => .int
  | _ => .int
abbrev wsX30 : List Cond := u_ws RX3 TX3 6
theorem nmX3 : ∀ a, a < 6 → ∀ b, b < 6 → a ≠ b → (TX3 a).2.1 ≠ (TX3 b).2.1 := by decide +kernel
theorem tyX3_ok : ∀ k, k < 6 → parseFieldDescriptor (TX3 k).2.2.1 = some (tyX3 k) := by decide +kernel
abbrev cX3_init : ByteArray := prog_5_method_1_code
def yX3_init : MethodName := ⟨RX3, "<init>", "()V"⟩
abbrev cX3_begin : ByteArray := prog_5_method_2_code
def yX3_begin : MethodName := ⟨RX3, "begin", "()V"⟩
abbrev cX3_isComplete : ByteArray := prog_5_method_3_code
def yX3_isComplete : MethodName := ⟨RX3, "isComplete", "()Z"⟩
abbrev cX3_takes : ByteArray := prog_5_method_4_code
def yX3_takes : MethodName := ⟨RX3, "takes", "(I)Z"⟩
abbrev cX3_goesOn : ByteArray := prog_5_method_5_code
def yX3_goesOn : MethodName := ⟨RX3, "goesOn", "(I)Z"⟩
abbrev cX3_takesTop : ByteArray := prog_5_method_6_code
def yX3_takesTop : MethodName := ⟨RX3, "takesTop", "(I)Z"⟩
abbrev cX3_takesBottom : ByteArray := prog_5_method_7_code
def yX3_takesBottom : MethodName := ⟨RX3, "takesBottom", "(I)Z"⟩
abbrev cX3_takesLeft : ByteArray := prog_5_method_8_code
def yX3_takesLeft : MethodName := ⟨RX3, "takesLeft", "(I)Z"⟩
abbrev cX3_takesBehindLeft : ByteArray := prog_5_method_9_code
def yX3_takesBehindLeft : MethodName := ⟨RX3, "takesBehindLeft", "(II)Z"⟩
abbrev cX3_takesFirstOfRight : ByteArray := prog_5_method_10_code
def yX3_takesFirstOfRight : MethodName := ⟨RX3, "takesFirstOfRight", "(I)Z"⟩
abbrev cX3_greatestFrom : ByteArray := prog_5_method_11_code
def yX3_greatestFrom : MethodName := ⟨RX3, "greatestFrom", "(I)I"⟩
abbrev cX3_takesBehindRight : ByteArray := prog_5_method_12_code
def yX3_takesBehindRight : MethodName := ⟨RX3, "takesBehindRight", "(II)Z"⟩
abbrev cX3_takesPlane : ByteArray := prog_5_method_13_code
def yX3_takesPlane : MethodName := ⟨RX3, "takesPlane", "(I)Z"⟩
def RX4 : String := "StripDepths$Sheet"
def TX4 : u_T := fun k => match k with
  | 0 => ("StripDepths$Sheet", "planes", "[I", true)
  | 1 => ("StripDepths$Sheet", "dots", "[I", true)
  | 2 => ("StripDepths$Sheet", "remembered", "[I", true)
  | 3 => ("StripDepths$Sheet", "settings", "[I", true)
  | 4 => ("StripDepths$Sheet", "strip", "[I", true)
  | 5 => ("StripDepths$Sheet", "stripLength", "I", false)
  | _ => ("StripDepths$Sheet", "lot", "I", false)
def tyX4 : Nat → FieldType := fun k => match k with
  | 0 => .array .int
  | 1 => .array .int
  | 2 => .array .int
  | 3 => .array .int
  | 4 => .array .int
  | 5 => .int
  | _ => .int
abbrev wsX40 : List Cond := u_ws RX4 TX4 7
theorem nmX4 : ∀ a, a < 7 → ∀ b, b < 7 → a ≠ b → (TX4 a).2.1 ≠ (TX4 b).2.1 := by decide +kernel
theorem tyX4_ok : ∀ k, k < 7 → parseFieldDescriptor (TX4 k).2.2.1 = some (tyX4 k) := by decide +kernel
abbrev cX4_init : ByteArray := prog_6_method_1_code
def yX4_init : MethodName := ⟨RX4, "<init>", "()V"⟩
abbrev cX4_copyFrom : ByteArray := prog_6_method_2_code
def yX4_copyFrom : MethodName := ⟨RX4, "copyFrom", "(LStripDepths$Sheet;)V"⟩
abbrev cX4_layPlane : ByteArray := prog_6_method_3_code
def yX4_layPlane : MethodName := ⟨RX4, "layPlane", "(IIIII)V"⟩
abbrev cX4_otherPlanesThan : ByteArray := prog_6_method_4_code
def yX4_otherPlanesThan : MethodName := ⟨RX4, "otherPlanesThan", "(LStripDepths$Sheet;)I"⟩
abbrev cX4_otherDotsThan : ByteArray := prog_6_method_5_code
def yX4_otherDotsThan : MethodName := ⟨RX4, "otherDotsThan", "(LStripDepths$Sheet;)I"⟩
abbrev cX4_differences : ByteArray := prog_6_method_6_code
def yX4_differences : MethodName := ⟨RX4, "differences", "([I[I)I"⟩
abbrev cX4_planesAboveZero : ByteArray := prog_6_method_7_code
def yX4_planesAboveZero : MethodName := ⟨RX4, "planesAboveZero", "()I"⟩
def RX5 : String := "StripDepths"
def TX5 : u_T := fun k => match k with
  | 0 => ("StripDepths", "now", "LStripDepths$Sheet;", true)
  | 1 => ("StripDepths", "snapshot", "LStripDepths$Sheet;", true)
  | 2 => ("StripDepths", "hasSnapshot", "Z", false)
  | 3 => ("StripDepths", "history", "LStripDepths$History;", true)
  | 4 => ("StripDepths", "pad", "LStripDepths$Pad;", true)
  | 5 => ("StripDepths", "look", "LStripDepths$Look;", true)
  | 6 => ("StripDepths", "otherLook", "LStripDepths$Look;", true)
  | 7 => ("StripDepths", "views", "[I", true)
  | _ => ("StripDepths", "ranked", "[I", true)
def tyX5 : Nat → FieldType := fun k => match k with
  | 0 => .object "StripDepths$Sheet"
  | 1 => .object "StripDepths$Sheet"
  | 2 => .boolean
  | 3 => .object "StripDepths$History"
  | 4 => .object "StripDepths$Pad"
  | 5 => .object "StripDepths$Look"
  | 6 => .object "StripDepths$Look"
  | 7 => .array .int
  | _ => .array .int
abbrev wsX50 : List Cond := u_ws RX5 TX5 9
theorem nmX5 : ∀ a, a < 9 → ∀ b, b < 9 → a ≠ b → (TX5 a).2.1 ≠ (TX5 b).2.1 := by decide +kernel
theorem tyX5_ok : ∀ k, k < 9 → parseFieldDescriptor (TX5 k).2.2.1 = some (tyX5 k) := by decide +kernel
abbrev cX5_init : ByteArray := prog_1_method_1_code
def yX5_init : MethodName := ⟨RX5, "<init>", "()V"⟩
abbrev cX5_lay : ByteArray := prog_1_method_2_code
def yX5_lay : MethodName := ⟨RX5, "lay", "(IIIII)I"⟩
abbrev cX5_shift : ByteArray := prog_1_method_3_code
def yX5_shift : MethodName := ⟨RX5, "shift", "(II)I"⟩
abbrev cX5_swap : ByteArray := prog_1_method_4_code
def yX5_swap : MethodName := ⟨RX5, "swap", "(II)I"⟩
abbrev cX5_turn : ByteArray := prog_1_method_5_code
def yX5_turn : MethodName := ⟨RX5, "turn", "(I)I"⟩
abbrev cX5_print : ByteArray := prog_1_method_6_code
def yX5_print : MethodName := ⟨RX5, "print", "(I)I"⟩
abbrev cX5_printAll : ByteArray := prog_1_method_7_code
def yX5_printAll : MethodName := ⟨RX5, "printAll", "()I"⟩
abbrev cX5_paint : ByteArray := prog_1_method_8_code
def yX5_paint : MethodName := ⟨RX5, "paint", "(III)I"⟩
abbrev cX5_wipe : ByteArray := prog_1_method_9_code
def yX5_wipe : MethodName := ⟨RX5, "wipe", "(I)I"⟩
abbrev cX5_set : ByteArray := prog_1_method_10_code
def yX5_set : MethodName := ⟨RX5, "set", "(II)I"⟩
abbrev cX5_lot : ByteArray := prog_1_method_11_code
def yX5_lot : MethodName := ⟨RX5, "lot", "(I)I"⟩
abbrev cX5_append : ByteArray := prog_1_method_12_code
def yX5_append : MethodName := ⟨RX5, "append", "(I)I"⟩
abbrev cX5_clear : ByteArray := prog_1_method_13_code
def yX5_clear : MethodName := ⟨RX5, "clear", "()I"⟩
abbrev cX5_fault : ByteArray := prog_1_method_14_code
def yX5_fault : MethodName := ⟨RX5, "fault", "(I)I"⟩
abbrev cX5_draw : ByteArray := prog_1_method_15_code
def yX5_draw : MethodName := ⟨RX5, "draw", "()I"⟩
abbrev cX5_wind : ByteArray := prog_1_method_16_code
def yX5_wind : MethodName := ⟨RX5, "wind", "()I"⟩
abbrev cX5_unwind : ByteArray := prog_1_method_17_code
def yX5_unwind : MethodName := ⟨RX5, "unwind", "()I"⟩
abbrev cX5_at : ByteArray := prog_1_method_18_code
def yX5_at : MethodName := ⟨RX5, "at", "(III)I"⟩
abbrev cX5_fits : ByteArray := prog_1_method_19_code
def yX5_fits : MethodName := ⟨RX5, "fits", "(III)I"⟩
abbrev cX5_row : ByteArray := prog_1_method_20_code
def yX5_row : MethodName := ⟨RX5, "row", "(II)I"⟩
abbrev cX5_echo : ByteArray := prog_1_method_21_code
def yX5_echo : MethodName := ⟨RX5, "echo", "(II)I"⟩
abbrev cX5_echoAt : ByteArray := prog_1_method_22_code
def yX5_echoAt : MethodName := ⟨RX5, "echoAt", "(II)I"⟩
abbrev cX5_faulty : ByteArray := prog_1_method_23_code
def yX5_faulty : MethodName := ⟨RX5, "faulty", "(I)I"⟩
abbrev cX5_plane : ByteArray := prog_1_method_24_code
def yX5_plane : MethodName := ⟨RX5, "plane", "(II)I"⟩
abbrev cX5_pictures : ByteArray := prog_1_method_25_code
def yX5_pictures : MethodName := ⟨RX5, "pictures", "()I"⟩
abbrev cX5_count : ByteArray := prog_1_method_26_code
def yX5_count : MethodName := ⟨RX5, "count", "(I)I"⟩
abbrev cX5_away : ByteArray := prog_1_method_27_code
def yX5_away : MethodName := ⟨RX5, "away", "(I)F"⟩
abbrev cX5_clearness : ByteArray := prog_1_method_28_code
def yX5_clearness : MethodName := ⟨RX5, "clearness", "(I)D"⟩
abbrev cX5_ifPainted : ByteArray := prog_1_method_29_code
def yX5_ifPainted : MethodName := ⟨RX5, "ifPainted", "(IIII)I"⟩
abbrev cX5_ifPrinted : ByteArray := prog_1_method_30_code
def yX5_ifPrinted : MethodName := ⟨RX5, "ifPrinted", "(II)I"⟩
abbrev cX5_shortest : ByteArray := prog_1_method_31_code
def yX5_shortest : MethodName := ⟨RX5, "shortest", "(I)I"⟩
abbrev cX5_bestWindow : ByteArray := prog_1_method_32_code
def yX5_bestWindow : MethodName := ⟨RX5, "bestWindow", "(I)I"⟩
abbrev cX5_alike : ByteArray := prog_1_method_33_code
def yX5_alike : MethodName := ⟨RX5, "alike", "(II)I"⟩
abbrev cX5_undo : ByteArray := prog_1_method_34_code
def yX5_undo : MethodName := ⟨RX5, "undo", "()I"⟩
abbrev cX5_save : ByteArray := prog_1_method_35_code
def yX5_save : MethodName := ⟨RX5, "save", "()I"⟩
abbrev cX5_restore : ByteArray := prog_1_method_36_code
def yX5_restore : MethodName := ⟨RX5, "restore", "()I"⟩
abbrev cX5_isRow : ByteArray := prog_1_method_37_code
def yX5_isRow : MethodName := ⟨RX5, "isRow", "(I)Z"⟩
abbrev cX5_isColumn : ByteArray := prog_1_method_38_code
def yX5_isColumn : MethodName := ⟨RX5, "isColumn", "(I)Z"⟩
abbrev cX5_isPlane : ByteArray := prog_1_method_39_code
def yX5_isPlane : MethodName := ⟨RX5, "isPlane", "(I)Z"⟩
abbrev cX5_isDot : ByteArray := prog_1_method_40_code
def yX5_isDot : MethodName := ⟨RX5, "isDot", "(I)Z"⟩
abbrev cX5_placeOf : ByteArray := prog_1_method_41_code
def yX5_placeOf : MethodName := ⟨RX5, "placeOf", "(II)I"⟩
abbrev cX5_printRow : ByteArray := prog_1_method_42_code
def yX5_printRow : MethodName := ⟨RX5, "printRow", "(I)V"⟩
abbrev cX5_rightIfPrinted : ByteArray := prog_1_method_43_code
def yX5_rightIfPrinted : MethodName := ⟨RX5, "rightIfPrinted", "(II)I"⟩
abbrev cX5_rightPlaces : ByteArray := prog_1_method_44_code
def yX5_rightPlaces : MethodName := ⟨RX5, "rightPlaces", "(I)I"⟩
abbrev cX5_allPlacesOfKind : ByteArray := prog_1_method_45_code
def yX5_allPlacesOfKind : MethodName := ⟨RX5, "allPlacesOfKind", "(I)I"⟩
abbrev cX5_rankedAt : ByteArray := prog_1_method_46_code
def yX5_rankedAt : MethodName := ⟨RX5, "rankedAt", "(II)I"⟩
abbrev cX5_rankOf : ByteArray := prog_1_method_47_code
def yX5_rankOf : MethodName := ⟨RX5, "rankOf", "(II)I"⟩
abbrev cX5_isNewPicture : ByteArray := prog_1_method_48_code
def yX5_isNewPicture : MethodName := ⟨RX5, "isNewPicture", "(I)Z"⟩
abbrev cX5_isSameView : ByteArray := prog_1_method_49_code
def yX5_isSameView : MethodName := ⟨RX5, "isSameView", "(II)Z"⟩
def RX6 : String := "StripDepthsModel"
def TX6 : u_T := fun k => match k with
  | 0 => ("StripDepthsModel", "s", "[I", true)
  | 1 => ("StripDepthsModel", "aside", "[I", true)
  | 2 => ("StripDepthsModel", "past", "[I", true)
  | 3 => ("StripDepthsModel", "pasts", "I", false)
  | 4 => ("StripDepthsModel", "snapshot", "[I", true)
  | 5 => ("StripDepthsModel", "isKept", "Z", false)
  | 6 => ("StripDepthsModel", "pad", "[I", true)
  | 7 => ("StripDepthsModel", "length", "I", false)
  | 8 => ("StripDepthsModel", "seen", "[I", true)
  | 9 => ("StripDepthsModel", "other", "[I", true)
  | 10 => ("StripDepthsModel", "spot", "I", false)
  | 11 => ("StripDepthsModel", "isWrong", "Z", false)
  | 12 => ("StripDepthsModel", "top", "I", false)
  | 13 => ("StripDepthsModel", "bottom", "I", false)
  | 14 => ("StripDepthsModel", "left", "I", false)
  | 15 => ("StripDepthsModel", "right", "I", false)
  | _ => ("StripDepthsModel", "depth", "I", false)
def tyX6 : Nat → FieldType := fun k => match k with
  | 0 => .array .int
  | 1 => .array .int
  | 2 => .array .int
  | 3 => .int
  | 4 => .array .int
  | 5 => .boolean
  | 6 => .array .int
  | 7 => .int
  | 8 => .array .int
  | 9 => .array .int
  | 10 => .int
  | 11 => .boolean
  | 12 => .int
  | 13 => .int
  | 14 => .int
  | 15 => .int
  | _ => .int
abbrev wsX60 : List Cond := u_ws RX6 TX6 17
theorem nmX6 : ∀ a, a < 17 → ∀ b, b < 17 → a ≠ b → (TX6 a).2.1 ≠ (TX6 b).2.1 := by decide +kernel
theorem tyX6_ok : ∀ k, k < 17 → parseFieldDescriptor (TX6 k).2.2.1 = some (tyX6 k) := by decide +kernel
abbrev cX6_init : ByteArray := prog_8_method_1_code
def yX6_init : MethodName := ⟨RX6, "<init>", "()V"⟩
abbrev cX6_in : ByteArray := prog_8_method_3_code
def yX6_in : MethodName := ⟨RX6, "in", "(III)Z"⟩
abbrev cX6_greater : ByteArray := prog_8_method_4_code
def yX6_greater : MethodName := ⟨RX6, "greater", "(II)I"⟩
abbrev cX6_isRow : ByteArray := prog_8_method_5_code
def yX6_isRow : MethodName := ⟨RX6, "isRow", "(I)Z"⟩
abbrev cX6_isColumn : ByteArray := prog_8_method_6_code
def yX6_isColumn : MethodName := ⟨RX6, "isColumn", "(I)Z"⟩
abbrev cX6_place : ByteArray := prog_8_method_7_code
def yX6_place : MethodName := ⟨RX6, "place", "(II)I"⟩
abbrev cX6_planeOf : ByteArray := prog_8_method_8_code
def yX6_planeOf : MethodName := ⟨RX6, "planeOf", "(II)I"⟩
abbrev cX6_dotOf : ByteArray := prog_8_method_9_code
def yX6_dotOf : MethodName := ⟨RX6, "dotOf", "(II)I"⟩
abbrev cX6_putAside : ByteArray := prog_8_method_10_code
def yX6_putAside : MethodName := ⟨RX6, "putAside", "()V"⟩
abbrev cX6_putBack : ByteArray := prog_8_method_11_code
def yX6_putBack : MethodName := ⟨RX6, "putBack", "()V"⟩
abbrev cX6_records : ByteArray := prog_8_method_12_code
def yX6_records : MethodName := ⟨RX6, "records", "()V"⟩
abbrev cX6_boundTo : ByteArray := prog_8_method_13_code
def yX6_boundTo : MethodName := ⟨RX6, "boundTo", "(II)I"⟩
abbrev cX6_manyBoundTo : ByteArray := prog_8_method_14_code
def yX6_manyBoundTo : MethodName := ⟨RX6, "manyBoundTo", "(II)I"⟩
abbrev cX6_freeOf : ByteArray := prog_8_method_15_code
def yX6_freeOf : MethodName := ⟨RX6, "freeOf", "(II)I"⟩
abbrev cX6_chain : ByteArray := prog_8_method_16_code
def yX6_chain : MethodName := ⟨RX6, "chain", "(II)I"⟩
abbrev cX6_doesFit : ByteArray := prog_8_method_17_code
def yX6_doesFit : MethodName := ⟨RX6, "doesFit", "(III)Z"⟩
abbrev cX6_nearest : ByteArray := prog_8_method_18_code
def yX6_nearest : MethodName := ⟨RX6, "nearest", "(III)I"⟩
abbrev cX6_looks : ByteArray := prog_8_method_19_code
def yX6_looks : MethodName := ⟨RX6, "looks", "(I)V"⟩
abbrev cX6_looksBeside : ByteArray := prog_8_method_20_code
def yX6_looksBeside : MethodName := ⟨RX6, "looksBeside", "(I)V"⟩
abbrev cX6_isRight : ByteArray := prog_8_method_21_code
def yX6_isRight : MethodName := ⟨RX6, "isRight", "(II)Z"⟩
abbrev cX6_rightOnes : ByteArray := prog_8_method_22_code
def yX6_rightOnes : MethodName := ⟨RX6, "rightOnes", "(I)I"⟩
abbrev cX6_allRight : ByteArray := prog_8_method_23_code
def yX6_allRight : MethodName := ⟨RX6, "allRight", "()I"⟩
abbrev cX6_changed : ByteArray := prog_8_method_24_code
def yX6_changed : MethodName := ⟨RX6, "changed", "(I)I"⟩
abbrev cX6_lays : ByteArray := prog_8_method_25_code
def yX6_lays : MethodName := ⟨RX6, "lays", "(IIIII)V"⟩
abbrev cX6_lay : ByteArray := prog_8_method_26_code
def yX6_lay : MethodName := ⟨RX6, "lay", "(IIIII)I"⟩
abbrev cX6_shift : ByteArray := prog_8_method_27_code
def yX6_shift : MethodName := ⟨RX6, "shift", "(II)I"⟩
abbrev cX6_swap : ByteArray := prog_8_method_28_code
def yX6_swap : MethodName := ⟨RX6, "swap", "(II)I"⟩
abbrev cX6_turn : ByteArray := prog_8_method_29_code
def yX6_turn : MethodName := ⟨RX6, "turn", "(I)I"⟩
abbrev cX6_prints : ByteArray := prog_8_method_30_code
def yX6_prints : MethodName := ⟨RX6, "prints", "(I)V"⟩
abbrev cX6_print : ByteArray := prog_8_method_31_code
def yX6_print : MethodName := ⟨RX6, "print", "(I)I"⟩
abbrev cX6_printAll : ByteArray := prog_8_method_32_code
def yX6_printAll : MethodName := ⟨RX6, "printAll", "()I"⟩
abbrev cX6_paint : ByteArray := prog_8_method_33_code
def yX6_paint : MethodName := ⟨RX6, "paint", "(III)I"⟩
abbrev cX6_wipe : ByteArray := prog_8_method_34_code
def yX6_wipe : MethodName := ⟨RX6, "wipe", "(I)I"⟩
abbrev cX6_leastOf : ByteArray := prog_8_method_35_code
def yX6_leastOf : MethodName := ⟨RX6, "leastOf", "(I)I"⟩
abbrev cX6_mostOf : ByteArray := prog_8_method_36_code
def yX6_mostOf : MethodName := ⟨RX6, "mostOf", "(I)I"⟩
abbrev cX6_set : ByteArray := prog_8_method_37_code
def yX6_set : MethodName := ⟨RX6, "set", "(II)I"⟩
abbrev cX6_lot : ByteArray := prog_8_method_38_code
def yX6_lot : MethodName := ⟨RX6, "lot", "(I)I"⟩
abbrev cX6_append : ByteArray := prog_8_method_39_code
def yX6_append : MethodName := ⟨RX6, "append", "(I)I"⟩
abbrev cX6_clear : ByteArray := prog_8_method_40_code
def yX6_clear : MethodName := ⟨RX6, "clear", "()I"⟩
abbrev cX6_next : ByteArray := prog_8_method_41_code
def yX6_next : MethodName := ⟨RX6, "next", "()I"⟩
abbrev cX6_isNext : ByteArray := prog_8_method_42_code
def yX6_isNext : MethodName := ⟨RX6, "isNext", "(I)Z"⟩
abbrev cX6_wants : ByteArray := prog_8_method_43_code
def yX6_wants : MethodName := ⟨RX6, "wants", "(I)V"⟩
abbrev cX6_digit : ByteArray := prog_8_method_44_code
def yX6_digit : MethodName := ⟨RX6, "digit", "(II)I"⟩
abbrev cX6_column : ByteArray := prog_8_method_45_code
def yX6_column : MethodName := ⟨RX6, "column", "(I)I"⟩
abbrev cX6_shape : ByteArray := prog_8_method_46_code
def yX6_shape : MethodName := ⟨RX6, "shape", "()V"⟩
abbrev cX6_goesWrong : ByteArray := prog_8_method_47_code
def yX6_goesWrong : MethodName := ⟨RX6, "goesWrong", "(Z)Z"⟩
abbrev cX6_isNoStrip : ByteArray := prog_8_method_48_code
def yX6_isNoStrip : MethodName := ⟨RX6, "isNoStrip", "()Z"⟩
abbrev cX6_fault : ByteArray := prog_8_method_49_code
def yX6_fault : MethodName := ⟨RX6, "fault", "(I)I"⟩
abbrev cX6_draw : ByteArray := prog_8_method_50_code
def yX6_draw : MethodName := ⟨RX6, "draw", "()I"⟩
abbrev cX6_wind : ByteArray := prog_8_method_51_code
def yX6_wind : MethodName := ⟨RX6, "wind", "()I"⟩
abbrev cX6_unwind : ByteArray := prog_8_method_52_code
def yX6_unwind : MethodName := ⟨RX6, "unwind", "()I"⟩
abbrev cX6_at : ByteArray := prog_8_method_53_code
def yX6_at : MethodName := ⟨RX6, "at", "(III)I"⟩
abbrev cX6_fits : ByteArray := prog_8_method_54_code
def yX6_fits : MethodName := ⟨RX6, "fits", "(III)I"⟩
abbrev cX6_isOne : ByteArray := prog_8_method_55_code
def yX6_isOne : MethodName := ⟨RX6, "isOne", "(III)Z"⟩
abbrev cX6_many : ByteArray := prog_8_method_56_code
def yX6_many : MethodName := ⟨RX6, "many", "(II)I"⟩
abbrev cX6_longestChain : ByteArray := prog_8_method_57_code
def yX6_longestChain : MethodName := ⟨RX6, "longestChain", "(I)I"⟩
abbrev cX6_differentDots : ByteArray := prog_8_method_58_code
def yX6_differentDots : MethodName := ⟨RX6, "differentDots", "(I)I"⟩
abbrev cX6_turnsOfPlane : ByteArray := prog_8_method_59_code
def yX6_turnsOfPlane : MethodName := ⟨RX6, "turnsOfPlane", "(I)I"⟩
abbrev cX6_row : ByteArray := prog_8_method_60_code
def yX6_row : MethodName := ⟨RX6, "row", "(II)I"⟩
abbrev cX6_echoes : ByteArray := prog_8_method_61_code
def yX6_echoes : MethodName := ⟨RX6, "echoes", "(II)I"⟩
abbrev cX6_echo : ByteArray := prog_8_method_62_code
def yX6_echo : MethodName := ⟨RX6, "echo", "(II)I"⟩
abbrev cX6_echoAt : ByteArray := prog_8_method_63_code
def yX6_echoAt : MethodName := ⟨RX6, "echoAt", "(II)I"⟩
abbrev cX6_faults : ByteArray := prog_8_method_64_code
def yX6_faults : MethodName := ⟨RX6, "faults", "(I)I"⟩
abbrev cX6_faulty : ByteArray := prog_8_method_65_code
def yX6_faulty : MethodName := ⟨RX6, "faulty", "(I)I"⟩
abbrev cX6_plane : ByteArray := prog_8_method_66_code
def yX6_plane : MethodName := ⟨RX6, "plane", "(II)I"⟩
abbrev cX6_likes : ByteArray := prog_8_method_67_code
def yX6_likes : MethodName := ⟨RX6, "likes", "(II)I"⟩
abbrev cX6_pictures : ByteArray := prog_8_method_68_code
def yX6_pictures : MethodName := ⟨RX6, "pictures", "()I"⟩
abbrev cX6_overAll : ByteArray := prog_8_method_69_code
def yX6_overAll : MethodName := ⟨RX6, "overAll", "(I)I"⟩
abbrev cX6_raised : ByteArray := prog_8_method_70_code
def yX6_raised : MethodName := ⟨RX6, "raised", "()I"⟩
abbrev cX6_count : ByteArray := prog_8_method_71_code
def yX6_count : MethodName := ⟨RX6, "count", "(I)I"⟩
abbrev cX6_away : ByteArray := prog_8_method_72_code
def yX6_away : MethodName := ⟨RX6, "away", "(I)F"⟩
abbrev cX6_clearness : ByteArray := prog_8_method_73_code
def yX6_clearness : MethodName := ⟨RX6, "clearness", "(I)D"⟩
abbrev cX6_ifPainted : ByteArray := prog_8_method_74_code
def yX6_ifPainted : MethodName := ⟨RX6, "ifPainted", "(IIII)I"⟩
abbrev cX6_rightBy : ByteArray := prog_8_method_75_code
def yX6_rightBy : MethodName := ⟨RX6, "rightBy", "(II)I"⟩
abbrev cX6_ifPrinted : ByteArray := prog_8_method_76_code
def yX6_ifPrinted : MethodName := ⟨RX6, "ifPrinted", "(II)I"⟩
abbrev cX6_shortest : ByteArray := prog_8_method_77_code
def yX6_shortest : MethodName := ⟨RX6, "shortest", "(I)I"⟩
abbrev cX6_rightThrough : ByteArray := prog_8_method_78_code
def yX6_rightThrough : MethodName := ⟨RX6, "rightThrough", "(II)I"⟩
abbrev cX6_bestWindow : ByteArray := prog_8_method_79_code
def yX6_bestWindow : MethodName := ⟨RX6, "bestWindow", "(I)I"⟩
abbrev cX6_alike : ByteArray := prog_8_method_80_code
def yX6_alike : MethodName := ⟨RX6, "alike", "(II)I"⟩
abbrev cX6_undo : ByteArray := prog_8_method_81_code
def yX6_undo : MethodName := ⟨RX6, "undo", "()I"⟩
abbrev cX6_save : ByteArray := prog_8_method_82_code
def yX6_save : MethodName := ⟨RX6, "save", "()I"⟩
abbrev cX6_restore : ByteArray := prog_8_method_83_code
def yX6_restore : MethodName := ⟨RX6, "restore", "()I"⟩
def RJ6 : String := "java/lang/Integer"
def TJ6 : u_T := fun k => match k with
  | _ => ("", "", "", false)
def tyJ6 : Nat → FieldType := fun k => match k with
  | _ => .int
abbrev wsJ60 : List Cond := u_ws RJ6 TJ6 0
theorem nmJ6 : ∀ a, a < 0 → ∀ b, b < 0 → a ≠ b → (TJ6 a).2.1 ≠ (TJ6 b).2.1 := by decide +kernel
theorem tyJ6_ok : ∀ k, k < 0 → parseFieldDescriptor (TJ6 k).2.2.1 = some (tyJ6 k) := by decide +kernel
abbrev cJ6_bitCount_0f7a4 : ByteArray := prog_9_method_49_code
def yJ6_bitCount_0f7a4 : MethodName := ⟨RJ6, "bitCount", "(I)I"⟩
def RJ9 : String := "java/lang/Math"
def TJ9 : u_T := fun k => match k with
  | _ => ("", "", "", false)
def tyJ9 : Nat → FieldType := fun k => match k with
  | _ => .int
abbrev wsJ90 : List Cond := u_ws RJ9 TJ9 0
theorem nmJ9 : ∀ a, a < 0 → ∀ b, b < 0 → a ≠ b → (TJ9 a).2.1 ≠ (TJ9 b).2.1 := by decide +kernel
theorem tyJ9_ok : ∀ k, k < 0 → parseFieldDescriptor (TJ9 k).2.2.1 = some (tyJ9 k) := by decide +kernel
abbrev cJ9_abs_0f7a4 : ByteArray := prog_10_method_59_code
def yJ9_abs_0f7a4 : MethodName := ⟨RJ9, "abs", "(I)I"⟩
abbrev cJ9_max_7cf53 : ByteArray := prog_10_method_65_code
def yJ9_max_7cf53 : MethodName := ⟨RJ9, "max", "(II)I"⟩
abbrev cJ9_min_7cf53 : ByteArray := prog_10_method_69_code
def yJ9_min_7cf53 : MethodName := ⟨RJ9, "min", "(II)I"⟩
def RJ10 : String := "java/lang/System"
def TJ10 : u_T := fun k => match k with
  | _ => ("", "", "", false)
def tyJ10 : Nat → FieldType := fun k => match k with
  | _ => .int
abbrev wsJ100 : List Cond := u_ws RJ10 TJ10 0
theorem nmJ10 : ∀ a, a < 0 → ∀ b, b < 0 → a ≠ b → (TJ10 a).2.1 ≠ (TJ10 b).2.1 := by decide +kernel
theorem tyJ10_ok : ∀ k, k < 0 → parseFieldDescriptor (TJ10 k).2.2.1 = some (tyJ10 k) := by decide +kernel
def RJ7 : String := "java/util/Arrays"
def TJ7 : u_T := fun k => match k with
  | _ => ("", "", "", false)
def tyJ7 : Nat → FieldType := fun k => match k with
  | _ => .int
abbrev wsJ70 : List Cond := u_ws RJ7 TJ7 0
theorem nmJ7 : ∀ a, a < 0 → ∀ b, b < 0 → a ≠ b → (TJ7 a).2.1 ≠ (TJ7 b).2.1 := by decide +kernel
theorem tyJ7_ok : ∀ k, k < 0 → parseFieldDescriptor (TJ7 k).2.2.1 = some (tyJ7 k) := by decide +kernel
abbrev cJ7_fill_53178 : ByteArray := prog_12_method_103_code
def yJ7_fill_53178 : MethodName := ⟨RJ7, "fill", "([II)V"⟩
def RL : String := "StripDepthsLaw"
abbrev cL_law : ByteArray := code
def yL_law : MethodName := ⟨RL, "law", "([I)Z"⟩
def wsL_law_r1 : List Cond := [Cond.classLink RL 7 RX5, Cond.instantiable RX5 9, Cond.initialized RX5, Cond.classLink RL 10 RX6, Cond.instantiable RX6 17, Cond.initialized RX6, Cond.methodLink RL 9 yX5_init, Cond.instanceMethod yX5_init, Cond.code yX5_init cX5_init 1 none, Cond.methodLink RX5 3 objectInit, Cond.instanceMethod objectInit, Cond.code objectInit ⟨#[0xb1]⟩ 1 none, Cond.classLink RX5 9 RX4, Cond.instantiable RX4 7, Cond.initialized RX4, Cond.fieldLink RX5 12 "StripDepths" "now" "LStripDepths$Sheet;", Cond.fieldLink RX5 16 "StripDepths" "snapshot" "LStripDepths$Sheet;", Cond.classLink RX5 19 RX0, Cond.instantiable RX0 2, Cond.initialized RX0, Cond.fieldLink RX5 22 "StripDepths" "history" "LStripDepths$History;", Cond.classLink RX5 26 RX2, Cond.instantiable RX2 3, Cond.initialized RX2]
def wsL_law_r2 : List Cond := [Cond.fieldLink RX5 29 "StripDepths" "pad" "LStripDepths$Pad;", Cond.classLink RX5 33 RX1, Cond.instantiable RX1 9, Cond.initialized RX1, Cond.fieldLink RX5 36 "StripDepths" "look" "LStripDepths$Look;", Cond.fieldLink RX5 40 "StripDepths" "otherLook" "LStripDepths$Look;", Cond.arrayClass .int, Cond.fieldLink RX5 43 "StripDepths" "views" "[I", Cond.fieldLink RX5 47 "StripDepths" "ranked" "[I", Cond.methodLink RX5 11 yX4_init, Cond.instanceMethod yX4_init, Cond.code yX4_init cX4_init 1 none, Cond.methodLink RX4 3 objectInit, Cond.fieldLink RX4 9 "StripDepths$Sheet" "planes" "[I", Cond.fieldLink RX4 15 "StripDepths$Sheet" "dots" "[I", Cond.fieldLink RX4 18 "StripDepths$Sheet" "remembered" "[I", Cond.fieldLink RX4 21 "StripDepths$Sheet" "settings" "[I", Cond.fieldLink RX4 24 "StripDepths$Sheet" "strip" "[I", Cond.fieldLink RX4 27 "StripDepths$Sheet" "lot" "I", Cond.methodLink RX4 40 arraycopyName, Cond.native arraycopyName, Cond.static arraycopyName, Cond.initialized "java/lang/System", Cond.methodLink RX4 31 yJ7_fill_53178]
def wsL_law_r3 : List Cond := [Cond.static yJ7_fill_53178, Cond.initialized RJ7, Cond.code yJ7_fill_53178 cJ7_fill_53178 4 none, Cond.methodLink RX5 21 yX0_init, Cond.instanceMethod yX0_init, Cond.code yX0_init cX0_init 2 none, Cond.methodLink RX0 3 objectInit, Cond.classLink RX0 9 RX4, Cond.fieldLink RX0 11 "StripDepths$History" "kept" "[LStripDepths$Sheet;", Cond.methodLink RX0 17 yX4_init, Cond.instanceMethod yX2_init, Cond.code yX2_init cX2_init 1 none, Cond.methodLink RX2 3 objectInit, Cond.fieldLink RX2 9 "StripDepths$Pad" "codes" "[I", Cond.classLink RX2 15 RX3, Cond.instantiable RX3 6, Cond.initialized RX3, Cond.fieldLink RX2 18 "StripDepths$Pad" "reader" "LStripDepths$ShapeReader;", Cond.instanceMethod yX3_init, Cond.code yX3_init cX3_init 1 none, Cond.methodLink RX3 3 objectInit, Cond.instanceMethod yX1_init, Cond.code yX1_init cX1_init 1 none, Cond.methodLink RX1 3 objectInit]
def wsL_law_r4 : List Cond := [Cond.fieldLink RX1 9 "StripDepths$Look" "planes" "[I", Cond.fieldLink RX1 15 "StripDepths$Look" "dots" "[I", Cond.fieldLink RX1 18 "StripDepths$Look" "remembered" "[I", Cond.fieldLink RX1 21 "StripDepths$Look" "seen" "[I", Cond.fieldLink RX1 24 "StripDepths$Look" "binders" "[I", Cond.fieldLink RX1 27 "StripDepths$Look" "chains" "[I", Cond.methodLink RL 12 yX6_init, Cond.instanceMethod yX6_init, Cond.code yX6_init cX6_init 1 none, Cond.methodLink RX6 1 objectInit, Cond.fieldLink RX6 7 "StripDepthsModel" "s" "[I", Cond.fieldLink RX6 13 "StripDepthsModel" "aside" "[I", Cond.fieldLink RX6 16 "StripDepthsModel" "past" "[I", Cond.fieldLink RX6 19 "StripDepthsModel" "snapshot" "[I", Cond.fieldLink RX6 22 "StripDepthsModel" "pad" "[I", Cond.fieldLink RX6 25 "StripDepthsModel" "seen" "[I", Cond.fieldLink RX6 28 "StripDepthsModel" "other" "[I", Cond.methodLink RL 13 yX5_lay, Cond.instanceMethod yX5_lay, Cond.selects RX5 yX5_lay yX5_lay, Cond.code yX5_lay cX5_lay 7 (some .int), Cond.methodLink RX5 50 yX5_isRow, Cond.static yX5_isRow, Cond.code yX5_isRow cX5_isRow 1 (some .boolean)]
def wsL_law_r5 : List Cond := [Cond.methodLink RX5 54 yX5_isColumn, Cond.static yX5_isColumn, Cond.code yX5_isColumn cX5_isColumn 1 (some .boolean), Cond.methodLink RX5 57 yX5_isPlane, Cond.static yX5_isPlane, Cond.code yX5_isPlane cX5_isPlane 1 (some .boolean), Cond.methodLink RX5 60 yX0_record, Cond.instanceMethod yX0_record, Cond.selects RX0 yX0_record yX0_record, Cond.code yX0_record cX0_record 3 (some (.object "StripDepths$Sheet")), Cond.fieldLink RX0 18 "StripDepths$History" "states" "I", Cond.methodLink RX0 22 yX0_dropOldest, Cond.instanceMethod yX0_dropOldest, Cond.selects RX0 yX0_dropOldest yX0_dropOldest, Cond.code yX0_dropOldest cX0_dropOldest 3 none, Cond.methodLink RX0 25 yX4_copyFrom, Cond.instanceMethod yX4_copyFrom, Cond.selects RX4 yX4_copyFrom yX4_copyFrom, Cond.code yX4_copyFrom cX4_copyFrom 2 none, Cond.fieldLink RX4 46 "StripDepths$Sheet" "stripLength" "I", Cond.methodLink RX5 64 yX4_layPlane, Cond.instanceMethod yX4_layPlane, Cond.selects RX4 yX4_layPlane yX4_layPlane, Cond.code yX4_layPlane cX4_layPlane 8 none]
def wsL_law_r6 : List Cond := [Cond.static yX5_placeOf, Cond.code yX5_placeOf cX5_placeOf 2 (some .int), Cond.methodLink RX5 68 yX4_otherPlanesThan, Cond.instanceMethod yX4_otherPlanesThan, Cond.selects RX4 yX4_otherPlanesThan yX4_otherPlanesThan, Cond.code yX4_otherPlanesThan cX4_otherPlanesThan 2 (some .int), Cond.methodLink RX4 60 yX4_differences, Cond.static yX4_differences, Cond.code yX4_differences cX4_differences 4 (some .int), Cond.methodLink RL 17 yX6_lay, Cond.instanceMethod yX6_lay, Cond.selects RX6 yX6_lay yX6_lay, Cond.code yX6_lay cX6_lay 6 (some .int), Cond.methodLink RX6 78 yX6_isRow, Cond.static yX6_isRow, Cond.code yX6_isRow cX6_isRow 1 (some .boolean), Cond.methodLink RX6 31 yX6_in, Cond.static yX6_in, Cond.code yX6_in cX6_in 3 (some .boolean), Cond.methodLink RX6 52 yX6_isColumn, Cond.static yX6_isColumn, Cond.code yX6_isColumn cX6_isColumn 1 (some .boolean), Cond.methodLink RX6 81 yX6_records, Cond.instanceMethod yX6_records]
def wsL_law_r7 : List Cond := [Cond.selects RX6 yX6_records yX6_records, Cond.code yX6_records cX6_records 2 none, Cond.fieldLink RX6 39 "StripDepthsModel" "pasts" "I", Cond.methodLink RX6 84 yX6_putAside, Cond.instanceMethod yX6_putAside, Cond.selects RX6 yX6_putAside yX6_putAside, Cond.code yX6_putAside cX6_putAside 2 none, Cond.methodLink RX6 87 yX6_lays, Cond.instanceMethod yX6_lays, Cond.selects RX6 yX6_lays yX6_lays, Cond.code yX6_lays cX6_lays 8 none, Cond.methodLink RX6 35 yX6_place, Cond.static yX6_place, Cond.code yX6_place cX6_place 2 (some .int), Cond.methodLink RX6 91 yX6_changed, Cond.instanceMethod yX6_changed, Cond.selects RX6 yX6_changed yX6_changed, Cond.code yX6_changed cX6_changed 4 (some .int), Cond.methodLink RL 18 yX5_shift, Cond.instanceMethod yX5_shift, Cond.selects RX5 yX5_shift yX5_shift, Cond.code yX5_shift cX5_shift 7 (some .int), Cond.fieldLink RX5 76 "StripDepths$Look" "planes" "[I", Cond.fieldLink RX5 79 "StripDepths$Sheet" "planes" "[I"]
def wsL_law_r8 : List Cond := [Cond.methodLink RX5 72 yX1_takeRow, Cond.instanceMethod yX1_takeRow, Cond.selects RX1 yX1_takeRow yX1_takeRow, Cond.code yX1_takeRow cX1_takeRow 4 none, Cond.fieldLink RX1 34 "StripDepths$Sheet" "planes" "[I", Cond.methodLink RX1 37 arraycopyName, Cond.fieldLink RX1 43 "StripDepths$Sheet" "dots" "[I", Cond.fieldLink RX1 44 "StripDepths$Sheet" "remembered" "[I", Cond.fieldLink RX1 45 "StripDepths$Sheet" "settings" "[I", Cond.fieldLink RX1 48 "StripDepths$Look" "period" "I", Cond.fieldLink RX1 52 "StripDepths$Look" "window" "I", Cond.fieldLink RX1 55 "StripDepths$Look" "crossed" "Z", Cond.methodLink RX5 80 yX5_placeOf, Cond.methodLink RL 22 yX6_shift, Cond.instanceMethod yX6_shift, Cond.selects RX6 yX6_shift yX6_shift, Cond.code yX6_shift cX6_shift 6 (some .int), Cond.methodLink RL 23 yX5_swap, Cond.instanceMethod yX5_swap, Cond.selects RX5 yX5_swap yX5_swap, Cond.code yX5_swap cX5_swap 5 (some .int), Cond.methodLink RX5 84 yX1_putRow, Cond.instanceMethod yX1_putRow, Cond.selects RX1 yX1_putRow yX1_putRow]
def wsL_law_r9 : List Cond := [Cond.code yX1_putRow cX1_putRow 4 none, Cond.methodLink RL 26 yX6_swap, Cond.instanceMethod yX6_swap, Cond.selects RX6 yX6_swap yX6_swap, Cond.code yX6_swap cX6_swap 6 (some .int), Cond.methodLink RX6 43 yX6_planeOf, Cond.instanceMethod yX6_planeOf, Cond.selects RX6 yX6_planeOf yX6_planeOf, Cond.code yX6_planeOf cX6_planeOf 3 (some .int), Cond.methodLink RL 27 yX5_turn, Cond.instanceMethod yX5_turn, Cond.selects RX5 yX5_turn yX5_turn, Cond.code yX5_turn cX5_turn 2 (some .int), Cond.methodLink RX5 87 yX1_turnRound, Cond.instanceMethod yX1_turnRound, Cond.selects RX1 yX1_turnRound yX1_turnRound, Cond.code yX1_turnRound cX1_turnRound 1 none, Cond.methodLink RX1 69 yX1_reverse, Cond.static yX1_reverse, Cond.code yX1_reverse cX1_reverse 4 none, Cond.methodLink RX5 90 yX5_rightPlaces, Cond.instanceMethod yX5_rightPlaces, Cond.selects RX5 yX5_rightPlaces yX5_rightPlaces, Cond.code yX5_rightPlaces cX5_rightPlaces 2 (some .int)]
def wsL_law_r10 : List Cond := [Cond.methodLink RX5 146 yX1_study, Cond.instanceMethod yX1_study, Cond.selects RX1 yX1_study yX1_study, Cond.code yX1_study cX1_study 3 none, Cond.methodLink RX1 59 yX1_takeRow, Cond.methodLink RX1 63 yX1_bind, Cond.instanceMethod yX1_bind, Cond.selects RX1 yX1_bind yX1_bind, Cond.code yX1_bind cX1_bind 3 none, Cond.methodLink RX1 73 yJ7_fill_53178, Cond.methodLink RX1 82 yX1_boundTo, Cond.instanceMethod yX1_boundTo, Cond.selects RX1 yX1_boundTo yX1_boundTo, Cond.code yX1_boundTo cX1_boundTo 3 (some .int), Cond.methodLink RX1 66 yX1_watch, Cond.instanceMethod yX1_watch, Cond.selects RX1 yX1_watch yX1_watch, Cond.code yX1_watch cX1_watch 4 none, Cond.methodLink RX1 92 yX1_nearestFitting, Cond.instanceMethod yX1_nearestFitting, Cond.selects RX1 yX1_nearestFitting yX1_nearestFitting, Cond.code yX1_nearestFitting cX1_nearestFitting 4 (some .int), Cond.methodLink RX1 95 yX1_isFitting, Cond.instanceMethod yX1_isFitting]
def wsL_law_r11 : List Cond := [Cond.selects RX1 yX1_isFitting yX1_isFitting, Cond.code yX1_isFitting cX1_isFitting 7 (some .boolean), Cond.methodLink RX1 99 Lib.Math.max.name, Cond.static Lib.Math.max.name, Cond.initialized "java/lang/Math", Cond.code Lib.Math.max.name Lib.Math.max.code 2 (some .int), Cond.methodLink RX1 104 Lib.Math.min.name, Cond.static Lib.Math.min.name, Cond.code Lib.Math.min.name Lib.Math.min.code 2 (some .int), Cond.methodLink RX5 179 yX1_placesOfKind, Cond.instanceMethod yX1_placesOfKind, Cond.selects RX1 yX1_placesOfKind yX1_placesOfKind, Cond.code yX1_placesOfKind cX1_placesOfKind 4 (some .int), Cond.methodLink RX1 107 yX1_isOfKind, Cond.instanceMethod yX1_isOfKind, Cond.selects RX1 yX1_isOfKind yX1_isOfKind, Cond.code yX1_isOfKind cX1_isOfKind 3 (some .boolean), Cond.methodLink RX1 110 yX1_isTorn, Cond.instanceMethod yX1_isTorn, Cond.selects RX1 yX1_isTorn yX1_isTorn, Cond.code yX1_isTorn cX1_isTorn 3 (some .boolean), Cond.methodLink RL 31 yX6_turn, Cond.instanceMethod yX6_turn, Cond.selects RX6 yX6_turn yX6_turn]
def wsL_law_r12 : List Cond := [Cond.code yX6_turn cX6_turn 4 (some .int), Cond.methodLink RX6 74 yX6_rightOnes, Cond.instanceMethod yX6_rightOnes, Cond.selects RX6 yX6_rightOnes yX6_rightOnes, Cond.code yX6_rightOnes cX6_rightOnes 4 (some .int), Cond.methodLink RX6 66 yX6_looks, Cond.instanceMethod yX6_looks, Cond.selects RX6 yX6_looks yX6_looks, Cond.code yX6_looks cX6_looks 5 none, Cond.methodLink RX6 62 yX6_nearest, Cond.instanceMethod yX6_nearest, Cond.selects RX6 yX6_nearest yX6_nearest, Cond.code yX6_nearest cX6_nearest 8 (some .int), Cond.methodLink RX6 59 yX6_doesFit, Cond.instanceMethod yX6_doesFit, Cond.selects RX6 yX6_doesFit yX6_doesFit, Cond.code yX6_doesFit cX6_doesFit 8 (some .boolean), Cond.methodLink RX6 56 yX6_dotOf, Cond.instanceMethod yX6_dotOf, Cond.selects RX6 yX6_dotOf yX6_dotOf, Cond.code yX6_dotOf cX6_dotOf 3 (some .int), Cond.methodLink RX6 70 yX6_isRight, Cond.instanceMethod yX6_isRight, Cond.selects RX6 yX6_isRight yX6_isRight]
def wsL_law_r13 : List Cond := [Cond.code yX6_isRight cX6_isRight 3 (some .boolean), Cond.methodLink RL 32 yX5_print, Cond.instanceMethod yX5_print, Cond.selects RX5 yX5_print yX5_print, Cond.code yX5_print cX5_print 3 (some .int), Cond.methodLink RX5 94 yX5_printRow, Cond.instanceMethod yX5_printRow, Cond.selects RX5 yX5_printRow yX5_printRow, Cond.code yX5_printRow cX5_printRow 2 none, Cond.fieldLink RX5 119 "StripDepths$Sheet" "lot" "I", Cond.methodLink RX5 242 yX1_printFrom, Cond.instanceMethod yX1_printFrom, Cond.selects RX1 yX1_printFrom yX1_printFrom, Cond.code yX1_printFrom cX1_printFrom 7 (some .int), Cond.fieldLink RX1 79 "StripDepths$Sheet" "lot" "I", Cond.fieldLink RX1 86 "StripDepths$Sheet" "stripLength" "I", Cond.fieldLink RX1 89 "StripDepths$Sheet" "strip" "[I", Cond.methodLink RX5 245 yX1_forgetSmudges, Cond.instanceMethod yX1_forgetSmudges, Cond.selects RX1 yX1_forgetSmudges yX1_forgetSmudges, Cond.code yX1_forgetSmudges cX1_forgetSmudges 1 none, Cond.methodLink RX5 98 yX4_otherDotsThan, Cond.instanceMethod yX4_otherDotsThan, Cond.selects RX4 yX4_otherDotsThan yX4_otherDotsThan]
def wsL_law_r14 : List Cond := [Cond.code yX4_otherDotsThan cX4_otherDotsThan 2 (some .int), Cond.methodLink RL 35 yX6_print, Cond.instanceMethod yX6_print, Cond.selects RX6 yX6_print yX6_print, Cond.code yX6_print cX6_print 2 (some .int), Cond.methodLink RX6 94 yX6_prints, Cond.instanceMethod yX6_prints, Cond.selects RX6 yX6_prints yX6_prints, Cond.code yX6_prints cX6_prints 6 none, Cond.methodLink RX6 46 yX6_boundTo, Cond.instanceMethod yX6_boundTo, Cond.selects RX6 yX6_boundTo yX6_boundTo, Cond.code yX6_boundTo cX6_boundTo 4 (some .int), Cond.methodLink RL 36 yX5_printAll, Cond.instanceMethod yX5_printAll, Cond.selects RX5 yX5_printAll yX5_printAll, Cond.code yX5_printAll cX5_printAll 3 (some .int), Cond.methodLink RL 40 yX6_printAll, Cond.instanceMethod yX6_printAll, Cond.selects RX6 yX6_printAll yX6_printAll, Cond.code yX6_printAll cX6_printAll 2 (some .int), Cond.methodLink RL 41 yX5_paint, Cond.instanceMethod yX5_paint, Cond.selects RX5 yX5_paint yX5_paint]
def wsL_law_r15 : List Cond := [Cond.code yX5_paint cX5_paint 6 (some .int), Cond.fieldLink RX5 104 "StripDepths$Sheet" "dots" "[I", Cond.fieldLink RX5 107 "StripDepths$Sheet" "remembered" "[I", Cond.methodLink RX5 101 yX5_isDot, Cond.static yX5_isDot, Cond.code yX5_isDot cX5_isDot 1 (some .boolean), Cond.methodLink RL 45 yX6_paint, Cond.instanceMethod yX6_paint, Cond.selects RX6 yX6_paint yX6_paint, Cond.code yX6_paint cX6_paint 6 (some .int), Cond.methodLink RL 46 yX5_wipe, Cond.instanceMethod yX5_wipe, Cond.selects RX5 yX5_wipe yX5_wipe, Cond.code yX5_wipe cX5_wipe 5 (some .int), Cond.methodLink RL 49 yX6_wipe, Cond.instanceMethod yX6_wipe, Cond.selects RX6 yX6_wipe yX6_wipe, Cond.code yX6_wipe cX6_wipe 5 (some .int), Cond.methodLink RL 50 yX5_set, Cond.instanceMethod yX5_set, Cond.selects RX5 yX5_set yX5_set, Cond.code yX5_set cX5_set 4 (some .int), Cond.fieldLink RX5 110 "StripDepths" "LEAST_VALUES" "[I", Cond.fieldLink RX5 113 "StripDepths" "GREATEST_VALUES" "[I"]
def wsL_law_r16 : List Cond := [Cond.fieldLink RX5 116 "StripDepths$Sheet" "settings" "[I", Cond.methodLink RL 53 yX6_set, Cond.instanceMethod yX6_set, Cond.selects RX6 yX6_set yX6_set, Cond.code yX6_set cX6_set 4 (some .int), Cond.methodLink RX6 97 yX6_leastOf, Cond.static yX6_leastOf, Cond.code yX6_leastOf cX6_leastOf 1 (some .int), Cond.methodLink RX6 100 yX6_mostOf, Cond.static yX6_mostOf, Cond.code yX6_mostOf cX6_mostOf 1 (some .int), Cond.methodLink RL 54 yX5_lot, Cond.instanceMethod yX5_lot, Cond.selects RX5 yX5_lot yX5_lot, Cond.code yX5_lot cX5_lot 3 (some .int), Cond.methodLink RL 57 yX6_lot, Cond.instanceMethod yX6_lot, Cond.selects RX6 yX6_lot yX6_lot, Cond.code yX6_lot cX6_lot 3 (some .int), Cond.methodLink RL 58 yX5_append, Cond.instanceMethod yX5_append, Cond.selects RX5 yX5_append yX5_append, Cond.code yX5_append cX5_append 2 (some .int), Cond.fieldLink RX5 126 "StripDepths$Pad" "length" "I"]
def wsL_law_r17 : List Cond := [Cond.methodLink RX5 123 yX2_add, Cond.instanceMethod yX2_add, Cond.selects RX2 yX2_add yX2_add, Cond.code yX2_add cX2_add 2 (some .boolean), Cond.fieldLink RX2 22 "StripDepths$Pad" "length" "I", Cond.methodLink RL 61 yX6_append, Cond.instanceMethod yX6_append, Cond.selects RX6 yX6_append yX6_append, Cond.code yX6_append cX6_append 2 (some .int), Cond.fieldLink RX6 103 "StripDepthsModel" "length" "I", Cond.methodLink RL 62 yX5_clear, Cond.instanceMethod yX5_clear, Cond.selects RX5 yX5_clear yX5_clear, Cond.code yX5_clear cX5_clear 2 (some .int), Cond.methodLink RL 65 yX6_clear, Cond.instanceMethod yX6_clear, Cond.selects RX6 yX6_clear yX6_clear, Cond.code yX6_clear cX6_clear 2 (some .int), Cond.methodLink RL 66 yX5_fault, Cond.instanceMethod yX5_fault, Cond.selects RX5 yX5_fault yX5_fault, Cond.code yX5_fault cX5_fault 2 (some .int), Cond.methodLink RX5 129 yX2_faultAsShapes, Cond.instanceMethod yX2_faultAsShapes]
def wsL_law_r18 : List Cond := [Cond.selects RX2 yX2_faultAsShapes yX2_faultAsShapes, Cond.code yX2_faultAsShapes cX2_faultAsShapes 2 (some .int), Cond.methodLink RX2 44 yX3_begin, Cond.instanceMethod yX3_begin, Cond.selects RX3 yX3_begin yX3_begin, Cond.code yX3_begin cX3_begin 1 none, Cond.fieldLink RX3 11 "StripDepths$ShapeReader" "stage" "I", Cond.methodLink RX2 47 yX3_takes, Cond.instanceMethod yX3_takes, Cond.selects RX3 yX3_takes yX3_takes, Cond.code yX3_takes cX3_takes 3 (some .boolean), Cond.methodLink RX3 15 yX3_takesTop, Cond.instanceMethod yX3_takesTop, Cond.selects RX3 yX3_takesTop yX3_takesTop, Cond.code yX3_takesTop cX3_takesTop 2 (some .boolean), Cond.fieldLink RX3 44 "StripDepths$ShapeReader" "top" "I", Cond.fieldLink RX3 47 "StripDepths$ShapeReader" "bottom" "I", Cond.methodLink RX3 19 yX3_goesOn, Cond.instanceMethod yX3_goesOn, Cond.selects RX3 yX3_goesOn yX3_goesOn, Cond.code yX3_goesOn cX3_goesOn 2 (some .boolean), Cond.methodLink RX3 22 yX3_takesBottom, Cond.instanceMethod yX3_takesBottom, Cond.selects RX3 yX3_takesBottom yX3_takesBottom]
def wsL_law_r19 : List Cond := [Cond.code yX3_takesBottom cX3_takesBottom 2 (some .boolean), Cond.methodLink RX3 25 yX3_takesLeft, Cond.instanceMethod yX3_takesLeft, Cond.selects RX3 yX3_takesLeft yX3_takesLeft, Cond.code yX3_takesLeft cX3_takesLeft 2 (some .boolean), Cond.fieldLink RX3 53 "StripDepths$ShapeReader" "left" "I", Cond.fieldLink RX3 56 "StripDepths$ShapeReader" "right" "I", Cond.methodLink RX3 28 yX3_takesBehindLeft, Cond.instanceMethod yX3_takesBehindLeft, Cond.selects RX3 yX3_takesBehindLeft yX3_takesBehindLeft, Cond.code yX3_takesBehindLeft cX3_takesBehindLeft 3 (some .boolean), Cond.methodLink RX3 32 yX3_takesFirstOfRight, Cond.instanceMethod yX3_takesFirstOfRight, Cond.selects RX3 yX3_takesFirstOfRight yX3_takesFirstOfRight, Cond.code yX3_takesFirstOfRight cX3_takesFirstOfRight 2 (some .boolean), Cond.methodLink RX3 59 yX3_greatestFrom, Cond.static yX3_greatestFrom, Cond.code yX3_greatestFrom cX3_greatestFrom 1 (some .int), Cond.methodLink RX3 63 Lib.Math.min.name, Cond.methodLink RX3 35 yX3_takesBehindRight, Cond.instanceMethod yX3_takesBehindRight, Cond.selects RX3 yX3_takesBehindRight yX3_takesBehindRight, Cond.code yX3_takesBehindRight cX3_takesBehindRight 4 (some .boolean), Cond.methodLink RX3 38 yX3_takesPlane]
def wsL_law_r20 : List Cond := [Cond.instanceMethod yX3_takesPlane, Cond.selects RX3 yX3_takesPlane yX3_takesPlane, Cond.code yX3_takesPlane cX3_takesPlane 2 (some .boolean), Cond.fieldLink RX3 72 "StripDepths$ShapeReader" "plane" "I", Cond.methodLink RX2 50 yX3_isComplete, Cond.instanceMethod yX3_isComplete, Cond.selects RX3 yX3_isComplete yX3_isComplete, Cond.code yX3_isComplete cX3_isComplete 1 (some .boolean), Cond.methodLink RX5 133 yX2_faultAsStrip, Cond.instanceMethod yX2_faultAsStrip, Cond.selects RX2 yX2_faultAsStrip yX2_faultAsStrip, Cond.code yX2_faultAsStrip cX2_faultAsStrip 2 (some .int), Cond.methodLink RL 69 yX6_fault, Cond.instanceMethod yX6_fault, Cond.selects RX6 yX6_fault yX6_fault, Cond.code yX6_fault cX6_fault 3 (some .int), Cond.fieldLink RX6 106 "StripDepthsModel" "spot" "I", Cond.methodLink RX6 147 yX6_goesWrong, Cond.instanceMethod yX6_goesWrong, Cond.selects RX6 yX6_goesWrong yX6_goesWrong, Cond.code yX6_goesWrong cX6_goesWrong 3 (some .boolean), Cond.fieldLink RX6 109 "StripDepthsModel" "isWrong" "Z", Cond.fieldLink RX6 120 "StripDepthsModel" "top" "I", Cond.fieldLink RX6 135 "StripDepthsModel" "left" "I"]
def wsL_law_r21 : List Cond := [Cond.fieldLink RX6 123 "StripDepthsModel" "bottom" "I", Cond.fieldLink RX6 138 "StripDepthsModel" "right" "I", Cond.fieldLink RX6 141 "StripDepthsModel" "depth" "I", Cond.methodLink RX6 144 yX6_shape, Cond.instanceMethod yX6_shape, Cond.selects RX6 yX6_shape yX6_shape, Cond.code yX6_shape cX6_shape 1 none, Cond.methodLink RX6 117 yX6_digit, Cond.instanceMethod yX6_digit, Cond.selects RX6 yX6_digit yX6_digit, Cond.code yX6_digit cX6_digit 4 (some .int), Cond.methodLink RX6 113 yX6_next, Cond.instanceMethod yX6_next, Cond.selects RX6 yX6_next yX6_next, Cond.code yX6_next cX6_next 1 (some .int), Cond.methodLink RX6 126 yX6_isNext, Cond.instanceMethod yX6_isNext, Cond.selects RX6 yX6_isNext yX6_isNext, Cond.code yX6_isNext cX6_isNext 2 (some .boolean), Cond.methodLink RX6 129 yX6_wants, Cond.instanceMethod yX6_wants, Cond.selects RX6 yX6_wants yX6_wants, Cond.code yX6_wants cX6_wants 2 none, Cond.methodLink RX6 132 yX6_column]
def wsL_law_r22 : List Cond := [Cond.instanceMethod yX6_column, Cond.selects RX6 yX6_column yX6_column, Cond.code yX6_column cX6_column 5 (some .int), Cond.methodLink RX6 151 yX6_isNoStrip, Cond.instanceMethod yX6_isNoStrip, Cond.selects RX6 yX6_isNoStrip yX6_isNoStrip, Cond.code yX6_isNoStrip cX6_isNoStrip 1 (some .boolean), Cond.methodLink RL 70 yX5_draw, Cond.instanceMethod yX5_draw, Cond.selects RX5 yX5_draw yX5_draw, Cond.code yX5_draw cX5_draw 2 (some .int), Cond.methodLink RX5 136 yX2_layShapes, Cond.instanceMethod yX2_layShapes, Cond.selects RX2 yX2_layShapes yX2_layShapes, Cond.code yX2_layShapes cX2_layShapes 3 none, Cond.fieldLink RX2 54 "StripDepths$ShapeReader" "top" "I", Cond.fieldLink RX2 57 "StripDepths$ShapeReader" "left" "I", Cond.fieldLink RX2 60 "StripDepths$ShapeReader" "bottom" "I", Cond.fieldLink RX2 63 "StripDepths$ShapeReader" "right" "I", Cond.fieldLink RX2 66 "StripDepths$ShapeReader" "plane" "I", Cond.methodLink RX2 69 yX4_layPlane, Cond.methodLink RL 73 yX6_draw, Cond.instanceMethod yX6_draw, Cond.selects RX6 yX6_draw yX6_draw]
def wsL_law_r23 : List Cond := [Cond.code yX6_draw cX6_draw 2 (some .int), Cond.methodLink RL 74 yX5_wind, Cond.instanceMethod yX5_wind, Cond.selects RX5 yX5_wind yX5_wind, Cond.code yX5_wind cX5_wind 1 (some .int), Cond.fieldLink RX5 143 "StripDepths$Sheet" "stripLength" "I", Cond.methodLink RX5 140 yX2_putStrip, Cond.instanceMethod yX2_putStrip, Cond.selects RX2 yX2_putStrip yX2_putStrip, Cond.code yX2_putStrip cX2_putStrip 4 none, Cond.methodLink RX2 30 Lib.Math.min.name, Cond.fieldLink RX2 36 "StripDepths$Sheet" "strip" "[I", Cond.fieldLink RX2 41 "StripDepths$Sheet" "stripLength" "I", Cond.methodLink RL 77 yX6_wind, Cond.instanceMethod yX6_wind, Cond.selects RX6 yX6_wind yX6_wind, Cond.code yX6_wind cX6_wind 2 (some .int), Cond.methodLink RL 78 yX5_unwind, Cond.instanceMethod yX5_unwind, Cond.selects RX5 yX5_unwind yX5_unwind, Cond.code yX5_unwind cX5_unwind 2 (some .int), Cond.methodLink RL 81 yX6_unwind, Cond.instanceMethod yX6_unwind, Cond.selects RX6 yX6_unwind yX6_unwind]
def wsL_law_r24 : List Cond := [Cond.code yX6_unwind cX6_unwind 2 (some .int), Cond.methodLink RL 82 yX5_at, Cond.instanceMethod yX5_at, Cond.selects RX5 yX5_at yX5_at, Cond.code yX5_at cX5_at 4 (some .int), Cond.fieldLink RX5 149 "StripDepths$Look" "dots" "[I", Cond.fieldLink RX5 150 "StripDepths$Look" "seen" "[I", Cond.fieldLink RX5 156 "StripDepths$Look" "binders" "[I", Cond.fieldLink RX5 159 "StripDepths$Look" "chains" "[I", Cond.fieldLink RX5 165 "StripDepths$Look" "remembered" "[I", Cond.methodLink RX5 153 yX1_boundTo, Cond.methodLink RX5 162 yX1_placesOfChain, Cond.instanceMethod yX1_placesOfChain, Cond.selects RX1 yX1_placesOfChain yX1_placesOfChain, Cond.code yX1_placesOfChain cX1_placesOfChain 4 (some .int), Cond.methodLink RL 85 yX6_at, Cond.instanceMethod yX6_at, Cond.selects RX6 yX6_at yX6_at, Cond.code yX6_at cX6_at 4 (some .int), Cond.methodLink RX6 155 yX6_manyBoundTo, Cond.instanceMethod yX6_manyBoundTo, Cond.selects RX6 yX6_manyBoundTo yX6_manyBoundTo, Cond.code yX6_manyBoundTo cX6_manyBoundTo 5 (some .int), Cond.methodLink RX6 49 yX6_freeOf]
def wsL_law_r25 : List Cond := [Cond.instanceMethod yX6_freeOf, Cond.selects RX6 yX6_freeOf yX6_freeOf, Cond.code yX6_freeOf cX6_freeOf 4 (some .int), Cond.methodLink RX6 158 yX6_chain, Cond.instanceMethod yX6_chain, Cond.selects RX6 yX6_chain yX6_chain, Cond.code yX6_chain cX6_chain 5 (some .int), Cond.methodLink RL 86 yX5_fits, Cond.instanceMethod yX5_fits, Cond.selects RX5 yX5_fits yX5_fits, Cond.code yX5_fits cX5_fits 4 (some .int), Cond.methodLink RX5 166 yX1_isFitting, Cond.methodLink RL 89 yX6_fits, Cond.instanceMethod yX6_fits, Cond.selects RX6 yX6_fits yX6_fits, Cond.code yX6_fits cX6_fits 4 (some .int), Cond.methodLink RL 90 yX5_row, Cond.instanceMethod yX5_row, Cond.selects RX5 yX5_row yX5_row, Cond.code yX5_row cX5_row 3 (some .int), Cond.methodLink RX5 170 yX1_longestChain, Cond.instanceMethod yX1_longestChain, Cond.selects RX1 yX1_longestChain yX1_longestChain, Cond.code yX1_longestChain cX1_longestChain 3 (some .int)]
def wsL_law_r26 : List Cond := [Cond.methodLink RX1 114 yX1_placesOfChain, Cond.methodLink RX5 173 yX1_differentDots, Cond.instanceMethod yX1_differentDots, Cond.selects RX1 yX1_differentDots yX1_differentDots, Cond.code yX1_differentDots cX1_differentDots 3 (some .int), Cond.methodLink RX1 117 yJ6_bitCount_0f7a4, Cond.static yJ6_bitCount_0f7a4, Cond.initialized RJ6, Cond.code yJ6_bitCount_0f7a4 cJ6_bitCount_0f7a4 1 (some .int), Cond.constant RJ6 265 (1431655765), Cond.constant RJ6 266 (858993459), Cond.constant RJ6 267 (252645135), Cond.methodLink RX5 176 yX1_changesOfPlane, Cond.instanceMethod yX1_changesOfPlane, Cond.selects RX1 yX1_changesOfPlane yX1_changesOfPlane, Cond.code yX1_changesOfPlane cX1_changesOfPlane 4 (some .int), Cond.methodLink RL 93 yX6_row, Cond.instanceMethod yX6_row, Cond.selects RX6 yX6_row yX6_row, Cond.code yX6_row cX6_row 3 (some .int), Cond.methodLink RX6 167 yX6_many, Cond.instanceMethod yX6_many, Cond.selects RX6 yX6_many yX6_many, Cond.code yX6_many cX6_many 5 (some .int)]
def wsL_law_r27 : List Cond := [Cond.methodLink RX6 161 yX6_isOne, Cond.instanceMethod yX6_isOne, Cond.selects RX6 yX6_isOne yX6_isOne, Cond.code yX6_isOne cX6_isOne 5 (some .boolean), Cond.methodLink RX6 170 yX6_longestChain, Cond.instanceMethod yX6_longestChain, Cond.selects RX6 yX6_longestChain yX6_longestChain, Cond.code yX6_longestChain cX6_longestChain 4 (some .int), Cond.methodLink RX6 164 yX6_greater, Cond.static yX6_greater, Cond.code yX6_greater cX6_greater 2 (some .int), Cond.methodLink RX6 173 yX6_differentDots, Cond.instanceMethod yX6_differentDots, Cond.selects RX6 yX6_differentDots yX6_differentDots, Cond.code yX6_differentDots cX6_differentDots 6 (some .int), Cond.methodLink RX6 176 yX6_turnsOfPlane, Cond.instanceMethod yX6_turnsOfPlane, Cond.selects RX6 yX6_turnsOfPlane yX6_turnsOfPlane, Cond.code yX6_turnsOfPlane cX6_turnsOfPlane 5 (some .int), Cond.methodLink RL 94 yX5_echo, Cond.instanceMethod yX5_echo, Cond.selects RX5 yX5_echo yX5_echo, Cond.code yX5_echo cX5_echo 3 (some .int), Cond.methodLink RX5 182 yX1_echoOf]
def wsL_law_r28 : List Cond := [Cond.instanceMethod yX1_echoOf, Cond.selects RX1 yX1_echoOf yX1_echoOf, Cond.code yX1_echoOf cX1_echoOf 4 (some .int), Cond.methodLink RL 97 yX6_echo, Cond.instanceMethod yX6_echo, Cond.selects RX6 yX6_echo yX6_echo, Cond.code yX6_echo cX6_echo 3 (some .int), Cond.methodLink RX6 179 yX6_echoes, Cond.instanceMethod yX6_echoes, Cond.selects RX6 yX6_echoes yX6_echoes, Cond.code yX6_echoes cX6_echoes 5 (some .int), Cond.methodLink RL 98 yX5_echoAt, Cond.instanceMethod yX5_echoAt, Cond.selects RX5 yX5_echoAt yX5_echoAt, Cond.code yX5_echoAt cX5_echoAt 4 (some .int), Cond.methodLink RX5 185 yX5_rankedAt, Cond.instanceMethod yX5_rankedAt, Cond.selects RX5 yX5_rankedAt yX5_rankedAt, Cond.code yX5_rankedAt cX5_rankedAt 4 (some .int), Cond.methodLink RX5 251 yX5_rankOf, Cond.instanceMethod yX5_rankOf, Cond.selects RX5 yX5_rankOf yX5_rankOf, Cond.code yX5_rankOf cX5_rankOf 5 (some .int), Cond.methodLink RL 101 yX6_echoAt]
def wsL_law_r29 : List Cond := [Cond.instanceMethod yX6_echoAt, Cond.selects RX6 yX6_echoAt yX6_echoAt, Cond.code yX6_echoAt cX6_echoAt 8 (some .int), Cond.methodLink RL 102 yX5_faulty, Cond.instanceMethod yX5_faulty, Cond.selects RX5 yX5_faulty yX5_faulty, Cond.code yX5_faulty cX5_faulty 5 (some .int), Cond.methodLink RL 105 yX6_faulty, Cond.instanceMethod yX6_faulty, Cond.selects RX6 yX6_faulty yX6_faulty, Cond.code yX6_faulty cX6_faulty 7 (some .int), Cond.methodLink RX6 182 yX6_faults, Cond.instanceMethod yX6_faults, Cond.selects RX6 yX6_faults yX6_faults, Cond.code yX6_faults cX6_faults 3 (some .int), Cond.methodLink RL 106 yX5_plane, Cond.instanceMethod yX5_plane, Cond.selects RX5 yX5_plane yX5_plane, Cond.code yX5_plane cX5_plane 5 (some .int), Cond.methodLink RX5 188 yX1_numberOfPlane, Cond.instanceMethod yX1_numberOfPlane, Cond.selects RX1 yX1_numberOfPlane yX1_numberOfPlane, Cond.code yX1_numberOfPlane cX1_numberOfPlane 9 (some .int), Cond.methodLink RL 109 yX6_plane]
def wsL_law_r30 : List Cond := [Cond.instanceMethod yX6_plane, Cond.selects RX6 yX6_plane yX6_plane, Cond.code yX6_plane cX6_plane 10 (some .int), Cond.methodLink RL 110 yX5_pictures, Cond.instanceMethod yX5_pictures, Cond.selects RX5 yX5_pictures yX5_pictures, Cond.code yX5_pictures cX5_pictures 3 (some .int), Cond.methodLink RX5 191 arraycopyName, Cond.methodLink RX5 197 yX5_isNewPicture, Cond.instanceMethod yX5_isNewPicture, Cond.selects RX5 yX5_isNewPicture yX5_isNewPicture, Cond.code yX5_isNewPicture cX5_isNewPicture 3 (some .boolean), Cond.methodLink RX5 254 yX5_isSameView, Cond.instanceMethod yX5_isSameView, Cond.selects RX5 yX5_isSameView yX5_isSameView, Cond.code yX5_isSameView cX5_isSameView 4 (some .boolean), Cond.methodLink RL 113 yX6_pictures, Cond.instanceMethod yX6_pictures, Cond.selects RX6 yX6_pictures yX6_pictures, Cond.code yX6_pictures cX6_pictures 5 (some .int), Cond.methodLink RX6 188 yX6_likes, Cond.instanceMethod yX6_likes, Cond.selects RX6 yX6_likes yX6_likes, Cond.code yX6_likes cX6_likes 5 (some .int)]
def wsL_law_r31 : List Cond := [Cond.methodLink RX6 185 yX6_looksBeside, Cond.instanceMethod yX6_looksBeside, Cond.selects RX6 yX6_looksBeside yX6_looksBeside, Cond.code yX6_looksBeside cX6_looksBeside 3 none, Cond.methodLink RL 114 yX5_count, Cond.instanceMethod yX5_count, Cond.selects RX5 yX5_count yX5_count, Cond.code yX5_count cX5_count 2 (some .int), Cond.fieldLink RX5 203 "StripDepths$History" "states" "I", Cond.methodLink RX5 200 yX4_planesAboveZero, Cond.instanceMethod yX4_planesAboveZero, Cond.selects RX4 yX4_planesAboveZero yX4_planesAboveZero, Cond.code yX4_planesAboveZero cX4_planesAboveZero 3 (some .int), Cond.methodLink RX5 206 yX5_allPlacesOfKind, Cond.instanceMethod yX5_allPlacesOfKind, Cond.selects RX5 yX5_allPlacesOfKind yX5_allPlacesOfKind, Cond.code yX5_allPlacesOfKind cX5_allPlacesOfKind 4 (some .int), Cond.methodLink RL 117 yX6_count, Cond.instanceMethod yX6_count, Cond.selects RX6 yX6_count yX6_count, Cond.code yX6_count cX6_count 2 (some .int), Cond.methodLink RX6 191 yX6_overAll, Cond.instanceMethod yX6_overAll, Cond.selects RX6 yX6_overAll yX6_overAll]
def wsL_law_r32 : List Cond := [Cond.code yX6_overAll cX6_overAll 4 (some .int), Cond.methodLink RX6 194 yX6_raised, Cond.instanceMethod yX6_raised, Cond.selects RX6 yX6_raised yX6_raised, Cond.code yX6_raised cX6_raised 3 (some .int), Cond.methodLink RL 118 yX5_away, Cond.instanceMethod yX5_away, Cond.selects RX5 yX5_away yX5_away, Cond.code yX5_away cX5_away 5 (some .float), Cond.constantFloat RX5 209 (3212836864), Cond.methodLink RL 122 yX6_away, Cond.instanceMethod yX6_away, Cond.selects RX6 yX6_away yX6_away, Cond.code yX6_away cX6_away 4 (some .float), Cond.constantFloat RX6 197 (3212836864), Cond.methodLink RL 123 yX5_clearness, Cond.instanceMethod yX5_clearness, Cond.selects RX5 yX5_clearness yX5_clearness, Cond.code yX5_clearness cX5_clearness 2 (some .double), Cond.constantDouble RX5 210 (13830554455654793216), Cond.constantDouble RX5 212 (4629700416936869888), Cond.methodLink RL 127 yX6_clearness, Cond.instanceMethod yX6_clearness, Cond.selects RX6 yX6_clearness yX6_clearness]
def wsL_law_r33 : List Cond := [Cond.code yX6_clearness cX6_clearness 2 (some .double), Cond.constantDouble RX6 198 (4629700416936869888), Cond.constantDouble RX6 200 (13830554455654793216), Cond.methodLink RL 128 yX5_ifPainted, Cond.instanceMethod yX5_ifPainted, Cond.selects RX5 yX5_ifPainted yX5_ifPainted, Cond.code yX5_ifPainted cX5_ifPainted 5 (some .int), Cond.methodLink RX5 214 yX1_watch, Cond.methodLink RX5 217 yX1_placesSeenAs, Cond.instanceMethod yX1_placesSeenAs, Cond.selects RX1 yX1_placesSeenAs yX1_placesSeenAs, Cond.code yX1_placesSeenAs cX1_placesSeenAs 4 (some .int), Cond.methodLink RX5 221 yX1_farthestSeenOtherwise, Cond.instanceMethod yX1_farthestSeenOtherwise, Cond.selects RX1 yX1_farthestSeenOtherwise yX1_farthestSeenOtherwise, Cond.code yX1_farthestSeenOtherwise cX1_farthestSeenOtherwise 5 (some .int), Cond.methodLink RX1 122 Lib.Math.abs.name, Cond.static Lib.Math.abs.name, Cond.code Lib.Math.abs.name Lib.Math.abs.code 1 (some .int), Cond.methodLink RL 132 yX6_ifPainted, Cond.instanceMethod yX6_ifPainted, Cond.selects RX6 yX6_ifPainted yX6_ifPainted, Cond.code yX6_ifPainted cX6_ifPainted 10 (some .int), Cond.methodLink RL 133 yX5_ifPrinted]
def wsL_law_r34 : List Cond := [Cond.instanceMethod yX5_ifPrinted, Cond.selects RX5 yX5_ifPrinted yX5_ifPrinted, Cond.code yX5_ifPrinted cX5_ifPrinted 3 (some .int), Cond.methodLink RX5 225 yX5_rightIfPrinted, Cond.instanceMethod yX5_rightIfPrinted, Cond.selects RX5 yX5_rightIfPrinted yX5_rightIfPrinted, Cond.code yX5_rightIfPrinted cX5_rightIfPrinted 3 (some .int), Cond.fieldLink RX5 248 "StripDepths$Look" "period" "I", Cond.methodLink RL 136 yX6_ifPrinted, Cond.instanceMethod yX6_ifPrinted, Cond.selects RX6 yX6_ifPrinted yX6_ifPrinted, Cond.code yX6_ifPrinted cX6_ifPrinted 3 (some .int), Cond.methodLink RX6 205 yX6_rightBy, Cond.instanceMethod yX6_rightBy, Cond.selects RX6 yX6_rightBy yX6_rightBy, Cond.code yX6_rightBy cX6_rightBy 4 (some .int), Cond.methodLink RX6 202 yX6_putBack, Cond.instanceMethod yX6_putBack, Cond.selects RX6 yX6_putBack yX6_putBack, Cond.code yX6_putBack cX6_putBack 2 none, Cond.methodLink RL 137 yX5_shortest, Cond.instanceMethod yX5_shortest, Cond.selects RX5 yX5_shortest yX5_shortest, Cond.code yX5_shortest cX5_shortest 6 (some .int)]
def wsL_law_r35 : List Cond := [Cond.methodLink RL 140 yX6_shortest, Cond.instanceMethod yX6_shortest, Cond.selects RX6 yX6_shortest yX6_shortest, Cond.code yX6_shortest cX6_shortest 4 (some .int), Cond.methodLink RL 141 yX5_bestWindow, Cond.instanceMethod yX5_bestWindow, Cond.selects RX5 yX5_bestWindow yX5_bestWindow, Cond.code yX5_bestWindow cX5_bestWindow 6 (some .int), Cond.fieldLink RX5 228 "StripDepths$Look" "window" "I", Cond.methodLink RL 144 yX6_bestWindow, Cond.instanceMethod yX6_bestWindow, Cond.selects RX6 yX6_bestWindow yX6_bestWindow, Cond.code yX6_bestWindow cX6_bestWindow 4 (some .int), Cond.methodLink RX6 208 yX6_rightThrough, Cond.instanceMethod yX6_rightThrough, Cond.selects RX6 yX6_rightThrough yX6_rightThrough, Cond.code yX6_rightThrough cX6_rightThrough 5 (some .int), Cond.methodLink RL 145 yX5_alike, Cond.instanceMethod yX5_alike, Cond.selects RX5 yX5_alike yX5_alike, Cond.code yX5_alike cX5_alike 3 (some .int), Cond.methodLink RL 148 yX6_alike, Cond.instanceMethod yX6_alike, Cond.selects RX6 yX6_alike yX6_alike]
def wsL_law_r36 : List Cond := [Cond.code yX6_alike cX6_alike 3 (some .int), Cond.methodLink RL 149 yX5_undo, Cond.instanceMethod yX5_undo, Cond.selects RX5 yX5_undo yX5_undo, Cond.code yX5_undo cX5_undo 1 (some .int), Cond.methodLink RX5 231 yX0_takeBack, Cond.instanceMethod yX0_takeBack, Cond.selects RX0 yX0_takeBack yX0_takeBack, Cond.code yX0_takeBack cX0_takeBack 2 (some .boolean), Cond.methodLink RL 152 yX6_undo, Cond.instanceMethod yX6_undo, Cond.selects RX6 yX6_undo yX6_undo, Cond.code yX6_undo cX6_undo 2 (some .int), Cond.methodLink RL 153 yX5_save, Cond.instanceMethod yX5_save, Cond.selects RX5 yX5_save yX5_save, Cond.code yX5_save cX5_save 1 (some .int), Cond.fieldLink RX5 238 "StripDepths" "hasSnapshot" "Z", Cond.methodLink RX5 235 yX4_copyFrom, Cond.methodLink RL 156 yX6_save, Cond.instanceMethod yX6_save, Cond.selects RX6 yX6_save yX6_save, Cond.code yX6_save cX6_save 2 (some .int), Cond.fieldLink RX6 211 "StripDepthsModel" "isKept" "Z"]
def wsL_law_r37 : List Cond := [Cond.methodLink RX6 214 yX6_allRight, Cond.instanceMethod yX6_allRight, Cond.selects RX6 yX6_allRight yX6_allRight, Cond.code yX6_allRight cX6_allRight 3 (some .int), Cond.methodLink RL 157 yX5_restore, Cond.instanceMethod yX5_restore, Cond.selects RX5 yX5_restore yX5_restore, Cond.code yX5_restore cX5_restore 1 (some .int), Cond.methodLink RL 160 yX6_restore, Cond.instanceMethod yX6_restore, Cond.selects RX6 yX6_restore yX6_restore, Cond.code yX6_restore cX6_restore 2 (some .int)]
def wsL_law : List Cond := (wsL_law_r1 ++ (wsL_law_r2 ++ (wsL_law_r3 ++ (wsL_law_r4 ++ (wsL_law_r5 ++ (wsL_law_r6 ++ (wsL_law_r7 ++ (wsL_law_r8 ++ (wsL_law_r9 ++ (wsL_law_r10 ++ (wsL_law_r11 ++ (wsL_law_r12 ++ (wsL_law_r13 ++ (wsL_law_r14 ++ (wsL_law_r15 ++ (wsL_law_r16 ++ (wsL_law_r17 ++ (wsL_law_r18 ++ (wsL_law_r19 ++ (wsL_law_r20 ++ (wsL_law_r21 ++ (wsL_law_r22 ++ (wsL_law_r23 ++ (wsL_law_r24 ++ (wsL_law_r25 ++ (wsL_law_r26 ++ (wsL_law_r27 ++ (wsL_law_r28 ++ (wsL_law_r29 ++ (wsL_law_r30 ++ (wsL_law_r31 ++ (wsL_law_r32 ++ (wsL_law_r33 ++ (wsL_law_r34 ++ (wsL_law_r35 ++ (wsL_law_r36 ++ wsL_law_r37)))))))))))))))))))))))))))))))))))) ++ wsX50 ++ wsX60 ++ wsX40 ++ wsX00 ++ wsX20 ++ wsX10 ++ wsX30 ++ ([] : List Cond)
theorem inlX0 : ∀ w ∈ wsX00, w ∈ wsL_law := fun _ h => List.mem_append_left _ (List.mem_append_left _ (List.mem_append_left _ (List.mem_append_left _ (List.mem_append_right _ h))))
theorem inlX1 : ∀ w ∈ wsX10, w ∈ wsL_law := fun _ h => List.mem_append_left _ (List.mem_append_left _ (List.mem_append_right _ h))
theorem inlX2 : ∀ w ∈ wsX20, w ∈ wsL_law := fun _ h => List.mem_append_left _ (List.mem_append_left _ (List.mem_append_left _ (List.mem_append_right _ h)))
theorem inlX3 : ∀ w ∈ wsX30, w ∈ wsL_law := fun _ h => List.mem_append_left _ (List.mem_append_right _ h)
theorem inlX4 : ∀ w ∈ wsX40, w ∈ wsL_law := fun _ h => List.mem_append_left _ (List.mem_append_left _ (List.mem_append_left _ (List.mem_append_left _ (List.mem_append_left _ (List.mem_append_right _ h)))))
theorem inlX5 : ∀ w ∈ wsX50, w ∈ wsL_law := fun _ h => List.mem_append_left _ (List.mem_append_left _ (List.mem_append_left _ (List.mem_append_left _ (List.mem_append_left _ (List.mem_append_left _ (List.mem_append_left _ (List.mem_append_right _ h)))))))
theorem inlX6 : ∀ w ∈ wsX60, w ∈ wsL_law := fun _ h => List.mem_append_left _ (List.mem_append_left _ (List.mem_append_left _ (List.mem_append_left _ (List.mem_append_left _ (List.mem_append_left _ (List.mem_append_right _ h))))))
abbrev vwCl : List vw_C := [(RX0, TX0, 2), (RX1, TX1, 9), (RX2, TX2, 3), (RX3, TX3, 6), (RX4, TX4, 7), (RX5, TX5, 9), (RX6, TX6, 17)]
/-! a row for each word of the law's list -/
theorem inr_1 : ∀ w ∈ wsL_law_r1, w ∈ wsL_law := fun _ h => List.mem_append_left _ (List.mem_append_left _ (List.mem_append_left _ (List.mem_append_left _ (List.mem_append_left _ (List.mem_append_left _ (List.mem_append_left _ (List.mem_append_left _ (List.mem_append_left _ h))))))))
theorem qw_1_0 : Cond.classLink RL 7 RX5 ∈ wsL_law := inr_1 _ (List.mem_of_getElem? (i := 0) rfl)
theorem qw_1_1 : Cond.instantiable RX5 9 ∈ wsL_law := inr_1 _ (List.mem_of_getElem? (i := 1) rfl)
theorem qw_1_2 : Cond.initialized RX5 ∈ wsL_law := inr_1 _ (List.mem_of_getElem? (i := 2) rfl)
theorem qw_1_3 : Cond.classLink RL 10 RX6 ∈ wsL_law := inr_1 _ (List.mem_of_getElem? (i := 3) rfl)
theorem qw_1_4 : Cond.instantiable RX6 17 ∈ wsL_law := inr_1 _ (List.mem_of_getElem? (i := 4) rfl)
theorem qw_1_5 : Cond.initialized RX6 ∈ wsL_law := inr_1 _ (List.mem_of_getElem? (i := 5) rfl)
theorem qw_1_6 : Cond.methodLink RL 9 yX5_init ∈ wsL_law := inr_1 _ (List.mem_of_getElem? (i := 6) rfl)
theorem qw_1_7 : Cond.instanceMethod yX5_init ∈ wsL_law := inr_1 _ (List.mem_of_getElem? (i := 7) rfl)
theorem qw_1_8 : Cond.code yX5_init cX5_init 1 none ∈ wsL_law := inr_1 _ (List.mem_of_getElem? (i := 8) rfl)
theorem qw_1_9 : Cond.methodLink RX5 3 objectInit ∈ wsL_law := inr_1 _ (List.mem_of_getElem? (i := 9) rfl)
theorem qw_1_10 : Cond.instanceMethod objectInit ∈ wsL_law := inr_1 _ (List.mem_of_getElem? (i := 10) rfl)
theorem qw_1_11 : Cond.code objectInit ⟨#[0xb1]⟩ 1 none ∈ wsL_law := inr_1 _ (List.mem_of_getElem? (i := 11) rfl)
theorem qw_1_12 : Cond.classLink RX5 9 RX4 ∈ wsL_law := inr_1 _ (List.mem_of_getElem? (i := 12) rfl)
theorem qw_1_13 : Cond.instantiable RX4 7 ∈ wsL_law := inr_1 _ (List.mem_of_getElem? (i := 13) rfl)
theorem qw_1_14 : Cond.initialized RX4 ∈ wsL_law := inr_1 _ (List.mem_of_getElem? (i := 14) rfl)
theorem qw_1_15 : Cond.fieldLink RX5 12 "StripDepths" "now" "LStripDepths$Sheet;" ∈ wsL_law := inr_1 _ (List.mem_of_getElem? (i := 15) rfl)
theorem qw_1_16 : Cond.fieldLink RX5 16 "StripDepths" "snapshot" "LStripDepths$Sheet;" ∈ wsL_law := inr_1 _ (List.mem_of_getElem? (i := 16) rfl)
theorem qw_1_17 : Cond.classLink RX5 19 RX0 ∈ wsL_law := inr_1 _ (List.mem_of_getElem? (i := 17) rfl)
theorem qw_1_18 : Cond.instantiable RX0 2 ∈ wsL_law := inr_1 _ (List.mem_of_getElem? (i := 18) rfl)
theorem qw_1_19 : Cond.initialized RX0 ∈ wsL_law := inr_1 _ (List.mem_of_getElem? (i := 19) rfl)
theorem qw_1_20 : Cond.fieldLink RX5 22 "StripDepths" "history" "LStripDepths$History;" ∈ wsL_law := inr_1 _ (List.mem_of_getElem? (i := 20) rfl)
theorem qw_1_21 : Cond.classLink RX5 26 RX2 ∈ wsL_law := inr_1 _ (List.mem_of_getElem? (i := 21) rfl)
theorem qw_1_22 : Cond.instantiable RX2 3 ∈ wsL_law := inr_1 _ (List.mem_of_getElem? (i := 22) rfl)
theorem qw_1_23 : Cond.initialized RX2 ∈ wsL_law := inr_1 _ (List.mem_of_getElem? (i := 23) rfl)
theorem inr_2 : ∀ w ∈ wsL_law_r2, w ∈ wsL_law := fun _ h => List.mem_append_left _ (List.mem_append_left _ (List.mem_append_left _ (List.mem_append_left _ (List.mem_append_left _ (List.mem_append_left _ (List.mem_append_left _ (List.mem_append_left _ (List.mem_append_right _ (List.mem_append_left _ h)))))))))
theorem qw_2_0 : Cond.fieldLink RX5 29 "StripDepths" "pad" "LStripDepths$Pad;" ∈ wsL_law := inr_2 _ (List.mem_of_getElem? (i := 0) rfl)
theorem qw_2_1 : Cond.classLink RX5 33 RX1 ∈ wsL_law := inr_2 _ (List.mem_of_getElem? (i := 1) rfl)
theorem qw_2_2 : Cond.instantiable RX1 9 ∈ wsL_law := inr_2 _ (List.mem_of_getElem? (i := 2) rfl)
theorem qw_2_3 : Cond.initialized RX1 ∈ wsL_law := inr_2 _ (List.mem_of_getElem? (i := 3) rfl)
theorem qw_2_4 : Cond.fieldLink RX5 36 "StripDepths" "look" "LStripDepths$Look;" ∈ wsL_law := inr_2 _ (List.mem_of_getElem? (i := 4) rfl)
theorem qw_2_5 : Cond.fieldLink RX5 40 "StripDepths" "otherLook" "LStripDepths$Look;" ∈ wsL_law := inr_2 _ (List.mem_of_getElem? (i := 5) rfl)
theorem qw_2_6 : Cond.arrayClass .int ∈ wsL_law := inr_2 _ (List.mem_of_getElem? (i := 6) rfl)
theorem qw_2_7 : Cond.fieldLink RX5 43 "StripDepths" "views" "[I" ∈ wsL_law := inr_2 _ (List.mem_of_getElem? (i := 7) rfl)
theorem qw_2_8 : Cond.fieldLink RX5 47 "StripDepths" "ranked" "[I" ∈ wsL_law := inr_2 _ (List.mem_of_getElem? (i := 8) rfl)
theorem qw_2_9 : Cond.methodLink RX5 11 yX4_init ∈ wsL_law := inr_2 _ (List.mem_of_getElem? (i := 9) rfl)
theorem qw_2_10 : Cond.instanceMethod yX4_init ∈ wsL_law := inr_2 _ (List.mem_of_getElem? (i := 10) rfl)
theorem qw_2_11 : Cond.code yX4_init cX4_init 1 none ∈ wsL_law := inr_2 _ (List.mem_of_getElem? (i := 11) rfl)
theorem qw_2_12 : Cond.methodLink RX4 3 objectInit ∈ wsL_law := inr_2 _ (List.mem_of_getElem? (i := 12) rfl)
theorem qw_2_13 : Cond.fieldLink RX4 9 "StripDepths$Sheet" "planes" "[I" ∈ wsL_law := inr_2 _ (List.mem_of_getElem? (i := 13) rfl)
theorem qw_2_14 : Cond.fieldLink RX4 15 "StripDepths$Sheet" "dots" "[I" ∈ wsL_law := inr_2 _ (List.mem_of_getElem? (i := 14) rfl)
theorem qw_2_15 : Cond.fieldLink RX4 18 "StripDepths$Sheet" "remembered" "[I" ∈ wsL_law := inr_2 _ (List.mem_of_getElem? (i := 15) rfl)
theorem qw_2_16 : Cond.fieldLink RX4 21 "StripDepths$Sheet" "settings" "[I" ∈ wsL_law := inr_2 _ (List.mem_of_getElem? (i := 16) rfl)
theorem qw_2_17 : Cond.fieldLink RX4 24 "StripDepths$Sheet" "strip" "[I" ∈ wsL_law := inr_2 _ (List.mem_of_getElem? (i := 17) rfl)
theorem qw_2_18 : Cond.fieldLink RX4 27 "StripDepths$Sheet" "lot" "I" ∈ wsL_law := inr_2 _ (List.mem_of_getElem? (i := 18) rfl)
theorem qw_2_19 : Cond.methodLink RX4 40 arraycopyName ∈ wsL_law := inr_2 _ (List.mem_of_getElem? (i := 19) rfl)
theorem qw_2_20 : Cond.native arraycopyName ∈ wsL_law := inr_2 _ (List.mem_of_getElem? (i := 20) rfl)
theorem qw_2_21 : Cond.static arraycopyName ∈ wsL_law := inr_2 _ (List.mem_of_getElem? (i := 21) rfl)
theorem qw_2_22 : Cond.initialized "java/lang/System" ∈ wsL_law := inr_2 _ (List.mem_of_getElem? (i := 22) rfl)
theorem qw_2_23 : Cond.methodLink RX4 31 yJ7_fill_53178 ∈ wsL_law := inr_2 _ (List.mem_of_getElem? (i := 23) rfl)
theorem inr_3 : ∀ w ∈ wsL_law_r3, w ∈ wsL_law := fun _ h => List.mem_append_left _ (List.mem_append_left _ (List.mem_append_left _ (List.mem_append_left _ (List.mem_append_left _ (List.mem_append_left _ (List.mem_append_left _ (List.mem_append_left _ (List.mem_append_right _ (List.mem_append_right _ (List.mem_append_left _ h))))))))))
theorem qw_3_0 : Cond.static yJ7_fill_53178 ∈ wsL_law := inr_3 _ (List.mem_of_getElem? (i := 0) rfl)
theorem qw_3_1 : Cond.initialized RJ7 ∈ wsL_law := inr_3 _ (List.mem_of_getElem? (i := 1) rfl)
theorem qw_3_2 : Cond.code yJ7_fill_53178 cJ7_fill_53178 4 none ∈ wsL_law := inr_3 _ (List.mem_of_getElem? (i := 2) rfl)
theorem qw_3_3 : Cond.methodLink RX5 21 yX0_init ∈ wsL_law := inr_3 _ (List.mem_of_getElem? (i := 3) rfl)
theorem qw_3_4 : Cond.instanceMethod yX0_init ∈ wsL_law := inr_3 _ (List.mem_of_getElem? (i := 4) rfl)
theorem qw_3_5 : Cond.code yX0_init cX0_init 2 none ∈ wsL_law := inr_3 _ (List.mem_of_getElem? (i := 5) rfl)
theorem qw_3_6 : Cond.methodLink RX0 3 objectInit ∈ wsL_law := inr_3 _ (List.mem_of_getElem? (i := 6) rfl)
theorem qw_3_7 : Cond.classLink RX0 9 RX4 ∈ wsL_law := inr_3 _ (List.mem_of_getElem? (i := 7) rfl)
theorem qw_3_8 : Cond.fieldLink RX0 11 "StripDepths$History" "kept" "[LStripDepths$Sheet;" ∈ wsL_law := inr_3 _ (List.mem_of_getElem? (i := 8) rfl)
theorem qw_3_9 : Cond.methodLink RX0 17 yX4_init ∈ wsL_law := inr_3 _ (List.mem_of_getElem? (i := 9) rfl)
theorem qw_3_10 : Cond.instanceMethod yX2_init ∈ wsL_law := inr_3 _ (List.mem_of_getElem? (i := 10) rfl)
theorem qw_3_11 : Cond.code yX2_init cX2_init 1 none ∈ wsL_law := inr_3 _ (List.mem_of_getElem? (i := 11) rfl)
theorem qw_3_12 : Cond.methodLink RX2 3 objectInit ∈ wsL_law := inr_3 _ (List.mem_of_getElem? (i := 12) rfl)
theorem qw_3_13 : Cond.fieldLink RX2 9 "StripDepths$Pad" "codes" "[I" ∈ wsL_law := inr_3 _ (List.mem_of_getElem? (i := 13) rfl)
theorem qw_3_14 : Cond.classLink RX2 15 RX3 ∈ wsL_law := inr_3 _ (List.mem_of_getElem? (i := 14) rfl)
theorem qw_3_15 : Cond.instantiable RX3 6 ∈ wsL_law := inr_3 _ (List.mem_of_getElem? (i := 15) rfl)
theorem qw_3_16 : Cond.initialized RX3 ∈ wsL_law := inr_3 _ (List.mem_of_getElem? (i := 16) rfl)
theorem qw_3_17 : Cond.fieldLink RX2 18 "StripDepths$Pad" "reader" "LStripDepths$ShapeReader;" ∈ wsL_law := inr_3 _ (List.mem_of_getElem? (i := 17) rfl)
theorem qw_3_18 : Cond.instanceMethod yX3_init ∈ wsL_law := inr_3 _ (List.mem_of_getElem? (i := 18) rfl)
theorem qw_3_19 : Cond.code yX3_init cX3_init 1 none ∈ wsL_law := inr_3 _ (List.mem_of_getElem? (i := 19) rfl)
theorem qw_3_20 : Cond.methodLink RX3 3 objectInit ∈ wsL_law := inr_3 _ (List.mem_of_getElem? (i := 20) rfl)
theorem qw_3_21 : Cond.instanceMethod yX1_init ∈ wsL_law := inr_3 _ (List.mem_of_getElem? (i := 21) rfl)
theorem qw_3_22 : Cond.code yX1_init cX1_init 1 none ∈ wsL_law := inr_3 _ (List.mem_of_getElem? (i := 22) rfl)
theorem qw_3_23 : Cond.methodLink RX1 3 objectInit ∈ wsL_law := inr_3 _ (List.mem_of_getElem? (i := 23) rfl)
theorem inr_4 : ∀ w ∈ wsL_law_r4, w ∈ wsL_law := fun _ h => List.mem_append_left _ (List.mem_append_left _ (List.mem_append_left _ (List.mem_append_left _ (List.mem_append_left _ (List.mem_append_left _ (List.mem_append_left _ (List.mem_append_left _ (List.mem_append_right _ (List.mem_append_right _ (List.mem_append_right _ (List.mem_append_left _ h)))))))))))
theorem qw_4_0 : Cond.fieldLink RX1 9 "StripDepths$Look" "planes" "[I" ∈ wsL_law := inr_4 _ (List.mem_of_getElem? (i := 0) rfl)
theorem qw_4_1 : Cond.fieldLink RX1 15 "StripDepths$Look" "dots" "[I" ∈ wsL_law := inr_4 _ (List.mem_of_getElem? (i := 1) rfl)
theorem qw_4_2 : Cond.fieldLink RX1 18 "StripDepths$Look" "remembered" "[I" ∈ wsL_law := inr_4 _ (List.mem_of_getElem? (i := 2) rfl)
theorem qw_4_3 : Cond.fieldLink RX1 21 "StripDepths$Look" "seen" "[I" ∈ wsL_law := inr_4 _ (List.mem_of_getElem? (i := 3) rfl)
theorem qw_4_4 : Cond.fieldLink RX1 24 "StripDepths$Look" "binders" "[I" ∈ wsL_law := inr_4 _ (List.mem_of_getElem? (i := 4) rfl)
theorem qw_4_5 : Cond.fieldLink RX1 27 "StripDepths$Look" "chains" "[I" ∈ wsL_law := inr_4 _ (List.mem_of_getElem? (i := 5) rfl)
theorem qw_4_6 : Cond.methodLink RL 12 yX6_init ∈ wsL_law := inr_4 _ (List.mem_of_getElem? (i := 6) rfl)
theorem qw_4_7 : Cond.instanceMethod yX6_init ∈ wsL_law := inr_4 _ (List.mem_of_getElem? (i := 7) rfl)
theorem qw_4_8 : Cond.code yX6_init cX6_init 1 none ∈ wsL_law := inr_4 _ (List.mem_of_getElem? (i := 8) rfl)
theorem qw_4_9 : Cond.methodLink RX6 1 objectInit ∈ wsL_law := inr_4 _ (List.mem_of_getElem? (i := 9) rfl)
theorem qw_4_10 : Cond.fieldLink RX6 7 "StripDepthsModel" "s" "[I" ∈ wsL_law := inr_4 _ (List.mem_of_getElem? (i := 10) rfl)
theorem qw_4_11 : Cond.fieldLink RX6 13 "StripDepthsModel" "aside" "[I" ∈ wsL_law := inr_4 _ (List.mem_of_getElem? (i := 11) rfl)
theorem qw_4_12 : Cond.fieldLink RX6 16 "StripDepthsModel" "past" "[I" ∈ wsL_law := inr_4 _ (List.mem_of_getElem? (i := 12) rfl)
theorem qw_4_13 : Cond.fieldLink RX6 19 "StripDepthsModel" "snapshot" "[I" ∈ wsL_law := inr_4 _ (List.mem_of_getElem? (i := 13) rfl)
theorem qw_4_14 : Cond.fieldLink RX6 22 "StripDepthsModel" "pad" "[I" ∈ wsL_law := inr_4 _ (List.mem_of_getElem? (i := 14) rfl)
theorem qw_4_15 : Cond.fieldLink RX6 25 "StripDepthsModel" "seen" "[I" ∈ wsL_law := inr_4 _ (List.mem_of_getElem? (i := 15) rfl)
theorem qw_4_16 : Cond.fieldLink RX6 28 "StripDepthsModel" "other" "[I" ∈ wsL_law := inr_4 _ (List.mem_of_getElem? (i := 16) rfl)
theorem qw_4_17 : Cond.methodLink RL 13 yX5_lay ∈ wsL_law := inr_4 _ (List.mem_of_getElem? (i := 17) rfl)
theorem qw_4_18 : Cond.instanceMethod yX5_lay ∈ wsL_law := inr_4 _ (List.mem_of_getElem? (i := 18) rfl)
theorem qw_4_19 : Cond.selects RX5 yX5_lay yX5_lay ∈ wsL_law := inr_4 _ (List.mem_of_getElem? (i := 19) rfl)
theorem qw_4_20 : Cond.code yX5_lay cX5_lay 7 (some .int) ∈ wsL_law := inr_4 _ (List.mem_of_getElem? (i := 20) rfl)
theorem qw_4_21 : Cond.methodLink RX5 50 yX5_isRow ∈ wsL_law := inr_4 _ (List.mem_of_getElem? (i := 21) rfl)
theorem qw_4_22 : Cond.static yX5_isRow ∈ wsL_law := inr_4 _ (List.mem_of_getElem? (i := 22) rfl)
theorem qw_4_23 : Cond.code yX5_isRow cX5_isRow 1 (some .boolean) ∈ wsL_law := inr_4 _ (List.mem_of_getElem? (i := 23) rfl)
theorem inr_5 : ∀ w ∈ wsL_law_r5, w ∈ wsL_law := fun _ h => List.mem_append_left _ (List.mem_append_left _ (List.mem_append_left _ (List.mem_append_left _ (List.mem_append_left _ (List.mem_append_left _ (List.mem_append_left _ (List.mem_append_left _ (List.mem_append_right _ (List.mem_append_right _ (List.mem_append_right _ (List.mem_append_right _ (List.mem_append_left _ h))))))))))))
theorem qw_5_0 : Cond.methodLink RX5 54 yX5_isColumn ∈ wsL_law := inr_5 _ (List.mem_of_getElem? (i := 0) rfl)
theorem qw_5_1 : Cond.static yX5_isColumn ∈ wsL_law := inr_5 _ (List.mem_of_getElem? (i := 1) rfl)
theorem qw_5_2 : Cond.code yX5_isColumn cX5_isColumn 1 (some .boolean) ∈ wsL_law := inr_5 _ (List.mem_of_getElem? (i := 2) rfl)
theorem qw_5_3 : Cond.methodLink RX5 57 yX5_isPlane ∈ wsL_law := inr_5 _ (List.mem_of_getElem? (i := 3) rfl)
theorem qw_5_4 : Cond.static yX5_isPlane ∈ wsL_law := inr_5 _ (List.mem_of_getElem? (i := 4) rfl)
theorem qw_5_5 : Cond.code yX5_isPlane cX5_isPlane 1 (some .boolean) ∈ wsL_law := inr_5 _ (List.mem_of_getElem? (i := 5) rfl)
theorem qw_5_6 : Cond.methodLink RX5 60 yX0_record ∈ wsL_law := inr_5 _ (List.mem_of_getElem? (i := 6) rfl)
theorem qw_5_7 : Cond.instanceMethod yX0_record ∈ wsL_law := inr_5 _ (List.mem_of_getElem? (i := 7) rfl)
theorem qw_5_8 : Cond.selects RX0 yX0_record yX0_record ∈ wsL_law := inr_5 _ (List.mem_of_getElem? (i := 8) rfl)
theorem qw_5_9 : Cond.code yX0_record cX0_record 3 (some (.object "StripDepths$Sheet")) ∈ wsL_law := inr_5 _ (List.mem_of_getElem? (i := 9) rfl)
theorem qw_5_10 : Cond.fieldLink RX0 18 "StripDepths$History" "states" "I" ∈ wsL_law := inr_5 _ (List.mem_of_getElem? (i := 10) rfl)
theorem qw_5_11 : Cond.methodLink RX0 22 yX0_dropOldest ∈ wsL_law := inr_5 _ (List.mem_of_getElem? (i := 11) rfl)
theorem qw_5_12 : Cond.instanceMethod yX0_dropOldest ∈ wsL_law := inr_5 _ (List.mem_of_getElem? (i := 12) rfl)
theorem qw_5_13 : Cond.selects RX0 yX0_dropOldest yX0_dropOldest ∈ wsL_law := inr_5 _ (List.mem_of_getElem? (i := 13) rfl)
theorem qw_5_14 : Cond.code yX0_dropOldest cX0_dropOldest 3 none ∈ wsL_law := inr_5 _ (List.mem_of_getElem? (i := 14) rfl)
theorem qw_5_15 : Cond.methodLink RX0 25 yX4_copyFrom ∈ wsL_law := inr_5 _ (List.mem_of_getElem? (i := 15) rfl)
theorem qw_5_16 : Cond.instanceMethod yX4_copyFrom ∈ wsL_law := inr_5 _ (List.mem_of_getElem? (i := 16) rfl)
theorem qw_5_17 : Cond.selects RX4 yX4_copyFrom yX4_copyFrom ∈ wsL_law := inr_5 _ (List.mem_of_getElem? (i := 17) rfl)
theorem qw_5_18 : Cond.code yX4_copyFrom cX4_copyFrom 2 none ∈ wsL_law := inr_5 _ (List.mem_of_getElem? (i := 18) rfl)
theorem qw_5_19 : Cond.fieldLink RX4 46 "StripDepths$Sheet" "stripLength" "I" ∈ wsL_law := inr_5 _ (List.mem_of_getElem? (i := 19) rfl)
theorem qw_5_20 : Cond.methodLink RX5 64 yX4_layPlane ∈ wsL_law := inr_5 _ (List.mem_of_getElem? (i := 20) rfl)
theorem qw_5_21 : Cond.instanceMethod yX4_layPlane ∈ wsL_law := inr_5 _ (List.mem_of_getElem? (i := 21) rfl)
theorem qw_5_22 : Cond.selects RX4 yX4_layPlane yX4_layPlane ∈ wsL_law := inr_5 _ (List.mem_of_getElem? (i := 22) rfl)
theorem qw_5_23 : Cond.code yX4_layPlane cX4_layPlane 8 none ∈ wsL_law := inr_5 _ (List.mem_of_getElem? (i := 23) rfl)
theorem inr_6 : ∀ w ∈ wsL_law_r6, w ∈ wsL_law := fun _ h => List.mem_append_left _ (List.mem_append_left _ (List.mem_append_left _ (List.mem_append_left _ (List.mem_append_left _ (List.mem_append_left _ (List.mem_append_left _ (List.mem_append_left _ (List.mem_append_right _ (List.mem_append_right _ (List.mem_append_right _ (List.mem_append_right _ (List.mem_append_right _ (List.mem_append_left _ h)))))))))))))
theorem qw_6_0 : Cond.static yX5_placeOf ∈ wsL_law := inr_6 _ (List.mem_of_getElem? (i := 0) rfl)
theorem qw_6_1 : Cond.code yX5_placeOf cX5_placeOf 2 (some .int) ∈ wsL_law := inr_6 _ (List.mem_of_getElem? (i := 1) rfl)
theorem qw_6_2 : Cond.methodLink RX5 68 yX4_otherPlanesThan ∈ wsL_law := inr_6 _ (List.mem_of_getElem? (i := 2) rfl)
theorem qw_6_3 : Cond.instanceMethod yX4_otherPlanesThan ∈ wsL_law := inr_6 _ (List.mem_of_getElem? (i := 3) rfl)
theorem qw_6_4 : Cond.selects RX4 yX4_otherPlanesThan yX4_otherPlanesThan ∈ wsL_law := inr_6 _ (List.mem_of_getElem? (i := 4) rfl)
theorem qw_6_5 : Cond.code yX4_otherPlanesThan cX4_otherPlanesThan 2 (some .int) ∈ wsL_law := inr_6 _ (List.mem_of_getElem? (i := 5) rfl)
theorem qw_6_6 : Cond.methodLink RX4 60 yX4_differences ∈ wsL_law := inr_6 _ (List.mem_of_getElem? (i := 6) rfl)
theorem qw_6_7 : Cond.static yX4_differences ∈ wsL_law := inr_6 _ (List.mem_of_getElem? (i := 7) rfl)
theorem qw_6_8 : Cond.code yX4_differences cX4_differences 4 (some .int) ∈ wsL_law := inr_6 _ (List.mem_of_getElem? (i := 8) rfl)
theorem qw_6_9 : Cond.methodLink RL 17 yX6_lay ∈ wsL_law := inr_6 _ (List.mem_of_getElem? (i := 9) rfl)
theorem qw_6_10 : Cond.instanceMethod yX6_lay ∈ wsL_law := inr_6 _ (List.mem_of_getElem? (i := 10) rfl)
theorem qw_6_11 : Cond.selects RX6 yX6_lay yX6_lay ∈ wsL_law := inr_6 _ (List.mem_of_getElem? (i := 11) rfl)
theorem qw_6_12 : Cond.code yX6_lay cX6_lay 6 (some .int) ∈ wsL_law := inr_6 _ (List.mem_of_getElem? (i := 12) rfl)
theorem qw_6_13 : Cond.methodLink RX6 78 yX6_isRow ∈ wsL_law := inr_6 _ (List.mem_of_getElem? (i := 13) rfl)
theorem qw_6_14 : Cond.static yX6_isRow ∈ wsL_law := inr_6 _ (List.mem_of_getElem? (i := 14) rfl)
theorem qw_6_15 : Cond.code yX6_isRow cX6_isRow 1 (some .boolean) ∈ wsL_law := inr_6 _ (List.mem_of_getElem? (i := 15) rfl)
theorem qw_6_16 : Cond.methodLink RX6 31 yX6_in ∈ wsL_law := inr_6 _ (List.mem_of_getElem? (i := 16) rfl)
theorem qw_6_17 : Cond.static yX6_in ∈ wsL_law := inr_6 _ (List.mem_of_getElem? (i := 17) rfl)
theorem qw_6_18 : Cond.code yX6_in cX6_in 3 (some .boolean) ∈ wsL_law := inr_6 _ (List.mem_of_getElem? (i := 18) rfl)
theorem qw_6_19 : Cond.methodLink RX6 52 yX6_isColumn ∈ wsL_law := inr_6 _ (List.mem_of_getElem? (i := 19) rfl)
theorem qw_6_20 : Cond.static yX6_isColumn ∈ wsL_law := inr_6 _ (List.mem_of_getElem? (i := 20) rfl)
theorem qw_6_21 : Cond.code yX6_isColumn cX6_isColumn 1 (some .boolean) ∈ wsL_law := inr_6 _ (List.mem_of_getElem? (i := 21) rfl)
theorem qw_6_22 : Cond.methodLink RX6 81 yX6_records ∈ wsL_law := inr_6 _ (List.mem_of_getElem? (i := 22) rfl)
theorem qw_6_23 : Cond.instanceMethod yX6_records ∈ wsL_law := inr_6 _ (List.mem_of_getElem? (i := 23) rfl)
theorem inr_7 : ∀ w ∈ wsL_law_r7, w ∈ wsL_law := fun _ h => List.mem_append_left _ (List.mem_append_left _ (List.mem_append_left _ (List.mem_append_left _ (List.mem_append_left _ (List.mem_append_left _ (List.mem_append_left _ (List.mem_append_left _ (List.mem_append_right _ (List.mem_append_right _ (List.mem_append_right _ (List.mem_append_right _ (List.mem_append_right _ (List.mem_append_right _ (List.mem_append_left _ h))))))))))))))
theorem qw_7_0 : Cond.selects RX6 yX6_records yX6_records ∈ wsL_law := inr_7 _ (List.mem_of_getElem? (i := 0) rfl)
theorem qw_7_1 : Cond.code yX6_records cX6_records 2 none ∈ wsL_law := inr_7 _ (List.mem_of_getElem? (i := 1) rfl)
theorem qw_7_2 : Cond.fieldLink RX6 39 "StripDepthsModel" "pasts" "I" ∈ wsL_law := inr_7 _ (List.mem_of_getElem? (i := 2) rfl)
theorem qw_7_3 : Cond.methodLink RX6 84 yX6_putAside ∈ wsL_law := inr_7 _ (List.mem_of_getElem? (i := 3) rfl)
theorem qw_7_4 : Cond.instanceMethod yX6_putAside ∈ wsL_law := inr_7 _ (List.mem_of_getElem? (i := 4) rfl)
theorem qw_7_5 : Cond.selects RX6 yX6_putAside yX6_putAside ∈ wsL_law := inr_7 _ (List.mem_of_getElem? (i := 5) rfl)
theorem qw_7_6 : Cond.code yX6_putAside cX6_putAside 2 none ∈ wsL_law := inr_7 _ (List.mem_of_getElem? (i := 6) rfl)
theorem qw_7_7 : Cond.methodLink RX6 87 yX6_lays ∈ wsL_law := inr_7 _ (List.mem_of_getElem? (i := 7) rfl)
theorem qw_7_8 : Cond.instanceMethod yX6_lays ∈ wsL_law := inr_7 _ (List.mem_of_getElem? (i := 8) rfl)
theorem qw_7_9 : Cond.selects RX6 yX6_lays yX6_lays ∈ wsL_law := inr_7 _ (List.mem_of_getElem? (i := 9) rfl)
theorem qw_7_10 : Cond.code yX6_lays cX6_lays 8 none ∈ wsL_law := inr_7 _ (List.mem_of_getElem? (i := 10) rfl)
theorem qw_7_11 : Cond.methodLink RX6 35 yX6_place ∈ wsL_law := inr_7 _ (List.mem_of_getElem? (i := 11) rfl)
theorem qw_7_12 : Cond.static yX6_place ∈ wsL_law := inr_7 _ (List.mem_of_getElem? (i := 12) rfl)
theorem qw_7_13 : Cond.code yX6_place cX6_place 2 (some .int) ∈ wsL_law := inr_7 _ (List.mem_of_getElem? (i := 13) rfl)
theorem qw_7_14 : Cond.methodLink RX6 91 yX6_changed ∈ wsL_law := inr_7 _ (List.mem_of_getElem? (i := 14) rfl)
theorem qw_7_15 : Cond.instanceMethod yX6_changed ∈ wsL_law := inr_7 _ (List.mem_of_getElem? (i := 15) rfl)
theorem qw_7_16 : Cond.selects RX6 yX6_changed yX6_changed ∈ wsL_law := inr_7 _ (List.mem_of_getElem? (i := 16) rfl)
theorem qw_7_17 : Cond.code yX6_changed cX6_changed 4 (some .int) ∈ wsL_law := inr_7 _ (List.mem_of_getElem? (i := 17) rfl)
theorem qw_7_18 : Cond.methodLink RL 18 yX5_shift ∈ wsL_law := inr_7 _ (List.mem_of_getElem? (i := 18) rfl)
theorem qw_7_19 : Cond.instanceMethod yX5_shift ∈ wsL_law := inr_7 _ (List.mem_of_getElem? (i := 19) rfl)
theorem qw_7_20 : Cond.selects RX5 yX5_shift yX5_shift ∈ wsL_law := inr_7 _ (List.mem_of_getElem? (i := 20) rfl)
theorem qw_7_21 : Cond.code yX5_shift cX5_shift 7 (some .int) ∈ wsL_law := inr_7 _ (List.mem_of_getElem? (i := 21) rfl)
theorem qw_7_22 : Cond.fieldLink RX5 76 "StripDepths$Look" "planes" "[I" ∈ wsL_law := inr_7 _ (List.mem_of_getElem? (i := 22) rfl)
theorem qw_7_23 : Cond.fieldLink RX5 79 "StripDepths$Sheet" "planes" "[I" ∈ wsL_law := inr_7 _ (List.mem_of_getElem? (i := 23) rfl)
theorem inr_8 : ∀ w ∈ wsL_law_r8, w ∈ wsL_law := fun _ h => List.mem_append_left _ (List.mem_append_left _ (List.mem_append_left _ (List.mem_append_left _ (List.mem_append_left _ (List.mem_append_left _ (List.mem_append_left _ (List.mem_append_left _ (List.mem_append_right _ (List.mem_append_right _ (List.mem_append_right _ (List.mem_append_right _ (List.mem_append_right _ (List.mem_append_right _ (List.mem_append_right _ (List.mem_append_left _ h)))))))))))))))
theorem qw_8_0 : Cond.methodLink RX5 72 yX1_takeRow ∈ wsL_law := inr_8 _ (List.mem_of_getElem? (i := 0) rfl)
theorem qw_8_1 : Cond.instanceMethod yX1_takeRow ∈ wsL_law := inr_8 _ (List.mem_of_getElem? (i := 1) rfl)
theorem qw_8_2 : Cond.selects RX1 yX1_takeRow yX1_takeRow ∈ wsL_law := inr_8 _ (List.mem_of_getElem? (i := 2) rfl)
theorem qw_8_3 : Cond.code yX1_takeRow cX1_takeRow 4 none ∈ wsL_law := inr_8 _ (List.mem_of_getElem? (i := 3) rfl)
theorem qw_8_4 : Cond.fieldLink RX1 34 "StripDepths$Sheet" "planes" "[I" ∈ wsL_law := inr_8 _ (List.mem_of_getElem? (i := 4) rfl)
theorem qw_8_5 : Cond.methodLink RX1 37 arraycopyName ∈ wsL_law := inr_8 _ (List.mem_of_getElem? (i := 5) rfl)
theorem qw_8_6 : Cond.fieldLink RX1 43 "StripDepths$Sheet" "dots" "[I" ∈ wsL_law := inr_8 _ (List.mem_of_getElem? (i := 6) rfl)
theorem qw_8_7 : Cond.fieldLink RX1 44 "StripDepths$Sheet" "remembered" "[I" ∈ wsL_law := inr_8 _ (List.mem_of_getElem? (i := 7) rfl)
theorem qw_8_8 : Cond.fieldLink RX1 45 "StripDepths$Sheet" "settings" "[I" ∈ wsL_law := inr_8 _ (List.mem_of_getElem? (i := 8) rfl)
theorem qw_8_9 : Cond.fieldLink RX1 48 "StripDepths$Look" "period" "I" ∈ wsL_law := inr_8 _ (List.mem_of_getElem? (i := 9) rfl)
theorem qw_8_10 : Cond.fieldLink RX1 52 "StripDepths$Look" "window" "I" ∈ wsL_law := inr_8 _ (List.mem_of_getElem? (i := 10) rfl)
theorem qw_8_11 : Cond.fieldLink RX1 55 "StripDepths$Look" "crossed" "Z" ∈ wsL_law := inr_8 _ (List.mem_of_getElem? (i := 11) rfl)
theorem qw_8_12 : Cond.methodLink RX5 80 yX5_placeOf ∈ wsL_law := inr_8 _ (List.mem_of_getElem? (i := 12) rfl)
theorem qw_8_13 : Cond.methodLink RL 22 yX6_shift ∈ wsL_law := inr_8 _ (List.mem_of_getElem? (i := 13) rfl)
theorem qw_8_14 : Cond.instanceMethod yX6_shift ∈ wsL_law := inr_8 _ (List.mem_of_getElem? (i := 14) rfl)
theorem qw_8_15 : Cond.selects RX6 yX6_shift yX6_shift ∈ wsL_law := inr_8 _ (List.mem_of_getElem? (i := 15) rfl)
theorem qw_8_16 : Cond.code yX6_shift cX6_shift 6 (some .int) ∈ wsL_law := inr_8 _ (List.mem_of_getElem? (i := 16) rfl)
theorem qw_8_17 : Cond.methodLink RL 23 yX5_swap ∈ wsL_law := inr_8 _ (List.mem_of_getElem? (i := 17) rfl)
theorem qw_8_18 : Cond.instanceMethod yX5_swap ∈ wsL_law := inr_8 _ (List.mem_of_getElem? (i := 18) rfl)
theorem qw_8_19 : Cond.selects RX5 yX5_swap yX5_swap ∈ wsL_law := inr_8 _ (List.mem_of_getElem? (i := 19) rfl)
theorem qw_8_20 : Cond.code yX5_swap cX5_swap 5 (some .int) ∈ wsL_law := inr_8 _ (List.mem_of_getElem? (i := 20) rfl)
theorem qw_8_21 : Cond.methodLink RX5 84 yX1_putRow ∈ wsL_law := inr_8 _ (List.mem_of_getElem? (i := 21) rfl)
theorem qw_8_22 : Cond.instanceMethod yX1_putRow ∈ wsL_law := inr_8 _ (List.mem_of_getElem? (i := 22) rfl)
theorem qw_8_23 : Cond.selects RX1 yX1_putRow yX1_putRow ∈ wsL_law := inr_8 _ (List.mem_of_getElem? (i := 23) rfl)
theorem inr_9 : ∀ w ∈ wsL_law_r9, w ∈ wsL_law := fun _ h => List.mem_append_left _ (List.mem_append_left _ (List.mem_append_left _ (List.mem_append_left _ (List.mem_append_left _ (List.mem_append_left _ (List.mem_append_left _ (List.mem_append_left _ (List.mem_append_right _ (List.mem_append_right _ (List.mem_append_right _ (List.mem_append_right _ (List.mem_append_right _ (List.mem_append_right _ (List.mem_append_right _ (List.mem_append_right _ (List.mem_append_left _ h))))))))))))))))
theorem qw_9_0 : Cond.code yX1_putRow cX1_putRow 4 none ∈ wsL_law := inr_9 _ (List.mem_of_getElem? (i := 0) rfl)
theorem qw_9_1 : Cond.methodLink RL 26 yX6_swap ∈ wsL_law := inr_9 _ (List.mem_of_getElem? (i := 1) rfl)
theorem qw_9_2 : Cond.instanceMethod yX6_swap ∈ wsL_law := inr_9 _ (List.mem_of_getElem? (i := 2) rfl)
theorem qw_9_3 : Cond.selects RX6 yX6_swap yX6_swap ∈ wsL_law := inr_9 _ (List.mem_of_getElem? (i := 3) rfl)
theorem qw_9_4 : Cond.code yX6_swap cX6_swap 6 (some .int) ∈ wsL_law := inr_9 _ (List.mem_of_getElem? (i := 4) rfl)
theorem qw_9_5 : Cond.methodLink RX6 43 yX6_planeOf ∈ wsL_law := inr_9 _ (List.mem_of_getElem? (i := 5) rfl)
theorem qw_9_6 : Cond.instanceMethod yX6_planeOf ∈ wsL_law := inr_9 _ (List.mem_of_getElem? (i := 6) rfl)
theorem qw_9_7 : Cond.selects RX6 yX6_planeOf yX6_planeOf ∈ wsL_law := inr_9 _ (List.mem_of_getElem? (i := 7) rfl)
theorem qw_9_8 : Cond.code yX6_planeOf cX6_planeOf 3 (some .int) ∈ wsL_law := inr_9 _ (List.mem_of_getElem? (i := 8) rfl)
theorem qw_9_9 : Cond.methodLink RL 27 yX5_turn ∈ wsL_law := inr_9 _ (List.mem_of_getElem? (i := 9) rfl)
theorem qw_9_10 : Cond.instanceMethod yX5_turn ∈ wsL_law := inr_9 _ (List.mem_of_getElem? (i := 10) rfl)
theorem qw_9_11 : Cond.selects RX5 yX5_turn yX5_turn ∈ wsL_law := inr_9 _ (List.mem_of_getElem? (i := 11) rfl)
theorem qw_9_12 : Cond.code yX5_turn cX5_turn 2 (some .int) ∈ wsL_law := inr_9 _ (List.mem_of_getElem? (i := 12) rfl)
theorem qw_9_13 : Cond.methodLink RX5 87 yX1_turnRound ∈ wsL_law := inr_9 _ (List.mem_of_getElem? (i := 13) rfl)
theorem qw_9_14 : Cond.instanceMethod yX1_turnRound ∈ wsL_law := inr_9 _ (List.mem_of_getElem? (i := 14) rfl)
theorem qw_9_15 : Cond.selects RX1 yX1_turnRound yX1_turnRound ∈ wsL_law := inr_9 _ (List.mem_of_getElem? (i := 15) rfl)
theorem qw_9_16 : Cond.code yX1_turnRound cX1_turnRound 1 none ∈ wsL_law := inr_9 _ (List.mem_of_getElem? (i := 16) rfl)
theorem qw_9_17 : Cond.methodLink RX1 69 yX1_reverse ∈ wsL_law := inr_9 _ (List.mem_of_getElem? (i := 17) rfl)
theorem qw_9_18 : Cond.static yX1_reverse ∈ wsL_law := inr_9 _ (List.mem_of_getElem? (i := 18) rfl)
theorem qw_9_19 : Cond.code yX1_reverse cX1_reverse 4 none ∈ wsL_law := inr_9 _ (List.mem_of_getElem? (i := 19) rfl)
theorem qw_9_20 : Cond.methodLink RX5 90 yX5_rightPlaces ∈ wsL_law := inr_9 _ (List.mem_of_getElem? (i := 20) rfl)
theorem qw_9_21 : Cond.instanceMethod yX5_rightPlaces ∈ wsL_law := inr_9 _ (List.mem_of_getElem? (i := 21) rfl)
theorem qw_9_22 : Cond.selects RX5 yX5_rightPlaces yX5_rightPlaces ∈ wsL_law := inr_9 _ (List.mem_of_getElem? (i := 22) rfl)
theorem qw_9_23 : Cond.code yX5_rightPlaces cX5_rightPlaces 2 (some .int) ∈ wsL_law := inr_9 _ (List.mem_of_getElem? (i := 23) rfl)
theorem inr_10 : ∀ w ∈ wsL_law_r10, w ∈ wsL_law := fun _ h => List.mem_append_left _ (List.mem_append_left _ (List.mem_append_left _ (List.mem_append_left _ (List.mem_append_left _ (List.mem_append_left _ (List.mem_append_left _ (List.mem_append_left _ (List.mem_append_right _ (List.mem_append_right _ (List.mem_append_right _ (List.mem_append_right _ (List.mem_append_right _ (List.mem_append_right _ (List.mem_append_right _ (List.mem_append_right _ (List.mem_append_right _ (List.mem_append_left _ h)))))))))))))))))
theorem qw_10_0 : Cond.methodLink RX5 146 yX1_study ∈ wsL_law := inr_10 _ (List.mem_of_getElem? (i := 0) rfl)
theorem qw_10_1 : Cond.instanceMethod yX1_study ∈ wsL_law := inr_10 _ (List.mem_of_getElem? (i := 1) rfl)
theorem qw_10_2 : Cond.selects RX1 yX1_study yX1_study ∈ wsL_law := inr_10 _ (List.mem_of_getElem? (i := 2) rfl)
theorem qw_10_3 : Cond.code yX1_study cX1_study 3 none ∈ wsL_law := inr_10 _ (List.mem_of_getElem? (i := 3) rfl)
theorem qw_10_4 : Cond.methodLink RX1 59 yX1_takeRow ∈ wsL_law := inr_10 _ (List.mem_of_getElem? (i := 4) rfl)
theorem qw_10_5 : Cond.methodLink RX1 63 yX1_bind ∈ wsL_law := inr_10 _ (List.mem_of_getElem? (i := 5) rfl)
theorem qw_10_6 : Cond.instanceMethod yX1_bind ∈ wsL_law := inr_10 _ (List.mem_of_getElem? (i := 6) rfl)
theorem qw_10_7 : Cond.selects RX1 yX1_bind yX1_bind ∈ wsL_law := inr_10 _ (List.mem_of_getElem? (i := 7) rfl)
theorem qw_10_8 : Cond.code yX1_bind cX1_bind 3 none ∈ wsL_law := inr_10 _ (List.mem_of_getElem? (i := 8) rfl)
theorem qw_10_9 : Cond.methodLink RX1 73 yJ7_fill_53178 ∈ wsL_law := inr_10 _ (List.mem_of_getElem? (i := 9) rfl)
theorem qw_10_10 : Cond.methodLink RX1 82 yX1_boundTo ∈ wsL_law := inr_10 _ (List.mem_of_getElem? (i := 10) rfl)
theorem qw_10_11 : Cond.instanceMethod yX1_boundTo ∈ wsL_law := inr_10 _ (List.mem_of_getElem? (i := 11) rfl)
theorem qw_10_12 : Cond.selects RX1 yX1_boundTo yX1_boundTo ∈ wsL_law := inr_10 _ (List.mem_of_getElem? (i := 12) rfl)
theorem qw_10_13 : Cond.code yX1_boundTo cX1_boundTo 3 (some .int) ∈ wsL_law := inr_10 _ (List.mem_of_getElem? (i := 13) rfl)
theorem qw_10_14 : Cond.methodLink RX1 66 yX1_watch ∈ wsL_law := inr_10 _ (List.mem_of_getElem? (i := 14) rfl)
theorem qw_10_15 : Cond.instanceMethod yX1_watch ∈ wsL_law := inr_10 _ (List.mem_of_getElem? (i := 15) rfl)
theorem qw_10_16 : Cond.selects RX1 yX1_watch yX1_watch ∈ wsL_law := inr_10 _ (List.mem_of_getElem? (i := 16) rfl)
theorem qw_10_17 : Cond.code yX1_watch cX1_watch 4 none ∈ wsL_law := inr_10 _ (List.mem_of_getElem? (i := 17) rfl)
theorem qw_10_18 : Cond.methodLink RX1 92 yX1_nearestFitting ∈ wsL_law := inr_10 _ (List.mem_of_getElem? (i := 18) rfl)
theorem qw_10_19 : Cond.instanceMethod yX1_nearestFitting ∈ wsL_law := inr_10 _ (List.mem_of_getElem? (i := 19) rfl)
theorem qw_10_20 : Cond.selects RX1 yX1_nearestFitting yX1_nearestFitting ∈ wsL_law := inr_10 _ (List.mem_of_getElem? (i := 20) rfl)
theorem qw_10_21 : Cond.code yX1_nearestFitting cX1_nearestFitting 4 (some .int) ∈ wsL_law := inr_10 _ (List.mem_of_getElem? (i := 21) rfl)
theorem qw_10_22 : Cond.methodLink RX1 95 yX1_isFitting ∈ wsL_law := inr_10 _ (List.mem_of_getElem? (i := 22) rfl)
theorem qw_10_23 : Cond.instanceMethod yX1_isFitting ∈ wsL_law := inr_10 _ (List.mem_of_getElem? (i := 23) rfl)
theorem inr_11 : ∀ w ∈ wsL_law_r11, w ∈ wsL_law := fun _ h => List.mem_append_left _ (List.mem_append_left _ (List.mem_append_left _ (List.mem_append_left _ (List.mem_append_left _ (List.mem_append_left _ (List.mem_append_left _ (List.mem_append_left _ (List.mem_append_right _ (List.mem_append_right _ (List.mem_append_right _ (List.mem_append_right _ (List.mem_append_right _ (List.mem_append_right _ (List.mem_append_right _ (List.mem_append_right _ (List.mem_append_right _ (List.mem_append_right _ (List.mem_append_left _ h))))))))))))))))))
theorem qw_11_0 : Cond.selects RX1 yX1_isFitting yX1_isFitting ∈ wsL_law := inr_11 _ (List.mem_of_getElem? (i := 0) rfl)
theorem qw_11_1 : Cond.code yX1_isFitting cX1_isFitting 7 (some .boolean) ∈ wsL_law := inr_11 _ (List.mem_of_getElem? (i := 1) rfl)
theorem qw_11_2 : Cond.methodLink RX1 99 Lib.Math.max.name ∈ wsL_law := inr_11 _ (List.mem_of_getElem? (i := 2) rfl)
theorem qw_11_3 : Cond.static Lib.Math.max.name ∈ wsL_law := inr_11 _ (List.mem_of_getElem? (i := 3) rfl)
theorem qw_11_4 : Cond.initialized "java/lang/Math" ∈ wsL_law := inr_11 _ (List.mem_of_getElem? (i := 4) rfl)
theorem qw_11_5 : Cond.code Lib.Math.max.name Lib.Math.max.code 2 (some .int) ∈ wsL_law := inr_11 _ (List.mem_of_getElem? (i := 5) rfl)
theorem qw_11_6 : Cond.methodLink RX1 104 Lib.Math.min.name ∈ wsL_law := inr_11 _ (List.mem_of_getElem? (i := 6) rfl)
theorem qw_11_7 : Cond.static Lib.Math.min.name ∈ wsL_law := inr_11 _ (List.mem_of_getElem? (i := 7) rfl)
theorem qw_11_8 : Cond.code Lib.Math.min.name Lib.Math.min.code 2 (some .int) ∈ wsL_law := inr_11 _ (List.mem_of_getElem? (i := 8) rfl)
theorem qw_11_9 : Cond.methodLink RX5 179 yX1_placesOfKind ∈ wsL_law := inr_11 _ (List.mem_of_getElem? (i := 9) rfl)
theorem qw_11_10 : Cond.instanceMethod yX1_placesOfKind ∈ wsL_law := inr_11 _ (List.mem_of_getElem? (i := 10) rfl)
theorem qw_11_11 : Cond.selects RX1 yX1_placesOfKind yX1_placesOfKind ∈ wsL_law := inr_11 _ (List.mem_of_getElem? (i := 11) rfl)
theorem qw_11_12 : Cond.code yX1_placesOfKind cX1_placesOfKind 4 (some .int) ∈ wsL_law := inr_11 _ (List.mem_of_getElem? (i := 12) rfl)
theorem qw_11_13 : Cond.methodLink RX1 107 yX1_isOfKind ∈ wsL_law := inr_11 _ (List.mem_of_getElem? (i := 13) rfl)
theorem qw_11_14 : Cond.instanceMethod yX1_isOfKind ∈ wsL_law := inr_11 _ (List.mem_of_getElem? (i := 14) rfl)
theorem qw_11_15 : Cond.selects RX1 yX1_isOfKind yX1_isOfKind ∈ wsL_law := inr_11 _ (List.mem_of_getElem? (i := 15) rfl)
theorem qw_11_16 : Cond.code yX1_isOfKind cX1_isOfKind 3 (some .boolean) ∈ wsL_law := inr_11 _ (List.mem_of_getElem? (i := 16) rfl)
theorem qw_11_17 : Cond.methodLink RX1 110 yX1_isTorn ∈ wsL_law := inr_11 _ (List.mem_of_getElem? (i := 17) rfl)
theorem qw_11_18 : Cond.instanceMethod yX1_isTorn ∈ wsL_law := inr_11 _ (List.mem_of_getElem? (i := 18) rfl)
theorem qw_11_19 : Cond.selects RX1 yX1_isTorn yX1_isTorn ∈ wsL_law := inr_11 _ (List.mem_of_getElem? (i := 19) rfl)
theorem qw_11_20 : Cond.code yX1_isTorn cX1_isTorn 3 (some .boolean) ∈ wsL_law := inr_11 _ (List.mem_of_getElem? (i := 20) rfl)
theorem qw_11_21 : Cond.methodLink RL 31 yX6_turn ∈ wsL_law := inr_11 _ (List.mem_of_getElem? (i := 21) rfl)
theorem qw_11_22 : Cond.instanceMethod yX6_turn ∈ wsL_law := inr_11 _ (List.mem_of_getElem? (i := 22) rfl)
theorem qw_11_23 : Cond.selects RX6 yX6_turn yX6_turn ∈ wsL_law := inr_11 _ (List.mem_of_getElem? (i := 23) rfl)
theorem inr_12 : ∀ w ∈ wsL_law_r12, w ∈ wsL_law := fun _ h => List.mem_append_left _ (List.mem_append_left _ (List.mem_append_left _ (List.mem_append_left _ (List.mem_append_left _ (List.mem_append_left _ (List.mem_append_left _ (List.mem_append_left _ (List.mem_append_right _ (List.mem_append_right _ (List.mem_append_right _ (List.mem_append_right _ (List.mem_append_right _ (List.mem_append_right _ (List.mem_append_right _ (List.mem_append_right _ (List.mem_append_right _ (List.mem_append_right _ (List.mem_append_right _ (List.mem_append_left _ h)))))))))))))))))))
theorem qw_12_0 : Cond.code yX6_turn cX6_turn 4 (some .int) ∈ wsL_law := inr_12 _ (List.mem_of_getElem? (i := 0) rfl)
theorem qw_12_1 : Cond.methodLink RX6 74 yX6_rightOnes ∈ wsL_law := inr_12 _ (List.mem_of_getElem? (i := 1) rfl)
theorem qw_12_2 : Cond.instanceMethod yX6_rightOnes ∈ wsL_law := inr_12 _ (List.mem_of_getElem? (i := 2) rfl)
theorem qw_12_3 : Cond.selects RX6 yX6_rightOnes yX6_rightOnes ∈ wsL_law := inr_12 _ (List.mem_of_getElem? (i := 3) rfl)
theorem qw_12_4 : Cond.code yX6_rightOnes cX6_rightOnes 4 (some .int) ∈ wsL_law := inr_12 _ (List.mem_of_getElem? (i := 4) rfl)
theorem qw_12_5 : Cond.methodLink RX6 66 yX6_looks ∈ wsL_law := inr_12 _ (List.mem_of_getElem? (i := 5) rfl)
theorem qw_12_6 : Cond.instanceMethod yX6_looks ∈ wsL_law := inr_12 _ (List.mem_of_getElem? (i := 6) rfl)
theorem qw_12_7 : Cond.selects RX6 yX6_looks yX6_looks ∈ wsL_law := inr_12 _ (List.mem_of_getElem? (i := 7) rfl)
theorem qw_12_8 : Cond.code yX6_looks cX6_looks 5 none ∈ wsL_law := inr_12 _ (List.mem_of_getElem? (i := 8) rfl)
theorem qw_12_9 : Cond.methodLink RX6 62 yX6_nearest ∈ wsL_law := inr_12 _ (List.mem_of_getElem? (i := 9) rfl)
theorem qw_12_10 : Cond.instanceMethod yX6_nearest ∈ wsL_law := inr_12 _ (List.mem_of_getElem? (i := 10) rfl)
theorem qw_12_11 : Cond.selects RX6 yX6_nearest yX6_nearest ∈ wsL_law := inr_12 _ (List.mem_of_getElem? (i := 11) rfl)
theorem qw_12_12 : Cond.code yX6_nearest cX6_nearest 8 (some .int) ∈ wsL_law := inr_12 _ (List.mem_of_getElem? (i := 12) rfl)
theorem qw_12_13 : Cond.methodLink RX6 59 yX6_doesFit ∈ wsL_law := inr_12 _ (List.mem_of_getElem? (i := 13) rfl)
theorem qw_12_14 : Cond.instanceMethod yX6_doesFit ∈ wsL_law := inr_12 _ (List.mem_of_getElem? (i := 14) rfl)
theorem qw_12_15 : Cond.selects RX6 yX6_doesFit yX6_doesFit ∈ wsL_law := inr_12 _ (List.mem_of_getElem? (i := 15) rfl)
theorem qw_12_16 : Cond.code yX6_doesFit cX6_doesFit 8 (some .boolean) ∈ wsL_law := inr_12 _ (List.mem_of_getElem? (i := 16) rfl)
theorem qw_12_17 : Cond.methodLink RX6 56 yX6_dotOf ∈ wsL_law := inr_12 _ (List.mem_of_getElem? (i := 17) rfl)
theorem qw_12_18 : Cond.instanceMethod yX6_dotOf ∈ wsL_law := inr_12 _ (List.mem_of_getElem? (i := 18) rfl)
theorem qw_12_19 : Cond.selects RX6 yX6_dotOf yX6_dotOf ∈ wsL_law := inr_12 _ (List.mem_of_getElem? (i := 19) rfl)
theorem qw_12_20 : Cond.code yX6_dotOf cX6_dotOf 3 (some .int) ∈ wsL_law := inr_12 _ (List.mem_of_getElem? (i := 20) rfl)
theorem qw_12_21 : Cond.methodLink RX6 70 yX6_isRight ∈ wsL_law := inr_12 _ (List.mem_of_getElem? (i := 21) rfl)
theorem qw_12_22 : Cond.instanceMethod yX6_isRight ∈ wsL_law := inr_12 _ (List.mem_of_getElem? (i := 22) rfl)
theorem qw_12_23 : Cond.selects RX6 yX6_isRight yX6_isRight ∈ wsL_law := inr_12 _ (List.mem_of_getElem? (i := 23) rfl)
theorem inr_13 : ∀ w ∈ wsL_law_r13, w ∈ wsL_law := fun _ h => List.mem_append_left _ (List.mem_append_left _ (List.mem_append_left _ (List.mem_append_left _ (List.mem_append_left _ (List.mem_append_left _ (List.mem_append_left _ (List.mem_append_left _ (List.mem_append_right _ (List.mem_append_right _ (List.mem_append_right _ (List.mem_append_right _ (List.mem_append_right _ (List.mem_append_right _ (List.mem_append_right _ (List.mem_append_right _ (List.mem_append_right _ (List.mem_append_right _ (List.mem_append_right _ (List.mem_append_right _ (List.mem_append_left _ h))))))))))))))))))))
theorem qw_13_0 : Cond.code yX6_isRight cX6_isRight 3 (some .boolean) ∈ wsL_law := inr_13 _ (List.mem_of_getElem? (i := 0) rfl)
theorem qw_13_1 : Cond.methodLink RL 32 yX5_print ∈ wsL_law := inr_13 _ (List.mem_of_getElem? (i := 1) rfl)
theorem qw_13_2 : Cond.instanceMethod yX5_print ∈ wsL_law := inr_13 _ (List.mem_of_getElem? (i := 2) rfl)
theorem qw_13_3 : Cond.selects RX5 yX5_print yX5_print ∈ wsL_law := inr_13 _ (List.mem_of_getElem? (i := 3) rfl)
theorem qw_13_4 : Cond.code yX5_print cX5_print 3 (some .int) ∈ wsL_law := inr_13 _ (List.mem_of_getElem? (i := 4) rfl)
theorem qw_13_5 : Cond.methodLink RX5 94 yX5_printRow ∈ wsL_law := inr_13 _ (List.mem_of_getElem? (i := 5) rfl)
theorem qw_13_6 : Cond.instanceMethod yX5_printRow ∈ wsL_law := inr_13 _ (List.mem_of_getElem? (i := 6) rfl)
theorem qw_13_7 : Cond.selects RX5 yX5_printRow yX5_printRow ∈ wsL_law := inr_13 _ (List.mem_of_getElem? (i := 7) rfl)
theorem qw_13_8 : Cond.code yX5_printRow cX5_printRow 2 none ∈ wsL_law := inr_13 _ (List.mem_of_getElem? (i := 8) rfl)
theorem qw_13_9 : Cond.fieldLink RX5 119 "StripDepths$Sheet" "lot" "I" ∈ wsL_law := inr_13 _ (List.mem_of_getElem? (i := 9) rfl)
theorem qw_13_10 : Cond.methodLink RX5 242 yX1_printFrom ∈ wsL_law := inr_13 _ (List.mem_of_getElem? (i := 10) rfl)
theorem qw_13_11 : Cond.instanceMethod yX1_printFrom ∈ wsL_law := inr_13 _ (List.mem_of_getElem? (i := 11) rfl)
theorem qw_13_12 : Cond.selects RX1 yX1_printFrom yX1_printFrom ∈ wsL_law := inr_13 _ (List.mem_of_getElem? (i := 12) rfl)
theorem qw_13_13 : Cond.code yX1_printFrom cX1_printFrom 7 (some .int) ∈ wsL_law := inr_13 _ (List.mem_of_getElem? (i := 13) rfl)
theorem qw_13_14 : Cond.fieldLink RX1 79 "StripDepths$Sheet" "lot" "I" ∈ wsL_law := inr_13 _ (List.mem_of_getElem? (i := 14) rfl)
theorem qw_13_15 : Cond.fieldLink RX1 86 "StripDepths$Sheet" "stripLength" "I" ∈ wsL_law := inr_13 _ (List.mem_of_getElem? (i := 15) rfl)
theorem qw_13_16 : Cond.fieldLink RX1 89 "StripDepths$Sheet" "strip" "[I" ∈ wsL_law := inr_13 _ (List.mem_of_getElem? (i := 16) rfl)
theorem qw_13_17 : Cond.methodLink RX5 245 yX1_forgetSmudges ∈ wsL_law := inr_13 _ (List.mem_of_getElem? (i := 17) rfl)
theorem qw_13_18 : Cond.instanceMethod yX1_forgetSmudges ∈ wsL_law := inr_13 _ (List.mem_of_getElem? (i := 18) rfl)
theorem qw_13_19 : Cond.selects RX1 yX1_forgetSmudges yX1_forgetSmudges ∈ wsL_law := inr_13 _ (List.mem_of_getElem? (i := 19) rfl)
theorem qw_13_20 : Cond.code yX1_forgetSmudges cX1_forgetSmudges 1 none ∈ wsL_law := inr_13 _ (List.mem_of_getElem? (i := 20) rfl)
theorem qw_13_21 : Cond.methodLink RX5 98 yX4_otherDotsThan ∈ wsL_law := inr_13 _ (List.mem_of_getElem? (i := 21) rfl)
theorem qw_13_22 : Cond.instanceMethod yX4_otherDotsThan ∈ wsL_law := inr_13 _ (List.mem_of_getElem? (i := 22) rfl)
theorem qw_13_23 : Cond.selects RX4 yX4_otherDotsThan yX4_otherDotsThan ∈ wsL_law := inr_13 _ (List.mem_of_getElem? (i := 23) rfl)
theorem inr_14 : ∀ w ∈ wsL_law_r14, w ∈ wsL_law := fun _ h => List.mem_append_left _ (List.mem_append_left _ (List.mem_append_left _ (List.mem_append_left _ (List.mem_append_left _ (List.mem_append_left _ (List.mem_append_left _ (List.mem_append_left _ (List.mem_append_right _ (List.mem_append_right _ (List.mem_append_right _ (List.mem_append_right _ (List.mem_append_right _ (List.mem_append_right _ (List.mem_append_right _ (List.mem_append_right _ (List.mem_append_right _ (List.mem_append_right _ (List.mem_append_right _ (List.mem_append_right _ (List.mem_append_right _ (List.mem_append_left _ h)))))))))))))))))))))
theorem qw_14_0 : Cond.code yX4_otherDotsThan cX4_otherDotsThan 2 (some .int) ∈ wsL_law := inr_14 _ (List.mem_of_getElem? (i := 0) rfl)
theorem qw_14_1 : Cond.methodLink RL 35 yX6_print ∈ wsL_law := inr_14 _ (List.mem_of_getElem? (i := 1) rfl)
theorem qw_14_2 : Cond.instanceMethod yX6_print ∈ wsL_law := inr_14 _ (List.mem_of_getElem? (i := 2) rfl)
theorem qw_14_3 : Cond.selects RX6 yX6_print yX6_print ∈ wsL_law := inr_14 _ (List.mem_of_getElem? (i := 3) rfl)
theorem qw_14_4 : Cond.code yX6_print cX6_print 2 (some .int) ∈ wsL_law := inr_14 _ (List.mem_of_getElem? (i := 4) rfl)
theorem qw_14_5 : Cond.methodLink RX6 94 yX6_prints ∈ wsL_law := inr_14 _ (List.mem_of_getElem? (i := 5) rfl)
theorem qw_14_6 : Cond.instanceMethod yX6_prints ∈ wsL_law := inr_14 _ (List.mem_of_getElem? (i := 6) rfl)
theorem qw_14_7 : Cond.selects RX6 yX6_prints yX6_prints ∈ wsL_law := inr_14 _ (List.mem_of_getElem? (i := 7) rfl)
theorem qw_14_8 : Cond.code yX6_prints cX6_prints 6 none ∈ wsL_law := inr_14 _ (List.mem_of_getElem? (i := 8) rfl)
theorem qw_14_9 : Cond.methodLink RX6 46 yX6_boundTo ∈ wsL_law := inr_14 _ (List.mem_of_getElem? (i := 9) rfl)
theorem qw_14_10 : Cond.instanceMethod yX6_boundTo ∈ wsL_law := inr_14 _ (List.mem_of_getElem? (i := 10) rfl)
theorem qw_14_11 : Cond.selects RX6 yX6_boundTo yX6_boundTo ∈ wsL_law := inr_14 _ (List.mem_of_getElem? (i := 11) rfl)
theorem qw_14_12 : Cond.code yX6_boundTo cX6_boundTo 4 (some .int) ∈ wsL_law := inr_14 _ (List.mem_of_getElem? (i := 12) rfl)
theorem qw_14_13 : Cond.methodLink RL 36 yX5_printAll ∈ wsL_law := inr_14 _ (List.mem_of_getElem? (i := 13) rfl)
theorem qw_14_14 : Cond.instanceMethod yX5_printAll ∈ wsL_law := inr_14 _ (List.mem_of_getElem? (i := 14) rfl)
theorem qw_14_15 : Cond.selects RX5 yX5_printAll yX5_printAll ∈ wsL_law := inr_14 _ (List.mem_of_getElem? (i := 15) rfl)
theorem qw_14_16 : Cond.code yX5_printAll cX5_printAll 3 (some .int) ∈ wsL_law := inr_14 _ (List.mem_of_getElem? (i := 16) rfl)
theorem qw_14_17 : Cond.methodLink RL 40 yX6_printAll ∈ wsL_law := inr_14 _ (List.mem_of_getElem? (i := 17) rfl)
theorem qw_14_18 : Cond.instanceMethod yX6_printAll ∈ wsL_law := inr_14 _ (List.mem_of_getElem? (i := 18) rfl)
theorem qw_14_19 : Cond.selects RX6 yX6_printAll yX6_printAll ∈ wsL_law := inr_14 _ (List.mem_of_getElem? (i := 19) rfl)
theorem qw_14_20 : Cond.code yX6_printAll cX6_printAll 2 (some .int) ∈ wsL_law := inr_14 _ (List.mem_of_getElem? (i := 20) rfl)
theorem qw_14_21 : Cond.methodLink RL 41 yX5_paint ∈ wsL_law := inr_14 _ (List.mem_of_getElem? (i := 21) rfl)
theorem qw_14_22 : Cond.instanceMethod yX5_paint ∈ wsL_law := inr_14 _ (List.mem_of_getElem? (i := 22) rfl)
theorem qw_14_23 : Cond.selects RX5 yX5_paint yX5_paint ∈ wsL_law := inr_14 _ (List.mem_of_getElem? (i := 23) rfl)
theorem inr_15 : ∀ w ∈ wsL_law_r15, w ∈ wsL_law := fun _ h => List.mem_append_left _ (List.mem_append_left _ (List.mem_append_left _ (List.mem_append_left _ (List.mem_append_left _ (List.mem_append_left _ (List.mem_append_left _ (List.mem_append_left _ (List.mem_append_right _ (List.mem_append_right _ (List.mem_append_right _ (List.mem_append_right _ (List.mem_append_right _ (List.mem_append_right _ (List.mem_append_right _ (List.mem_append_right _ (List.mem_append_right _ (List.mem_append_right _ (List.mem_append_right _ (List.mem_append_right _ (List.mem_append_right _ (List.mem_append_right _ (List.mem_append_left _ h))))))))))))))))))))))
theorem qw_15_0 : Cond.code yX5_paint cX5_paint 6 (some .int) ∈ wsL_law := inr_15 _ (List.mem_of_getElem? (i := 0) rfl)
theorem qw_15_1 : Cond.fieldLink RX5 104 "StripDepths$Sheet" "dots" "[I" ∈ wsL_law := inr_15 _ (List.mem_of_getElem? (i := 1) rfl)
theorem qw_15_2 : Cond.fieldLink RX5 107 "StripDepths$Sheet" "remembered" "[I" ∈ wsL_law := inr_15 _ (List.mem_of_getElem? (i := 2) rfl)
theorem qw_15_3 : Cond.methodLink RX5 101 yX5_isDot ∈ wsL_law := inr_15 _ (List.mem_of_getElem? (i := 3) rfl)
theorem qw_15_4 : Cond.static yX5_isDot ∈ wsL_law := inr_15 _ (List.mem_of_getElem? (i := 4) rfl)
theorem qw_15_5 : Cond.code yX5_isDot cX5_isDot 1 (some .boolean) ∈ wsL_law := inr_15 _ (List.mem_of_getElem? (i := 5) rfl)
theorem qw_15_6 : Cond.methodLink RL 45 yX6_paint ∈ wsL_law := inr_15 _ (List.mem_of_getElem? (i := 6) rfl)
theorem qw_15_7 : Cond.instanceMethod yX6_paint ∈ wsL_law := inr_15 _ (List.mem_of_getElem? (i := 7) rfl)
theorem qw_15_8 : Cond.selects RX6 yX6_paint yX6_paint ∈ wsL_law := inr_15 _ (List.mem_of_getElem? (i := 8) rfl)
theorem qw_15_9 : Cond.code yX6_paint cX6_paint 6 (some .int) ∈ wsL_law := inr_15 _ (List.mem_of_getElem? (i := 9) rfl)
theorem qw_15_10 : Cond.methodLink RL 46 yX5_wipe ∈ wsL_law := inr_15 _ (List.mem_of_getElem? (i := 10) rfl)
theorem qw_15_11 : Cond.instanceMethod yX5_wipe ∈ wsL_law := inr_15 _ (List.mem_of_getElem? (i := 11) rfl)
theorem qw_15_12 : Cond.selects RX5 yX5_wipe yX5_wipe ∈ wsL_law := inr_15 _ (List.mem_of_getElem? (i := 12) rfl)
theorem qw_15_13 : Cond.code yX5_wipe cX5_wipe 5 (some .int) ∈ wsL_law := inr_15 _ (List.mem_of_getElem? (i := 13) rfl)
theorem qw_15_14 : Cond.methodLink RL 49 yX6_wipe ∈ wsL_law := inr_15 _ (List.mem_of_getElem? (i := 14) rfl)
theorem qw_15_15 : Cond.instanceMethod yX6_wipe ∈ wsL_law := inr_15 _ (List.mem_of_getElem? (i := 15) rfl)
theorem qw_15_16 : Cond.selects RX6 yX6_wipe yX6_wipe ∈ wsL_law := inr_15 _ (List.mem_of_getElem? (i := 16) rfl)
theorem qw_15_17 : Cond.code yX6_wipe cX6_wipe 5 (some .int) ∈ wsL_law := inr_15 _ (List.mem_of_getElem? (i := 17) rfl)
theorem qw_15_18 : Cond.methodLink RL 50 yX5_set ∈ wsL_law := inr_15 _ (List.mem_of_getElem? (i := 18) rfl)
theorem qw_15_19 : Cond.instanceMethod yX5_set ∈ wsL_law := inr_15 _ (List.mem_of_getElem? (i := 19) rfl)
theorem qw_15_20 : Cond.selects RX5 yX5_set yX5_set ∈ wsL_law := inr_15 _ (List.mem_of_getElem? (i := 20) rfl)
theorem qw_15_21 : Cond.code yX5_set cX5_set 4 (some .int) ∈ wsL_law := inr_15 _ (List.mem_of_getElem? (i := 21) rfl)
theorem qw_15_22 : Cond.fieldLink RX5 110 "StripDepths" "LEAST_VALUES" "[I" ∈ wsL_law := inr_15 _ (List.mem_of_getElem? (i := 22) rfl)
theorem qw_15_23 : Cond.fieldLink RX5 113 "StripDepths" "GREATEST_VALUES" "[I" ∈ wsL_law := inr_15 _ (List.mem_of_getElem? (i := 23) rfl)
theorem inr_16 : ∀ w ∈ wsL_law_r16, w ∈ wsL_law := fun _ h => List.mem_append_left _ (List.mem_append_left _ (List.mem_append_left _ (List.mem_append_left _ (List.mem_append_left _ (List.mem_append_left _ (List.mem_append_left _ (List.mem_append_left _ (List.mem_append_right _ (List.mem_append_right _ (List.mem_append_right _ (List.mem_append_right _ (List.mem_append_right _ (List.mem_append_right _ (List.mem_append_right _ (List.mem_append_right _ (List.mem_append_right _ (List.mem_append_right _ (List.mem_append_right _ (List.mem_append_right _ (List.mem_append_right _ (List.mem_append_right _ (List.mem_append_right _ (List.mem_append_left _ h)))))))))))))))))))))))
theorem qw_16_0 : Cond.fieldLink RX5 116 "StripDepths$Sheet" "settings" "[I" ∈ wsL_law := inr_16 _ (List.mem_of_getElem? (i := 0) rfl)
theorem qw_16_1 : Cond.methodLink RL 53 yX6_set ∈ wsL_law := inr_16 _ (List.mem_of_getElem? (i := 1) rfl)
theorem qw_16_2 : Cond.instanceMethod yX6_set ∈ wsL_law := inr_16 _ (List.mem_of_getElem? (i := 2) rfl)
theorem qw_16_3 : Cond.selects RX6 yX6_set yX6_set ∈ wsL_law := inr_16 _ (List.mem_of_getElem? (i := 3) rfl)
theorem qw_16_4 : Cond.code yX6_set cX6_set 4 (some .int) ∈ wsL_law := inr_16 _ (List.mem_of_getElem? (i := 4) rfl)
theorem qw_16_5 : Cond.methodLink RX6 97 yX6_leastOf ∈ wsL_law := inr_16 _ (List.mem_of_getElem? (i := 5) rfl)
theorem qw_16_6 : Cond.static yX6_leastOf ∈ wsL_law := inr_16 _ (List.mem_of_getElem? (i := 6) rfl)
theorem qw_16_7 : Cond.code yX6_leastOf cX6_leastOf 1 (some .int) ∈ wsL_law := inr_16 _ (List.mem_of_getElem? (i := 7) rfl)
theorem qw_16_8 : Cond.methodLink RX6 100 yX6_mostOf ∈ wsL_law := inr_16 _ (List.mem_of_getElem? (i := 8) rfl)
theorem qw_16_9 : Cond.static yX6_mostOf ∈ wsL_law := inr_16 _ (List.mem_of_getElem? (i := 9) rfl)
theorem qw_16_10 : Cond.code yX6_mostOf cX6_mostOf 1 (some .int) ∈ wsL_law := inr_16 _ (List.mem_of_getElem? (i := 10) rfl)
theorem qw_16_11 : Cond.methodLink RL 54 yX5_lot ∈ wsL_law := inr_16 _ (List.mem_of_getElem? (i := 11) rfl)
theorem qw_16_12 : Cond.instanceMethod yX5_lot ∈ wsL_law := inr_16 _ (List.mem_of_getElem? (i := 12) rfl)
theorem qw_16_13 : Cond.selects RX5 yX5_lot yX5_lot ∈ wsL_law := inr_16 _ (List.mem_of_getElem? (i := 13) rfl)
theorem qw_16_14 : Cond.code yX5_lot cX5_lot 3 (some .int) ∈ wsL_law := inr_16 _ (List.mem_of_getElem? (i := 14) rfl)
theorem qw_16_15 : Cond.methodLink RL 57 yX6_lot ∈ wsL_law := inr_16 _ (List.mem_of_getElem? (i := 15) rfl)
theorem qw_16_16 : Cond.instanceMethod yX6_lot ∈ wsL_law := inr_16 _ (List.mem_of_getElem? (i := 16) rfl)
theorem qw_16_17 : Cond.selects RX6 yX6_lot yX6_lot ∈ wsL_law := inr_16 _ (List.mem_of_getElem? (i := 17) rfl)
theorem qw_16_18 : Cond.code yX6_lot cX6_lot 3 (some .int) ∈ wsL_law := inr_16 _ (List.mem_of_getElem? (i := 18) rfl)
theorem qw_16_19 : Cond.methodLink RL 58 yX5_append ∈ wsL_law := inr_16 _ (List.mem_of_getElem? (i := 19) rfl)
theorem qw_16_20 : Cond.instanceMethod yX5_append ∈ wsL_law := inr_16 _ (List.mem_of_getElem? (i := 20) rfl)
theorem qw_16_21 : Cond.selects RX5 yX5_append yX5_append ∈ wsL_law := inr_16 _ (List.mem_of_getElem? (i := 21) rfl)
theorem qw_16_22 : Cond.code yX5_append cX5_append 2 (some .int) ∈ wsL_law := inr_16 _ (List.mem_of_getElem? (i := 22) rfl)
theorem qw_16_23 : Cond.fieldLink RX5 126 "StripDepths$Pad" "length" "I" ∈ wsL_law := inr_16 _ (List.mem_of_getElem? (i := 23) rfl)
theorem inr_17 : ∀ w ∈ wsL_law_r17, w ∈ wsL_law := fun _ h => List.mem_append_left _ (List.mem_append_left _ (List.mem_append_left _ (List.mem_append_left _ (List.mem_append_left _ (List.mem_append_left _ (List.mem_append_left _ (List.mem_append_left _ (List.mem_append_right _ (List.mem_append_right _ (List.mem_append_right _ (List.mem_append_right _ (List.mem_append_right _ (List.mem_append_right _ (List.mem_append_right _ (List.mem_append_right _ (List.mem_append_right _ (List.mem_append_right _ (List.mem_append_right _ (List.mem_append_right _ (List.mem_append_right _ (List.mem_append_right _ (List.mem_append_right _ (List.mem_append_right _ (List.mem_append_left _ h))))))))))))))))))))))))
theorem qw_17_0 : Cond.methodLink RX5 123 yX2_add ∈ wsL_law := inr_17 _ (List.mem_of_getElem? (i := 0) rfl)
theorem qw_17_1 : Cond.instanceMethod yX2_add ∈ wsL_law := inr_17 _ (List.mem_of_getElem? (i := 1) rfl)
theorem qw_17_2 : Cond.selects RX2 yX2_add yX2_add ∈ wsL_law := inr_17 _ (List.mem_of_getElem? (i := 2) rfl)
theorem qw_17_3 : Cond.code yX2_add cX2_add 2 (some .boolean) ∈ wsL_law := inr_17 _ (List.mem_of_getElem? (i := 3) rfl)
theorem qw_17_4 : Cond.fieldLink RX2 22 "StripDepths$Pad" "length" "I" ∈ wsL_law := inr_17 _ (List.mem_of_getElem? (i := 4) rfl)
theorem qw_17_5 : Cond.methodLink RL 61 yX6_append ∈ wsL_law := inr_17 _ (List.mem_of_getElem? (i := 5) rfl)
theorem qw_17_6 : Cond.instanceMethod yX6_append ∈ wsL_law := inr_17 _ (List.mem_of_getElem? (i := 6) rfl)
theorem qw_17_7 : Cond.selects RX6 yX6_append yX6_append ∈ wsL_law := inr_17 _ (List.mem_of_getElem? (i := 7) rfl)
theorem qw_17_8 : Cond.code yX6_append cX6_append 2 (some .int) ∈ wsL_law := inr_17 _ (List.mem_of_getElem? (i := 8) rfl)
theorem qw_17_9 : Cond.fieldLink RX6 103 "StripDepthsModel" "length" "I" ∈ wsL_law := inr_17 _ (List.mem_of_getElem? (i := 9) rfl)
theorem qw_17_10 : Cond.methodLink RL 62 yX5_clear ∈ wsL_law := inr_17 _ (List.mem_of_getElem? (i := 10) rfl)
theorem qw_17_11 : Cond.instanceMethod yX5_clear ∈ wsL_law := inr_17 _ (List.mem_of_getElem? (i := 11) rfl)
theorem qw_17_12 : Cond.selects RX5 yX5_clear yX5_clear ∈ wsL_law := inr_17 _ (List.mem_of_getElem? (i := 12) rfl)
theorem qw_17_13 : Cond.code yX5_clear cX5_clear 2 (some .int) ∈ wsL_law := inr_17 _ (List.mem_of_getElem? (i := 13) rfl)
theorem qw_17_14 : Cond.methodLink RL 65 yX6_clear ∈ wsL_law := inr_17 _ (List.mem_of_getElem? (i := 14) rfl)
theorem qw_17_15 : Cond.instanceMethod yX6_clear ∈ wsL_law := inr_17 _ (List.mem_of_getElem? (i := 15) rfl)
theorem qw_17_16 : Cond.selects RX6 yX6_clear yX6_clear ∈ wsL_law := inr_17 _ (List.mem_of_getElem? (i := 16) rfl)
theorem qw_17_17 : Cond.code yX6_clear cX6_clear 2 (some .int) ∈ wsL_law := inr_17 _ (List.mem_of_getElem? (i := 17) rfl)
theorem qw_17_18 : Cond.methodLink RL 66 yX5_fault ∈ wsL_law := inr_17 _ (List.mem_of_getElem? (i := 18) rfl)
theorem qw_17_19 : Cond.instanceMethod yX5_fault ∈ wsL_law := inr_17 _ (List.mem_of_getElem? (i := 19) rfl)
theorem qw_17_20 : Cond.selects RX5 yX5_fault yX5_fault ∈ wsL_law := inr_17 _ (List.mem_of_getElem? (i := 20) rfl)
theorem qw_17_21 : Cond.code yX5_fault cX5_fault 2 (some .int) ∈ wsL_law := inr_17 _ (List.mem_of_getElem? (i := 21) rfl)
theorem qw_17_22 : Cond.methodLink RX5 129 yX2_faultAsShapes ∈ wsL_law := inr_17 _ (List.mem_of_getElem? (i := 22) rfl)
theorem qw_17_23 : Cond.instanceMethod yX2_faultAsShapes ∈ wsL_law := inr_17 _ (List.mem_of_getElem? (i := 23) rfl)
theorem inr_18 : ∀ w ∈ wsL_law_r18, w ∈ wsL_law := fun _ h => List.mem_append_left _ (List.mem_append_left _ (List.mem_append_left _ (List.mem_append_left _ (List.mem_append_left _ (List.mem_append_left _ (List.mem_append_left _ (List.mem_append_left _ (List.mem_append_right _ (List.mem_append_right _ (List.mem_append_right _ (List.mem_append_right _ (List.mem_append_right _ (List.mem_append_right _ (List.mem_append_right _ (List.mem_append_right _ (List.mem_append_right _ (List.mem_append_right _ (List.mem_append_right _ (List.mem_append_right _ (List.mem_append_right _ (List.mem_append_right _ (List.mem_append_right _ (List.mem_append_right _ (List.mem_append_right _ (List.mem_append_left _ h)))))))))))))))))))))))))
theorem qw_18_0 : Cond.selects RX2 yX2_faultAsShapes yX2_faultAsShapes ∈ wsL_law := inr_18 _ (List.mem_of_getElem? (i := 0) rfl)
theorem qw_18_1 : Cond.code yX2_faultAsShapes cX2_faultAsShapes 2 (some .int) ∈ wsL_law := inr_18 _ (List.mem_of_getElem? (i := 1) rfl)
theorem qw_18_2 : Cond.methodLink RX2 44 yX3_begin ∈ wsL_law := inr_18 _ (List.mem_of_getElem? (i := 2) rfl)
theorem qw_18_3 : Cond.instanceMethod yX3_begin ∈ wsL_law := inr_18 _ (List.mem_of_getElem? (i := 3) rfl)
theorem qw_18_4 : Cond.selects RX3 yX3_begin yX3_begin ∈ wsL_law := inr_18 _ (List.mem_of_getElem? (i := 4) rfl)
theorem qw_18_5 : Cond.code yX3_begin cX3_begin 1 none ∈ wsL_law := inr_18 _ (List.mem_of_getElem? (i := 5) rfl)
theorem qw_18_6 : Cond.fieldLink RX3 11 "StripDepths$ShapeReader" "stage" "I" ∈ wsL_law := inr_18 _ (List.mem_of_getElem? (i := 6) rfl)
theorem qw_18_7 : Cond.methodLink RX2 47 yX3_takes ∈ wsL_law := inr_18 _ (List.mem_of_getElem? (i := 7) rfl)
theorem qw_18_8 : Cond.instanceMethod yX3_takes ∈ wsL_law := inr_18 _ (List.mem_of_getElem? (i := 8) rfl)
theorem qw_18_9 : Cond.selects RX3 yX3_takes yX3_takes ∈ wsL_law := inr_18 _ (List.mem_of_getElem? (i := 9) rfl)
theorem qw_18_10 : Cond.code yX3_takes cX3_takes 3 (some .boolean) ∈ wsL_law := inr_18 _ (List.mem_of_getElem? (i := 10) rfl)
theorem qw_18_11 : Cond.methodLink RX3 15 yX3_takesTop ∈ wsL_law := inr_18 _ (List.mem_of_getElem? (i := 11) rfl)
theorem qw_18_12 : Cond.instanceMethod yX3_takesTop ∈ wsL_law := inr_18 _ (List.mem_of_getElem? (i := 12) rfl)
theorem qw_18_13 : Cond.selects RX3 yX3_takesTop yX3_takesTop ∈ wsL_law := inr_18 _ (List.mem_of_getElem? (i := 13) rfl)
theorem qw_18_14 : Cond.code yX3_takesTop cX3_takesTop 2 (some .boolean) ∈ wsL_law := inr_18 _ (List.mem_of_getElem? (i := 14) rfl)
theorem qw_18_15 : Cond.fieldLink RX3 44 "StripDepths$ShapeReader" "top" "I" ∈ wsL_law := inr_18 _ (List.mem_of_getElem? (i := 15) rfl)
theorem qw_18_16 : Cond.fieldLink RX3 47 "StripDepths$ShapeReader" "bottom" "I" ∈ wsL_law := inr_18 _ (List.mem_of_getElem? (i := 16) rfl)
theorem qw_18_17 : Cond.methodLink RX3 19 yX3_goesOn ∈ wsL_law := inr_18 _ (List.mem_of_getElem? (i := 17) rfl)
theorem qw_18_18 : Cond.instanceMethod yX3_goesOn ∈ wsL_law := inr_18 _ (List.mem_of_getElem? (i := 18) rfl)
theorem qw_18_19 : Cond.selects RX3 yX3_goesOn yX3_goesOn ∈ wsL_law := inr_18 _ (List.mem_of_getElem? (i := 19) rfl)
theorem qw_18_20 : Cond.code yX3_goesOn cX3_goesOn 2 (some .boolean) ∈ wsL_law := inr_18 _ (List.mem_of_getElem? (i := 20) rfl)
theorem qw_18_21 : Cond.methodLink RX3 22 yX3_takesBottom ∈ wsL_law := inr_18 _ (List.mem_of_getElem? (i := 21) rfl)
theorem qw_18_22 : Cond.instanceMethod yX3_takesBottom ∈ wsL_law := inr_18 _ (List.mem_of_getElem? (i := 22) rfl)
theorem qw_18_23 : Cond.selects RX3 yX3_takesBottom yX3_takesBottom ∈ wsL_law := inr_18 _ (List.mem_of_getElem? (i := 23) rfl)
theorem inr_19 : ∀ w ∈ wsL_law_r19, w ∈ wsL_law := fun _ h => List.mem_append_left _ (List.mem_append_left _ (List.mem_append_left _ (List.mem_append_left _ (List.mem_append_left _ (List.mem_append_left _ (List.mem_append_left _ (List.mem_append_left _ (List.mem_append_right _ (List.mem_append_right _ (List.mem_append_right _ (List.mem_append_right _ (List.mem_append_right _ (List.mem_append_right _ (List.mem_append_right _ (List.mem_append_right _ (List.mem_append_right _ (List.mem_append_right _ (List.mem_append_right _ (List.mem_append_right _ (List.mem_append_right _ (List.mem_append_right _ (List.mem_append_right _ (List.mem_append_right _ (List.mem_append_right _ (List.mem_append_right _ (List.mem_append_left _ h))))))))))))))))))))))))))
theorem qw_19_0 : Cond.code yX3_takesBottom cX3_takesBottom 2 (some .boolean) ∈ wsL_law := inr_19 _ (List.mem_of_getElem? (i := 0) rfl)
theorem qw_19_1 : Cond.methodLink RX3 25 yX3_takesLeft ∈ wsL_law := inr_19 _ (List.mem_of_getElem? (i := 1) rfl)
theorem qw_19_2 : Cond.instanceMethod yX3_takesLeft ∈ wsL_law := inr_19 _ (List.mem_of_getElem? (i := 2) rfl)
theorem qw_19_3 : Cond.selects RX3 yX3_takesLeft yX3_takesLeft ∈ wsL_law := inr_19 _ (List.mem_of_getElem? (i := 3) rfl)
theorem qw_19_4 : Cond.code yX3_takesLeft cX3_takesLeft 2 (some .boolean) ∈ wsL_law := inr_19 _ (List.mem_of_getElem? (i := 4) rfl)
theorem qw_19_5 : Cond.fieldLink RX3 53 "StripDepths$ShapeReader" "left" "I" ∈ wsL_law := inr_19 _ (List.mem_of_getElem? (i := 5) rfl)
theorem qw_19_6 : Cond.fieldLink RX3 56 "StripDepths$ShapeReader" "right" "I" ∈ wsL_law := inr_19 _ (List.mem_of_getElem? (i := 6) rfl)
theorem qw_19_7 : Cond.methodLink RX3 28 yX3_takesBehindLeft ∈ wsL_law := inr_19 _ (List.mem_of_getElem? (i := 7) rfl)
theorem qw_19_8 : Cond.instanceMethod yX3_takesBehindLeft ∈ wsL_law := inr_19 _ (List.mem_of_getElem? (i := 8) rfl)
theorem qw_19_9 : Cond.selects RX3 yX3_takesBehindLeft yX3_takesBehindLeft ∈ wsL_law := inr_19 _ (List.mem_of_getElem? (i := 9) rfl)
theorem qw_19_10 : Cond.code yX3_takesBehindLeft cX3_takesBehindLeft 3 (some .boolean) ∈ wsL_law := inr_19 _ (List.mem_of_getElem? (i := 10) rfl)
theorem qw_19_11 : Cond.methodLink RX3 32 yX3_takesFirstOfRight ∈ wsL_law := inr_19 _ (List.mem_of_getElem? (i := 11) rfl)
theorem qw_19_12 : Cond.instanceMethod yX3_takesFirstOfRight ∈ wsL_law := inr_19 _ (List.mem_of_getElem? (i := 12) rfl)
theorem qw_19_13 : Cond.selects RX3 yX3_takesFirstOfRight yX3_takesFirstOfRight ∈ wsL_law := inr_19 _ (List.mem_of_getElem? (i := 13) rfl)
theorem qw_19_14 : Cond.code yX3_takesFirstOfRight cX3_takesFirstOfRight 2 (some .boolean) ∈ wsL_law := inr_19 _ (List.mem_of_getElem? (i := 14) rfl)
theorem qw_19_15 : Cond.methodLink RX3 59 yX3_greatestFrom ∈ wsL_law := inr_19 _ (List.mem_of_getElem? (i := 15) rfl)
theorem qw_19_16 : Cond.static yX3_greatestFrom ∈ wsL_law := inr_19 _ (List.mem_of_getElem? (i := 16) rfl)
theorem qw_19_17 : Cond.code yX3_greatestFrom cX3_greatestFrom 1 (some .int) ∈ wsL_law := inr_19 _ (List.mem_of_getElem? (i := 17) rfl)
theorem qw_19_18 : Cond.methodLink RX3 63 Lib.Math.min.name ∈ wsL_law := inr_19 _ (List.mem_of_getElem? (i := 18) rfl)
theorem qw_19_19 : Cond.methodLink RX3 35 yX3_takesBehindRight ∈ wsL_law := inr_19 _ (List.mem_of_getElem? (i := 19) rfl)
theorem qw_19_20 : Cond.instanceMethod yX3_takesBehindRight ∈ wsL_law := inr_19 _ (List.mem_of_getElem? (i := 20) rfl)
theorem qw_19_21 : Cond.selects RX3 yX3_takesBehindRight yX3_takesBehindRight ∈ wsL_law := inr_19 _ (List.mem_of_getElem? (i := 21) rfl)
theorem qw_19_22 : Cond.code yX3_takesBehindRight cX3_takesBehindRight 4 (some .boolean) ∈ wsL_law := inr_19 _ (List.mem_of_getElem? (i := 22) rfl)
theorem qw_19_23 : Cond.methodLink RX3 38 yX3_takesPlane ∈ wsL_law := inr_19 _ (List.mem_of_getElem? (i := 23) rfl)
theorem inr_20 : ∀ w ∈ wsL_law_r20, w ∈ wsL_law := fun _ h => List.mem_append_left _ (List.mem_append_left _ (List.mem_append_left _ (List.mem_append_left _ (List.mem_append_left _ (List.mem_append_left _ (List.mem_append_left _ (List.mem_append_left _ (List.mem_append_right _ (List.mem_append_right _ (List.mem_append_right _ (List.mem_append_right _ (List.mem_append_right _ (List.mem_append_right _ (List.mem_append_right _ (List.mem_append_right _ (List.mem_append_right _ (List.mem_append_right _ (List.mem_append_right _ (List.mem_append_right _ (List.mem_append_right _ (List.mem_append_right _ (List.mem_append_right _ (List.mem_append_right _ (List.mem_append_right _ (List.mem_append_right _ (List.mem_append_right _ (List.mem_append_left _ h)))))))))))))))))))))))))))
theorem qw_20_0 : Cond.instanceMethod yX3_takesPlane ∈ wsL_law := inr_20 _ (List.mem_of_getElem? (i := 0) rfl)
theorem qw_20_1 : Cond.selects RX3 yX3_takesPlane yX3_takesPlane ∈ wsL_law := inr_20 _ (List.mem_of_getElem? (i := 1) rfl)
theorem qw_20_2 : Cond.code yX3_takesPlane cX3_takesPlane 2 (some .boolean) ∈ wsL_law := inr_20 _ (List.mem_of_getElem? (i := 2) rfl)
theorem qw_20_3 : Cond.fieldLink RX3 72 "StripDepths$ShapeReader" "plane" "I" ∈ wsL_law := inr_20 _ (List.mem_of_getElem? (i := 3) rfl)
theorem qw_20_4 : Cond.methodLink RX2 50 yX3_isComplete ∈ wsL_law := inr_20 _ (List.mem_of_getElem? (i := 4) rfl)
theorem qw_20_5 : Cond.instanceMethod yX3_isComplete ∈ wsL_law := inr_20 _ (List.mem_of_getElem? (i := 5) rfl)
theorem qw_20_6 : Cond.selects RX3 yX3_isComplete yX3_isComplete ∈ wsL_law := inr_20 _ (List.mem_of_getElem? (i := 6) rfl)
theorem qw_20_7 : Cond.code yX3_isComplete cX3_isComplete 1 (some .boolean) ∈ wsL_law := inr_20 _ (List.mem_of_getElem? (i := 7) rfl)
theorem qw_20_8 : Cond.methodLink RX5 133 yX2_faultAsStrip ∈ wsL_law := inr_20 _ (List.mem_of_getElem? (i := 8) rfl)
theorem qw_20_9 : Cond.instanceMethod yX2_faultAsStrip ∈ wsL_law := inr_20 _ (List.mem_of_getElem? (i := 9) rfl)
theorem qw_20_10 : Cond.selects RX2 yX2_faultAsStrip yX2_faultAsStrip ∈ wsL_law := inr_20 _ (List.mem_of_getElem? (i := 10) rfl)
theorem qw_20_11 : Cond.code yX2_faultAsStrip cX2_faultAsStrip 2 (some .int) ∈ wsL_law := inr_20 _ (List.mem_of_getElem? (i := 11) rfl)
theorem qw_20_12 : Cond.methodLink RL 69 yX6_fault ∈ wsL_law := inr_20 _ (List.mem_of_getElem? (i := 12) rfl)
theorem qw_20_13 : Cond.instanceMethod yX6_fault ∈ wsL_law := inr_20 _ (List.mem_of_getElem? (i := 13) rfl)
theorem qw_20_14 : Cond.selects RX6 yX6_fault yX6_fault ∈ wsL_law := inr_20 _ (List.mem_of_getElem? (i := 14) rfl)
theorem qw_20_15 : Cond.code yX6_fault cX6_fault 3 (some .int) ∈ wsL_law := inr_20 _ (List.mem_of_getElem? (i := 15) rfl)
theorem qw_20_16 : Cond.fieldLink RX6 106 "StripDepthsModel" "spot" "I" ∈ wsL_law := inr_20 _ (List.mem_of_getElem? (i := 16) rfl)
theorem qw_20_17 : Cond.methodLink RX6 147 yX6_goesWrong ∈ wsL_law := inr_20 _ (List.mem_of_getElem? (i := 17) rfl)
theorem qw_20_18 : Cond.instanceMethod yX6_goesWrong ∈ wsL_law := inr_20 _ (List.mem_of_getElem? (i := 18) rfl)
theorem qw_20_19 : Cond.selects RX6 yX6_goesWrong yX6_goesWrong ∈ wsL_law := inr_20 _ (List.mem_of_getElem? (i := 19) rfl)
theorem qw_20_20 : Cond.code yX6_goesWrong cX6_goesWrong 3 (some .boolean) ∈ wsL_law := inr_20 _ (List.mem_of_getElem? (i := 20) rfl)
theorem qw_20_21 : Cond.fieldLink RX6 109 "StripDepthsModel" "isWrong" "Z" ∈ wsL_law := inr_20 _ (List.mem_of_getElem? (i := 21) rfl)
theorem qw_20_22 : Cond.fieldLink RX6 120 "StripDepthsModel" "top" "I" ∈ wsL_law := inr_20 _ (List.mem_of_getElem? (i := 22) rfl)
theorem qw_20_23 : Cond.fieldLink RX6 135 "StripDepthsModel" "left" "I" ∈ wsL_law := inr_20 _ (List.mem_of_getElem? (i := 23) rfl)
theorem inr_21 : ∀ w ∈ wsL_law_r21, w ∈ wsL_law := fun _ h => List.mem_append_left _ (List.mem_append_left _ (List.mem_append_left _ (List.mem_append_left _ (List.mem_append_left _ (List.mem_append_left _ (List.mem_append_left _ (List.mem_append_left _ (List.mem_append_right _ (List.mem_append_right _ (List.mem_append_right _ (List.mem_append_right _ (List.mem_append_right _ (List.mem_append_right _ (List.mem_append_right _ (List.mem_append_right _ (List.mem_append_right _ (List.mem_append_right _ (List.mem_append_right _ (List.mem_append_right _ (List.mem_append_right _ (List.mem_append_right _ (List.mem_append_right _ (List.mem_append_right _ (List.mem_append_right _ (List.mem_append_right _ (List.mem_append_right _ (List.mem_append_right _ (List.mem_append_left _ h))))))))))))))))))))))))))))
theorem qw_21_0 : Cond.fieldLink RX6 123 "StripDepthsModel" "bottom" "I" ∈ wsL_law := inr_21 _ (List.mem_of_getElem? (i := 0) rfl)
theorem qw_21_1 : Cond.fieldLink RX6 138 "StripDepthsModel" "right" "I" ∈ wsL_law := inr_21 _ (List.mem_of_getElem? (i := 1) rfl)
theorem qw_21_2 : Cond.fieldLink RX6 141 "StripDepthsModel" "depth" "I" ∈ wsL_law := inr_21 _ (List.mem_of_getElem? (i := 2) rfl)
theorem qw_21_3 : Cond.methodLink RX6 144 yX6_shape ∈ wsL_law := inr_21 _ (List.mem_of_getElem? (i := 3) rfl)
theorem qw_21_4 : Cond.instanceMethod yX6_shape ∈ wsL_law := inr_21 _ (List.mem_of_getElem? (i := 4) rfl)
theorem qw_21_5 : Cond.selects RX6 yX6_shape yX6_shape ∈ wsL_law := inr_21 _ (List.mem_of_getElem? (i := 5) rfl)
theorem qw_21_6 : Cond.code yX6_shape cX6_shape 1 none ∈ wsL_law := inr_21 _ (List.mem_of_getElem? (i := 6) rfl)
theorem qw_21_7 : Cond.methodLink RX6 117 yX6_digit ∈ wsL_law := inr_21 _ (List.mem_of_getElem? (i := 7) rfl)
theorem qw_21_8 : Cond.instanceMethod yX6_digit ∈ wsL_law := inr_21 _ (List.mem_of_getElem? (i := 8) rfl)
theorem qw_21_9 : Cond.selects RX6 yX6_digit yX6_digit ∈ wsL_law := inr_21 _ (List.mem_of_getElem? (i := 9) rfl)
theorem qw_21_10 : Cond.code yX6_digit cX6_digit 4 (some .int) ∈ wsL_law := inr_21 _ (List.mem_of_getElem? (i := 10) rfl)
theorem qw_21_11 : Cond.methodLink RX6 113 yX6_next ∈ wsL_law := inr_21 _ (List.mem_of_getElem? (i := 11) rfl)
theorem qw_21_12 : Cond.instanceMethod yX6_next ∈ wsL_law := inr_21 _ (List.mem_of_getElem? (i := 12) rfl)
theorem qw_21_13 : Cond.selects RX6 yX6_next yX6_next ∈ wsL_law := inr_21 _ (List.mem_of_getElem? (i := 13) rfl)
theorem qw_21_14 : Cond.code yX6_next cX6_next 1 (some .int) ∈ wsL_law := inr_21 _ (List.mem_of_getElem? (i := 14) rfl)
theorem qw_21_15 : Cond.methodLink RX6 126 yX6_isNext ∈ wsL_law := inr_21 _ (List.mem_of_getElem? (i := 15) rfl)
theorem qw_21_16 : Cond.instanceMethod yX6_isNext ∈ wsL_law := inr_21 _ (List.mem_of_getElem? (i := 16) rfl)
theorem qw_21_17 : Cond.selects RX6 yX6_isNext yX6_isNext ∈ wsL_law := inr_21 _ (List.mem_of_getElem? (i := 17) rfl)
theorem qw_21_18 : Cond.code yX6_isNext cX6_isNext 2 (some .boolean) ∈ wsL_law := inr_21 _ (List.mem_of_getElem? (i := 18) rfl)
theorem qw_21_19 : Cond.methodLink RX6 129 yX6_wants ∈ wsL_law := inr_21 _ (List.mem_of_getElem? (i := 19) rfl)
theorem qw_21_20 : Cond.instanceMethod yX6_wants ∈ wsL_law := inr_21 _ (List.mem_of_getElem? (i := 20) rfl)
theorem qw_21_21 : Cond.selects RX6 yX6_wants yX6_wants ∈ wsL_law := inr_21 _ (List.mem_of_getElem? (i := 21) rfl)
theorem qw_21_22 : Cond.code yX6_wants cX6_wants 2 none ∈ wsL_law := inr_21 _ (List.mem_of_getElem? (i := 22) rfl)
theorem qw_21_23 : Cond.methodLink RX6 132 yX6_column ∈ wsL_law := inr_21 _ (List.mem_of_getElem? (i := 23) rfl)
theorem inr_22 : ∀ w ∈ wsL_law_r22, w ∈ wsL_law := fun _ h => List.mem_append_left _ (List.mem_append_left _ (List.mem_append_left _ (List.mem_append_left _ (List.mem_append_left _ (List.mem_append_left _ (List.mem_append_left _ (List.mem_append_left _ (List.mem_append_right _ (List.mem_append_right _ (List.mem_append_right _ (List.mem_append_right _ (List.mem_append_right _ (List.mem_append_right _ (List.mem_append_right _ (List.mem_append_right _ (List.mem_append_right _ (List.mem_append_right _ (List.mem_append_right _ (List.mem_append_right _ (List.mem_append_right _ (List.mem_append_right _ (List.mem_append_right _ (List.mem_append_right _ (List.mem_append_right _ (List.mem_append_right _ (List.mem_append_right _ (List.mem_append_right _ (List.mem_append_right _ (List.mem_append_left _ h)))))))))))))))))))))))))))))
theorem qw_22_0 : Cond.instanceMethod yX6_column ∈ wsL_law := inr_22 _ (List.mem_of_getElem? (i := 0) rfl)
theorem qw_22_1 : Cond.selects RX6 yX6_column yX6_column ∈ wsL_law := inr_22 _ (List.mem_of_getElem? (i := 1) rfl)
theorem qw_22_2 : Cond.code yX6_column cX6_column 5 (some .int) ∈ wsL_law := inr_22 _ (List.mem_of_getElem? (i := 2) rfl)
theorem qw_22_3 : Cond.methodLink RX6 151 yX6_isNoStrip ∈ wsL_law := inr_22 _ (List.mem_of_getElem? (i := 3) rfl)
theorem qw_22_4 : Cond.instanceMethod yX6_isNoStrip ∈ wsL_law := inr_22 _ (List.mem_of_getElem? (i := 4) rfl)
theorem qw_22_5 : Cond.selects RX6 yX6_isNoStrip yX6_isNoStrip ∈ wsL_law := inr_22 _ (List.mem_of_getElem? (i := 5) rfl)
theorem qw_22_6 : Cond.code yX6_isNoStrip cX6_isNoStrip 1 (some .boolean) ∈ wsL_law := inr_22 _ (List.mem_of_getElem? (i := 6) rfl)
theorem qw_22_7 : Cond.methodLink RL 70 yX5_draw ∈ wsL_law := inr_22 _ (List.mem_of_getElem? (i := 7) rfl)
theorem qw_22_8 : Cond.instanceMethod yX5_draw ∈ wsL_law := inr_22 _ (List.mem_of_getElem? (i := 8) rfl)
theorem qw_22_9 : Cond.selects RX5 yX5_draw yX5_draw ∈ wsL_law := inr_22 _ (List.mem_of_getElem? (i := 9) rfl)
theorem qw_22_10 : Cond.code yX5_draw cX5_draw 2 (some .int) ∈ wsL_law := inr_22 _ (List.mem_of_getElem? (i := 10) rfl)
theorem qw_22_11 : Cond.methodLink RX5 136 yX2_layShapes ∈ wsL_law := inr_22 _ (List.mem_of_getElem? (i := 11) rfl)
theorem qw_22_12 : Cond.instanceMethod yX2_layShapes ∈ wsL_law := inr_22 _ (List.mem_of_getElem? (i := 12) rfl)
theorem qw_22_13 : Cond.selects RX2 yX2_layShapes yX2_layShapes ∈ wsL_law := inr_22 _ (List.mem_of_getElem? (i := 13) rfl)
theorem qw_22_14 : Cond.code yX2_layShapes cX2_layShapes 3 none ∈ wsL_law := inr_22 _ (List.mem_of_getElem? (i := 14) rfl)
theorem qw_22_15 : Cond.fieldLink RX2 54 "StripDepths$ShapeReader" "top" "I" ∈ wsL_law := inr_22 _ (List.mem_of_getElem? (i := 15) rfl)
theorem qw_22_16 : Cond.fieldLink RX2 57 "StripDepths$ShapeReader" "left" "I" ∈ wsL_law := inr_22 _ (List.mem_of_getElem? (i := 16) rfl)
theorem qw_22_17 : Cond.fieldLink RX2 60 "StripDepths$ShapeReader" "bottom" "I" ∈ wsL_law := inr_22 _ (List.mem_of_getElem? (i := 17) rfl)
theorem qw_22_18 : Cond.fieldLink RX2 63 "StripDepths$ShapeReader" "right" "I" ∈ wsL_law := inr_22 _ (List.mem_of_getElem? (i := 18) rfl)
theorem qw_22_19 : Cond.fieldLink RX2 66 "StripDepths$ShapeReader" "plane" "I" ∈ wsL_law := inr_22 _ (List.mem_of_getElem? (i := 19) rfl)
theorem qw_22_20 : Cond.methodLink RX2 69 yX4_layPlane ∈ wsL_law := inr_22 _ (List.mem_of_getElem? (i := 20) rfl)
theorem qw_22_21 : Cond.methodLink RL 73 yX6_draw ∈ wsL_law := inr_22 _ (List.mem_of_getElem? (i := 21) rfl)
theorem qw_22_22 : Cond.instanceMethod yX6_draw ∈ wsL_law := inr_22 _ (List.mem_of_getElem? (i := 22) rfl)
theorem qw_22_23 : Cond.selects RX6 yX6_draw yX6_draw ∈ wsL_law := inr_22 _ (List.mem_of_getElem? (i := 23) rfl)
theorem inr_23 : ∀ w ∈ wsL_law_r23, w ∈ wsL_law := fun _ h => List.mem_append_left _ (List.mem_append_left _ (List.mem_append_left _ (List.mem_append_left _ (List.mem_append_left _ (List.mem_append_left _ (List.mem_append_left _ (List.mem_append_left _ (List.mem_append_right _ (List.mem_append_right _ (List.mem_append_right _ (List.mem_append_right _ (List.mem_append_right _ (List.mem_append_right _ (List.mem_append_right _ (List.mem_append_right _ (List.mem_append_right _ (List.mem_append_right _ (List.mem_append_right _ (List.mem_append_right _ (List.mem_append_right _ (List.mem_append_right _ (List.mem_append_right _ (List.mem_append_right _ (List.mem_append_right _ (List.mem_append_right _ (List.mem_append_right _ (List.mem_append_right _ (List.mem_append_right _ (List.mem_append_right _ (List.mem_append_left _ h))))))))))))))))))))))))))))))
theorem qw_23_0 : Cond.code yX6_draw cX6_draw 2 (some .int) ∈ wsL_law := inr_23 _ (List.mem_of_getElem? (i := 0) rfl)
theorem qw_23_1 : Cond.methodLink RL 74 yX5_wind ∈ wsL_law := inr_23 _ (List.mem_of_getElem? (i := 1) rfl)
theorem qw_23_2 : Cond.instanceMethod yX5_wind ∈ wsL_law := inr_23 _ (List.mem_of_getElem? (i := 2) rfl)
theorem qw_23_3 : Cond.selects RX5 yX5_wind yX5_wind ∈ wsL_law := inr_23 _ (List.mem_of_getElem? (i := 3) rfl)
theorem qw_23_4 : Cond.code yX5_wind cX5_wind 1 (some .int) ∈ wsL_law := inr_23 _ (List.mem_of_getElem? (i := 4) rfl)
theorem qw_23_5 : Cond.fieldLink RX5 143 "StripDepths$Sheet" "stripLength" "I" ∈ wsL_law := inr_23 _ (List.mem_of_getElem? (i := 5) rfl)
theorem qw_23_6 : Cond.methodLink RX5 140 yX2_putStrip ∈ wsL_law := inr_23 _ (List.mem_of_getElem? (i := 6) rfl)
theorem qw_23_7 : Cond.instanceMethod yX2_putStrip ∈ wsL_law := inr_23 _ (List.mem_of_getElem? (i := 7) rfl)
theorem qw_23_8 : Cond.selects RX2 yX2_putStrip yX2_putStrip ∈ wsL_law := inr_23 _ (List.mem_of_getElem? (i := 8) rfl)
theorem qw_23_9 : Cond.code yX2_putStrip cX2_putStrip 4 none ∈ wsL_law := inr_23 _ (List.mem_of_getElem? (i := 9) rfl)
theorem qw_23_10 : Cond.methodLink RX2 30 Lib.Math.min.name ∈ wsL_law := inr_23 _ (List.mem_of_getElem? (i := 10) rfl)
theorem qw_23_11 : Cond.fieldLink RX2 36 "StripDepths$Sheet" "strip" "[I" ∈ wsL_law := inr_23 _ (List.mem_of_getElem? (i := 11) rfl)
theorem qw_23_12 : Cond.fieldLink RX2 41 "StripDepths$Sheet" "stripLength" "I" ∈ wsL_law := inr_23 _ (List.mem_of_getElem? (i := 12) rfl)
theorem qw_23_13 : Cond.methodLink RL 77 yX6_wind ∈ wsL_law := inr_23 _ (List.mem_of_getElem? (i := 13) rfl)
theorem qw_23_14 : Cond.instanceMethod yX6_wind ∈ wsL_law := inr_23 _ (List.mem_of_getElem? (i := 14) rfl)
theorem qw_23_15 : Cond.selects RX6 yX6_wind yX6_wind ∈ wsL_law := inr_23 _ (List.mem_of_getElem? (i := 15) rfl)
theorem qw_23_16 : Cond.code yX6_wind cX6_wind 2 (some .int) ∈ wsL_law := inr_23 _ (List.mem_of_getElem? (i := 16) rfl)
theorem qw_23_17 : Cond.methodLink RL 78 yX5_unwind ∈ wsL_law := inr_23 _ (List.mem_of_getElem? (i := 17) rfl)
theorem qw_23_18 : Cond.instanceMethod yX5_unwind ∈ wsL_law := inr_23 _ (List.mem_of_getElem? (i := 18) rfl)
theorem qw_23_19 : Cond.selects RX5 yX5_unwind yX5_unwind ∈ wsL_law := inr_23 _ (List.mem_of_getElem? (i := 19) rfl)
theorem qw_23_20 : Cond.code yX5_unwind cX5_unwind 2 (some .int) ∈ wsL_law := inr_23 _ (List.mem_of_getElem? (i := 20) rfl)
theorem qw_23_21 : Cond.methodLink RL 81 yX6_unwind ∈ wsL_law := inr_23 _ (List.mem_of_getElem? (i := 21) rfl)
theorem qw_23_22 : Cond.instanceMethod yX6_unwind ∈ wsL_law := inr_23 _ (List.mem_of_getElem? (i := 22) rfl)
theorem qw_23_23 : Cond.selects RX6 yX6_unwind yX6_unwind ∈ wsL_law := inr_23 _ (List.mem_of_getElem? (i := 23) rfl)
theorem inr_24 : ∀ w ∈ wsL_law_r24, w ∈ wsL_law := fun _ h => List.mem_append_left _ (List.mem_append_left _ (List.mem_append_left _ (List.mem_append_left _ (List.mem_append_left _ (List.mem_append_left _ (List.mem_append_left _ (List.mem_append_left _ (List.mem_append_right _ (List.mem_append_right _ (List.mem_append_right _ (List.mem_append_right _ (List.mem_append_right _ (List.mem_append_right _ (List.mem_append_right _ (List.mem_append_right _ (List.mem_append_right _ (List.mem_append_right _ (List.mem_append_right _ (List.mem_append_right _ (List.mem_append_right _ (List.mem_append_right _ (List.mem_append_right _ (List.mem_append_right _ (List.mem_append_right _ (List.mem_append_right _ (List.mem_append_right _ (List.mem_append_right _ (List.mem_append_right _ (List.mem_append_right _ (List.mem_append_right _ (List.mem_append_left _ h)))))))))))))))))))))))))))))))
theorem qw_24_0 : Cond.code yX6_unwind cX6_unwind 2 (some .int) ∈ wsL_law := inr_24 _ (List.mem_of_getElem? (i := 0) rfl)
theorem qw_24_1 : Cond.methodLink RL 82 yX5_at ∈ wsL_law := inr_24 _ (List.mem_of_getElem? (i := 1) rfl)
theorem qw_24_2 : Cond.instanceMethod yX5_at ∈ wsL_law := inr_24 _ (List.mem_of_getElem? (i := 2) rfl)
theorem qw_24_3 : Cond.selects RX5 yX5_at yX5_at ∈ wsL_law := inr_24 _ (List.mem_of_getElem? (i := 3) rfl)
theorem qw_24_4 : Cond.code yX5_at cX5_at 4 (some .int) ∈ wsL_law := inr_24 _ (List.mem_of_getElem? (i := 4) rfl)
theorem qw_24_5 : Cond.fieldLink RX5 149 "StripDepths$Look" "dots" "[I" ∈ wsL_law := inr_24 _ (List.mem_of_getElem? (i := 5) rfl)
theorem qw_24_6 : Cond.fieldLink RX5 150 "StripDepths$Look" "seen" "[I" ∈ wsL_law := inr_24 _ (List.mem_of_getElem? (i := 6) rfl)
theorem qw_24_7 : Cond.fieldLink RX5 156 "StripDepths$Look" "binders" "[I" ∈ wsL_law := inr_24 _ (List.mem_of_getElem? (i := 7) rfl)
theorem qw_24_8 : Cond.fieldLink RX5 159 "StripDepths$Look" "chains" "[I" ∈ wsL_law := inr_24 _ (List.mem_of_getElem? (i := 8) rfl)
theorem qw_24_9 : Cond.fieldLink RX5 165 "StripDepths$Look" "remembered" "[I" ∈ wsL_law := inr_24 _ (List.mem_of_getElem? (i := 9) rfl)
theorem qw_24_10 : Cond.methodLink RX5 153 yX1_boundTo ∈ wsL_law := inr_24 _ (List.mem_of_getElem? (i := 10) rfl)
theorem qw_24_11 : Cond.methodLink RX5 162 yX1_placesOfChain ∈ wsL_law := inr_24 _ (List.mem_of_getElem? (i := 11) rfl)
theorem qw_24_12 : Cond.instanceMethod yX1_placesOfChain ∈ wsL_law := inr_24 _ (List.mem_of_getElem? (i := 12) rfl)
theorem qw_24_13 : Cond.selects RX1 yX1_placesOfChain yX1_placesOfChain ∈ wsL_law := inr_24 _ (List.mem_of_getElem? (i := 13) rfl)
theorem qw_24_14 : Cond.code yX1_placesOfChain cX1_placesOfChain 4 (some .int) ∈ wsL_law := inr_24 _ (List.mem_of_getElem? (i := 14) rfl)
theorem qw_24_15 : Cond.methodLink RL 85 yX6_at ∈ wsL_law := inr_24 _ (List.mem_of_getElem? (i := 15) rfl)
theorem qw_24_16 : Cond.instanceMethod yX6_at ∈ wsL_law := inr_24 _ (List.mem_of_getElem? (i := 16) rfl)
theorem qw_24_17 : Cond.selects RX6 yX6_at yX6_at ∈ wsL_law := inr_24 _ (List.mem_of_getElem? (i := 17) rfl)
theorem qw_24_18 : Cond.code yX6_at cX6_at 4 (some .int) ∈ wsL_law := inr_24 _ (List.mem_of_getElem? (i := 18) rfl)
theorem qw_24_19 : Cond.methodLink RX6 155 yX6_manyBoundTo ∈ wsL_law := inr_24 _ (List.mem_of_getElem? (i := 19) rfl)
theorem qw_24_20 : Cond.instanceMethod yX6_manyBoundTo ∈ wsL_law := inr_24 _ (List.mem_of_getElem? (i := 20) rfl)
theorem qw_24_21 : Cond.selects RX6 yX6_manyBoundTo yX6_manyBoundTo ∈ wsL_law := inr_24 _ (List.mem_of_getElem? (i := 21) rfl)
theorem qw_24_22 : Cond.code yX6_manyBoundTo cX6_manyBoundTo 5 (some .int) ∈ wsL_law := inr_24 _ (List.mem_of_getElem? (i := 22) rfl)
theorem qw_24_23 : Cond.methodLink RX6 49 yX6_freeOf ∈ wsL_law := inr_24 _ (List.mem_of_getElem? (i := 23) rfl)
theorem inr_25 : ∀ w ∈ wsL_law_r25, w ∈ wsL_law := fun _ h => List.mem_append_left _ (List.mem_append_left _ (List.mem_append_left _ (List.mem_append_left _ (List.mem_append_left _ (List.mem_append_left _ (List.mem_append_left _ (List.mem_append_left _ (List.mem_append_right _ (List.mem_append_right _ (List.mem_append_right _ (List.mem_append_right _ (List.mem_append_right _ (List.mem_append_right _ (List.mem_append_right _ (List.mem_append_right _ (List.mem_append_right _ (List.mem_append_right _ (List.mem_append_right _ (List.mem_append_right _ (List.mem_append_right _ (List.mem_append_right _ (List.mem_append_right _ (List.mem_append_right _ (List.mem_append_right _ (List.mem_append_right _ (List.mem_append_right _ (List.mem_append_right _ (List.mem_append_right _ (List.mem_append_right _ (List.mem_append_right _ (List.mem_append_right _ (List.mem_append_left _ h))))))))))))))))))))))))))))))))
theorem qw_25_0 : Cond.instanceMethod yX6_freeOf ∈ wsL_law := inr_25 _ (List.mem_of_getElem? (i := 0) rfl)
theorem qw_25_1 : Cond.selects RX6 yX6_freeOf yX6_freeOf ∈ wsL_law := inr_25 _ (List.mem_of_getElem? (i := 1) rfl)
theorem qw_25_2 : Cond.code yX6_freeOf cX6_freeOf 4 (some .int) ∈ wsL_law := inr_25 _ (List.mem_of_getElem? (i := 2) rfl)
theorem qw_25_3 : Cond.methodLink RX6 158 yX6_chain ∈ wsL_law := inr_25 _ (List.mem_of_getElem? (i := 3) rfl)
theorem qw_25_4 : Cond.instanceMethod yX6_chain ∈ wsL_law := inr_25 _ (List.mem_of_getElem? (i := 4) rfl)
theorem qw_25_5 : Cond.selects RX6 yX6_chain yX6_chain ∈ wsL_law := inr_25 _ (List.mem_of_getElem? (i := 5) rfl)
theorem qw_25_6 : Cond.code yX6_chain cX6_chain 5 (some .int) ∈ wsL_law := inr_25 _ (List.mem_of_getElem? (i := 6) rfl)
theorem qw_25_7 : Cond.methodLink RL 86 yX5_fits ∈ wsL_law := inr_25 _ (List.mem_of_getElem? (i := 7) rfl)
theorem qw_25_8 : Cond.instanceMethod yX5_fits ∈ wsL_law := inr_25 _ (List.mem_of_getElem? (i := 8) rfl)
theorem qw_25_9 : Cond.selects RX5 yX5_fits yX5_fits ∈ wsL_law := inr_25 _ (List.mem_of_getElem? (i := 9) rfl)
theorem qw_25_10 : Cond.code yX5_fits cX5_fits 4 (some .int) ∈ wsL_law := inr_25 _ (List.mem_of_getElem? (i := 10) rfl)
theorem qw_25_11 : Cond.methodLink RX5 166 yX1_isFitting ∈ wsL_law := inr_25 _ (List.mem_of_getElem? (i := 11) rfl)
theorem qw_25_12 : Cond.methodLink RL 89 yX6_fits ∈ wsL_law := inr_25 _ (List.mem_of_getElem? (i := 12) rfl)
theorem qw_25_13 : Cond.instanceMethod yX6_fits ∈ wsL_law := inr_25 _ (List.mem_of_getElem? (i := 13) rfl)
theorem qw_25_14 : Cond.selects RX6 yX6_fits yX6_fits ∈ wsL_law := inr_25 _ (List.mem_of_getElem? (i := 14) rfl)
theorem qw_25_15 : Cond.code yX6_fits cX6_fits 4 (some .int) ∈ wsL_law := inr_25 _ (List.mem_of_getElem? (i := 15) rfl)
theorem qw_25_16 : Cond.methodLink RL 90 yX5_row ∈ wsL_law := inr_25 _ (List.mem_of_getElem? (i := 16) rfl)
theorem qw_25_17 : Cond.instanceMethod yX5_row ∈ wsL_law := inr_25 _ (List.mem_of_getElem? (i := 17) rfl)
theorem qw_25_18 : Cond.selects RX5 yX5_row yX5_row ∈ wsL_law := inr_25 _ (List.mem_of_getElem? (i := 18) rfl)
theorem qw_25_19 : Cond.code yX5_row cX5_row 3 (some .int) ∈ wsL_law := inr_25 _ (List.mem_of_getElem? (i := 19) rfl)
theorem qw_25_20 : Cond.methodLink RX5 170 yX1_longestChain ∈ wsL_law := inr_25 _ (List.mem_of_getElem? (i := 20) rfl)
theorem qw_25_21 : Cond.instanceMethod yX1_longestChain ∈ wsL_law := inr_25 _ (List.mem_of_getElem? (i := 21) rfl)
theorem qw_25_22 : Cond.selects RX1 yX1_longestChain yX1_longestChain ∈ wsL_law := inr_25 _ (List.mem_of_getElem? (i := 22) rfl)
theorem qw_25_23 : Cond.code yX1_longestChain cX1_longestChain 3 (some .int) ∈ wsL_law := inr_25 _ (List.mem_of_getElem? (i := 23) rfl)
theorem inr_26 : ∀ w ∈ wsL_law_r26, w ∈ wsL_law := fun _ h => List.mem_append_left _ (List.mem_append_left _ (List.mem_append_left _ (List.mem_append_left _ (List.mem_append_left _ (List.mem_append_left _ (List.mem_append_left _ (List.mem_append_left _ (List.mem_append_right _ (List.mem_append_right _ (List.mem_append_right _ (List.mem_append_right _ (List.mem_append_right _ (List.mem_append_right _ (List.mem_append_right _ (List.mem_append_right _ (List.mem_append_right _ (List.mem_append_right _ (List.mem_append_right _ (List.mem_append_right _ (List.mem_append_right _ (List.mem_append_right _ (List.mem_append_right _ (List.mem_append_right _ (List.mem_append_right _ (List.mem_append_right _ (List.mem_append_right _ (List.mem_append_right _ (List.mem_append_right _ (List.mem_append_right _ (List.mem_append_right _ (List.mem_append_right _ (List.mem_append_right _ (List.mem_append_left _ h)))))))))))))))))))))))))))))))))
theorem qw_26_0 : Cond.methodLink RX1 114 yX1_placesOfChain ∈ wsL_law := inr_26 _ (List.mem_of_getElem? (i := 0) rfl)
theorem qw_26_1 : Cond.methodLink RX5 173 yX1_differentDots ∈ wsL_law := inr_26 _ (List.mem_of_getElem? (i := 1) rfl)
theorem qw_26_2 : Cond.instanceMethod yX1_differentDots ∈ wsL_law := inr_26 _ (List.mem_of_getElem? (i := 2) rfl)
theorem qw_26_3 : Cond.selects RX1 yX1_differentDots yX1_differentDots ∈ wsL_law := inr_26 _ (List.mem_of_getElem? (i := 3) rfl)
theorem qw_26_4 : Cond.code yX1_differentDots cX1_differentDots 3 (some .int) ∈ wsL_law := inr_26 _ (List.mem_of_getElem? (i := 4) rfl)
theorem qw_26_5 : Cond.methodLink RX1 117 yJ6_bitCount_0f7a4 ∈ wsL_law := inr_26 _ (List.mem_of_getElem? (i := 5) rfl)
theorem qw_26_6 : Cond.static yJ6_bitCount_0f7a4 ∈ wsL_law := inr_26 _ (List.mem_of_getElem? (i := 6) rfl)
theorem qw_26_7 : Cond.initialized RJ6 ∈ wsL_law := inr_26 _ (List.mem_of_getElem? (i := 7) rfl)
theorem qw_26_8 : Cond.code yJ6_bitCount_0f7a4 cJ6_bitCount_0f7a4 1 (some .int) ∈ wsL_law := inr_26 _ (List.mem_of_getElem? (i := 8) rfl)
theorem qw_26_9 : Cond.constant RJ6 265 (1431655765) ∈ wsL_law := inr_26 _ (List.mem_of_getElem? (i := 9) rfl)
theorem qw_26_10 : Cond.constant RJ6 266 (858993459) ∈ wsL_law := inr_26 _ (List.mem_of_getElem? (i := 10) rfl)
theorem qw_26_11 : Cond.constant RJ6 267 (252645135) ∈ wsL_law := inr_26 _ (List.mem_of_getElem? (i := 11) rfl)
theorem qw_26_12 : Cond.methodLink RX5 176 yX1_changesOfPlane ∈ wsL_law := inr_26 _ (List.mem_of_getElem? (i := 12) rfl)
theorem qw_26_13 : Cond.instanceMethod yX1_changesOfPlane ∈ wsL_law := inr_26 _ (List.mem_of_getElem? (i := 13) rfl)
theorem qw_26_14 : Cond.selects RX1 yX1_changesOfPlane yX1_changesOfPlane ∈ wsL_law := inr_26 _ (List.mem_of_getElem? (i := 14) rfl)
theorem qw_26_15 : Cond.code yX1_changesOfPlane cX1_changesOfPlane 4 (some .int) ∈ wsL_law := inr_26 _ (List.mem_of_getElem? (i := 15) rfl)
theorem qw_26_16 : Cond.methodLink RL 93 yX6_row ∈ wsL_law := inr_26 _ (List.mem_of_getElem? (i := 16) rfl)
theorem qw_26_17 : Cond.instanceMethod yX6_row ∈ wsL_law := inr_26 _ (List.mem_of_getElem? (i := 17) rfl)
theorem qw_26_18 : Cond.selects RX6 yX6_row yX6_row ∈ wsL_law := inr_26 _ (List.mem_of_getElem? (i := 18) rfl)
theorem qw_26_19 : Cond.code yX6_row cX6_row 3 (some .int) ∈ wsL_law := inr_26 _ (List.mem_of_getElem? (i := 19) rfl)
theorem qw_26_20 : Cond.methodLink RX6 167 yX6_many ∈ wsL_law := inr_26 _ (List.mem_of_getElem? (i := 20) rfl)
theorem qw_26_21 : Cond.instanceMethod yX6_many ∈ wsL_law := inr_26 _ (List.mem_of_getElem? (i := 21) rfl)
theorem qw_26_22 : Cond.selects RX6 yX6_many yX6_many ∈ wsL_law := inr_26 _ (List.mem_of_getElem? (i := 22) rfl)
theorem qw_26_23 : Cond.code yX6_many cX6_many 5 (some .int) ∈ wsL_law := inr_26 _ (List.mem_of_getElem? (i := 23) rfl)
theorem inr_27 : ∀ w ∈ wsL_law_r27, w ∈ wsL_law := fun _ h => List.mem_append_left _ (List.mem_append_left _ (List.mem_append_left _ (List.mem_append_left _ (List.mem_append_left _ (List.mem_append_left _ (List.mem_append_left _ (List.mem_append_left _ (List.mem_append_right _ (List.mem_append_right _ (List.mem_append_right _ (List.mem_append_right _ (List.mem_append_right _ (List.mem_append_right _ (List.mem_append_right _ (List.mem_append_right _ (List.mem_append_right _ (List.mem_append_right _ (List.mem_append_right _ (List.mem_append_right _ (List.mem_append_right _ (List.mem_append_right _ (List.mem_append_right _ (List.mem_append_right _ (List.mem_append_right _ (List.mem_append_right _ (List.mem_append_right _ (List.mem_append_right _ (List.mem_append_right _ (List.mem_append_right _ (List.mem_append_right _ (List.mem_append_right _ (List.mem_append_right _ (List.mem_append_right _ (List.mem_append_left _ h))))))))))))))))))))))))))))))))))
theorem qw_27_0 : Cond.methodLink RX6 161 yX6_isOne ∈ wsL_law := inr_27 _ (List.mem_of_getElem? (i := 0) rfl)
theorem qw_27_1 : Cond.instanceMethod yX6_isOne ∈ wsL_law := inr_27 _ (List.mem_of_getElem? (i := 1) rfl)
theorem qw_27_2 : Cond.selects RX6 yX6_isOne yX6_isOne ∈ wsL_law := inr_27 _ (List.mem_of_getElem? (i := 2) rfl)
theorem qw_27_3 : Cond.code yX6_isOne cX6_isOne 5 (some .boolean) ∈ wsL_law := inr_27 _ (List.mem_of_getElem? (i := 3) rfl)
theorem qw_27_4 : Cond.methodLink RX6 170 yX6_longestChain ∈ wsL_law := inr_27 _ (List.mem_of_getElem? (i := 4) rfl)
theorem qw_27_5 : Cond.instanceMethod yX6_longestChain ∈ wsL_law := inr_27 _ (List.mem_of_getElem? (i := 5) rfl)
theorem qw_27_6 : Cond.selects RX6 yX6_longestChain yX6_longestChain ∈ wsL_law := inr_27 _ (List.mem_of_getElem? (i := 6) rfl)
theorem qw_27_7 : Cond.code yX6_longestChain cX6_longestChain 4 (some .int) ∈ wsL_law := inr_27 _ (List.mem_of_getElem? (i := 7) rfl)
theorem qw_27_8 : Cond.methodLink RX6 164 yX6_greater ∈ wsL_law := inr_27 _ (List.mem_of_getElem? (i := 8) rfl)
theorem qw_27_9 : Cond.static yX6_greater ∈ wsL_law := inr_27 _ (List.mem_of_getElem? (i := 9) rfl)
theorem qw_27_10 : Cond.code yX6_greater cX6_greater 2 (some .int) ∈ wsL_law := inr_27 _ (List.mem_of_getElem? (i := 10) rfl)
theorem qw_27_11 : Cond.methodLink RX6 173 yX6_differentDots ∈ wsL_law := inr_27 _ (List.mem_of_getElem? (i := 11) rfl)
theorem qw_27_12 : Cond.instanceMethod yX6_differentDots ∈ wsL_law := inr_27 _ (List.mem_of_getElem? (i := 12) rfl)
theorem qw_27_13 : Cond.selects RX6 yX6_differentDots yX6_differentDots ∈ wsL_law := inr_27 _ (List.mem_of_getElem? (i := 13) rfl)
theorem qw_27_14 : Cond.code yX6_differentDots cX6_differentDots 6 (some .int) ∈ wsL_law := inr_27 _ (List.mem_of_getElem? (i := 14) rfl)
theorem qw_27_15 : Cond.methodLink RX6 176 yX6_turnsOfPlane ∈ wsL_law := inr_27 _ (List.mem_of_getElem? (i := 15) rfl)
theorem qw_27_16 : Cond.instanceMethod yX6_turnsOfPlane ∈ wsL_law := inr_27 _ (List.mem_of_getElem? (i := 16) rfl)
theorem qw_27_17 : Cond.selects RX6 yX6_turnsOfPlane yX6_turnsOfPlane ∈ wsL_law := inr_27 _ (List.mem_of_getElem? (i := 17) rfl)
theorem qw_27_18 : Cond.code yX6_turnsOfPlane cX6_turnsOfPlane 5 (some .int) ∈ wsL_law := inr_27 _ (List.mem_of_getElem? (i := 18) rfl)
theorem qw_27_19 : Cond.methodLink RL 94 yX5_echo ∈ wsL_law := inr_27 _ (List.mem_of_getElem? (i := 19) rfl)
theorem qw_27_20 : Cond.instanceMethod yX5_echo ∈ wsL_law := inr_27 _ (List.mem_of_getElem? (i := 20) rfl)
theorem qw_27_21 : Cond.selects RX5 yX5_echo yX5_echo ∈ wsL_law := inr_27 _ (List.mem_of_getElem? (i := 21) rfl)
theorem qw_27_22 : Cond.code yX5_echo cX5_echo 3 (some .int) ∈ wsL_law := inr_27 _ (List.mem_of_getElem? (i := 22) rfl)
theorem qw_27_23 : Cond.methodLink RX5 182 yX1_echoOf ∈ wsL_law := inr_27 _ (List.mem_of_getElem? (i := 23) rfl)
theorem inr_28 : ∀ w ∈ wsL_law_r28, w ∈ wsL_law := fun _ h => List.mem_append_left _ (List.mem_append_left _ (List.mem_append_left _ (List.mem_append_left _ (List.mem_append_left _ (List.mem_append_left _ (List.mem_append_left _ (List.mem_append_left _ (List.mem_append_right _ (List.mem_append_right _ (List.mem_append_right _ (List.mem_append_right _ (List.mem_append_right _ (List.mem_append_right _ (List.mem_append_right _ (List.mem_append_right _ (List.mem_append_right _ (List.mem_append_right _ (List.mem_append_right _ (List.mem_append_right _ (List.mem_append_right _ (List.mem_append_right _ (List.mem_append_right _ (List.mem_append_right _ (List.mem_append_right _ (List.mem_append_right _ (List.mem_append_right _ (List.mem_append_right _ (List.mem_append_right _ (List.mem_append_right _ (List.mem_append_right _ (List.mem_append_right _ (List.mem_append_right _ (List.mem_append_right _ (List.mem_append_right _ (List.mem_append_left _ h)))))))))))))))))))))))))))))))))))
theorem qw_28_0 : Cond.instanceMethod yX1_echoOf ∈ wsL_law := inr_28 _ (List.mem_of_getElem? (i := 0) rfl)
theorem qw_28_1 : Cond.selects RX1 yX1_echoOf yX1_echoOf ∈ wsL_law := inr_28 _ (List.mem_of_getElem? (i := 1) rfl)
theorem qw_28_2 : Cond.code yX1_echoOf cX1_echoOf 4 (some .int) ∈ wsL_law := inr_28 _ (List.mem_of_getElem? (i := 2) rfl)
theorem qw_28_3 : Cond.methodLink RL 97 yX6_echo ∈ wsL_law := inr_28 _ (List.mem_of_getElem? (i := 3) rfl)
theorem qw_28_4 : Cond.instanceMethod yX6_echo ∈ wsL_law := inr_28 _ (List.mem_of_getElem? (i := 4) rfl)
theorem qw_28_5 : Cond.selects RX6 yX6_echo yX6_echo ∈ wsL_law := inr_28 _ (List.mem_of_getElem? (i := 5) rfl)
theorem qw_28_6 : Cond.code yX6_echo cX6_echo 3 (some .int) ∈ wsL_law := inr_28 _ (List.mem_of_getElem? (i := 6) rfl)
theorem qw_28_7 : Cond.methodLink RX6 179 yX6_echoes ∈ wsL_law := inr_28 _ (List.mem_of_getElem? (i := 7) rfl)
theorem qw_28_8 : Cond.instanceMethod yX6_echoes ∈ wsL_law := inr_28 _ (List.mem_of_getElem? (i := 8) rfl)
theorem qw_28_9 : Cond.selects RX6 yX6_echoes yX6_echoes ∈ wsL_law := inr_28 _ (List.mem_of_getElem? (i := 9) rfl)
theorem qw_28_10 : Cond.code yX6_echoes cX6_echoes 5 (some .int) ∈ wsL_law := inr_28 _ (List.mem_of_getElem? (i := 10) rfl)
theorem qw_28_11 : Cond.methodLink RL 98 yX5_echoAt ∈ wsL_law := inr_28 _ (List.mem_of_getElem? (i := 11) rfl)
theorem qw_28_12 : Cond.instanceMethod yX5_echoAt ∈ wsL_law := inr_28 _ (List.mem_of_getElem? (i := 12) rfl)
theorem qw_28_13 : Cond.selects RX5 yX5_echoAt yX5_echoAt ∈ wsL_law := inr_28 _ (List.mem_of_getElem? (i := 13) rfl)
theorem qw_28_14 : Cond.code yX5_echoAt cX5_echoAt 4 (some .int) ∈ wsL_law := inr_28 _ (List.mem_of_getElem? (i := 14) rfl)
theorem qw_28_15 : Cond.methodLink RX5 185 yX5_rankedAt ∈ wsL_law := inr_28 _ (List.mem_of_getElem? (i := 15) rfl)
theorem qw_28_16 : Cond.instanceMethod yX5_rankedAt ∈ wsL_law := inr_28 _ (List.mem_of_getElem? (i := 16) rfl)
theorem qw_28_17 : Cond.selects RX5 yX5_rankedAt yX5_rankedAt ∈ wsL_law := inr_28 _ (List.mem_of_getElem? (i := 17) rfl)
theorem qw_28_18 : Cond.code yX5_rankedAt cX5_rankedAt 4 (some .int) ∈ wsL_law := inr_28 _ (List.mem_of_getElem? (i := 18) rfl)
theorem qw_28_19 : Cond.methodLink RX5 251 yX5_rankOf ∈ wsL_law := inr_28 _ (List.mem_of_getElem? (i := 19) rfl)
theorem qw_28_20 : Cond.instanceMethod yX5_rankOf ∈ wsL_law := inr_28 _ (List.mem_of_getElem? (i := 20) rfl)
theorem qw_28_21 : Cond.selects RX5 yX5_rankOf yX5_rankOf ∈ wsL_law := inr_28 _ (List.mem_of_getElem? (i := 21) rfl)
theorem qw_28_22 : Cond.code yX5_rankOf cX5_rankOf 5 (some .int) ∈ wsL_law := inr_28 _ (List.mem_of_getElem? (i := 22) rfl)
theorem qw_28_23 : Cond.methodLink RL 101 yX6_echoAt ∈ wsL_law := inr_28 _ (List.mem_of_getElem? (i := 23) rfl)
theorem inr_29 : ∀ w ∈ wsL_law_r29, w ∈ wsL_law := fun _ h => List.mem_append_left _ (List.mem_append_left _ (List.mem_append_left _ (List.mem_append_left _ (List.mem_append_left _ (List.mem_append_left _ (List.mem_append_left _ (List.mem_append_left _ (List.mem_append_right _ (List.mem_append_right _ (List.mem_append_right _ (List.mem_append_right _ (List.mem_append_right _ (List.mem_append_right _ (List.mem_append_right _ (List.mem_append_right _ (List.mem_append_right _ (List.mem_append_right _ (List.mem_append_right _ (List.mem_append_right _ (List.mem_append_right _ (List.mem_append_right _ (List.mem_append_right _ (List.mem_append_right _ (List.mem_append_right _ (List.mem_append_right _ (List.mem_append_right _ (List.mem_append_right _ (List.mem_append_right _ (List.mem_append_right _ (List.mem_append_right _ (List.mem_append_right _ (List.mem_append_right _ (List.mem_append_right _ (List.mem_append_right _ (List.mem_append_right _ (List.mem_append_left _ h))))))))))))))))))))))))))))))))))))
theorem qw_29_0 : Cond.instanceMethod yX6_echoAt ∈ wsL_law := inr_29 _ (List.mem_of_getElem? (i := 0) rfl)
theorem qw_29_1 : Cond.selects RX6 yX6_echoAt yX6_echoAt ∈ wsL_law := inr_29 _ (List.mem_of_getElem? (i := 1) rfl)
theorem qw_29_2 : Cond.code yX6_echoAt cX6_echoAt 8 (some .int) ∈ wsL_law := inr_29 _ (List.mem_of_getElem? (i := 2) rfl)
theorem qw_29_3 : Cond.methodLink RL 102 yX5_faulty ∈ wsL_law := inr_29 _ (List.mem_of_getElem? (i := 3) rfl)
theorem qw_29_4 : Cond.instanceMethod yX5_faulty ∈ wsL_law := inr_29 _ (List.mem_of_getElem? (i := 4) rfl)
theorem qw_29_5 : Cond.selects RX5 yX5_faulty yX5_faulty ∈ wsL_law := inr_29 _ (List.mem_of_getElem? (i := 5) rfl)
theorem qw_29_6 : Cond.code yX5_faulty cX5_faulty 5 (some .int) ∈ wsL_law := inr_29 _ (List.mem_of_getElem? (i := 6) rfl)
theorem qw_29_7 : Cond.methodLink RL 105 yX6_faulty ∈ wsL_law := inr_29 _ (List.mem_of_getElem? (i := 7) rfl)
theorem qw_29_8 : Cond.instanceMethod yX6_faulty ∈ wsL_law := inr_29 _ (List.mem_of_getElem? (i := 8) rfl)
theorem qw_29_9 : Cond.selects RX6 yX6_faulty yX6_faulty ∈ wsL_law := inr_29 _ (List.mem_of_getElem? (i := 9) rfl)
theorem qw_29_10 : Cond.code yX6_faulty cX6_faulty 7 (some .int) ∈ wsL_law := inr_29 _ (List.mem_of_getElem? (i := 10) rfl)
theorem qw_29_11 : Cond.methodLink RX6 182 yX6_faults ∈ wsL_law := inr_29 _ (List.mem_of_getElem? (i := 11) rfl)
theorem qw_29_12 : Cond.instanceMethod yX6_faults ∈ wsL_law := inr_29 _ (List.mem_of_getElem? (i := 12) rfl)
theorem qw_29_13 : Cond.selects RX6 yX6_faults yX6_faults ∈ wsL_law := inr_29 _ (List.mem_of_getElem? (i := 13) rfl)
theorem qw_29_14 : Cond.code yX6_faults cX6_faults 3 (some .int) ∈ wsL_law := inr_29 _ (List.mem_of_getElem? (i := 14) rfl)
theorem qw_29_15 : Cond.methodLink RL 106 yX5_plane ∈ wsL_law := inr_29 _ (List.mem_of_getElem? (i := 15) rfl)
theorem qw_29_16 : Cond.instanceMethod yX5_plane ∈ wsL_law := inr_29 _ (List.mem_of_getElem? (i := 16) rfl)
theorem qw_29_17 : Cond.selects RX5 yX5_plane yX5_plane ∈ wsL_law := inr_29 _ (List.mem_of_getElem? (i := 17) rfl)
theorem qw_29_18 : Cond.code yX5_plane cX5_plane 5 (some .int) ∈ wsL_law := inr_29 _ (List.mem_of_getElem? (i := 18) rfl)
theorem qw_29_19 : Cond.methodLink RX5 188 yX1_numberOfPlane ∈ wsL_law := inr_29 _ (List.mem_of_getElem? (i := 19) rfl)
theorem qw_29_20 : Cond.instanceMethod yX1_numberOfPlane ∈ wsL_law := inr_29 _ (List.mem_of_getElem? (i := 20) rfl)
theorem qw_29_21 : Cond.selects RX1 yX1_numberOfPlane yX1_numberOfPlane ∈ wsL_law := inr_29 _ (List.mem_of_getElem? (i := 21) rfl)
theorem qw_29_22 : Cond.code yX1_numberOfPlane cX1_numberOfPlane 9 (some .int) ∈ wsL_law := inr_29 _ (List.mem_of_getElem? (i := 22) rfl)
theorem qw_29_23 : Cond.methodLink RL 109 yX6_plane ∈ wsL_law := inr_29 _ (List.mem_of_getElem? (i := 23) rfl)
theorem inr_30 : ∀ w ∈ wsL_law_r30, w ∈ wsL_law := fun _ h => List.mem_append_left _ (List.mem_append_left _ (List.mem_append_left _ (List.mem_append_left _ (List.mem_append_left _ (List.mem_append_left _ (List.mem_append_left _ (List.mem_append_left _ (List.mem_append_right _ (List.mem_append_right _ (List.mem_append_right _ (List.mem_append_right _ (List.mem_append_right _ (List.mem_append_right _ (List.mem_append_right _ (List.mem_append_right _ (List.mem_append_right _ (List.mem_append_right _ (List.mem_append_right _ (List.mem_append_right _ (List.mem_append_right _ (List.mem_append_right _ (List.mem_append_right _ (List.mem_append_right _ (List.mem_append_right _ (List.mem_append_right _ (List.mem_append_right _ (List.mem_append_right _ (List.mem_append_right _ (List.mem_append_right _ (List.mem_append_right _ (List.mem_append_right _ (List.mem_append_right _ (List.mem_append_right _ (List.mem_append_right _ (List.mem_append_right _ (List.mem_append_right _ (List.mem_append_left _ h)))))))))))))))))))))))))))))))))))))
theorem qw_30_0 : Cond.instanceMethod yX6_plane ∈ wsL_law := inr_30 _ (List.mem_of_getElem? (i := 0) rfl)
theorem qw_30_1 : Cond.selects RX6 yX6_plane yX6_plane ∈ wsL_law := inr_30 _ (List.mem_of_getElem? (i := 1) rfl)
theorem qw_30_2 : Cond.code yX6_plane cX6_plane 10 (some .int) ∈ wsL_law := inr_30 _ (List.mem_of_getElem? (i := 2) rfl)
theorem qw_30_3 : Cond.methodLink RL 110 yX5_pictures ∈ wsL_law := inr_30 _ (List.mem_of_getElem? (i := 3) rfl)
theorem qw_30_4 : Cond.instanceMethod yX5_pictures ∈ wsL_law := inr_30 _ (List.mem_of_getElem? (i := 4) rfl)
theorem qw_30_5 : Cond.selects RX5 yX5_pictures yX5_pictures ∈ wsL_law := inr_30 _ (List.mem_of_getElem? (i := 5) rfl)
theorem qw_30_6 : Cond.code yX5_pictures cX5_pictures 3 (some .int) ∈ wsL_law := inr_30 _ (List.mem_of_getElem? (i := 6) rfl)
theorem qw_30_7 : Cond.methodLink RX5 191 arraycopyName ∈ wsL_law := inr_30 _ (List.mem_of_getElem? (i := 7) rfl)
theorem qw_30_8 : Cond.methodLink RX5 197 yX5_isNewPicture ∈ wsL_law := inr_30 _ (List.mem_of_getElem? (i := 8) rfl)
theorem qw_30_9 : Cond.instanceMethod yX5_isNewPicture ∈ wsL_law := inr_30 _ (List.mem_of_getElem? (i := 9) rfl)
theorem qw_30_10 : Cond.selects RX5 yX5_isNewPicture yX5_isNewPicture ∈ wsL_law := inr_30 _ (List.mem_of_getElem? (i := 10) rfl)
theorem qw_30_11 : Cond.code yX5_isNewPicture cX5_isNewPicture 3 (some .boolean) ∈ wsL_law := inr_30 _ (List.mem_of_getElem? (i := 11) rfl)
theorem qw_30_12 : Cond.methodLink RX5 254 yX5_isSameView ∈ wsL_law := inr_30 _ (List.mem_of_getElem? (i := 12) rfl)
theorem qw_30_13 : Cond.instanceMethod yX5_isSameView ∈ wsL_law := inr_30 _ (List.mem_of_getElem? (i := 13) rfl)
theorem qw_30_14 : Cond.selects RX5 yX5_isSameView yX5_isSameView ∈ wsL_law := inr_30 _ (List.mem_of_getElem? (i := 14) rfl)
theorem qw_30_15 : Cond.code yX5_isSameView cX5_isSameView 4 (some .boolean) ∈ wsL_law := inr_30 _ (List.mem_of_getElem? (i := 15) rfl)
theorem qw_30_16 : Cond.methodLink RL 113 yX6_pictures ∈ wsL_law := inr_30 _ (List.mem_of_getElem? (i := 16) rfl)
theorem qw_30_17 : Cond.instanceMethod yX6_pictures ∈ wsL_law := inr_30 _ (List.mem_of_getElem? (i := 17) rfl)
theorem qw_30_18 : Cond.selects RX6 yX6_pictures yX6_pictures ∈ wsL_law := inr_30 _ (List.mem_of_getElem? (i := 18) rfl)
theorem qw_30_19 : Cond.code yX6_pictures cX6_pictures 5 (some .int) ∈ wsL_law := inr_30 _ (List.mem_of_getElem? (i := 19) rfl)
theorem qw_30_20 : Cond.methodLink RX6 188 yX6_likes ∈ wsL_law := inr_30 _ (List.mem_of_getElem? (i := 20) rfl)
theorem qw_30_21 : Cond.instanceMethod yX6_likes ∈ wsL_law := inr_30 _ (List.mem_of_getElem? (i := 21) rfl)
theorem qw_30_22 : Cond.selects RX6 yX6_likes yX6_likes ∈ wsL_law := inr_30 _ (List.mem_of_getElem? (i := 22) rfl)
theorem qw_30_23 : Cond.code yX6_likes cX6_likes 5 (some .int) ∈ wsL_law := inr_30 _ (List.mem_of_getElem? (i := 23) rfl)
theorem inr_31 : ∀ w ∈ wsL_law_r31, w ∈ wsL_law := fun _ h => List.mem_append_left _ (List.mem_append_left _ (List.mem_append_left _ (List.mem_append_left _ (List.mem_append_left _ (List.mem_append_left _ (List.mem_append_left _ (List.mem_append_left _ (List.mem_append_right _ (List.mem_append_right _ (List.mem_append_right _ (List.mem_append_right _ (List.mem_append_right _ (List.mem_append_right _ (List.mem_append_right _ (List.mem_append_right _ (List.mem_append_right _ (List.mem_append_right _ (List.mem_append_right _ (List.mem_append_right _ (List.mem_append_right _ (List.mem_append_right _ (List.mem_append_right _ (List.mem_append_right _ (List.mem_append_right _ (List.mem_append_right _ (List.mem_append_right _ (List.mem_append_right _ (List.mem_append_right _ (List.mem_append_right _ (List.mem_append_right _ (List.mem_append_right _ (List.mem_append_right _ (List.mem_append_right _ (List.mem_append_right _ (List.mem_append_right _ (List.mem_append_right _ (List.mem_append_right _ (List.mem_append_left _ h))))))))))))))))))))))))))))))))))))))
theorem qw_31_0 : Cond.methodLink RX6 185 yX6_looksBeside ∈ wsL_law := inr_31 _ (List.mem_of_getElem? (i := 0) rfl)
theorem qw_31_1 : Cond.instanceMethod yX6_looksBeside ∈ wsL_law := inr_31 _ (List.mem_of_getElem? (i := 1) rfl)
theorem qw_31_2 : Cond.selects RX6 yX6_looksBeside yX6_looksBeside ∈ wsL_law := inr_31 _ (List.mem_of_getElem? (i := 2) rfl)
theorem qw_31_3 : Cond.code yX6_looksBeside cX6_looksBeside 3 none ∈ wsL_law := inr_31 _ (List.mem_of_getElem? (i := 3) rfl)
theorem qw_31_4 : Cond.methodLink RL 114 yX5_count ∈ wsL_law := inr_31 _ (List.mem_of_getElem? (i := 4) rfl)
theorem qw_31_5 : Cond.instanceMethod yX5_count ∈ wsL_law := inr_31 _ (List.mem_of_getElem? (i := 5) rfl)
theorem qw_31_6 : Cond.selects RX5 yX5_count yX5_count ∈ wsL_law := inr_31 _ (List.mem_of_getElem? (i := 6) rfl)
theorem qw_31_7 : Cond.code yX5_count cX5_count 2 (some .int) ∈ wsL_law := inr_31 _ (List.mem_of_getElem? (i := 7) rfl)
theorem qw_31_8 : Cond.fieldLink RX5 203 "StripDepths$History" "states" "I" ∈ wsL_law := inr_31 _ (List.mem_of_getElem? (i := 8) rfl)
theorem qw_31_9 : Cond.methodLink RX5 200 yX4_planesAboveZero ∈ wsL_law := inr_31 _ (List.mem_of_getElem? (i := 9) rfl)
theorem qw_31_10 : Cond.instanceMethod yX4_planesAboveZero ∈ wsL_law := inr_31 _ (List.mem_of_getElem? (i := 10) rfl)
theorem qw_31_11 : Cond.selects RX4 yX4_planesAboveZero yX4_planesAboveZero ∈ wsL_law := inr_31 _ (List.mem_of_getElem? (i := 11) rfl)
theorem qw_31_12 : Cond.code yX4_planesAboveZero cX4_planesAboveZero 3 (some .int) ∈ wsL_law := inr_31 _ (List.mem_of_getElem? (i := 12) rfl)
theorem qw_31_13 : Cond.methodLink RX5 206 yX5_allPlacesOfKind ∈ wsL_law := inr_31 _ (List.mem_of_getElem? (i := 13) rfl)
theorem qw_31_14 : Cond.instanceMethod yX5_allPlacesOfKind ∈ wsL_law := inr_31 _ (List.mem_of_getElem? (i := 14) rfl)
theorem qw_31_15 : Cond.selects RX5 yX5_allPlacesOfKind yX5_allPlacesOfKind ∈ wsL_law := inr_31 _ (List.mem_of_getElem? (i := 15) rfl)
theorem qw_31_16 : Cond.code yX5_allPlacesOfKind cX5_allPlacesOfKind 4 (some .int) ∈ wsL_law := inr_31 _ (List.mem_of_getElem? (i := 16) rfl)
theorem qw_31_17 : Cond.methodLink RL 117 yX6_count ∈ wsL_law := inr_31 _ (List.mem_of_getElem? (i := 17) rfl)
theorem qw_31_18 : Cond.instanceMethod yX6_count ∈ wsL_law := inr_31 _ (List.mem_of_getElem? (i := 18) rfl)
theorem qw_31_19 : Cond.selects RX6 yX6_count yX6_count ∈ wsL_law := inr_31 _ (List.mem_of_getElem? (i := 19) rfl)
theorem qw_31_20 : Cond.code yX6_count cX6_count 2 (some .int) ∈ wsL_law := inr_31 _ (List.mem_of_getElem? (i := 20) rfl)
theorem qw_31_21 : Cond.methodLink RX6 191 yX6_overAll ∈ wsL_law := inr_31 _ (List.mem_of_getElem? (i := 21) rfl)
theorem qw_31_22 : Cond.instanceMethod yX6_overAll ∈ wsL_law := inr_31 _ (List.mem_of_getElem? (i := 22) rfl)
theorem qw_31_23 : Cond.selects RX6 yX6_overAll yX6_overAll ∈ wsL_law := inr_31 _ (List.mem_of_getElem? (i := 23) rfl)
theorem inr_32 : ∀ w ∈ wsL_law_r32, w ∈ wsL_law := fun _ h => List.mem_append_left _ (List.mem_append_left _ (List.mem_append_left _ (List.mem_append_left _ (List.mem_append_left _ (List.mem_append_left _ (List.mem_append_left _ (List.mem_append_left _ (List.mem_append_right _ (List.mem_append_right _ (List.mem_append_right _ (List.mem_append_right _ (List.mem_append_right _ (List.mem_append_right _ (List.mem_append_right _ (List.mem_append_right _ (List.mem_append_right _ (List.mem_append_right _ (List.mem_append_right _ (List.mem_append_right _ (List.mem_append_right _ (List.mem_append_right _ (List.mem_append_right _ (List.mem_append_right _ (List.mem_append_right _ (List.mem_append_right _ (List.mem_append_right _ (List.mem_append_right _ (List.mem_append_right _ (List.mem_append_right _ (List.mem_append_right _ (List.mem_append_right _ (List.mem_append_right _ (List.mem_append_right _ (List.mem_append_right _ (List.mem_append_right _ (List.mem_append_right _ (List.mem_append_right _ (List.mem_append_right _ (List.mem_append_left _ h)))))))))))))))))))))))))))))))))))))))
theorem qw_32_0 : Cond.code yX6_overAll cX6_overAll 4 (some .int) ∈ wsL_law := inr_32 _ (List.mem_of_getElem? (i := 0) rfl)
theorem qw_32_1 : Cond.methodLink RX6 194 yX6_raised ∈ wsL_law := inr_32 _ (List.mem_of_getElem? (i := 1) rfl)
theorem qw_32_2 : Cond.instanceMethod yX6_raised ∈ wsL_law := inr_32 _ (List.mem_of_getElem? (i := 2) rfl)
theorem qw_32_3 : Cond.selects RX6 yX6_raised yX6_raised ∈ wsL_law := inr_32 _ (List.mem_of_getElem? (i := 3) rfl)
theorem qw_32_4 : Cond.code yX6_raised cX6_raised 3 (some .int) ∈ wsL_law := inr_32 _ (List.mem_of_getElem? (i := 4) rfl)
theorem qw_32_5 : Cond.methodLink RL 118 yX5_away ∈ wsL_law := inr_32 _ (List.mem_of_getElem? (i := 5) rfl)
theorem qw_32_6 : Cond.instanceMethod yX5_away ∈ wsL_law := inr_32 _ (List.mem_of_getElem? (i := 6) rfl)
theorem qw_32_7 : Cond.selects RX5 yX5_away yX5_away ∈ wsL_law := inr_32 _ (List.mem_of_getElem? (i := 7) rfl)
theorem qw_32_8 : Cond.code yX5_away cX5_away 5 (some .float) ∈ wsL_law := inr_32 _ (List.mem_of_getElem? (i := 8) rfl)
theorem qw_32_9 : Cond.constantFloat RX5 209 (3212836864) ∈ wsL_law := inr_32 _ (List.mem_of_getElem? (i := 9) rfl)
theorem qw_32_10 : Cond.methodLink RL 122 yX6_away ∈ wsL_law := inr_32 _ (List.mem_of_getElem? (i := 10) rfl)
theorem qw_32_11 : Cond.instanceMethod yX6_away ∈ wsL_law := inr_32 _ (List.mem_of_getElem? (i := 11) rfl)
theorem qw_32_12 : Cond.selects RX6 yX6_away yX6_away ∈ wsL_law := inr_32 _ (List.mem_of_getElem? (i := 12) rfl)
theorem qw_32_13 : Cond.code yX6_away cX6_away 4 (some .float) ∈ wsL_law := inr_32 _ (List.mem_of_getElem? (i := 13) rfl)
theorem qw_32_14 : Cond.constantFloat RX6 197 (3212836864) ∈ wsL_law := inr_32 _ (List.mem_of_getElem? (i := 14) rfl)
theorem qw_32_15 : Cond.methodLink RL 123 yX5_clearness ∈ wsL_law := inr_32 _ (List.mem_of_getElem? (i := 15) rfl)
theorem qw_32_16 : Cond.instanceMethod yX5_clearness ∈ wsL_law := inr_32 _ (List.mem_of_getElem? (i := 16) rfl)
theorem qw_32_17 : Cond.selects RX5 yX5_clearness yX5_clearness ∈ wsL_law := inr_32 _ (List.mem_of_getElem? (i := 17) rfl)
theorem qw_32_18 : Cond.code yX5_clearness cX5_clearness 2 (some .double) ∈ wsL_law := inr_32 _ (List.mem_of_getElem? (i := 18) rfl)
theorem qw_32_19 : Cond.constantDouble RX5 210 (13830554455654793216) ∈ wsL_law := inr_32 _ (List.mem_of_getElem? (i := 19) rfl)
theorem qw_32_20 : Cond.constantDouble RX5 212 (4629700416936869888) ∈ wsL_law := inr_32 _ (List.mem_of_getElem? (i := 20) rfl)
theorem qw_32_21 : Cond.methodLink RL 127 yX6_clearness ∈ wsL_law := inr_32 _ (List.mem_of_getElem? (i := 21) rfl)
theorem qw_32_22 : Cond.instanceMethod yX6_clearness ∈ wsL_law := inr_32 _ (List.mem_of_getElem? (i := 22) rfl)
theorem qw_32_23 : Cond.selects RX6 yX6_clearness yX6_clearness ∈ wsL_law := inr_32 _ (List.mem_of_getElem? (i := 23) rfl)
theorem inr_33 : ∀ w ∈ wsL_law_r33, w ∈ wsL_law := fun _ h => List.mem_append_left _ (List.mem_append_left _ (List.mem_append_left _ (List.mem_append_left _ (List.mem_append_left _ (List.mem_append_left _ (List.mem_append_left _ (List.mem_append_left _ (List.mem_append_right _ (List.mem_append_right _ (List.mem_append_right _ (List.mem_append_right _ (List.mem_append_right _ (List.mem_append_right _ (List.mem_append_right _ (List.mem_append_right _ (List.mem_append_right _ (List.mem_append_right _ (List.mem_append_right _ (List.mem_append_right _ (List.mem_append_right _ (List.mem_append_right _ (List.mem_append_right _ (List.mem_append_right _ (List.mem_append_right _ (List.mem_append_right _ (List.mem_append_right _ (List.mem_append_right _ (List.mem_append_right _ (List.mem_append_right _ (List.mem_append_right _ (List.mem_append_right _ (List.mem_append_right _ (List.mem_append_right _ (List.mem_append_right _ (List.mem_append_right _ (List.mem_append_right _ (List.mem_append_right _ (List.mem_append_right _ (List.mem_append_right _ (List.mem_append_left _ h))))))))))))))))))))))))))))))))))))))))
theorem qw_33_0 : Cond.code yX6_clearness cX6_clearness 2 (some .double) ∈ wsL_law := inr_33 _ (List.mem_of_getElem? (i := 0) rfl)
theorem qw_33_1 : Cond.constantDouble RX6 198 (4629700416936869888) ∈ wsL_law := inr_33 _ (List.mem_of_getElem? (i := 1) rfl)
theorem qw_33_2 : Cond.constantDouble RX6 200 (13830554455654793216) ∈ wsL_law := inr_33 _ (List.mem_of_getElem? (i := 2) rfl)
theorem qw_33_3 : Cond.methodLink RL 128 yX5_ifPainted ∈ wsL_law := inr_33 _ (List.mem_of_getElem? (i := 3) rfl)
theorem qw_33_4 : Cond.instanceMethod yX5_ifPainted ∈ wsL_law := inr_33 _ (List.mem_of_getElem? (i := 4) rfl)
theorem qw_33_5 : Cond.selects RX5 yX5_ifPainted yX5_ifPainted ∈ wsL_law := inr_33 _ (List.mem_of_getElem? (i := 5) rfl)
theorem qw_33_6 : Cond.code yX5_ifPainted cX5_ifPainted 5 (some .int) ∈ wsL_law := inr_33 _ (List.mem_of_getElem? (i := 6) rfl)
theorem qw_33_7 : Cond.methodLink RX5 214 yX1_watch ∈ wsL_law := inr_33 _ (List.mem_of_getElem? (i := 7) rfl)
theorem qw_33_8 : Cond.methodLink RX5 217 yX1_placesSeenAs ∈ wsL_law := inr_33 _ (List.mem_of_getElem? (i := 8) rfl)
theorem qw_33_9 : Cond.instanceMethod yX1_placesSeenAs ∈ wsL_law := inr_33 _ (List.mem_of_getElem? (i := 9) rfl)
theorem qw_33_10 : Cond.selects RX1 yX1_placesSeenAs yX1_placesSeenAs ∈ wsL_law := inr_33 _ (List.mem_of_getElem? (i := 10) rfl)
theorem qw_33_11 : Cond.code yX1_placesSeenAs cX1_placesSeenAs 4 (some .int) ∈ wsL_law := inr_33 _ (List.mem_of_getElem? (i := 11) rfl)
theorem qw_33_12 : Cond.methodLink RX5 221 yX1_farthestSeenOtherwise ∈ wsL_law := inr_33 _ (List.mem_of_getElem? (i := 12) rfl)
theorem qw_33_13 : Cond.instanceMethod yX1_farthestSeenOtherwise ∈ wsL_law := inr_33 _ (List.mem_of_getElem? (i := 13) rfl)
theorem qw_33_14 : Cond.selects RX1 yX1_farthestSeenOtherwise yX1_farthestSeenOtherwise ∈ wsL_law := inr_33 _ (List.mem_of_getElem? (i := 14) rfl)
theorem qw_33_15 : Cond.code yX1_farthestSeenOtherwise cX1_farthestSeenOtherwise 5 (some .int) ∈ wsL_law := inr_33 _ (List.mem_of_getElem? (i := 15) rfl)
theorem qw_33_16 : Cond.methodLink RX1 122 Lib.Math.abs.name ∈ wsL_law := inr_33 _ (List.mem_of_getElem? (i := 16) rfl)
theorem qw_33_17 : Cond.static Lib.Math.abs.name ∈ wsL_law := inr_33 _ (List.mem_of_getElem? (i := 17) rfl)
theorem qw_33_18 : Cond.code Lib.Math.abs.name Lib.Math.abs.code 1 (some .int) ∈ wsL_law := inr_33 _ (List.mem_of_getElem? (i := 18) rfl)
theorem qw_33_19 : Cond.methodLink RL 132 yX6_ifPainted ∈ wsL_law := inr_33 _ (List.mem_of_getElem? (i := 19) rfl)
theorem qw_33_20 : Cond.instanceMethod yX6_ifPainted ∈ wsL_law := inr_33 _ (List.mem_of_getElem? (i := 20) rfl)
theorem qw_33_21 : Cond.selects RX6 yX6_ifPainted yX6_ifPainted ∈ wsL_law := inr_33 _ (List.mem_of_getElem? (i := 21) rfl)
theorem qw_33_22 : Cond.code yX6_ifPainted cX6_ifPainted 10 (some .int) ∈ wsL_law := inr_33 _ (List.mem_of_getElem? (i := 22) rfl)
theorem qw_33_23 : Cond.methodLink RL 133 yX5_ifPrinted ∈ wsL_law := inr_33 _ (List.mem_of_getElem? (i := 23) rfl)
theorem inr_34 : ∀ w ∈ wsL_law_r34, w ∈ wsL_law := fun _ h => List.mem_append_left _ (List.mem_append_left _ (List.mem_append_left _ (List.mem_append_left _ (List.mem_append_left _ (List.mem_append_left _ (List.mem_append_left _ (List.mem_append_left _ (List.mem_append_right _ (List.mem_append_right _ (List.mem_append_right _ (List.mem_append_right _ (List.mem_append_right _ (List.mem_append_right _ (List.mem_append_right _ (List.mem_append_right _ (List.mem_append_right _ (List.mem_append_right _ (List.mem_append_right _ (List.mem_append_right _ (List.mem_append_right _ (List.mem_append_right _ (List.mem_append_right _ (List.mem_append_right _ (List.mem_append_right _ (List.mem_append_right _ (List.mem_append_right _ (List.mem_append_right _ (List.mem_append_right _ (List.mem_append_right _ (List.mem_append_right _ (List.mem_append_right _ (List.mem_append_right _ (List.mem_append_right _ (List.mem_append_right _ (List.mem_append_right _ (List.mem_append_right _ (List.mem_append_right _ (List.mem_append_right _ (List.mem_append_right _ (List.mem_append_right _ (List.mem_append_left _ h)))))))))))))))))))))))))))))))))))))))))
theorem qw_34_0 : Cond.instanceMethod yX5_ifPrinted ∈ wsL_law := inr_34 _ (List.mem_of_getElem? (i := 0) rfl)
theorem qw_34_1 : Cond.selects RX5 yX5_ifPrinted yX5_ifPrinted ∈ wsL_law := inr_34 _ (List.mem_of_getElem? (i := 1) rfl)
theorem qw_34_2 : Cond.code yX5_ifPrinted cX5_ifPrinted 3 (some .int) ∈ wsL_law := inr_34 _ (List.mem_of_getElem? (i := 2) rfl)
theorem qw_34_3 : Cond.methodLink RX5 225 yX5_rightIfPrinted ∈ wsL_law := inr_34 _ (List.mem_of_getElem? (i := 3) rfl)
theorem qw_34_4 : Cond.instanceMethod yX5_rightIfPrinted ∈ wsL_law := inr_34 _ (List.mem_of_getElem? (i := 4) rfl)
theorem qw_34_5 : Cond.selects RX5 yX5_rightIfPrinted yX5_rightIfPrinted ∈ wsL_law := inr_34 _ (List.mem_of_getElem? (i := 5) rfl)
theorem qw_34_6 : Cond.code yX5_rightIfPrinted cX5_rightIfPrinted 3 (some .int) ∈ wsL_law := inr_34 _ (List.mem_of_getElem? (i := 6) rfl)
theorem qw_34_7 : Cond.fieldLink RX5 248 "StripDepths$Look" "period" "I" ∈ wsL_law := inr_34 _ (List.mem_of_getElem? (i := 7) rfl)
theorem qw_34_8 : Cond.methodLink RL 136 yX6_ifPrinted ∈ wsL_law := inr_34 _ (List.mem_of_getElem? (i := 8) rfl)
theorem qw_34_9 : Cond.instanceMethod yX6_ifPrinted ∈ wsL_law := inr_34 _ (List.mem_of_getElem? (i := 9) rfl)
theorem qw_34_10 : Cond.selects RX6 yX6_ifPrinted yX6_ifPrinted ∈ wsL_law := inr_34 _ (List.mem_of_getElem? (i := 10) rfl)
theorem qw_34_11 : Cond.code yX6_ifPrinted cX6_ifPrinted 3 (some .int) ∈ wsL_law := inr_34 _ (List.mem_of_getElem? (i := 11) rfl)
theorem qw_34_12 : Cond.methodLink RX6 205 yX6_rightBy ∈ wsL_law := inr_34 _ (List.mem_of_getElem? (i := 12) rfl)
theorem qw_34_13 : Cond.instanceMethod yX6_rightBy ∈ wsL_law := inr_34 _ (List.mem_of_getElem? (i := 13) rfl)
theorem qw_34_14 : Cond.selects RX6 yX6_rightBy yX6_rightBy ∈ wsL_law := inr_34 _ (List.mem_of_getElem? (i := 14) rfl)
theorem qw_34_15 : Cond.code yX6_rightBy cX6_rightBy 4 (some .int) ∈ wsL_law := inr_34 _ (List.mem_of_getElem? (i := 15) rfl)
theorem qw_34_16 : Cond.methodLink RX6 202 yX6_putBack ∈ wsL_law := inr_34 _ (List.mem_of_getElem? (i := 16) rfl)
theorem qw_34_17 : Cond.instanceMethod yX6_putBack ∈ wsL_law := inr_34 _ (List.mem_of_getElem? (i := 17) rfl)
theorem qw_34_18 : Cond.selects RX6 yX6_putBack yX6_putBack ∈ wsL_law := inr_34 _ (List.mem_of_getElem? (i := 18) rfl)
theorem qw_34_19 : Cond.code yX6_putBack cX6_putBack 2 none ∈ wsL_law := inr_34 _ (List.mem_of_getElem? (i := 19) rfl)
theorem qw_34_20 : Cond.methodLink RL 137 yX5_shortest ∈ wsL_law := inr_34 _ (List.mem_of_getElem? (i := 20) rfl)
theorem qw_34_21 : Cond.instanceMethod yX5_shortest ∈ wsL_law := inr_34 _ (List.mem_of_getElem? (i := 21) rfl)
theorem qw_34_22 : Cond.selects RX5 yX5_shortest yX5_shortest ∈ wsL_law := inr_34 _ (List.mem_of_getElem? (i := 22) rfl)
theorem qw_34_23 : Cond.code yX5_shortest cX5_shortest 6 (some .int) ∈ wsL_law := inr_34 _ (List.mem_of_getElem? (i := 23) rfl)
theorem inr_35 : ∀ w ∈ wsL_law_r35, w ∈ wsL_law := fun _ h => List.mem_append_left _ (List.mem_append_left _ (List.mem_append_left _ (List.mem_append_left _ (List.mem_append_left _ (List.mem_append_left _ (List.mem_append_left _ (List.mem_append_left _ (List.mem_append_right _ (List.mem_append_right _ (List.mem_append_right _ (List.mem_append_right _ (List.mem_append_right _ (List.mem_append_right _ (List.mem_append_right _ (List.mem_append_right _ (List.mem_append_right _ (List.mem_append_right _ (List.mem_append_right _ (List.mem_append_right _ (List.mem_append_right _ (List.mem_append_right _ (List.mem_append_right _ (List.mem_append_right _ (List.mem_append_right _ (List.mem_append_right _ (List.mem_append_right _ (List.mem_append_right _ (List.mem_append_right _ (List.mem_append_right _ (List.mem_append_right _ (List.mem_append_right _ (List.mem_append_right _ (List.mem_append_right _ (List.mem_append_right _ (List.mem_append_right _ (List.mem_append_right _ (List.mem_append_right _ (List.mem_append_right _ (List.mem_append_right _ (List.mem_append_right _ (List.mem_append_right _ (List.mem_append_left _ h))))))))))))))))))))))))))))))))))))))))))
theorem qw_35_0 : Cond.methodLink RL 140 yX6_shortest ∈ wsL_law := inr_35 _ (List.mem_of_getElem? (i := 0) rfl)
theorem qw_35_1 : Cond.instanceMethod yX6_shortest ∈ wsL_law := inr_35 _ (List.mem_of_getElem? (i := 1) rfl)
theorem qw_35_2 : Cond.selects RX6 yX6_shortest yX6_shortest ∈ wsL_law := inr_35 _ (List.mem_of_getElem? (i := 2) rfl)
theorem qw_35_3 : Cond.code yX6_shortest cX6_shortest 4 (some .int) ∈ wsL_law := inr_35 _ (List.mem_of_getElem? (i := 3) rfl)
theorem qw_35_4 : Cond.methodLink RL 141 yX5_bestWindow ∈ wsL_law := inr_35 _ (List.mem_of_getElem? (i := 4) rfl)
theorem qw_35_5 : Cond.instanceMethod yX5_bestWindow ∈ wsL_law := inr_35 _ (List.mem_of_getElem? (i := 5) rfl)
theorem qw_35_6 : Cond.selects RX5 yX5_bestWindow yX5_bestWindow ∈ wsL_law := inr_35 _ (List.mem_of_getElem? (i := 6) rfl)
theorem qw_35_7 : Cond.code yX5_bestWindow cX5_bestWindow 6 (some .int) ∈ wsL_law := inr_35 _ (List.mem_of_getElem? (i := 7) rfl)
theorem qw_35_8 : Cond.fieldLink RX5 228 "StripDepths$Look" "window" "I" ∈ wsL_law := inr_35 _ (List.mem_of_getElem? (i := 8) rfl)
theorem qw_35_9 : Cond.methodLink RL 144 yX6_bestWindow ∈ wsL_law := inr_35 _ (List.mem_of_getElem? (i := 9) rfl)
theorem qw_35_10 : Cond.instanceMethod yX6_bestWindow ∈ wsL_law := inr_35 _ (List.mem_of_getElem? (i := 10) rfl)
theorem qw_35_11 : Cond.selects RX6 yX6_bestWindow yX6_bestWindow ∈ wsL_law := inr_35 _ (List.mem_of_getElem? (i := 11) rfl)
theorem qw_35_12 : Cond.code yX6_bestWindow cX6_bestWindow 4 (some .int) ∈ wsL_law := inr_35 _ (List.mem_of_getElem? (i := 12) rfl)
theorem qw_35_13 : Cond.methodLink RX6 208 yX6_rightThrough ∈ wsL_law := inr_35 _ (List.mem_of_getElem? (i := 13) rfl)
theorem qw_35_14 : Cond.instanceMethod yX6_rightThrough ∈ wsL_law := inr_35 _ (List.mem_of_getElem? (i := 14) rfl)
theorem qw_35_15 : Cond.selects RX6 yX6_rightThrough yX6_rightThrough ∈ wsL_law := inr_35 _ (List.mem_of_getElem? (i := 15) rfl)
theorem qw_35_16 : Cond.code yX6_rightThrough cX6_rightThrough 5 (some .int) ∈ wsL_law := inr_35 _ (List.mem_of_getElem? (i := 16) rfl)
theorem qw_35_17 : Cond.methodLink RL 145 yX5_alike ∈ wsL_law := inr_35 _ (List.mem_of_getElem? (i := 17) rfl)
theorem qw_35_18 : Cond.instanceMethod yX5_alike ∈ wsL_law := inr_35 _ (List.mem_of_getElem? (i := 18) rfl)
theorem qw_35_19 : Cond.selects RX5 yX5_alike yX5_alike ∈ wsL_law := inr_35 _ (List.mem_of_getElem? (i := 19) rfl)
theorem qw_35_20 : Cond.code yX5_alike cX5_alike 3 (some .int) ∈ wsL_law := inr_35 _ (List.mem_of_getElem? (i := 20) rfl)
theorem qw_35_21 : Cond.methodLink RL 148 yX6_alike ∈ wsL_law := inr_35 _ (List.mem_of_getElem? (i := 21) rfl)
theorem qw_35_22 : Cond.instanceMethod yX6_alike ∈ wsL_law := inr_35 _ (List.mem_of_getElem? (i := 22) rfl)
theorem qw_35_23 : Cond.selects RX6 yX6_alike yX6_alike ∈ wsL_law := inr_35 _ (List.mem_of_getElem? (i := 23) rfl)
theorem inr_36 : ∀ w ∈ wsL_law_r36, w ∈ wsL_law := fun _ h => List.mem_append_left _ (List.mem_append_left _ (List.mem_append_left _ (List.mem_append_left _ (List.mem_append_left _ (List.mem_append_left _ (List.mem_append_left _ (List.mem_append_left _ (List.mem_append_right _ (List.mem_append_right _ (List.mem_append_right _ (List.mem_append_right _ (List.mem_append_right _ (List.mem_append_right _ (List.mem_append_right _ (List.mem_append_right _ (List.mem_append_right _ (List.mem_append_right _ (List.mem_append_right _ (List.mem_append_right _ (List.mem_append_right _ (List.mem_append_right _ (List.mem_append_right _ (List.mem_append_right _ (List.mem_append_right _ (List.mem_append_right _ (List.mem_append_right _ (List.mem_append_right _ (List.mem_append_right _ (List.mem_append_right _ (List.mem_append_right _ (List.mem_append_right _ (List.mem_append_right _ (List.mem_append_right _ (List.mem_append_right _ (List.mem_append_right _ (List.mem_append_right _ (List.mem_append_right _ (List.mem_append_right _ (List.mem_append_right _ (List.mem_append_right _ (List.mem_append_right _ (List.mem_append_right _ (List.mem_append_left _ h)))))))))))))))))))))))))))))))))))))))))))
theorem qw_36_0 : Cond.code yX6_alike cX6_alike 3 (some .int) ∈ wsL_law := inr_36 _ (List.mem_of_getElem? (i := 0) rfl)
theorem qw_36_1 : Cond.methodLink RL 149 yX5_undo ∈ wsL_law := inr_36 _ (List.mem_of_getElem? (i := 1) rfl)
theorem qw_36_2 : Cond.instanceMethod yX5_undo ∈ wsL_law := inr_36 _ (List.mem_of_getElem? (i := 2) rfl)
theorem qw_36_3 : Cond.selects RX5 yX5_undo yX5_undo ∈ wsL_law := inr_36 _ (List.mem_of_getElem? (i := 3) rfl)
theorem qw_36_4 : Cond.code yX5_undo cX5_undo 1 (some .int) ∈ wsL_law := inr_36 _ (List.mem_of_getElem? (i := 4) rfl)
theorem qw_36_5 : Cond.methodLink RX5 231 yX0_takeBack ∈ wsL_law := inr_36 _ (List.mem_of_getElem? (i := 5) rfl)
theorem qw_36_6 : Cond.instanceMethod yX0_takeBack ∈ wsL_law := inr_36 _ (List.mem_of_getElem? (i := 6) rfl)
theorem qw_36_7 : Cond.selects RX0 yX0_takeBack yX0_takeBack ∈ wsL_law := inr_36 _ (List.mem_of_getElem? (i := 7) rfl)
theorem qw_36_8 : Cond.code yX0_takeBack cX0_takeBack 2 (some .boolean) ∈ wsL_law := inr_36 _ (List.mem_of_getElem? (i := 8) rfl)
theorem qw_36_9 : Cond.methodLink RL 152 yX6_undo ∈ wsL_law := inr_36 _ (List.mem_of_getElem? (i := 9) rfl)
theorem qw_36_10 : Cond.instanceMethod yX6_undo ∈ wsL_law := inr_36 _ (List.mem_of_getElem? (i := 10) rfl)
theorem qw_36_11 : Cond.selects RX6 yX6_undo yX6_undo ∈ wsL_law := inr_36 _ (List.mem_of_getElem? (i := 11) rfl)
theorem qw_36_12 : Cond.code yX6_undo cX6_undo 2 (some .int) ∈ wsL_law := inr_36 _ (List.mem_of_getElem? (i := 12) rfl)
theorem qw_36_13 : Cond.methodLink RL 153 yX5_save ∈ wsL_law := inr_36 _ (List.mem_of_getElem? (i := 13) rfl)
theorem qw_36_14 : Cond.instanceMethod yX5_save ∈ wsL_law := inr_36 _ (List.mem_of_getElem? (i := 14) rfl)
theorem qw_36_15 : Cond.selects RX5 yX5_save yX5_save ∈ wsL_law := inr_36 _ (List.mem_of_getElem? (i := 15) rfl)
theorem qw_36_16 : Cond.code yX5_save cX5_save 1 (some .int) ∈ wsL_law := inr_36 _ (List.mem_of_getElem? (i := 16) rfl)
theorem qw_36_17 : Cond.fieldLink RX5 238 "StripDepths" "hasSnapshot" "Z" ∈ wsL_law := inr_36 _ (List.mem_of_getElem? (i := 17) rfl)
theorem qw_36_18 : Cond.methodLink RX5 235 yX4_copyFrom ∈ wsL_law := inr_36 _ (List.mem_of_getElem? (i := 18) rfl)
theorem qw_36_19 : Cond.methodLink RL 156 yX6_save ∈ wsL_law := inr_36 _ (List.mem_of_getElem? (i := 19) rfl)
theorem qw_36_20 : Cond.instanceMethod yX6_save ∈ wsL_law := inr_36 _ (List.mem_of_getElem? (i := 20) rfl)
theorem qw_36_21 : Cond.selects RX6 yX6_save yX6_save ∈ wsL_law := inr_36 _ (List.mem_of_getElem? (i := 21) rfl)
theorem qw_36_22 : Cond.code yX6_save cX6_save 2 (some .int) ∈ wsL_law := inr_36 _ (List.mem_of_getElem? (i := 22) rfl)
theorem qw_36_23 : Cond.fieldLink RX6 211 "StripDepthsModel" "isKept" "Z" ∈ wsL_law := inr_36 _ (List.mem_of_getElem? (i := 23) rfl)
theorem inr_37 : ∀ w ∈ wsL_law_r37, w ∈ wsL_law := fun _ h => List.mem_append_left _ (List.mem_append_left _ (List.mem_append_left _ (List.mem_append_left _ (List.mem_append_left _ (List.mem_append_left _ (List.mem_append_left _ (List.mem_append_left _ (List.mem_append_right _ (List.mem_append_right _ (List.mem_append_right _ (List.mem_append_right _ (List.mem_append_right _ (List.mem_append_right _ (List.mem_append_right _ (List.mem_append_right _ (List.mem_append_right _ (List.mem_append_right _ (List.mem_append_right _ (List.mem_append_right _ (List.mem_append_right _ (List.mem_append_right _ (List.mem_append_right _ (List.mem_append_right _ (List.mem_append_right _ (List.mem_append_right _ (List.mem_append_right _ (List.mem_append_right _ (List.mem_append_right _ (List.mem_append_right _ (List.mem_append_right _ (List.mem_append_right _ (List.mem_append_right _ (List.mem_append_right _ (List.mem_append_right _ (List.mem_append_right _ (List.mem_append_right _ (List.mem_append_right _ (List.mem_append_right _ (List.mem_append_right _ (List.mem_append_right _ (List.mem_append_right _ (List.mem_append_right _ (List.mem_append_right _ (h))))))))))))))))))))))))))))))))))))))))))))
theorem qw_37_0 : Cond.methodLink RX6 214 yX6_allRight ∈ wsL_law := inr_37 _ (List.mem_of_getElem? (i := 0) rfl)
theorem qw_37_1 : Cond.instanceMethod yX6_allRight ∈ wsL_law := inr_37 _ (List.mem_of_getElem? (i := 1) rfl)
theorem qw_37_2 : Cond.selects RX6 yX6_allRight yX6_allRight ∈ wsL_law := inr_37 _ (List.mem_of_getElem? (i := 2) rfl)
theorem qw_37_3 : Cond.code yX6_allRight cX6_allRight 3 (some .int) ∈ wsL_law := inr_37 _ (List.mem_of_getElem? (i := 3) rfl)
theorem qw_37_4 : Cond.methodLink RL 157 yX5_restore ∈ wsL_law := inr_37 _ (List.mem_of_getElem? (i := 4) rfl)
theorem qw_37_5 : Cond.instanceMethod yX5_restore ∈ wsL_law := inr_37 _ (List.mem_of_getElem? (i := 5) rfl)
theorem qw_37_6 : Cond.selects RX5 yX5_restore yX5_restore ∈ wsL_law := inr_37 _ (List.mem_of_getElem? (i := 6) rfl)
theorem qw_37_7 : Cond.code yX5_restore cX5_restore 1 (some .int) ∈ wsL_law := inr_37 _ (List.mem_of_getElem? (i := 7) rfl)
theorem qw_37_8 : Cond.methodLink RL 160 yX6_restore ∈ wsL_law := inr_37 _ (List.mem_of_getElem? (i := 8) rfl)
theorem qw_37_9 : Cond.instanceMethod yX6_restore ∈ wsL_law := inr_37 _ (List.mem_of_getElem? (i := 9) rfl)
theorem qw_37_10 : Cond.selects RX6 yX6_restore yX6_restore ∈ wsL_law := inr_37 _ (List.mem_of_getElem? (i := 10) rfl)
theorem qw_37_11 : Cond.code yX6_restore cX6_restore 2 (some .int) ∈ wsL_law := inr_37 _ (List.mem_of_getElem? (i := 11) rfl)
theorem wsL_good : wsL_law.all goodWord = true := by decide +kernel
