/-! ===== names of my own: classes, methods, words by their places in the tables ===== -/
def gw : List Cond := lw_tbl.filter goodWord
theorem gw_i {w : Cond} (h : w ∈ tables_1) (hg : goodWord w = true) : w ∈ gw := List.mem_filter.mpr ⟨List.mem_append_right _ h, hg⟩
theorem gw_p {w : Cond} (h : w ∈ k2_sels lw_privs) (hg : goodWord w = true) : w ∈ gw := List.mem_filter.mpr ⟨List.mem_append_left _ h, hg⟩
theorem gw_t {w : Cond} (h : w ∈ gw) : w ∈ lw_tbl := (List.mem_filter.mp h).1
theorem gw_g {w : Cond} (h : w ∈ gw) : (w.onTables && w.keeps) = true ∨ ∃ ty, w = .arrayClass ty := good_of_word (List.mem_filter.mp h).2
abbrev nG : String := "WayGraph"
def TG : u_T := fun k => match k with
  | 0 => ("WayGraph", "levels", "[I", true)
  | 1 => ("WayGraph", "placeCount", "I", false)
  | 2 => ("WayGraph", "pieces", "LWayGraph$Pieces;", true)
  | 3 => ("WayGraph", "moverWidths", "[I", true)
  | 4 => ("WayGraph", "moverHeights", "[J", true)
  | 5 => ("WayGraph", "moverCount", "I", false)
  | 6 => ("WayGraph", "markedPlaces", "[I", true)
  | 7 => ("WayGraph", "markCount", "I", false)
  | 8 => ("WayGraph", "leastWays", "LWayGraph$LeastWays;", true)
  | 9 => ("WayGraph", "shortWays", "LWayGraph$ShortWays;", true)
  | _ => ("WayGraph", "lastTold", "LWayGraph$Row;", true)
def tG : Nat → FieldType := fun k => match k with
  | 0 => .array .int
  | 1 => .int
  | 2 => .object "WayGraph$Pieces"
  | 3 => .array .int
  | 4 => .array .long
  | 5 => .int
  | 6 => .array .int
  | 7 => .int
  | 8 => .object "WayGraph$LeastWays"
  | 9 => .object "WayGraph$ShortWays"
  | _ => .object "WayGraph$Row"
theorem nmG : ∀ a, a < 11 → ∀ b, b < 11 → a ≠ b → (TG a).2.1 ≠ (TG b).2.1 := by decide +kernel
theorem tG_ok : ∀ k, k < 11 → parseFieldDescriptor (TG k).2.2.1 = some (tG k) := by decide +kernel
abbrev nP : String := "WayGraph$Pieces"
def TP : u_T := fun k => match k with
  | 0 => ("WayGraph$Pieces", "begins", "[I", true)
  | 1 => ("WayGraph$Pieces", "ends", "[I", true)
  | 2 => ("WayGraph$Pieces", "seconds", "[J", true)
  | 3 => ("WayGraph$Pieces", "widths", "[I", true)
  | 4 => ("WayGraph$Pieces", "heights", "[J", true)
  | 5 => ("WayGraph$Pieces", "openHours", "[J", true)
  | 6 => ("WayGraph$Pieces", "barredTurns", "[J", true)
  | 7 => ("WayGraph$Pieces", "closedOnes", "J", false)
  | _ => ("WayGraph$Pieces", "size", "I", false)
def tP : Nat → FieldType := fun k => match k with
  | 0 => .array .int
  | 1 => .array .int
  | 2 => .array .long
  | 3 => .array .int
  | 4 => .array .long
  | 5 => .array .long
  | 6 => .array .long
  | 7 => .long
  | _ => .int
theorem nmP : ∀ a, a < 9 → ∀ b, b < 9 → a ≠ b → (TP a).2.1 ≠ (TP b).2.1 := by decide +kernel
theorem tP_ok : ∀ k, k < 9 → parseFieldDescriptor (TP k).2.2.1 = some (tP k) := by decide +kernel
abbrev nL : String := "WayGraph$LeastWays"
def TL : u_T := fun k => match k with
  | 0 => ("WayGraph$LeastWays", "reached", "[J", true)
  | 1 => ("WayGraph$LeastWays", "start", "I", false)
  | _ => ("WayGraph$LeastWays", "firstMoment", "J", false)
def tL : Nat → FieldType := fun k => match k with
  | 0 => .array .long
  | 1 => .int
  | _ => .long
theorem nmL : ∀ a, a < 3 → ∀ b, b < 3 → a ≠ b → (TL a).2.1 ≠ (TL b).2.1 := by decide +kernel
theorem tL_ok : ∀ k, k < 3 → parseFieldDescriptor (TL k).2.2.1 = some (tL k) := by decide +kernel
abbrev nS : String := "WayGraph$ShortWays"
def TS : u_T := fun k => match k with
  | 0 => ("WayGraph$ShortWays", "trail", "[I", true)
  | 1 => ("WayGraph$ShortWays", "rankedPieces", "[I", true)
  | 2 => ("WayGraph$ShortWays", "rankedLengths", "[I", true)
  | 3 => ("WayGraph$ShortWays", "rankedSeconds", "[J", true)
  | 4 => ("WayGraph$ShortWays", "ranked", "I", false)
  | 5 => ("WayGraph$ShortWays", "usable", "J", false)
  | _ => ("WayGraph$ShortWays", "goal", "I", false)
def tS : Nat → FieldType := fun k => match k with
  | 0 => .array .int
  | 1 => .array .int
  | 2 => .array .int
  | 3 => .array .long
  | 4 => .int
  | 5 => .long
  | _ => .int
theorem nmS : ∀ a, a < 7 → ∀ b, b < 7 → a ≠ b → (TS a).2.1 ≠ (TS b).2.1 := by decide +kernel
theorem tS_ok : ∀ k, k < 7 → parseFieldDescriptor (TS k).2.2.1 = some (tS k) := by decide +kernel
abbrev nR : String := "WayGraph$Row"
def TR : u_T := fun k => match k with
  | 0 => ("WayGraph$Row", "numbers", "[I", true)
  | _ => ("WayGraph$Row", "length", "I", false)
def tR : Nat → FieldType := fun k => match k with
  | 0 => .array .int
  | _ => .int
theorem nmR : ∀ a, a < 2 → ∀ b, b < 2 → a ≠ b → (TR a).2.1 ≠ (TR b).2.1 := by decide +kernel
theorem tR_ok : ∀ k, k < 2 → parseFieldDescriptor (TR k).2.2.1 = some (tR k) := by decide +kernel
abbrev nM : String := "WayGraphModel"
def TM : u_T := fun k => match k with
  | 0 => ("WayGraphModel", "code", "I", false)
  | 1 => ("WayGraphModel", "places", "I", false)
  | 2 => ("WayGraphModel", "level", "[I", true)
  | 3 => ("WayGraphModel", "pieces", "I", false)
  | 4 => ("WayGraphModel", "from", "[I", true)
  | 5 => ("WayGraphModel", "to", "[I", true)
  | 6 => ("WayGraphModel", "seconds", "[J", true)
  | 7 => ("WayGraphModel", "wide", "[I", true)
  | 8 => ("WayGraphModel", "high", "[I", true)
  | 9 => ("WayGraphModel", "shut", "[Z", true)
  | 10 => ("WayGraphModel", "hours", "[I", true)
  | 11 => ("WayGraphModel", "barred", "[Z", true)
  | 12 => ("WayGraphModel", "movers", "I", false)
  | 13 => ("WayGraphModel", "moverWide", "[I", true)
  | 14 => ("WayGraphModel", "moverHigh", "[I", true)
  | 15 => ("WayGraphModel", "marks", "I", false)
  | 16 => ("WayGraphModel", "marked", "[I", true)
  | 17 => ("WayGraphModel", "reached", "[J", true)
  | 18 => ("WayGraphModel", "steps", "[I", true)
  | 19 => ("WayGraphModel", "stepCount", "I", false)
  | 20 => ("WayGraphModel", "bestSeconds", "[J", true)
  | 21 => ("WayGraphModel", "bestCount", "[I", true)
  | 22 => ("WayGraphModel", "bestPieces", "[I", true)
  | 23 => ("WayGraphModel", "found", "I", false)
  | 24 => ("WayGraphModel", "on", "[I", true)
  | _ => ("WayGraphModel", "when", "[J", true)
def tM : Nat → FieldType := fun k => match k with
  | 0 => .int
  | 1 => .int
  | 2 => .array .int
  | 3 => .int
  | 4 => .array .int
  | 5 => .array .int
  | 6 => .array .long
  | 7 => .array .int
  | 8 => .array .int
  | 9 => .array .boolean
  | 10 => .array .int
  | 11 => .array .boolean
  | 12 => .int
  | 13 => .array .int
  | 14 => .array .int
  | 15 => .int
  | 16 => .array .int
  | 17 => .array .long
  | 18 => .array .int
  | 19 => .int
  | 20 => .array .long
  | 21 => .array .int
  | 22 => .array .int
  | 23 => .int
  | 24 => .array .int
  | _ => .array .long
theorem nmM : ∀ a, a < 26 → ∀ b, b < 26 → a ≠ b → (TM a).2.1 ≠ (TM b).2.1 := by decide +kernel
theorem tM_ok : ∀ k, k < 26 → parseFieldDescriptor (TM k).2.2.1 = some (tM k) := by decide +kernel
abbrev nW : String := "WayGraphLaw"
abbrev nJL : String := "java/lang/Long"
abbrev nJM : String := "java/lang/Math"
abbrev vwCl : List vw_C := [(nG, TG, 11), (nP, TP, 9), (nL, TL, 3), (nS, TS, 7), (nR, TR, 2), (nM, TM, 26)]
abbrev cG_init : ByteArray := prog_1_method_1_code
def yG_init : MethodName := ⟨nG, "<init>", "()V"⟩
def wsG_init : List Cond := Cond.code yG_init cG_init 1 none :: gw
abbrev cP_init : ByteArray := prog_3_method_1_code
def yP_init : MethodName := ⟨nP, "<init>", "()V"⟩
def wsP_init : List Cond := Cond.code yP_init cP_init 1 none :: gw
abbrev cL_init : ByteArray := prog_2_method_1_code
def yL_init : MethodName := ⟨nL, "<init>", "()V"⟩
def wsL_init : List Cond := Cond.code yL_init cL_init 1 none :: gw
abbrev cS_init : ByteArray := prog_5_method_1_code
def yS_init : MethodName := ⟨nS, "<init>", "()V"⟩
def wsS_init : List Cond := Cond.code yS_init cS_init 1 none :: gw
abbrev cR_init : ByteArray := prog_4_method_1_code
def yR_init : MethodName := ⟨nR, "<init>", "()V"⟩
def wsR_init : List Cond := Cond.code yR_init cR_init 1 none :: gw
abbrev cG_step : ByteArray := prog_1_method_11_code
def yG_step : MethodName := ⟨nG, "step", "(I)I"⟩
def wsG_step : List Cond := Cond.code yG_step cG_step 2 (some .int) :: gw
abbrev cR_at : ByteArray := prog_4_method_5_code
def yR_at : MethodName := ⟨nR, "at", "(I)I"⟩
def wsR_at : List Cond := Cond.code yR_at cR_at 2 (some .int) :: gw
abbrev cG_count : ByteArray := prog_1_method_17_code
def yG_count : MethodName := ⟨nG, "count", "(I)I"⟩
def wsG_count : List Cond := Cond.code yG_count cG_count 2 (some .int) :: gw
abbrev cP_countBarredTurns : ByteArray := prog_3_method_5_code
def yP_countBarredTurns : MethodName := ⟨nP, "countBarredTurns", "()I"⟩
def wsP_countBarredTurns : List Cond := Cond.code yP_countBarredTurns cP_countBarredTurns 3 (some .int) :: gw
abbrev cJL_bitCount : ByteArray := prog_12_method_50_code
def yJL_bitCount : MethodName := ⟨nJL, "bitCount", "(J)I"⟩
def wsJL_bitCount : List Cond := Cond.code yJL_bitCount cJL_bitCount 2 (some .int) :: gw
abbrev cW_place : ByteArray := method_3_code
def yW_place : MethodName := ⟨nW, "place", "(LWayGraph;I[J)I"⟩
def wsW_place : List Cond := Cond.codeWith yW_place cW_place 4 (some .int) [(0, 9, 12, 13), (0, 9, 15, 15)] :: gw
abbrev cG_place : ByteArray := prog_1_method_2_code
def yG_place : MethodName := ⟨nG, "place", "(I)I"⟩
def wsG_place : List Cond := Cond.code yG_place cG_place 2 (some .int) :: gw
abbrev cG_within : ByteArray := prog_1_method_23_code
def yG_within : MethodName := ⟨nG, "within", "(JJJ)Z"⟩
def wsG_within : List Cond := Cond.code yG_within cG_within 6 (some .boolean) :: gw
abbrev cW_piece : ByteArray := method_4_code
def yW_piece : MethodName := ⟨nW, "piece", "(LWayGraph;IIJJ[J)I"⟩
def wsW_piece : List Cond := Cond.codeWith yW_piece cW_piece 9 (some .int) [(0, 14, 17, 13), (0, 14, 21, 21), (0, 14, 25, 15)] :: gw
abbrev cG_piece : ByteArray := prog_1_method_3_code
def yG_piece : MethodName := ⟨nG, "piece", "(IIJJ)I"⟩
def wsG_piece : List Cond := Cond.code yG_piece cG_piece 7 (some .int) :: gw
abbrev cG_hasPlace : ByteArray := prog_1_method_18_code
def yG_hasPlace : MethodName := ⟨nG, "hasPlace", "(I)Z"⟩
def wsG_hasPlace : List Cond := Cond.code yG_hasPlace cG_hasPlace 2 (some .boolean) :: gw
abbrev cP_add : ByteArray := prog_3_method_3_code
def yP_add : MethodName := ⟨nP, "add", "(IIJ)I"⟩
def wsP_add : List Cond := Cond.code yP_add cP_add 5 (some .int) :: gw
abbrev cW_lift : ByteArray := method_5_code
def yW_lift : MethodName := ⟨nW, "lift", "(LWayGraph;IIJ[J)I"⟩
def wsW_lift : List Cond := Cond.codeWith yW_lift cW_lift 7 (some .int) [(0, 12, 15, 13), (0, 12, 19, 15)] :: gw
abbrev cG_lift : ByteArray := prog_1_method_4_code
def yG_lift : MethodName := ⟨nG, "lift", "(IIJ)I"⟩
def wsG_lift : List Cond := Cond.code yG_lift cG_lift 6 (some .int) :: gw
abbrev cW_limit : ByteArray := method_6_code
def yW_limit : MethodName := ⟨nW, "limit", "(LWayGraph;IIJ)I"⟩
def wsW_limit : List Cond := Cond.codeWith yW_limit cW_limit 6 (some .int) [(0, 7, 10, 13)] :: gw
abbrev cG_limit : ByteArray := prog_1_method_5_code
def yG_limit : MethodName := ⟨nG, "limit", "(IIJ)V"⟩
def wsG_limit : List Cond := Cond.code yG_limit cG_limit 5 none :: gw
abbrev cP_has : ByteArray := prog_3_method_2_code
def yP_has : MethodName := ⟨nP, "has", "(I)Z"⟩
def wsP_has : List Cond := Cond.code yP_has cP_has 2 (some .boolean) :: gw
abbrev cG_isSize : ByteArray := prog_1_method_22_code
def yG_isSize : MethodName := ⟨nG, "isSize", "(JJ)Z"⟩
def wsG_isSize : List Cond := Cond.code yG_isSize cG_isSize 4 (some .boolean) :: gw
abbrev cW_mover : ByteArray := method_7_code
def yW_mover : MethodName := ⟨nW, "mover", "(LWayGraph;IJ[J)I"⟩
def wsW_mover : List Cond := Cond.codeWith yW_mover cW_mover 6 (some .int) [(0, 11, 14, 13), (0, 11, 18, 15)] :: gw
abbrev cG_mover : ByteArray := prog_1_method_6_code
def yG_mover : MethodName := ⟨nG, "mover", "(IJ)I"⟩
def wsG_mover : List Cond := Cond.code yG_mover cG_mover 4 (some .int) :: gw
abbrev cP_anyFits : ByteArray := prog_3_method_7_code
def yP_anyFits : MethodName := ⟨nP, "anyFits", "(IJ)Z"⟩
def wsP_anyFits : List Cond := Cond.code yP_anyFits cP_anyFits 5 (some .boolean) :: gw
abbrev cP_fits : ByteArray := prog_3_method_6_code
def yP_fits : MethodName := ⟨nP, "fits", "(IIJ)Z"⟩
def wsP_fits : List Cond := Cond.code yP_fits cP_fits 5 (some .boolean) :: gw
abbrev cW_closed : ByteArray := method_8_code
def yW_closed : MethodName := ⟨nW, "closed", "(LWayGraph;IZ[J)I"⟩
def wsW_closed : List Cond := Cond.codeWith yW_closed cW_closed 5 (some .int) [(0, 10, 13, 13)] :: gw
abbrev cG_closed : ByteArray := prog_1_method_7_code
def yG_closed : MethodName := ⟨nG, "closed", "(IZ)I"⟩
def wsG_closed : List Cond := Cond.code yG_closed cG_closed 3 (some .int) :: gw
abbrev cG_withBit : ByteArray := prog_1_method_25_code
def yG_withBit : MethodName := ⟨nG, "withBit", "(JIZ)J"⟩
def wsG_withBit : List Cond := Cond.code yG_withBit cG_withBit 6 (some .long) :: gw
abbrev cW_turn : ByteArray := method_9_code
def yW_turn : MethodName := ⟨nW, "turn", "(LWayGraph;IIZ[J)I"⟩
def wsW_turn : List Cond := Cond.codeWith yW_turn cW_turn 6 (some .int) [(0, 12, 15, 13)] :: gw
abbrev cG_turn : ByteArray := prog_1_method_8_code
def yG_turn : MethodName := ⟨nG, "turn", "(IIZ)I"⟩
def wsG_turn : List Cond := Cond.code yG_turn cG_turn 5 (some .int) :: gw
abbrev cP_isBarred : ByteArray := prog_3_method_4_code
def yP_isBarred : MethodName := ⟨nP, "isBarred", "(II)Z"⟩
def wsP_isBarred : List Cond := Cond.code yP_isBarred cP_isBarred 3 (some .boolean) :: gw
abbrev cG_hasBit : ByteArray := prog_1_method_24_code
def yG_hasBit : MethodName := ⟨nG, "hasBit", "(JI)Z"⟩
def wsG_hasBit : List Cond := Cond.code yG_hasBit cG_hasBit 3 (some .boolean) :: gw
abbrev cW_door : ByteArray := method_10_code
def yW_door : MethodName := ⟨nW, "door", "(LWayGraph;IIZ[J)I"⟩
def wsW_door : List Cond := Cond.codeWith yW_door cW_door 6 (some .int) [(0, 12, 15, 13)] :: gw
abbrev cG_door : ByteArray := prog_1_method_9_code
def yG_door : MethodName := ⟨nG, "door", "(IIZ)I"⟩
def wsG_door : List Cond := Cond.code yG_door cG_door 4 (some .int) :: gw
abbrev cW_way : ByteArray := method_11_code
def yW_way : MethodName := ⟨nW, "way", "(LWayGraph;IIIJ[J)I"⟩
def wsW_way : List Cond := Cond.codeWith yW_way cW_way 8 (some .int) [(0, 13, 16, 13)] :: gw
abbrev cG_way : ByteArray := prog_1_method_10_code
def yG_way : MethodName := ⟨nG, "way", "(IIIJ)J"⟩
def wsG_way : List Cond := Cond.code yG_way cG_way 8 (some .long) :: gw
abbrev cG_hasMover : ByteArray := prog_1_method_19_code
def yG_hasMover : MethodName := ⟨nG, "hasMover", "(I)Z"⟩
def wsG_hasMover : List Cond := Cond.code yG_hasMover cG_hasMover 2 (some .boolean) :: gw
abbrev cG_leastSeconds : ByteArray := prog_1_method_21_code
def yG_leastSeconds : MethodName := ⟨nG, "leastSeconds", "(IIIJ)J"⟩
def wsG_leastSeconds : List Cond := Cond.code yG_leastSeconds cG_leastSeconds 9 (some .long) :: gw
abbrev cP_usableBy : ByteArray := prog_3_method_8_code
def yP_usableBy : MethodName := ⟨nP, "usableBy", "(IJ)J"⟩
def wsP_usableBy : List Cond := Cond.code yP_usableBy cP_usableBy 8 (some .long) :: gw
abbrev cL_search : ByteArray := prog_2_method_2_code
def yL_search : MethodName := ⟨nL, "search", "(LWayGraph$Pieces;JIJ)V"⟩
def wsL_search : List Cond := Cond.code yL_search cL_search 11 none :: gw
abbrev cP_endWhenUsedFrom : ByteArray := prog_3_method_10_code
def yP_endWhenUsedFrom : MethodName := ⟨nP, "endWhenUsedFrom", "(IJ)J"⟩
def wsP_endWhenUsedFrom : List Cond := Cond.code yP_endWhenUsedFrom cP_endWhenUsedFrom 8 (some .long) :: gw
abbrev cJM_max_J : ByteArray := prog_13_method_66_code
def yJM_max_J : MethodName := ⟨nJM, "max", "(JJ)J"⟩
def wsJM_max_J : List Cond := Cond.code yJM_max_J cJM_max_J 4 (some .long) :: gw
abbrev cL_earliestOf : ByteArray := prog_2_method_3_code
def yL_earliestOf : MethodName := ⟨nL, "earliestOf", "(LWayGraph$Pieces;J)I"⟩
def wsL_earliestOf : List Cond := Cond.code yL_earliestOf cL_earliestOf 8 (some .int) :: gw
abbrev cL_goOnFrom : ByteArray := prog_2_method_4_code
def yL_goOnFrom : MethodName := ⟨nL, "goOnFrom", "(LWayGraph$Pieces;IJ)V"⟩
def wsL_goOnFrom : List Cond := Cond.code yL_goOnFrom cL_goOnFrom 8 none :: gw
abbrev cP_canFollow : ByteArray := prog_3_method_9_code
def yP_canFollow : MethodName := ⟨nP, "canFollow", "(II)Z"⟩
def wsP_canFollow : List Cond := Cond.code yP_canFollow cP_canFollow 3 (some .boolean) :: gw
abbrev cJM_min_J : ByteArray := prog_13_method_70_code
def yJM_min_J : MethodName := ⟨nJM, "min", "(JJ)J"⟩
def wsJM_min_J : List Cond := Cond.code yJM_min_J cJM_min_J 4 (some .long) :: gw
abbrev cL_lastPieceTo : ByteArray := prog_2_method_5_code
def yL_lastPieceTo : MethodName := ⟨nL, "lastPieceTo", "(LWayGraph$Pieces;I)I"⟩
def wsL_lastPieceTo : List Cond := Cond.code yL_lastPieceTo cL_lastPieceTo 7 (some .int) :: gw
abbrev cR_clear : ByteArray := prog_4_method_2_code
def yR_clear : MethodName := ⟨nR, "clear", "()V"⟩
def wsR_clear : List Cond := Cond.code yR_clear cR_clear 1 none :: gw
abbrev cL_writeWayTo : ByteArray := prog_2_method_6_code
def yL_writeWayTo : MethodName := ⟨nL, "writeWayTo", "(LWayGraph$Pieces;ILWayGraph$Row;)V"⟩
def wsL_writeWayTo : List Cond := Cond.code yL_writeWayTo cL_writeWayTo 6 none :: gw
abbrev cR_append : ByteArray := prog_4_method_3_code
def yR_append : MethodName := ⟨nR, "append", "(I)V"⟩
def wsR_append : List Cond := Cond.code yR_append cR_append 2 none :: gw
abbrev cL_pieceBefore : ByteArray := prog_2_method_7_code
def yL_pieceBefore : MethodName := ⟨nL, "pieceBefore", "(LWayGraph$Pieces;I)I"⟩
def wsL_pieceBefore : List Cond := Cond.code yL_pieceBefore cL_pieceBefore 4 (some .int) :: gw
abbrev cR_turnRound : ByteArray := prog_4_method_4_code
def yR_turnRound : MethodName := ⟨nR, "turnRound", "()V"⟩
def wsR_turnRound : List Cond := Cond.code yR_turnRound cR_turnRound 4 none :: gw
abbrev cW_reaches : ByteArray := method_12_code
def yW_reaches : MethodName := ⟨nW, "reaches", "(LWayGraph;III[J)I"⟩
def wsW_reaches : List Cond := Cond.codeWith yW_reaches cW_reaches 6 (some .int) [(0, 19, 22, 13)] :: gw
abbrev cG_reaches : ByteArray := prog_1_method_12_code
def yG_reaches : MethodName := ⟨nG, "reaches", "(III)Z"⟩
def wsG_reaches : List Cond := Cond.code yG_reaches cG_reaches 4 (some .boolean) :: gw
abbrev cW_mark : ByteArray := method_13_code
def yW_mark : MethodName := ⟨nW, "mark", "(LWayGraph;I[J)I"⟩
def wsW_mark : List Cond := Cond.codeWith yW_mark cW_mark 4 (some .int) [(0, 9, 12, 13), (0, 9, 15, 57), (0, 9, 18, 15)] :: gw
abbrev cG_mark : ByteArray := prog_1_method_13_code
def yG_mark : MethodName := ⟨nG, "mark", "(I)I"⟩
def wsG_mark : List Cond := Cond.code yG_mark cG_mark 2 (some .int) :: gw
abbrev cG_isMarked : ByteArray := prog_1_method_20_code
def yG_isMarked : MethodName := ⟨nG, "isMarked", "(I)Z"⟩
def wsG_isMarked : List Cond := Cond.code yG_isMarked cG_isMarked 3 (some .boolean) :: gw
abbrev cW_table : ByteArray := method_14_code
def yW_table : MethodName := ⟨nW, "table", "(LWayGraph;II[J)I"⟩
def wsW_table : List Cond := Cond.codeWith yW_table cW_table 5 (some .int) [(0, 9, 12, 13), (0, 9, 16, 57)] :: gw
abbrev cG_table : ByteArray := prog_1_method_14_code
def yG_table : MethodName := ⟨nG, "table", "(II)J"⟩
def wsG_table : List Cond := Cond.code yG_table cG_table 3 (some .long) :: gw
abbrev cW_k : ByteArray := method_15_code
def yW_k : MethodName := ⟨nW, "k", "(LWayGraph;III[J)I"⟩
def wsW_k : List Cond := Cond.codeWith yW_k cW_k 6 (some .int) [(0, 11, 14, 13), (0, 11, 18, 57)] :: gw
abbrev cG_k : ByteArray := prog_1_method_15_code
def yG_k : MethodName := ⟨nG, "k", "(III)J"⟩
def wsG_k : List Cond := Cond.code yG_k cG_k 4 (some .long) :: gw
abbrev cS_search : ByteArray := prog_5_method_2_code
def yS_search : MethodName := ⟨nS, "search", "(LWayGraph$Pieces;JII)V"⟩
def wsS_search : List Cond := Cond.code yS_search cS_search 6 none :: gw
abbrev cS_extend : ByteArray := prog_5_method_3_code
def yS_extend : MethodName := ⟨nS, "extend", "(LWayGraph$Pieces;IIJJ)V"⟩
def wsS_extend : List Cond := Cond.code yS_extend cS_extend 9 none :: gw
abbrev cS_canBeNext : ByteArray := prog_5_method_5_code
def yS_canBeNext : MethodName := ⟨nS, "canBeNext", "(LWayGraph$Pieces;III)Z"⟩
def wsS_canBeNext : List Cond := Cond.code yS_canBeNext cS_canBeNext 5 (some .boolean) :: gw
abbrev cS_goBy : ByteArray := prog_5_method_4_code
def yS_goBy : MethodName := ⟨nS, "goBy", "(LWayGraph$Pieces;IIJJ)V"⟩
def wsS_goBy : List Cond := Cond.code yS_goBy cS_goBy 11 none :: gw
abbrev cS_keep : ByteArray := prog_5_method_7_code
def yS_keep : MethodName := ⟨nS, "keep", "(IJ)V"⟩
def wsS_keep : List Cond := Cond.code yS_keep cS_keep 6 none :: gw
abbrev cS_rankOf : ByteArray := prog_5_method_6_code
def yS_rankOf : MethodName := ⟨nS, "rankOf", "(J)I"⟩
def wsS_rankOf : List Cond := Cond.code yS_rankOf cS_rankOf 4 (some .int) :: gw
abbrev cJM_min_I : ByteArray := prog_13_method_69_code
def yJM_min_I : MethodName := ⟨nJM, "min", "(II)I"⟩
def wsJM_min_I : List Cond := Cond.code yJM_min_I cJM_min_I 2 (some .int) :: gw
abbrev cS_writeWay : ByteArray := prog_5_method_8_code
def yS_writeWay : MethodName := ⟨nS, "writeWay", "(ILWayGraph$Row;)V"⟩
def wsS_writeWay : List Cond := Cond.code yS_writeWay cS_writeWay 4 none :: gw
abbrev cW_told : ByteArray := method_16_code
def yW_told : MethodName := ⟨nW, "told", "(LWayGraph;II[J)I"⟩
def wsW_told : List Cond := Cond.codeWith yW_told cW_told 5 (some .int) [(0, 9, 12, 13)] :: gw
abbrev cG_told : ByteArray := prog_1_method_16_code
def yG_told : MethodName := ⟨nG, "told", "(II)J"⟩
def wsG_told : List Cond := Cond.code yG_told cG_told 3 (some .long) :: gw
abbrev cM_init : ByteArray := prog_7_method_1_code
def yM_init : MethodName := ⟨nM, "<init>", "()V"⟩
def wsM_init : List Cond := Cond.code yM_init cM_init 1 none :: gw
abbrev cM_thrown : ByteArray := prog_7_method_2_code
def yM_thrown : MethodName := ⟨nM, "thrown", "()I"⟩
def wsM_thrown : List Cond := Cond.code yM_thrown cM_thrown 1 (some .int) :: gw
abbrev cM_place : ByteArray := prog_7_method_6_code
def yM_place : MethodName := ⟨nM, "place", "(I)I"⟩
def wsM_place : List Cond := Cond.code yM_place cM_place 2 (some .int) :: gw
abbrev cM_in : ByteArray := prog_7_method_3_code
def yM_in : MethodName := ⟨nM, "in", "(JJJ)Z"⟩
def wsM_in : List Cond := Cond.code yM_in cM_in 6 (some .boolean) :: gw
abbrev cM_piece : ByteArray := prog_7_method_8_code
def yM_piece : MethodName := ⟨nM, "piece", "(IIJJ)I"⟩
def wsM_piece : List Cond := Cond.code yM_piece cM_piece 8 (some .int) :: gw
abbrev cM_isPlace : ByteArray := prog_7_method_4_code
def yM_isPlace : MethodName := ⟨nM, "isPlace", "(I)Z"⟩
def wsM_isPlace : List Cond := Cond.code yM_isPlace cM_isPlace 2 (some .boolean) :: gw
abbrev cM_add : ByteArray := prog_7_method_7_code
def yM_add : MethodName := ⟨nM, "add", "(IIJ)I"⟩
def wsM_add : List Cond := Cond.code yM_add cM_add 5 (some .int) :: gw
abbrev cM_lift : ByteArray := prog_7_method_9_code
def yM_lift : MethodName := ⟨nM, "lift", "(IIJ)I"⟩
def wsM_lift : List Cond := Cond.code yM_lift cM_lift 7 (some .int) :: gw
abbrev cM_limit : ByteArray := prog_7_method_10_code
def yM_limit : MethodName := ⟨nM, "limit", "(IIJ)V"⟩
def wsM_limit : List Cond := Cond.code yM_limit cM_limit 5 none :: gw
abbrev cM_isPiece : ByteArray := prog_7_method_5_code
def yM_isPiece : MethodName := ⟨nM, "isPiece", "(I)Z"⟩
def wsM_isPiece : List Cond := Cond.code yM_isPiece cM_isPiece 2 (some .boolean) :: gw
abbrev cM_mover : ByteArray := prog_7_method_11_code
def yM_mover : MethodName := ⟨nM, "mover", "(IJ)I"⟩
def wsM_mover : List Cond := Cond.code yM_mover cM_mover 6 (some .int) :: gw
abbrev cM_closed : ByteArray := prog_7_method_12_code
def yM_closed : MethodName := ⟨nM, "closed", "(IZ)I"⟩
def wsM_closed : List Cond := Cond.code yM_closed cM_closed 5 (some .int) :: gw
abbrev cM_turn : ByteArray := prog_7_method_13_code
def yM_turn : MethodName := ⟨nM, "turn", "(IIZ)I"⟩
def wsM_turn : List Cond := Cond.code yM_turn cM_turn 5 (some .int) :: gw
abbrev cM_door : ByteArray := prog_7_method_14_code
def yM_door : MethodName := ⟨nM, "door", "(IIZ)I"⟩
def wsM_door : List Cond := Cond.code yM_door cM_door 6 (some .int) :: gw
abbrev cM_way : ByteArray := prog_7_method_24_code
def yM_way : MethodName := ⟨nM, "way", "(IIIJ)J"⟩
def wsM_way : List Cond := Cond.code yM_way cM_way 10 (some .long) :: gw
abbrev cM_isMover : ByteArray := prog_7_method_23_code
def yM_isMover : MethodName := ⟨nM, "isMover", "(I)Z"⟩
def wsM_isMover : List Cond := Cond.code yM_isMover cM_isMover 2 (some .boolean) :: gw
abbrev cM_least : ByteArray := prog_7_method_22_code
def yM_least : MethodName := ⟨nM, "least", "(IIIJ)J"⟩
def wsM_least : List Cond := Cond.code yM_least cM_least 7 (some .long) :: gw
abbrev cM_reachAll : ByteArray := prog_7_method_18_code
def yM_reachAll : MethodName := ⟨nM, "reachAll", "(IIJ)V"⟩
def wsM_reachAll : List Cond := Cond.code yM_reachAll cM_reachAll 8 none :: gw
abbrev cM_mayUse : ByteArray := prog_7_method_15_code
def yM_mayUse : MethodName := ⟨nM, "mayUse", "(II)Z"⟩
def wsM_mayUse : List Cond := Cond.code yM_mayUse cM_mayUse 3 (some .boolean) :: gw
abbrev cM_use : ByteArray := prog_7_method_16_code
def yM_use : MethodName := ⟨nM, "use", "(IJ)J"⟩
def wsM_use : List Cond := Cond.code yM_use cM_use 6 (some .long) :: gw
abbrev cM_lower : ByteArray := prog_7_method_19_code
def yM_lower : MethodName := ⟨nM, "lower", "(III)Z"⟩
def wsM_lower : List Cond := Cond.code yM_lower cM_lower 6 (some .boolean) :: gw
abbrev cM_follows : ByteArray := prog_7_method_17_code
def yM_follows : MethodName := ⟨nM, "follows", "(II)Z"⟩
def wsM_follows : List Cond := Cond.code yM_follows cM_follows 3 (some .boolean) :: gw
abbrev cM_lastTo : ByteArray := prog_7_method_20_code
def yM_lastTo : MethodName := ⟨nM, "lastTo", "(I)I"⟩
def wsM_lastTo : List Cond := Cond.code yM_lastTo cM_lastTo 4 (some .int) :: gw
abbrev cM_before : ByteArray := prog_7_method_21_code
def yM_before : MethodName := ⟨nM, "before", "(IIIJ)I"⟩
def wsM_before : List Cond := Cond.code yM_before cM_before 7 (some .int) :: gw
abbrev cM_step : ByteArray := prog_7_method_25_code
def yM_step : MethodName := ⟨nM, "step", "(I)I"⟩
def wsM_step : List Cond := Cond.code yM_step cM_step 2 (some .int) :: gw
abbrev cM_reaches : ByteArray := prog_7_method_26_code
def yM_reaches : MethodName := ⟨nM, "reaches", "(III)Z"⟩
def wsM_reaches : List Cond := Cond.code yM_reaches cM_reaches 4 (some .boolean) :: gw
abbrev cM_mark : ByteArray := prog_7_method_27_code
def yM_mark : MethodName := ⟨nM, "mark", "(I)I"⟩
def wsM_mark : List Cond := Cond.code yM_mark cM_mark 4 (some .int) :: gw
abbrev cM_table : ByteArray := prog_7_method_28_code
def yM_table : MethodName := ⟨nM, "table", "(II)J"⟩
def wsM_table : List Cond := Cond.code yM_table cM_table 3 (some .long) :: gw
abbrev cM_k : ByteArray := prog_7_method_34_code
def yM_k : MethodName := ⟨nM, "k", "(III)J"⟩
def wsM_k : List Cond := Cond.code yM_k cM_k 5 (some .long) :: gw
abbrev cM_goThrough : ByteArray := prog_7_method_33_code
def yM_goThrough : MethodName := ⟨nM, "goThrough", "(II)V"⟩
def wsM_goThrough : List Cond := Cond.code yM_goThrough cM_goThrough 5 none :: gw
abbrev cM_mayGo : ByteArray := prog_7_method_30_code
def yM_mayGo : MethodName := ⟨nM, "mayGo", "(III)Z"⟩
def wsM_mayGo : List Cond := Cond.code yM_mayGo cM_mayGo 5 (some .boolean) :: gw
abbrev cM_seen : ByteArray := prog_7_method_29_code
def yM_seen : MethodName := ⟨nM, "seen", "(III)Z"⟩
def wsM_seen : List Cond := Cond.code yM_seen cM_seen 6 (some .boolean) :: gw
abbrev cM_keep : ByteArray := prog_7_method_32_code
def yM_keep : MethodName := ⟨nM, "keep", "(I)V"⟩
def wsM_keep : List Cond := Cond.code yM_keep cM_keep 5 none :: gw
abbrev cM_isBetter : ByteArray := prog_7_method_31_code
def yM_isBetter : MethodName := ⟨nM, "isBetter", "(II)Z"⟩
def wsM_isBetter : List Cond := Cond.code yM_isBetter cM_isBetter 4 (some .boolean) :: gw
abbrev cM_told : ByteArray := prog_7_method_35_code
def yM_told : MethodName := ⟨nM, "told", "(II)J"⟩
def wsM_told : List Cond := Cond.code yM_told cM_told 3 (some .long) :: gw
abbrev cM_count : ByteArray := prog_7_method_36_code
def yM_count : MethodName := ⟨nM, "count", "(I)I"⟩
def wsM_count : List Cond := Cond.code yM_count cM_count 4 (some .int) :: gw
abbrev cW_law : ByteArray := code
def yW_law : MethodName := ⟨nW, "law", "([I)Z"⟩
theorem kin_W : Cond.initialized "WayGraphLaw" ∈ gw := gw_i (List.mem_of_getElem? (i := 0) (by decide +kernel)) rfl
theorem kin_G : Cond.initialized "WayGraph" ∈ gw := gw_i (List.mem_of_getElem? (i := 1) (by decide +kernel)) rfl
theorem kin_P : Cond.initialized "WayGraph$Pieces" ∈ gw := gw_i (List.mem_of_getElem? (i := 2) (by decide +kernel)) rfl
theorem kin_L : Cond.initialized "WayGraph$LeastWays" ∈ gw := gw_i (List.mem_of_getElem? (i := 3) (by decide +kernel)) rfl
theorem kin_S : Cond.initialized "WayGraph$ShortWays" ∈ gw := gw_i (List.mem_of_getElem? (i := 4) (by decide +kernel)) rfl
theorem kin_R : Cond.initialized "WayGraph$Row" ∈ gw := gw_i (List.mem_of_getElem? (i := 5) (by decide +kernel)) rfl
theorem kin_M : Cond.initialized "WayGraphModel" ∈ gw := gw_i (List.mem_of_getElem? (i := 6) (by decide +kernel)) rfl
theorem kin_Throwable : Cond.initialized "java/lang/Throwable" ∈ gw := gw_i (List.mem_of_getElem? (i := 7) (by decide +kernel)) rfl
theorem kin_Exception : Cond.initialized "java/lang/Exception" ∈ gw := gw_i (List.mem_of_getElem? (i := 8) (by decide +kernel)) rfl
theorem kin_RuntimeException : Cond.initialized "java/lang/RuntimeException" ∈ gw := gw_i (List.mem_of_getElem? (i := 9) (by decide +kernel)) rfl
theorem kin_IllegalArgumentException : Cond.initialized "java/lang/IllegalArgumentException" ∈ gw := gw_i (List.mem_of_getElem? (i := 10) (by decide +kernel)) rfl
theorem kin_UnsupportedOperationException : Cond.initialized "java/lang/UnsupportedOperationException" ∈ gw := gw_i (List.mem_of_getElem? (i := 11) (by decide +kernel)) rfl
theorem kin_ArithmeticException : Cond.initialized "java/lang/ArithmeticException" ∈ gw := gw_i (List.mem_of_getElem? (i := 12) (by decide +kernel)) rfl
theorem kin_JL : Cond.initialized "java/lang/Long" ∈ gw := gw_i (List.mem_of_getElem? (i := 13) (by decide +kernel)) rfl
theorem kin_JM : Cond.initialized "java/lang/Math" ∈ gw := gw_i (List.mem_of_getElem? (i := 14) (by decide +kernel)) rfl
theorem kin_IllegalStateException : Cond.initialized "java/lang/IllegalStateException" ∈ gw := gw_i (List.mem_of_getElem? (i := 15) (by decide +kernel)) rfl
theorem kin_System : Cond.initialized "java/lang/System" ∈ gw := gw_i (List.mem_of_getElem? (i := 16) (by decide +kernel)) rfl
theorem kW_8 : Cond.classLink nW 8 "WayGraph" ∈ gw := gw_i (List.mem_of_getElem? (i := 17) (by decide +kernel)) rfl
theorem knew_G : Cond.instantiable "WayGraph" 11 ∈ gw := gw_i (List.mem_of_getElem? (i := 18) (by decide +kernel)) rfl
theorem kW_70 : Cond.methodLink nW 70 yG_init ∈ gw := gw_i (List.mem_of_getElem? (i := 19) (by decide +kernel)) rfl
theorem ki_G_init : Cond.instanceMethod yG_init ∈ gw := gw_i (List.mem_of_getElem? (i := 20) (by decide +kernel)) rfl
theorem kc_G_init : Cond.code yG_init cG_init 1 none ∈ gw := gw_i (List.mem_of_getElem? (i := 21) (by decide +kernel)) rfl
theorem kG_3 : Cond.methodLink nG 3 ⟨"java/lang/Object", "<init>", "()V"⟩ ∈ gw := gw_i (List.mem_of_getElem? (i := 22) (by decide +kernel)) rfl
theorem ki_obj : Cond.instanceMethod objectInit ∈ gw := gw_i (List.mem_of_getElem? (i := 23) (by decide +kernel)) rfl
theorem kc_obj : Cond.code objectInit ⟨#[0xb1]⟩ 1 none ∈ gw := gw_i (List.mem_of_getElem? (i := 24) (by decide +kernel)) rfl
theorem kG_13 : Cond.classLink nG 13 "WayGraph$Pieces" ∈ gw := gw_i (List.mem_of_getElem? (i := 25) (by decide +kernel)) rfl
theorem knew_P : Cond.instantiable "WayGraph$Pieces" 9 ∈ gw := gw_i (List.mem_of_getElem? (i := 26) (by decide +kernel)) rfl
theorem kG_15 : Cond.methodLink nG 15 yP_init ∈ gw := gw_i (List.mem_of_getElem? (i := 27) (by decide +kernel)) rfl
theorem ki_P_init : Cond.instanceMethod yP_init ∈ gw := gw_i (List.mem_of_getElem? (i := 28) (by decide +kernel)) rfl
theorem kc_P_init : Cond.code yP_init cP_init 1 none ∈ gw := gw_i (List.mem_of_getElem? (i := 29) (by decide +kernel)) rfl
theorem kP_3 : Cond.methodLink nP 3 ⟨"java/lang/Object", "<init>", "()V"⟩ ∈ gw := gw_i (List.mem_of_getElem? (i := 30) (by decide +kernel)) rfl
theorem kP_9 : Cond.fieldLink nP 9 "WayGraph$Pieces" "begins" "[I" ∈ gw := gw_i (List.mem_of_getElem? (i := 31) (by decide +kernel)) rfl
theorem kL_32 : Cond.fieldLink nL 32 "WayGraph$Pieces" "begins" "[I" ∈ gw := gw_i (List.mem_of_getElem? (i := 32) (by decide +kernel)) rfl
theorem kS_75 : Cond.fieldLink nS 75 "WayGraph$Pieces" "begins" "[I" ∈ gw := gw_i (List.mem_of_getElem? (i := 33) (by decide +kernel)) rfl
theorem kG_145 : Cond.fieldLink nG 145 "WayGraph$Pieces" "begins" "[I" ∈ gw := gw_i (List.mem_of_getElem? (i := 34) (by decide +kernel)) rfl
theorem kP_15 : Cond.fieldLink nP 15 "WayGraph$Pieces" "ends" "[I" ∈ gw := gw_i (List.mem_of_getElem? (i := 35) (by decide +kernel)) rfl
theorem kS_53 : Cond.fieldLink nS 53 "WayGraph$Pieces" "ends" "[I" ∈ gw := gw_i (List.mem_of_getElem? (i := 36) (by decide +kernel)) rfl
theorem kL_64 : Cond.fieldLink nL 64 "WayGraph$Pieces" "ends" "[I" ∈ gw := gw_i (List.mem_of_getElem? (i := 37) (by decide +kernel)) rfl
theorem kG_148 : Cond.fieldLink nG 148 "WayGraph$Pieces" "ends" "[I" ∈ gw := gw_i (List.mem_of_getElem? (i := 38) (by decide +kernel)) rfl
theorem kP_18 : Cond.fieldLink nP 18 "WayGraph$Pieces" "seconds" "[J" ∈ gw := gw_i (List.mem_of_getElem? (i := 39) (by decide +kernel)) rfl
theorem kG_232 : Cond.fieldLink nG 232 "WayGraph$Pieces" "seconds" "[J" ∈ gw := gw_i (List.mem_of_getElem? (i := 40) (by decide +kernel)) rfl
theorem kP_22 : Cond.fieldLink nP 22 "WayGraph$Pieces" "widths" "[I" ∈ gw := gw_i (List.mem_of_getElem? (i := 41) (by decide +kernel)) rfl
theorem kG_112 : Cond.fieldLink nG 112 "WayGraph$Pieces" "widths" "[I" ∈ gw := gw_i (List.mem_of_getElem? (i := 42) (by decide +kernel)) rfl
theorem kP_25 : Cond.fieldLink nP 25 "WayGraph$Pieces" "heights" "[J" ∈ gw := gw_i (List.mem_of_getElem? (i := 43) (by decide +kernel)) rfl
theorem kG_115 : Cond.fieldLink nG 115 "WayGraph$Pieces" "heights" "[J" ∈ gw := gw_i (List.mem_of_getElem? (i := 44) (by decide +kernel)) rfl
theorem kP_28 : Cond.fieldLink nP 28 "WayGraph$Pieces" "openHours" "[J" ∈ gw := gw_i (List.mem_of_getElem? (i := 45) (by decide +kernel)) rfl
theorem kG_164 : Cond.fieldLink nG 164 "WayGraph$Pieces" "openHours" "[J" ∈ gw := gw_i (List.mem_of_getElem? (i := 46) (by decide +kernel)) rfl
theorem kP_31 : Cond.fieldLink nP 31 "WayGraph$Pieces" "barredTurns" "[J" ∈ gw := gw_i (List.mem_of_getElem? (i := 47) (by decide +kernel)) rfl
theorem kG_153 : Cond.fieldLink nG 153 "WayGraph$Pieces" "barredTurns" "[J" ∈ gw := gw_i (List.mem_of_getElem? (i := 48) (by decide +kernel)) rfl
theorem kG_131 : Cond.fieldLink nG 131 "WayGraph$Pieces" "closedOnes" "J" ∈ gw := gw_i (List.mem_of_getElem? (i := 49) (by decide +kernel)) rfl
theorem kP_56 : Cond.fieldLink nP 56 "WayGraph$Pieces" "closedOnes" "J" ∈ gw := gw_i (List.mem_of_getElem? (i := 50) (by decide +kernel)) rfl
theorem kP_34 : Cond.fieldLink nP 34 "WayGraph$Pieces" "size" "I" ∈ gw := gw_i (List.mem_of_getElem? (i := 51) (by decide +kernel)) rfl
theorem kL_23 : Cond.fieldLink nL 23 "WayGraph$Pieces" "size" "I" ∈ gw := gw_i (List.mem_of_getElem? (i := 52) (by decide +kernel)) rfl
theorem kS_44 : Cond.fieldLink nS 44 "WayGraph$Pieces" "size" "I" ∈ gw := gw_i (List.mem_of_getElem? (i := 53) (by decide +kernel)) rfl
theorem kG_90 : Cond.fieldLink nG 90 "WayGraph$Pieces" "size" "I" ∈ gw := gw_i (List.mem_of_getElem? (i := 54) (by decide +kernel)) rfl
theorem karr_int : Cond.arrayClass .int ∈ gw := gw_i (List.mem_of_getElem? (i := 74) (by decide +kernel)) rfl
theorem karr_long : Cond.arrayClass .long ∈ gw := gw_i (List.mem_of_getElem? (i := 75) (by decide +kernel)) rfl
theorem kG_30 : Cond.classLink nG 30 "WayGraph$LeastWays" ∈ gw := gw_i (List.mem_of_getElem? (i := 76) (by decide +kernel)) rfl
theorem knew_L : Cond.instantiable "WayGraph$LeastWays" 3 ∈ gw := gw_i (List.mem_of_getElem? (i := 77) (by decide +kernel)) rfl
theorem kG_32 : Cond.methodLink nG 32 yL_init ∈ gw := gw_i (List.mem_of_getElem? (i := 78) (by decide +kernel)) rfl
theorem ki_L_init : Cond.instanceMethod yL_init ∈ gw := gw_i (List.mem_of_getElem? (i := 79) (by decide +kernel)) rfl
theorem kc_L_init : Cond.code yL_init cL_init 1 none ∈ gw := gw_i (List.mem_of_getElem? (i := 80) (by decide +kernel)) rfl
theorem kL_3 : Cond.methodLink nL 3 ⟨"java/lang/Object", "<init>", "()V"⟩ ∈ gw := gw_i (List.mem_of_getElem? (i := 81) (by decide +kernel)) rfl
theorem kL_9 : Cond.fieldLink nL 9 "WayGraph$LeastWays" "reached" "[J" ∈ gw := gw_i (List.mem_of_getElem? (i := 82) (by decide +kernel)) rfl
theorem kG_252 : Cond.fieldLink nG 252 "WayGraph$LeastWays" "reached" "[J" ∈ gw := gw_i (List.mem_of_getElem? (i := 83) (by decide +kernel)) rfl
theorem kL_15 : Cond.fieldLink nL 15 "WayGraph$LeastWays" "start" "I" ∈ gw := gw_i (List.mem_of_getElem? (i := 84) (by decide +kernel)) rfl
theorem kL_19 : Cond.fieldLink nL 19 "WayGraph$LeastWays" "firstMoment" "J" ∈ gw := gw_i (List.mem_of_getElem? (i := 85) (by decide +kernel)) rfl
theorem kG_37 : Cond.classLink nG 37 "WayGraph$ShortWays" ∈ gw := gw_i (List.mem_of_getElem? (i := 93) (by decide +kernel)) rfl
theorem knew_S : Cond.instantiable "WayGraph$ShortWays" 7 ∈ gw := gw_i (List.mem_of_getElem? (i := 94) (by decide +kernel)) rfl
theorem kG_39 : Cond.methodLink nG 39 yS_init ∈ gw := gw_i (List.mem_of_getElem? (i := 95) (by decide +kernel)) rfl
theorem ki_S_init : Cond.instanceMethod yS_init ∈ gw := gw_i (List.mem_of_getElem? (i := 96) (by decide +kernel)) rfl
theorem kc_S_init : Cond.code yS_init cS_init 1 none ∈ gw := gw_i (List.mem_of_getElem? (i := 97) (by decide +kernel)) rfl
theorem kS_3 : Cond.methodLink nS 3 ⟨"java/lang/Object", "<init>", "()V"⟩ ∈ gw := gw_i (List.mem_of_getElem? (i := 98) (by decide +kernel)) rfl
theorem kS_9 : Cond.fieldLink nS 9 "WayGraph$ShortWays" "trail" "[I" ∈ gw := gw_i (List.mem_of_getElem? (i := 99) (by decide +kernel)) rfl
theorem kS_15 : Cond.fieldLink nS 15 "WayGraph$ShortWays" "rankedPieces" "[I" ∈ gw := gw_i (List.mem_of_getElem? (i := 100) (by decide +kernel)) rfl
theorem kS_18 : Cond.fieldLink nS 18 "WayGraph$ShortWays" "rankedLengths" "[I" ∈ gw := gw_i (List.mem_of_getElem? (i := 101) (by decide +kernel)) rfl
theorem kS_21 : Cond.fieldLink nS 21 "WayGraph$ShortWays" "rankedSeconds" "[J" ∈ gw := gw_i (List.mem_of_getElem? (i := 102) (by decide +kernel)) rfl
theorem kG_229 : Cond.fieldLink nG 229 "WayGraph$ShortWays" "rankedSeconds" "[J" ∈ gw := gw_i (List.mem_of_getElem? (i := 103) (by decide +kernel)) rfl
theorem kS_33 : Cond.fieldLink nS 33 "WayGraph$ShortWays" "ranked" "I" ∈ gw := gw_i (List.mem_of_getElem? (i := 104) (by decide +kernel)) rfl
theorem kG_222 : Cond.fieldLink nG 222 "WayGraph$ShortWays" "ranked" "I" ∈ gw := gw_i (List.mem_of_getElem? (i := 105) (by decide +kernel)) rfl
theorem kS_25 : Cond.fieldLink nS 25 "WayGraph$ShortWays" "usable" "J" ∈ gw := gw_i (List.mem_of_getElem? (i := 106) (by decide +kernel)) rfl
theorem kS_29 : Cond.fieldLink nS 29 "WayGraph$ShortWays" "goal" "I" ∈ gw := gw_i (List.mem_of_getElem? (i := 107) (by decide +kernel)) rfl
theorem kG_44 : Cond.classLink nG 44 "WayGraph$Row" ∈ gw := gw_i (List.mem_of_getElem? (i := 123) (by decide +kernel)) rfl
theorem knew_R : Cond.instantiable "WayGraph$Row" 2 ∈ gw := gw_i (List.mem_of_getElem? (i := 124) (by decide +kernel)) rfl
theorem kG_46 : Cond.methodLink nG 46 yR_init ∈ gw := gw_i (List.mem_of_getElem? (i := 125) (by decide +kernel)) rfl
theorem ki_R_init : Cond.instanceMethod yR_init ∈ gw := gw_i (List.mem_of_getElem? (i := 126) (by decide +kernel)) rfl
theorem kc_R_init : Cond.code yR_init cR_init 1 none ∈ gw := gw_i (List.mem_of_getElem? (i := 127) (by decide +kernel)) rfl
theorem kR_3 : Cond.methodLink nR 3 ⟨"java/lang/Object", "<init>", "()V"⟩ ∈ gw := gw_i (List.mem_of_getElem? (i := 128) (by decide +kernel)) rfl
theorem kR_9 : Cond.fieldLink nR 9 "WayGraph$Row" "numbers" "[I" ∈ gw := gw_i (List.mem_of_getElem? (i := 129) (by decide +kernel)) rfl
theorem kR_15 : Cond.fieldLink nR 15 "WayGraph$Row" "length" "I" ∈ gw := gw_i (List.mem_of_getElem? (i := 130) (by decide +kernel)) rfl
theorem kG_9 : Cond.fieldLink nG 9 "WayGraph" "levels" "[I" ∈ gw := gw_i (List.mem_of_getElem? (i := 136) (by decide +kernel)) rfl
theorem kG_64 : Cond.fieldLink nG 64 "WayGraph" "placeCount" "I" ∈ gw := gw_i (List.mem_of_getElem? (i := 137) (by decide +kernel)) rfl
theorem kG_16 : Cond.fieldLink nG 16 "WayGraph" "pieces" "LWayGraph$Pieces;" ∈ gw := gw_i (List.mem_of_getElem? (i := 138) (by decide +kernel)) rfl
theorem kG_20 : Cond.fieldLink nG 20 "WayGraph" "moverWidths" "[I" ∈ gw := gw_i (List.mem_of_getElem? (i := 139) (by decide +kernel)) rfl
theorem kG_23 : Cond.fieldLink nG 23 "WayGraph" "moverHeights" "[J" ∈ gw := gw_i (List.mem_of_getElem? (i := 140) (by decide +kernel)) rfl
theorem kG_120 : Cond.fieldLink nG 120 "WayGraph" "moverCount" "I" ∈ gw := gw_i (List.mem_of_getElem? (i := 141) (by decide +kernel)) rfl
theorem kG_27 : Cond.fieldLink nG 27 "WayGraph" "markedPlaces" "[I" ∈ gw := gw_i (List.mem_of_getElem? (i := 142) (by decide +kernel)) rfl
theorem kG_201 : Cond.fieldLink nG 201 "WayGraph" "markCount" "I" ∈ gw := gw_i (List.mem_of_getElem? (i := 143) (by decide +kernel)) rfl
theorem kG_33 : Cond.fieldLink nG 33 "WayGraph" "leastWays" "LWayGraph$LeastWays;" ∈ gw := gw_i (List.mem_of_getElem? (i := 144) (by decide +kernel)) rfl
theorem kG_40 : Cond.fieldLink nG 40 "WayGraph" "shortWays" "LWayGraph$ShortWays;" ∈ gw := gw_i (List.mem_of_getElem? (i := 145) (by decide +kernel)) rfl
theorem kG_47 : Cond.fieldLink nG 47 "WayGraph" "lastTold" "LWayGraph$Row;" ∈ gw := gw_i (List.mem_of_getElem? (i := 146) (by decide +kernel)) rfl
theorem kW_117 : Cond.methodLink nW 117 yG_step ∈ gw := gw_i (List.mem_of_getElem? (i := 170) (by decide +kernel)) rfl
theorem ki_G_step : Cond.instanceMethod yG_step ∈ gw := gw_i (List.mem_of_getElem? (i := 171) (by decide +kernel)) rfl
theorem ksel_G_step : Cond.selects nG yG_step yG_step ∈ gw := gw_i (List.mem_of_getElem? (i := 172) (by decide +kernel)) rfl
theorem kc_G_step : Cond.code yG_step cG_step 2 (some .int) ∈ gw := gw_i (List.mem_of_getElem? (i := 173) (by decide +kernel)) rfl
theorem kG_185 : Cond.methodLink nG 185 yR_at ∈ gw := gw_i (List.mem_of_getElem? (i := 174) (by decide +kernel)) rfl
theorem ki_R_at : Cond.instanceMethod yR_at ∈ gw := gw_i (List.mem_of_getElem? (i := 175) (by decide +kernel)) rfl
theorem ksel_R_at : Cond.selects nR yR_at yR_at ∈ gw := gw_i (List.mem_of_getElem? (i := 176) (by decide +kernel)) rfl
theorem kc_R_at : Cond.code yR_at cR_at 2 (some .int) ∈ gw := gw_i (List.mem_of_getElem? (i := 177) (by decide +kernel)) rfl
theorem kW_138 : Cond.methodLink nW 138 yG_count ∈ gw := gw_i (List.mem_of_getElem? (i := 178) (by decide +kernel)) rfl
theorem ki_G_count : Cond.instanceMethod yG_count ∈ gw := gw_i (List.mem_of_getElem? (i := 179) (by decide +kernel)) rfl
theorem ksel_G_count : Cond.selects nG yG_count yG_count ∈ gw := gw_i (List.mem_of_getElem? (i := 180) (by decide +kernel)) rfl
theorem kc_G_count : Cond.code yG_count cG_count 2 (some .int) ∈ gw := gw_i (List.mem_of_getElem? (i := 181) (by decide +kernel)) rfl
theorem kG_241 : Cond.methodLink nG 241 yP_countBarredTurns ∈ gw := gw_i (List.mem_of_getElem? (i := 182) (by decide +kernel)) rfl
theorem ki_P_countBarredTurns : Cond.instanceMethod yP_countBarredTurns ∈ gw := gw_i (List.mem_of_getElem? (i := 183) (by decide +kernel)) rfl
theorem ksel_P_countBarredTurns : Cond.selects nP yP_countBarredTurns yP_countBarredTurns ∈ gw := gw_i (List.mem_of_getElem? (i := 184) (by decide +kernel)) rfl
theorem kc_P_countBarredTurns : Cond.code yP_countBarredTurns cP_countBarredTurns 3 (some .int) ∈ gw := gw_i (List.mem_of_getElem? (i := 185) (by decide +kernel)) rfl
theorem kP_46 : Cond.methodLink nP 46 yJL_bitCount ∈ gw := gw_i (List.mem_of_getElem? (i := 186) (by decide +kernel)) rfl
theorem ks_JL_bitCount : Cond.static yJL_bitCount ∈ gw := gw_i (List.mem_of_getElem? (i := 187) (by decide +kernel)) rfl
theorem kc_JL_bitCount : Cond.code yJL_bitCount cJL_bitCount 2 (some .int) ∈ gw := gw_i (List.mem_of_getElem? (i := 188) (by decide +kernel)) rfl
theorem kJL_314 : Cond.constantLong nJL 314 (6148914691236517205) ∈ gw := gw_i (List.mem_of_getElem? (i := 189) (by decide +kernel)) rfl
theorem kJL_316 : Cond.constantLong nJL 316 (3689348814741910323) ∈ gw := gw_i (List.mem_of_getElem? (i := 190) (by decide +kernel)) rfl
theorem kJL_318 : Cond.constantLong nJL 318 (1085102592571150095) ∈ gw := gw_i (List.mem_of_getElem? (i := 191) (by decide +kernel)) rfl
theorem kW_74 : Cond.methodLink nW 74 yW_place ∈ gw := gw_i (List.mem_of_getElem? (i := 192) (by decide +kernel)) rfl
theorem ks_W_place : Cond.static yW_place ∈ gw := gw_i (List.mem_of_getElem? (i := 193) (by decide +kernel)) rfl
theorem kc_W_place : Cond.codeWith yW_place cW_place 4 (some .int) [(0, 9, 12, 13), (0, 9, 15, 15)] ∈ gw := gw_i (List.mem_of_getElem? (i := 194) (by decide +kernel)) rfl
theorem kW_13 : Cond.classLink nW 13 "java/lang/IllegalArgumentException" ∈ gw := gw_i (List.mem_of_getElem? (i := 195) (by decide +kernel)) rfl
theorem kW_15 : Cond.classLink nW 15 "java/lang/UnsupportedOperationException" ∈ gw := gw_i (List.mem_of_getElem? (i := 196) (by decide +kernel)) rfl
theorem kW_7 : Cond.methodLink nW 7 yG_place ∈ gw := gw_i (List.mem_of_getElem? (i := 197) (by decide +kernel)) rfl
theorem ki_G_place : Cond.instanceMethod yG_place ∈ gw := gw_i (List.mem_of_getElem? (i := 198) (by decide +kernel)) rfl
theorem ksel_G_place : Cond.selects nG yG_place yG_place ∈ gw := gw_i (List.mem_of_getElem? (i := 199) (by decide +kernel)) rfl
theorem kc_G_place : Cond.code yG_place cG_place 2 (some .int) ∈ gw := gw_i (List.mem_of_getElem? (i := 200) (by decide +kernel)) rfl
theorem kG_51 : Cond.constantLong nG 51 (9) ∈ gw := gw_i (List.mem_of_getElem? (i := 201) (by decide +kernel)) rfl
theorem kG_53 : Cond.methodLink nG 53 yG_within ∈ gw := gw_i (List.mem_of_getElem? (i := 202) (by decide +kernel)) rfl
theorem ks_G_within : Cond.static yG_within ∈ gw := gw_i (List.mem_of_getElem? (i := 203) (by decide +kernel)) rfl
theorem kc_G_within : Cond.code yG_within cG_within 6 (some .boolean) ∈ gw := gw_i (List.mem_of_getElem? (i := 204) (by decide +kernel)) rfl
theorem kG_57 : Cond.classLink nG 57 "java/lang/IllegalArgumentException" ∈ gw := gw_i (List.mem_of_getElem? (i := 205) (by decide +kernel)) rfl
theorem kG_61 : Cond.methodLink nG 61 ⟨"java/lang/IllegalArgumentException", "<init>", "(Ljava/lang/String;)V"⟩ ∈ gw := gw_i (List.mem_of_getElem? (i := 248) (by decide +kernel)) rfl
theorem karr_byte : Cond.arrayClass .byte ∈ gw := gw_i (List.mem_of_getElem? (i := 273) (by decide +kernel)) rfl
theorem kG_68 : Cond.classLink nG 68 "java/lang/UnsupportedOperationException" ∈ gw := gw_i (List.mem_of_getElem? (i := 274) (by decide +kernel)) rfl
theorem kG_72 : Cond.methodLink nG 72 ⟨"java/lang/UnsupportedOperationException", "<init>", "(Ljava/lang/String;)V"⟩ ∈ gw := gw_i (List.mem_of_getElem? (i := 284) (by decide +kernel)) rfl
theorem kW_86 : Cond.methodLink nW 86 yW_piece ∈ gw := gw_i (List.mem_of_getElem? (i := 290) (by decide +kernel)) rfl
theorem ks_W_piece : Cond.static yW_piece ∈ gw := gw_i (List.mem_of_getElem? (i := 291) (by decide +kernel)) rfl
theorem kc_W_piece : Cond.codeWith yW_piece cW_piece 9 (some .int) [(0, 14, 17, 13), (0, 14, 21, 21), (0, 14, 25, 15)] ∈ gw := gw_i (List.mem_of_getElem? (i := 292) (by decide +kernel)) rfl
theorem kW_21 : Cond.classLink nW 21 "java/lang/ArithmeticException" ∈ gw := gw_i (List.mem_of_getElem? (i := 293) (by decide +kernel)) rfl
theorem kW_17 : Cond.methodLink nW 17 yG_piece ∈ gw := gw_i (List.mem_of_getElem? (i := 294) (by decide +kernel)) rfl
theorem ki_G_piece : Cond.instanceMethod yG_piece ∈ gw := gw_i (List.mem_of_getElem? (i := 295) (by decide +kernel)) rfl
theorem ksel_G_piece : Cond.selects nG yG_piece yG_piece ∈ gw := gw_i (List.mem_of_getElem? (i := 296) (by decide +kernel)) rfl
theorem kc_G_piece : Cond.code yG_piece cG_piece 7 (some .int) ∈ gw := gw_i (List.mem_of_getElem? (i := 297) (by decide +kernel)) rfl
theorem kG_73 : Cond.methodLink nG 73 yG_hasPlace ∈ gw := gw_i (List.mem_of_getElem? (i := 298) (by decide +kernel)) rfl
theorem ki_G_hasPlace : Cond.instanceMethod yG_hasPlace ∈ gw := gw_i (List.mem_of_getElem? (i := 300) (by decide +kernel)) rfl
theorem kc_G_hasPlace : Cond.code yG_hasPlace cG_hasPlace 2 (some .boolean) ∈ gw := gw_i (List.mem_of_getElem? (i := 301) (by decide +kernel)) rfl
theorem kG_79 : Cond.constantLong nG 79 (10000000) ∈ gw := gw_i (List.mem_of_getElem? (i := 303) (by decide +kernel)) rfl
theorem kG_81 : Cond.constantLong nG 81 (10000) ∈ gw := gw_i (List.mem_of_getElem? (i := 304) (by decide +kernel)) rfl
theorem kG_85 : Cond.classLink nG 85 "java/lang/ArithmeticException" ∈ gw := gw_i (List.mem_of_getElem? (i := 306) (by decide +kernel)) rfl
theorem kG_89 : Cond.methodLink nG 89 ⟨"java/lang/ArithmeticException", "<init>", "(Ljava/lang/String;)V"⟩ ∈ gw := gw_i (List.mem_of_getElem? (i := 316) (by decide +kernel)) rfl
theorem kG_95 : Cond.methodLink nG 95 yP_add ∈ gw := gw_i (List.mem_of_getElem? (i := 323) (by decide +kernel)) rfl
theorem ki_P_add : Cond.instanceMethod yP_add ∈ gw := gw_i (List.mem_of_getElem? (i := 324) (by decide +kernel)) rfl
theorem ksel_P_add : Cond.selects nP yP_add yP_add ∈ gw := gw_i (List.mem_of_getElem? (i := 325) (by decide +kernel)) rfl
theorem kc_P_add : Cond.code yP_add cP_add 5 (some .int) ∈ gw := gw_i (List.mem_of_getElem? (i := 326) (by decide +kernel)) rfl
theorem kP_38 : Cond.constantLong nP 38 (3000) ∈ gw := gw_i (List.mem_of_getElem? (i := 327) (by decide +kernel)) rfl
theorem kP_40 : Cond.constantLong nP 40 (16777215) ∈ gw := gw_i (List.mem_of_getElem? (i := 328) (by decide +kernel)) rfl
theorem kW_90 : Cond.methodLink nW 90 yW_lift ∈ gw := gw_i (List.mem_of_getElem? (i := 329) (by decide +kernel)) rfl
theorem ks_W_lift : Cond.static yW_lift ∈ gw := gw_i (List.mem_of_getElem? (i := 330) (by decide +kernel)) rfl
theorem kc_W_lift : Cond.codeWith yW_lift cW_lift 7 (some .int) [(0, 12, 15, 13), (0, 12, 19, 15)] ∈ gw := gw_i (List.mem_of_getElem? (i := 331) (by decide +kernel)) rfl
theorem kW_23 : Cond.methodLink nW 23 yG_lift ∈ gw := gw_i (List.mem_of_getElem? (i := 332) (by decide +kernel)) rfl
theorem ki_G_lift : Cond.instanceMethod yG_lift ∈ gw := gw_i (List.mem_of_getElem? (i := 333) (by decide +kernel)) rfl
theorem ksel_G_lift : Cond.selects nG yG_lift yG_lift ∈ gw := gw_i (List.mem_of_getElem? (i := 334) (by decide +kernel)) rfl
theorem kc_G_lift : Cond.code yG_lift cG_lift 6 (some .int) ∈ gw := gw_i (List.mem_of_getElem? (i := 335) (by decide +kernel)) rfl
theorem kW_94 : Cond.methodLink nW 94 yW_limit ∈ gw := gw_i (List.mem_of_getElem? (i := 338) (by decide +kernel)) rfl
theorem ks_W_limit : Cond.static yW_limit ∈ gw := gw_i (List.mem_of_getElem? (i := 339) (by decide +kernel)) rfl
theorem kc_W_limit : Cond.codeWith yW_limit cW_limit 6 (some .int) [(0, 7, 10, 13)] ∈ gw := gw_i (List.mem_of_getElem? (i := 340) (by decide +kernel)) rfl
theorem kW_27 : Cond.methodLink nW 27 yG_limit ∈ gw := gw_i (List.mem_of_getElem? (i := 341) (by decide +kernel)) rfl
theorem ki_G_limit : Cond.instanceMethod yG_limit ∈ gw := gw_i (List.mem_of_getElem? (i := 342) (by decide +kernel)) rfl
theorem ksel_G_limit : Cond.selects nG yG_limit yG_limit ∈ gw := gw_i (List.mem_of_getElem? (i := 343) (by decide +kernel)) rfl
theorem kc_G_limit : Cond.code yG_limit cG_limit 5 none ∈ gw := gw_i (List.mem_of_getElem? (i := 344) (by decide +kernel)) rfl
theorem kG_103 : Cond.methodLink nG 103 yP_has ∈ gw := gw_i (List.mem_of_getElem? (i := 345) (by decide +kernel)) rfl
theorem ki_P_has : Cond.instanceMethod yP_has ∈ gw := gw_i (List.mem_of_getElem? (i := 346) (by decide +kernel)) rfl
theorem ksel_P_has : Cond.selects nP yP_has yP_has ∈ gw := gw_i (List.mem_of_getElem? (i := 347) (by decide +kernel)) rfl
theorem kc_P_has : Cond.code yP_has cP_has 2 (some .boolean) ∈ gw := gw_i (List.mem_of_getElem? (i := 348) (by decide +kernel)) rfl
theorem kG_106 : Cond.methodLink nG 106 yG_isSize ∈ gw := gw_i (List.mem_of_getElem? (i := 349) (by decide +kernel)) rfl
theorem ks_G_isSize : Cond.static yG_isSize ∈ gw := gw_i (List.mem_of_getElem? (i := 350) (by decide +kernel)) rfl
theorem kc_G_isSize : Cond.code yG_isSize cG_isSize 4 (some .boolean) ∈ gw := gw_i (List.mem_of_getElem? (i := 351) (by decide +kernel)) rfl
theorem kW_98 : Cond.methodLink nW 98 yW_mover ∈ gw := gw_i (List.mem_of_getElem? (i := 353) (by decide +kernel)) rfl
theorem ks_W_mover : Cond.static yW_mover ∈ gw := gw_i (List.mem_of_getElem? (i := 354) (by decide +kernel)) rfl
theorem kc_W_mover : Cond.codeWith yW_mover cW_mover 6 (some .int) [(0, 11, 14, 13), (0, 11, 18, 15)] ∈ gw := gw_i (List.mem_of_getElem? (i := 355) (by decide +kernel)) rfl
theorem kW_31 : Cond.methodLink nW 31 yG_mover ∈ gw := gw_i (List.mem_of_getElem? (i := 356) (by decide +kernel)) rfl
theorem ki_G_mover : Cond.instanceMethod yG_mover ∈ gw := gw_i (List.mem_of_getElem? (i := 357) (by decide +kernel)) rfl
theorem ksel_G_mover : Cond.selects nG yG_mover yG_mover ∈ gw := gw_i (List.mem_of_getElem? (i := 358) (by decide +kernel)) rfl
theorem kc_G_mover : Cond.code yG_mover cG_mover 4 (some .int) ∈ gw := gw_i (List.mem_of_getElem? (i := 359) (by decide +kernel)) rfl
theorem kG_125 : Cond.methodLink nG 125 yP_anyFits ∈ gw := gw_i (List.mem_of_getElem? (i := 362) (by decide +kernel)) rfl
theorem ki_P_anyFits : Cond.instanceMethod yP_anyFits ∈ gw := gw_i (List.mem_of_getElem? (i := 363) (by decide +kernel)) rfl
theorem ksel_P_anyFits : Cond.selects nP yP_anyFits yP_anyFits ∈ gw := gw_i (List.mem_of_getElem? (i := 364) (by decide +kernel)) rfl
theorem kc_P_anyFits : Cond.code yP_anyFits cP_anyFits 5 (some .boolean) ∈ gw := gw_i (List.mem_of_getElem? (i := 365) (by decide +kernel)) rfl
theorem kP_52 : Cond.methodLink nP 52 yP_fits ∈ gw := gw_i (List.mem_of_getElem? (i := 366) (by decide +kernel)) rfl
theorem ki_P_fits : Cond.instanceMethod yP_fits ∈ gw := gw_i (List.mem_of_getElem? (i := 367) (by decide +kernel)) rfl
theorem ksel_P_fits : Cond.selects nP yP_fits yP_fits ∈ gw := gw_i (List.mem_of_getElem? (i := 368) (by decide +kernel)) rfl
theorem kc_P_fits : Cond.code yP_fits cP_fits 5 (some .boolean) ∈ gw := gw_i (List.mem_of_getElem? (i := 369) (by decide +kernel)) rfl
theorem kW_102 : Cond.methodLink nW 102 yW_closed ∈ gw := gw_i (List.mem_of_getElem? (i := 370) (by decide +kernel)) rfl
theorem ks_W_closed : Cond.static yW_closed ∈ gw := gw_i (List.mem_of_getElem? (i := 371) (by decide +kernel)) rfl
theorem kc_W_closed : Cond.codeWith yW_closed cW_closed 5 (some .int) [(0, 10, 13, 13)] ∈ gw := gw_i (List.mem_of_getElem? (i := 372) (by decide +kernel)) rfl
theorem kW_35 : Cond.methodLink nW 35 yG_closed ∈ gw := gw_i (List.mem_of_getElem? (i := 373) (by decide +kernel)) rfl
theorem ki_G_closed : Cond.instanceMethod yG_closed ∈ gw := gw_i (List.mem_of_getElem? (i := 374) (by decide +kernel)) rfl
theorem ksel_G_closed : Cond.selects nG yG_closed yG_closed ∈ gw := gw_i (List.mem_of_getElem? (i := 375) (by decide +kernel)) rfl
theorem kc_G_closed : Cond.code yG_closed cG_closed 3 (some .int) ∈ gw := gw_i (List.mem_of_getElem? (i := 376) (by decide +kernel)) rfl
theorem kG_135 : Cond.methodLink nG 135 yG_withBit ∈ gw := gw_i (List.mem_of_getElem? (i := 378) (by decide +kernel)) rfl
theorem ks_G_withBit : Cond.static yG_withBit ∈ gw := gw_i (List.mem_of_getElem? (i := 379) (by decide +kernel)) rfl
theorem kc_G_withBit : Cond.code yG_withBit cG_withBit 6 (some .long) ∈ gw := gw_i (List.mem_of_getElem? (i := 380) (by decide +kernel)) rfl
theorem kG_179 : Cond.constantLong nG 179 (-1) ∈ gw := gw_i (List.mem_of_getElem? (i := 381) (by decide +kernel)) rfl
theorem kG_139 : Cond.methodLink nG 139 yJL_bitCount ∈ gw := gw_i (List.mem_of_getElem? (i := 382) (by decide +kernel)) rfl
theorem kW_106 : Cond.methodLink nW 106 yW_turn ∈ gw := gw_i (List.mem_of_getElem? (i := 383) (by decide +kernel)) rfl
theorem ks_W_turn : Cond.static yW_turn ∈ gw := gw_i (List.mem_of_getElem? (i := 384) (by decide +kernel)) rfl
theorem kc_W_turn : Cond.codeWith yW_turn cW_turn 6 (some .int) [(0, 12, 15, 13)] ∈ gw := gw_i (List.mem_of_getElem? (i := 385) (by decide +kernel)) rfl
theorem kW_39 : Cond.methodLink nW 39 yG_turn ∈ gw := gw_i (List.mem_of_getElem? (i := 386) (by decide +kernel)) rfl
theorem ki_G_turn : Cond.instanceMethod yG_turn ∈ gw := gw_i (List.mem_of_getElem? (i := 387) (by decide +kernel)) rfl
theorem ksel_G_turn : Cond.selects nG yG_turn yG_turn ∈ gw := gw_i (List.mem_of_getElem? (i := 388) (by decide +kernel)) rfl
theorem kc_G_turn : Cond.code yG_turn cG_turn 5 (some .int) ∈ gw := gw_i (List.mem_of_getElem? (i := 389) (by decide +kernel)) rfl
theorem kG_156 : Cond.methodLink nG 156 yP_isBarred ∈ gw := gw_i (List.mem_of_getElem? (i := 391) (by decide +kernel)) rfl
theorem ki_P_isBarred : Cond.instanceMethod yP_isBarred ∈ gw := gw_i (List.mem_of_getElem? (i := 392) (by decide +kernel)) rfl
theorem ksel_P_isBarred : Cond.selects nP yP_isBarred yP_isBarred ∈ gw := gw_i (List.mem_of_getElem? (i := 393) (by decide +kernel)) rfl
theorem kc_P_isBarred : Cond.code yP_isBarred cP_isBarred 3 (some .boolean) ∈ gw := gw_i (List.mem_of_getElem? (i := 394) (by decide +kernel)) rfl
theorem ks_G_hasBit : Cond.static yG_hasBit ∈ gw := gw_i (List.mem_of_getElem? (i := 396) (by decide +kernel)) rfl
theorem kc_G_hasBit : Cond.code yG_hasBit cG_hasBit 3 (some .boolean) ∈ gw := gw_i (List.mem_of_getElem? (i := 397) (by decide +kernel)) rfl
theorem kW_110 : Cond.methodLink nW 110 yW_door ∈ gw := gw_i (List.mem_of_getElem? (i := 398) (by decide +kernel)) rfl
theorem ks_W_door : Cond.static yW_door ∈ gw := gw_i (List.mem_of_getElem? (i := 399) (by decide +kernel)) rfl
theorem kc_W_door : Cond.codeWith yW_door cW_door 6 (some .int) [(0, 12, 15, 13)] ∈ gw := gw_i (List.mem_of_getElem? (i := 400) (by decide +kernel)) rfl
theorem kW_43 : Cond.methodLink nW 43 yG_door ∈ gw := gw_i (List.mem_of_getElem? (i := 401) (by decide +kernel)) rfl
theorem ki_G_door : Cond.instanceMethod yG_door ∈ gw := gw_i (List.mem_of_getElem? (i := 402) (by decide +kernel)) rfl
theorem ksel_G_door : Cond.selects nG yG_door yG_door ∈ gw := gw_i (List.mem_of_getElem? (i := 403) (by decide +kernel)) rfl
theorem kc_G_door : Cond.code yG_door cG_door 4 (some .int) ∈ gw := gw_i (List.mem_of_getElem? (i := 404) (by decide +kernel)) rfl
theorem kG_160 : Cond.constantLong nG 160 (23) ∈ gw := gw_i (List.mem_of_getElem? (i := 405) (by decide +kernel)) rfl
theorem kW_113 : Cond.methodLink nW 113 yW_way ∈ gw := gw_i (List.mem_of_getElem? (i := 407) (by decide +kernel)) rfl
theorem ks_W_way : Cond.static yW_way ∈ gw := gw_i (List.mem_of_getElem? (i := 408) (by decide +kernel)) rfl
theorem kc_W_way : Cond.codeWith yW_way cW_way 8 (some .int) [(0, 13, 16, 13)] ∈ gw := gw_i (List.mem_of_getElem? (i := 409) (by decide +kernel)) rfl
theorem kW_46 : Cond.methodLink nW 46 yG_way ∈ gw := gw_i (List.mem_of_getElem? (i := 410) (by decide +kernel)) rfl
theorem ki_G_way : Cond.instanceMethod yG_way ∈ gw := gw_i (List.mem_of_getElem? (i := 411) (by decide +kernel)) rfl
theorem ksel_G_way : Cond.selects nG yG_way yG_way ∈ gw := gw_i (List.mem_of_getElem? (i := 412) (by decide +kernel)) rfl
theorem kc_G_way : Cond.code yG_way cG_way 8 (some .long) ∈ gw := gw_i (List.mem_of_getElem? (i := 413) (by decide +kernel)) rfl
theorem kG_167 : Cond.methodLink nG 167 yG_hasMover ∈ gw := gw_i (List.mem_of_getElem? (i := 414) (by decide +kernel)) rfl
theorem ki_G_hasMover : Cond.instanceMethod yG_hasMover ∈ gw := gw_i (List.mem_of_getElem? (i := 416) (by decide +kernel)) rfl
theorem kc_G_hasMover : Cond.code yG_hasMover cG_hasMover 2 (some .boolean) ∈ gw := gw_i (List.mem_of_getElem? (i := 417) (by decide +kernel)) rfl
theorem kG_172 : Cond.methodLink nG 172 yG_leastSeconds ∈ gw := gw_i (List.mem_of_getElem? (i := 419) (by decide +kernel)) rfl
theorem ki_G_leastSeconds : Cond.instanceMethod yG_leastSeconds ∈ gw := gw_i (List.mem_of_getElem? (i := 421) (by decide +kernel)) rfl
theorem kc_G_leastSeconds : Cond.code yG_leastSeconds cG_leastSeconds 9 (some .long) ∈ gw := gw_i (List.mem_of_getElem? (i := 422) (by decide +kernel)) rfl
theorem kG_214 : Cond.methodLink nG 214 yP_usableBy ∈ gw := gw_i (List.mem_of_getElem? (i := 423) (by decide +kernel)) rfl
theorem ki_P_usableBy : Cond.instanceMethod yP_usableBy ∈ gw := gw_i (List.mem_of_getElem? (i := 424) (by decide +kernel)) rfl
theorem ksel_P_usableBy : Cond.selects nP yP_usableBy yP_usableBy ∈ gw := gw_i (List.mem_of_getElem? (i := 425) (by decide +kernel)) rfl
theorem kc_P_usableBy : Cond.code yP_usableBy cP_usableBy 8 (some .long) ∈ gw := gw_i (List.mem_of_getElem? (i := 426) (by decide +kernel)) rfl
theorem kG_245 : Cond.methodLink nG 245 yL_search ∈ gw := gw_i (List.mem_of_getElem? (i := 428) (by decide +kernel)) rfl
theorem ki_L_search : Cond.instanceMethod yL_search ∈ gw := gw_i (List.mem_of_getElem? (i := 429) (by decide +kernel)) rfl
theorem ksel_L_search : Cond.selects nL yL_search yL_search ∈ gw := gw_i (List.mem_of_getElem? (i := 430) (by decide +kernel)) rfl
theorem kc_L_search : Cond.code yL_search cL_search 11 none ∈ gw := gw_i (List.mem_of_getElem? (i := 431) (by decide +kernel)) rfl
theorem kL_36 : Cond.methodLink nL 36 yP_endWhenUsedFrom ∈ gw := gw_i (List.mem_of_getElem? (i := 433) (by decide +kernel)) rfl
theorem ki_P_endWhenUsedFrom : Cond.instanceMethod yP_endWhenUsedFrom ∈ gw := gw_i (List.mem_of_getElem? (i := 434) (by decide +kernel)) rfl
theorem ksel_P_endWhenUsedFrom : Cond.selects nP yP_endWhenUsedFrom yP_endWhenUsedFrom ∈ gw := gw_i (List.mem_of_getElem? (i := 435) (by decide +kernel)) rfl
theorem kc_P_endWhenUsedFrom : Cond.code yP_endWhenUsedFrom cP_endWhenUsedFrom 8 (some .long) ∈ gw := gw_i (List.mem_of_getElem? (i := 436) (by decide +kernel)) rfl
theorem kP_68 : Cond.constantLong nP 68 (3600) ∈ gw := gw_i (List.mem_of_getElem? (i := 437) (by decide +kernel)) rfl
theorem kP_70 : Cond.constantLong nP 70 (24) ∈ gw := gw_i (List.mem_of_getElem? (i := 438) (by decide +kernel)) rfl
theorem kP_72 : Cond.methodLink nP 72 yJM_max_J ∈ gw := gw_i (List.mem_of_getElem? (i := 439) (by decide +kernel)) rfl
theorem ks_JM_max_J : Cond.static yJM_max_J ∈ gw := gw_i (List.mem_of_getElem? (i := 440) (by decide +kernel)) rfl
theorem kc_JM_max_J : Cond.code yJM_max_J cJM_max_J 4 (some .long) ∈ gw := gw_i (List.mem_of_getElem? (i := 441) (by decide +kernel)) rfl
theorem kP_78 : Cond.constantLong nP 78 (1152921504606846976) ∈ gw := gw_i (List.mem_of_getElem? (i := 442) (by decide +kernel)) rfl
theorem kL_40 : Cond.constantLong nL 40 (1152921504606846976) ∈ gw := gw_i (List.mem_of_getElem? (i := 443) (by decide +kernel)) rfl
theorem kL_42 : Cond.methodLink nL 42 yL_earliestOf ∈ gw := gw_i (List.mem_of_getElem? (i := 444) (by decide +kernel)) rfl
theorem ki_L_earliestOf : Cond.instanceMethod yL_earliestOf ∈ gw := gw_i (List.mem_of_getElem? (i := 446) (by decide +kernel)) rfl
theorem kc_L_earliestOf : Cond.code yL_earliestOf cL_earliestOf 8 (some .int) ∈ gw := gw_i (List.mem_of_getElem? (i := 447) (by decide +kernel)) rfl
theorem kL_50 : Cond.methodLink nL 50 yL_goOnFrom ∈ gw := gw_i (List.mem_of_getElem? (i := 449) (by decide +kernel)) rfl
theorem ki_L_goOnFrom : Cond.instanceMethod yL_goOnFrom ∈ gw := gw_i (List.mem_of_getElem? (i := 451) (by decide +kernel)) rfl
theorem kc_L_goOnFrom : Cond.code yL_goOnFrom cL_goOnFrom 8 none ∈ gw := gw_i (List.mem_of_getElem? (i := 452) (by decide +kernel)) rfl
theorem kL_54 : Cond.methodLink nL 54 yP_canFollow ∈ gw := gw_i (List.mem_of_getElem? (i := 453) (by decide +kernel)) rfl
theorem ki_P_canFollow : Cond.instanceMethod yP_canFollow ∈ gw := gw_i (List.mem_of_getElem? (i := 454) (by decide +kernel)) rfl
theorem ksel_P_canFollow : Cond.selects nP yP_canFollow yP_canFollow ∈ gw := gw_i (List.mem_of_getElem? (i := 455) (by decide +kernel)) rfl
theorem kc_P_canFollow : Cond.code yP_canFollow cP_canFollow 3 (some .boolean) ∈ gw := gw_i (List.mem_of_getElem? (i := 456) (by decide +kernel)) rfl
theorem kP_64 : Cond.methodLink nP 64 yP_isBarred ∈ gw := gw_i (List.mem_of_getElem? (i := 457) (by decide +kernel)) rfl
theorem kL_58 : Cond.methodLink nL 58 yJM_min_J ∈ gw := gw_i (List.mem_of_getElem? (i := 458) (by decide +kernel)) rfl
theorem ks_JM_min_J : Cond.static yJM_min_J ∈ gw := gw_i (List.mem_of_getElem? (i := 459) (by decide +kernel)) rfl
theorem kc_JM_min_J : Cond.code yJM_min_J cJM_min_J 4 (some .long) ∈ gw := gw_i (List.mem_of_getElem? (i := 460) (by decide +kernel)) rfl
theorem kG_248 : Cond.methodLink nG 248 yL_lastPieceTo ∈ gw := gw_i (List.mem_of_getElem? (i := 461) (by decide +kernel)) rfl
theorem ki_L_lastPieceTo : Cond.instanceMethod yL_lastPieceTo ∈ gw := gw_i (List.mem_of_getElem? (i := 462) (by decide +kernel)) rfl
theorem ksel_L_lastPieceTo : Cond.selects nL yL_lastPieceTo yL_lastPieceTo ∈ gw := gw_i (List.mem_of_getElem? (i := 463) (by decide +kernel)) rfl
theorem kc_L_lastPieceTo : Cond.code yL_lastPieceTo cL_lastPieceTo 7 (some .int) ∈ gw := gw_i (List.mem_of_getElem? (i := 464) (by decide +kernel)) rfl
theorem kG_176 : Cond.methodLink nG 176 yR_clear ∈ gw := gw_i (List.mem_of_getElem? (i := 465) (by decide +kernel)) rfl
theorem ki_R_clear : Cond.instanceMethod yR_clear ∈ gw := gw_i (List.mem_of_getElem? (i := 466) (by decide +kernel)) rfl
theorem ksel_R_clear : Cond.selects nR yR_clear yR_clear ∈ gw := gw_i (List.mem_of_getElem? (i := 467) (by decide +kernel)) rfl
theorem kc_R_clear : Cond.code yR_clear cR_clear 1 none ∈ gw := gw_i (List.mem_of_getElem? (i := 468) (by decide +kernel)) rfl
theorem kG_181 : Cond.methodLink nG 181 yL_writeWayTo ∈ gw := gw_i (List.mem_of_getElem? (i := 469) (by decide +kernel)) rfl
theorem ki_L_writeWayTo : Cond.instanceMethod yL_writeWayTo ∈ gw := gw_i (List.mem_of_getElem? (i := 470) (by decide +kernel)) rfl
theorem ksel_L_writeWayTo : Cond.selects nL yL_writeWayTo yL_writeWayTo ∈ gw := gw_i (List.mem_of_getElem? (i := 471) (by decide +kernel)) rfl
theorem kc_L_writeWayTo : Cond.code yL_writeWayTo cL_writeWayTo 6 none ∈ gw := gw_i (List.mem_of_getElem? (i := 472) (by decide +kernel)) rfl
theorem kL_67 : Cond.methodLink nL 67 yL_lastPieceTo ∈ gw := gw_i (List.mem_of_getElem? (i := 473) (by decide +kernel)) rfl
theorem kL_71 : Cond.methodLink nL 71 yR_append ∈ gw := gw_i (List.mem_of_getElem? (i := 474) (by decide +kernel)) rfl
theorem ki_R_append : Cond.instanceMethod yR_append ∈ gw := gw_i (List.mem_of_getElem? (i := 475) (by decide +kernel)) rfl
theorem ksel_R_append : Cond.selects nR yR_append yR_append ∈ gw := gw_i (List.mem_of_getElem? (i := 476) (by decide +kernel)) rfl
theorem kc_R_append : Cond.code yR_append cR_append 2 none ∈ gw := gw_i (List.mem_of_getElem? (i := 477) (by decide +kernel)) rfl
theorem kL_77 : Cond.methodLink nL 77 yL_pieceBefore ∈ gw := gw_i (List.mem_of_getElem? (i := 478) (by decide +kernel)) rfl
theorem ki_L_pieceBefore : Cond.instanceMethod yL_pieceBefore ∈ gw := gw_i (List.mem_of_getElem? (i := 480) (by decide +kernel)) rfl
theorem kc_L_pieceBefore : Cond.code yL_pieceBefore cL_pieceBefore 4 (some .int) ∈ gw := gw_i (List.mem_of_getElem? (i := 481) (by decide +kernel)) rfl
theorem kL_80 : Cond.methodLink nL 80 yR_turnRound ∈ gw := gw_i (List.mem_of_getElem? (i := 482) (by decide +kernel)) rfl
theorem ki_R_turnRound : Cond.instanceMethod yR_turnRound ∈ gw := gw_i (List.mem_of_getElem? (i := 483) (by decide +kernel)) rfl
theorem ksel_R_turnRound : Cond.selects nR yR_turnRound yR_turnRound ∈ gw := gw_i (List.mem_of_getElem? (i := 484) (by decide +kernel)) rfl
theorem kc_R_turnRound : Cond.code yR_turnRound cR_turnRound 4 none ∈ gw := gw_i (List.mem_of_getElem? (i := 485) (by decide +kernel)) rfl
theorem kW_121 : Cond.methodLink nW 121 yW_reaches ∈ gw := gw_i (List.mem_of_getElem? (i := 486) (by decide +kernel)) rfl
theorem ks_W_reaches : Cond.static yW_reaches ∈ gw := gw_i (List.mem_of_getElem? (i := 487) (by decide +kernel)) rfl
theorem kc_W_reaches : Cond.codeWith yW_reaches cW_reaches 6 (some .int) [(0, 19, 22, 13)] ∈ gw := gw_i (List.mem_of_getElem? (i := 488) (by decide +kernel)) rfl
theorem kW_50 : Cond.methodLink nW 50 yG_reaches ∈ gw := gw_i (List.mem_of_getElem? (i := 489) (by decide +kernel)) rfl
theorem ki_G_reaches : Cond.instanceMethod yG_reaches ∈ gw := gw_i (List.mem_of_getElem? (i := 490) (by decide +kernel)) rfl
theorem ksel_G_reaches : Cond.selects nG yG_reaches yG_reaches ∈ gw := gw_i (List.mem_of_getElem? (i := 491) (by decide +kernel)) rfl
theorem kc_G_reaches : Cond.code yG_reaches cG_reaches 4 (some .boolean) ∈ gw := gw_i (List.mem_of_getElem? (i := 492) (by decide +kernel)) rfl
theorem kW_125 : Cond.methodLink nW 125 yW_mark ∈ gw := gw_i (List.mem_of_getElem? (i := 494) (by decide +kernel)) rfl
theorem ks_W_mark : Cond.static yW_mark ∈ gw := gw_i (List.mem_of_getElem? (i := 495) (by decide +kernel)) rfl
theorem kc_W_mark : Cond.codeWith yW_mark cW_mark 4 (some .int) [(0, 9, 12, 13), (0, 9, 15, 57), (0, 9, 18, 15)] ∈ gw := gw_i (List.mem_of_getElem? (i := 496) (by decide +kernel)) rfl
theorem kW_57 : Cond.classLink nW 57 "java/lang/IllegalStateException" ∈ gw := gw_i (List.mem_of_getElem? (i := 497) (by decide +kernel)) rfl
theorem kW_54 : Cond.methodLink nW 54 yG_mark ∈ gw := gw_i (List.mem_of_getElem? (i := 498) (by decide +kernel)) rfl
theorem ki_G_mark : Cond.instanceMethod yG_mark ∈ gw := gw_i (List.mem_of_getElem? (i := 499) (by decide +kernel)) rfl
theorem ksel_G_mark : Cond.selects nG yG_mark yG_mark ∈ gw := gw_i (List.mem_of_getElem? (i := 500) (by decide +kernel)) rfl
theorem kc_G_mark : Cond.code yG_mark cG_mark 2 (some .int) ∈ gw := gw_i (List.mem_of_getElem? (i := 501) (by decide +kernel)) rfl
theorem kG_193 : Cond.methodLink nG 193 yG_isMarked ∈ gw := gw_i (List.mem_of_getElem? (i := 503) (by decide +kernel)) rfl
theorem ki_G_isMarked : Cond.instanceMethod yG_isMarked ∈ gw := gw_i (List.mem_of_getElem? (i := 505) (by decide +kernel)) rfl
theorem kc_G_isMarked : Cond.code yG_isMarked cG_isMarked 3 (some .boolean) ∈ gw := gw_i (List.mem_of_getElem? (i := 506) (by decide +kernel)) rfl
theorem kG_196 : Cond.classLink nG 196 "java/lang/IllegalStateException" ∈ gw := gw_i (List.mem_of_getElem? (i := 507) (by decide +kernel)) rfl
theorem kG_200 : Cond.methodLink nG 200 ⟨"java/lang/IllegalStateException", "<init>", "(Ljava/lang/String;)V"⟩ ∈ gw := gw_i (List.mem_of_getElem? (i := 517) (by decide +kernel)) rfl
theorem kW_128 : Cond.methodLink nW 128 yW_table ∈ gw := gw_i (List.mem_of_getElem? (i := 524) (by decide +kernel)) rfl
theorem ks_W_table : Cond.static yW_table ∈ gw := gw_i (List.mem_of_getElem? (i := 525) (by decide +kernel)) rfl
theorem kc_W_table : Cond.codeWith yW_table cW_table 5 (some .int) [(0, 9, 12, 13), (0, 9, 16, 57)] ∈ gw := gw_i (List.mem_of_getElem? (i := 526) (by decide +kernel)) rfl
theorem kW_59 : Cond.methodLink nW 59 yG_table ∈ gw := gw_i (List.mem_of_getElem? (i := 527) (by decide +kernel)) rfl
theorem ki_G_table : Cond.instanceMethod yG_table ∈ gw := gw_i (List.mem_of_getElem? (i := 528) (by decide +kernel)) rfl
theorem ksel_G_table : Cond.selects nG yG_table yG_table ∈ gw := gw_i (List.mem_of_getElem? (i := 529) (by decide +kernel)) rfl
theorem kc_G_table : Cond.code yG_table cG_table 3 (some .long) ∈ gw := gw_i (List.mem_of_getElem? (i := 530) (by decide +kernel)) rfl
theorem kW_132 : Cond.methodLink nW 132 yW_k ∈ gw := gw_i (List.mem_of_getElem? (i := 533) (by decide +kernel)) rfl
theorem ks_W_k : Cond.static yW_k ∈ gw := gw_i (List.mem_of_getElem? (i := 534) (by decide +kernel)) rfl
theorem kc_W_k : Cond.codeWith yW_k cW_k 6 (some .int) [(0, 11, 14, 13), (0, 11, 18, 57)] ∈ gw := gw_i (List.mem_of_getElem? (i := 535) (by decide +kernel)) rfl
theorem kW_63 : Cond.methodLink nW 63 yG_k ∈ gw := gw_i (List.mem_of_getElem? (i := 536) (by decide +kernel)) rfl
theorem ki_G_k : Cond.instanceMethod yG_k ∈ gw := gw_i (List.mem_of_getElem? (i := 537) (by decide +kernel)) rfl
theorem ksel_G_k : Cond.selects nG yG_k yG_k ∈ gw := gw_i (List.mem_of_getElem? (i := 538) (by decide +kernel)) rfl
theorem kc_G_k : Cond.code yG_k cG_k 4 (some .long) ∈ gw := gw_i (List.mem_of_getElem? (i := 539) (by decide +kernel)) rfl
theorem kG_210 : Cond.constantLong nG 210 (4) ∈ gw := gw_i (List.mem_of_getElem? (i := 540) (by decide +kernel)) rfl
theorem kG_218 : Cond.methodLink nG 218 yS_search ∈ gw := gw_i (List.mem_of_getElem? (i := 542) (by decide +kernel)) rfl
theorem ki_S_search : Cond.instanceMethod yS_search ∈ gw := gw_i (List.mem_of_getElem? (i := 543) (by decide +kernel)) rfl
theorem ksel_S_search : Cond.selects nS yS_search yS_search ∈ gw := gw_i (List.mem_of_getElem? (i := 544) (by decide +kernel)) rfl
theorem kc_S_search : Cond.code yS_search cS_search 6 none ∈ gw := gw_i (List.mem_of_getElem? (i := 545) (by decide +kernel)) rfl
theorem kS_40 : Cond.methodLink nS 40 yS_extend ∈ gw := gw_i (List.mem_of_getElem? (i := 547) (by decide +kernel)) rfl
theorem ki_S_extend : Cond.instanceMethod yS_extend ∈ gw := gw_i (List.mem_of_getElem? (i := 549) (by decide +kernel)) rfl
theorem kc_S_extend : Cond.code yS_extend cS_extend 9 none ∈ gw := gw_i (List.mem_of_getElem? (i := 550) (by decide +kernel)) rfl
theorem kS_49 : Cond.methodLink nS 49 yS_canBeNext ∈ gw := gw_i (List.mem_of_getElem? (i := 551) (by decide +kernel)) rfl
theorem ki_S_canBeNext : Cond.instanceMethod yS_canBeNext ∈ gw := gw_i (List.mem_of_getElem? (i := 553) (by decide +kernel)) rfl
theorem kc_S_canBeNext : Cond.code yS_canBeNext cS_canBeNext 5 (some .boolean) ∈ gw := gw_i (List.mem_of_getElem? (i := 554) (by decide +kernel)) rfl
theorem kS_78 : Cond.methodLink nS 78 yP_isBarred ∈ gw := gw_i (List.mem_of_getElem? (i := 556) (by decide +kernel)) rfl
theorem kS_60 : Cond.methodLink nS 60 yS_goBy ∈ gw := gw_i (List.mem_of_getElem? (i := 557) (by decide +kernel)) rfl
theorem ki_S_goBy : Cond.instanceMethod yS_goBy ∈ gw := gw_i (List.mem_of_getElem? (i := 559) (by decide +kernel)) rfl
theorem kc_S_goBy : Cond.code yS_goBy cS_goBy 11 none ∈ gw := gw_i (List.mem_of_getElem? (i := 560) (by decide +kernel)) rfl
theorem kS_63 : Cond.methodLink nS 63 yP_endWhenUsedFrom ∈ gw := gw_i (List.mem_of_getElem? (i := 561) (by decide +kernel)) rfl
theorem kS_67 : Cond.methodLink nS 67 yS_keep ∈ gw := gw_i (List.mem_of_getElem? (i := 562) (by decide +kernel)) rfl
theorem ki_S_keep : Cond.instanceMethod yS_keep ∈ gw := gw_i (List.mem_of_getElem? (i := 564) (by decide +kernel)) rfl
theorem kc_S_keep : Cond.code yS_keep cS_keep 6 none ∈ gw := gw_i (List.mem_of_getElem? (i := 565) (by decide +kernel)) rfl
theorem kS_71 : Cond.methodLink nS 71 yS_rankOf ∈ gw := gw_i (List.mem_of_getElem? (i := 566) (by decide +kernel)) rfl
theorem ki_S_rankOf : Cond.instanceMethod yS_rankOf ∈ gw := gw_i (List.mem_of_getElem? (i := 568) (by decide +kernel)) rfl
theorem kc_S_rankOf : Cond.code yS_rankOf cS_rankOf 4 (some .int) ∈ gw := gw_i (List.mem_of_getElem? (i := 569) (by decide +kernel)) rfl
theorem kS_82 : Cond.methodLink nS 82 ⟨"java/lang/System", "arraycopy", "(Ljava/lang/Object;ILjava/lang/Object;II)V"⟩ ∈ gw := gw_i (List.mem_of_getElem? (i := 570) (by decide +kernel)) rfl
theorem ks_acopy : Cond.static arraycopyName ∈ gw := gw_i (List.mem_of_getElem? (i := 571) (by decide +kernel)) rfl
theorem kn_acopy : Cond.native arraycopyName ∈ gw := gw_i (List.mem_of_getElem? (i := 572) (by decide +kernel)) rfl
theorem kS_88 : Cond.methodLink nS 88 yJM_min_I ∈ gw := gw_i (List.mem_of_getElem? (i := 573) (by decide +kernel)) rfl
theorem ks_JM_min_I : Cond.static yJM_min_I ∈ gw := gw_i (List.mem_of_getElem? (i := 574) (by decide +kernel)) rfl
theorem kc_JM_min_I : Cond.code yJM_min_I cJM_min_I 2 (some .int) ∈ gw := gw_i (List.mem_of_getElem? (i := 575) (by decide +kernel)) rfl
theorem kG_225 : Cond.methodLink nG 225 yS_writeWay ∈ gw := gw_i (List.mem_of_getElem? (i := 576) (by decide +kernel)) rfl
theorem ki_S_writeWay : Cond.instanceMethod yS_writeWay ∈ gw := gw_i (List.mem_of_getElem? (i := 577) (by decide +kernel)) rfl
theorem ksel_S_writeWay : Cond.selects nS yS_writeWay yS_writeWay ∈ gw := gw_i (List.mem_of_getElem? (i := 578) (by decide +kernel)) rfl
theorem kc_S_writeWay : Cond.code yS_writeWay cS_writeWay 4 none ∈ gw := gw_i (List.mem_of_getElem? (i := 579) (by decide +kernel)) rfl
theorem kS_94 : Cond.methodLink nS 94 yR_append ∈ gw := gw_i (List.mem_of_getElem? (i := 580) (by decide +kernel)) rfl
theorem kW_135 : Cond.methodLink nW 135 yW_told ∈ gw := gw_i (List.mem_of_getElem? (i := 581) (by decide +kernel)) rfl
theorem ks_W_told : Cond.static yW_told ∈ gw := gw_i (List.mem_of_getElem? (i := 582) (by decide +kernel)) rfl
theorem kc_W_told : Cond.codeWith yW_told cW_told 5 (some .int) [(0, 9, 12, 13)] ∈ gw := gw_i (List.mem_of_getElem? (i := 583) (by decide +kernel)) rfl
theorem kW_67 : Cond.methodLink nW 67 yG_told ∈ gw := gw_i (List.mem_of_getElem? (i := 584) (by decide +kernel)) rfl
theorem ki_G_told : Cond.instanceMethod yG_told ∈ gw := gw_i (List.mem_of_getElem? (i := 585) (by decide +kernel)) rfl
theorem ksel_G_told : Cond.selects nG yG_told yG_told ∈ gw := gw_i (List.mem_of_getElem? (i := 586) (by decide +kernel)) rfl
theorem kc_G_told : Cond.code yG_told cG_told 3 (some .long) ∈ gw := gw_i (List.mem_of_getElem? (i := 587) (by decide +kernel)) rfl
theorem kG_235 : Cond.methodLink nG 235 yG_hasBit ∈ gw := gw_i (List.mem_of_getElem? (i := 588) (by decide +kernel)) rfl
theorem kW_71 : Cond.classLink nW 71 "WayGraphModel" ∈ gw := gw_i (List.mem_of_getElem? (i := 590) (by decide +kernel)) rfl
theorem knew_M : Cond.instantiable "WayGraphModel" 26 ∈ gw := gw_i (List.mem_of_getElem? (i := 591) (by decide +kernel)) rfl
theorem kW_73 : Cond.methodLink nW 73 yM_init ∈ gw := gw_i (List.mem_of_getElem? (i := 592) (by decide +kernel)) rfl
theorem ki_M_init : Cond.instanceMethod yM_init ∈ gw := gw_i (List.mem_of_getElem? (i := 593) (by decide +kernel)) rfl
theorem kc_M_init : Cond.code yM_init cM_init 1 none ∈ gw := gw_i (List.mem_of_getElem? (i := 594) (by decide +kernel)) rfl
theorem kM_1 : Cond.methodLink nM 1 ⟨"java/lang/Object", "<init>", "()V"⟩ ∈ gw := gw_i (List.mem_of_getElem? (i := 595) (by decide +kernel)) rfl
theorem kM_69 : Cond.fieldLink nM 69 "WayGraphModel" "code" "I" ∈ gw := gw_i (List.mem_of_getElem? (i := 596) (by decide +kernel)) rfl
theorem kM_73 : Cond.fieldLink nM 73 "WayGraphModel" "places" "I" ∈ gw := gw_i (List.mem_of_getElem? (i := 597) (by decide +kernel)) rfl
theorem kM_7 : Cond.fieldLink nM 7 "WayGraphModel" "level" "[I" ∈ gw := gw_i (List.mem_of_getElem? (i := 598) (by decide +kernel)) rfl
theorem kM_80 : Cond.fieldLink nM 80 "WayGraphModel" "pieces" "I" ∈ gw := gw_i (List.mem_of_getElem? (i := 599) (by decide +kernel)) rfl
theorem kM_13 : Cond.fieldLink nM 13 "WayGraphModel" "from" "[I" ∈ gw := gw_i (List.mem_of_getElem? (i := 600) (by decide +kernel)) rfl
theorem kM_16 : Cond.fieldLink nM 16 "WayGraphModel" "to" "[I" ∈ gw := gw_i (List.mem_of_getElem? (i := 601) (by decide +kernel)) rfl
theorem kM_19 : Cond.fieldLink nM 19 "WayGraphModel" "seconds" "[J" ∈ gw := gw_i (List.mem_of_getElem? (i := 602) (by decide +kernel)) rfl
theorem kM_23 : Cond.fieldLink nM 23 "WayGraphModel" "wide" "[I" ∈ gw := gw_i (List.mem_of_getElem? (i := 603) (by decide +kernel)) rfl
theorem kM_26 : Cond.fieldLink nM 26 "WayGraphModel" "high" "[I" ∈ gw := gw_i (List.mem_of_getElem? (i := 604) (by decide +kernel)) rfl
theorem kM_29 : Cond.fieldLink nM 29 "WayGraphModel" "shut" "[Z" ∈ gw := gw_i (List.mem_of_getElem? (i := 605) (by decide +kernel)) rfl
theorem kM_33 : Cond.fieldLink nM 33 "WayGraphModel" "hours" "[I" ∈ gw := gw_i (List.mem_of_getElem? (i := 606) (by decide +kernel)) rfl
theorem kM_36 : Cond.fieldLink nM 36 "WayGraphModel" "barred" "[Z" ∈ gw := gw_i (List.mem_of_getElem? (i := 607) (by decide +kernel)) rfl
theorem kM_101 : Cond.fieldLink nM 101 "WayGraphModel" "movers" "I" ∈ gw := gw_i (List.mem_of_getElem? (i := 608) (by decide +kernel)) rfl
theorem kM_39 : Cond.fieldLink nM 39 "WayGraphModel" "moverWide" "[I" ∈ gw := gw_i (List.mem_of_getElem? (i := 609) (by decide +kernel)) rfl
theorem kM_42 : Cond.fieldLink nM 42 "WayGraphModel" "moverHigh" "[I" ∈ gw := gw_i (List.mem_of_getElem? (i := 610) (by decide +kernel)) rfl
theorem kM_149 : Cond.fieldLink nM 149 "WayGraphModel" "marks" "I" ∈ gw := gw_i (List.mem_of_getElem? (i := 611) (by decide +kernel)) rfl
theorem kM_45 : Cond.fieldLink nM 45 "WayGraphModel" "marked" "[I" ∈ gw := gw_i (List.mem_of_getElem? (i := 612) (by decide +kernel)) rfl
theorem kM_48 : Cond.fieldLink nM 48 "WayGraphModel" "reached" "[J" ∈ gw := gw_i (List.mem_of_getElem? (i := 613) (by decide +kernel)) rfl
theorem kM_51 : Cond.fieldLink nM 51 "WayGraphModel" "steps" "[I" ∈ gw := gw_i (List.mem_of_getElem? (i := 614) (by decide +kernel)) rfl
theorem kM_138 : Cond.fieldLink nM 138 "WayGraphModel" "stepCount" "I" ∈ gw := gw_i (List.mem_of_getElem? (i := 615) (by decide +kernel)) rfl
theorem kM_54 : Cond.fieldLink nM 54 "WayGraphModel" "bestSeconds" "[J" ∈ gw := gw_i (List.mem_of_getElem? (i := 616) (by decide +kernel)) rfl
theorem kM_57 : Cond.fieldLink nM 57 "WayGraphModel" "bestCount" "[I" ∈ gw := gw_i (List.mem_of_getElem? (i := 617) (by decide +kernel)) rfl
theorem kM_60 : Cond.fieldLink nM 60 "WayGraphModel" "bestPieces" "[I" ∈ gw := gw_i (List.mem_of_getElem? (i := 618) (by decide +kernel)) rfl
theorem kM_155 : Cond.fieldLink nM 155 "WayGraphModel" "found" "I" ∈ gw := gw_i (List.mem_of_getElem? (i := 619) (by decide +kernel)) rfl
theorem kM_63 : Cond.fieldLink nM 63 "WayGraphModel" "on" "[I" ∈ gw := gw_i (List.mem_of_getElem? (i := 620) (by decide +kernel)) rfl
theorem kM_66 : Cond.fieldLink nM 66 "WayGraphModel" "when" "[J" ∈ gw := gw_i (List.mem_of_getElem? (i := 621) (by decide +kernel)) rfl
theorem karr_boolean : Cond.arrayClass .boolean ∈ gw := gw_i (List.mem_of_getElem? (i := 675) (by decide +kernel)) rfl
theorem kW_80 : Cond.methodLink nW 80 yM_thrown ∈ gw := gw_i (List.mem_of_getElem? (i := 676) (by decide +kernel)) rfl
theorem ki_M_thrown : Cond.instanceMethod yM_thrown ∈ gw := gw_i (List.mem_of_getElem? (i := 677) (by decide +kernel)) rfl
theorem ksel_M_thrown : Cond.selects nM yM_thrown yM_thrown ∈ gw := gw_i (List.mem_of_getElem? (i := 678) (by decide +kernel)) rfl
theorem kc_M_thrown : Cond.code yM_thrown cM_thrown 1 (some .int) ∈ gw := gw_i (List.mem_of_getElem? (i := 679) (by decide +kernel)) rfl
theorem kW_79 : Cond.methodLink nW 79 yM_place ∈ gw := gw_i (List.mem_of_getElem? (i := 680) (by decide +kernel)) rfl
theorem ki_M_place : Cond.instanceMethod yM_place ∈ gw := gw_i (List.mem_of_getElem? (i := 681) (by decide +kernel)) rfl
theorem ksel_M_place : Cond.selects nM yM_place yM_place ∈ gw := gw_i (List.mem_of_getElem? (i := 682) (by decide +kernel)) rfl
theorem kc_M_place : Cond.code yM_place cM_place 2 (some .int) ∈ gw := gw_i (List.mem_of_getElem? (i := 683) (by decide +kernel)) rfl
theorem kM_83 : Cond.constantLong nM 83 (9) ∈ gw := gw_i (List.mem_of_getElem? (i := 684) (by decide +kernel)) rfl
theorem kM_76 : Cond.methodLink nM 76 yM_in ∈ gw := gw_i (List.mem_of_getElem? (i := 685) (by decide +kernel)) rfl
theorem ks_M_in : Cond.static yM_in ∈ gw := gw_i (List.mem_of_getElem? (i := 686) (by decide +kernel)) rfl
theorem kc_M_in : Cond.code yM_in cM_in 6 (some .boolean) ∈ gw := gw_i (List.mem_of_getElem? (i := 687) (by decide +kernel)) rfl
theorem kW_89 : Cond.methodLink nW 89 yM_piece ∈ gw := gw_i (List.mem_of_getElem? (i := 688) (by decide +kernel)) rfl
theorem ki_M_piece : Cond.instanceMethod yM_piece ∈ gw := gw_i (List.mem_of_getElem? (i := 689) (by decide +kernel)) rfl
theorem ksel_M_piece : Cond.selects nM yM_piece yM_piece ∈ gw := gw_i (List.mem_of_getElem? (i := 690) (by decide +kernel)) rfl
theorem kc_M_piece : Cond.code yM_piece cM_piece 8 (some .int) ∈ gw := gw_i (List.mem_of_getElem? (i := 691) (by decide +kernel)) rfl
theorem kM_86 : Cond.methodLink nM 86 yM_isPlace ∈ gw := gw_i (List.mem_of_getElem? (i := 692) (by decide +kernel)) rfl
theorem ki_M_isPlace : Cond.instanceMethod yM_isPlace ∈ gw := gw_i (List.mem_of_getElem? (i := 694) (by decide +kernel)) rfl
theorem kc_M_isPlace : Cond.code yM_isPlace cM_isPlace 2 (some .boolean) ∈ gw := gw_i (List.mem_of_getElem? (i := 695) (by decide +kernel)) rfl
theorem kM_90 : Cond.constantLong nM 90 (10000000) ∈ gw := gw_i (List.mem_of_getElem? (i := 696) (by decide +kernel)) rfl
theorem kM_92 : Cond.constantLong nM 92 (10000) ∈ gw := gw_i (List.mem_of_getElem? (i := 697) (by decide +kernel)) rfl
theorem kM_94 : Cond.methodLink nM 94 yM_add ∈ gw := gw_i (List.mem_of_getElem? (i := 698) (by decide +kernel)) rfl
theorem ki_M_add : Cond.instanceMethod yM_add ∈ gw := gw_i (List.mem_of_getElem? (i := 700) (by decide +kernel)) rfl
theorem kc_M_add : Cond.code yM_add cM_add 5 (some .int) ∈ gw := gw_i (List.mem_of_getElem? (i := 701) (by decide +kernel)) rfl
theorem kM_85 : Cond.constant nM 85 (16777215) ∈ gw := gw_i (List.mem_of_getElem? (i := 702) (by decide +kernel)) rfl
theorem kW_93 : Cond.methodLink nW 93 yM_lift ∈ gw := gw_i (List.mem_of_getElem? (i := 703) (by decide +kernel)) rfl
theorem ki_M_lift : Cond.instanceMethod yM_lift ∈ gw := gw_i (List.mem_of_getElem? (i := 704) (by decide +kernel)) rfl
theorem ksel_M_lift : Cond.selects nM yM_lift yM_lift ∈ gw := gw_i (List.mem_of_getElem? (i := 705) (by decide +kernel)) rfl
theorem kc_M_lift : Cond.code yM_lift cM_lift 7 (some .int) ∈ gw := gw_i (List.mem_of_getElem? (i := 706) (by decide +kernel)) rfl
theorem kW_97 : Cond.methodLink nW 97 yM_limit ∈ gw := gw_i (List.mem_of_getElem? (i := 707) (by decide +kernel)) rfl
theorem ki_M_limit : Cond.instanceMethod yM_limit ∈ gw := gw_i (List.mem_of_getElem? (i := 708) (by decide +kernel)) rfl
theorem ksel_M_limit : Cond.selects nM yM_limit yM_limit ∈ gw := gw_i (List.mem_of_getElem? (i := 709) (by decide +kernel)) rfl
theorem kc_M_limit : Cond.code yM_limit cM_limit 5 none ∈ gw := gw_i (List.mem_of_getElem? (i := 710) (by decide +kernel)) rfl
theorem kM_98 : Cond.methodLink nM 98 yM_isPiece ∈ gw := gw_i (List.mem_of_getElem? (i := 711) (by decide +kernel)) rfl
theorem ki_M_isPiece : Cond.instanceMethod yM_isPiece ∈ gw := gw_i (List.mem_of_getElem? (i := 713) (by decide +kernel)) rfl
theorem kc_M_isPiece : Cond.code yM_isPiece cM_isPiece 2 (some .boolean) ∈ gw := gw_i (List.mem_of_getElem? (i := 714) (by decide +kernel)) rfl
theorem kW_101 : Cond.methodLink nW 101 yM_mover ∈ gw := gw_i (List.mem_of_getElem? (i := 715) (by decide +kernel)) rfl
theorem ki_M_mover : Cond.instanceMethod yM_mover ∈ gw := gw_i (List.mem_of_getElem? (i := 716) (by decide +kernel)) rfl
theorem ksel_M_mover : Cond.selects nM yM_mover yM_mover ∈ gw := gw_i (List.mem_of_getElem? (i := 717) (by decide +kernel)) rfl
theorem kc_M_mover : Cond.code yM_mover cM_mover 6 (some .int) ∈ gw := gw_i (List.mem_of_getElem? (i := 718) (by decide +kernel)) rfl
theorem kW_105 : Cond.methodLink nW 105 yM_closed ∈ gw := gw_i (List.mem_of_getElem? (i := 719) (by decide +kernel)) rfl
theorem ki_M_closed : Cond.instanceMethod yM_closed ∈ gw := gw_i (List.mem_of_getElem? (i := 720) (by decide +kernel)) rfl
theorem ksel_M_closed : Cond.selects nM yM_closed yM_closed ∈ gw := gw_i (List.mem_of_getElem? (i := 721) (by decide +kernel)) rfl
theorem kc_M_closed : Cond.code yM_closed cM_closed 5 (some .int) ∈ gw := gw_i (List.mem_of_getElem? (i := 722) (by decide +kernel)) rfl
theorem kW_109 : Cond.methodLink nW 109 yM_turn ∈ gw := gw_i (List.mem_of_getElem? (i := 723) (by decide +kernel)) rfl
theorem ki_M_turn : Cond.instanceMethod yM_turn ∈ gw := gw_i (List.mem_of_getElem? (i := 724) (by decide +kernel)) rfl
theorem ksel_M_turn : Cond.selects nM yM_turn yM_turn ∈ gw := gw_i (List.mem_of_getElem? (i := 725) (by decide +kernel)) rfl
theorem kc_M_turn : Cond.code yM_turn cM_turn 5 (some .int) ∈ gw := gw_i (List.mem_of_getElem? (i := 726) (by decide +kernel)) rfl
theorem kW_112 : Cond.methodLink nW 112 yM_door ∈ gw := gw_i (List.mem_of_getElem? (i := 727) (by decide +kernel)) rfl
theorem ki_M_door : Cond.instanceMethod yM_door ∈ gw := gw_i (List.mem_of_getElem? (i := 728) (by decide +kernel)) rfl
theorem ksel_M_door : Cond.selects nM yM_door yM_door ∈ gw := gw_i (List.mem_of_getElem? (i := 729) (by decide +kernel)) rfl
theorem kc_M_door : Cond.code yM_door cM_door 6 (some .int) ∈ gw := gw_i (List.mem_of_getElem? (i := 730) (by decide +kernel)) rfl
theorem kM_104 : Cond.constantLong nM 104 (23) ∈ gw := gw_i (List.mem_of_getElem? (i := 731) (by decide +kernel)) rfl
theorem kW_116 : Cond.methodLink nW 116 yM_way ∈ gw := gw_i (List.mem_of_getElem? (i := 732) (by decide +kernel)) rfl
theorem ki_M_way : Cond.instanceMethod yM_way ∈ gw := gw_i (List.mem_of_getElem? (i := 733) (by decide +kernel)) rfl
theorem ksel_M_way : Cond.selects nM yM_way yM_way ∈ gw := gw_i (List.mem_of_getElem? (i := 734) (by decide +kernel)) rfl
theorem kc_M_way : Cond.code yM_way cM_way 10 (some .long) ∈ gw := gw_i (List.mem_of_getElem? (i := 735) (by decide +kernel)) rfl
theorem kM_135 : Cond.methodLink nM 135 yM_isMover ∈ gw := gw_i (List.mem_of_getElem? (i := 736) (by decide +kernel)) rfl
theorem ki_M_isMover : Cond.instanceMethod yM_isMover ∈ gw := gw_i (List.mem_of_getElem? (i := 738) (by decide +kernel)) rfl
theorem kc_M_isMover : Cond.code yM_isMover cM_isMover 2 (some .boolean) ∈ gw := gw_i (List.mem_of_getElem? (i := 739) (by decide +kernel)) rfl
theorem kM_141 : Cond.methodLink nM 141 yM_least ∈ gw := gw_i (List.mem_of_getElem? (i := 740) (by decide +kernel)) rfl
theorem ki_M_least : Cond.instanceMethod yM_least ∈ gw := gw_i (List.mem_of_getElem? (i := 742) (by decide +kernel)) rfl
theorem kc_M_least : Cond.code yM_least cM_least 7 (some .long) ∈ gw := gw_i (List.mem_of_getElem? (i := 743) (by decide +kernel)) rfl
theorem kM_127 : Cond.methodLink nM 127 yM_reachAll ∈ gw := gw_i (List.mem_of_getElem? (i := 744) (by decide +kernel)) rfl
theorem ki_M_reachAll : Cond.instanceMethod yM_reachAll ∈ gw := gw_i (List.mem_of_getElem? (i := 746) (by decide +kernel)) rfl
theorem kc_M_reachAll : Cond.code yM_reachAll cM_reachAll 8 none ∈ gw := gw_i (List.mem_of_getElem? (i := 747) (by decide +kernel)) rfl
theorem kM_110 : Cond.methodLink nM 110 yM_mayUse ∈ gw := gw_i (List.mem_of_getElem? (i := 748) (by decide +kernel)) rfl
theorem ki_M_mayUse : Cond.instanceMethod yM_mayUse ∈ gw := gw_i (List.mem_of_getElem? (i := 750) (by decide +kernel)) rfl
theorem kc_M_mayUse : Cond.code yM_mayUse cM_mayUse 3 (some .boolean) ∈ gw := gw_i (List.mem_of_getElem? (i := 751) (by decide +kernel)) rfl
theorem kM_114 : Cond.methodLink nM 114 yM_use ∈ gw := gw_i (List.mem_of_getElem? (i := 752) (by decide +kernel)) rfl
theorem ki_M_use : Cond.instanceMethod yM_use ∈ gw := gw_i (List.mem_of_getElem? (i := 754) (by decide +kernel)) rfl
theorem kc_M_use : Cond.code yM_use cM_use 6 (some .long) ∈ gw := gw_i (List.mem_of_getElem? (i := 755) (by decide +kernel)) rfl
theorem kM_106 : Cond.constantLong nM 106 (3600) ∈ gw := gw_i (List.mem_of_getElem? (i := 756) (by decide +kernel)) rfl
theorem kM_108 : Cond.constantLong nM 108 (24) ∈ gw := gw_i (List.mem_of_getElem? (i := 757) (by decide +kernel)) rfl
theorem kM_118 : Cond.constantLong nM 118 (-1) ∈ gw := gw_i (List.mem_of_getElem? (i := 758) (by decide +kernel)) rfl
theorem kM_120 : Cond.methodLink nM 120 yM_lower ∈ gw := gw_i (List.mem_of_getElem? (i := 759) (by decide +kernel)) rfl
theorem ki_M_lower : Cond.instanceMethod yM_lower ∈ gw := gw_i (List.mem_of_getElem? (i := 761) (by decide +kernel)) rfl
theorem kc_M_lower : Cond.code yM_lower cM_lower 6 (some .boolean) ∈ gw := gw_i (List.mem_of_getElem? (i := 762) (by decide +kernel)) rfl
theorem kM_124 : Cond.methodLink nM 124 yM_follows ∈ gw := gw_i (List.mem_of_getElem? (i := 763) (by decide +kernel)) rfl
theorem ki_M_follows : Cond.instanceMethod yM_follows ∈ gw := gw_i (List.mem_of_getElem? (i := 765) (by decide +kernel)) rfl
theorem kc_M_follows : Cond.code yM_follows cM_follows 3 (some .boolean) ∈ gw := gw_i (List.mem_of_getElem? (i := 766) (by decide +kernel)) rfl
theorem kM_131 : Cond.methodLink nM 131 yM_lastTo ∈ gw := gw_i (List.mem_of_getElem? (i := 767) (by decide +kernel)) rfl
theorem ki_M_lastTo : Cond.instanceMethod yM_lastTo ∈ gw := gw_i (List.mem_of_getElem? (i := 769) (by decide +kernel)) rfl
theorem kc_M_lastTo : Cond.code yM_lastTo cM_lastTo 4 (some .int) ∈ gw := gw_i (List.mem_of_getElem? (i := 770) (by decide +kernel)) rfl
theorem kM_145 : Cond.methodLink nM 145 yM_before ∈ gw := gw_i (List.mem_of_getElem? (i := 771) (by decide +kernel)) rfl
theorem ki_M_before : Cond.instanceMethod yM_before ∈ gw := gw_i (List.mem_of_getElem? (i := 773) (by decide +kernel)) rfl
theorem kc_M_before : Cond.code yM_before cM_before 7 (some .int) ∈ gw := gw_i (List.mem_of_getElem? (i := 774) (by decide +kernel)) rfl
theorem kW_120 : Cond.methodLink nW 120 yM_step ∈ gw := gw_i (List.mem_of_getElem? (i := 775) (by decide +kernel)) rfl
theorem ki_M_step : Cond.instanceMethod yM_step ∈ gw := gw_i (List.mem_of_getElem? (i := 776) (by decide +kernel)) rfl
theorem ksel_M_step : Cond.selects nM yM_step yM_step ∈ gw := gw_i (List.mem_of_getElem? (i := 777) (by decide +kernel)) rfl
theorem kc_M_step : Cond.code yM_step cM_step 2 (some .int) ∈ gw := gw_i (List.mem_of_getElem? (i := 778) (by decide +kernel)) rfl
theorem kW_124 : Cond.methodLink nW 124 yM_reaches ∈ gw := gw_i (List.mem_of_getElem? (i := 779) (by decide +kernel)) rfl
theorem ki_M_reaches : Cond.instanceMethod yM_reaches ∈ gw := gw_i (List.mem_of_getElem? (i := 780) (by decide +kernel)) rfl
theorem ksel_M_reaches : Cond.selects nM yM_reaches yM_reaches ∈ gw := gw_i (List.mem_of_getElem? (i := 781) (by decide +kernel)) rfl
theorem kc_M_reaches : Cond.code yM_reaches cM_reaches 4 (some .boolean) ∈ gw := gw_i (List.mem_of_getElem? (i := 782) (by decide +kernel)) rfl
theorem kW_127 : Cond.methodLink nW 127 yM_mark ∈ gw := gw_i (List.mem_of_getElem? (i := 783) (by decide +kernel)) rfl
theorem ki_M_mark : Cond.instanceMethod yM_mark ∈ gw := gw_i (List.mem_of_getElem? (i := 784) (by decide +kernel)) rfl
theorem ksel_M_mark : Cond.selects nM yM_mark yM_mark ∈ gw := gw_i (List.mem_of_getElem? (i := 785) (by decide +kernel)) rfl
theorem kc_M_mark : Cond.code yM_mark cM_mark 4 (some .int) ∈ gw := gw_i (List.mem_of_getElem? (i := 786) (by decide +kernel)) rfl
theorem kW_131 : Cond.methodLink nW 131 yM_table ∈ gw := gw_i (List.mem_of_getElem? (i := 787) (by decide +kernel)) rfl
theorem ki_M_table : Cond.instanceMethod yM_table ∈ gw := gw_i (List.mem_of_getElem? (i := 788) (by decide +kernel)) rfl
theorem ksel_M_table : Cond.selects nM yM_table yM_table ∈ gw := gw_i (List.mem_of_getElem? (i := 789) (by decide +kernel)) rfl
theorem kc_M_table : Cond.code yM_table cM_table 3 (some .long) ∈ gw := gw_i (List.mem_of_getElem? (i := 790) (by decide +kernel)) rfl
theorem kW_134 : Cond.methodLink nW 134 yM_k ∈ gw := gw_i (List.mem_of_getElem? (i := 791) (by decide +kernel)) rfl
theorem ki_M_k : Cond.instanceMethod yM_k ∈ gw := gw_i (List.mem_of_getElem? (i := 792) (by decide +kernel)) rfl
theorem ksel_M_k : Cond.selects nM yM_k yM_k ∈ gw := gw_i (List.mem_of_getElem? (i := 793) (by decide +kernel)) rfl
theorem kc_M_k : Cond.code yM_k cM_k 5 (some .long) ∈ gw := gw_i (List.mem_of_getElem? (i := 794) (by decide +kernel)) rfl
theorem kM_168 : Cond.constantLong nM 168 (4) ∈ gw := gw_i (List.mem_of_getElem? (i := 795) (by decide +kernel)) rfl
theorem kM_170 : Cond.methodLink nM 170 yM_goThrough ∈ gw := gw_i (List.mem_of_getElem? (i := 796) (by decide +kernel)) rfl
theorem ki_M_goThrough : Cond.instanceMethod yM_goThrough ∈ gw := gw_i (List.mem_of_getElem? (i := 798) (by decide +kernel)) rfl
theorem kc_M_goThrough : Cond.code yM_goThrough cM_goThrough 5 none ∈ gw := gw_i (List.mem_of_getElem? (i := 799) (by decide +kernel)) rfl
theorem kM_161 : Cond.methodLink nM 161 yM_mayGo ∈ gw := gw_i (List.mem_of_getElem? (i := 800) (by decide +kernel)) rfl
theorem ki_M_mayGo : Cond.instanceMethod yM_mayGo ∈ gw := gw_i (List.mem_of_getElem? (i := 802) (by decide +kernel)) rfl
theorem kc_M_mayGo : Cond.code yM_mayGo cM_mayGo 5 (some .boolean) ∈ gw := gw_i (List.mem_of_getElem? (i := 803) (by decide +kernel)) rfl
theorem kM_152 : Cond.methodLink nM 152 yM_seen ∈ gw := gw_i (List.mem_of_getElem? (i := 804) (by decide +kernel)) rfl
theorem ki_M_seen : Cond.instanceMethod yM_seen ∈ gw := gw_i (List.mem_of_getElem? (i := 806) (by decide +kernel)) rfl
theorem kc_M_seen : Cond.code yM_seen cM_seen 6 (some .boolean) ∈ gw := gw_i (List.mem_of_getElem? (i := 807) (by decide +kernel)) rfl
theorem kM_164 : Cond.methodLink nM 164 yM_keep ∈ gw := gw_i (List.mem_of_getElem? (i := 808) (by decide +kernel)) rfl
theorem ki_M_keep : Cond.instanceMethod yM_keep ∈ gw := gw_i (List.mem_of_getElem? (i := 810) (by decide +kernel)) rfl
theorem kc_M_keep : Cond.code yM_keep cM_keep 5 none ∈ gw := gw_i (List.mem_of_getElem? (i := 811) (by decide +kernel)) rfl
theorem kM_158 : Cond.methodLink nM 158 yM_isBetter ∈ gw := gw_i (List.mem_of_getElem? (i := 812) (by decide +kernel)) rfl
theorem ki_M_isBetter : Cond.instanceMethod yM_isBetter ∈ gw := gw_i (List.mem_of_getElem? (i := 814) (by decide +kernel)) rfl
theorem kc_M_isBetter : Cond.code yM_isBetter cM_isBetter 4 (some .boolean) ∈ gw := gw_i (List.mem_of_getElem? (i := 815) (by decide +kernel)) rfl
theorem kW_137 : Cond.methodLink nW 137 yM_told ∈ gw := gw_i (List.mem_of_getElem? (i := 816) (by decide +kernel)) rfl
theorem ki_M_told : Cond.instanceMethod yM_told ∈ gw := gw_i (List.mem_of_getElem? (i := 817) (by decide +kernel)) rfl
theorem ksel_M_told : Cond.selects nM yM_told yM_told ∈ gw := gw_i (List.mem_of_getElem? (i := 818) (by decide +kernel)) rfl
theorem kc_M_told : Cond.code yM_told cM_told 3 (some .long) ∈ gw := gw_i (List.mem_of_getElem? (i := 819) (by decide +kernel)) rfl
theorem kM_174 : Cond.constantLong nM 174 (6) ∈ gw := gw_i (List.mem_of_getElem? (i := 820) (by decide +kernel)) rfl
theorem kW_141 : Cond.methodLink nW 141 yM_count ∈ gw := gw_i (List.mem_of_getElem? (i := 821) (by decide +kernel)) rfl
theorem ki_M_count : Cond.instanceMethod yM_count ∈ gw := gw_i (List.mem_of_getElem? (i := 822) (by decide +kernel)) rfl
theorem ksel_M_count : Cond.selects nM yM_count yM_count ∈ gw := gw_i (List.mem_of_getElem? (i := 823) (by decide +kernel)) rfl
theorem kc_M_count : Cond.code yM_count cM_count 4 (some .int) ∈ gw := gw_i (List.mem_of_getElem? (i := 824) (by decide +kernel)) rfl
theorem kW_84 : Cond.constantLong nW 84 (4294967295) ∈ gw := gw_i (List.mem_of_getElem? (i := 825) (by decide +kernel)) rfl
theorem ksel_G_hasPlace : Cond.selects nG yG_hasPlace yG_hasPlace ∈ gw := gw_p (List.mem_of_getElem? (i := 1) (by decide +kernel)) rfl
theorem ksel_G_hasMover : Cond.selects nG yG_hasMover yG_hasMover ∈ gw := gw_p (List.mem_of_getElem? (i := 2) (by decide +kernel)) rfl
theorem ksel_G_leastSeconds : Cond.selects nG yG_leastSeconds yG_leastSeconds ∈ gw := gw_p (List.mem_of_getElem? (i := 3) (by decide +kernel)) rfl
theorem ksel_L_earliestOf : Cond.selects nL yL_earliestOf yL_earliestOf ∈ gw := gw_p (List.mem_of_getElem? (i := 4) (by decide +kernel)) rfl
theorem ksel_L_goOnFrom : Cond.selects nL yL_goOnFrom yL_goOnFrom ∈ gw := gw_p (List.mem_of_getElem? (i := 5) (by decide +kernel)) rfl
theorem ksel_L_pieceBefore : Cond.selects nL yL_pieceBefore yL_pieceBefore ∈ gw := gw_p (List.mem_of_getElem? (i := 6) (by decide +kernel)) rfl
theorem ksel_G_isMarked : Cond.selects nG yG_isMarked yG_isMarked ∈ gw := gw_p (List.mem_of_getElem? (i := 7) (by decide +kernel)) rfl
theorem ksel_S_extend : Cond.selects nS yS_extend yS_extend ∈ gw := gw_p (List.mem_of_getElem? (i := 8) (by decide +kernel)) rfl
theorem ksel_S_canBeNext : Cond.selects nS yS_canBeNext yS_canBeNext ∈ gw := gw_p (List.mem_of_getElem? (i := 9) (by decide +kernel)) rfl
theorem ksel_S_goBy : Cond.selects nS yS_goBy yS_goBy ∈ gw := gw_p (List.mem_of_getElem? (i := 10) (by decide +kernel)) rfl
theorem ksel_S_keep : Cond.selects nS yS_keep yS_keep ∈ gw := gw_p (List.mem_of_getElem? (i := 11) (by decide +kernel)) rfl
theorem ksel_S_rankOf : Cond.selects nS yS_rankOf yS_rankOf ∈ gw := gw_p (List.mem_of_getElem? (i := 12) (by decide +kernel)) rfl
theorem ksel_M_isPlace : Cond.selects nM yM_isPlace yM_isPlace ∈ gw := gw_p (List.mem_of_getElem? (i := 13) (by decide +kernel)) rfl
theorem ksel_M_add : Cond.selects nM yM_add yM_add ∈ gw := gw_p (List.mem_of_getElem? (i := 14) (by decide +kernel)) rfl
theorem ksel_M_isPiece : Cond.selects nM yM_isPiece yM_isPiece ∈ gw := gw_p (List.mem_of_getElem? (i := 15) (by decide +kernel)) rfl
theorem ksel_M_isMover : Cond.selects nM yM_isMover yM_isMover ∈ gw := gw_p (List.mem_of_getElem? (i := 16) (by decide +kernel)) rfl
theorem ksel_M_least : Cond.selects nM yM_least yM_least ∈ gw := gw_p (List.mem_of_getElem? (i := 17) (by decide +kernel)) rfl
theorem ksel_M_reachAll : Cond.selects nM yM_reachAll yM_reachAll ∈ gw := gw_p (List.mem_of_getElem? (i := 18) (by decide +kernel)) rfl
theorem ksel_M_mayUse : Cond.selects nM yM_mayUse yM_mayUse ∈ gw := gw_p (List.mem_of_getElem? (i := 19) (by decide +kernel)) rfl
theorem ksel_M_use : Cond.selects nM yM_use yM_use ∈ gw := gw_p (List.mem_of_getElem? (i := 20) (by decide +kernel)) rfl
theorem ksel_M_lower : Cond.selects nM yM_lower yM_lower ∈ gw := gw_p (List.mem_of_getElem? (i := 21) (by decide +kernel)) rfl
theorem ksel_M_follows : Cond.selects nM yM_follows yM_follows ∈ gw := gw_p (List.mem_of_getElem? (i := 22) (by decide +kernel)) rfl
theorem ksel_M_lastTo : Cond.selects nM yM_lastTo yM_lastTo ∈ gw := gw_p (List.mem_of_getElem? (i := 23) (by decide +kernel)) rfl
theorem ksel_M_before : Cond.selects nM yM_before yM_before ∈ gw := gw_p (List.mem_of_getElem? (i := 24) (by decide +kernel)) rfl
theorem ksel_M_goThrough : Cond.selects nM yM_goThrough yM_goThrough ∈ gw := gw_p (List.mem_of_getElem? (i := 25) (by decide +kernel)) rfl
theorem ksel_M_mayGo : Cond.selects nM yM_mayGo yM_mayGo ∈ gw := gw_p (List.mem_of_getElem? (i := 26) (by decide +kernel)) rfl
theorem ksel_M_seen : Cond.selects nM yM_seen yM_seen ∈ gw := gw_p (List.mem_of_getElem? (i := 27) (by decide +kernel)) rfl
theorem ksel_M_keep : Cond.selects nM yM_keep yM_keep ∈ gw := gw_p (List.mem_of_getElem? (i := 28) (by decide +kernel)) rfl
theorem ksel_M_isBetter : Cond.selects nM yM_isBetter yM_isBetter ∈ gw := gw_p (List.mem_of_getElem? (i := 29) (by decide +kernel)) rfl
def nwL : List Cond := [Cond.methodLinkNest nP 42 yG_hasBit "WayGraph", Cond.methodLinkNest nP 60 yG_withBit "WayGraph", Cond.methodLinkNest nL 28 yG_hasBit "WayGraph", Cond.methodLinkNest nL 46 yG_withBit "WayGraph", Cond.methodLinkNest nS 36 yG_withBit "WayGraph", Cond.methodLinkNest nS 56 yG_hasBit "WayGraph"]
theorem nwL_ok : ∀ w ∈ nwL, ∃ (a : String) (i : Nat) (x : MethodName) (h : String), w = .methodLinkNest a i x h := by intro w hw; simp only [nwL, List.mem_cons, List.not_mem_nil, or_false] at hw; rcases hw with rfl | rfl | rfl | rfl | rfl | rfl <;> exact ⟨_, _, _, _, rfl⟩
theorem nwL_t : ∀ w ∈ nwL, w ∈ lw_tbl := by
  intro w hw
  simp only [nwL, List.mem_cons, List.not_mem_nil, or_false] at hw
  rcases hw with rfl | rfl | rfl | rfl | rfl | rfl
  · exact List.mem_append_right _ (List.mem_of_getElem? (i := 395) (by decide +kernel))
  · exact List.mem_append_right _ (List.mem_of_getElem? (i := 427) (by decide +kernel))
  · exact List.mem_append_right _ (List.mem_of_getElem? (i := 432) (by decide +kernel))
  · exact List.mem_append_right _ (List.mem_of_getElem? (i := 448) (by decide +kernel))
  · exact List.mem_append_right _ (List.mem_of_getElem? (i := 546) (by decide +kernel))
  · exact List.mem_append_right _ (List.mem_of_getElem? (i := 555) (by decide +kernel))
theorem kNP_42 : Cond.methodLinkNest nP 42 yG_hasBit "WayGraph" ∈ nwL := List.mem_of_getElem? (i := 0) rfl
theorem kNP_60 : Cond.methodLinkNest nP 60 yG_withBit "WayGraph" ∈ nwL := List.mem_of_getElem? (i := 1) rfl
theorem kNL_28 : Cond.methodLinkNest nL 28 yG_hasBit "WayGraph" ∈ nwL := List.mem_of_getElem? (i := 2) rfl
theorem kNL_46 : Cond.methodLinkNest nL 46 yG_withBit "WayGraph" ∈ nwL := List.mem_of_getElem? (i := 3) rfl
theorem kNS_36 : Cond.methodLinkNest nS 36 yG_withBit "WayGraph" ∈ nwL := List.mem_of_getElem? (i := 4) rfl
theorem kNS_56 : Cond.methodLinkNest nS 56 yG_hasBit "WayGraph" ∈ nwL := List.mem_of_getElem? (i := 5) rfl
theorem inG : ∀ w ∈ u_ws nG TG 11, w ∈ gw := by
  intro w hw
  refine List.mem_filter.mpr ⟨?_, ?_⟩
  · revert w; decide +kernel
  · revert w; decide +kernel
theorem inP : ∀ w ∈ u_ws nP TP 9, w ∈ gw := by
  intro w hw
  refine List.mem_filter.mpr ⟨?_, ?_⟩
  · revert w; decide +kernel
  · revert w; decide +kernel
theorem inL : ∀ w ∈ u_ws nL TL 3, w ∈ gw := by
  intro w hw
  refine List.mem_filter.mpr ⟨?_, ?_⟩
  · revert w; decide +kernel
  · revert w; decide +kernel
theorem inS : ∀ w ∈ u_ws nS TS 7, w ∈ gw := by
  intro w hw
  refine List.mem_filter.mpr ⟨?_, ?_⟩
  · revert w; decide +kernel
  · revert w; decide +kernel
theorem inR : ∀ w ∈ u_ws nR TR 2, w ∈ gw := by
  intro w hw
  refine List.mem_filter.mpr ⟨?_, ?_⟩
  · revert w; decide +kernel
  · revert w; decide +kernel
theorem inM : ∀ w ∈ u_ws nM TM 26, w ∈ gw := by
  intro w hw
  refine List.mem_filter.mpr ⟨?_, ?_⟩
  · revert w; decide +kernel
  · revert w; decide +kernel
