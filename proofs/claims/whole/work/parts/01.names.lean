-- names of the classes, their fields in the order of the slots, their methods (by wip/gen/gen.py, out of what TURN printed)
def RX0 : String := "PieceMirror$Eye"
def RX1 : String := "PieceMirror$Leg"
def RX2 : String := "PieceMirror$Pair"
def RX3 : String := "PieceMirror$Piece"
def RX4 : String := "PieceMirror$Plane"
def RX5 : String := "PieceMirror$Plans"
def RX6 : String := "PieceMirror$Sight"
def RX7 : String := "PieceMirror$Spots"
def RX8 : String := "PieceMirror$Stairs"
def RX9 : String := "PieceMirror$Stars"
def RX10 : String := "PieceMirror$Swaps"
def RX11 : String := "PieceMirror"
def RX12 : String := "PieceMirrorModel"
def RJ6 : String := "java/lang/Integer"
def RJ9 : String := "java/lang/Math"
def RJ10 : String := "java/lang/System"
def RL : String := "PieceMirrorLaw"
def TX0 : u_T := fun k => match k with
  | 0 => ("PieceMirror$Eye", "first", "LPieceMirror$Piece;", true)
  | 1 => ("PieceMirror$Eye", "second", "LPieceMirror$Piece;", true)
  | 2 => ("PieceMirror$Eye", "x", "I", true)
  | 3 => ("PieceMirror$Eye", "y", "I", true)
  | 4 => ("PieceMirror$Eye", "price", "I", true)
  | 5 => ("PieceMirror$Eye", "isBlind", "Z", false)
  | 6 => ("PieceMirror$Eye", "drifted", "I", false)
  | _ => ("PieceMirror$Eye", "reading", "I", false)
def tyX0 : Nat → FieldType := fun k => match k with
  | 0 => .object "PieceMirror$Piece"
  | 1 => .object "PieceMirror$Piece"
  | 2 => .int
  | 3 => .int
  | 4 => .int
  | 5 => .boolean
  | 6 => .int
  | _ => .int
def TX1 : u_T := fun k => match k with
  | 0 => ("PieceMirror$Leg", "piece", "I", true)
  | 1 => ("PieceMirror$Leg", "x", "I", true)
  | 2 => ("PieceMirror$Leg", "y", "I", true)
  | 3 => ("PieceMirror$Leg", "low", "I", true)
  | 4 => ("PieceMirror$Leg", "high", "I", true)
  | _ => ("PieceMirror$Leg", "stuck", "I", false)
def tyX1 : Nat → FieldType := fun k => match k with
  | 0 => .int
  | 1 => .int
  | 2 => .int
  | 3 => .int
  | 4 => .int
  | _ => .int
def TX2 : u_T := fun k => match k with
  | 0 => ("PieceMirror$Pair", "first", "LPieceMirror$Piece;", true)
  | 1 => ("PieceMirror$Pair", "second", "LPieceMirror$Piece;", true)
  | 2 => ("PieceMirror$Pair", "wave", "I", true)
  | _ => ("PieceMirror$Pair", "rest", "I", true)
def tyX2 : Nat → FieldType := fun k => match k with
  | 0 => .object "PieceMirror$Piece"
  | 1 => .object "PieceMirror$Piece"
  | 2 => .int
  | _ => .int
def TX3 : u_T := fun k => match k with
  | 0 => ("PieceMirror$Piece", "number", "I", true)
  | 1 => ("PieceMirror$Piece", "in", "Z", false)
  | 2 => ("PieceMirror$Piece", "plane", "LPieceMirror$Plane;", true)
  | 3 => ("PieceMirror$Piece", "wished", "LPieceMirror$Plane;", true)
  | 4 => ("PieceMirror$Piece", "legs", "I", false)
  | 5 => ("PieceMirror$Piece", "flaws", "[I", true)
  | 6 => ("PieceMirror$Piece", "weights", "[I", true)
  | _ => ("PieceMirror$Piece", "years", "I", false)
def tyX3 : Nat → FieldType := fun k => match k with
  | 0 => .int
  | 1 => .boolean
  | 2 => .object "PieceMirror$Plane"
  | 3 => .object "PieceMirror$Plane"
  | 4 => .int
  | 5 => .array .int
  | 6 => .array .int
  | _ => .int
def TX4 : u_T := fun k => match k with
  | 0 => ("PieceMirror$Plane", "height", "I", false)
  | 1 => ("PieceMirror$Plane", "lean", "I", false)
  | _ => ("PieceMirror$Plane", "other", "I", false)
def tyX4 : Nat → FieldType := fun k => match k with
  | 0 => .int
  | 1 => .int
  | _ => .int
def TX5 : u_T := fun k => match k with
  | 0 => ("PieceMirror$Plans", "numbers", "[I", true)
  | 1 => ("PieceMirror$Plans", "inCount", "I", false)
  | 2 => ("PieceMirror$Plans", "newIn", "[I", true)
  | 3 => ("PieceMirror$Plans", "now", "[I", true)
  | 4 => ("PieceMirror$Plans", "coated", "[I", true)
  | 5 => ("PieceMirror$Plans", "loss", "I", false)
  | 6 => ("PieceMirror$Plans", "years", "I", false)
  | _ => ("PieceMirror$Plans", "most", "I", false)
def tyX5 : Nat → FieldType := fun k => match k with
  | 0 => .array .int
  | 1 => .int
  | 2 => .array .int
  | 3 => .array .int
  | 4 => .array .int
  | 5 => .int
  | 6 => .int
  | _ => .int
def TX6 : u_T := fun k => match k with
  | 0 => ("PieceMirror$Sight", "stairs", "[LPieceMirror$Stairs;", true)
  | _ => ("PieceMirror$Sight", "row", "[I", true)
def tyX6 : Nat → FieldType := fun k => match k with
  | 0 => .array (.object "PieceMirror$Stairs")
  | _ => .array .int
def TX7 : u_T := fun k => match k with
  | 0 => ("PieceMirror$Spots", "bestX", "I", false)
  | 1 => ("PieceMirror$Spots", "bestY", "I", false)
  | _ => ("PieceMirror$Spots", "most", "I", false)
def tyX7 : Nat → FieldType := fun k => match k with
  | 0 => .int
  | 1 => .int
  | _ => .int
def TX8 : u_T := fun k => match k with
  | 0 => ("PieceMirror$Stairs", "prime", "I", true)
  | 1 => ("PieceMirror$Stairs", "steps", "[[I", true)
  | 2 => ("PieceMirror$Stairs", "filled", "[Z", true)
  | 3 => ("PieceMirror$Stairs", "left", "[I", true)
  | 4 => ("PieceMirror$Stairs", "planeSteps", "I", false)
  | _ => ("PieceMirror$Stairs", "allSteps", "I", false)
def tyX8 : Nat → FieldType := fun k => match k with
  | 0 => .int
  | 1 => .array (.array .int)
  | 2 => .array .boolean
  | 3 => .array .int
  | 4 => .int
  | _ => .int
def TX9 : u_T := fun k => match k with
  | 0 => ("PieceMirror$Stars", "fits", "[[I", true)
  | 1 => ("PieceMirror$Stars", "open", "[[I", true)
  | 2 => ("PieceMirror$Stars", "now", "[I", true)
  | 3 => ("PieceMirror$Stars", "first", "[I", true)
  | 4 => ("PieceMirror$Stars", "found", "I", false)
  | _ => ("PieceMirror$Stars", "limit", "I", false)
def tyX9 : Nat → FieldType := fun k => match k with
  | 0 => .array (.array .int)
  | 1 => .array (.array .int)
  | 2 => .array .int
  | 3 => .array .int
  | 4 => .int
  | _ => .int
def TX10 : u_T := fun k => match k with
  | 0 => ("PieceMirror$Swaps", "in", "[LPieceMirror$Piece;", true)
  | 1 => ("PieceMirror$Swaps", "inCount", "I", false)
  | 2 => ("PieceMirror$Swaps", "least", "[I", true)
  | _ => ("PieceMirror$Swaps", "holes", "[I", true)
def tyX10 : Nat → FieldType := fun k => match k with
  | 0 => .array (.object "PieceMirror$Piece")
  | 1 => .int
  | 2 => .array .int
  | _ => .array .int
def TX11 : u_T := fun k => match k with
  | 0 => ("PieceMirror", "pieces", "[LPieceMirror$Piece;", true)
  | 1 => ("PieceMirror", "pieceCount", "I", false)
  | 2 => ("PieceMirror", "eyes", "[LPieceMirror$Eye;", true)
  | 3 => ("PieceMirror", "eyeCount", "I", false)
  | 4 => ("PieceMirror", "legs", "[LPieceMirror$Leg;", true)
  | 5 => ("PieceMirror", "legCount", "I", false)
  | 6 => ("PieceMirror", "pairs", "[LPieceMirror$Pair;", true)
  | 7 => ("PieceMirror", "pairCount", "I", false)
  | 8 => ("PieceMirror", "reachNow", "I", false)
  | 9 => ("PieceMirror", "lossNow", "I", false)
  | 10 => ("PieceMirror", "sight", "LPieceMirror$Sight;", true)
  | 11 => ("PieceMirror", "stars", "LPieceMirror$Stars;", true)
  | 12 => ("PieceMirror", "swaps", "LPieceMirror$Swaps;", true)
  | 13 => ("PieceMirror", "plans", "LPieceMirror$Plans;", true)
  | 14 => ("PieceMirror", "spots", "LPieceMirror$Spots;", true)
  | 15 => ("PieceMirror", "listed", "[I", true)
  | _ => ("PieceMirror", "listedCount", "I", false)
def tyX11 : Nat → FieldType := fun k => match k with
  | 0 => .array (.object "PieceMirror$Piece")
  | 1 => .int
  | 2 => .array (.object "PieceMirror$Eye")
  | 3 => .int
  | 4 => .array (.object "PieceMirror$Leg")
  | 5 => .int
  | 6 => .array (.object "PieceMirror$Pair")
  | 7 => .int
  | 8 => .int
  | 9 => .int
  | 10 => .object "PieceMirror$Sight"
  | 11 => .object "PieceMirror$Stars"
  | 12 => .object "PieceMirror$Swaps"
  | 13 => .object "PieceMirror$Plans"
  | 14 => .object "PieceMirror$Spots"
  | 15 => .array .int
  | _ => .int
def TX12 : u_T := fun k => match k with
  | 0 => ("PieceMirrorModel", "pieces", "I", false)
  | 1 => ("PieceMirrorModel", "isIn", "[Z", true)
  | 2 => ("PieceMirrorModel", "plane", "[I", true)
  | 3 => ("PieceMirrorModel", "wish", "[I", true)
  | 4 => ("PieceMirrorModel", "eyes", "I", false)
  | 5 => ("PieceMirrorModel", "eyeA", "[I", true)
  | 6 => ("PieceMirrorModel", "eyeB", "[I", true)
  | 7 => ("PieceMirrorModel", "eyeX", "[I", true)
  | 8 => ("PieceMirrorModel", "eyeY", "[I", true)
  | 9 => ("PieceMirrorModel", "price", "[I", true)
  | 10 => ("PieceMirrorModel", "isBlind", "[Z", true)
  | 11 => ("PieceMirrorModel", "drift", "[I", true)
  | 12 => ("PieceMirrorModel", "reading", "[I", true)
  | 13 => ("PieceMirrorModel", "rows", "I", false)
  | 14 => ("PieceMirrorModel", "told", "[J", true)
  | 15 => ("PieceMirrorModel", "table", "[J", true)
  | 16 => ("PieceMirrorModel", "legs", "I", false)
  | 17 => ("PieceMirrorModel", "legPiece", "[I", true)
  | 18 => ("PieceMirrorModel", "legX", "[I", true)
  | 19 => ("PieceMirrorModel", "legY", "[I", true)
  | 20 => ("PieceMirrorModel", "legLow", "[I", true)
  | 21 => ("PieceMirrorModel", "legHigh", "[I", true)
  | 22 => ("PieceMirrorModel", "stuckAt", "[I", true)
  | 23 => ("PieceMirrorModel", "pairs", "I", false)
  | 24 => ("PieceMirrorModel", "pairA", "[I", true)
  | 25 => ("PieceMirrorModel", "pairB", "[I", true)
  | 26 => ("PieceMirrorModel", "wave", "[I", true)
  | 27 => ("PieceMirrorModel", "rest", "[I", true)
  | 28 => ("PieceMirrorModel", "reach", "I", false)
  | 29 => ("PieceMirrorModel", "partOf", "[I", true)
  | 30 => ("PieceMirrorModel", "lifts", "[I", true)
  | 31 => ("PieceMirrorModel", "firstLift", "[I", true)
  | 32 => ("PieceMirrorModel", "row", "[I", true)
  | 33 => ("PieceMirrorModel", "flaws", "[I", true)
  | 34 => ("PieceMirrorModel", "weighs", "[I", true)
  | 35 => ("PieceMirrorModel", "holeOf", "[I", true)
  | 36 => ("PieceMirrorModel", "bestHole", "[I", true)
  | 37 => ("PieceMirrorModel", "ages", "[I", true)
  | 38 => ("PieceMirrorModel", "loss", "I", false)
  | 39 => ("PieceMirrorModel", "tried", "[I", true)
  | 40 => ("PieceMirrorModel", "bestLight", "I", false)
  | _ => ("PieceMirrorModel", "bestCode", "I", false)
def tyX12 : Nat → FieldType := fun k => match k with
  | 0 => .int
  | 1 => .array .boolean
  | 2 => .array .int
  | 3 => .array .int
  | 4 => .int
  | 5 => .array .int
  | 6 => .array .int
  | 7 => .array .int
  | 8 => .array .int
  | 9 => .array .int
  | 10 => .array .boolean
  | 11 => .array .int
  | 12 => .array .int
  | 13 => .int
  | 14 => .array .long
  | 15 => .array .long
  | 16 => .int
  | 17 => .array .int
  | 18 => .array .int
  | 19 => .array .int
  | 20 => .array .int
  | 21 => .array .int
  | 22 => .array .int
  | 23 => .int
  | 24 => .array .int
  | 25 => .array .int
  | 26 => .array .int
  | 27 => .array .int
  | 28 => .int
  | 29 => .array .int
  | 30 => .array .int
  | 31 => .array .int
  | 32 => .array .int
  | 33 => .array .int
  | 34 => .array .int
  | 35 => .array .int
  | 36 => .array .int
  | 37 => .array .int
  | 38 => .int
  | 39 => .array .int
  | 40 => .int
  | _ => .int
def RC : Nat → String := fun c => match c with
  | 0 => RX0
  | 1 => RX1
  | 2 => RX2
  | 3 => RX3
  | 4 => RX4
  | 5 => RX5
  | 6 => RX6
  | 7 => RX7
  | 8 => RX8
  | 9 => RX9
  | 10 => RX10
  | 11 => RX11
  | _ => RX12
def TC : Nat → u_T := fun c => match c with
  | 0 => TX0
  | 1 => TX1
  | 2 => TX2
  | 3 => TX3
  | 4 => TX4
  | 5 => TX5
  | 6 => TX6
  | 7 => TX7
  | 8 => TX8
  | 9 => TX9
  | 10 => TX10
  | 11 => TX11
  | _ => TX12
def NC : Nat → Nat := fun c => match c with
  | 0 => 8
  | 1 => 6
  | 2 => 4
  | 3 => 8
  | 4 => 3
  | 5 => 8
  | 6 => 2
  | 7 => 3
  | 8 => 6
  | 9 => 6
  | 10 => 4
  | 11 => 17
  | _ => 42
def tyC : Nat → Nat → FieldType := fun c => match c with
  | 0 => tyX0
  | 1 => tyX1
  | 2 => tyX2
  | 3 => tyX3
  | 4 => tyX4
  | 5 => tyX5
  | 6 => tyX6
  | 7 => tyX7
  | 8 => tyX8
  | 9 => tyX9
  | 10 => tyX10
  | 11 => tyX11
  | _ => tyX12
def vwC : List vw_C := (List.range 13).map (fun c => (RC c, TC c, NC c))
def yX0_init : MethodName := ⟨RX0, "<init>", "(LPieceMirror$Piece;LPieceMirror$Piece;III)V"⟩
def yX0_works : MethodName := ⟨RX0, "works", "()Z"⟩
def yX0_counts : MethodName := ⟨RX0, "counts", "()Z"⟩
def yX0_isAt : MethodName := ⟨RX0, "isAt", "(I)Z"⟩
def yX0_told : MethodName := ⟨RX0, "told", "()I"⟩
def yX0_seesWishes : MethodName := ⟨RX0, "seesWishes", "()Z"⟩
def yX1_init : MethodName := ⟨RX1, "<init>", "(IIIII)V"⟩
def yX1_hinders : MethodName := ⟨RX1, "hinders", "(LPieceMirror$Plane;)Z"⟩
def yX2_init : MethodName := ⟨RX2, "<init>", "(LPieceMirror$Piece;LPieceMirror$Piece;II)V"⟩
def yX2_isIn : MethodName := ⟨RX2, "isIn", "()Z"⟩
def yX2_allows : MethodName := ⟨RX2, "allows", "(I)Z"⟩
def yX3_init : MethodName := ⟨RX3, "<init>", "(I)V"⟩
def yX3_costIn : MethodName := ⟨RX3, "costIn", "(LPieceMirror$Piece;)I"⟩
def yX3_wayTo : MethodName := ⟨RX3, "wayTo", "(II)I"⟩
def yX4_init : MethodName := ⟨RX4, "<init>", "()V"⟩
def yX4_become : MethodName := ⟨RX4, "become", "(III)V"⟩
def yX4_heightAt : MethodName := ⟨RX4, "heightAt", "(II)I"⟩
def yX5_init : MethodName := ⟨RX5, "<init>", "()V"⟩
def yX5_best : MethodName := ⟨RX5, "best", "([LPieceMirror$Piece;III)I"⟩
def yX5_coatedIn : MethodName := ⟨RX5, "coatedIn", "(I)I"⟩
def yX5_follow : MethodName := ⟨RX5, "follow", "(II)V"⟩
def yX5_lightOf : MethodName := ⟨RX5, "lightOf", "(II)I"⟩
def yX6_init : MethodName := ⟨RX6, "<init>", "()V"⟩
def yX6_clear : MethodName := ⟨RX6, "clear", "()V"⟩
def yX6_addEye : MethodName := ⟨RX6, "addEye", "(LPieceMirror$Eye;I)V"⟩
def yX6_add : MethodName := ⟨RX6, "add", "(IIIII)V"⟩
def yX6_addPoint : MethodName := ⟨RX6, "addPoint", "(IIII)V"⟩
def yX6_rank : MethodName := ⟨RX6, "rank", "()I"⟩
def yX6_agrees : MethodName := ⟨RX6, "agrees", "()Z"⟩
def yX7_init : MethodName := ⟨RX7, "<init>", "()V"⟩
def yX7_near : MethodName := ⟨RX7, "near", "([LPieceMirror$Piece;IIII)I"⟩
def yX7_search : MethodName := ⟨RX7, "search", "([LPieceMirror$Piece;II)V"⟩
def yX7_take : MethodName := ⟨RX7, "take", "(III)V"⟩
def yX7_rootOf : MethodName := ⟨RX7, "rootOf", "(I)I"⟩
def yX8_init : MethodName := ⟨RX8, "<init>", "(I)V"⟩
def yX8_clear : MethodName := ⟨RX8, "clear", "()V"⟩
def yX8_add : MethodName := ⟨RX8, "add", "([I)V"⟩
def yX8_fill : MethodName := ⟨RX8, "fill", "(I)V"⟩
def yX8_takeOff : MethodName := ⟨RX8, "takeOff", "([II)V"⟩
def yX9_init : MethodName := ⟨RX9, "<init>", "()V"⟩
def yX9_begin : MethodName := ⟨RX9, "begin", "([LPieceMirror$Piece;II)V"⟩
def yX9_admit : MethodName := ⟨RX9, "\x61dmit", "(LPieceMirror$Pair;)V"⟩
def yX9_waysUpTo : MethodName := ⟨RX9, "waysUpTo", "(I)I"⟩
def yX9_firstOf : MethodName := ⟨RX9, "firstOf", "(I)I"⟩
def yX9_restrict : MethodName := ⟨RX9, "restrict", "(III)Z"⟩
def yX9_turned : MethodName := ⟨RX9, "turned", "(I)I"⟩
def yX9_settleByThirds : MethodName := ⟨RX9, "settleByThirds", "()Z"⟩
def yX9_sums : MethodName := ⟨RX9, "sums", "(II)I"⟩
def yX9_join : MethodName := ⟨RX9, "join", "(I)V"⟩
def yX9_narrow : MethodName := ⟨RX9, "narrow", "(II)Z"⟩
def yX10_init : MethodName := ⟨RX10, "<init>", "()V"⟩
def yX10_best : MethodName := ⟨RX10, "best", "([LPieceMirror$Piece;I)I"⟩
def yX10_holeOf : MethodName := ⟨RX10, "holeOf", "(I)I"⟩
def yX10_firstBest : MethodName := ⟨RX10, "firstBest", "(I)I"⟩
def yX10_costWith : MethodName := ⟨RX10, "costWith", "(II)I"⟩
def yX11_init : MethodName := ⟨RX11, "<init>", "()V"⟩
def yX11_piece : MethodName := ⟨RX11, "piece", "()I"⟩
def yX11_put : MethodName := ⟨RX11, "put", "(IZ)I"⟩
def yX11_wish : MethodName := ⟨RX11, "wish", "(IIII)I"⟩
def yX11_about : MethodName := ⟨RX11, "about", "(II)I"⟩
def yX11_eye : MethodName := ⟨RX11, "eye", "(IIIII)I"⟩
def yX11_blind : MethodName := ⟨RX11, "blind", "(IZ)I"⟩
def yX11_drift : MethodName := ⟨RX11, "drift", "(II)I"⟩
def yX11_tells : MethodName := ⟨RX11, "tells", "(I)I"⟩
def yX11_moves : MethodName := ⟨RX11, "moves", "(Z)I"⟩
def yX11_unseen : MethodName := ⟨RX11, "unseen", "()I"⟩
def yX11_needed : MethodName := ⟨RX11, "needed", "(I)I"⟩
def yX11_cheapest : MethodName := ⟨RX11, "cheapest", "()I"⟩
def yX11_keep : MethodName := ⟨RX11, "keep", "(I)I"⟩
def yX11_sure : MethodName := ⟨RX11, "sure", "(IIII)I"⟩
def yX11_without : MethodName := ⟨RX11, "without", "(I)I"⟩
def yX11_read : MethodName := ⟨RX11, "read", "(II)I"⟩
def yX11_readAll : MethodName := ⟨RX11, "readAll", "()I"⟩
def yX11_agree : MethodName := ⟨RX11, "agree", "()I"⟩
def yX11_liars : MethodName := ⟨RX11, "liars", "()I"⟩
def yX11_liar : MethodName := ⟨RX11, "liar", "(I)I"⟩
def yX11_leg : MethodName := ⟨RX11, "leg", "(IIIII)I"⟩
def yX11_stick : MethodName := ⟨RX11, "stick", "(II)I"⟩
def yX11_bars : MethodName := ⟨RX11, "bars", "(I)I"⟩
def yX11_set : MethodName := ⟨RX11, "set", "(I)I"⟩
def yX11_pair : MethodName := ⟨RX11, "pair", "(IIII)I"⟩
def yX11_drop : MethodName := ⟨RX11, "drop", "(I)I"⟩
def yX11_reach : MethodName := ⟨RX11, "reach", "(I)I"⟩
def yX11_ways : MethodName := ⟨RX11, "ways", "()I"⟩
def yX11_lift : MethodName := ⟨RX11, "lift", "(I)I"⟩
def yX11_quarrel : MethodName := ⟨RX11, "quarrel", "()I"⟩
def yX11_flaw : MethodName := ⟨RX11, "flaw", "(III)I"⟩
def yX11_weigh : MethodName := ⟨RX11, "weigh", "(III)I"⟩
def yX11_costs : MethodName := ⟨RX11, "costs", "(II)I"⟩
def yX11_swap : MethodName := ⟨RX11, "swap", "()I"⟩
def yX11_hole : MethodName := ⟨RX11, "hole", "(I)I"⟩
def yX11_age : MethodName := ⟨RX11, "age", "(II)I"⟩
def yX11_loss : MethodName := ⟨RX11, "loss", "(I)I"⟩
def yX11_plan : MethodName := ⟨RX11, "plan", "(I)I"⟩
def yX11_coat : MethodName := ⟨RX11, "coat", "(II)I"⟩
def yX11_light : MethodName := ⟨RX11, "light", "(III)I"⟩
def yX11_focus : MethodName := ⟨RX11, "focus", "(II)I"⟩
def yX11_count : MethodName := ⟨RX11, "count", "(I)I"⟩
def yX11_oneIf : MethodName := ⟨RX11, "oneIf", "(Z)I"⟩
def yX11_beyond : MethodName := ⟨RX11, "beyond", "(II)Z"⟩
def yX11_noPoint : MethodName := ⟨RX11, "noPoint", "(II)Z"⟩
def yX11_pieceOf : MethodName := ⟨RX11, "pieceOf", "(I)LPieceMirror$Piece;"⟩
def yX11_eyeOf : MethodName := ⟨RX11, "eyeOf", "(I)LPieceMirror$Eye;"⟩
def yX11_listedAt : MethodName := ⟨RX11, "listedAt", "(I)I"⟩
def yX11_countIn : MethodName := ⟨RX11, "countIn", "()I"⟩
def yX11_countWorking : MethodName := ⟨RX11, "countWorking", "()I"⟩
def yX11_countReadings : MethodName := ⟨RX11, "countReadings", "()I"⟩
def yX11_rankWithout : MethodName := ⟨RX11, "rankWithout", "(II)I"⟩
def yX11_agreesWithout : MethodName := ⟨RX11, "agreesWithout", "(I)Z"⟩
def yX11_listCheapest : MethodName := ⟨RX11, "listCheapest", "()I"⟩
def yX11_listLiars : MethodName := ⟨RX11, "listLiars", "()V"⟩
def yX11_list : MethodName := ⟨RX11, "list", "(I)V"⟩
def yX11_barOf : MethodName := ⟨RX11, "barOf", "(LPieceMirror$Piece;)I"⟩
def yX11_joinAll : MethodName := ⟨RX11, "joinAll", "()V"⟩
def yX12_init : MethodName := ⟨RX12, "<init>", "()V"⟩
def yX12_in : MethodName := ⟨RX12, "in", "(JJJ)Z"⟩
def yX12_isPiece : MethodName := ⟨RX12, "isPiece", "(I)Z"⟩
def yX12_inMany : MethodName := ⟨RX12, "inMany", "()I"⟩
def yX12_piece : MethodName := ⟨RX12, "piece", "()I"⟩
def yX12_put : MethodName := ⟨RX12, "put", "(IZ)I"⟩
def yX12_wish : MethodName := ⟨RX12, "wish", "(IIII)I"⟩
def yX12_about : MethodName := ⟨RX12, "about", "(II)I"⟩
def yX12_planeHeight : MethodName := ⟨RX12, "planeHeight", "(III)I"⟩
def yX12_wishHeight : MethodName := ⟨RX12, "wishHeight", "(III)I"⟩
def yX12_isEye : MethodName := ⟨RX12, "isEye", "(I)Z"⟩
def yX12_isPoint : MethodName := ⟨RX12, "isPoint", "(II)Z"⟩
def yX12_works : MethodName := ⟨RX12, "works", "(I)Z"⟩
def yX12_eye : MethodName := ⟨RX12, "eye", "(IIIII)I"⟩
def yX12_blind : MethodName := ⟨RX12, "blind", "(IZ)I"⟩
def yX12_drift : MethodName := ⟨RX12, "drift", "(II)I"⟩
def yX12_tellsOf : MethodName := ⟨RX12, "tellsOf", "(I)I"⟩
def yX12_tells : MethodName := ⟨RX12, "tells", "(I)I"⟩
def yX12_addRow : MethodName := ⟨RX12, "addRow", "(IIIIJ)V"⟩
def yX12_power : MethodName := ⟨RX12, "power", "(JJJ)J"⟩
def yX12_rankBy : MethodName := ⟨RX12, "rankBy", "(JI)I"⟩
def yX12_exchange : MethodName := ⟨RX12, "exchange", "(II)V"⟩
def yX12_clearBelow : MethodName := ⟨RX12, "clearBelow", "(IIJ)V"⟩
def yX12_rank : MethodName := ⟨RX12, "rank", "(I)I"⟩
def yX12_layRows : MethodName := ⟨RX12, "layRows", "(IZ)V"⟩
def yX12_rankOf : MethodName := ⟨RX12, "rankOf", "(I)I"⟩
def yX12_moves : MethodName := ⟨RX12, "moves", "(Z)I"⟩
def yX12_unseen : MethodName := ⟨RX12, "unseen", "()I"⟩
def yX12_needed : MethodName := ⟨RX12, "needed", "(I)I"⟩
def yX12_bestEyes : MethodName := ⟨RX12, "bestEyes", "()I"⟩
def yX12_cheapest : MethodName := ⟨RX12, "cheapest", "()I"⟩
def yX12_nth : MethodName := ⟨RX12, "nth", "(II)I"⟩
def yX12_keep : MethodName := ⟨RX12, "keep", "(I)I"⟩
def yX12_sure : MethodName := ⟨RX12, "sure", "(IIII)I"⟩
def yX12_without : MethodName := ⟨RX12, "without", "(I)I"⟩
def yX12_read : MethodName := ⟨RX12, "read", "(II)I"⟩
def yX12_readAll : MethodName := ⟨RX12, "readAll", "()I"⟩
def yX12_agrees : MethodName := ⟨RX12, "agrees", "(I)Z"⟩
def yX12_agree : MethodName := ⟨RX12, "agree", "()I"⟩
def yX12_liarSet : MethodName := ⟨RX12, "liarSet", "()I"⟩
def yX12_liars : MethodName := ⟨RX12, "liars", "()I"⟩
def yX12_liar : MethodName := ⟨RX12, "liar", "(I)I"⟩
def yX12_leg : MethodName := ⟨RX12, "leg", "(IIIII)I"⟩
def yX12_stick : MethodName := ⟨RX12, "stick", "(II)I"⟩
def yX12_barOf : MethodName := ⟨RX12, "barOf", "(I)I"⟩
def yX12_bars : MethodName := ⟨RX12, "bars", "(I)I"⟩
def yX12_set : MethodName := ⟨RX12, "set", "(I)I"⟩
def yX12_pair : MethodName := ⟨RX12, "pair", "(IIII)I"⟩
def yX12_drop : MethodName := ⟨RX12, "drop", "(I)I"⟩
def yX12_reach : MethodName := ⟨RX12, "reach", "(I)I"⟩
def yX12_isPaired : MethodName := ⟨RX12, "isPaired", "(I)Z"⟩
def yX12_firstIn : MethodName := ⟨RX12, "firstIn", "()I"⟩
def yX12_layPartsBy : MethodName := ⟨RX12, "layPartsBy", "(I)V"⟩
def yX12_fits : MethodName := ⟨RX12, "fits", "(II)Z"⟩
def yX12_waysOf : MethodName := ⟨RX12, "waysOf", "(II)I"⟩
def yX12_waysBy : MethodName := ⟨RX12, "waysBy", "(I)I"⟩
def yX12_ways : MethodName := ⟨RX12, "ways", "()I"⟩
def yX12_lift : MethodName := ⟨RX12, "lift", "(I)I"⟩
def yX12_quarrel : MethodName := ⟨RX12, "quarrel", "()I"⟩
def yX12_flaw : MethodName := ⟨RX12, "flaw", "(III)I"⟩
def yX12_weigh : MethodName := ⟨RX12, "weigh", "(III)I"⟩
def yX12_costOf : MethodName := ⟨RX12, "costOf", "(II)I"⟩
def yX12_costs : MethodName := ⟨RX12, "costs", "(II)I"⟩
def yX12_laySwap : MethodName := ⟨RX12, "laySwap", "()I"⟩
def yX12_swap : MethodName := ⟨RX12, "swap", "()I"⟩
def yX12_hole : MethodName := ⟨RX12, "hole", "(I)I"⟩
def yX12_age : MethodName := ⟨RX12, "age", "(II)I"⟩
def yX12_loss : MethodName := ⟨RX12, "loss", "(I)I"⟩
def yX12_digit : MethodName := ⟨RX12, "digit", "(III)I"⟩
def yX12_lightBy : MethodName := ⟨RX12, "lightBy", "(II)I"⟩
def yX12_layPlan : MethodName := ⟨RX12, "layPlan", "(I)V"⟩
def yX12_plan : MethodName := ⟨RX12, "plan", "(I)I"⟩
def yX12_coat : MethodName := ⟨RX12, "coat", "(II)I"⟩
def yX12_lightAt : MethodName := ⟨RX12, "lightAt", "(III)I"⟩
def yX12_light : MethodName := ⟨RX12, "light", "(III)I"⟩
def yX12_focus : MethodName := ⟨RX12, "focus", "(II)I"⟩
def yX12_count : MethodName := ⟨RX12, "count", "(I)I"⟩
def yJ6_bitCount_0f7a4 : MethodName := ⟨RJ6, "bitCount", "(I)I"⟩
def yJ9_floorMod_7cf53 : MethodName := ⟨RJ9, "floorMod", "(II)I"⟩
def yJ9_abs_0f7a4 : MethodName := ⟨RJ9, "abs", "(I)I"⟩
def yJ9_max_7cf53 : MethodName := ⟨RJ9, "max", "(II)I"⟩
def yJ9_min_7cf53 : MethodName := ⟨RJ9, "min", "(II)I"⟩
def yL_law : MethodName := ⟨RL, "law", "([I)Z"⟩
theorem tyC_ok : ∀ c, c < 13 → ∀ k, k < NC c → parseFieldDescriptor (TC c k).2.2.1 = some (tyC c k) := by decide +kernel
theorem nmC_ok : ∀ c, c < 13 → ∀ a, a < NC c → ∀ b, b < NC c → a ≠ b → (TC c a).2.1 ≠ (TC c b).2.1 := by decide +kernel
theorem dcC_ok : ∀ c, c < 13 → ∀ k, k < NC c → (TC c k).1 = RC c := by decide +kernel
def tbG : List Jvm.Cond := lw_tbl.filter goodWord
theorem tb_in {w : Jvm.Cond} (i : Nat) (h : lw_tbl[i]? = some w) (hg : goodWord w = true) : w ∈ tbG := List.mem_filter.mpr ⟨List.mem_of_getElem? h, hg⟩
theorem uw_0 : ∀ w ∈ u_ws (RC 0) (TC 0) (NC 0), w ∈ tbG := by
  have h : u_ws (RC 0) (TC 0) (NC 0) = [422, 424, 426, 428, 430, 432, 434, 436].filterMap (fun i => lw_tbl[i]?) := by decide +kernel
  have hg : (u_ws (RC 0) (TC 0) (NC 0)).all goodWord = true := by decide +kernel
  intro w hw
  have g := List.all_eq_true.mp hg w hw
  rw [h] at hw
  obtain ⟨j, -, hj⟩ := List.mem_filterMap.mp hw
  exact tb_in j hj g
theorem uw_1 : ∀ w ∈ u_ws (RC 1) (TC 1) (NC 1), w ∈ tbG := by
  have h : u_ws (RC 1) (TC 1) (NC 1) = [624, 626, 628, 630, 632, 634].filterMap (fun i => lw_tbl[i]?) := by decide +kernel
  have hg : (u_ws (RC 1) (TC 1) (NC 1)).all goodWord = true := by decide +kernel
  intro w hw
  have g := List.all_eq_true.mp hg w hw
  rw [h] at hw
  obtain ⟨j, -, hj⟩ := List.mem_filterMap.mp hw
  exact tb_in j hj g
theorem uw_2 : ∀ w ∈ u_ws (RC 2) (TC 2) (NC 2), w ∈ tbG := by
  have h : u_ws (RC 2) (TC 2) (NC 2) = [674, 676, 678, 680].filterMap (fun i => lw_tbl[i]?) := by decide +kernel
  have hg : (u_ws (RC 2) (TC 2) (NC 2)).all goodWord = true := by decide +kernel
  intro w hw
  have g := List.all_eq_true.mp hg w hw
  rw [h] at hw
  obtain ⟨j, -, hj⟩ := List.mem_filterMap.mp hw
  exact tb_in j hj g
theorem uw_3 : ∀ w ∈ u_ws (RC 3) (TC 3) (NC 3), w ∈ tbG := by
  have h : u_ws (RC 3) (TC 3) (NC 3) = [347, 349, 351, 353, 355, 357, 359, 361].filterMap (fun i => lw_tbl[i]?) := by decide +kernel
  have hg : (u_ws (RC 3) (TC 3) (NC 3)).all goodWord = true := by decide +kernel
  intro w hw
  have g := List.all_eq_true.mp hg w hw
  rw [h] at hw
  obtain ⟨j, -, hj⟩ := List.mem_filterMap.mp hw
  exact tb_in j hj g
theorem uw_4 : ∀ w ∈ u_ws (RC 4) (TC 4) (NC 4), w ∈ tbG := by
  have h : u_ws (RC 4) (TC 4) (NC 4) = [312, 314, 316].filterMap (fun i => lw_tbl[i]?) := by decide +kernel
  have hg : (u_ws (RC 4) (TC 4) (NC 4)).all goodWord = true := by decide +kernel
  intro w hw
  have g := List.all_eq_true.mp hg w hw
  rw [h] at hw
  obtain ⟨j, -, hj⟩ := List.mem_filterMap.mp hw
  exact tb_in j hj g
theorem uw_5 : ∀ w ∈ u_ws (RC 5) (TC 5) (NC 5), w ∈ tbG := by
  have h : u_ws (RC 5) (TC 5) (NC 5) = [198, 200, 202, 204, 206, 208, 210, 212].filterMap (fun i => lw_tbl[i]?) := by decide +kernel
  have hg : (u_ws (RC 5) (TC 5) (NC 5)).all goodWord = true := by decide +kernel
  intro w hw
  have g := List.all_eq_true.mp hg w hw
  rw [h] at hw
  obtain ⟨j, -, hj⟩ := List.mem_filterMap.mp hw
  exact tb_in j hj g
theorem uw_6 : ∀ w ∈ u_ws (RC 6) (TC 6) (NC 6), w ∈ tbG := by
  have h : u_ws (RC 6) (TC 6) (NC 6) = [133, 135].filterMap (fun i => lw_tbl[i]?) := by decide +kernel
  have hg : (u_ws (RC 6) (TC 6) (NC 6)).all goodWord = true := by decide +kernel
  intro w hw
  have g := List.all_eq_true.mp hg w hw
  rw [h] at hw
  obtain ⟨j, -, hj⟩ := List.mem_filterMap.mp hw
  exact tb_in j hj g
theorem uw_7 : ∀ w ∈ u_ws (RC 7) (TC 7) (NC 7), w ∈ tbG := by
  have h : u_ws (RC 7) (TC 7) (NC 7) = [227, 229, 231].filterMap (fun i => lw_tbl[i]?) := by decide +kernel
  have hg : (u_ws (RC 7) (TC 7) (NC 7)).all goodWord = true := by decide +kernel
  intro w hw
  have g := List.all_eq_true.mp hg w hw
  rw [h] at hw
  obtain ⟨j, -, hj⟩ := List.mem_filterMap.mp hw
  exact tb_in j hj g
theorem uw_8 : ∀ w ∈ u_ws (RC 8) (TC 8) (NC 8), w ∈ tbG := by
  have h : u_ws (RC 8) (TC 8) (NC 8) = [114, 116, 118, 120, 122, 124].filterMap (fun i => lw_tbl[i]?) := by decide +kernel
  have hg : (u_ws (RC 8) (TC 8) (NC 8)).all goodWord = true := by decide +kernel
  intro w hw
  have g := List.all_eq_true.mp hg w hw
  rw [h] at hw
  obtain ⟨j, -, hj⟩ := List.mem_filterMap.mp hw
  exact tb_in j hj g
theorem uw_9 : ∀ w ∈ u_ws (RC 9) (TC 9) (NC 9), w ∈ tbG := by
  have h : u_ws (RC 9) (TC 9) (NC 9) = [151, 153, 155, 157, 159, 161].filterMap (fun i => lw_tbl[i]?) := by decide +kernel
  have hg : (u_ws (RC 9) (TC 9) (NC 9)).all goodWord = true := by decide +kernel
  intro w hw
  have g := List.all_eq_true.mp hg w hw
  rw [h] at hw
  obtain ⟨j, -, hj⟩ := List.mem_filterMap.mp hw
  exact tb_in j hj g
theorem uw_10 : ∀ w ∈ u_ws (RC 10) (TC 10) (NC 10), w ∈ tbG := by
  have h : u_ws (RC 10) (TC 10) (NC 10) = [175, 177, 179, 181].filterMap (fun i => lw_tbl[i]?) := by decide +kernel
  have hg : (u_ws (RC 10) (TC 10) (NC 10)).all goodWord = true := by decide +kernel
  intro w hw
  have g := List.all_eq_true.mp hg w hw
  rw [h] at hw
  obtain ⟨j, -, hj⟩ := List.mem_filterMap.mp hw
  exact tb_in j hj g
theorem uw_11 : ∀ w ∈ u_ws (RC 11) (TC 11) (NC 11), w ∈ tbG := by
  have h : u_ws (RC 11) (TC 11) (NC 11) = [251, 253, 255, 257, 259, 261, 263, 265, 267, 269, 271, 273, 275, 277, 279, 281, 283].filterMap (fun i => lw_tbl[i]?) := by decide +kernel
  have hg : (u_ws (RC 11) (TC 11) (NC 11)).all goodWord = true := by decide +kernel
  intro w hw
  have g := List.all_eq_true.mp hg w hw
  rw [h] at hw
  obtain ⟨j, -, hj⟩ := List.mem_filterMap.mp hw
  exact tb_in j hj g
theorem uw_12 : ∀ w ∈ u_ws (RC 12) (TC 12) (NC 12), w ∈ tbG := by
  have h : u_ws (RC 12) (TC 12) (NC 12) = [932, 934, 936, 938, 940, 942, 944, 946, 948, 950, 952, 954, 956, 958, 960, 962, 964, 966, 968, 970, 972, 974, 976, 978, 980, 982, 984, 986, 988, 990, 992, 994, 996, 998, 1000, 1002, 1004, 1006, 1008, 1010, 1012, 1014].filterMap (fun i => lw_tbl[i]?) := by decide +kernel
  have hg : (u_ws (RC 12) (TC 12) (NC 12)).all goodWord = true := by decide +kernel
  intro w hw
  have g := List.all_eq_true.mp hg w hw
  rw [h] at hw
  obtain ⟨j, -, hj⟩ := List.mem_filterMap.mp hw
  exact tb_in j hj g
theorem uwC : ∀ c, c < 13 → ∀ w ∈ u_ws (RC c) (TC c) (NC c), w ∈ tbG := by
  intro c hc
  match c, hc with
  | 0, _ => exact uw_0
  | 1, _ => exact uw_1
  | 2, _ => exact uw_2
  | 3, _ => exact uw_3
  | 4, _ => exact uw_4
  | 5, _ => exact uw_5
  | 6, _ => exact uw_6
  | 7, _ => exact uw_7
  | 8, _ => exact uw_8
  | 9, _ => exact uw_9
  | 10, _ => exact uw_10
  | 11, _ => exact uw_11
  | 12, _ => exact uw_12
theorem vwC_at {c : Nat} (hc : c < 13) : vwC[c]? = some (RC c, TC c, NC c) := by
  unfold vwC; rw [List.getElem?_map, List.getElem?_range hc]; rfl
theorem in_0 : Jvm.Cond.instantiable (RC 0) (NC 0) ∈ tbG ∧ Jvm.Cond.initialized (RC 0) ∈ tbG := ⟨tb_in 400 (by decide +kernel) (by decide +kernel), tb_in 66 (by decide +kernel) (by decide +kernel)⟩
theorem in_1 : Jvm.Cond.instantiable (RC 1) (NC 1) ∈ tbG ∧ Jvm.Cond.initialized (RC 1) ∈ tbG := ⟨tb_in 608 (by decide +kernel) (by decide +kernel), tb_in 67 (by decide +kernel) (by decide +kernel)⟩
theorem in_2 : Jvm.Cond.instantiable (RC 2) (NC 2) ∈ tbG ∧ Jvm.Cond.initialized (RC 2) ∈ tbG := ⟨tb_in 662 (by decide +kernel) (by decide +kernel), tb_in 68 (by decide +kernel) (by decide +kernel)⟩
theorem in_3 : Jvm.Cond.instantiable (RC 3) (NC 3) ∈ tbG ∧ Jvm.Cond.initialized (RC 3) ∈ tbG := ⟨tb_in 291 (by decide +kernel) (by decide +kernel), tb_in 64 (by decide +kernel) (by decide +kernel)⟩
theorem in_4 : Jvm.Cond.instantiable (RC 4) (NC 4) ∈ tbG ∧ Jvm.Cond.initialized (RC 4) ∈ tbG := ⟨tb_in 297 (by decide +kernel) (by decide +kernel), tb_in 65 (by decide +kernel) (by decide +kernel)⟩
theorem in_5 : Jvm.Cond.instantiable (RC 5) (NC 5) ∈ tbG ∧ Jvm.Cond.initialized (RC 5) ∈ tbG := ⟨tb_in 185 (by decide +kernel) (by decide +kernel), tb_in 61 (by decide +kernel) (by decide +kernel)⟩
theorem in_6 : Jvm.Cond.instantiable (RC 6) (NC 6) ∈ tbG ∧ Jvm.Cond.initialized (RC 6) ∈ tbG := ⟨tb_in 88 (by decide +kernel) (by decide +kernel), tb_in 56 (by decide +kernel) (by decide +kernel)⟩
theorem in_7 : Jvm.Cond.instantiable (RC 7) (NC 7) ∈ tbG ∧ Jvm.Cond.initialized (RC 7) ∈ tbG := ⟨tb_in 216 (by decide +kernel) (by decide +kernel), tb_in 62 (by decide +kernel) (by decide +kernel)⟩
theorem in_8 : Jvm.Cond.instantiable (RC 8) (NC 8) ∈ tbG ∧ Jvm.Cond.initialized (RC 8) ∈ tbG := ⟨tb_in 95 (by decide +kernel) (by decide +kernel), tb_in 57 (by decide +kernel) (by decide +kernel)⟩
theorem in_9 : Jvm.Cond.instantiable (RC 9) (NC 9) ∈ tbG ∧ Jvm.Cond.initialized (RC 9) ∈ tbG := ⟨tb_in 139 (by decide +kernel) (by decide +kernel), tb_in 59 (by decide +kernel) (by decide +kernel)⟩
theorem in_10 : Jvm.Cond.instantiable (RC 10) (NC 10) ∈ tbG ∧ Jvm.Cond.initialized (RC 10) ∈ tbG := ⟨tb_in 165 (by decide +kernel) (by decide +kernel), tb_in 60 (by decide +kernel) (by decide +kernel)⟩
theorem in_11 : Jvm.Cond.instantiable (RC 11) (NC 11) ∈ tbG ∧ Jvm.Cond.initialized (RC 11) ∈ tbG := ⟨tb_in 72 (by decide +kernel) (by decide +kernel), tb_in 55 (by decide +kernel) (by decide +kernel)⟩
theorem in_12 : Jvm.Cond.instantiable (RC 12) (NC 12) ∈ tbG ∧ Jvm.Cond.initialized (RC 12) ∈ tbG := ⟨tb_in 885 (by decide +kernel) (by decide +kernel), tb_in 63 (by decide +kernel) (by decide +kernel)⟩
theorem inC : ∀ c, c < 13 → Jvm.Cond.instantiable (RC c) (NC c) ∈ tbG ∧ Jvm.Cond.initialized (RC c) ∈ tbG := by
  intro c hc
  match c, hc with
  | 0, _ => exact in_0
  | 1, _ => exact in_1
  | 2, _ => exact in_2
  | 3, _ => exact in_3
  | 4, _ => exact in_4
  | 5, _ => exact in_5
  | 6, _ => exact in_6
  | 7, _ => exact in_7
  | 8, _ => exact in_8
  | 9, _ => exact in_9
  | 10, _ => exact in_10
  | 11, _ => exact in_11
  | 12, _ => exact in_12
theorem ac_int : Jvm.Cond.arrayClass .int ∈ tbG := tb_in 127 (by decide +kernel) (by decide +kernel)
theorem ac_boolean : Jvm.Cond.arrayClass .boolean ∈ tbG := tb_in 128 (by decide +kernel) (by decide +kernel)
theorem ac_long : Jvm.Cond.arrayClass .long ∈ tbG := tb_in 1017 (by decide +kernel) (by decide +kernel)
