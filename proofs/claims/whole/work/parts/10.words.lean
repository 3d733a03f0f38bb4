/-! ===== BEGIN words of one list among another's, by their places ===== -/
theorem goodIn_r {big : List Cond} (ws : List Cond) (ps : List Nat) (hp : ws = ps.filterMap (fun i => big[i]?)) (h : ws.all goodWord = true) : GoodIn big ws := by
  intro w hw
  have h1 := List.all_eq_true.mp h w hw
  rw [hp] at hw
  obtain ⟨i, -, hi⟩ := List.mem_filterMap.mp hw
  have hm : w ∈ big := by first | exact List.mem_of_getElem? hi | exact List.getElem?_mem hi
  exact ⟨hm, good_of_word h1⟩
theorem goodIn_app {big a b : List Cond} (ha : GoodIn big a) (hb : GoodIn big b) : GoodIn big (a ++ b) := fun w h => (List.mem_append.mp h).elim (ha w) (hb w)
theorem goodIn_ca {big a b : List Cond} {c : Cond} (ha : GoodIn big (c :: a)) (hb : GoodIn big b) : GoodIn big (c :: (a ++ b)) := fun w h => (List.mem_cons.mp h).elim (fun e => ha w (List.mem_cons.mpr (Or.inl e))) (fun h => (List.mem_append.mp h).elim (fun h => ha w (List.mem_cons.mpr (Or.inr h))) (hb w))
theorem goodIn_sub {big ws : List Cond} (hm : ∀ w ∈ ws, w ∈ big) (h : ws.all goodWord = true) : GoodIn big ws := fun w hw => ⟨hm w hw, good_of_word (List.all_eq_true.mp h w hw)⟩
/-! ===== END ===== -/

/-- the class of arrays over arrays of ty is there -/
def va_AOA (ty : FieldType) (U : State) : Prop := (Cond.arrayOver (.array ty)).before #[] U = true
theorem va_AOA.use {ty : FieldType} {A : Array Value} {U : State} (h : va_AOA ty U) : (Cond.arrayOver (.array ty)).before A U = true := h

/-! ===== BEGIN printed: names, fields, word lists, decode rows ===== -/
def RX0 : String := "NetShapes$Balance"
def TX0 : u_T := fun k => match k with
  | 0 => ("NetShapes$Balance", "nodes", "LNetShapes$Nodes;", true)
  | 1 => ("NetShapes$Balance", "bars", "LNetShapes$Bars;", true)
  | 2 => ("NetShapes$Balance", "water", "LNetShapes$Water;", true)
  | 3 => ("NetShapes$Balance", "drags", "[D", true)
  | 4 => ("NetShapes$Balance", "greatestForce", "D", false)
  | 5 => ("NetShapes$Balance", "span", "[D", true)
  | _ => ("NetShapes$Balance", "acrossFlow", "[D", true)
def tyX0 : Nat → FieldType := fun k => match k with
  | 0 => .object "NetShapes$Nodes"
  | 1 => .object "NetShapes$Bars"
  | 2 => .object "NetShapes$Water"
  | 3 => .array .double
  | 4 => .double
  | 5 => .array .double
  | _ => .array .double
abbrev wsX00 : List Cond := u_ws RX0 TX0 7
theorem nmX0 : ∀ a, a < 7 → ∀ b, b < 7 → a ≠ b → (TX0 a).2.1 ≠ (TX0 b).2.1 := by decide +kernel
theorem tyX0_ok : ∀ k, k < 7 → parseFieldDescriptor (TX0 k).2.2.1 = some (tyX0 k) := by decide +kernel
abbrev cX0_init : ByteArray := prog_2_method_1_code
def yX0_init : MethodName := ⟨RX0, "<init>", "(LNetShapes$Nodes;LNetShapes$Bars;LNetShapes$Water;)V"⟩
abbrev cX0_comesInRound : ByteArray := prog_2_method_2_code
def yX0_comesInRound : MethodName := ⟨RX0, "comesInRound", "()Z"⟩
abbrev cX0_measure : ByteArray := prog_2_method_3_code
def yX0_measure : MethodName := ⟨RX0, "measure", "(I)D"⟩
abbrev cX0_lengthOf : ByteArray := prog_2_method_4_code
def yX0_lengthOf : MethodName := ⟨RX0, "lengthOf", "([D)D"⟩
abbrev cX0_tighten : ByteArray := prog_2_method_5_code
def yX0_tighten : MethodName := ⟨RX0, "tighten", "(ID)V"⟩
abbrev cX0_wash : ByteArray := prog_2_method_6_code
def yX0_wash : MethodName := ⟨RX0, "wash", "(ID)V"⟩
abbrev cX0_findFlowAcross : ByteArray := prog_2_method_7_code
def yX0_findFlowAcross : MethodName := ⟨RX0, "findFlowAcross", "(ID)V"⟩
def RX1 : String := "NetShapes$Bars"
def TX1 : u_T := fun k => match k with
  | 0 => ("NetShapes$Bars", "from", "[I", true)
  | 1 => ("NetShapes$Bars", "to", "[I", true)
  | 2 => ("NetShapes$Bars", "length", "[D", true)
  | 3 => ("NetShapes$Bars", "width", "[D", true)
  | 4 => ("NetShapes$Bars", "strength", "[D", true)
  | 5 => ("NetShapes$Bars", "pulls", "[D", true)
  | _ => ("NetShapes$Bars", "count", "I", false)
def tyX1 : Nat → FieldType := fun k => match k with
  | 0 => .array .int
  | 1 => .array .int
  | 2 => .array .double
  | 3 => .array .double
  | 4 => .array .double
  | 5 => .array .double
  | _ => .int
abbrev wsX10 : List Cond := u_ws RX1 TX1 7
theorem nmX1 : ∀ a, a < 7 → ∀ b, b < 7 → a ≠ b → (TX1 a).2.1 ≠ (TX1 b).2.1 := by decide +kernel
theorem tyX1_ok : ∀ k, k < 7 → parseFieldDescriptor (TX1 k).2.2.1 = some (tyX1 k) := by decide +kernel
abbrev cX1_init : ByteArray := prog_3_method_1_code
def yX1_init : MethodName := ⟨RX1, "<init>", "()V"⟩
abbrev cX1_has : ByteArray := prog_3_method_2_code
def yX1_has : MethodName := ⟨RX1, "has", "(I)Z"⟩
abbrev cX1_add : ByteArray := prog_3_method_3_code
def yX1_add : MethodName := ⟨RX1, "add", "(IIDDD)I"⟩
abbrev cX1_overloaded : ByteArray := prog_3_method_4_code
def yX1_overloaded : MethodName := ⟨RX1, "overloaded", "(I)I"⟩
def RX2 : String := "NetShapes$Fuels"
def TX2 : u_T := fun k => match k with
  | 0 => ("NetShapes$Fuels", "kept", "[D", true)
  | 1 => ("NetShapes$Fuels", "count", "I", false)
  | _ => ("NetShapes$Fuels", "next", "I", false)
def tyX2 : Nat → FieldType := fun k => match k with
  | 0 => .array .double
  | 1 => .int
  | _ => .int
abbrev wsX20 : List Cond := u_ws RX2 TX2 3
theorem nmX2 : ∀ a, a < 3 → ∀ b, b < 3 → a ≠ b → (TX2 a).2.1 ≠ (TX2 b).2.1 := by decide +kernel
theorem tyX2_ok : ∀ k, k < 3 → parseFieldDescriptor (TX2 k).2.2.1 = some (tyX2 k) := by decide +kernel
abbrev cX2_init : ByteArray := prog_4_method_1_code
def yX2_init : MethodName := ⟨RX2, "<init>", "()V"⟩
abbrev cX2_add : ByteArray := prog_4_method_2_code
def yX2_add : MethodName := ⟨RX2, "add", "(D)V"⟩
abbrev cX2_leastOfLatest : ByteArray := prog_4_method_3_code
def yX2_leastOfLatest : MethodName := ⟨RX2, "leastOfLatest", "(I)I"⟩
abbrev cX2_backwards : ByteArray := prog_4_method_4_code
def yX2_backwards : MethodName := ⟨RX2, "backwards", "(I)D"⟩
def RX3 : String := "NetShapes$Nodes"
def TX3 : u_T := fun k => match k with
  | 0 => ("NetShapes$Nodes", "places", "[[D", true)
  | 1 => ("NetShapes$Nodes", "forces", "[[D", true)
  | 2 => ("NetShapes$Nodes", "lift", "[D", true)
  | 3 => ("NetShapes$Nodes", "load", "[D", true)
  | 4 => ("NetShapes$Nodes", "fixed", "[Z", true)
  | _ => ("NetShapes$Nodes", "count", "I", false)
def tyX3 : Nat → FieldType := fun k => match k with
  | 0 => .array (.array .double)
  | 1 => .array (.array .double)
  | 2 => .array .double
  | 3 => .array .double
  | 4 => .array .boolean
  | _ => .int
abbrev wsX30 : List Cond := u_ws RX3 TX3 6
theorem nmX3 : ∀ a, a < 6 → ∀ b, b < 6 → a ≠ b → (TX3 a).2.1 ≠ (TX3 b).2.1 := by decide +kernel
theorem tyX3_ok : ∀ k, k < 6 → parseFieldDescriptor (TX3 k).2.2.1 = some (tyX3 k) := by decide +kernel
abbrev cX3_init : ByteArray := prog_5_method_1_code
def yX3_init : MethodName := ⟨RX3, "<init>", "()V"⟩
abbrev cX3_has : ByteArray := prog_5_method_2_code
def yX3_has : MethodName := ⟨RX3, "has", "(I)Z"⟩
abbrev cX3_add : ByteArray := prog_5_method_3_code
def yX3_add : MethodName := ⟨RX3, "add", "(DDD)I"⟩
abbrev cX3_startForces : ByteArray := prog_5_method_4_code
def yX3_startForces : MethodName := ⟨RX3, "startForces", "()V"⟩
abbrev cX3_greatestForce : ByteArray := prog_5_method_5_code
def yX3_greatestForce : MethodName := ⟨RX3, "greatestForce", "()D"⟩
abbrev cX3_giveWay : ByteArray := prog_5_method_6_code
def yX3_giveWay : MethodName := ⟨RX3, "giveWay", "()V"⟩
abbrev cX3_stepFor : ByteArray := prog_5_method_7_code
def yX3_stepFor : MethodName := ⟨RX3, "stepFor", "(D)D"⟩
abbrev cX3_spread : ByteArray := prog_5_method_8_code
def yX3_spread : MethodName := ⟨RX3, "spread", "(I)D"⟩
abbrev cX3_hasMirrorImage : ByteArray := prog_5_method_9_code
def yX3_hasMirrorImage : MethodName := ⟨RX3, "hasMirrorImage", "(I)Z"⟩
def RX4 : String := "NetShapes$Panels"
def TX4 : u_T := fun k => match k with
  | 0 => ("NetShapes$Panels", "top", "[I", true)
  | 1 => ("NetShapes$Panels", "bottom", "[I", true)
  | 2 => ("NetShapes$Panels", "deep", "[I", true)
  | 3 => ("NetShapes$Panels", "across", "[I", true)
  | 4 => ("NetShapes$Panels", "down", "[I", true)
  | 5 => ("NetShapes$Panels", "count", "I", false)
  | 6 => ("NetShapes$Panels", "shelfUsed", "I", false)
  | 7 => ("NetShapes$Panels", "shelfStart", "I", false)
  | _ => ("NetShapes$Panels", "shelfDeep", "I", false)
def tyX4 : Nat → FieldType := fun k => match k with
  | 0 => .array .int
  | 1 => .array .int
  | 2 => .array .int
  | 3 => .array .int
  | 4 => .array .int
  | 5 => .int
  | 6 => .int
  | 7 => .int
  | _ => .int
abbrev wsX40 : List Cond := u_ws RX4 TX4 9
theorem nmX4 : ∀ a, a < 9 → ∀ b, b < 9 → a ≠ b → (TX4 a).2.1 ≠ (TX4 b).2.1 := by decide +kernel
theorem tyX4_ok : ∀ k, k < 9 → parseFieldDescriptor (TX4 k).2.2.1 = some (tyX4 k) := by decide +kernel
abbrev cX4_init : ByteArray := prog_6_method_1_code
def yX4_init : MethodName := ⟨RX4, "<init>", "()V"⟩
abbrev cX4_has : ByteArray := prog_6_method_2_code
def yX4_has : MethodName := ⟨RX4, "has", "(I)Z"⟩
abbrev cX4_add : ByteArray := prog_6_method_3_code
def yX4_add : MethodName := ⟨RX4, "add", "(III)I"⟩
abbrev cX4_lay : ByteArray := prog_6_method_4_code
def yX4_lay : MethodName := ⟨RX4, "lay", "(I)V"⟩
abbrev cX4_meshesAfter : ByteArray := prog_6_method_5_code
def yX4_meshesAfter : MethodName := ⟨RX4, "meshesAfter", "(II)I"⟩
def RX5 : String := "NetShapes$Water"
def TX5 : u_T := fun k => match k with
  | 0 => ("NetShapes$Water", "depths", "[D", true)
  | 1 => ("NetShapes$Water", "towardsX", "[D", true)
  | 2 => ("NetShapes$Water", "towardsY", "[D", true)
  | 3 => ("NetShapes$Water", "count", "I", false)
  | 4 => ("NetShapes$Water", "waveShare", "D", false)
  | _ => ("NetShapes$Water", "foulShare", "D", false)
def tyX5 : Nat → FieldType := fun k => match k with
  | 0 => .array .double
  | 1 => .array .double
  | 2 => .array .double
  | 3 => .int
  | 4 => .double
  | _ => .double
abbrev wsX50 : List Cond := u_ws RX5 TX5 6
theorem nmX5 : ∀ a, a < 6 → ∀ b, b < 6 → a ≠ b → (TX5 a).2.1 ≠ (TX5 b).2.1 := by decide +kernel
theorem tyX5_ok : ∀ k, k < 6 → parseFieldDescriptor (TX5 k).2.2.1 = some (tyX5 k) := by decide +kernel
abbrev cX5_init : ByteArray := prog_7_method_1_code
def yX5_init : MethodName := ⟨RX5, "<init>", "()V"⟩
abbrev cX5_tell : ByteArray := prog_7_method_2_code
def yX5_tell : MethodName := ⟨RX5, "tell", "(DDD)Z"⟩
abbrev cX5_makeRoomAt : ByteArray := prog_7_method_3_code
def yX5_makeRoomAt : MethodName := ⟨RX5, "makeRoomAt", "(I)V"⟩
abbrev cX5_rowAtOrAbove : ByteArray := prog_7_method_4_code
def yX5_rowAtOrAbove : MethodName := ⟨RX5, "rowAtOrAbove", "(D)I"⟩
abbrev cX5_speedAt : ByteArray := prog_7_method_5_code
def yX5_speedAt : MethodName := ⟨RX5, "speedAt", "([DDI)D"⟩
abbrev cX5_speedOfRows : ByteArray := prog_7_method_6_code
def yX5_speedOfRows : MethodName := ⟨RX5, "speedOfRows", "([DDI)D"⟩
def RX6 : String := "NetShapes"
def TX6 : u_T := fun k => match k with
  | 0 => ("NetShapes", "nodes", "LNetShapes$Nodes;", true)
  | 1 => ("NetShapes", "bars", "LNetShapes$Bars;", true)
  | 2 => ("NetShapes", "water", "LNetShapes$Water;", true)
  | 3 => ("NetShapes", "balance", "LNetShapes$Balance;", true)
  | 4 => ("NetShapes", "fuels", "LNetShapes$Fuels;", true)
  | _ => ("NetShapes", "panels", "LNetShapes$Panels;", true)
def tyX6 : Nat → FieldType := fun k => match k with
  | 0 => .object "NetShapes$Nodes"
  | 1 => .object "NetShapes$Bars"
  | 2 => .object "NetShapes$Water"
  | 3 => .object "NetShapes$Balance"
  | 4 => .object "NetShapes$Fuels"
  | _ => .object "NetShapes$Panels"
abbrev wsX60 : List Cond := u_ws RX6 TX6 6
theorem nmX6 : ∀ a, a < 6 → ∀ b, b < 6 → a ≠ b → (TX6 a).2.1 ≠ (TX6 b).2.1 := by decide +kernel
theorem tyX6_ok : ∀ k, k < 6 → parseFieldDescriptor (TX6 k).2.2.1 = some (tyX6 k) := by decide +kernel
abbrev cX6_init : ByteArray := prog_1_method_1_code
def yX6_init : MethodName := ⟨RX6, "<init>", "()V"⟩
abbrev cX6_node : ByteArray := prog_1_method_2_code
def yX6_node : MethodName := ⟨RX6, "node", "(DDD)I"⟩
abbrev cX6_bar : ByteArray := prog_1_method_3_code
def yX6_bar : MethodName := ⟨RX6, "bar", "(IIDDD)I"⟩
abbrev cX6_fix : ByteArray := prog_1_method_4_code
def yX6_fix : MethodName := ⟨RX6, "fix", "(I)Z"⟩
abbrev cX6_floats : ByteArray := prog_1_method_5_code
def yX6_floats : MethodName := ⟨RX6, "floats", "(ID)Z"⟩
abbrev cX6_current : ByteArray := prog_1_method_6_code
def yX6_current : MethodName := ⟨RX6, "current", "(DDD)Z"⟩
abbrev cX6_run : ByteArray := prog_1_method_7_code
def yX6_run : MethodName := ⟨RX6, "run", "(I)I"⟩
abbrev cX6_at : ByteArray := prog_1_method_8_code
def yX6_at : MethodName := ⟨RX6, "at", "(II)D"⟩
abbrev cX6_pull : ByteArray := prog_1_method_9_code
def yX6_pull : MethodName := ⟨RX6, "pull", "(I)D"⟩
abbrev cX6_residual : ByteArray := prog_1_method_10_code
def yX6_residual : MethodName := ⟨RX6, "residual", "()D"⟩
abbrev cX6_drag : ByteArray := prog_1_method_11_code
def yX6_drag : MethodName := ⟨RX6, "drag", "(I)D"⟩
abbrev cX6_over : ByteArray := prog_1_method_12_code
def yX6_over : MethodName := ⟨RX6, "over", "(I)I"⟩
abbrev cX6_open : ByteArray := prog_1_method_13_code
def yX6_open : MethodName := ⟨RX6, "open", "(I)D"⟩
abbrev cX6_catchAt : ByteArray := prog_1_method_14_code
def yX6_catchAt : MethodName := ⟨RX6, "catchAt", "(ID)Z"⟩
abbrev cX6_panel : ByteArray := prog_1_method_15_code
def yX6_panel : MethodName := ⟨RX6, "panel", "(III)I"⟩
abbrev cX6_cut : ByteArray := prog_1_method_16_code
def yX6_cut : MethodName := ⟨RX6, "cut", "(III)I"⟩
abbrev cX6_whole : ByteArray := prog_1_method_17_code
def yX6_whole : MethodName := ⟨RX6, "whole", "(I)Z"⟩
abbrev cX6_edge : ByteArray := prog_1_method_18_code
def yX6_edge : MethodName := ⟨RX6, "edge", "(II)I"⟩
abbrev cX6_foul : ByteArray := prog_1_method_19_code
def yX6_foul : MethodName := ⟨RX6, "foul", "(D)Z"⟩
abbrev cX6_wave : ByteArray := prog_1_method_20_code
def yX6_wave : MethodName := ⟨RX6, "wave", "(DDI)I"⟩
abbrev cX6_mirrored : ByteArray := prog_1_method_21_code
def yX6_mirrored : MethodName := ⟨RX6, "mirrored", "()Z"⟩
abbrev cX6_best : ByteArray := prog_1_method_22_code
def yX6_best : MethodName := ⟨RX6, "best", "(I)I"⟩
abbrev cX6_sheet : ByteArray := prog_1_method_23_code
def yX6_sheet : MethodName := ⟨RX6, "sheet", "(II)I"⟩
abbrev cX6_within : ByteArray := prog_1_method_24_code
def yX6_within : MethodName := ⟨RX6, "within", "(DDD)Z"⟩
abbrev cX6_isPlace : ByteArray := prog_1_method_25_code
def yX6_isPlace : MethodName := ⟨RX6, "isPlace", "(D)Z"⟩
abbrev cX6_isAxis : ByteArray := prog_1_method_26_code
def yX6_isAxis : MethodName := ⟨RX6, "isAxis", "(I)Z"⟩
abbrev cX6_isPanelWidth : ByteArray := prog_1_method_27_code
def yX6_isPanelWidth : MethodName := ⟨RX6, "isPanelWidth", "(I)Z"⟩
abbrev cX6_eighthOfTurn : ByteArray := prog_1_method_28_code
def yX6_eighthOfTurn : MethodName := ⟨RX6, "eighthOfTurn", "(D)I"⟩
abbrev cX6_partTowardsX : ByteArray := prog_1_method_29_code
def yX6_partTowardsX : MethodName := ⟨RX6, "partTowardsX", "(DI)D"⟩
abbrev cX6_size : ByteArray := prog_1_method_30_code
def yX6_size : MethodName := ⟨RX6, "size", "(D)D"⟩
abbrev cX6_root : ByteArray := prog_1_method_31_code
def yX6_root : MethodName := ⟨RX6, "root", "(D)D"⟩
def RX7 : String := "NetShapesModel"
def TX7 : u_T := fun k => match k with
  | 0 => ("NetShapesModel", "nodes", "I", false)
  | 1 => ("NetShapesModel", "x", "[D", true)
  | 2 => ("NetShapesModel", "y", "[D", true)
  | 3 => ("NetShapesModel", "z", "[D", true)
  | 4 => ("NetShapesModel", "lift", "[D", true)
  | 5 => ("NetShapesModel", "caught", "[D", true)
  | 6 => ("NetShapesModel", "fixed", "[Z", true)
  | 7 => ("NetShapesModel", "fx", "[D", true)
  | 8 => ("NetShapesModel", "fy", "[D", true)
  | 9 => ("NetShapesModel", "fz", "[D", true)
  | 10 => ("NetShapesModel", "bars", "I", false)
  | 11 => ("NetShapesModel", "from", "[I", true)
  | 12 => ("NetShapesModel", "to", "[I", true)
  | 13 => ("NetShapesModel", "natural", "[D", true)
  | 14 => ("NetShapesModel", "width", "[D", true)
  | 15 => ("NetShapesModel", "strong", "[D", true)
  | 16 => ("NetShapesModel", "pulls", "[D", true)
  | 17 => ("NetShapesModel", "rows", "I", false)
  | 18 => ("NetShapesModel", "rowDepth", "[D", true)
  | 19 => ("NetShapesModel", "rowX", "[D", true)
  | 20 => ("NetShapesModel", "rowY", "[D", true)
  | 21 => ("NetShapesModel", "waves", "D", false)
  | 22 => ("NetShapesModel", "fouled", "D", false)
  | 23 => ("NetShapesModel", "residual", "D", false)
  | 24 => ("NetShapesModel", "drags", "[D", true)
  | 25 => ("NetShapesModel", "balances", "I", false)
  | 26 => ("NetShapesModel", "fuels", "[D", true)
  | 27 => ("NetShapesModel", "panels", "I", false)
  | 28 => ("NetShapesModel", "tops", "[I", true)
  | 29 => ("NetShapesModel", "bottoms", "[I", true)
  | _ => ("NetShapesModel", "deeps", "[I", true)
def tyX7 : Nat → FieldType := fun k => match k with
  | 0 => .int
  | 1 => .array .double
  | 2 => .array .double
  | 3 => .array .double
  | 4 => .array .double
  | 5 => .array .double
  | 6 => .array .boolean
  | 7 => .array .double
  | 8 => .array .double
  | 9 => .array .double
  | 10 => .int
  | 11 => .array .int
  | 12 => .array .int
  | 13 => .array .double
  | 14 => .array .double
  | 15 => .array .double
  | 16 => .array .double
  | 17 => .int
  | 18 => .array .double
  | 19 => .array .double
  | 20 => .array .double
  | 21 => .double
  | 22 => .double
  | 23 => .double
  | 24 => .array .double
  | 25 => .int
  | 26 => .array .double
  | 27 => .int
  | 28 => .array .int
  | 29 => .array .int
  | _ => .array .int
abbrev wsX70 : List Cond := u_ws RX7 TX7 31
theorem nmX7 : ∀ a, a < 31 → ∀ b, b < 31 → a ≠ b → (TX7 a).2.1 ≠ (TX7 b).2.1 := by decide +kernel
theorem tyX7_ok : ∀ k, k < 31 → parseFieldDescriptor (TX7 k).2.2.1 = some (tyX7 k) := by decide +kernel
abbrev cX7_init : ByteArray := prog_9_method_1_code
def yX7_init : MethodName := ⟨RX7, "<init>", "()V"⟩
abbrev cX7_isIn : ByteArray := prog_9_method_2_code
def yX7_isIn : MethodName := ⟨RX7, "isIn", "(DDD)Z"⟩
abbrev cX7_root : ByteArray := prog_9_method_3_code
def yX7_root : MethodName := ⟨RX7, "root", "(D)D"⟩
abbrev cX7_size : ByteArray := prog_9_method_4_code
def yX7_size : MethodName := ⟨RX7, "size", "(D)D"⟩
abbrev cX7_node : ByteArray := prog_9_method_5_code
def yX7_node : MethodName := ⟨RX7, "node", "(DDD)I"⟩
abbrev cX7_isNode : ByteArray := prog_9_method_6_code
def yX7_isNode : MethodName := ⟨RX7, "isNode", "(I)Z"⟩
abbrev cX7_bar : ByteArray := prog_9_method_7_code
def yX7_bar : MethodName := ⟨RX7, "bar", "(IIDDD)I"⟩
abbrev cX7_fix : ByteArray := prog_9_method_8_code
def yX7_fix : MethodName := ⟨RX7, "fix", "(I)Z"⟩
abbrev cX7_floats : ByteArray := prog_9_method_9_code
def yX7_floats : MethodName := ⟨RX7, "floats", "(ID)Z"⟩
abbrev cX7_catchAt : ByteArray := prog_9_method_10_code
def yX7_catchAt : MethodName := ⟨RX7, "catchAt", "(ID)Z"⟩
abbrev cX7_foul : ByteArray := prog_9_method_11_code
def yX7_foul : MethodName := ⟨RX7, "foul", "(D)Z"⟩
abbrev cX7_wave : ByteArray := prog_9_method_12_code
def yX7_wave : MethodName := ⟨RX7, "wave", "(DDI)I"⟩
abbrev cX7_current : ByteArray := prog_9_method_13_code
def yX7_current : MethodName := ⟨RX7, "current", "(DDD)Z"⟩
abbrev cX7_speed : ByteArray := prog_9_method_14_code
def yX7_speed : MethodName := ⟨RX7, "speed", "(DZ)D"⟩
abbrev cX7_forces : ByteArray := prog_9_method_15_code
def yX7_forces : MethodName := ⟨RX7, "forces", "()V"⟩
abbrev cX7_moved : ByteArray := prog_9_method_16_code
def yX7_moved : MethodName := ⟨RX7, "moved", "(D)D"⟩
abbrev cX7_run : ByteArray := prog_9_method_17_code
def yX7_run : MethodName := ⟨RX7, "run", "(I)I"⟩
abbrev cX7_at : ByteArray := prog_9_method_18_code
def yX7_at : MethodName := ⟨RX7, "at", "(II)D"⟩
abbrev cX7_pull : ByteArray := prog_9_method_19_code
def yX7_pull : MethodName := ⟨RX7, "pull", "(I)D"⟩
abbrev cX7_residual : ByteArray := prog_9_method_20_code
def yX7_residual : MethodName := ⟨RX7, "residual", "()D"⟩
abbrev cX7_drag : ByteArray := prog_9_method_21_code
def yX7_drag : MethodName := ⟨RX7, "drag", "(I)D"⟩
abbrev cX7_over : ByteArray := prog_9_method_22_code
def yX7_over : MethodName := ⟨RX7, "over", "(I)I"⟩
abbrev cX7_open : ByteArray := prog_9_method_23_code
def yX7_open : MethodName := ⟨RX7, "open", "(I)D"⟩
abbrev cX7_mirrored : ByteArray := prog_9_method_24_code
def yX7_mirrored : MethodName := ⟨RX7, "mirrored", "()Z"⟩
abbrev cX7_best : ByteArray := prog_9_method_25_code
def yX7_best : MethodName := ⟨RX7, "best", "(I)I"⟩
abbrev cX7_panel : ByteArray := prog_9_method_26_code
def yX7_panel : MethodName := ⟨RX7, "panel", "(III)I"⟩
abbrev cX7_isPanel : ByteArray := prog_9_method_27_code
def yX7_isPanel : MethodName := ⟨RX7, "isPanel", "(I)Z"⟩
abbrev cX7_meshes : ByteArray := prog_9_method_28_code
def yX7_meshes : MethodName := ⟨RX7, "meshes", "(II)I"⟩
abbrev cX7_cut : ByteArray := prog_9_method_29_code
def yX7_cut : MethodName := ⟨RX7, "cut", "(III)I"⟩
abbrev cX7_whole : ByteArray := prog_9_method_30_code
def yX7_whole : MethodName := ⟨RX7, "whole", "(I)Z"⟩
abbrev cX7_edge : ByteArray := prog_9_method_31_code
def yX7_edge : MethodName := ⟨RX7, "edge", "(II)I"⟩
abbrev cX7_sheet : ByteArray := prog_9_method_32_code
def yX7_sheet : MethodName := ⟨RX7, "sheet", "(II)I"⟩
def RJxe99ae : String := "java/lang/Double"
def TJxe99ae : u_T := fun k => match k with
  | _ => ("", "", "", false)
def tyJxe99ae : Nat → FieldType := fun k => match k with
  | _ => .int
abbrev wsJxe99ae0 : List Cond := u_ws RJxe99ae TJxe99ae 0
theorem nmJxe99ae : ∀ a, a < 0 → ∀ b, b < 0 → a ≠ b → (TJxe99ae a).2.1 ≠ (TJxe99ae b).2.1 := by decide +kernel
theorem tyJxe99ae_ok : ∀ k, k < 0 → parseFieldDescriptor (TJxe99ae k).2.2.1 = some (tyJxe99ae k) := by decide +kernel
def RJ9 : String := "java/lang/Math"
def TJ9 : u_T := fun k => match k with
  | _ => ("", "", "", false)
def tyJ9 : Nat → FieldType := fun k => match k with
  | _ => .int
abbrev wsJ90 : List Cond := u_ws RJ9 TJ9 0
theorem nmJ9 : ∀ a, a < 0 → ∀ b, b < 0 → a ≠ b → (TJ9 a).2.1 ≠ (TJ9 b).2.1 := by decide +kernel
theorem tyJ9_ok : ∀ k, k < 0 → parseFieldDescriptor (TJ9 k).2.2.1 = some (tyJ9 k) := by decide +kernel
abbrev cJ9_floorMod_7cf53 : ByteArray := prog_11_method_50_code
def yJ9_floorMod_7cf53 : MethodName := ⟨RJ9, "floorMod", "(II)I"⟩
abbrev cJ9_max_7cf53 : ByteArray := prog_11_method_65_code
def yJ9_max_7cf53 : MethodName := ⟨RJ9, "max", "(II)I"⟩
abbrev cJ9_max_eb370 : ByteArray := prog_11_method_68_code
def yJ9_max_eb370 : MethodName := ⟨RJ9, "max", "(DD)D"⟩
abbrev cJ9_min_7cf53 : ByteArray := prog_11_method_69_code
def yJ9_min_7cf53 : MethodName := ⟨RJ9, "min", "(II)I"⟩
abbrev cJ9_min_eb370 : ByteArray := prog_11_method_72_code
def yJ9_min_eb370 : MethodName := ⟨RJ9, "min", "(DD)D"⟩
def RL : String := "NetShapesLaw"
abbrev cL_law : ByteArray := code
def yL_law : MethodName := ⟨RL, "law", "([I)Z"⟩
def wsX0_init : List Cond := .code yX0_init cX0_init 4 none :: ([.methodLink RX0 3 objectInit, .instanceMethod objectInit, .code objectInit ⟨#[0xb1]⟩ 1 none, .arrayClass .double, .fieldLink RX0 9 "NetShapes$Balance" "drags" "[D", .constantDouble RX0 15 (13830554455654793216), .fieldLink RX0 17 "NetShapes$Balance" "greatestForce" "D", .fieldLink RX0 21 "NetShapes$Balance" "span" "[D", .fieldLink RX0 24 "NetShapes$Balance" "acrossFlow" "[D", .fieldLink RX0 27 "NetShapes$Balance" "nodes" "LNetShapes$Nodes;", .fieldLink RX0 31 "NetShapes$Balance" "bars" "LNetShapes$Bars;", .fieldLink RX0 35 "NetShapes$Balance" "water" "LNetShapes$Water;"] ++ wsX00)
def wsX3_startForces : List Cond := .code yX3_startForces cX3_startForces 2 none :: ([.fieldLink RX3 30 "NetShapes$Nodes" "count" "I", .fieldLink RX3 16 "NetShapes$Nodes" "forces" "[[D", .fieldLink RX3 23 "NetShapes$Nodes" "load" "[D", .fieldLink RX3 19 "NetShapes$Nodes" "lift" "[D"] ++ wsX30)
def wsX6_root : List Cond := .code yX6_root cX6_root 7 (some .double) :: ([.constantDouble RX6 208 (4602678819172646912)])
def wsX0_lengthOf : List Cond := .code yX0_lengthOf cX0_lengthOf 1 (some .double) :: ([.static yX6_root, .initialized RX6, .code yX6_root cX6_root 7 (some .double), .constantDouble RX6 208 (4602678819172646912)])
def wsX0_measure : List Cond := .code yX0_measure cX0_measure 4 (some .double) :: ([.fieldLink RX0 27 "NetShapes$Balance" "nodes" "LNetShapes$Nodes;", .fieldLink RX0 67 "NetShapes$Nodes" "places" "[[D", .fieldLink RX0 21 "NetShapes$Balance" "span" "[D", .fieldLink RX0 31 "NetShapes$Balance" "bars" "LNetShapes$Bars;", .fieldLink RX0 71 "NetShapes$Bars" "to" "[I", .fieldLink RX0 75 "NetShapes$Bars" "from" "[I", .methodLink RX0 78 yX0_lengthOf, .static yX0_lengthOf, .initialized RX0, .code yX0_lengthOf cX0_lengthOf 1 (some .double), .static yX6_root, .initialized RX6, .code yX6_root cX6_root 7 (some .double), .constantDouble RX6 208 (4602678819172646912)] ++ wsX00 ++ wsX30 ++ wsX10)
def wsX0_tighten : List Cond := .code yX0_tighten cX0_tighten 11 none :: ([.fieldLink RX0 31 "NetShapes$Balance" "bars" "LNetShapes$Bars;", .fieldLink RX0 86 "NetShapes$Bars" "length" "[D", .constantDouble RX0 89 (4656510908468559872), .fieldLink RX0 91 "NetShapes$Bars" "pulls" "[D", .fieldLink RX0 27 "NetShapes$Balance" "nodes" "LNetShapes$Nodes;", .fieldLink RX0 94 "NetShapes$Nodes" "forces" "[[D", .fieldLink RX0 75 "NetShapes$Bars" "from" "[I", .fieldLink RX0 21 "NetShapes$Balance" "span" "[D", .fieldLink RX0 71 "NetShapes$Bars" "to" "[I"] ++ wsX00 ++ wsX10 ++ wsX30)
def wsX5_rowAtOrAbove : List Cond := .code yX5_rowAtOrAbove cX5_rowAtOrAbove 5 (some .int) :: ([.fieldLink RX5 21 "NetShapes$Water" "count" "I", .fieldLink RX5 9 "NetShapes$Water" "depths" "[D"] ++ wsX50)
def wsX5_speedOfRows : List Cond := .code yX5_speedOfRows cX5_speedOfRows 7 (some .double) :: ([.fieldLink RX5 21 "NetShapes$Water" "count" "I", .fieldLink RX5 9 "NetShapes$Water" "depths" "[D"] ++ wsX50)
def wsX5_speedAt : List Cond := .code yX5_speedAt cX5_speedAt 5 (some .double) :: ([.fieldLink RX5 25 "NetShapes$Water" "waveShare" "D", .methodLink RX5 40 yX5_speedOfRows, .instanceMethod yX5_speedOfRows, .selects RX5 yX5_speedOfRows yX5_speedOfRows, .initialized RX5, .code yX5_speedOfRows cX5_speedOfRows 7 (some .double), .fieldLink RX5 21 "NetShapes$Water" "count" "I", .fieldLink RX5 9 "NetShapes$Water" "depths" "[D"] ++ wsX50)
def wsX0_findFlowAcross_r1 : List Cond := [Cond.fieldLink RX0 27 "NetShapes$Balance" "nodes" "LNetShapes$Nodes;", Cond.fieldLink RX0 67 "NetShapes$Nodes" "places" "[[D", Cond.constantDouble RX0 112 (4602678819172646912), Cond.fieldLink RX0 31 "NetShapes$Balance" "bars" "LNetShapes$Bars;", Cond.fieldLink RX0 75 "NetShapes$Bars" "from" "[I", Cond.fieldLink RX0 71 "NetShapes$Bars" "to" "[I", Cond.fieldLink RX0 35 "NetShapes$Balance" "water" "LNetShapes$Water;", Cond.fieldLink RX0 118 "NetShapes$Water" "towardsX" "[D", Cond.fieldLink RX0 125 "NetShapes$Water" "towardsY" "[D", Cond.fieldLink RX0 21 "NetShapes$Balance" "span" "[D", Cond.fieldLink RX0 24 "NetShapes$Balance" "acrossFlow" "[D", Cond.methodLink RX0 114 yX5_rowAtOrAbove, Cond.instanceMethod yX5_rowAtOrAbove, Cond.selects RX5 yX5_rowAtOrAbove yX5_rowAtOrAbove, Cond.initialized RX5, Cond.code yX5_rowAtOrAbove cX5_rowAtOrAbove 5 (some .int), Cond.fieldLink RX5 21 "NetShapes$Water" "count" "I", Cond.fieldLink RX5 9 "NetShapes$Water" "depths" "[D", Cond.methodLink RX0 121 yX5_speedAt, Cond.instanceMethod yX5_speedAt, Cond.selects RX5 yX5_speedAt yX5_speedAt, Cond.code yX5_speedAt cX5_speedAt 5 (some .double), Cond.fieldLink RX5 25 "NetShapes$Water" "waveShare" "D", Cond.methodLink RX5 40 yX5_speedOfRows]
def wsX0_findFlowAcross_r2 : List Cond := [Cond.instanceMethod yX5_speedOfRows, Cond.selects RX5 yX5_speedOfRows yX5_speedOfRows, Cond.code yX5_speedOfRows cX5_speedOfRows 7 (some .double)]
def wsX0_findFlowAcross : List Cond := .code yX0_findFlowAcross cX0_findFlowAcross 14 none :: ((wsX0_findFlowAcross_r1 ++ wsX0_findFlowAcross_r2) ++ wsX00 ++ wsX30 ++ wsX10 ++ wsX50)
def wsX0_wash_r1 : List Cond := [Cond.constantDouble RX0 100 (4638707616191610880), Cond.fieldLink RX0 31 "NetShapes$Balance" "bars" "LNetShapes$Bars;", Cond.fieldLink RX0 102 "NetShapes$Bars" "width" "[D", Cond.fieldLink RX0 35 "NetShapes$Balance" "water" "LNetShapes$Water;", Cond.fieldLink RX0 105 "NetShapes$Water" "foulShare" "D", Cond.fieldLink RX0 86 "NetShapes$Bars" "length" "[D", Cond.fieldLink RX0 24 "NetShapes$Balance" "acrossFlow" "[D", Cond.fieldLink RX0 9 "NetShapes$Balance" "drags" "[D", Cond.constantDouble RX0 110 (4611686018427387904), Cond.fieldLink RX0 27 "NetShapes$Balance" "nodes" "LNetShapes$Nodes;", Cond.fieldLink RX0 94 "NetShapes$Nodes" "forces" "[[D", Cond.fieldLink RX0 75 "NetShapes$Bars" "from" "[I", Cond.fieldLink RX0 71 "NetShapes$Bars" "to" "[I", Cond.methodLink RX0 97 yX0_findFlowAcross, Cond.instanceMethod yX0_findFlowAcross, Cond.selects RX0 yX0_findFlowAcross yX0_findFlowAcross, Cond.initialized RX0, Cond.code yX0_findFlowAcross cX0_findFlowAcross 14 none, Cond.fieldLink RX0 67 "NetShapes$Nodes" "places" "[[D", Cond.constantDouble RX0 112 (4602678819172646912), Cond.fieldLink RX0 118 "NetShapes$Water" "towardsX" "[D", Cond.fieldLink RX0 125 "NetShapes$Water" "towardsY" "[D", Cond.fieldLink RX0 21 "NetShapes$Balance" "span" "[D", Cond.methodLink RX0 114 yX5_rowAtOrAbove]
def wsX0_wash_r2 : List Cond := [Cond.instanceMethod yX5_rowAtOrAbove, Cond.selects RX5 yX5_rowAtOrAbove yX5_rowAtOrAbove, Cond.initialized RX5, Cond.code yX5_rowAtOrAbove cX5_rowAtOrAbove 5 (some .int), Cond.fieldLink RX5 21 "NetShapes$Water" "count" "I", Cond.fieldLink RX5 9 "NetShapes$Water" "depths" "[D", Cond.methodLink RX0 121 yX5_speedAt, Cond.instanceMethod yX5_speedAt, Cond.selects RX5 yX5_speedAt yX5_speedAt, Cond.code yX5_speedAt cX5_speedAt 5 (some .double), Cond.fieldLink RX5 25 "NetShapes$Water" "waveShare" "D", Cond.methodLink RX5 40 yX5_speedOfRows, Cond.instanceMethod yX5_speedOfRows, Cond.selects RX5 yX5_speedOfRows yX5_speedOfRows, Cond.code yX5_speedOfRows cX5_speedOfRows 7 (some .double), Cond.methodLink RX0 78 yX0_lengthOf, Cond.static yX0_lengthOf, Cond.code yX0_lengthOf cX0_lengthOf 1 (some .double), Cond.static yX6_root, Cond.initialized RX6, Cond.code yX6_root cX6_root 7 (some .double), Cond.constantDouble RX6 208 (4602678819172646912)]
def wsX0_wash : List Cond := .code yX0_wash cX0_wash 7 none :: ((wsX0_wash_r1 ++ wsX0_wash_r2) ++ wsX00 ++ wsX10 ++ wsX50 ++ wsX30)
def wsX6_size : List Cond := .code yX6_size cX6_size 2 (some .double) :: ([])
def wsX3_greatestForce : List Cond := .code yX3_greatestForce cX3_greatestForce 7 (some .double) :: ([.fieldLink RX3 30 "NetShapes$Nodes" "count" "I", .fieldLink RX3 26 "NetShapes$Nodes" "fixed" "[Z", .fieldLink RX3 16 "NetShapes$Nodes" "forces" "[[D", .static yX6_size, .initialized RX6, .code yX6_size cX6_size 2 (some .double)] ++ wsX30)
def wsX3_stepFor : List Cond := .code yX3_stepFor cX3_stepFor 6 (some .double) :: ([.constantDouble RX3 41 (4598175219545276416), .constantDouble RX3 43 (4557750909289998844)])
def wsX3_giveWay : List Cond := .code yX3_giveWay cX3_giveWay 3 none :: ([.fieldLink RX3 30 "NetShapes$Nodes" "count" "I", .fieldLink RX3 26 "NetShapes$Nodes" "fixed" "[Z", .fieldLink RX3 11 "NetShapes$Nodes" "places" "[[D", .fieldLink RX3 16 "NetShapes$Nodes" "forces" "[[D", .methodLink RX3 38 yX3_stepFor, .static yX3_stepFor, .initialized RX3, .code yX3_stepFor cX3_stepFor 6 (some .double), .constantDouble RX3 41 (4598175219545276416), .constantDouble RX3 43 (4557750909289998844)] ++ wsX30)
def wsX0_comesInRound_r1 : List Cond := [Cond.fieldLink RX0 27 "NetShapes$Balance" "nodes" "LNetShapes$Nodes;", Cond.fieldLink RX0 9 "NetShapes$Balance" "drags" "[D", Cond.fieldLink RX0 31 "NetShapes$Balance" "bars" "LNetShapes$Bars;", Cond.fieldLink RX0 44 "NetShapes$Bars" "count" "I", Cond.fieldLink RX0 17 "NetShapes$Balance" "greatestForce" "D", Cond.methodLink RX0 39 yX3_startForces, Cond.instanceMethod yX3_startForces, Cond.selects RX3 yX3_startForces yX3_startForces, Cond.initialized RX3, Cond.code yX3_startForces cX3_startForces 2 none, Cond.fieldLink RX3 30 "NetShapes$Nodes" "count" "I", Cond.fieldLink RX3 16 "NetShapes$Nodes" "forces" "[[D", Cond.fieldLink RX3 23 "NetShapes$Nodes" "load" "[D", Cond.fieldLink RX3 19 "NetShapes$Nodes" "lift" "[D", Cond.methodLink RX0 50 yX0_measure, Cond.instanceMethod yX0_measure, Cond.selects RX0 yX0_measure yX0_measure, Cond.initialized RX0, Cond.code yX0_measure cX0_measure 4 (some .double), Cond.fieldLink RX0 67 "NetShapes$Nodes" "places" "[[D", Cond.fieldLink RX0 21 "NetShapes$Balance" "span" "[D", Cond.fieldLink RX0 71 "NetShapes$Bars" "to" "[I", Cond.fieldLink RX0 75 "NetShapes$Bars" "from" "[I", Cond.methodLink RX0 78 yX0_lengthOf]
def wsX0_comesInRound_r2 : List Cond := [Cond.static yX0_lengthOf, Cond.code yX0_lengthOf cX0_lengthOf 1 (some .double), Cond.static yX6_root, Cond.initialized RX6, Cond.code yX6_root cX6_root 7 (some .double), Cond.constantDouble RX6 208 (4602678819172646912), Cond.methodLink RX0 54 yX0_tighten, Cond.instanceMethod yX0_tighten, Cond.selects RX0 yX0_tighten yX0_tighten, Cond.code yX0_tighten cX0_tighten 11 none, Cond.fieldLink RX0 86 "NetShapes$Bars" "length" "[D", Cond.constantDouble RX0 89 (4656510908468559872), Cond.fieldLink RX0 91 "NetShapes$Bars" "pulls" "[D", Cond.fieldLink RX0 94 "NetShapes$Nodes" "forces" "[[D", Cond.methodLink RX0 58 yX0_wash, Cond.instanceMethod yX0_wash, Cond.selects RX0 yX0_wash yX0_wash, Cond.code yX0_wash cX0_wash 7 none, Cond.constantDouble RX0 100 (4638707616191610880), Cond.fieldLink RX0 102 "NetShapes$Bars" "width" "[D", Cond.fieldLink RX0 35 "NetShapes$Balance" "water" "LNetShapes$Water;", Cond.fieldLink RX0 105 "NetShapes$Water" "foulShare" "D", Cond.fieldLink RX0 24 "NetShapes$Balance" "acrossFlow" "[D", Cond.constantDouble RX0 110 (4611686018427387904)]
def wsX0_comesInRound_r3 : List Cond := [Cond.methodLink RX0 97 yX0_findFlowAcross, Cond.instanceMethod yX0_findFlowAcross, Cond.selects RX0 yX0_findFlowAcross yX0_findFlowAcross, Cond.code yX0_findFlowAcross cX0_findFlowAcross 14 none, Cond.constantDouble RX0 112 (4602678819172646912), Cond.fieldLink RX0 118 "NetShapes$Water" "towardsX" "[D", Cond.fieldLink RX0 125 "NetShapes$Water" "towardsY" "[D", Cond.methodLink RX0 114 yX5_rowAtOrAbove, Cond.instanceMethod yX5_rowAtOrAbove, Cond.selects RX5 yX5_rowAtOrAbove yX5_rowAtOrAbove, Cond.initialized RX5, Cond.code yX5_rowAtOrAbove cX5_rowAtOrAbove 5 (some .int), Cond.fieldLink RX5 21 "NetShapes$Water" "count" "I", Cond.fieldLink RX5 9 "NetShapes$Water" "depths" "[D", Cond.methodLink RX0 121 yX5_speedAt, Cond.instanceMethod yX5_speedAt, Cond.selects RX5 yX5_speedAt yX5_speedAt, Cond.code yX5_speedAt cX5_speedAt 5 (some .double), Cond.fieldLink RX5 25 "NetShapes$Water" "waveShare" "D", Cond.methodLink RX5 40 yX5_speedOfRows, Cond.instanceMethod yX5_speedOfRows, Cond.selects RX5 yX5_speedOfRows yX5_speedOfRows, Cond.code yX5_speedOfRows cX5_speedOfRows 7 (some .double), Cond.methodLink RX0 61 yX3_greatestForce]
def wsX0_comesInRound_r4 : List Cond := [Cond.instanceMethod yX3_greatestForce, Cond.selects RX3 yX3_greatestForce yX3_greatestForce, Cond.code yX3_greatestForce cX3_greatestForce 7 (some .double), Cond.fieldLink RX3 26 "NetShapes$Nodes" "fixed" "[Z", Cond.static yX6_size, Cond.code yX6_size cX6_size 2 (some .double), Cond.methodLink RX0 64 yX3_giveWay, Cond.instanceMethod yX3_giveWay, Cond.selects RX3 yX3_giveWay yX3_giveWay, Cond.code yX3_giveWay cX3_giveWay 3 none, Cond.fieldLink RX3 11 "NetShapes$Nodes" "places" "[[D", Cond.methodLink RX3 38 yX3_stepFor, Cond.static yX3_stepFor, Cond.code yX3_stepFor cX3_stepFor 6 (some .double), Cond.constantDouble RX3 41 (4598175219545276416), Cond.constantDouble RX3 43 (4557750909289998844)]
def wsX0_comesInRound : List Cond := .code yX0_comesInRound cX0_comesInRound 4 (some .boolean) :: ((wsX0_comesInRound_r1 ++ (wsX0_comesInRound_r2 ++ (wsX0_comesInRound_r3 ++ wsX0_comesInRound_r4))) ++ wsX00 ++ wsX10 ++ wsX30 ++ wsX50)
def wsX1_init : List Cond := .code yX1_init cX1_init 1 none :: ([.methodLink RX1 3 objectInit, .instanceMethod objectInit, .code objectInit ⟨#[0xb1]⟩ 1 none, .arrayClass .int, .fieldLink RX1 9 "NetShapes$Bars" "from" "[I", .fieldLink RX1 15 "NetShapes$Bars" "to" "[I", .arrayClass .double, .fieldLink RX1 18 "NetShapes$Bars" "length" "[D", .fieldLink RX1 22 "NetShapes$Bars" "width" "[D", .fieldLink RX1 25 "NetShapes$Bars" "strength" "[D", .fieldLink RX1 28 "NetShapes$Bars" "pulls" "[D", .fieldLink RX1 31 "NetShapes$Bars" "count" "I"] ++ wsX10)
def wsX1_has : List Cond := .code yX1_has cX1_has 2 (some .boolean) :: ([.fieldLink RX1 31 "NetShapes$Bars" "count" "I"] ++ wsX10)
def wsX1_add : List Cond := .code yX1_add cX1_add 10 (some .int) :: ([.fieldLink RX1 31 "NetShapes$Bars" "count" "I", .fieldLink RX1 9 "NetShapes$Bars" "from" "[I", .fieldLink RX1 15 "NetShapes$Bars" "to" "[I", .fieldLink RX1 18 "NetShapes$Bars" "length" "[D", .fieldLink RX1 22 "NetShapes$Bars" "width" "[D", .fieldLink RX1 25 "NetShapes$Bars" "strength" "[D", .fieldLink RX1 28 "NetShapes$Bars" "pulls" "[D", .constantDouble RX1 35 (13830554455654793216)] ++ wsX10)
def wsX1_overloaded : List Cond := .code yX1_overloaded cX1_overloaded 4 (some .int) :: ([.fieldLink RX1 31 "NetShapes$Bars" "count" "I", .fieldLink RX1 28 "NetShapes$Bars" "pulls" "[D", .fieldLink RX1 25 "NetShapes$Bars" "strength" "[D"] ++ wsX10)
def wsX2_init : List Cond := .code yX2_init cX2_init 1 none :: ([.methodLink RX2 3 objectInit, .instanceMethod objectInit, .code objectInit ⟨#[0xb1]⟩ 1 none, .arrayClass .double, .fieldLink RX2 9 "NetShapes$Fuels" "kept" "[D", .fieldLink RX2 15 "NetShapes$Fuels" "count" "I", .fieldLink RX2 19 "NetShapes$Fuels" "next" "I"] ++ wsX20)
def wsX2_add : List Cond := .code yX2_add cX2_add 3 none :: ([.fieldLink RX2 9 "NetShapes$Fuels" "kept" "[D", .fieldLink RX2 19 "NetShapes$Fuels" "next" "I", .fieldLink RX2 15 "NetShapes$Fuels" "count" "I", .methodLink RX2 22 Lib.Math.min.name, .static Lib.Math.min.name, .initialized "java/lang/Math", .code Lib.Math.min.name Lib.Math.min.code 2 (some .int)] ++ wsX20)
def wsJ9_floorMod_7cf53 : List Cond := .code yJ9_floorMod_7cf53 cJ9_floorMod_7cf53 3 (some .int) :: ([])
def wsX2_backwards : List Cond := .code yX2_backwards cX2_backwards 2 (some .double) :: ([.fieldLink RX2 9 "NetShapes$Fuels" "kept" "[D", .fieldLink RX2 19 "NetShapes$Fuels" "next" "I", .methodLink RX2 32 yJ9_floorMod_7cf53, .static yJ9_floorMod_7cf53, .initialized RJ9, .code yJ9_floorMod_7cf53 cJ9_floorMod_7cf53 3 (some .int)] ++ wsX20)
def wsX2_leastOfLatest : List Cond := .code yX2_leastOfLatest cX2_leastOfLatest 4 (some .int) :: ([.fieldLink RX2 15 "NetShapes$Fuels" "count" "I", .methodLink RX2 28 yX2_backwards, .instanceMethod yX2_backwards, .selects RX2 yX2_backwards yX2_backwards, .initialized RX2, .code yX2_backwards cX2_backwards 2 (some .double), .fieldLink RX2 9 "NetShapes$Fuels" "kept" "[D", .fieldLink RX2 19 "NetShapes$Fuels" "next" "I", .methodLink RX2 32 yJ9_floorMod_7cf53, .static yJ9_floorMod_7cf53, .initialized RJ9, .code yJ9_floorMod_7cf53 cJ9_floorMod_7cf53 3 (some .int)] ++ wsX20)
def wsX3_init : List Cond := .code yX3_init cX3_init 1 none :: ([.methodLink RX3 3 objectInit, .instanceMethod objectInit, .code objectInit ⟨#[0xb1]⟩ 1 none, .classLink RX3 9 "[[D", .arrayClass .double, .fieldLink RX3 11 "NetShapes$Nodes" "places" "[[D", .fieldLink RX3 16 "NetShapes$Nodes" "forces" "[[D", .fieldLink RX3 19 "NetShapes$Nodes" "lift" "[D", .fieldLink RX3 23 "NetShapes$Nodes" "load" "[D", .arrayClass .boolean, .fieldLink RX3 26 "NetShapes$Nodes" "fixed" "[Z", .fieldLink RX3 30 "NetShapes$Nodes" "count" "I"] ++ wsX30)
def wsX3_has : List Cond := .code yX3_has cX3_has 2 (some .boolean) :: ([.fieldLink RX3 30 "NetShapes$Nodes" "count" "I"] ++ wsX30)
def wsX3_add : List Cond := .code yX3_add cX3_add 8 (some .int) :: ([.fieldLink RX3 30 "NetShapes$Nodes" "count" "I", .fieldLink RX3 11 "NetShapes$Nodes" "places" "[[D"] ++ wsX30)
def wsX3_spread : List Cond := .code yX3_spread cX3_spread 8 (some .double) :: ([.fieldLink RX3 11 "NetShapes$Nodes" "places" "[[D", .fieldLink RX3 30 "NetShapes$Nodes" "count" "I"] ++ wsX30)
def wsX3_hasMirrorImage : List Cond := .code yX3_hasMirrorImage cX3_hasMirrorImage 5 (some .boolean) :: ([.fieldLink RX3 11 "NetShapes$Nodes" "places" "[[D", .fieldLink RX3 30 "NetShapes$Nodes" "count" "I"] ++ wsX30)
def wsX4_init : List Cond := .code yX4_init cX4_init 1 none :: ([.methodLink RX4 3 objectInit, .instanceMethod objectInit, .code objectInit ⟨#[0xb1]⟩ 1 none, .arrayClass .int, .fieldLink RX4 9 "NetShapes$Panels" "top" "[I", .fieldLink RX4 15 "NetShapes$Panels" "bottom" "[I", .fieldLink RX4 18 "NetShapes$Panels" "deep" "[I", .fieldLink RX4 21 "NetShapes$Panels" "across" "[I", .fieldLink RX4 24 "NetShapes$Panels" "down" "[I", .fieldLink RX4 27 "NetShapes$Panels" "count" "I", .fieldLink RX4 31 "NetShapes$Panels" "shelfUsed" "I", .fieldLink RX4 34 "NetShapes$Panels" "shelfStart" "I", .fieldLink RX4 37 "NetShapes$Panels" "shelfDeep" "I"] ++ wsX40)
def wsX4_has : List Cond := .code yX4_has cX4_has 2 (some .boolean) :: ([.fieldLink RX4 27 "NetShapes$Panels" "count" "I"] ++ wsX40)
def wsX4_lay : List Cond := .code yX4_lay cX4_lay 3 none :: ([.fieldLink RX4 9 "NetShapes$Panels" "top" "[I", .fieldLink RX4 15 "NetShapes$Panels" "bottom" "[I", .methodLink RX4 44 Lib.Math.max.name, .static Lib.Math.max.name, .initialized "java/lang/Math", .code Lib.Math.max.name Lib.Math.max.code 2 (some .int), .fieldLink RX4 31 "NetShapes$Panels" "shelfUsed" "I", .fieldLink RX4 34 "NetShapes$Panels" "shelfStart" "I", .fieldLink RX4 37 "NetShapes$Panels" "shelfDeep" "I", .fieldLink RX4 21 "NetShapes$Panels" "across" "[I", .fieldLink RX4 24 "NetShapes$Panels" "down" "[I", .fieldLink RX4 18 "NetShapes$Panels" "deep" "[I"] ++ wsX40)
def wsX4_add : List Cond := .code yX4_add cX4_add 5 (some .int) :: ([.fieldLink RX4 27 "NetShapes$Panels" "count" "I", .fieldLink RX4 9 "NetShapes$Panels" "top" "[I", .fieldLink RX4 15 "NetShapes$Panels" "bottom" "[I", .fieldLink RX4 18 "NetShapes$Panels" "deep" "[I", .methodLink RX4 40 yX4_lay, .instanceMethod yX4_lay, .selects RX4 yX4_lay yX4_lay, .initialized RX4, .code yX4_lay cX4_lay 3 none, .methodLink RX4 44 Lib.Math.max.name, .static Lib.Math.max.name, .initialized "java/lang/Math", .code Lib.Math.max.name Lib.Math.max.code 2 (some .int), .fieldLink RX4 31 "NetShapes$Panels" "shelfUsed" "I", .fieldLink RX4 34 "NetShapes$Panels" "shelfStart" "I", .fieldLink RX4 37 "NetShapes$Panels" "shelfDeep" "I", .fieldLink RX4 21 "NetShapes$Panels" "across" "[I", .fieldLink RX4 24 "NetShapes$Panels" "down" "[I"] ++ wsX40)
def wsX4_meshesAfter : List Cond := .code yX4_meshesAfter cX4_meshesAfter 4 (some .int) :: ([.fieldLink RX4 15 "NetShapes$Panels" "bottom" "[I", .fieldLink RX4 9 "NetShapes$Panels" "top" "[I", .fieldLink RX4 18 "NetShapes$Panels" "deep" "[I"] ++ wsX40)
def wsX5_init : List Cond := .code yX5_init cX5_init 1 none :: ([.methodLink RX5 3 objectInit, .instanceMethod objectInit, .code objectInit ⟨#[0xb1]⟩ 1 none, .arrayClass .double, .fieldLink RX5 9 "NetShapes$Water" "depths" "[D", .fieldLink RX5 15 "NetShapes$Water" "towardsX" "[D", .fieldLink RX5 18 "NetShapes$Water" "towardsY" "[D", .fieldLink RX5 21 "NetShapes$Water" "count" "I", .fieldLink RX5 25 "NetShapes$Water" "waveShare" "D", .fieldLink RX5 29 "NetShapes$Water" "foulShare" "D"] ++ wsX50)
def wsX5_makeRoomAt : List Cond := .code yX5_makeRoomAt cX5_makeRoomAt 3 none :: ([.fieldLink RX5 21 "NetShapes$Water" "count" "I", .fieldLink RX5 9 "NetShapes$Water" "depths" "[D", .fieldLink RX5 15 "NetShapes$Water" "towardsX" "[D", .fieldLink RX5 18 "NetShapes$Water" "towardsY" "[D"] ++ wsX50)
def wsX5_tell : List Cond := .code yX5_tell cX5_tell 8 (some .boolean) :: ([.fieldLink RX5 9 "NetShapes$Water" "depths" "[D", .fieldLink RX5 21 "NetShapes$Water" "count" "I", .fieldLink RX5 15 "NetShapes$Water" "towardsX" "[D", .fieldLink RX5 18 "NetShapes$Water" "towardsY" "[D", .methodLink RX5 32 yX5_rowAtOrAbove, .instanceMethod yX5_rowAtOrAbove, .selects RX5 yX5_rowAtOrAbove yX5_rowAtOrAbove, .initialized RX5, .code yX5_rowAtOrAbove cX5_rowAtOrAbove 5 (some .int), .methodLink RX5 36 yX5_makeRoomAt, .instanceMethod yX5_makeRoomAt, .selects RX5 yX5_makeRoomAt yX5_makeRoomAt, .code yX5_makeRoomAt cX5_makeRoomAt 3 none] ++ wsX50)
def wsX6_init_r1 : List Cond := [Cond.methodLink RX6 1 objectInit, Cond.instanceMethod objectInit, Cond.code objectInit ⟨#[0xb1]⟩ 1 none, Cond.classLink RX6 7 RX3, Cond.instantiable RX3 6, Cond.initialized RX3, Cond.fieldLink RX6 10 "NetShapes" "nodes" "LNetShapes$Nodes;", Cond.classLink RX6 16 RX1, Cond.instantiable RX1 7, Cond.initialized RX1, Cond.fieldLink RX6 19 "NetShapes" "bars" "LNetShapes$Bars;", Cond.classLink RX6 23 RX5, Cond.instantiable RX5 6, Cond.initialized RX5, Cond.fieldLink RX6 26 "NetShapes" "water" "LNetShapes$Water;", Cond.classLink RX6 30 RX0, Cond.instantiable RX0 7, Cond.initialized RX0, Cond.fieldLink RX6 35 "NetShapes" "balance" "LNetShapes$Balance;", Cond.classLink RX6 39 RX2, Cond.instantiable RX2 3, Cond.initialized RX2, Cond.fieldLink RX6 42 "NetShapes" "fuels" "LNetShapes$Fuels;", Cond.classLink RX6 46 RX4]
def wsX6_init_r2 : List Cond := [Cond.instantiable RX4 9, Cond.initialized RX4, Cond.fieldLink RX6 49 "NetShapes" "panels" "LNetShapes$Panels;", Cond.instanceMethod yX3_init, Cond.code yX3_init cX3_init 1 none, Cond.methodLink RX3 3 objectInit, Cond.classLink RX3 9 "[[D", Cond.arrayClass .double, Cond.fieldLink RX3 11 "NetShapes$Nodes" "places" "[[D", Cond.fieldLink RX3 16 "NetShapes$Nodes" "forces" "[[D", Cond.fieldLink RX3 19 "NetShapes$Nodes" "lift" "[D", Cond.fieldLink RX3 23 "NetShapes$Nodes" "load" "[D", Cond.arrayClass .boolean, Cond.fieldLink RX3 26 "NetShapes$Nodes" "fixed" "[Z", Cond.fieldLink RX3 30 "NetShapes$Nodes" "count" "I", Cond.instanceMethod yX1_init, Cond.code yX1_init cX1_init 1 none, Cond.methodLink RX1 3 objectInit, Cond.arrayClass .int, Cond.fieldLink RX1 9 "NetShapes$Bars" "from" "[I", Cond.fieldLink RX1 15 "NetShapes$Bars" "to" "[I", Cond.fieldLink RX1 18 "NetShapes$Bars" "length" "[D", Cond.fieldLink RX1 22 "NetShapes$Bars" "width" "[D", Cond.fieldLink RX1 25 "NetShapes$Bars" "strength" "[D"]
def wsX6_init_r3 : List Cond := [Cond.fieldLink RX1 28 "NetShapes$Bars" "pulls" "[D", Cond.fieldLink RX1 31 "NetShapes$Bars" "count" "I", Cond.instanceMethod yX5_init, Cond.code yX5_init cX5_init 1 none, Cond.methodLink RX5 3 objectInit, Cond.fieldLink RX5 9 "NetShapes$Water" "depths" "[D", Cond.fieldLink RX5 15 "NetShapes$Water" "towardsX" "[D", Cond.fieldLink RX5 18 "NetShapes$Water" "towardsY" "[D", Cond.fieldLink RX5 21 "NetShapes$Water" "count" "I", Cond.fieldLink RX5 25 "NetShapes$Water" "waveShare" "D", Cond.fieldLink RX5 29 "NetShapes$Water" "foulShare" "D", Cond.methodLink RX6 32 yX0_init, Cond.instanceMethod yX0_init, Cond.code yX0_init cX0_init 4 none, Cond.methodLink RX0 3 objectInit, Cond.fieldLink RX0 9 "NetShapes$Balance" "drags" "[D", Cond.constantDouble RX0 15 (13830554455654793216), Cond.fieldLink RX0 17 "NetShapes$Balance" "greatestForce" "D", Cond.fieldLink RX0 21 "NetShapes$Balance" "span" "[D", Cond.fieldLink RX0 24 "NetShapes$Balance" "acrossFlow" "[D", Cond.fieldLink RX0 27 "NetShapes$Balance" "nodes" "LNetShapes$Nodes;", Cond.fieldLink RX0 31 "NetShapes$Balance" "bars" "LNetShapes$Bars;", Cond.fieldLink RX0 35 "NetShapes$Balance" "water" "LNetShapes$Water;", Cond.instanceMethod yX2_init]
def wsX6_init_r4 : List Cond := [Cond.code yX2_init cX2_init 1 none, Cond.methodLink RX2 3 objectInit, Cond.fieldLink RX2 9 "NetShapes$Fuels" "kept" "[D", Cond.fieldLink RX2 15 "NetShapes$Fuels" "count" "I", Cond.fieldLink RX2 19 "NetShapes$Fuels" "next" "I", Cond.instanceMethod yX4_init, Cond.code yX4_init cX4_init 1 none, Cond.methodLink RX4 3 objectInit, Cond.fieldLink RX4 9 "NetShapes$Panels" "top" "[I", Cond.fieldLink RX4 15 "NetShapes$Panels" "bottom" "[I", Cond.fieldLink RX4 18 "NetShapes$Panels" "deep" "[I", Cond.fieldLink RX4 21 "NetShapes$Panels" "across" "[I", Cond.fieldLink RX4 24 "NetShapes$Panels" "down" "[I", Cond.fieldLink RX4 27 "NetShapes$Panels" "count" "I", Cond.fieldLink RX4 31 "NetShapes$Panels" "shelfUsed" "I", Cond.fieldLink RX4 34 "NetShapes$Panels" "shelfStart" "I", Cond.fieldLink RX4 37 "NetShapes$Panels" "shelfDeep" "I"]
def wsX6_init : List Cond := .code yX6_init cX6_init 1 none :: ((wsX6_init_r1 ++ (wsX6_init_r2 ++ (wsX6_init_r3 ++ wsX6_init_r4))) ++ wsX30 ++ wsX60 ++ wsX10 ++ wsX50 ++ wsX00 ++ wsX20 ++ wsX40)
def wsX6_within : List Cond := .code yX6_within cX6_within 6 (some .boolean) :: ([])
def wsX6_isPlace : List Cond := .code yX6_isPlace cX6_isPlace 2 (some .boolean) :: ([.constantDouble RX6 204 (13875379345695965184), .constantDouble RX6 72 (4652007308841189376), .methodLink RX6 74 yX6_within, .static yX6_within, .initialized RX6, .code yX6_within cX6_within 6 (some .boolean)])
def wsX6_node : List Cond := .code yX6_node cX6_node 7 (some .int) :: ([.fieldLink RX6 10 "NetShapes" "nodes" "LNetShapes$Nodes;", .fieldLink RX6 53 "NetShapes$Nodes" "count" "I", .methodLink RX6 57 yX6_isPlace, .static yX6_isPlace, .initialized RX6, .code yX6_isPlace cX6_isPlace 2 (some .boolean), .constantDouble RX6 204 (13875379345695965184), .constantDouble RX6 72 (4652007308841189376), .methodLink RX6 74 yX6_within, .static yX6_within, .code yX6_within cX6_within 6 (some .boolean), .methodLink RX6 61 yX3_add, .instanceMethod yX3_add, .selects RX3 yX3_add yX3_add, .initialized RX3, .code yX3_add cX3_add 8 (some .int), .fieldLink RX3 30 "NetShapes$Nodes" "count" "I", .fieldLink RX3 11 "NetShapes$Nodes" "places" "[[D"] ++ wsX60 ++ wsX30)
def wsX6_bar_r1 : List Cond := [Cond.fieldLink RX6 10 "NetShapes" "nodes" "LNetShapes$Nodes;", Cond.fieldLink RX6 19 "NetShapes" "bars" "LNetShapes$Bars;", Cond.fieldLink RX6 69 "NetShapes$Bars" "count" "I", Cond.constantDouble RX6 70 (4593671619917905920), Cond.constantDouble RX6 72 (4652007308841189376), Cond.constantDouble RX6 78 (4621819117588971520), Cond.constantDouble RX6 80 (4696837146684686336), Cond.methodLink RX6 65 yX3_has, Cond.instanceMethod yX3_has, Cond.selects RX3 yX3_has yX3_has, Cond.initialized RX3, Cond.code yX3_has cX3_has 2 (some .boolean), Cond.fieldLink RX3 30 "NetShapes$Nodes" "count" "I", Cond.methodLink RX6 74 yX6_within, Cond.static yX6_within, Cond.initialized RX6, Cond.code yX6_within cX6_within 6 (some .boolean), Cond.methodLink RX6 82 yX1_add, Cond.instanceMethod yX1_add, Cond.selects RX1 yX1_add yX1_add, Cond.initialized RX1, Cond.code yX1_add cX1_add 10 (some .int), Cond.fieldLink RX1 31 "NetShapes$Bars" "count" "I", Cond.fieldLink RX1 9 "NetShapes$Bars" "from" "[I"]
def wsX6_bar_r2 : List Cond := [Cond.fieldLink RX1 15 "NetShapes$Bars" "to" "[I", Cond.fieldLink RX1 18 "NetShapes$Bars" "length" "[D", Cond.fieldLink RX1 22 "NetShapes$Bars" "width" "[D", Cond.fieldLink RX1 25 "NetShapes$Bars" "strength" "[D", Cond.fieldLink RX1 28 "NetShapes$Bars" "pulls" "[D", Cond.constantDouble RX1 35 (13830554455654793216)]
def wsX6_bar : List Cond := .code yX6_bar cX6_bar 9 (some .int) :: ((wsX6_bar_r1 ++ wsX6_bar_r2) ++ wsX60 ++ wsX10 ++ wsX30)
def wsX6_fix : List Cond := .code yX6_fix cX6_fix 2 (some .boolean) :: ([.fieldLink RX6 10 "NetShapes" "nodes" "LNetShapes$Nodes;", .fieldLink RX6 85 "NetShapes$Nodes" "fixed" "[Z", .methodLink RX6 65 yX3_has, .instanceMethod yX3_has, .selects RX3 yX3_has yX3_has, .initialized RX3, .code yX3_has cX3_has 2 (some .boolean), .fieldLink RX3 30 "NetShapes$Nodes" "count" "I"] ++ wsX60 ++ wsX30)
def wsX6_floats : List Cond := .code yX6_floats cX6_floats 4 (some .boolean) :: ([.fieldLink RX6 10 "NetShapes" "nodes" "LNetShapes$Nodes;", .constantDouble RX6 89 (13904980397738950656), .constantDouble RX6 91 (4681608360884174848), .fieldLink RX6 93 "NetShapes$Nodes" "lift" "[D", .methodLink RX6 65 yX3_has, .instanceMethod yX3_has, .selects RX3 yX3_has yX3_has, .initialized RX3, .code yX3_has cX3_has 2 (some .boolean), .fieldLink RX3 30 "NetShapes$Nodes" "count" "I", .methodLink RX6 74 yX6_within, .static yX6_within, .initialized RX6, .code yX6_within cX6_within 6 (some .boolean)] ++ wsX60 ++ wsX30)
def wsX6_eighthOfTurn : List Cond := .code yX6_eighthOfTurn cX6_eighthOfTurn 3 (some .int) :: ([])
def wsX6_partTowardsX : List Cond := .code yX6_partTowardsX cX6_partTowardsX 5 (some .double) :: ([.constantDouble RX6 206 (4604544271217802189)])
def wsX6_current_r1 : List Cond := [Cond.constantDouble RX6 78 (4621819117588971520), Cond.fieldLink RX6 26 "NetShapes" "water" "LNetShapes$Water;", Cond.methodLink RX6 97 yX6_eighthOfTurn, Cond.static yX6_eighthOfTurn, Cond.initialized RX6, Cond.code yX6_eighthOfTurn cX6_eighthOfTurn 3 (some .int), Cond.methodLink RX6 57 yX6_isPlace, Cond.static yX6_isPlace, Cond.code yX6_isPlace cX6_isPlace 2 (some .boolean), Cond.constantDouble RX6 204 (13875379345695965184), Cond.constantDouble RX6 72 (4652007308841189376), Cond.methodLink RX6 74 yX6_within, Cond.static yX6_within, Cond.code yX6_within cX6_within 6 (some .boolean), Cond.methodLink RX6 101 yX6_partTowardsX, Cond.static yX6_partTowardsX, Cond.code yX6_partTowardsX cX6_partTowardsX 5 (some .double), Cond.constantDouble RX6 206 (4604544271217802189), Cond.methodLink RX6 105 yX5_tell, Cond.instanceMethod yX5_tell, Cond.selects RX5 yX5_tell yX5_tell, Cond.initialized RX5, Cond.code yX5_tell cX5_tell 8 (some .boolean), Cond.fieldLink RX5 9 "NetShapes$Water" "depths" "[D"]
def wsX6_current_r2 : List Cond := [Cond.fieldLink RX5 21 "NetShapes$Water" "count" "I", Cond.fieldLink RX5 15 "NetShapes$Water" "towardsX" "[D", Cond.fieldLink RX5 18 "NetShapes$Water" "towardsY" "[D", Cond.methodLink RX5 32 yX5_rowAtOrAbove, Cond.instanceMethod yX5_rowAtOrAbove, Cond.selects RX5 yX5_rowAtOrAbove yX5_rowAtOrAbove, Cond.code yX5_rowAtOrAbove cX5_rowAtOrAbove 5 (some .int), Cond.methodLink RX5 36 yX5_makeRoomAt, Cond.instanceMethod yX5_makeRoomAt, Cond.selects RX5 yX5_makeRoomAt yX5_makeRoomAt, Cond.code yX5_makeRoomAt cX5_makeRoomAt 3 none]
def wsX6_current : List Cond := .code yX6_current cX6_current 9 (some .boolean) :: ((wsX6_current_r1 ++ wsX6_current_r2) ++ wsX60 ++ wsX50)
def wsX6_run_r1 : List Cond := [Cond.fieldLink RX6 10 "NetShapes" "nodes" "LNetShapes$Nodes;", Cond.fieldLink RX6 53 "NetShapes$Nodes" "count" "I", Cond.fieldLink RX6 35 "NetShapes" "balance" "LNetShapes$Balance;", Cond.fieldLink RX6 42 "NetShapes" "fuels" "LNetShapes$Fuels;", Cond.fieldLink RX6 112 "NetShapes$Balance" "drags" "[D", Cond.methodLink RX6 108 yX0_comesInRound, Cond.instanceMethod yX0_comesInRound, Cond.selects RX0 yX0_comesInRound yX0_comesInRound, Cond.initialized RX0, Cond.code yX0_comesInRound cX0_comesInRound 4 (some .boolean), Cond.fieldLink RX0 27 "NetShapes$Balance" "nodes" "LNetShapes$Nodes;", Cond.fieldLink RX0 9 "NetShapes$Balance" "drags" "[D", Cond.fieldLink RX0 31 "NetShapes$Balance" "bars" "LNetShapes$Bars;", Cond.fieldLink RX0 44 "NetShapes$Bars" "count" "I", Cond.fieldLink RX0 17 "NetShapes$Balance" "greatestForce" "D", Cond.methodLink RX0 39 yX3_startForces, Cond.instanceMethod yX3_startForces, Cond.selects RX3 yX3_startForces yX3_startForces, Cond.initialized RX3, Cond.code yX3_startForces cX3_startForces 2 none, Cond.fieldLink RX3 30 "NetShapes$Nodes" "count" "I", Cond.fieldLink RX3 16 "NetShapes$Nodes" "forces" "[[D", Cond.fieldLink RX3 23 "NetShapes$Nodes" "load" "[D", Cond.fieldLink RX3 19 "NetShapes$Nodes" "lift" "[D"]
def wsX6_run_r2 : List Cond := [Cond.methodLink RX0 50 yX0_measure, Cond.instanceMethod yX0_measure, Cond.selects RX0 yX0_measure yX0_measure, Cond.code yX0_measure cX0_measure 4 (some .double), Cond.fieldLink RX0 67 "NetShapes$Nodes" "places" "[[D", Cond.fieldLink RX0 21 "NetShapes$Balance" "span" "[D", Cond.fieldLink RX0 71 "NetShapes$Bars" "to" "[I", Cond.fieldLink RX0 75 "NetShapes$Bars" "from" "[I", Cond.methodLink RX0 78 yX0_lengthOf, Cond.static yX0_lengthOf, Cond.code yX0_lengthOf cX0_lengthOf 1 (some .double), Cond.static yX6_root, Cond.initialized RX6, Cond.code yX6_root cX6_root 7 (some .double), Cond.constantDouble RX6 208 (4602678819172646912), Cond.methodLink RX0 54 yX0_tighten, Cond.instanceMethod yX0_tighten, Cond.selects RX0 yX0_tighten yX0_tighten, Cond.code yX0_tighten cX0_tighten 11 none, Cond.fieldLink RX0 86 "NetShapes$Bars" "length" "[D", Cond.constantDouble RX0 89 (4656510908468559872), Cond.fieldLink RX0 91 "NetShapes$Bars" "pulls" "[D", Cond.fieldLink RX0 94 "NetShapes$Nodes" "forces" "[[D", Cond.methodLink RX0 58 yX0_wash]
def wsX6_run_r3 : List Cond := [Cond.instanceMethod yX0_wash, Cond.selects RX0 yX0_wash yX0_wash, Cond.code yX0_wash cX0_wash 7 none, Cond.constantDouble RX0 100 (4638707616191610880), Cond.fieldLink RX0 102 "NetShapes$Bars" "width" "[D", Cond.fieldLink RX0 35 "NetShapes$Balance" "water" "LNetShapes$Water;", Cond.fieldLink RX0 105 "NetShapes$Water" "foulShare" "D", Cond.fieldLink RX0 24 "NetShapes$Balance" "acrossFlow" "[D", Cond.constantDouble RX0 110 (4611686018427387904), Cond.methodLink RX0 97 yX0_findFlowAcross, Cond.instanceMethod yX0_findFlowAcross, Cond.selects RX0 yX0_findFlowAcross yX0_findFlowAcross, Cond.code yX0_findFlowAcross cX0_findFlowAcross 14 none, Cond.constantDouble RX0 112 (4602678819172646912), Cond.fieldLink RX0 118 "NetShapes$Water" "towardsX" "[D", Cond.fieldLink RX0 125 "NetShapes$Water" "towardsY" "[D", Cond.methodLink RX0 114 yX5_rowAtOrAbove, Cond.instanceMethod yX5_rowAtOrAbove, Cond.selects RX5 yX5_rowAtOrAbove yX5_rowAtOrAbove, Cond.initialized RX5, Cond.code yX5_rowAtOrAbove cX5_rowAtOrAbove 5 (some .int), Cond.fieldLink RX5 21 "NetShapes$Water" "count" "I", Cond.fieldLink RX5 9 "NetShapes$Water" "depths" "[D", Cond.methodLink RX0 121 yX5_speedAt]
def wsX6_run_r4 : List Cond := [Cond.instanceMethod yX5_speedAt, Cond.selects RX5 yX5_speedAt yX5_speedAt, Cond.code yX5_speedAt cX5_speedAt 5 (some .double), Cond.fieldLink RX5 25 "NetShapes$Water" "waveShare" "D", Cond.methodLink RX5 40 yX5_speedOfRows, Cond.instanceMethod yX5_speedOfRows, Cond.selects RX5 yX5_speedOfRows yX5_speedOfRows, Cond.code yX5_speedOfRows cX5_speedOfRows 7 (some .double), Cond.methodLink RX0 61 yX3_greatestForce, Cond.instanceMethod yX3_greatestForce, Cond.selects RX3 yX3_greatestForce yX3_greatestForce, Cond.code yX3_greatestForce cX3_greatestForce 7 (some .double), Cond.fieldLink RX3 26 "NetShapes$Nodes" "fixed" "[Z", Cond.static yX6_size, Cond.code yX6_size cX6_size 2 (some .double), Cond.methodLink RX0 64 yX3_giveWay, Cond.instanceMethod yX3_giveWay, Cond.selects RX3 yX3_giveWay yX3_giveWay, Cond.code yX3_giveWay cX3_giveWay 3 none, Cond.fieldLink RX3 11 "NetShapes$Nodes" "places" "[[D", Cond.methodLink RX3 38 yX3_stepFor, Cond.static yX3_stepFor, Cond.code yX3_stepFor cX3_stepFor 6 (some .double), Cond.constantDouble RX3 41 (4598175219545276416)]
def wsX6_run_r5 : List Cond := [Cond.constantDouble RX3 43 (4557750909289998844), Cond.methodLink RX6 115 yX6_size, Cond.methodLink RX6 119 yX3_spread, Cond.instanceMethod yX3_spread, Cond.selects RX3 yX3_spread yX3_spread, Cond.code yX3_spread cX3_spread 8 (some .double), Cond.methodLink RX6 123 yX2_add, Cond.instanceMethod yX2_add, Cond.selects RX2 yX2_add yX2_add, Cond.initialized RX2, Cond.code yX2_add cX2_add 3 none, Cond.fieldLink RX2 9 "NetShapes$Fuels" "kept" "[D", Cond.fieldLink RX2 19 "NetShapes$Fuels" "next" "I", Cond.fieldLink RX2 15 "NetShapes$Fuels" "count" "I", Cond.methodLink RX2 22 Lib.Math.min.name, Cond.static Lib.Math.min.name, Cond.initialized "java/lang/Math", Cond.code Lib.Math.min.name Lib.Math.min.code 2 (some .int)]
def wsX6_run : List Cond := .code yX6_run cX6_run 3 (some .int) :: ((wsX6_run_r1 ++ (wsX6_run_r2 ++ (wsX6_run_r3 ++ (wsX6_run_r4 ++ wsX6_run_r5)))) ++ wsX60 ++ wsX30 ++ wsX00 ++ wsX10 ++ wsX50 ++ wsX20)
def wsX6_isAxis : List Cond := .code yX6_isAxis cX6_isAxis 1 (some .boolean) :: ([])
def wsX6_at : List Cond := .code yX6_at cX6_at 3 (some .double) :: ([.fieldLink RX6 10 "NetShapes" "nodes" "LNetShapes$Nodes;", .fieldLink RX6 129 "NetShapes$Nodes" "places" "[[D", .methodLink RX6 65 yX3_has, .instanceMethod yX3_has, .selects RX3 yX3_has yX3_has, .initialized RX3, .code yX3_has cX3_has 2 (some .boolean), .fieldLink RX3 30 "NetShapes$Nodes" "count" "I", .methodLink RX6 126 yX6_isAxis, .static yX6_isAxis, .initialized RX6, .code yX6_isAxis cX6_isAxis 1 (some .boolean)] ++ wsX60 ++ wsX30)
def wsX6_pull : List Cond := .code yX6_pull cX6_pull 2 (some .double) :: ([.fieldLink RX6 19 "NetShapes" "bars" "LNetShapes$Bars;", .fieldLink RX6 134 "NetShapes$Bars" "pulls" "[D", .constantDouble RX6 137 (13830554455654793216), .methodLink RX6 133 yX1_has, .instanceMethod yX1_has, .selects RX1 yX1_has yX1_has, .initialized RX1, .code yX1_has cX1_has 2 (some .boolean), .fieldLink RX1 31 "NetShapes$Bars" "count" "I"] ++ wsX60 ++ wsX10)
def wsX6_residual : List Cond := .code yX6_residual cX6_residual 1 (some .double) :: ([.fieldLink RX6 35 "NetShapes" "balance" "LNetShapes$Balance;", .fieldLink RX6 139 "NetShapes$Balance" "greatestForce" "D"] ++ wsX60 ++ wsX00)
def wsX6_drag : List Cond := .code yX6_drag cX6_drag 2 (some .double) :: ([.fieldLink RX6 35 "NetShapes" "balance" "LNetShapes$Balance;", .fieldLink RX6 112 "NetShapes$Balance" "drags" "[D", .methodLink RX6 126 yX6_isAxis, .static yX6_isAxis, .initialized RX6, .code yX6_isAxis cX6_isAxis 1 (some .boolean)] ++ wsX60 ++ wsX00)
def wsX6_over : List Cond := .code yX6_over cX6_over 2 (some .int) :: ([.fieldLink RX6 19 "NetShapes" "bars" "LNetShapes$Bars;", .methodLink RX6 143 yX1_overloaded, .instanceMethod yX1_overloaded, .selects RX1 yX1_overloaded yX1_overloaded, .initialized RX1, .code yX1_overloaded cX1_overloaded 4 (some .int), .fieldLink RX1 31 "NetShapes$Bars" "count" "I", .fieldLink RX1 28 "NetShapes$Bars" "pulls" "[D", .fieldLink RX1 25 "NetShapes$Bars" "strength" "[D"] ++ wsX60 ++ wsX10)
def wsX6_open : List Cond := .code yX6_open cX6_open 2 (some .double) :: ([.fieldLink RX6 10 "NetShapes" "nodes" "LNetShapes$Nodes;", .fieldLink RX6 53 "NetShapes$Nodes" "count" "I", .constantDouble RX6 137 (13830554455654793216), .methodLink RX6 126 yX6_isAxis, .static yX6_isAxis, .initialized RX6, .code yX6_isAxis cX6_isAxis 1 (some .boolean), .methodLink RX6 119 yX3_spread, .instanceMethod yX3_spread, .selects RX3 yX3_spread yX3_spread, .initialized RX3, .code yX3_spread cX3_spread 8 (some .double), .fieldLink RX3 11 "NetShapes$Nodes" "places" "[[D", .fieldLink RX3 30 "NetShapes$Nodes" "count" "I"] ++ wsX60 ++ wsX30)
def wsX6_catchAt : List Cond := .code yX6_catchAt cX6_catchAt 4 (some .boolean) :: ([.fieldLink RX6 10 "NetShapes" "nodes" "LNetShapes$Nodes;", .constantDouble RX6 91 (4681608360884174848), .fieldLink RX6 147 "NetShapes$Nodes" "load" "[D", .methodLink RX6 65 yX3_has, .instanceMethod yX3_has, .selects RX3 yX3_has yX3_has, .initialized RX3, .code yX3_has cX3_has 2 (some .boolean), .fieldLink RX3 30 "NetShapes$Nodes" "count" "I", .methodLink RX6 74 yX6_within, .static yX6_within, .initialized RX6, .code yX6_within cX6_within 6 (some .boolean)] ++ wsX60 ++ wsX30)
def wsX6_isPanelWidth : List Cond := .code yX6_isPanelWidth cX6_isPanelWidth 1 (some .boolean) :: ([])
def wsX6_panel_r1 : List Cond := [Cond.fieldLink RX6 49 "NetShapes" "panels" "LNetShapes$Panels;", Cond.fieldLink RX6 150 "NetShapes$Panels" "count" "I", Cond.methodLink RX6 151 yX6_isPanelWidth, Cond.static yX6_isPanelWidth, Cond.initialized RX6, Cond.code yX6_isPanelWidth cX6_isPanelWidth 1 (some .boolean), Cond.methodLink RX6 154 yX4_add, Cond.instanceMethod yX4_add, Cond.selects RX4 yX4_add yX4_add, Cond.initialized RX4, Cond.code yX4_add cX4_add 5 (some .int), Cond.fieldLink RX4 27 "NetShapes$Panels" "count" "I", Cond.fieldLink RX4 9 "NetShapes$Panels" "top" "[I", Cond.fieldLink RX4 15 "NetShapes$Panels" "bottom" "[I", Cond.fieldLink RX4 18 "NetShapes$Panels" "deep" "[I", Cond.methodLink RX4 40 yX4_lay, Cond.instanceMethod yX4_lay, Cond.selects RX4 yX4_lay yX4_lay, Cond.code yX4_lay cX4_lay 3 none, Cond.methodLink RX4 44 Lib.Math.max.name, Cond.static Lib.Math.max.name, Cond.initialized "java/lang/Math", Cond.code Lib.Math.max.name Lib.Math.max.code 2 (some .int), Cond.fieldLink RX4 31 "NetShapes$Panels" "shelfUsed" "I"]
def wsX6_panel_r2 : List Cond := [Cond.fieldLink RX4 34 "NetShapes$Panels" "shelfStart" "I", Cond.fieldLink RX4 37 "NetShapes$Panels" "shelfDeep" "I", Cond.fieldLink RX4 21 "NetShapes$Panels" "across" "[I", Cond.fieldLink RX4 24 "NetShapes$Panels" "down" "[I"]
def wsX6_panel : List Cond := .code yX6_panel cX6_panel 4 (some .int) :: ((wsX6_panel_r1 ++ wsX6_panel_r2) ++ wsX60 ++ wsX40)
def wsX6_cut : List Cond := .code yX6_cut cX6_cut 4 (some .int) :: ([.fieldLink RX6 49 "NetShapes" "panels" "LNetShapes$Panels;", .fieldLink RX6 158 "NetShapes$Panels" "deep" "[I", .methodLink RX6 157 yX4_has, .instanceMethod yX4_has, .selects RX4 yX4_has yX4_has, .initialized RX4, .code yX4_has cX4_has 2 (some .boolean), .fieldLink RX4 27 "NetShapes$Panels" "count" "I", .methodLink RX6 162 yX4_meshesAfter, .instanceMethod yX4_meshesAfter, .selects RX4 yX4_meshesAfter yX4_meshesAfter, .code yX4_meshesAfter cX4_meshesAfter 4 (some .int), .fieldLink RX4 15 "NetShapes$Panels" "bottom" "[I", .fieldLink RX4 9 "NetShapes$Panels" "top" "[I", .fieldLink RX4 18 "NetShapes$Panels" "deep" "[I"] ++ wsX60 ++ wsX40)
def wsX6_whole : List Cond := .code yX6_whole cX6_whole 2 (some .boolean) :: ([.fieldLink RX6 49 "NetShapes" "panels" "LNetShapes$Panels;", .fieldLink RX6 166 "NetShapes$Panels" "bottom" "[I", .fieldLink RX6 169 "NetShapes$Panels" "top" "[I", .methodLink RX6 157 yX4_has, .instanceMethod yX4_has, .selects RX4 yX4_has yX4_has, .initialized RX4, .code yX4_has cX4_has 2 (some .boolean), .fieldLink RX4 27 "NetShapes$Panels" "count" "I"] ++ wsX60 ++ wsX40)
def wsX6_edge : List Cond := .code yX6_edge cX6_edge 3 (some .int) :: ([.fieldLink RX6 49 "NetShapes" "panels" "LNetShapes$Panels;", .fieldLink RX6 166 "NetShapes$Panels" "bottom" "[I", .fieldLink RX6 169 "NetShapes$Panels" "top" "[I", .methodLink RX6 172 Lib.Math.min.name, .static Lib.Math.min.name, .initialized "java/lang/Math", .code Lib.Math.min.name Lib.Math.min.code 2 (some .int), .methodLink RX6 157 yX4_has, .instanceMethod yX4_has, .selects RX4 yX4_has yX4_has, .initialized RX4, .code yX4_has cX4_has 2 (some .boolean), .fieldLink RX4 27 "NetShapes$Panels" "count" "I"] ++ wsX60 ++ wsX40)
def wsX6_foul : List Cond := .code yX6_foul cX6_foul 3 (some .boolean) :: ([.constantDouble RX6 177 (4617315517961601024), .fieldLink RX6 26 "NetShapes" "water" "LNetShapes$Water;", .fieldLink RX6 179 "NetShapes$Water" "foulShare" "D", .methodLink RX6 74 yX6_within, .static yX6_within, .initialized RX6, .code yX6_within cX6_within 6 (some .boolean)] ++ wsX60 ++ wsX50)
def wsX6_wave : List Cond := .code yX6_wave cX6_wave 6 (some .int) :: ([.constantDouble RX6 182 (4629137466983448576), .constantDouble RX6 184 (4633641066610819072), .fieldLink RX6 26 "NetShapes" "water" "LNetShapes$Water;", .constantDouble RX6 186 (4636737291354636288), .fieldLink RX6 188 "NetShapes$Water" "waveShare" "D", .fieldLink RX6 191 "NetShapes$Water" "count" "I", .methodLink RX6 74 yX6_within, .static yX6_within, .initialized RX6, .code yX6_within cX6_within 6 (some .boolean)] ++ wsX60 ++ wsX50)
def wsX6_mirrored : List Cond := .code yX6_mirrored cX6_mirrored 2 (some .boolean) :: ([.fieldLink RX6 10 "NetShapes" "nodes" "LNetShapes$Nodes;", .fieldLink RX6 53 "NetShapes$Nodes" "count" "I", .methodLink RX6 192 yX3_hasMirrorImage, .instanceMethod yX3_hasMirrorImage, .selects RX3 yX3_hasMirrorImage yX3_hasMirrorImage, .initialized RX3, .code yX3_hasMirrorImage cX3_hasMirrorImage 5 (some .boolean), .fieldLink RX3 11 "NetShapes$Nodes" "places" "[[D", .fieldLink RX3 30 "NetShapes$Nodes" "count" "I"] ++ wsX60 ++ wsX30)
def wsX6_best : List Cond := .code yX6_best cX6_best 2 (some .int) :: ([.fieldLink RX6 42 "NetShapes" "fuels" "LNetShapes$Fuels;", .methodLink RX6 195 yX2_leastOfLatest, .instanceMethod yX2_leastOfLatest, .selects RX2 yX2_leastOfLatest yX2_leastOfLatest, .initialized RX2, .code yX2_leastOfLatest cX2_leastOfLatest 4 (some .int), .fieldLink RX2 15 "NetShapes$Fuels" "count" "I", .methodLink RX2 28 yX2_backwards, .instanceMethod yX2_backwards, .selects RX2 yX2_backwards yX2_backwards, .code yX2_backwards cX2_backwards 2 (some .double), .fieldLink RX2 9 "NetShapes$Fuels" "kept" "[D", .fieldLink RX2 19 "NetShapes$Fuels" "next" "I", .methodLink RX2 32 yJ9_floorMod_7cf53, .static yJ9_floorMod_7cf53, .initialized RJ9, .code yJ9_floorMod_7cf53 cJ9_floorMod_7cf53 3 (some .int)] ++ wsX60 ++ wsX20)
def wsX6_sheet : List Cond := .code yX6_sheet cX6_sheet 3 (some .int) :: ([.fieldLink RX6 49 "NetShapes" "panels" "LNetShapes$Panels;", .fieldLink RX6 198 "NetShapes$Panels" "across" "[I", .fieldLink RX6 201 "NetShapes$Panels" "down" "[I", .methodLink RX6 157 yX4_has, .instanceMethod yX4_has, .selects RX4 yX4_has yX4_has, .initialized RX4, .code yX4_has cX4_has 2 (some .boolean), .fieldLink RX4 27 "NetShapes$Panels" "count" "I"] ++ wsX60 ++ wsX40)
def wsX7_init_r1 : List Cond := [Cond.methodLink RX7 1 objectInit, Cond.instanceMethod objectInit, Cond.code objectInit ⟨#[0xb1]⟩ 1 none, Cond.arrayClass .double, Cond.fieldLink RX7 7 "NetShapesModel" "x" "[D", Cond.fieldLink RX7 13 "NetShapesModel" "y" "[D", Cond.fieldLink RX7 16 "NetShapesModel" "z" "[D", Cond.fieldLink RX7 19 "NetShapesModel" "lift" "[D", Cond.fieldLink RX7 22 "NetShapesModel" "caught" "[D", Cond.arrayClass .boolean, Cond.fieldLink RX7 25 "NetShapesModel" "fixed" "[Z", Cond.fieldLink RX7 29 "NetShapesModel" "fx" "[D", Cond.fieldLink RX7 32 "NetShapesModel" "fy" "[D", Cond.fieldLink RX7 35 "NetShapesModel" "fz" "[D", Cond.arrayClass .int, Cond.fieldLink RX7 38 "NetShapesModel" "from" "[I", Cond.fieldLink RX7 42 "NetShapesModel" "to" "[I", Cond.fieldLink RX7 45 "NetShapesModel" "natural" "[D", Cond.fieldLink RX7 48 "NetShapesModel" "width" "[D", Cond.fieldLink RX7 51 "NetShapesModel" "strong" "[D", Cond.fieldLink RX7 54 "NetShapesModel" "pulls" "[D", Cond.fieldLink RX7 57 "NetShapesModel" "rowDepth" "[D", Cond.fieldLink RX7 60 "NetShapesModel" "rowX" "[D", Cond.fieldLink RX7 63 "NetShapesModel" "rowY" "[D"]
def wsX7_init_r2 : List Cond := [Cond.constantDouble RX7 66 (13830554455654793216), Cond.fieldLink RX7 68 "NetShapesModel" "residual" "D", Cond.fieldLink RX7 72 "NetShapesModel" "drags" "[D", Cond.fieldLink RX7 75 "NetShapesModel" "fuels" "[D", Cond.fieldLink RX7 78 "NetShapesModel" "tops" "[I", Cond.fieldLink RX7 81 "NetShapesModel" "bottoms" "[I", Cond.fieldLink RX7 84 "NetShapesModel" "deeps" "[I"]
def wsX7_init : List Cond := .code yX7_init cX7_init 1 none :: ((wsX7_init_r1 ++ wsX7_init_r2) ++ wsX70)
def wsX7_isIn : List Cond := .code yX7_isIn cX7_isIn 6 (some .boolean) :: ([])
def wsX7_root : List Cond := .code yX7_root cX7_root 5 (some .double) :: ([.constantDouble RX7 87 (4602678819172646912)])
def wsX7_size : List Cond := .code yX7_size cX7_size 2 (some .double) :: ([])
def wsX7_node : List Cond := .code yX7_node cX7_node 7 (some .int) :: ([.fieldLink RX7 89 "NetShapesModel" "nodes" "I", .constantDouble RX7 93 (13875379345695965184), .constantDouble RX7 95 (4652007308841189376), .fieldLink RX7 7 "NetShapesModel" "x" "[D", .fieldLink RX7 13 "NetShapesModel" "y" "[D", .fieldLink RX7 16 "NetShapesModel" "z" "[D", .methodLink RX7 97 yX7_isIn, .static yX7_isIn, .initialized RX7, .code yX7_isIn cX7_isIn 6 (some .boolean)] ++ wsX70)
def wsX7_isNode : List Cond := .code yX7_isNode cX7_isNode 2 (some .boolean) :: ([.fieldLink RX7 89 "NetShapesModel" "nodes" "I"] ++ wsX70)
def wsX7_bar : List Cond := .code yX7_bar cX7_bar 9 (some .int) :: ([.fieldLink RX7 105 "NetShapesModel" "bars" "I", .constantDouble RX7 108 (4593671619917905920), .constantDouble RX7 95 (4652007308841189376), .constantDouble RX7 110 (4621819117588971520), .constantDouble RX7 112 (4696837146684686336), .fieldLink RX7 38 "NetShapesModel" "from" "[I", .fieldLink RX7 42 "NetShapesModel" "to" "[I", .fieldLink RX7 45 "NetShapesModel" "natural" "[D", .fieldLink RX7 48 "NetShapesModel" "width" "[D", .fieldLink RX7 51 "NetShapesModel" "strong" "[D", .fieldLink RX7 54 "NetShapesModel" "pulls" "[D", .constantDouble RX7 66 (13830554455654793216), .methodLink RX7 101 yX7_isNode, .instanceMethod yX7_isNode, .selects RX7 yX7_isNode yX7_isNode, .initialized RX7, .code yX7_isNode cX7_isNode 2 (some .boolean), .fieldLink RX7 89 "NetShapesModel" "nodes" "I", .methodLink RX7 97 yX7_isIn, .static yX7_isIn, .code yX7_isIn cX7_isIn 6 (some .boolean)] ++ wsX70)
def wsX7_fix : List Cond := .code yX7_fix cX7_fix 2 (some .boolean) :: ([.fieldLink RX7 25 "NetShapesModel" "fixed" "[Z", .methodLink RX7 101 yX7_isNode, .instanceMethod yX7_isNode, .selects RX7 yX7_isNode yX7_isNode, .initialized RX7, .code yX7_isNode cX7_isNode 2 (some .boolean), .fieldLink RX7 89 "NetShapesModel" "nodes" "I"] ++ wsX70)
def wsX7_floats : List Cond := .code yX7_floats cX7_floats 4 (some .boolean) :: ([.constantDouble RX7 114 (13904980397738950656), .constantDouble RX7 116 (4681608360884174848), .fieldLink RX7 19 "NetShapesModel" "lift" "[D", .methodLink RX7 101 yX7_isNode, .instanceMethod yX7_isNode, .selects RX7 yX7_isNode yX7_isNode, .initialized RX7, .code yX7_isNode cX7_isNode 2 (some .boolean), .fieldLink RX7 89 "NetShapesModel" "nodes" "I", .methodLink RX7 97 yX7_isIn, .static yX7_isIn, .code yX7_isIn cX7_isIn 6 (some .boolean)] ++ wsX70)
def wsX7_catchAt : List Cond := .code yX7_catchAt cX7_catchAt 4 (some .boolean) :: ([.constantDouble RX7 116 (4681608360884174848), .fieldLink RX7 22 "NetShapesModel" "caught" "[D", .methodLink RX7 101 yX7_isNode, .instanceMethod yX7_isNode, .selects RX7 yX7_isNode yX7_isNode, .initialized RX7, .code yX7_isNode cX7_isNode 2 (some .boolean), .fieldLink RX7 89 "NetShapesModel" "nodes" "I", .methodLink RX7 97 yX7_isIn, .static yX7_isIn, .code yX7_isIn cX7_isIn 6 (some .boolean)] ++ wsX70)
def wsX7_foul : List Cond := .code yX7_foul cX7_foul 3 (some .boolean) :: ([.constantDouble RX7 118 (4617315517961601024), .fieldLink RX7 120 "NetShapesModel" "fouled" "D", .methodLink RX7 97 yX7_isIn, .static yX7_isIn, .initialized RX7, .code yX7_isIn cX7_isIn 6 (some .boolean)] ++ wsX70)
def wsX7_wave : List Cond := .code yX7_wave cX7_wave 6 (some .int) :: ([.constantDouble RX7 123 (4629137466983448576), .constantDouble RX7 125 (4633641066610819072), .constantDouble RX7 127 (4636737291354636288), .fieldLink RX7 129 "NetShapesModel" "waves" "D", .fieldLink RX7 132 "NetShapesModel" "rows" "I", .methodLink RX7 97 yX7_isIn, .static yX7_isIn, .initialized RX7, .code yX7_isIn cX7_isIn 6 (some .boolean)] ++ wsX70)
def wsX7_current : List Cond := .code yX7_current cX7_current 11 (some .boolean) :: ([.constantDouble RX7 135 (4631530004285489152), .constantDouble RX7 93 (13875379345695965184), .constantDouble RX7 95 (4652007308841189376), .constantDouble RX7 110 (4621819117588971520), .constantDouble RX7 137 (4644249154795601920), .fieldLink RX7 132 "NetShapesModel" "rows" "I", .fieldLink RX7 57 "NetShapesModel" "rowDepth" "[D", .fieldLink RX7 60 "NetShapesModel" "rowX" "[D", .fieldLink RX7 63 "NetShapesModel" "rowY" "[D", .constantDouble RX7 139 (4604544271217802189), .methodLink RX7 97 yX7_isIn, .static yX7_isIn, .initialized RX7, .code yX7_isIn cX7_isIn 6 (some .boolean)] ++ wsX70)
def wsX7_speed : List Cond := .code yX7_speed cX7_speed 11 (some .double) :: ([.fieldLink RX7 132 "NetShapesModel" "rows" "I", .fieldLink RX7 57 "NetShapesModel" "rowDepth" "[D", .fieldLink RX7 60 "NetShapesModel" "rowX" "[D", .fieldLink RX7 63 "NetShapesModel" "rowY" "[D", .fieldLink RX7 129 "NetShapesModel" "waves" "D"] ++ wsX70)
def wsJ9_max_eb370 : List Cond := .code yJ9_max_eb370 cJ9_max_eb370 4 (some .double) :: ([.methodLink RJ9 79 ⟨"java/lang/Double", "doubleToRawLongBits", "(D)J"⟩, .native ⟨"java/lang/Double", "doubleToRawLongBits", "(D)J"⟩, .static ⟨"java/lang/Double", "doubleToRawLongBits", "(D)J"⟩, .initialized "java/lang/Double", .fieldLink RJ9 174 "java/lang/Math" "negativeZeroDoubleBits" "J"])
def wsX7_forces_r1 : List Cond := [Cond.fieldLink RX7 89 "NetShapesModel" "nodes" "I", Cond.fieldLink RX7 29 "NetShapesModel" "fx" "[D", Cond.fieldLink RX7 32 "NetShapesModel" "fy" "[D", Cond.fieldLink RX7 35 "NetShapesModel" "fz" "[D", Cond.fieldLink RX7 22 "NetShapesModel" "caught" "[D", Cond.fieldLink RX7 19 "NetShapesModel" "lift" "[D", Cond.fieldLink RX7 72 "NetShapesModel" "drags" "[D", Cond.fieldLink RX7 105 "NetShapesModel" "bars" "I", Cond.fieldLink RX7 38 "NetShapesModel" "from" "[I", Cond.fieldLink RX7 42 "NetShapesModel" "to" "[I", Cond.fieldLink RX7 7 "NetShapesModel" "x" "[D", Cond.fieldLink RX7 13 "NetShapesModel" "y" "[D", Cond.fieldLink RX7 16 "NetShapesModel" "z" "[D", Cond.fieldLink RX7 54 "NetShapesModel" "pulls" "[D", Cond.fieldLink RX7 45 "NetShapesModel" "natural" "[D", Cond.constantDouble RX7 145 (4656510908468559872), Cond.constantDouble RX7 87 (4602678819172646912), Cond.constantDouble RX7 151 (4638707616191610880), Cond.fieldLink RX7 48 "NetShapesModel" "width" "[D", Cond.fieldLink RX7 120 "NetShapesModel" "fouled" "D", Cond.constantDouble RX7 153 (4611686018427387904), Cond.fieldLink RX7 68 "NetShapesModel" "residual" "D", Cond.fieldLink RX7 25 "NetShapesModel" "fixed" "[Z", Cond.methodLink RX7 141 yX7_root]
def wsX7_forces_r2 : List Cond := [Cond.static yX7_root, Cond.initialized RX7, Cond.code yX7_root cX7_root 5 (some .double), Cond.methodLink RX7 147 yX7_speed, Cond.instanceMethod yX7_speed, Cond.selects RX7 yX7_speed yX7_speed, Cond.code yX7_speed cX7_speed 11 (some .double), Cond.fieldLink RX7 132 "NetShapesModel" "rows" "I", Cond.fieldLink RX7 57 "NetShapesModel" "rowDepth" "[D", Cond.fieldLink RX7 60 "NetShapesModel" "rowX" "[D", Cond.fieldLink RX7 63 "NetShapesModel" "rowY" "[D", Cond.fieldLink RX7 129 "NetShapesModel" "waves" "D", Cond.methodLink RX7 155 yX7_size, Cond.static yX7_size, Cond.code yX7_size cX7_size 2 (some .double), Cond.methodLink RX7 158 yJ9_max_eb370, Cond.static yJ9_max_eb370, Cond.initialized RJ9, Cond.code yJ9_max_eb370 cJ9_max_eb370 4 (some .double), Cond.methodLink RJ9 79 ⟨"java/lang/Double", "doubleToRawLongBits", "(D)J"⟩, Cond.native ⟨"java/lang/Double", "doubleToRawLongBits", "(D)J"⟩, Cond.static ⟨"java/lang/Double", "doubleToRawLongBits", "(D)J"⟩, Cond.initialized "java/lang/Double", Cond.fieldLink RJ9 174 "java/lang/Math" "negativeZeroDoubleBits" "J"]
def wsX7_forces : List Cond := .code yX7_forces cX7_forces 30 none :: ((wsX7_forces_r1 ++ wsX7_forces_r2) ++ wsX70)
def wsX7_moved : List Cond := .code yX7_moved cX7_moved 4 (some .double) :: ([.constantDouble RX7 164 (4557750909289998844), .constantDouble RX7 166 (4598175219545276416), .constantDouble RX7 168 (13821547256400052224)])
def wsX7_at : List Cond := .code yX7_at cX7_at 3 (some .double) :: ([.fieldLink RX7 7 "NetShapesModel" "x" "[D", .fieldLink RX7 13 "NetShapesModel" "y" "[D", .fieldLink RX7 16 "NetShapesModel" "z" "[D", .methodLink RX7 101 yX7_isNode, .instanceMethod yX7_isNode, .selects RX7 yX7_isNode yX7_isNode, .initialized RX7, .code yX7_isNode cX7_isNode 2 (some .boolean), .fieldLink RX7 89 "NetShapesModel" "nodes" "I"] ++ wsX70)
def wsJ9_min_eb370 : List Cond := .code yJ9_min_eb370 cJ9_min_eb370 4 (some .double) :: ([.methodLink RJ9 79 ⟨"java/lang/Double", "doubleToRawLongBits", "(D)J"⟩, .native ⟨"java/lang/Double", "doubleToRawLongBits", "(D)J"⟩, .static ⟨"java/lang/Double", "doubleToRawLongBits", "(D)J"⟩, .initialized "java/lang/Double", .fieldLink RJ9 174 "java/lang/Math" "negativeZeroDoubleBits" "J"])
def wsX7_open_r1 : List Cond := [Cond.fieldLink RX7 89 "NetShapesModel" "nodes" "I", Cond.constantDouble RX7 66 (13830554455654793216), Cond.methodLink RX7 183 yX7_at, Cond.instanceMethod yX7_at, Cond.selects RX7 yX7_at yX7_at, Cond.initialized RX7, Cond.code yX7_at cX7_at 3 (some .double), Cond.fieldLink RX7 7 "NetShapesModel" "x" "[D", Cond.fieldLink RX7 13 "NetShapesModel" "y" "[D", Cond.fieldLink RX7 16 "NetShapesModel" "z" "[D", Cond.methodLink RX7 101 yX7_isNode, Cond.instanceMethod yX7_isNode, Cond.selects RX7 yX7_isNode yX7_isNode, Cond.code yX7_isNode cX7_isNode 2 (some .boolean), Cond.methodLink RX7 187 yJ9_min_eb370, Cond.static yJ9_min_eb370, Cond.initialized RJ9, Cond.code yJ9_min_eb370 cJ9_min_eb370 4 (some .double), Cond.methodLink RJ9 79 ⟨"java/lang/Double", "doubleToRawLongBits", "(D)J"⟩, Cond.native ⟨"java/lang/Double", "doubleToRawLongBits", "(D)J"⟩, Cond.static ⟨"java/lang/Double", "doubleToRawLongBits", "(D)J"⟩, Cond.initialized "java/lang/Double", Cond.fieldLink RJ9 174 "java/lang/Math" "negativeZeroDoubleBits" "J", Cond.methodLink RX7 158 yJ9_max_eb370]
def wsX7_open_r2 : List Cond := [Cond.static yJ9_max_eb370, Cond.code yJ9_max_eb370 cJ9_max_eb370 4 (some .double)]
def wsX7_open : List Cond := .code yX7_open cX7_open 7 (some .double) :: ((wsX7_open_r1 ++ wsX7_open_r2) ++ wsX70)
def wsX7_run_r1 : List Cond := [Cond.fieldLink RX7 89 "NetShapesModel" "nodes" "I", Cond.fieldLink RX7 68 "NetShapesModel" "residual" "D", Cond.fieldLink RX7 75 "NetShapesModel" "fuels" "[D", Cond.fieldLink RX7 173 "NetShapesModel" "balances" "I", Cond.fieldLink RX7 72 "NetShapesModel" "drags" "[D", Cond.fieldLink RX7 25 "NetShapesModel" "fixed" "[Z", Cond.fieldLink RX7 7 "NetShapesModel" "x" "[D", Cond.fieldLink RX7 29 "NetShapesModel" "fx" "[D", Cond.fieldLink RX7 13 "NetShapesModel" "y" "[D", Cond.fieldLink RX7 32 "NetShapesModel" "fy" "[D", Cond.fieldLink RX7 16 "NetShapesModel" "z" "[D", Cond.fieldLink RX7 35 "NetShapesModel" "fz" "[D", Cond.methodLink RX7 170 yX7_forces, Cond.instanceMethod yX7_forces, Cond.selects RX7 yX7_forces yX7_forces, Cond.initialized RX7, Cond.code yX7_forces cX7_forces 30 none, Cond.fieldLink RX7 22 "NetShapesModel" "caught" "[D", Cond.fieldLink RX7 19 "NetShapesModel" "lift" "[D", Cond.fieldLink RX7 105 "NetShapesModel" "bars" "I", Cond.fieldLink RX7 38 "NetShapesModel" "from" "[I", Cond.fieldLink RX7 42 "NetShapesModel" "to" "[I", Cond.fieldLink RX7 54 "NetShapesModel" "pulls" "[D", Cond.fieldLink RX7 45 "NetShapesModel" "natural" "[D"]
def wsX7_run_r2 : List Cond := [Cond.constantDouble RX7 145 (4656510908468559872), Cond.constantDouble RX7 87 (4602678819172646912), Cond.constantDouble RX7 151 (4638707616191610880), Cond.fieldLink RX7 48 "NetShapesModel" "width" "[D", Cond.fieldLink RX7 120 "NetShapesModel" "fouled" "D", Cond.constantDouble RX7 153 (4611686018427387904), Cond.methodLink RX7 141 yX7_root, Cond.static yX7_root, Cond.code yX7_root cX7_root 5 (some .double), Cond.methodLink RX7 147 yX7_speed, Cond.instanceMethod yX7_speed, Cond.selects RX7 yX7_speed yX7_speed, Cond.code yX7_speed cX7_speed 11 (some .double), Cond.fieldLink RX7 132 "NetShapesModel" "rows" "I", Cond.fieldLink RX7 57 "NetShapesModel" "rowDepth" "[D", Cond.fieldLink RX7 60 "NetShapesModel" "rowX" "[D", Cond.fieldLink RX7 63 "NetShapesModel" "rowY" "[D", Cond.fieldLink RX7 129 "NetShapesModel" "waves" "D", Cond.methodLink RX7 155 yX7_size, Cond.static yX7_size, Cond.code yX7_size cX7_size 2 (some .double), Cond.methodLink RX7 158 yJ9_max_eb370, Cond.static yJ9_max_eb370, Cond.initialized RJ9]
def wsX7_run_r3 : List Cond := [Cond.code yJ9_max_eb370 cJ9_max_eb370 4 (some .double), Cond.methodLink RJ9 79 ⟨"java/lang/Double", "doubleToRawLongBits", "(D)J"⟩, Cond.native ⟨"java/lang/Double", "doubleToRawLongBits", "(D)J"⟩, Cond.static ⟨"java/lang/Double", "doubleToRawLongBits", "(D)J"⟩, Cond.initialized "java/lang/Double", Cond.fieldLink RJ9 174 "java/lang/Math" "negativeZeroDoubleBits" "J", Cond.methodLink RX7 176 yX7_open, Cond.instanceMethod yX7_open, Cond.selects RX7 yX7_open yX7_open, Cond.code yX7_open cX7_open 7 (some .double), Cond.constantDouble RX7 66 (13830554455654793216), Cond.methodLink RX7 183 yX7_at, Cond.instanceMethod yX7_at, Cond.selects RX7 yX7_at yX7_at, Cond.code yX7_at cX7_at 3 (some .double), Cond.methodLink RX7 101 yX7_isNode, Cond.instanceMethod yX7_isNode, Cond.selects RX7 yX7_isNode yX7_isNode, Cond.code yX7_isNode cX7_isNode 2 (some .boolean), Cond.methodLink RX7 187 yJ9_min_eb370, Cond.static yJ9_min_eb370, Cond.code yJ9_min_eb370 cJ9_min_eb370 4 (some .double), Cond.methodLink RX7 180 yX7_moved, Cond.static yX7_moved]
def wsX7_run_r4 : List Cond := [Cond.code yX7_moved cX7_moved 4 (some .double), Cond.constantDouble RX7 164 (4557750909289998844), Cond.constantDouble RX7 166 (4598175219545276416), Cond.constantDouble RX7 168 (13821547256400052224)]
def wsX7_run : List Cond := .code yX7_run cX7_run 4 (some .int) :: ((wsX7_run_r1 ++ (wsX7_run_r2 ++ (wsX7_run_r3 ++ wsX7_run_r4))) ++ wsX70)
def wsX7_pull : List Cond := .code yX7_pull cX7_pull 2 (some .double) :: ([.fieldLink RX7 105 "NetShapesModel" "bars" "I", .constantDouble RX7 66 (13830554455654793216), .fieldLink RX7 54 "NetShapesModel" "pulls" "[D"] ++ wsX70)
def wsX7_residual : List Cond := .code yX7_residual cX7_residual 1 (some .double) :: ([.fieldLink RX7 68 "NetShapesModel" "residual" "D"] ++ wsX70)
def wsX7_drag : List Cond := .code yX7_drag cX7_drag 2 (some .double) :: ([.fieldLink RX7 72 "NetShapesModel" "drags" "[D"] ++ wsX70)
def wsX7_over : List Cond := .code yX7_over cX7_over 4 (some .int) :: ([.fieldLink RX7 105 "NetShapesModel" "bars" "I", .fieldLink RX7 54 "NetShapesModel" "pulls" "[D", .fieldLink RX7 51 "NetShapesModel" "strong" "[D"] ++ wsX70)
def wsX7_mirrored : List Cond := .code yX7_mirrored cX7_mirrored 5 (some .boolean) :: ([.fieldLink RX7 89 "NetShapesModel" "nodes" "I", .fieldLink RX7 7 "NetShapesModel" "x" "[D", .fieldLink RX7 13 "NetShapesModel" "y" "[D", .fieldLink RX7 16 "NetShapesModel" "z" "[D"] ++ wsX70)
def wsX7_best : List Cond := .code yX7_best cX7_best 4 (some .int) :: ([.fieldLink RX7 173 "NetShapesModel" "balances" "I", .fieldLink RX7 75 "NetShapesModel" "fuels" "[D"] ++ wsX70)
def wsX7_panel : List Cond := .code yX7_panel cX7_panel 4 (some .int) :: ([.fieldLink RX7 190 "NetShapesModel" "panels" "I", .fieldLink RX7 78 "NetShapesModel" "tops" "[I", .fieldLink RX7 81 "NetShapesModel" "bottoms" "[I", .fieldLink RX7 84 "NetShapesModel" "deeps" "[I"] ++ wsX70)
def wsX7_isPanel : List Cond := .code yX7_isPanel cX7_isPanel 2 (some .boolean) :: ([.fieldLink RX7 190 "NetShapesModel" "panels" "I"] ++ wsX70)
def wsX7_meshes : List Cond := .code yX7_meshes cX7_meshes 3 (some .int) :: ([.fieldLink RX7 78 "NetShapesModel" "tops" "[I", .fieldLink RX7 81 "NetShapesModel" "bottoms" "[I", .fieldLink RX7 84 "NetShapesModel" "deeps" "[I"] ++ wsX70)
def wsX7_cut : List Cond := .code yX7_cut cX7_cut 4 (some .int) :: ([.fieldLink RX7 84 "NetShapesModel" "deeps" "[I", .methodLink RX7 193 yX7_isPanel, .instanceMethod yX7_isPanel, .selects RX7 yX7_isPanel yX7_isPanel, .initialized RX7, .code yX7_isPanel cX7_isPanel 2 (some .boolean), .fieldLink RX7 190 "NetShapesModel" "panels" "I", .methodLink RX7 196 yX7_meshes, .instanceMethod yX7_meshes, .selects RX7 yX7_meshes yX7_meshes, .code yX7_meshes cX7_meshes 3 (some .int), .fieldLink RX7 78 "NetShapesModel" "tops" "[I", .fieldLink RX7 81 "NetShapesModel" "bottoms" "[I"] ++ wsX70)
def wsX7_whole : List Cond := .code yX7_whole cX7_whole 2 (some .boolean) :: ([.fieldLink RX7 81 "NetShapesModel" "bottoms" "[I", .fieldLink RX7 78 "NetShapesModel" "tops" "[I", .methodLink RX7 193 yX7_isPanel, .instanceMethod yX7_isPanel, .selects RX7 yX7_isPanel yX7_isPanel, .initialized RX7, .code yX7_isPanel cX7_isPanel 2 (some .boolean), .fieldLink RX7 190 "NetShapesModel" "panels" "I"] ++ wsX70)
def wsX7_edge : List Cond := .code yX7_edge cX7_edge 3 (some .int) :: ([.fieldLink RX7 81 "NetShapesModel" "bottoms" "[I", .fieldLink RX7 78 "NetShapesModel" "tops" "[I", .methodLink RX7 200 Lib.Math.min.name, .static Lib.Math.min.name, .initialized "java/lang/Math", .code Lib.Math.min.name Lib.Math.min.code 2 (some .int), .methodLink RX7 193 yX7_isPanel, .instanceMethod yX7_isPanel, .selects RX7 yX7_isPanel yX7_isPanel, .initialized RX7, .code yX7_isPanel cX7_isPanel 2 (some .boolean), .fieldLink RX7 190 "NetShapesModel" "panels" "I"] ++ wsX70)
def wsX7_sheet : List Cond := .code yX7_sheet cX7_sheet 8 (some .int) :: ([.fieldLink RX7 78 "NetShapesModel" "tops" "[I", .fieldLink RX7 81 "NetShapesModel" "bottoms" "[I", .methodLink RX7 202 Lib.Math.max.name, .static Lib.Math.max.name, .initialized "java/lang/Math", .code Lib.Math.max.name Lib.Math.max.code 2 (some .int), .fieldLink RX7 84 "NetShapesModel" "deeps" "[I", .methodLink RX7 193 yX7_isPanel, .instanceMethod yX7_isPanel, .selects RX7 yX7_isPanel yX7_isPanel, .initialized RX7, .code yX7_isPanel cX7_isPanel 2 (some .boolean), .fieldLink RX7 190 "NetShapesModel" "panels" "I"] ++ wsX70)
def wsJ9_max_7cf53 : List Cond := .code yJ9_max_7cf53 cJ9_max_7cf53 2 (some .int) :: ([])
def wsJ9_min_7cf53 : List Cond := .code yJ9_min_7cf53 cJ9_min_7cf53 2 (some .int) :: ([])
def wsL_law_r1 : List Cond := [Cond.classLink RL 7 RX6, Cond.instantiable RX6 6, Cond.initialized RX6, Cond.classLink RL 10 RX7, Cond.instantiable RX7 31, Cond.initialized RX7, Cond.constantDouble RL 13 (4593671619917905920), Cond.methodLink RL 9 yX6_init, Cond.instanceMethod yX6_init, Cond.code yX6_init cX6_init 1 none, Cond.methodLink RX6 1 objectInit, Cond.instanceMethod objectInit, Cond.code objectInit ⟨#[0xb1]⟩ 1 none, Cond.classLink RX6 7 RX3, Cond.instantiable RX3 6, Cond.initialized RX3, Cond.fieldLink RX6 10 "NetShapes" "nodes" "LNetShapes$Nodes;", Cond.classLink RX6 16 RX1, Cond.instantiable RX1 7, Cond.initialized RX1, Cond.fieldLink RX6 19 "NetShapes" "bars" "LNetShapes$Bars;", Cond.classLink RX6 23 RX5, Cond.instantiable RX5 6, Cond.initialized RX5]
def wsL_law_r2 : List Cond := [Cond.fieldLink RX6 26 "NetShapes" "water" "LNetShapes$Water;", Cond.classLink RX6 30 RX0, Cond.instantiable RX0 7, Cond.initialized RX0, Cond.fieldLink RX6 35 "NetShapes" "balance" "LNetShapes$Balance;", Cond.classLink RX6 39 RX2, Cond.instantiable RX2 3, Cond.initialized RX2, Cond.fieldLink RX6 42 "NetShapes" "fuels" "LNetShapes$Fuels;", Cond.classLink RX6 46 RX4, Cond.instantiable RX4 9, Cond.initialized RX4, Cond.fieldLink RX6 49 "NetShapes" "panels" "LNetShapes$Panels;", Cond.instanceMethod yX3_init, Cond.code yX3_init cX3_init 1 none, Cond.methodLink RX3 3 objectInit, Cond.classLink RX3 9 "[[D", Cond.arrayClass .double, Cond.fieldLink RX3 11 "NetShapes$Nodes" "places" "[[D", Cond.fieldLink RX3 16 "NetShapes$Nodes" "forces" "[[D", Cond.fieldLink RX3 19 "NetShapes$Nodes" "lift" "[D", Cond.fieldLink RX3 23 "NetShapes$Nodes" "load" "[D", Cond.arrayClass .boolean, Cond.fieldLink RX3 26 "NetShapes$Nodes" "fixed" "[Z"]
def wsL_law_r3 : List Cond := [Cond.fieldLink RX3 30 "NetShapes$Nodes" "count" "I", Cond.instanceMethod yX1_init, Cond.code yX1_init cX1_init 1 none, Cond.methodLink RX1 3 objectInit, Cond.arrayClass .int, Cond.fieldLink RX1 9 "NetShapes$Bars" "from" "[I", Cond.fieldLink RX1 15 "NetShapes$Bars" "to" "[I", Cond.fieldLink RX1 18 "NetShapes$Bars" "length" "[D", Cond.fieldLink RX1 22 "NetShapes$Bars" "width" "[D", Cond.fieldLink RX1 25 "NetShapes$Bars" "strength" "[D", Cond.fieldLink RX1 28 "NetShapes$Bars" "pulls" "[D", Cond.fieldLink RX1 31 "NetShapes$Bars" "count" "I", Cond.instanceMethod yX5_init, Cond.code yX5_init cX5_init 1 none, Cond.methodLink RX5 3 objectInit, Cond.fieldLink RX5 9 "NetShapes$Water" "depths" "[D", Cond.fieldLink RX5 15 "NetShapes$Water" "towardsX" "[D", Cond.fieldLink RX5 18 "NetShapes$Water" "towardsY" "[D", Cond.fieldLink RX5 21 "NetShapes$Water" "count" "I", Cond.fieldLink RX5 25 "NetShapes$Water" "waveShare" "D", Cond.fieldLink RX5 29 "NetShapes$Water" "foulShare" "D", Cond.methodLink RX6 32 yX0_init, Cond.instanceMethod yX0_init, Cond.code yX0_init cX0_init 4 none]
def wsL_law_r4 : List Cond := [Cond.methodLink RX0 3 objectInit, Cond.fieldLink RX0 9 "NetShapes$Balance" "drags" "[D", Cond.constantDouble RX0 15 (13830554455654793216), Cond.fieldLink RX0 17 "NetShapes$Balance" "greatestForce" "D", Cond.fieldLink RX0 21 "NetShapes$Balance" "span" "[D", Cond.fieldLink RX0 24 "NetShapes$Balance" "acrossFlow" "[D", Cond.fieldLink RX0 27 "NetShapes$Balance" "nodes" "LNetShapes$Nodes;", Cond.fieldLink RX0 31 "NetShapes$Balance" "bars" "LNetShapes$Bars;", Cond.fieldLink RX0 35 "NetShapes$Balance" "water" "LNetShapes$Water;", Cond.instanceMethod yX2_init, Cond.code yX2_init cX2_init 1 none, Cond.methodLink RX2 3 objectInit, Cond.fieldLink RX2 9 "NetShapes$Fuels" "kept" "[D", Cond.fieldLink RX2 15 "NetShapes$Fuels" "count" "I", Cond.fieldLink RX2 19 "NetShapes$Fuels" "next" "I", Cond.instanceMethod yX4_init, Cond.code yX4_init cX4_init 1 none, Cond.methodLink RX4 3 objectInit, Cond.fieldLink RX4 9 "NetShapes$Panels" "top" "[I", Cond.fieldLink RX4 15 "NetShapes$Panels" "bottom" "[I", Cond.fieldLink RX4 18 "NetShapes$Panels" "deep" "[I", Cond.fieldLink RX4 21 "NetShapes$Panels" "across" "[I", Cond.fieldLink RX4 24 "NetShapes$Panels" "down" "[I", Cond.fieldLink RX4 27 "NetShapes$Panels" "count" "I"]
def wsL_law_r5 : List Cond := [Cond.fieldLink RX4 31 "NetShapes$Panels" "shelfUsed" "I", Cond.fieldLink RX4 34 "NetShapes$Panels" "shelfStart" "I", Cond.fieldLink RX4 37 "NetShapes$Panels" "shelfDeep" "I", Cond.methodLink RL 12 yX7_init, Cond.instanceMethod yX7_init, Cond.code yX7_init cX7_init 1 none, Cond.methodLink RX7 1 objectInit, Cond.fieldLink RX7 7 "NetShapesModel" "x" "[D", Cond.fieldLink RX7 13 "NetShapesModel" "y" "[D", Cond.fieldLink RX7 16 "NetShapesModel" "z" "[D", Cond.fieldLink RX7 19 "NetShapesModel" "lift" "[D", Cond.fieldLink RX7 22 "NetShapesModel" "caught" "[D", Cond.fieldLink RX7 25 "NetShapesModel" "fixed" "[Z", Cond.fieldLink RX7 29 "NetShapesModel" "fx" "[D", Cond.fieldLink RX7 32 "NetShapesModel" "fy" "[D", Cond.fieldLink RX7 35 "NetShapesModel" "fz" "[D", Cond.fieldLink RX7 38 "NetShapesModel" "from" "[I", Cond.fieldLink RX7 42 "NetShapesModel" "to" "[I", Cond.fieldLink RX7 45 "NetShapesModel" "natural" "[D", Cond.fieldLink RX7 48 "NetShapesModel" "width" "[D", Cond.fieldLink RX7 51 "NetShapesModel" "strong" "[D", Cond.fieldLink RX7 54 "NetShapesModel" "pulls" "[D", Cond.fieldLink RX7 57 "NetShapesModel" "rowDepth" "[D", Cond.fieldLink RX7 60 "NetShapesModel" "rowX" "[D"]
def wsL_law_r6 : List Cond := [Cond.fieldLink RX7 63 "NetShapesModel" "rowY" "[D", Cond.constantDouble RX7 66 (13830554455654793216), Cond.fieldLink RX7 68 "NetShapesModel" "residual" "D", Cond.fieldLink RX7 72 "NetShapesModel" "drags" "[D", Cond.fieldLink RX7 75 "NetShapesModel" "fuels" "[D", Cond.fieldLink RX7 78 "NetShapesModel" "tops" "[I", Cond.fieldLink RX7 81 "NetShapesModel" "bottoms" "[I", Cond.fieldLink RX7 84 "NetShapesModel" "deeps" "[I", Cond.methodLink RL 15 yX6_node, Cond.instanceMethod yX6_node, Cond.selects RX6 yX6_node yX6_node, Cond.code yX6_node cX6_node 7 (some .int), Cond.fieldLink RX6 53 "NetShapes$Nodes" "count" "I", Cond.methodLink RX6 57 yX6_isPlace, Cond.static yX6_isPlace, Cond.code yX6_isPlace cX6_isPlace 2 (some .boolean), Cond.constantDouble RX6 204 (13875379345695965184), Cond.constantDouble RX6 72 (4652007308841189376), Cond.methodLink RX6 74 yX6_within, Cond.static yX6_within, Cond.code yX6_within cX6_within 6 (some .boolean), Cond.methodLink RX6 61 yX3_add, Cond.instanceMethod yX3_add, Cond.selects RX3 yX3_add yX3_add]
def wsL_law_r7 : List Cond := [Cond.code yX3_add cX3_add 8 (some .int), Cond.methodLink RL 19 yX7_node, Cond.instanceMethod yX7_node, Cond.selects RX7 yX7_node yX7_node, Cond.code yX7_node cX7_node 7 (some .int), Cond.fieldLink RX7 89 "NetShapesModel" "nodes" "I", Cond.constantDouble RX7 93 (13875379345695965184), Cond.constantDouble RX7 95 (4652007308841189376), Cond.methodLink RX7 97 yX7_isIn, Cond.static yX7_isIn, Cond.code yX7_isIn cX7_isIn 6 (some .boolean), Cond.methodLink RL 20 yX6_bar, Cond.instanceMethod yX6_bar, Cond.selects RX6 yX6_bar yX6_bar, Cond.code yX6_bar cX6_bar 9 (some .int), Cond.fieldLink RX6 69 "NetShapes$Bars" "count" "I", Cond.constantDouble RX6 70 (4593671619917905920), Cond.constantDouble RX6 78 (4621819117588971520), Cond.constantDouble RX6 80 (4696837146684686336), Cond.methodLink RX6 65 yX3_has, Cond.instanceMethod yX3_has, Cond.selects RX3 yX3_has yX3_has, Cond.code yX3_has cX3_has 2 (some .boolean), Cond.methodLink RX6 82 yX1_add]
def wsL_law_r8 : List Cond := [Cond.instanceMethod yX1_add, Cond.selects RX1 yX1_add yX1_add, Cond.code yX1_add cX1_add 10 (some .int), Cond.constantDouble RX1 35 (13830554455654793216), Cond.methodLink RL 24 yX7_bar, Cond.instanceMethod yX7_bar, Cond.selects RX7 yX7_bar yX7_bar, Cond.code yX7_bar cX7_bar 9 (some .int), Cond.fieldLink RX7 105 "NetShapesModel" "bars" "I", Cond.constantDouble RX7 108 (4593671619917905920), Cond.constantDouble RX7 110 (4621819117588971520), Cond.constantDouble RX7 112 (4696837146684686336), Cond.methodLink RX7 101 yX7_isNode, Cond.instanceMethod yX7_isNode, Cond.selects RX7 yX7_isNode yX7_isNode, Cond.code yX7_isNode cX7_isNode 2 (some .boolean), Cond.methodLink RL 25 yX6_fix, Cond.instanceMethod yX6_fix, Cond.selects RX6 yX6_fix yX6_fix, Cond.code yX6_fix cX6_fix 2 (some .boolean), Cond.fieldLink RX6 85 "NetShapes$Nodes" "fixed" "[Z", Cond.methodLink RL 29 yX7_fix, Cond.instanceMethod yX7_fix, Cond.selects RX7 yX7_fix yX7_fix]
def wsL_law_r9 : List Cond := [Cond.code yX7_fix cX7_fix 2 (some .boolean), Cond.methodLink RL 30 yX6_floats, Cond.instanceMethod yX6_floats, Cond.selects RX6 yX6_floats yX6_floats, Cond.code yX6_floats cX6_floats 4 (some .boolean), Cond.constantDouble RX6 89 (13904980397738950656), Cond.constantDouble RX6 91 (4681608360884174848), Cond.fieldLink RX6 93 "NetShapes$Nodes" "lift" "[D", Cond.methodLink RL 34 yX7_floats, Cond.instanceMethod yX7_floats, Cond.selects RX7 yX7_floats yX7_floats, Cond.code yX7_floats cX7_floats 4 (some .boolean), Cond.constantDouble RX7 114 (13904980397738950656), Cond.constantDouble RX7 116 (4681608360884174848), Cond.methodLink RL 35 yX6_current, Cond.instanceMethod yX6_current, Cond.selects RX6 yX6_current yX6_current, Cond.code yX6_current cX6_current 9 (some .boolean), Cond.methodLink RX6 97 yX6_eighthOfTurn, Cond.static yX6_eighthOfTurn, Cond.code yX6_eighthOfTurn cX6_eighthOfTurn 3 (some .int), Cond.methodLink RX6 101 yX6_partTowardsX, Cond.static yX6_partTowardsX, Cond.code yX6_partTowardsX cX6_partTowardsX 5 (some .double)]
def wsL_law_r10 : List Cond := [Cond.constantDouble RX6 206 (4604544271217802189), Cond.methodLink RX6 105 yX5_tell, Cond.instanceMethod yX5_tell, Cond.selects RX5 yX5_tell yX5_tell, Cond.code yX5_tell cX5_tell 8 (some .boolean), Cond.methodLink RX5 32 yX5_rowAtOrAbove, Cond.instanceMethod yX5_rowAtOrAbove, Cond.selects RX5 yX5_rowAtOrAbove yX5_rowAtOrAbove, Cond.code yX5_rowAtOrAbove cX5_rowAtOrAbove 5 (some .int), Cond.methodLink RX5 36 yX5_makeRoomAt, Cond.instanceMethod yX5_makeRoomAt, Cond.selects RX5 yX5_makeRoomAt yX5_makeRoomAt, Cond.code yX5_makeRoomAt cX5_makeRoomAt 3 none, Cond.methodLink RL 39 yX7_current, Cond.instanceMethod yX7_current, Cond.selects RX7 yX7_current yX7_current, Cond.code yX7_current cX7_current 11 (some .boolean), Cond.constantDouble RX7 135 (4631530004285489152), Cond.constantDouble RX7 137 (4644249154795601920), Cond.fieldLink RX7 132 "NetShapesModel" "rows" "I", Cond.constantDouble RX7 139 (4604544271217802189), Cond.methodLink RL 40 yX6_run, Cond.instanceMethod yX6_run, Cond.selects RX6 yX6_run yX6_run]
def wsL_law_r11 : List Cond := [Cond.code yX6_run cX6_run 3 (some .int), Cond.fieldLink RX6 112 "NetShapes$Balance" "drags" "[D", Cond.methodLink RX6 108 yX0_comesInRound, Cond.instanceMethod yX0_comesInRound, Cond.selects RX0 yX0_comesInRound yX0_comesInRound, Cond.code yX0_comesInRound cX0_comesInRound 4 (some .boolean), Cond.fieldLink RX0 44 "NetShapes$Bars" "count" "I", Cond.methodLink RX0 39 yX3_startForces, Cond.instanceMethod yX3_startForces, Cond.selects RX3 yX3_startForces yX3_startForces, Cond.code yX3_startForces cX3_startForces 2 none, Cond.methodLink RX0 50 yX0_measure, Cond.instanceMethod yX0_measure, Cond.selects RX0 yX0_measure yX0_measure, Cond.code yX0_measure cX0_measure 4 (some .double), Cond.fieldLink RX0 67 "NetShapes$Nodes" "places" "[[D", Cond.fieldLink RX0 71 "NetShapes$Bars" "to" "[I", Cond.fieldLink RX0 75 "NetShapes$Bars" "from" "[I", Cond.methodLink RX0 78 yX0_lengthOf, Cond.static yX0_lengthOf, Cond.code yX0_lengthOf cX0_lengthOf 1 (some .double), Cond.static yX6_root, Cond.code yX6_root cX6_root 7 (some .double), Cond.constantDouble RX6 208 (4602678819172646912)]
def wsL_law_r12 : List Cond := [Cond.methodLink RX0 54 yX0_tighten, Cond.instanceMethod yX0_tighten, Cond.selects RX0 yX0_tighten yX0_tighten, Cond.code yX0_tighten cX0_tighten 11 none, Cond.fieldLink RX0 86 "NetShapes$Bars" "length" "[D", Cond.constantDouble RX0 89 (4656510908468559872), Cond.fieldLink RX0 91 "NetShapes$Bars" "pulls" "[D", Cond.fieldLink RX0 94 "NetShapes$Nodes" "forces" "[[D", Cond.methodLink RX0 58 yX0_wash, Cond.instanceMethod yX0_wash, Cond.selects RX0 yX0_wash yX0_wash, Cond.code yX0_wash cX0_wash 7 none, Cond.constantDouble RX0 100 (4638707616191610880), Cond.fieldLink RX0 102 "NetShapes$Bars" "width" "[D", Cond.fieldLink RX0 105 "NetShapes$Water" "foulShare" "D", Cond.constantDouble RX0 110 (4611686018427387904), Cond.methodLink RX0 97 yX0_findFlowAcross, Cond.instanceMethod yX0_findFlowAcross, Cond.selects RX0 yX0_findFlowAcross yX0_findFlowAcross, Cond.code yX0_findFlowAcross cX0_findFlowAcross 14 none, Cond.constantDouble RX0 112 (4602678819172646912), Cond.fieldLink RX0 118 "NetShapes$Water" "towardsX" "[D", Cond.fieldLink RX0 125 "NetShapes$Water" "towardsY" "[D", Cond.methodLink RX0 114 yX5_rowAtOrAbove]
def wsL_law_r13 : List Cond := [Cond.methodLink RX0 121 yX5_speedAt, Cond.instanceMethod yX5_speedAt, Cond.selects RX5 yX5_speedAt yX5_speedAt, Cond.code yX5_speedAt cX5_speedAt 5 (some .double), Cond.methodLink RX5 40 yX5_speedOfRows, Cond.instanceMethod yX5_speedOfRows, Cond.selects RX5 yX5_speedOfRows yX5_speedOfRows, Cond.code yX5_speedOfRows cX5_speedOfRows 7 (some .double), Cond.methodLink RX0 61 yX3_greatestForce, Cond.instanceMethod yX3_greatestForce, Cond.selects RX3 yX3_greatestForce yX3_greatestForce, Cond.code yX3_greatestForce cX3_greatestForce 7 (some .double), Cond.static yX6_size, Cond.code yX6_size cX6_size 2 (some .double), Cond.methodLink RX0 64 yX3_giveWay, Cond.instanceMethod yX3_giveWay, Cond.selects RX3 yX3_giveWay yX3_giveWay, Cond.code yX3_giveWay cX3_giveWay 3 none, Cond.methodLink RX3 38 yX3_stepFor, Cond.static yX3_stepFor, Cond.code yX3_stepFor cX3_stepFor 6 (some .double), Cond.constantDouble RX3 41 (4598175219545276416), Cond.constantDouble RX3 43 (4557750909289998844), Cond.methodLink RX6 115 yX6_size]
def wsL_law_r14 : List Cond := [Cond.methodLink RX6 119 yX3_spread, Cond.instanceMethod yX3_spread, Cond.selects RX3 yX3_spread yX3_spread, Cond.code yX3_spread cX3_spread 8 (some .double), Cond.methodLink RX6 123 yX2_add, Cond.instanceMethod yX2_add, Cond.selects RX2 yX2_add yX2_add, Cond.code yX2_add cX2_add 3 none, Cond.methodLink RX2 22 Lib.Math.min.name, Cond.static Lib.Math.min.name, Cond.initialized "java/lang/Math", Cond.code Lib.Math.min.name Lib.Math.min.code 2 (some .int), Cond.methodLink RL 44 yX7_run, Cond.instanceMethod yX7_run, Cond.selects RX7 yX7_run yX7_run, Cond.code yX7_run cX7_run 4 (some .int), Cond.fieldLink RX7 173 "NetShapesModel" "balances" "I", Cond.methodLink RX7 170 yX7_forces, Cond.instanceMethod yX7_forces, Cond.selects RX7 yX7_forces yX7_forces, Cond.code yX7_forces cX7_forces 30 none, Cond.constantDouble RX7 145 (4656510908468559872), Cond.constantDouble RX7 87 (4602678819172646912), Cond.constantDouble RX7 151 (4638707616191610880)]
def wsL_law_r15 : List Cond := [Cond.fieldLink RX7 120 "NetShapesModel" "fouled" "D", Cond.constantDouble RX7 153 (4611686018427387904), Cond.methodLink RX7 141 yX7_root, Cond.static yX7_root, Cond.code yX7_root cX7_root 5 (some .double), Cond.methodLink RX7 147 yX7_speed, Cond.instanceMethod yX7_speed, Cond.selects RX7 yX7_speed yX7_speed, Cond.code yX7_speed cX7_speed 11 (some .double), Cond.fieldLink RX7 129 "NetShapesModel" "waves" "D", Cond.methodLink RX7 155 yX7_size, Cond.static yX7_size, Cond.code yX7_size cX7_size 2 (some .double), Cond.methodLink RX7 158 yJ9_max_eb370, Cond.static yJ9_max_eb370, Cond.initialized RJ9, Cond.code yJ9_max_eb370 cJ9_max_eb370 4 (some .double), Cond.methodLink RJ9 79 ⟨"java/lang/Double", "doubleToRawLongBits", "(D)J"⟩, Cond.native ⟨"java/lang/Double", "doubleToRawLongBits", "(D)J"⟩, Cond.static ⟨"java/lang/Double", "doubleToRawLongBits", "(D)J"⟩, Cond.initialized "java/lang/Double", Cond.fieldLink RJ9 174 "java/lang/Math" "negativeZeroDoubleBits" "J", Cond.methodLink RX7 176 yX7_open, Cond.instanceMethod yX7_open]
def wsL_law_r16 : List Cond := [Cond.selects RX7 yX7_open yX7_open, Cond.code yX7_open cX7_open 7 (some .double), Cond.methodLink RX7 183 yX7_at, Cond.instanceMethod yX7_at, Cond.selects RX7 yX7_at yX7_at, Cond.code yX7_at cX7_at 3 (some .double), Cond.methodLink RX7 187 yJ9_min_eb370, Cond.static yJ9_min_eb370, Cond.code yJ9_min_eb370 cJ9_min_eb370 4 (some .double), Cond.methodLink RX7 180 yX7_moved, Cond.static yX7_moved, Cond.code yX7_moved cX7_moved 4 (some .double), Cond.constantDouble RX7 164 (4557750909289998844), Cond.constantDouble RX7 166 (4598175219545276416), Cond.constantDouble RX7 168 (13821547256400052224), Cond.methodLink RL 45 yX6_at, Cond.instanceMethod yX6_at, Cond.selects RX6 yX6_at yX6_at, Cond.code yX6_at cX6_at 3 (some .double), Cond.fieldLink RX6 129 "NetShapes$Nodes" "places" "[[D", Cond.methodLink RX6 126 yX6_isAxis, Cond.static yX6_isAxis, Cond.code yX6_isAxis cX6_isAxis 1 (some .boolean), Cond.methodLink RL 49 yX7_at]
def wsL_law_r17 : List Cond := [Cond.methodLink RL 50 yX6_pull, Cond.instanceMethod yX6_pull, Cond.selects RX6 yX6_pull yX6_pull, Cond.code yX6_pull cX6_pull 2 (some .double), Cond.fieldLink RX6 134 "NetShapes$Bars" "pulls" "[D", Cond.constantDouble RX6 137 (13830554455654793216), Cond.methodLink RX6 133 yX1_has, Cond.instanceMethod yX1_has, Cond.selects RX1 yX1_has yX1_has, Cond.code yX1_has cX1_has 2 (some .boolean), Cond.methodLink RL 54 yX7_pull, Cond.instanceMethod yX7_pull, Cond.selects RX7 yX7_pull yX7_pull, Cond.code yX7_pull cX7_pull 2 (some .double), Cond.methodLink RL 55 yX6_residual, Cond.instanceMethod yX6_residual, Cond.selects RX6 yX6_residual yX6_residual, Cond.code yX6_residual cX6_residual 1 (some .double), Cond.fieldLink RX6 139 "NetShapes$Balance" "greatestForce" "D", Cond.methodLink RL 59 yX7_residual, Cond.instanceMethod yX7_residual, Cond.selects RX7 yX7_residual yX7_residual, Cond.code yX7_residual cX7_residual 1 (some .double), Cond.methodLink RL 60 yX6_drag]
def wsL_law_r18 : List Cond := [Cond.instanceMethod yX6_drag, Cond.selects RX6 yX6_drag yX6_drag, Cond.code yX6_drag cX6_drag 2 (some .double), Cond.methodLink RL 63 yX7_drag, Cond.instanceMethod yX7_drag, Cond.selects RX7 yX7_drag yX7_drag, Cond.code yX7_drag cX7_drag 2 (some .double), Cond.methodLink RL 64 yX6_over, Cond.instanceMethod yX6_over, Cond.selects RX6 yX6_over yX6_over, Cond.code yX6_over cX6_over 2 (some .int), Cond.methodLink RX6 143 yX1_overloaded, Cond.instanceMethod yX1_overloaded, Cond.selects RX1 yX1_overloaded yX1_overloaded, Cond.code yX1_overloaded cX1_overloaded 4 (some .int), Cond.methodLink RL 67 yX7_over, Cond.instanceMethod yX7_over, Cond.selects RX7 yX7_over yX7_over, Cond.code yX7_over cX7_over 4 (some .int), Cond.methodLink RL 68 yX6_open, Cond.instanceMethod yX6_open, Cond.selects RX6 yX6_open yX6_open, Cond.code yX6_open cX6_open 2 (some .double), Cond.methodLink RL 71 yX7_open]
def wsL_law_r19 : List Cond := [Cond.methodLink RL 72 yX6_catchAt, Cond.instanceMethod yX6_catchAt, Cond.selects RX6 yX6_catchAt yX6_catchAt, Cond.code yX6_catchAt cX6_catchAt 4 (some .boolean), Cond.fieldLink RX6 147 "NetShapes$Nodes" "load" "[D", Cond.methodLink RL 75 yX7_catchAt, Cond.instanceMethod yX7_catchAt, Cond.selects RX7 yX7_catchAt yX7_catchAt, Cond.code yX7_catchAt cX7_catchAt 4 (some .boolean), Cond.methodLink RL 76 yX6_panel, Cond.instanceMethod yX6_panel, Cond.selects RX6 yX6_panel yX6_panel, Cond.code yX6_panel cX6_panel 4 (some .int), Cond.fieldLink RX6 150 "NetShapes$Panels" "count" "I", Cond.methodLink RX6 151 yX6_isPanelWidth, Cond.static yX6_isPanelWidth, Cond.code yX6_isPanelWidth cX6_isPanelWidth 1 (some .boolean), Cond.methodLink RX6 154 yX4_add, Cond.instanceMethod yX4_add, Cond.selects RX4 yX4_add yX4_add, Cond.code yX4_add cX4_add 5 (some .int), Cond.methodLink RX4 40 yX4_lay, Cond.instanceMethod yX4_lay, Cond.selects RX4 yX4_lay yX4_lay]
def wsL_law_r20 : List Cond := [Cond.code yX4_lay cX4_lay 3 none, Cond.methodLink RX4 44 Lib.Math.max.name, Cond.static Lib.Math.max.name, Cond.code Lib.Math.max.name Lib.Math.max.code 2 (some .int), Cond.methodLink RL 80 yX7_panel, Cond.instanceMethod yX7_panel, Cond.selects RX7 yX7_panel yX7_panel, Cond.code yX7_panel cX7_panel 4 (some .int), Cond.fieldLink RX7 190 "NetShapesModel" "panels" "I", Cond.methodLink RL 81 yX6_cut, Cond.instanceMethod yX6_cut, Cond.selects RX6 yX6_cut yX6_cut, Cond.code yX6_cut cX6_cut 4 (some .int), Cond.fieldLink RX6 158 "NetShapes$Panels" "deep" "[I", Cond.methodLink RX6 157 yX4_has, Cond.instanceMethod yX4_has, Cond.selects RX4 yX4_has yX4_has, Cond.code yX4_has cX4_has 2 (some .boolean), Cond.methodLink RX6 162 yX4_meshesAfter, Cond.instanceMethod yX4_meshesAfter, Cond.selects RX4 yX4_meshesAfter yX4_meshesAfter, Cond.code yX4_meshesAfter cX4_meshesAfter 4 (some .int), Cond.methodLink RL 84 yX7_cut, Cond.instanceMethod yX7_cut]
def wsL_law_r21 : List Cond := [Cond.selects RX7 yX7_cut yX7_cut, Cond.code yX7_cut cX7_cut 4 (some .int), Cond.methodLink RX7 193 yX7_isPanel, Cond.instanceMethod yX7_isPanel, Cond.selects RX7 yX7_isPanel yX7_isPanel, Cond.code yX7_isPanel cX7_isPanel 2 (some .boolean), Cond.methodLink RX7 196 yX7_meshes, Cond.instanceMethod yX7_meshes, Cond.selects RX7 yX7_meshes yX7_meshes, Cond.code yX7_meshes cX7_meshes 3 (some .int), Cond.methodLink RL 85 yX6_whole, Cond.instanceMethod yX6_whole, Cond.selects RX6 yX6_whole yX6_whole, Cond.code yX6_whole cX6_whole 2 (some .boolean), Cond.fieldLink RX6 166 "NetShapes$Panels" "bottom" "[I", Cond.fieldLink RX6 169 "NetShapes$Panels" "top" "[I", Cond.methodLink RL 88 yX7_whole, Cond.instanceMethod yX7_whole, Cond.selects RX7 yX7_whole yX7_whole, Cond.code yX7_whole cX7_whole 2 (some .boolean), Cond.methodLink RL 89 yX6_edge, Cond.instanceMethod yX6_edge, Cond.selects RX6 yX6_edge yX6_edge, Cond.code yX6_edge cX6_edge 3 (some .int)]
def wsL_law_r22 : List Cond := [Cond.methodLink RX6 172 Lib.Math.min.name, Cond.methodLink RL 93 yX7_edge, Cond.instanceMethod yX7_edge, Cond.selects RX7 yX7_edge yX7_edge, Cond.code yX7_edge cX7_edge 3 (some .int), Cond.methodLink RX7 200 Lib.Math.min.name, Cond.methodLink RL 94 yX6_foul, Cond.instanceMethod yX6_foul, Cond.selects RX6 yX6_foul yX6_foul, Cond.code yX6_foul cX6_foul 3 (some .boolean), Cond.constantDouble RX6 177 (4617315517961601024), Cond.fieldLink RX6 179 "NetShapes$Water" "foulShare" "D", Cond.methodLink RL 98 yX7_foul, Cond.instanceMethod yX7_foul, Cond.selects RX7 yX7_foul yX7_foul, Cond.code yX7_foul cX7_foul 3 (some .boolean), Cond.constantDouble RX7 118 (4617315517961601024), Cond.methodLink RL 99 yX6_wave, Cond.instanceMethod yX6_wave, Cond.selects RX6 yX6_wave yX6_wave, Cond.code yX6_wave cX6_wave 6 (some .int), Cond.constantDouble RX6 182 (4629137466983448576), Cond.constantDouble RX6 184 (4633641066610819072), Cond.constantDouble RX6 186 (4636737291354636288)]
def wsL_law_r23 : List Cond := [Cond.fieldLink RX6 188 "NetShapes$Water" "waveShare" "D", Cond.fieldLink RX6 191 "NetShapes$Water" "count" "I", Cond.methodLink RL 103 yX7_wave, Cond.instanceMethod yX7_wave, Cond.selects RX7 yX7_wave yX7_wave, Cond.code yX7_wave cX7_wave 6 (some .int), Cond.constantDouble RX7 123 (4629137466983448576), Cond.constantDouble RX7 125 (4633641066610819072), Cond.constantDouble RX7 127 (4636737291354636288), Cond.methodLink RL 104 yX6_mirrored, Cond.instanceMethod yX6_mirrored, Cond.selects RX6 yX6_mirrored yX6_mirrored, Cond.code yX6_mirrored cX6_mirrored 2 (some .boolean), Cond.methodLink RX6 192 yX3_hasMirrorImage, Cond.instanceMethod yX3_hasMirrorImage, Cond.selects RX3 yX3_hasMirrorImage yX3_hasMirrorImage, Cond.code yX3_hasMirrorImage cX3_hasMirrorImage 5 (some .boolean), Cond.methodLink RL 108 yX7_mirrored, Cond.instanceMethod yX7_mirrored, Cond.selects RX7 yX7_mirrored yX7_mirrored, Cond.code yX7_mirrored cX7_mirrored 5 (some .boolean), Cond.methodLink RL 109 yX6_best, Cond.instanceMethod yX6_best, Cond.selects RX6 yX6_best yX6_best]
def wsL_law_r24 : List Cond := [Cond.code yX6_best cX6_best 2 (some .int), Cond.methodLink RX6 195 yX2_leastOfLatest, Cond.instanceMethod yX2_leastOfLatest, Cond.selects RX2 yX2_leastOfLatest yX2_leastOfLatest, Cond.code yX2_leastOfLatest cX2_leastOfLatest 4 (some .int), Cond.methodLink RX2 28 yX2_backwards, Cond.instanceMethod yX2_backwards, Cond.selects RX2 yX2_backwards yX2_backwards, Cond.code yX2_backwards cX2_backwards 2 (some .double), Cond.methodLink RX2 32 yJ9_floorMod_7cf53, Cond.static yJ9_floorMod_7cf53, Cond.code yJ9_floorMod_7cf53 cJ9_floorMod_7cf53 3 (some .int), Cond.methodLink RL 112 yX7_best, Cond.instanceMethod yX7_best, Cond.selects RX7 yX7_best yX7_best, Cond.code yX7_best cX7_best 4 (some .int), Cond.methodLink RL 113 yX6_sheet, Cond.instanceMethod yX6_sheet, Cond.selects RX6 yX6_sheet yX6_sheet, Cond.code yX6_sheet cX6_sheet 3 (some .int), Cond.fieldLink RX6 198 "NetShapes$Panels" "across" "[I", Cond.fieldLink RX6 201 "NetShapes$Panels" "down" "[I", Cond.methodLink RL 116 yX7_sheet, Cond.instanceMethod yX7_sheet]
def wsL_law_r25 : List Cond := [Cond.selects RX7 yX7_sheet yX7_sheet, Cond.code yX7_sheet cX7_sheet 8 (some .int), Cond.methodLink RX7 202 Lib.Math.max.name]
def wsL_law : List Cond := (wsL_law_r1 ++ (wsL_law_r2 ++ (wsL_law_r3 ++ (wsL_law_r4 ++ (wsL_law_r5 ++ (wsL_law_r6 ++ (wsL_law_r7 ++ (wsL_law_r8 ++ (wsL_law_r9 ++ (wsL_law_r10 ++ (wsL_law_r11 ++ (wsL_law_r12 ++ (wsL_law_r13 ++ (wsL_law_r14 ++ (wsL_law_r15 ++ (wsL_law_r16 ++ (wsL_law_r17 ++ (wsL_law_r18 ++ (wsL_law_r19 ++ (wsL_law_r20 ++ (wsL_law_r21 ++ (wsL_law_r22 ++ (wsL_law_r23 ++ (wsL_law_r24 ++ wsL_law_r25)))))))))))))))))))))))) ++ wsX60 ++ wsX70 ++ wsX30 ++ wsX10 ++ wsX50 ++ wsX00 ++ wsX20 ++ wsX40 ++ ([] : List Cond)
theorem mem_pos {big ws : List Cond} (ps : List Nat) (hp : ps.filterMap (fun i => big[i]?) = ws) : ∀ w ∈ ws, w ∈ big := by
  intro w hw
  rw [← hp] at hw
  obtain ⟨i, -, hi⟩ := List.mem_filterMap.mp hw
  exact List.mem_of_getElem? hi
theorem mem_app2 {big a b : List Cond} (ha : ∀ w ∈ a, w ∈ big) (hb : ∀ w ∈ b, w ∈ big) : ∀ w ∈ a ++ b, w ∈ big := fun w h => (List.mem_append.mp h).elim (ha w) (hb w)
set_option maxRecDepth 100000 in
theorem wsL_law_r1_in : ∀ w ∈ wsL_law_r1, w ∈ lw_tbl := mem_pos [24, 25, 14, 501, 502, 21, 758, 26, 27, 28, 29, 30, 31, 32, 33, 15, 223, 68, 69, 16, 224, 105, 106, 17] rfl
set_option maxRecDepth 100000 in
theorem wsL_law_r2_in : ∀ w ∈ wsL_law_r2, w ∈ lw_tbl := mem_pos [225, 136, 137, 18, 226, 167, 168, 19, 227, 183, 184, 20, 228, 35, 36, 37, 38, 66, 40, 43, 45, 47, 67, 49] rfl
set_option maxRecDepth 100000 in
theorem wsL_law_r3_in : ∀ w ∈ wsL_law_r3, w ∈ lw_tbl := mem_pos [51, 71, 72, 73, 104, 74, 76, 78, 80, 82, 83, 86, 108, 109, 110, 111, 112, 114, 116, 118, 120, 138, 139, 140] rfl
set_option maxRecDepth 100000 in
theorem wsL_law_r4_in : ∀ w ∈ wsL_law_r4, w ∈ lw_tbl := mem_pos [141, 146, 142, 148, 150, 151, 143, 144, 145, 170, 171, 172, 173, 174, 175, 186, 187, 188, 189, 191, 193, 195, 197, 199] rfl
set_option maxRecDepth 100000 in
theorem wsL_law_r5_in : ∀ w ∈ wsL_law_r5, w ∈ lw_tbl := mem_pos [201, 202, 203, 503, 504, 505, 506, 509, 510, 511, 512, 513, 514, 515, 516, 517, 519, 520, 521, 522, 523, 524, 526, 527] rfl
set_option maxRecDepth 100000 in
theorem wsL_law_r6_in : ∀ w ∈ wsL_law_r6, w ∈ lw_tbl := mem_pos [528, 507, 531, 532, 534, 536, 537, 538, 242, 243, 244, 245, 52, 246, 247, 248, 249, 250, 251, 252, 253, 254, 255, 256] rfl
set_option maxRecDepth 100000 in
theorem wsL_law_r7_in : ∀ w ∈ wsL_law_r7, w ∈ lw_tbl := mem_pos [257, 602, 603, 604, 605, 508, 606, 607, 608, 609, 610, 258, 259, 260, 261, 88, 266, 267, 268, 262, 263, 264, 265, 269] rfl
set_option maxRecDepth 100000 in
theorem wsL_law_r8_in : ∀ w ∈ wsL_law_r8, w ∈ lw_tbl := mem_pos [270, 271, 272, 273, 611, 612, 613, 614, 518, 619, 620, 621, 615, 617, 8, 618, 274, 275, 276, 277, 50, 622, 623, 624] rfl
set_option maxRecDepth 100000 in
theorem wsL_law_r9_in : ∀ w ∈ wsL_law_r9, w ∈ lw_tbl := mem_pos [625, 278, 279, 280, 281, 282, 283, 46, 626, 627, 628, 629, 630, 631, 284, 285, 286, 287, 288, 289, 290, 291, 292, 293] rfl
set_option maxRecDepth 100000 in
theorem wsL_law_r10_in : ∀ w ∈ wsL_law_r10, w ∈ lw_tbl := mem_pos [294, 295, 296, 297, 298, 299, 300, 301, 302, 303, 305, 0, 306, 648, 649, 650, 651, 652, 653, 525, 654, 307, 308, 309] rfl
set_option maxRecDepth 100000 in
theorem wsL_law_r11_in : ∀ w ∈ wsL_law_r11, w ∈ lw_tbl := mem_pos [310, 147, 311, 312, 313, 314, 87, 315, 316, 317, 318, 319, 321, 1, 322, 41, 77, 75, 323, 324, 325, 327, 328, 329] rfl
set_option maxRecDepth 100000 in
theorem wsL_law_r12_in : ∀ w ∈ wsL_law_r12, w ∈ lw_tbl := mem_pos [330, 332, 2, 333, 79, 334, 84, 44, 335, 337, 3, 338, 353, 81, 121, 354, 339, 341, 4, 342, 343, 113, 115, 344] rfl
set_option maxRecDepth 100000 in
theorem wsL_law_r13_in : ∀ w ∈ wsL_law_r13, w ∈ lw_tbl := mem_pos [345, 346, 347, 348, 349, 351, 5, 352, 355, 356, 357, 358, 360, 361, 362, 363, 364, 365, 366, 367, 368, 369, 370, 371] rfl
set_option maxRecDepth 100000 in
theorem wsL_law_r14_in : ∀ w ∈ wsL_law_r14, w ∈ lw_tbl := mem_pos [372, 373, 374, 375, 376, 377, 378, 379, 380, 381, 22, 382, 655, 656, 657, 658, 533, 659, 661, 9, 662, 667, 666, 672] rfl
set_option maxRecDepth 100000 in
theorem wsL_law_r15_in : ∀ w ∈ wsL_law_r15, w ∈ lw_tbl := mem_pos [530, 673, 663, 664, 665, 668, 670, 10, 671, 529, 674, 675, 676, 677, 678, 22, 679, 680, 682, 681, 23, 683, 685, 686] rfl
set_option maxRecDepth 100000 in
theorem wsL_law_r16_in : ∀ w ∈ wsL_law_r16, w ∈ lw_tbl := mem_pos [687, 688, 689, 690, 691, 692, 693, 694, 695, 696, 697, 698, 699, 700, 701, 383, 384, 385, 386, 42, 387, 388, 389, 702] rfl
set_option maxRecDepth 100000 in
theorem wsL_law_r17_in : ∀ w ∈ wsL_law_r17, w ∈ lw_tbl := mem_pos [390, 391, 392, 393, 85, 398, 394, 395, 396, 397, 703, 704, 705, 706, 399, 400, 401, 402, 149, 707, 708, 709, 710, 403] rfl
set_option maxRecDepth 100000 in
theorem wsL_law_r18_in : ∀ w ∈ wsL_law_r18, w ∈ lw_tbl := mem_pos [404, 405, 406, 711, 712, 713, 714, 407, 408, 409, 410, 411, 412, 413, 414, 715, 716, 717, 718, 415, 416, 417, 418, 719] rfl
set_option maxRecDepth 100000 in
theorem wsL_law_r19_in : ∀ w ∈ wsL_law_r19, w ∈ lw_tbl := mem_pos [419, 420, 421, 422, 48, 632, 633, 634, 635, 423, 424, 425, 426, 200, 427, 428, 429, 430, 431, 432, 433, 434, 436, 6] rfl
set_option maxRecDepth 100000 in
theorem wsL_law_r20_in : ∀ w ∈ wsL_law_r20, w ∈ lw_tbl := mem_pos [437, 438, 439, 440, 728, 729, 730, 731, 535, 441, 442, 443, 444, 194, 445, 446, 447, 448, 449, 450, 451, 452, 732, 733] rfl
set_option maxRecDepth 100000 in
theorem wsL_law_r21_in : ∀ w ∈ wsL_law_r21, w ∈ lw_tbl := mem_pos [734, 735, 736, 738, 11, 739, 740, 742, 12, 743, 453, 454, 455, 456, 192, 190, 744, 745, 746, 747, 457, 458, 459, 460] rfl
set_option maxRecDepth 100000 in
theorem wsL_law_r22_in : ∀ w ∈ wsL_law_r22, w ∈ lw_tbl := mem_pos [461, 748, 749, 750, 751, 752, 462, 463, 464, 465, 466, 122, 636, 637, 638, 639, 640, 467, 468, 469, 470, 471, 472, 473] rfl
set_option maxRecDepth 100000 in
theorem wsL_law_r23_in : ∀ w ∈ wsL_law_r23, w ∈ lw_tbl := mem_pos [119, 117, 641, 642, 643, 644, 645, 646, 647, 474, 475, 476, 477, 478, 479, 480, 481, 720, 721, 722, 723, 482, 483, 484] rfl
set_option maxRecDepth 100000 in
theorem wsL_law_r24_in : ∀ w ∈ wsL_law_r24, w ∈ lw_tbl := mem_pos [485, 486, 487, 488, 489, 490, 492, 7, 493, 494, 495, 496, 724, 725, 726, 727, 497, 498, 499, 500, 196, 198, 753, 754] rfl
set_option maxRecDepth 100000 in
theorem wsL_law_r25_in : ∀ w ∈ wsL_law_r25, w ∈ lw_tbl := mem_pos [755, 756, 757] rfl
set_option maxRecDepth 100000 in
theorem wsX60_in : ∀ w ∈ wsX60, w ∈ lw_tbl := mem_pos [229, 231, 233, 235, 237, 239] rfl
set_option maxRecDepth 100000 in
theorem wsX70_in : ∀ w ∈ wsX70, w ∈ lw_tbl := mem_pos [539, 541, 543, 545, 547, 549, 551, 553, 555, 557, 559, 561, 563, 565, 567, 569, 571, 573, 575, 577, 579, 581, 583, 585, 587, 589, 591, 593, 595, 597, 599] rfl
set_option maxRecDepth 100000 in
theorem wsX30_in : ∀ w ∈ wsX30, w ∈ lw_tbl := mem_pos [53, 55, 57, 59, 61, 63] rfl
set_option maxRecDepth 100000 in
theorem wsX10_in : ∀ w ∈ wsX10, w ∈ lw_tbl := mem_pos [89, 91, 93, 95, 97, 99, 101] rfl
set_option maxRecDepth 100000 in
theorem wsX50_in : ∀ w ∈ wsX50, w ∈ lw_tbl := mem_pos [123, 125, 127, 129, 131, 133] rfl
set_option maxRecDepth 100000 in
theorem wsX00_in : ∀ w ∈ wsX00, w ∈ lw_tbl := mem_pos [152, 154, 156, 158, 160, 162, 164] rfl
set_option maxRecDepth 100000 in
theorem wsX20_in : ∀ w ∈ wsX20, w ∈ lw_tbl := mem_pos [176, 178, 180] rfl
set_option maxRecDepth 100000 in
theorem wsX40_in : ∀ w ∈ wsX40, w ∈ lw_tbl := mem_pos [204, 206, 208, 210, 212, 214, 216, 218, 220] rfl
theorem wsL_law_in : ∀ w ∈ wsL_law, w ∈ lw_tbl := (mem_app2 (mem_app2 (mem_app2 (mem_app2 (mem_app2 (mem_app2 (mem_app2 (mem_app2 (mem_app2 (mem_app2 wsL_law_r1_in (mem_app2 wsL_law_r2_in (mem_app2 wsL_law_r3_in (mem_app2 wsL_law_r4_in (mem_app2 wsL_law_r5_in (mem_app2 wsL_law_r6_in (mem_app2 wsL_law_r7_in (mem_app2 wsL_law_r8_in (mem_app2 wsL_law_r9_in (mem_app2 wsL_law_r10_in (mem_app2 wsL_law_r11_in (mem_app2 wsL_law_r12_in (mem_app2 wsL_law_r13_in (mem_app2 wsL_law_r14_in (mem_app2 wsL_law_r15_in (mem_app2 wsL_law_r16_in (mem_app2 wsL_law_r17_in (mem_app2 wsL_law_r18_in (mem_app2 wsL_law_r19_in (mem_app2 wsL_law_r20_in (mem_app2 wsL_law_r21_in (mem_app2 wsL_law_r22_in (mem_app2 wsL_law_r23_in (mem_app2 wsL_law_r24_in wsL_law_r25_in)))))))))))))))))))))))) wsX60_in) wsX70_in) wsX30_in) wsX10_in) wsX50_in) wsX00_in) wsX20_in) wsX40_in) (fun _ h => absurd h List.not_mem_nil))
theorem inlX0 : ∀ w ∈ wsX00, w ∈ wsL_law := fun _ h => List.mem_append_left _ (List.mem_append_left _ (List.mem_append_left _ (List.mem_append_right _ h)))
theorem inX0 : ∀ w ∈ wsX00, w ∈ lw_tbl := fun w h => wsL_law_in w (inlX0 w h)
theorem inlX1 : ∀ w ∈ wsX10, w ∈ wsL_law := fun _ h => List.mem_append_left _ (List.mem_append_left _ (List.mem_append_left _ (List.mem_append_left _ (List.mem_append_left _ (List.mem_append_right _ h)))))
theorem inX1 : ∀ w ∈ wsX10, w ∈ lw_tbl := fun w h => wsL_law_in w (inlX1 w h)
theorem inlX2 : ∀ w ∈ wsX20, w ∈ wsL_law := fun _ h => List.mem_append_left _ (List.mem_append_left _ (List.mem_append_right _ h))
theorem inX2 : ∀ w ∈ wsX20, w ∈ lw_tbl := fun w h => wsL_law_in w (inlX2 w h)
theorem inlX3 : ∀ w ∈ wsX30, w ∈ wsL_law := fun _ h => List.mem_append_left _ (List.mem_append_left _ (List.mem_append_left _ (List.mem_append_left _ (List.mem_append_left _ (List.mem_append_left _ (List.mem_append_right _ h))))))
theorem inX3 : ∀ w ∈ wsX30, w ∈ lw_tbl := fun w h => wsL_law_in w (inlX3 w h)
theorem inlX4 : ∀ w ∈ wsX40, w ∈ wsL_law := fun _ h => List.mem_append_left _ (List.mem_append_right _ h)
theorem inX4 : ∀ w ∈ wsX40, w ∈ lw_tbl := fun w h => wsL_law_in w (inlX4 w h)
theorem inlX5 : ∀ w ∈ wsX50, w ∈ wsL_law := fun _ h => List.mem_append_left _ (List.mem_append_left _ (List.mem_append_left _ (List.mem_append_left _ (List.mem_append_right _ h))))
theorem inX5 : ∀ w ∈ wsX50, w ∈ lw_tbl := fun w h => wsL_law_in w (inlX5 w h)
theorem inlX6 : ∀ w ∈ wsX60, w ∈ wsL_law := fun _ h => List.mem_append_left _ (List.mem_append_left _ (List.mem_append_left _ (List.mem_append_left _ (List.mem_append_left _ (List.mem_append_left _ (List.mem_append_left _ (List.mem_append_left _ (List.mem_append_right _ h))))))))
theorem inX6 : ∀ w ∈ wsX60, w ∈ lw_tbl := fun w h => wsL_law_in w (inlX6 w h)
theorem inlX7 : ∀ w ∈ wsX70, w ∈ wsL_law := fun _ h => List.mem_append_left _ (List.mem_append_left _ (List.mem_append_left _ (List.mem_append_left _ (List.mem_append_left _ (List.mem_append_left _ (List.mem_append_left _ (List.mem_append_right _ h)))))))
theorem inX7 : ∀ w ∈ wsX70, w ∈ lw_tbl := fun w h => wsL_law_in w (inlX7 w h)
theorem inJxe99ae : ∀ w ∈ wsJxe99ae0, w ∈ lw_tbl := by decide +kernel
theorem inJ9 : ∀ w ∈ wsJ90, w ∈ lw_tbl := by decide +kernel
abbrev vwCl : List vw_C := [(RX0, TX0, 7), (RX1, TX1, 7), (RX2, TX2, 3), (RX3, TX3, 6), (RX4, TX4, 9), (RX5, TX5, 6), (RX6, TX6, 6), (RX7, TX7, 31)]
