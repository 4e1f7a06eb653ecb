/-! ===== BEGIN words of one list among another's, by their places ===== -/
theorem goodIn_r {big : List Cond} (ws : List Cond) (ps : List Nat) (hp : ws = ps.filterMap (fun i => big[i]?)) (h : ws.all goodWord = true) : GoodIn big ws := by
  intro w hw
  have h1 := List.all_eq_true.mp h w hw
  rw [hp] at hw
  obtain ⟨i, -, hi⟩ := List.mem_filterMap.mp hw
  have hm : w ∈ big := by first | exact List.mem_of_getElem? hi | exact List.getElem?_mem hi
  exact ⟨hm, good_of_word h1⟩
theorem goodIn_app {big a b : List Cond} (ha : GoodIn big a) (hb : GoodIn big b) : GoodIn big (a ++ b) := fun w h => (List.mem_append.mp h).elim (ha w) (hb w)
theorem goodIn_ca {big a b : List Cond} {c : Cond} (ha : GoodIn big (c :: a)) (hb : GoodIn big b) : GoodIn big (c :: (a ++ b)) := fun w h => (List.mem_cons.mp h).elim (fun e => ha w (List.mem_cons.mpr (Or.inl e))) (fun h => (List.mem_append.mp h).elim (fun h => ha w (List.mem_cons.mpr (Or.inr h))) (hb w))
theorem goodIn_sub {big ws : List Cond} (hm : ∀ w ∈ ws, w ∈ big) (h : ws.all goodWord = true) : GoodIn big ws := fun w hw => ⟨hm w hw, good_of_word (List.all_eq_true.mp h w hw)⟩
/-! ===== END ===== -/
def RX0 : String := "Grainwright$Choice"
def TX0 : u_T := fun k => match k with
  | 0 => ("Grainwright$Choice", "shape", "LGrainwright$Shape;", true)
  | 1 => ("Grainwright$Choice", "rules", "LGrainwright$Rules;", true)
  | 2 => ("Grainwright$Choice", "trial", "LGrainwright$Piece;", true)
  | 3 => ("Grainwright$Choice", "chosen", "[I", true)
  | 4 => ("Grainwright$Choice", "offered", "[I", true)
  | 5 => ("Grainwright$Choice", "chosenMany", "I", false)
  | 6 => ("Grainwright$Choice", "offeredMany", "I", false)
  | 7 => ("Grainwright$Choice", "energy", "I", false)
  | _ => ("Grainwright$Choice", "marks", "I", false)
def tyX0 : Nat → FieldType := fun k => match k with
  | 0 => .object "Grainwright$Shape"
  | 1 => .object "Grainwright$Rules"
  | 2 => .object "Grainwright$Piece"
  | 3 => .array .int
  | 4 => .array .int
  | 5 => .int
  | 6 => .int
  | 7 => .int
  | _ => .int
abbrev wsX00 : List Cond := u_ws RX0 TX0 9
theorem nmX0 : ∀ a, a < 9 → ∀ b, b < 9 → a ≠ b → (TX0 a).2.1 ≠ (TX0 b).2.1 := by decide +kernel
theorem tyX0_ok : ∀ k, k < 9 → parseFieldDescriptor (TX0 k).2.2.1 = some (tyX0 k) := by decide +kernel
abbrev cX0_init : ByteArray := prog_2_method_1_code
def yX0_init : MethodName := ⟨RX0, "<init>", "(LGrainwright$Shape;LGrainwright$Rules;LGrainwright$Piece;)V"⟩
def RX1 : String := "Grainwright$Furnace"
def TX1 : u_T := fun k => match k with
  | 0 => ("Grainwright$Furnace", "rules", "LGrainwright$Rules;", true)
  | 1 => ("Grainwright$Furnace", "seen", "LGrainwright$Grains;", true)
  | 2 => ("Grainwright$Furnace", "first", "LGrainwright$Piece;", true)
  | 3 => ("Grainwright$Furnace", "second", "LGrainwright$Piece;", true)
  | 4 => ("Grainwright$Furnace", "third", "LGrainwright$Piece;", true)
  | 5 => ("Grainwright$Furnace", "aim", "I", false)
  | 6 => ("Grainwright$Furnace", "programme", "I", false)
  | _ => ("Grainwright$Furnace", "size", "I", false)
def tyX1 : Nat → FieldType := fun k => match k with
  | 0 => .object "Grainwright$Rules"
  | 1 => .object "Grainwright$Grains"
  | 2 => .object "Grainwright$Piece"
  | 3 => .object "Grainwright$Piece"
  | 4 => .object "Grainwright$Piece"
  | 5 => .int
  | 6 => .int
  | _ => .int
abbrev wsX10 : List Cond := u_ws RX1 TX1 8
theorem nmX1 : ∀ a, a < 8 → ∀ b, b < 8 → a ≠ b → (TX1 a).2.1 ≠ (TX1 b).2.1 := by decide +kernel
theorem tyX1_ok : ∀ k, k < 8 → parseFieldDescriptor (TX1 k).2.2.1 = some (tyX1 k) := by decide +kernel
abbrev cX1_init : ByteArray := prog_3_method_1_code
def yX1_init : MethodName := ⟨RX1, "<init>", "(LGrainwright$Shape;LGrainwright$Rules;LGrainwright$Piece;)V"⟩
def RX2 : String := "Grainwright$Grains"
def TX2 : u_T := fun k => match k with
  | 0 => ("Grainwright$Grains", "shape", "LGrainwright$Shape;", true)
  | 1 => ("Grainwright$Grains", "rules", "LGrainwright$Rules;", true)
  | 2 => ("Grainwright$Grains", "grainOf", "[I", true)
  | 3 => ("Grainwright$Grains", "firsts", "[I", true)
  | 4 => ("Grainwright$Grains", "sizes", "[I", true)
  | 5 => ("Grainwright$Grains", "leastMarks", "[I", true)
  | 6 => ("Grainwright$Grains", "reached", "[I", true)
  | _ => ("Grainwright$Grains", "many", "I", false)
def tyX2 : Nat → FieldType := fun k => match k with
  | 0 => .object "Grainwright$Shape"
  | 1 => .object "Grainwright$Rules"
  | 2 => .array .int
  | 3 => .array .int
  | 4 => .array .int
  | 5 => .array .int
  | 6 => .array .int
  | _ => .int
abbrev wsX20 : List Cond := u_ws RX2 TX2 8
theorem nmX2 : ∀ a, a < 8 → ∀ b, b < 8 → a ≠ b → (TX2 a).2.1 ≠ (TX2 b).2.1 := by decide +kernel
theorem tyX2_ok : ∀ k, k < 8 → parseFieldDescriptor (TX2 k).2.2.1 = some (tyX2 k) := by decide +kernel
abbrev cX2_init : ByteArray := prog_4_method_1_code
def yX2_init : MethodName := ⟨RX2, "<init>", "(LGrainwright$Shape;LGrainwright$Rules;)V"⟩
abbrev cX2_gather : ByteArray := prog_4_method_2_code
def yX2_gather : MethodName := ⟨RX2, "gather", "(LGrainwright$Piece;I)V"⟩
abbrev cX2_spread : ByteArray := prog_4_method_3_code
def yX2_spread : MethodName := ⟨RX2, "spread", "(LGrainwright$Piece;II)V"⟩
abbrev cX2_isNew : ByteArray := prog_4_method_4_code
def yX2_isNew : MethodName := ⟨RX2, "isNew", "(LGrainwright$Piece;I)Z"⟩
abbrev cX2_many : ByteArray := prog_4_method_5_code
def yX2_many : MethodName := ⟨RX2, "many", "()I"⟩
abbrev cX2_at : ByteArray := prog_4_method_6_code
def yX2_at : MethodName := ⟨RX2, "at", "(I)I"⟩
abbrev cX2_hasGrain : ByteArray := prog_4_method_7_code
def yX2_hasGrain : MethodName := ⟨RX2, "hasGrain", "(I)Z"⟩
abbrev cX2_firstOf : ByteArray := prog_4_method_8_code
def yX2_firstOf : MethodName := ⟨RX2, "firstOf", "(I)I"⟩
abbrev cX2_sizeOf : ByteArray := prog_4_method_9_code
def yX2_sizeOf : MethodName := ⟨RX2, "sizeOf", "(I)I"⟩
abbrev cX2_leastMarkOf : ByteArray := prog_4_method_10_code
def yX2_leastMarkOf : MethodName := ⟨RX2, "leastMarkOf", "(I)I"⟩
abbrev cX2_greatestSize : ByteArray := prog_4_method_11_code
def yX2_greatestSize : MethodName := ⟨RX2, "greatestSize", "()I"⟩
abbrev cX2_sizeByArea : ByteArray := prog_4_method_12_code
def yX2_sizeByArea : MethodName := ⟨RX2, "sizeByArea", "(LGrainwright$Piece;)I"⟩
def RX3 : String := "Grainwright$Piece"
def TX3 : u_T := fun k => match k with
  | 0 => ("Grainwright$Piece", "shape", "LGrainwright$Shape;", true)
  | 1 => ("Grainwright$Piece", "rules", "LGrainwright$Rules;", true)
  | 2 => ("Grainwright$Piece", "marks", "[I", true)
  | 3 => ("Grainwright$Piece", "works", "[I", true)
  | 4 => ("Grainwright$Piece", "hards", "[I", true)
  | 5 => ("Grainwright$Piece", "next", "I", false)
  | _ => ("Grainwright$Piece", "drawn", "I", false)
def tyX3 : Nat → FieldType := fun k => match k with
  | 0 => .object "Grainwright$Shape"
  | 1 => .object "Grainwright$Rules"
  | 2 => .array .int
  | 3 => .array .int
  | 4 => .array .int
  | 5 => .int
  | _ => .int
abbrev wsX30 : List Cond := u_ws RX3 TX3 7
theorem nmX3 : ∀ a, a < 7 → ∀ b, b < 7 → a ≠ b → (TX3 a).2.1 ≠ (TX3 b).2.1 := by decide +kernel
theorem tyX3_ok : ∀ k, k < 7 → parseFieldDescriptor (TX3 k).2.2.1 = some (tyX3 k) := by decide +kernel
abbrev cX3_init : ByteArray := prog_5_method_1_code
def yX3_init : MethodName := ⟨RX3, "<init>", "(LGrainwright$Shape;LGrainwright$Rules;)V"⟩
abbrev cX3_castAnew : ByteArray := prog_5_method_3_code
def yX3_castAnew : MethodName := ⟨RX3, "castAnew", "(I)V"⟩
abbrev cX3_beginRow : ByteArray := prog_5_method_4_code
def yX3_beginRow : MethodName := ⟨RX3, "beginRow", "(I)V"⟩
abbrev cX3_drawnEver : ByteArray := prog_5_method_5_code
def yX3_drawnEver : MethodName := ⟨RX3, "drawnEver", "()I"⟩
abbrev cX3_nextOfRow : ByteArray := prog_5_method_6_code
def yX3_nextOfRow : MethodName := ⟨RX3, "nextOfRow", "()I"⟩
abbrev cX3_drawBelow : ByteArray := prog_5_method_7_code
def yX3_drawBelow : MethodName := ⟨RX3, "drawBelow", "(I)I"⟩
abbrev cX3_markAt : ByteArray := prog_5_method_8_code
def yX3_markAt : MethodName := ⟨RX3, "markAt", "(I)I"⟩
abbrev cX3_workAt : ByteArray := prog_5_method_9_code
def yX3_workAt : MethodName := ⟨RX3, "workAt", "(I)I"⟩
abbrev cX3_hardAt : ByteArray := prog_5_method_10_code
def yX3_hardAt : MethodName := ⟨RX3, "hardAt", "(I)I"⟩
abbrev cX3_putMark : ByteArray := prog_5_method_11_code
def yX3_putMark : MethodName := ⟨RX3, "putMark", "(II)V"⟩
abbrev cX3_putWork : ByteArray := prog_5_method_12_code
def yX3_putWork : MethodName := ⟨RX3, "putWork", "(II)V"⟩
abbrev cX3_putHard : ByteArray := prog_5_method_13_code
def yX3_putHard : MethodName := ⟨RX3, "putHard", "(II)V"⟩
abbrev cX3_particles : ByteArray := prog_5_method_14_code
def yX3_particles : MethodName := ⟨RX3, "particles", "()I"⟩
abbrev cX3_hardCells : ByteArray := prog_5_method_15_code
def yX3_hardCells : MethodName := ⟨RX3, "hardCells", "()I"⟩
abbrev cX3_allWork : ByteArray := prog_5_method_16_code
def yX3_allWork : MethodName := ⟨RX3, "allWork", "()I"⟩
abbrev cX3_misfitAround : ByteArray := prog_5_method_17_code
def yX3_misfitAround : MethodName := ⟨RX3, "misfitAround", "(I)I"⟩
abbrev cX3_energy : ByteArray := prog_5_method_18_code
def yX3_energy : MethodName := ⟨RX3, "energy", "()I"⟩
abbrev cX3_changeBy : ByteArray := prog_5_method_19_code
def yX3_changeBy : MethodName := ⟨RX3, "changeBy", "(II)I"⟩
abbrev cX3_sweepOften : ByteArray := prog_5_method_20_code
def yX3_sweepOften : MethodName := ⟨RX3, "sweepOften", "(II)I"⟩
abbrev cX3_tryOne : ByteArray := prog_5_method_21_code
def yX3_tryOne : MethodName := ⟨RX3, "tryOne", "(I)I"⟩
abbrev cX3_meltOne : ByteArray := prog_5_method_22_code
def yX3_meltOne : MethodName := ⟨RX3, "meltOne", "()V"⟩
abbrev cX3_firstMarkBeside : ByteArray := prog_5_method_23_code
def yX3_firstMarkBeside : MethodName := ⟨RX3, "firstMarkBeside", "(I)I"⟩
abbrev cX3_easeAll : ByteArray := prog_5_method_24_code
def yX3_easeAll : MethodName := ⟨RX3, "easeAll", "()V"⟩
abbrev cX3_rollOnce : ByteArray := prog_5_method_25_code
def yX3_rollOnce : MethodName := ⟨RX3, "rollOnce", "()V"⟩
abbrev cX3_bear : ByteArray := prog_5_method_26_code
def yX3_bear : MethodName := ⟨RX3, "bear", "(I)I"⟩
abbrev cX3_isBearing : ByteArray := prog_5_method_27_code
def yX3_isBearing : MethodName := ⟨RX3, "isBearing", "(II)Z"⟩
abbrev cX3_coolDown : ByteArray := prog_5_method_28_code
def yX3_coolDown : MethodName := ⟨RX3, "coolDown", "(III)I"⟩
abbrev cX3_hardenOne : ByteArray := prog_5_method_30_code
def yX3_hardenOne : MethodName := ⟨RX3, "hardenOne", "()I"⟩
abbrev cX3_loosenAll : ByteArray := prog_5_method_31_code
def yX3_loosenAll : MethodName := ⟨RX3, "loosenAll", "()I"⟩
abbrev cX3_doStep : ByteArray := prog_5_method_32_code
def yX3_doStep : MethodName := ⟨RX3, "doStep", "(I)V"⟩
def RX4 : String := "Grainwright$Rules"
def TX4 : u_T := fun k => match k with
  | 0 => ("Grainwright$Rules", "misfits", "[I", true)
  | 1 => ("Grainwright$Rules", "times", "[I", true)
  | _ => ("Grainwright$Rules", "etch", "I", false)
def tyX4 : Nat → FieldType := fun k => match k with
  | 0 => .array .int
  | 1 => .array .int
  | _ => .int
abbrev wsX40 : List Cond := u_ws RX4 TX4 3
theorem nmX4 : ∀ a, a < 3 → ∀ b, b < 3 → a ≠ b → (TX4 a).2.1 ≠ (TX4 b).2.1 := by decide +kernel
theorem tyX4_ok : ∀ k, k < 3 → parseFieldDescriptor (TX4 k).2.2.1 = some (tyX4 k) := by decide +kernel
abbrev cX4_init : ByteArray := prog_6_method_1_code
def yX4_init : MethodName := ⟨RX4, "<init>", "()V"⟩
abbrev cX4_misfitOf : ByteArray := prog_6_method_2_code
def yX4_misfitOf : MethodName := ⟨RX4, "misfitOf", "(II)I"⟩
abbrev cX4_putMisfit : ByteArray := prog_6_method_3_code
def yX4_putMisfit : MethodName := ⟨RX4, "putMisfit", "(III)V"⟩
abbrev cX4_etchNow : ByteArray := prog_6_method_4_code
def yX4_etchNow : MethodName := ⟨RX4, "etchNow", "()I"⟩
abbrev cX4_putEtch : ByteArray := prog_6_method_5_code
def yX4_putEtch : MethodName := ⟨RX4, "putEtch", "(I)V"⟩
abbrev cX4_timeAt : ByteArray := prog_6_method_6_code
def yX4_timeAt : MethodName := ⟨RX4, "timeAt", "(I)I"⟩
abbrev cX4_putTime : ByteArray := prog_6_method_7_code
def yX4_putTime : MethodName := ⟨RX4, "putTime", "(II)V"⟩
abbrev cX4_tickAt : ByteArray := prog_6_method_8_code
def yX4_tickAt : MethodName := ⟨RX4, "tickAt", "(I)I"⟩
abbrev cX4_isSeen : ByteArray := prog_6_method_9_code
def yX4_isSeen : MethodName := ⟨RX4, "isSeen", "(III)Z"⟩
def RX5 : String := "Grainwright$Shape"
def TX5 : u_T := fun k => match k with
  | 0 => ("Grainwright$Shape", "wide", "I", false)
  | 1 => ("Grainwright$Shape", "high", "I", false)
  | 2 => ("Grainwright$Shape", "cells", "I", false)
  | 3 => ("Grainwright$Shape", "besides", "[I", true)
  | _ => ("Grainwright$Shape", "manyBeside", "[I", true)
def tyX5 : Nat → FieldType := fun k => match k with
  | 0 => .int
  | 1 => .int
  | 2 => .int
  | 3 => .array .int
  | _ => .array .int
abbrev wsX50 : List Cond := u_ws RX5 TX5 5
theorem nmX5 : ∀ a, a < 5 → ∀ b, b < 5 → a ≠ b → (TX5 a).2.1 ≠ (TX5 b).2.1 := by decide +kernel
theorem tyX5_ok : ∀ k, k < 5 → parseFieldDescriptor (TX5 k).2.2.1 = some (tyX5 k) := by decide +kernel
abbrev cX5_init : ByteArray := prog_7_method_1_code
def yX5_init : MethodName := ⟨RX5, "<init>", "()V"⟩
abbrev cX5_layOut : ByteArray := prog_7_method_2_code
def yX5_layOut : MethodName := ⟨RX5, "layOut", "(II)V"⟩
abbrev cX5_layCell : ByteArray := prog_7_method_3_code
def yX5_layCell : MethodName := ⟨RX5, "layCell", "(II)V"⟩
abbrev cX5_addBeside : ByteArray := prog_7_method_4_code
def yX5_addBeside : MethodName := ⟨RX5, "addBeside", "(II)V"⟩
abbrev cX5_holds : ByteArray := prog_7_method_5_code
def yX5_holds : MethodName := ⟨RX5, "holds", "(I)Z"⟩
abbrev cX5_wide : ByteArray := prog_7_method_6_code
def yX5_wide : MethodName := ⟨RX5, "wide", "()I"⟩
abbrev cX5_high : ByteArray := prog_7_method_7_code
def yX5_high : MethodName := ⟨RX5, "high", "()I"⟩
abbrev cX5_cells : ByteArray := prog_7_method_8_code
def yX5_cells : MethodName := ⟨RX5, "cells", "()I"⟩
abbrev cX5_besideMany : ByteArray := prog_7_method_9_code
def yX5_besideMany : MethodName := ⟨RX5, "besideMany", "(I)I"⟩
abbrev cX5_beside : ByteArray := prog_7_method_10_code
def yX5_beside : MethodName := ⟨RX5, "beside", "(II)I"⟩
abbrev cX5_lines : ByteArray := prog_7_method_11_code
def yX5_lines : MethodName := ⟨RX5, "lines", "()I"⟩
abbrev cX5_lineCells : ByteArray := prog_7_method_12_code
def yX5_lineCells : MethodName := ⟨RX5, "lineCells", "(I)I"⟩
abbrev cX5_lineCell : ByteArray := prog_7_method_13_code
def yX5_lineCell : MethodName := ⟨RX5, "lineCell", "(II)I"⟩
def RX6 : String := "Grainwright$Survey"
def TX6 : u_T := fun k => match k with
  | 0 => ("Grainwright$Survey", "shape", "LGrainwright$Shape;", true)
  | 1 => ("Grainwright$Survey", "rules", "LGrainwright$Rules;", true)
  | 2 => ("Grainwright$Survey", "grains", "LGrainwright$Grains;", true)
  | 3 => ("Grainwright$Survey", "seen", "LGrainwright$Grains;", true)
  | 4 => ("Grainwright$Survey", "met", "[I", true)
  | _ => ("Grainwright$Survey", "piece", "LGrainwright$Piece;", false)
def tyX6 : Nat → FieldType := fun k => match k with
  | 0 => .object "Grainwright$Shape"
  | 1 => .object "Grainwright$Rules"
  | 2 => .object "Grainwright$Grains"
  | 3 => .object "Grainwright$Grains"
  | 4 => .array .int
  | _ => .object "Grainwright$Piece"
abbrev wsX60 : List Cond := u_ws RX6 TX6 6
theorem nmX6 : ∀ a, a < 6 → ∀ b, b < 6 → a ≠ b → (TX6 a).2.1 ≠ (TX6 b).2.1 := by decide +kernel
theorem tyX6_ok : ∀ k, k < 6 → parseFieldDescriptor (TX6 k).2.2.1 = some (tyX6 k) := by decide +kernel
abbrev cX6_init : ByteArray := prog_8_method_1_code
def yX6_init : MethodName := ⟨RX6, "<init>", "(LGrainwright$Shape;LGrainwright$Rules;LGrainwright$Piece;)V"⟩
abbrev cX6_look : ByteArray := prog_8_method_2_code
def yX6_look : MethodName := ⟨RX6, "look", "(LGrainwright$Piece;)V"⟩
abbrev cX6_grainMany : ByteArray := prog_8_method_3_code
def yX6_grainMany : MethodName := ⟨RX6, "grainMany", "()I"⟩
abbrev cX6_seenMany : ByteArray := prog_8_method_4_code
def yX6_seenMany : MethodName := ⟨RX6, "seenMany", "()I"⟩
abbrev cX6_metalNumber : ByteArray := prog_8_method_5_code
def yX6_metalNumber : MethodName := ⟨RX6, "metalNumber", "(I)I"⟩
abbrev cX6_sizeByArea : ByteArray := prog_8_method_6_code
def yX6_sizeByArea : MethodName := ⟨RX6, "sizeByArea", "()I"⟩
abbrev cX6_sizeByLines : ByteArray := prog_8_method_7_code
def yX6_sizeByLines : MethodName := ⟨RX6, "sizeByLines", "()I"⟩
abbrev cX6_sizeByChart : ByteArray := prog_8_method_8_code
def yX6_sizeByChart : MethodName := ⟨RX6, "sizeByChart", "()I"⟩
abbrev cX6_strength : ByteArray := prog_8_method_9_code
def yX6_strength : MethodName := ⟨RX6, "strength", "()I"⟩
abbrev cX6_cutsOf : ByteArray := prog_8_method_10_code
def yX6_cutsOf : MethodName := ⟨RX6, "cutsOf", "(I)I"⟩
abbrev cX6_allCuts : ByteArray := prog_8_method_11_code
def yX6_allCuts : MethodName := ⟨RX6, "allCuts", "()I"⟩
abbrev cX6_junctions : ByteArray := prog_8_method_12_code
def yX6_junctions : MethodName := ⟨RX6, "junctions", "()I"⟩
abbrev cX6_marksOfSquare : ByteArray := prog_8_method_13_code
def yX6_marksOfSquare : MethodName := ⟨RX6, "marksOfSquare", "(I)I"⟩
abbrev cX6_cellNumber : ByteArray := prog_8_method_14_code
def yX6_cellNumber : MethodName := ⟨RX6, "cellNumber", "(II)I"⟩
abbrev cX6_othersBeside : ByteArray := prog_8_method_15_code
def yX6_othersBeside : MethodName := ⟨RX6, "othersBeside", "(I)I"⟩
abbrev cX6_grainNumber : ByteArray := prog_8_method_16_code
def yX6_grainNumber : MethodName := ⟨RX6, "grainNumber", "(II)I"⟩
abbrev cX6_roundOf : ByteArray := prog_8_method_17_code
def yX6_roundOf : MethodName := ⟨RX6, "roundOf", "(I)I"⟩
abbrev cX6_bordersOf : ByteArray := prog_8_method_18_code
def yX6_bordersOf : MethodName := ⟨RX6, "bordersOf", "(I)I"⟩
abbrev cX6_workOf : ByteArray := prog_8_method_19_code
def yX6_workOf : MethodName := ⟨RX6, "workOf", "(I)I"⟩
abbrev cX6_hardOf : ByteArray := prog_8_method_20_code
def yX6_hardOf : MethodName := ⟨RX6, "hardOf", "(I)I"⟩
abbrev cX6_grainsBordering : ByteArray := prog_8_method_21_code
def yX6_grainsBordering : MethodName := ⟨RX6, "grainsBordering", "(I)I"⟩
abbrev cX6_textureOf : ByteArray := prog_8_method_22_code
def yX6_textureOf : MethodName := ⟨RX6, "textureOf", "(I)I"⟩
abbrev cX6_drawnPicture : ByteArray := prog_8_method_24_code
def yX6_drawnPicture : MethodName := ⟨RX6, "drawnPicture", "(Z)Ljava/lang/String;"⟩
abbrev cX6_signOf : ByteArray := prog_8_method_25_code
def yX6_signOf : MethodName := ⟨RX6, "signOf", "(IZ)C"⟩
abbrev cX6_isAllSound : ByteArray := prog_8_method_26_code
def yX6_isAllSound : MethodName := ⟨RX6, "isAllSound", "()Z"⟩
abbrev cX6_areCellsSound : ByteArray := prog_8_method_27_code
def yX6_areCellsSound : MethodName := ⟨RX6, "areCellsSound", "()Z"⟩
abbrev cX6_seenPairs : ByteArray := prog_8_method_28_code
def yX6_seenPairs : MethodName := ⟨RX6, "seenPairs", "()I"⟩
def RX7 : String := "Grainwright"
def TX7 : u_T := fun k => match k with
  | 0 => ("Grainwright", "shape", "LGrainwright$Shape;", true)
  | 1 => ("Grainwright", "rules", "LGrainwright$Rules;", true)
  | 2 => ("Grainwright", "piece", "LGrainwright$Piece;", true)
  | 3 => ("Grainwright", "trial", "LGrainwright$Piece;", true)
  | 4 => ("Grainwright", "survey", "LGrainwright$Survey;", true)
  | 5 => ("Grainwright", "oven", "LGrainwright$Furnace;", true)
  | _ => ("Grainwright", "choice", "LGrainwright$Choice;", true)
def tyX7 : Nat → FieldType := fun k => match k with
  | 0 => .object "Grainwright$Shape"
  | 1 => .object "Grainwright$Rules"
  | 2 => .object "Grainwright$Piece"
  | 3 => .object "Grainwright$Piece"
  | 4 => .object "Grainwright$Survey"
  | 5 => .object "Grainwright$Furnace"
  | _ => .object "Grainwright$Choice"
abbrev wsX70 : List Cond := u_ws RX7 TX7 7
theorem nmX7 : ∀ a, a < 7 → ∀ b, b < 7 → a ≠ b → (TX7 a).2.1 ≠ (TX7 b).2.1 := by decide +kernel
theorem tyX7_ok : ∀ k, k < 7 → parseFieldDescriptor (TX7 k).2.2.1 = some (tyX7 k) := by decide +kernel
abbrev cX7_init : ByteArray := prog_1_method_1_code
def yX7_init : MethodName := ⟨RX7, "<init>", "()V"⟩
abbrev cX7_lattice : ByteArray := prog_1_method_2_code
def yX7_lattice : MethodName := ⟨RX7, "lattice", "(III)I"⟩
abbrev cX7_seed : ByteArray := prog_1_method_3_code
def yX7_seed : MethodName := ⟨RX7, "seed", "(I)I"⟩
abbrev cX7_pin : ByteArray := prog_1_method_5_code
def yX7_pin : MethodName := ⟨RX7, "pin", "(I)I"⟩
abbrev cX7_work : ByteArray := prog_1_method_6_code
def yX7_work : MethodName := ⟨RX7, "work", "(II)I"⟩
abbrev cX7_misfit : ByteArray := prog_1_method_7_code
def yX7_misfit : MethodName := ⟨RX7, "misfit", "(III)I"⟩
abbrev cX7_etch : ByteArray := prog_1_method_8_code
def yX7_etch : MethodName := ⟨RX7, "etch", "(I)I"⟩
abbrev cX7_heat : ByteArray := prog_1_method_9_code
def yX7_heat : MethodName := ⟨RX7, "heat", "(II)I"⟩
abbrev cX7_roll : ByteArray := prog_1_method_10_code
def yX7_roll : MethodName := ⟨RX7, "roll", "(I)I"⟩
abbrev cX7_born : ByteArray := prog_1_method_11_code
def yX7_born : MethodName := ⟨RX7, "born", "(I)I"⟩
abbrev cX7_curve : ByteArray := prog_1_method_12_code
def yX7_curve : MethodName := ⟨RX7, "curve", "(II)I"⟩
abbrev cX7_cool : ByteArray := prog_1_method_13_code
def yX7_cool : MethodName := ⟨RX7, "cool", "(III)I"⟩
abbrev cX7_soften : ByteArray := prog_1_method_14_code
def yX7_soften : MethodName := ⟨RX7, "soften", "()I"⟩
abbrev cX7_furnace : ByteArray := prog_1_method_15_code
def yX7_furnace : MethodName := ⟨RX7, "furnace", "(I)I"⟩
abbrev cX7_ofCell : ByteArray := prog_1_method_16_code
def yX7_ofCell : MethodName := ⟨RX7, "ofCell", "(II)I"⟩
abbrev cX7_ofGrain : ByteArray := prog_1_method_17_code
def yX7_ofGrain : MethodName := ⟨RX7, "ofGrain", "(II)I"⟩
abbrev cX7_metal : ByteArray := prog_1_method_18_code
def yX7_metal : MethodName := ⟨RX7, "metal", "(I)I"⟩
abbrev cX7_texture : ByteArray := prog_1_method_20_code
def yX7_texture : MethodName := ⟨RX7, "texture", "(I)I"⟩
abbrev cX7_line : ByteArray := prog_1_method_22_code
def yX7_line : MethodName := ⟨RX7, "line", "(IZ)I"⟩
abbrev cX7_picture : ByteArray := prog_1_method_24_code
def yX7_picture : MethodName := ⟨RX7, "picture", "()Ljava/lang/String;"⟩
abbrev cX7_etched : ByteArray := prog_1_method_25_code
def yX7_etched : MethodName := ⟨RX7, "etched", "()Ljava/lang/String;"⟩
abbrev cX7_isSound : ByteArray := prog_1_method_30_code
def yX7_isSound : MethodName := ⟨RX7, "isSound", "()Z"⟩
abbrev cX7_digest : ByteArray := prog_1_method_31_code
def yX7_digest : MethodName := ⟨RX7, "digest", "()J"⟩
abbrev cX7_digestOfCells : ByteArray := prog_1_method_32_code
def yX7_digestOfCells : MethodName := ⟨RX7, "digestOfCells", "(J)J"⟩
abbrev cX7_digestOfGrains : ByteArray := prog_1_method_33_code
def yX7_digestOfGrains : MethodName := ⟨RX7, "digestOfGrains", "(J)J"⟩
abbrev cX7_isWithin : ByteArray := prog_1_method_34_code
def yX7_isWithin : MethodName := ⟨RX7, "isWithin", "(III)Z"⟩
abbrev cX7_areTwoMarks : ByteArray := prog_1_method_35_code
def yX7_areTwoMarks : MethodName := ⟨RX7, "areTwoMarks", "(II)Z"⟩
abbrev cX7_isCooling : ByteArray := prog_1_method_36_code
def yX7_isCooling : MethodName := ⟨RX7, "isCooling", "(II)Z"⟩
abbrev cX7_isProgramme : ByteArray := prog_1_method_37_code
def yX7_isProgramme : MethodName := ⟨RX7, "isProgramme", "(I)Z"⟩
def RX8 : String := "GrainwrightModel$Numbers"
def TX8 : u_T := fun k => match k with
  | _ => ("", "", "", false)
def tyX8 : Nat → FieldType := fun k => match k with
  | _ => .int
abbrev wsX80 : List Cond := u_ws RX8 TX8 0
theorem nmX8 : ∀ a, a < 0 → ∀ b, b < 0 → a ≠ b → (TX8 a).2.1 ≠ (TX8 b).2.1 := by decide +kernel
theorem tyX8_ok : ∀ k, k < 0 → parseFieldDescriptor (TX8 k).2.2.1 = some (tyX8 k) := by decide +kernel
def RX9 : String := "GrainwrightModel$Slab"
def TX9 : u_T := fun k => match k with
  | _ => ("", "", "", false)
def tyX9 : Nat → FieldType := fun k => match k with
  | _ => .int
abbrev wsX90 : List Cond := u_ws RX9 TX9 0
theorem nmX9 : ∀ a, a < 0 → ∀ b, b < 0 → a ≠ b → (TX9 a).2.1 ≠ (TX9 b).2.1 := by decide +kernel
theorem tyX9_ok : ∀ k, k < 0 → parseFieldDescriptor (TX9 k).2.2.1 = some (tyX9 k) := by decide +kernel
def RX10 : String := "GrainwrightModel"
def TX10 : u_T := fun k => match k with
  | _ => ("", "", "", false)
def tyX10 : Nat → FieldType := fun k => match k with
  | _ => .int
abbrev wsX100 : List Cond := u_ws RX10 TX10 0
theorem nmX10 : ∀ a, a < 0 → ∀ b, b < 0 → a ≠ b → (TX10 a).2.1 ≠ (TX10 b).2.1 := by decide +kernel
theorem tyX10_ok : ∀ k, k < 0 → parseFieldDescriptor (TX10 k).2.2.1 = some (tyX10 k) := by decide +kernel
def RJx145de : String := "java/io/Serializable"
def TJx145de : u_T := fun k => match k with
  | _ => ("", "", "", false)
def tyJx145de : Nat → FieldType := fun k => match k with
  | _ => .int
abbrev wsJx145de0 : List Cond := u_ws RJx145de TJx145de 0
theorem nmJx145de : ∀ a, a < 0 → ∀ b, b < 0 → a ≠ b → (TJx145de a).2.1 ≠ (TJx145de b).2.1 := by decide +kernel
theorem tyJx145de_ok : ∀ k, k < 0 → parseFieldDescriptor (TJx145de k).2.2.1 = some (tyJx145de k) := by decide +kernel
def RJ5 : String := "java/lang/AbstractStringBuilder"
def TJ5 : u_T := fun k => match k with
  | _ => ("", "", "", false)
def tyJ5 : Nat → FieldType := fun k => match k with
  | _ => .int
abbrev wsJ50 : List Cond := u_ws RJ5 TJ5 0
theorem nmJ5 : ∀ a, a < 0 → ∀ b, b < 0 → a ≠ b → (TJ5 a).2.1 ≠ (TJ5 b).2.1 := by decide +kernel
theorem tyJ5_ok : ∀ k, k < 0 → parseFieldDescriptor (TJ5 k).2.2.1 = some (tyJ5 k) := by decide +kernel
abbrev cJ5_init_d00df : ByteArray := prog_13_method_2_code
def yJ5_init_d00df : MethodName := ⟨RJ5, "<init>", "(I)V"⟩
abbrev cJ5_length_8abf5 : ByteArray := prog_13_method_6_code
def yJ5_length_8abf5 : MethodName := ⟨RJ5, "length", "()I"⟩
abbrev cJ5_ensureCapacityInternal_d00df : ByteArray := prog_13_method_9_code
def yJ5_ensureCapacityInternal_d00df : MethodName := ⟨RJ5, "ensureCapacityInternal", "(I)V"⟩
abbrev cJ5_newCapacity_0f7a4 : ByteArray := prog_13_method_10_code
def yJ5_newCapacity_0f7a4 : MethodName := ⟨RJ5, "newCapacity", "(I)I"⟩
abbrev cJ5_inflate_da8c8 : ByteArray := prog_13_method_11_code
def yJ5_inflate_da8c8 : MethodName := ⟨RJ5, "inflate", "()V"⟩
abbrev cJ5_append_3fe6f : ByteArray := prog_13_method_31_code
def yJ5_append_3fe6f : MethodName := ⟨RJ5, "append", "(C)Ljava/lang/AbstractStringBuilder;"⟩
abbrev cJ5_getValue_6d5f1 : ByteArray := prog_13_method_64_code
def yJ5_getValue_6d5f1 : MethodName := ⟨RJ5, "getValue", "()[B"⟩
abbrev cJ5_isLatin1_aae02 : ByteArray := prog_13_method_68_code
def yJ5_isLatin1_aae02 : MethodName := ⟨RJ5, "isLatin1", "()Z"⟩
def RJx2cfe8 : String := "java/lang/Appendable"
def TJx2cfe8 : u_T := fun k => match k with
  | _ => ("", "", "", false)
def tyJx2cfe8 : Nat → FieldType := fun k => match k with
  | _ => .int
abbrev wsJx2cfe80 : List Cond := u_ws RJx2cfe8 TJx2cfe8 0
theorem nmJx2cfe8 : ∀ a, a < 0 → ∀ b, b < 0 → a ≠ b → (TJx2cfe8 a).2.1 ≠ (TJx2cfe8 b).2.1 := by decide +kernel
theorem tyJx2cfe8_ok : ∀ k, k < 0 → parseFieldDescriptor (TJx2cfe8 k).2.2.1 = some (tyJx2cfe8 k) := by decide +kernel
def RJx9f9b0 : String := "java/lang/CharSequence"
def TJx9f9b0 : u_T := fun k => match k with
  | _ => ("", "", "", false)
def tyJx9f9b0 : Nat → FieldType := fun k => match k with
  | _ => .int
abbrev wsJx9f9b00 : List Cond := u_ws RJx9f9b0 TJx9f9b0 0
theorem nmJx9f9b0 : ∀ a, a < 0 → ∀ b, b < 0 → a ≠ b → (TJx9f9b0 a).2.1 ≠ (TJx9f9b0 b).2.1 := by decide +kernel
theorem tyJx9f9b0_ok : ∀ k, k < 0 → parseFieldDescriptor (TJx9f9b0 k).2.2.1 = some (tyJx9f9b0 k) := by decide +kernel
def RJx8e188 : String := "java/lang/Cloneable"
def TJx8e188 : u_T := fun k => match k with
  | _ => ("", "", "", false)
def tyJx8e188 : Nat → FieldType := fun k => match k with
  | _ => .int
abbrev wsJx8e1880 : List Cond := u_ws RJx8e188 TJx8e188 0
theorem nmJx8e188 : ∀ a, a < 0 → ∀ b, b < 0 → a ≠ b → (TJx8e188 a).2.1 ≠ (TJx8e188 b).2.1 := by decide +kernel
theorem tyJx8e188_ok : ∀ k, k < 0 → parseFieldDescriptor (TJx8e188 k).2.2.1 = some (tyJx8e188 k) := by decide +kernel
def RJxb160c : String := "java/lang/Comparable"
def TJxb160c : u_T := fun k => match k with
  | _ => ("", "", "", false)
def tyJxb160c : Nat → FieldType := fun k => match k with
  | _ => .int
abbrev wsJxb160c0 : List Cond := u_ws RJxb160c TJxb160c 0
theorem nmJxb160c : ∀ a, a < 0 → ∀ b, b < 0 → a ≠ b → (TJxb160c a).2.1 ≠ (TJxb160c b).2.1 := by decide +kernel
theorem tyJxb160c_ok : ∀ k, k < 0 → parseFieldDescriptor (TJxb160c k).2.2.1 = some (tyJxb160c k) := by decide +kernel
def RJ6 : String := "java/lang/Integer"
def TJ6 : u_T := fun k => match k with
  | _ => ("", "", "", false)
def tyJ6 : Nat → FieldType := fun k => match k with
  | _ => .int
abbrev wsJ60 : List Cond := u_ws RJ6 TJ6 0
theorem nmJ6 : ∀ a, a < 0 → ∀ b, b < 0 → a ≠ b → (TJ6 a).2.1 ≠ (TJ6 b).2.1 := by decide +kernel
theorem tyJ6_ok : ∀ k, k < 0 → parseFieldDescriptor (TJ6 k).2.2.1 = some (tyJ6 k) := by decide +kernel
abbrev cJ6_bitCount_0f7a4 : ByteArray := prog_19_method_49_code
def yJ6_bitCount_0f7a4 : MethodName := ⟨RJ6, "bitCount", "(I)I"⟩
def RJ9 : String := "java/lang/Math"
def TJ9 : u_T := fun k => match k with
  | _ => ("", "", "", false)
def tyJ9 : Nat → FieldType := fun k => match k with
  | _ => .int
abbrev wsJ90 : List Cond := u_ws RJ9 TJ9 0
theorem nmJ9 : ∀ a, a < 0 → ∀ b, b < 0 → a ≠ b → (TJ9 a).2.1 ≠ (TJ9 b).2.1 := by decide +kernel
theorem tyJ9_ok : ∀ k, k < 0 → parseFieldDescriptor (TJ9 k).2.2.1 = some (tyJ9 k) := by decide +kernel
abbrev cJ9_max_7cf53 : ByteArray := prog_20_method_65_code
def yJ9_max_7cf53 : MethodName := ⟨RJ9, "max", "(II)I"⟩
abbrev cJ9_min_7cf53 : ByteArray := prog_20_method_69_code
def yJ9_min_7cf53 : MethodName := ⟨RJ9, "min", "(II)I"⟩
def RJ0 : String := "java/lang/String"
def TJ0 : u_T := fun k => match k with
  | 0 => ("java/lang/String", "value", "[B", true)
  | 1 => ("java/lang/String", "coder", "B", true)
  | 2 => ("java/lang/String", "hash", "I", false)
  | _ => ("java/lang/String", "hashIsZero", "Z", false)
def tyJ0 : Nat → FieldType := fun k => match k with
  | 0 => .array .byte
  | 1 => .byte
  | 2 => .int
  | _ => .boolean
abbrev wsJ00 : List Cond := u_ws RJ0 TJ0 4
theorem nmJ0 : ∀ a, a < 4 → ∀ b, b < 4 → a ≠ b → (TJ0 a).2.1 ≠ (TJ0 b).2.1 := by decide +kernel
theorem tyJ0_ok : ∀ k, k < 4 → parseFieldDescriptor (TJ0 k).2.2.1 = some (tyJ0 k) := by decide +kernel
abbrev cJ0_init_81219 : ByteArray := prog_22_method_53_code
def yJ0_init_81219 : MethodName := ⟨RJ0, "<init>", "(Ljava/lang/StringBuilder;)V"⟩
abbrev cJ0_length_8abf5 : ByteArray := prog_22_method_54_code
def yJ0_length_8abf5 : MethodName := ⟨RJ0, "length", "()I"⟩
abbrev cJ0_init_db425 : ByteArray := prog_22_method_150_code
def yJ0_init_db425 : MethodName := ⟨RJ0, "<init>", "(Ljava/lang/AbstractStringBuilder;Ljava/lang/Void;)V"⟩
abbrev cJ0_coder_7d493 : ByteArray := prog_22_method_152_code
def yJ0_coder_7d493 : MethodName := ⟨RJ0, "coder", "()B"⟩
abbrev cJ0_checkIndex_df160 : ByteArray := prog_22_method_155_code
def yJ0_checkIndex_df160 : MethodName := ⟨RJ0, "checkIndex", "(II)V"⟩
abbrev cJ0_checkBoundsOffCount_cabcc : ByteArray := prog_22_method_157_code
def yJ0_checkBoundsOffCount_cabcc : MethodName := ⟨RJ0, "checkBoundsOffCount", "(III)I"⟩
def RJ4 : String := "java/lang/StringBuilder"
def TJ4 : u_T := fun k => match k with
  | 0 => ("java/lang/AbstractStringBuilder", "value", "[B", false)
  | 1 => ("java/lang/AbstractStringBuilder", "coder", "B", false)
  | 2 => ("java/lang/AbstractStringBuilder", "maybeLatin1", "Z", false)
  | _ => ("java/lang/AbstractStringBuilder", "count", "I", false)
def tyJ4 : Nat → FieldType := fun k => match k with
  | 0 => .array .byte
  | 1 => .byte
  | 2 => .boolean
  | _ => .int
abbrev wsJ40 : List Cond := u_ws RJ4 TJ4 4
theorem nmJ4 : ∀ a, a < 4 → ∀ b, b < 4 → a ≠ b → (TJ4 a).2.1 ≠ (TJ4 b).2.1 := by decide +kernel
theorem tyJ4_ok : ∀ k, k < 4 → parseFieldDescriptor (TJ4 k).2.2.1 = some (tyJ4 k) := by decide +kernel
abbrev cJ4_init_da8c8 : ByteArray := prog_23_method_1_code
def yJ4_init_da8c8 : MethodName := ⟨RJ4, "<init>", "()V"⟩
abbrev cJ4_append_cf468 : ByteArray := prog_23_method_14_code
def yJ4_append_cf468 : MethodName := ⟨RJ4, "append", "(C)Ljava/lang/StringBuilder;"⟩
abbrev cJ4_toString_0e30d : ByteArray := prog_23_method_42_code
def yJ4_toString_0e30d : MethodName := ⟨RJ4, "toString", "()Ljava/lang/String;"⟩
abbrev cJ4_length_8abf5 : ByteArray := prog_23_method_93_code
def yJ4_length_8abf5 : MethodName := ⟨RJ4, "length", "()I"⟩
def RJ1 : String := "java/lang/StringLatin1"
def TJ1 : u_T := fun k => match k with
  | _ => ("", "", "", false)
def tyJ1 : Nat → FieldType := fun k => match k with
  | _ => .int
abbrev wsJ10 : List Cond := u_ws RJ1 TJ1 0
theorem nmJ1 : ∀ a, a < 0 → ∀ b, b < 0 → a ≠ b → (TJ1 a).2.1 ≠ (TJ1 b).2.1 := by decide +kernel
theorem tyJ1_ok : ∀ k, k < 0 → parseFieldDescriptor (TJ1 k).2.2.1 = some (tyJ1 k) := by decide +kernel
abbrev cJ1_canEncode_fc78d : ByteArray := prog_24_method_3_code
def yJ1_canEncode_fc78d : MethodName := ⟨RJ1, "canEncode", "(C)Z"⟩
abbrev cJ1_inflate_0e8fd : ByteArray := prog_24_method_50_code
def yJ1_inflate_0e8fd : MethodName := ⟨RJ1, "inflate", "([BI[BII)V"⟩
def RJ2 : String := "java/lang/StringUTF16"
def TJ2 : u_T := fun k => match k with
  | _ => ("", "", "", false)
def tyJ2 : Nat → FieldType := fun k => match k with
  | _ => .int
abbrev wsJ20 : List Cond := u_ws RJ2 TJ2 0
theorem nmJ2 : ∀ a, a < 0 → ∀ b, b < 0 → a ≠ b → (TJ2 a).2.1 ≠ (TJ2 b).2.1 := by decide +kernel
theorem tyJ2_ok : ∀ k, k < 0 → parseFieldDescriptor (TJ2 k).2.2.1 = some (tyJ2 k) := by decide +kernel
abbrev cJ2_newBytesFor_77867 : ByteArray := prog_25_method_2_code
def yJ2_newBytesFor_77867 : MethodName := ⟨RJ2, "newBytesFor", "(I)[B"⟩
abbrev cJ2_newBytesLength_0f7a4 : ByteArray := prog_25_method_3_code
def yJ2_newBytesLength_0f7a4 : MethodName := ⟨RJ2, "newBytesLength", "(I)I"⟩
abbrev cJ2_putChar_b72d1 : ByteArray := prog_25_method_4_code
def yJ2_putChar_b72d1 : MethodName := ⟨RJ2, "putChar", "([BII)V"⟩
abbrev cJ2_getChar_3b067 : ByteArray := prog_25_method_5_code
def yJ2_getChar_3b067 : MethodName := ⟨RJ2, "getChar", "([BI)C"⟩
abbrev cJ2_length_9d52b : ByteArray := prog_25_method_6_code
def yJ2_length_9d52b : MethodName := ⟨RJ2, "length", "([B)I"⟩
abbrev cJ2_coderFromArrayLen_85cad : ByteArray := prog_25_method_15_code
def yJ2_coderFromArrayLen_85cad : MethodName := ⟨RJ2, "coderFromArrayLen", "([BI)B"⟩
abbrev cJ2_compress_39247 : ByteArray := prog_25_method_17_code
def yJ2_compress_39247 : MethodName := ⟨RJ2, "compress", "([BII)[B"⟩
abbrev cJ2_compress_5af95 : ByteArray := prog_25_method_22_code
def yJ2_compress_5af95 : MethodName := ⟨RJ2, "compress", "([BI[BII)I"⟩
abbrev cJ2_putCharSB_b72d1 : ByteArray := prog_25_method_71_code
def yJ2_putCharSB_b72d1 : MethodName := ⟨RJ2, "putCharSB", "([BII)V"⟩
abbrev cJ2_inflate_0e8fd : ByteArray := prog_25_method_86_code
def yJ2_inflate_0e8fd : MethodName := ⟨RJ2, "inflate", "([BI[BII)V"⟩
abbrev cJ2_checkIndex_2214a : ByteArray := prog_25_method_91_code
def yJ2_checkIndex_2214a : MethodName := ⟨RJ2, "checkIndex", "(I[B)V"⟩
abbrev cJ2_checkBoundsOffCount_d044e : ByteArray := prog_25_method_94_code
def yJ2_checkBoundsOffCount_d044e : MethodName := ⟨RJ2, "checkBoundsOffCount", "(II[B)V"⟩
def RJ10 : String := "java/lang/System"
def TJ10 : u_T := fun k => match k with
  | _ => ("", "", "", false)
def tyJ10 : Nat → FieldType := fun k => match k with
  | _ => .int
abbrev wsJ100 : List Cond := u_ws RJ10 TJ10 0
theorem nmJ10 : ∀ a, a < 0 → ∀ b, b < 0 → a ≠ b → (TJ10 a).2.1 ≠ (TJ10 b).2.1 := by decide +kernel
theorem tyJ10_ok : ∀ k, k < 0 → parseFieldDescriptor (TJ10 k).2.2.1 = some (tyJ10 k) := by decide +kernel
def RJxfd54e : String := "java/lang/constant/Constable"
def TJxfd54e : u_T := fun k => match k with
  | _ => ("", "", "", false)
def tyJxfd54e : Nat → FieldType := fun k => match k with
  | _ => .int
abbrev wsJxfd54e0 : List Cond := u_ws RJxfd54e TJxfd54e 0
theorem nmJxfd54e : ∀ a, a < 0 → ∀ b, b < 0 → a ≠ b → (TJxfd54e a).2.1 ≠ (TJxfd54e b).2.1 := by decide +kernel
theorem tyJxfd54e_ok : ∀ k, k < 0 → parseFieldDescriptor (TJxfd54e k).2.2.1 = some (tyJxfd54e k) := by decide +kernel
def RJx3cf43 : String := "java/lang/constant/ConstantDesc"
def TJx3cf43 : u_T := fun k => match k with
  | _ => ("", "", "", false)
def tyJx3cf43 : Nat → FieldType := fun k => match k with
  | _ => .int
abbrev wsJx3cf430 : List Cond := u_ws RJx3cf43 TJx3cf43 0
theorem nmJx3cf43 : ∀ a, a < 0 → ∀ b, b < 0 → a ≠ b → (TJx3cf43 a).2.1 ≠ (TJx3cf43 b).2.1 := by decide +kernel
theorem tyJx3cf43_ok : ∀ k, k < 0 → parseFieldDescriptor (TJx3cf43 k).2.2.1 = some (tyJx3cf43 k) := by decide +kernel
def RJ7 : String := "java/util/Arrays"
def TJ7 : u_T := fun k => match k with
  | _ => ("", "", "", false)
def tyJ7 : Nat → FieldType := fun k => match k with
  | _ => .int
abbrev wsJ70 : List Cond := u_ws RJ7 TJ7 0
theorem nmJ7 : ∀ a, a < 0 → ∀ b, b < 0 → a ≠ b → (TJ7 a).2.1 ≠ (TJ7 b).2.1 := by decide +kernel
theorem tyJ7_ok : ∀ k, k < 0 → parseFieldDescriptor (TJ7 k).2.2.1 = some (tyJ7 k) := by decide +kernel
abbrev cJ7_fill_53178 : ByteArray := prog_28_method_103_code
def yJ7_fill_53178 : MethodName := ⟨RJ7, "fill", "([II)V"⟩
abbrev cJ7_copyOf_9075b : ByteArray := prog_28_method_121_code
def yJ7_copyOf_9075b : MethodName := ⟨RJ7, "copyOf", "([BI)[B"⟩
abbrev cJ7_checkLength_df160 : ByteArray := prog_28_method_131_code
def yJ7_checkLength_df160 : MethodName := ⟨RJ7, "checkLength", "(II)V"⟩
abbrev cJ7_copyOfRange_39247 : ByteArray := prog_28_method_132_code
def yJ7_copyOfRange_39247 : MethodName := ⟨RJ7, "copyOfRange", "([BII)[B"⟩
abbrev cJ7_copyOfRangeByte_39247 : ByteArray := prog_28_method_133_code
def yJ7_copyOfRangeByte_39247 : MethodName := ⟨RJ7, "copyOfRangeByte", "([BII)[B"⟩
def RJ8 : String := "jdk/internal/util/ArraysSupport"
def TJ8 : u_T := fun k => match k with
  | _ => ("", "", "", false)
def tyJ8 : Nat → FieldType := fun k => match k with
  | _ => .int
abbrev wsJ80 : List Cond := u_ws RJ8 TJ8 0
theorem nmJ8 : ∀ a, a < 0 → ∀ b, b < 0 → a ≠ b → (TJ8 a).2.1 ≠ (TJ8 b).2.1 := by decide +kernel
theorem tyJ8_ok : ∀ k, k < 0 → parseFieldDescriptor (TJ8 k).2.2.1 = some (tyJ8 k) := by decide +kernel
abbrev cJ8_newLength_cabcc : ByteArray := prog_29_method_27_code
def yJ8_newLength_cabcc : MethodName := ⟨RJ8, "newLength", "(III)I"⟩
abbrev cJ8_hugeLength_7cf53 : ByteArray := prog_29_method_28_code
def yJ8_hugeLength_7cf53 : MethodName := ⟨RJ8, "hugeLength", "(II)I"⟩
def RJ3 : String := "jdk/internal/util/Preconditions"
def TJ3 : u_T := fun k => match k with
  | _ => ("", "", "", false)
def tyJ3 : Nat → FieldType := fun k => match k with
  | _ => .int
abbrev wsJ30 : List Cond := u_ws RJ3 TJ3 0
theorem nmJ3 : ∀ a, a < 0 → ∀ b, b < 0 → a ≠ b → (TJ3 a).2.1 ≠ (TJ3 b).2.1 := by decide +kernel
theorem tyJ3_ok : ∀ k, k < 0 → parseFieldDescriptor (TJ3 k).2.2.1 = some (tyJ3 k) := by decide +kernel
abbrev cJ3_checkIndex_8e157 : ByteArray := prog_30_method_11_code
def yJ3_checkIndex_8e157 : MethodName := ⟨RJ3, "checkIndex", "(IILjava/util/function/BiFunction;)I"⟩
abbrev cJ3_checkFromIndexSize_8c36e : ByteArray := prog_30_method_13_code
def yJ3_checkFromIndexSize_8c36e : MethodName := ⟨RJ3, "checkFromIndexSize", "(IIILjava/util/function/BiFunction;)I"⟩
def RL : String := "GrainwrightLaw"
abbrev cL_below : ByteArray := method_2_code
def yL_below : MethodName := ⟨RL, "below", "(II)I"⟩
abbrev cL_cell : ByteArray := method_3_code
def yL_cell : MethodName := ⟨RL, "cell", "([II)I"⟩
abbrev cL_slab : ByteArray := method_4_code
def yL_slab : MethodName := ⟨RL, "slab", "([II)LGrainwright;"⟩
abbrev cL_told : ByteArray := method_5_code
def yL_told : MethodName := ⟨RL, "told", "(LGrainwright;I)[I"⟩
abbrev cL_wide : ByteArray := method_6_code
def yL_wide : MethodName := ⟨RL, "wide", "(LGrainwright;)I"⟩
abbrev cL_high : ByteArray := method_7_code
def yL_high : MethodName := ⟨RL, "high", "(LGrainwright;)I"⟩
abbrev cL_law : ByteArray := code
def yL_law : MethodName := ⟨RL, "law", "([I)Z"⟩
abbrev cL_isSo : ByteArray := method_10_code
def yL_isSo : MethodName := ⟨RL, "isSo", "(LGrainwright;I)Z"⟩
abbrev vwCl : List vw_C := [(RJ0, TJ0, 4), (RJ4, TJ4, 4), (RX0, TX0, 9), (RX1, TX1, 8), (RX2, TX2, 8), (RX3, TX3, 7), (RX4, TX4, 3), (RX5, TX5, 5), (RX6, TX6, 6), (RX7, TX7, 7)]
def wA_0 : List Cond := [Cond.arrayClass .boolean, Cond.methodLink RL 58 yL_slab, Cond.static yL_slab, Cond.initialized RL, Cond.code yL_slab cL_slab 9 (some (.object "Grainwright")), Cond.classLink RL 9 RX7, Cond.instantiable RX7 7, Cond.initialized RX7, Cond.methodLink RL 11 yX7_init, Cond.instanceMethod yX7_init, Cond.code yX7_init cX7_init 1 none, Cond.methodLink RX7 3 objectInit, Cond.instanceMethod objectInit, Cond.code objectInit ⟨#[0xb1]⟩ 1 none, Cond.classLink RX7 9 RX5, Cond.instantiable RX5 5, Cond.initialized RX5, Cond.fieldLink RX7 12 "Grainwright" "shape" "LGrainwright$Shape;", Cond.classLink RX7 16 RX4, Cond.instantiable RX4 3, Cond.initialized RX4, Cond.fieldLink RX7 19 "Grainwright" "rules" "LGrainwright$Rules;", Cond.classLink RX7 23 RX3, Cond.instantiable RX3 7, Cond.initialized RX3, Cond.fieldLink RX7 28 "Grainwright" "piece" "LGrainwright$Piece;", Cond.fieldLink RX7 32 "Grainwright" "trial" "LGrainwright$Piece;", Cond.classLink RX7 35 RX6, Cond.instantiable RX6 6, Cond.initialized RX6]
def wA_1 : List Cond := [Cond.fieldLink RX7 40 "Grainwright" "survey" "LGrainwright$Survey;", Cond.classLink RX7 44 RX1, Cond.instantiable RX1 8, Cond.initialized RX1, Cond.fieldLink RX7 47 "Grainwright" "oven" "LGrainwright$Furnace;", Cond.classLink RX7 51 RX0, Cond.instantiable RX0 9, Cond.initialized RX0, Cond.fieldLink RX7 54 "Grainwright" "choice" "LGrainwright$Choice;", Cond.instanceMethod yX5_init, Cond.code yX5_init cX5_init 1 none, Cond.methodLink RX5 3 objectInit, Cond.arrayClass .int, Cond.fieldLink RX5 9 "Grainwright$Shape" "besides" "[I", Cond.fieldLink RX5 15 "Grainwright$Shape" "manyBeside" "[I", Cond.methodLink RX7 18 yX4_init, Cond.instanceMethod yX4_init, Cond.code yX4_init cX4_init 2 none, Cond.methodLink RX4 3 objectInit, Cond.fieldLink RX4 9 "Grainwright$Rules" "misfits" "[I", Cond.fieldLink RX4 15 "Grainwright$Rules" "times" "[I", Cond.fieldLink RX4 18 "Grainwright$Rules" "etch" "I", Cond.methodLink RX4 22 yJ7_fill_53178, Cond.static yJ7_fill_53178, Cond.initialized RJ7, Cond.code yJ7_fill_53178 cJ7_fill_53178 4 none, Cond.methodLink RX4 28 yX4_putMisfit, Cond.instanceMethod yX4_putMisfit, Cond.selects RX4 yX4_putMisfit yX4_putMisfit, Cond.code yX4_putMisfit cX4_putMisfit 4 none]
def wA_2 : List Cond := [Cond.methodLink RX7 25 yX3_init, Cond.instanceMethod yX3_init, Cond.code yX3_init cX3_init 3 none, Cond.methodLink RX3 3 objectInit, Cond.fieldLink RX3 9 "Grainwright$Piece" "marks" "[I", Cond.fieldLink RX3 15 "Grainwright$Piece" "works" "[I", Cond.fieldLink RX3 18 "Grainwright$Piece" "hards" "[I", Cond.fieldLink RX3 21 "Grainwright$Piece" "next" "I", Cond.fieldLink RX3 25 "Grainwright$Piece" "drawn" "I", Cond.fieldLink RX3 28 "Grainwright$Piece" "shape" "LGrainwright$Shape;", Cond.fieldLink RX3 32 "Grainwright$Piece" "rules" "LGrainwright$Rules;", Cond.methodLink RX7 37 yX6_init, Cond.instanceMethod yX6_init, Cond.code yX6_init cX6_init 4 none, Cond.methodLink RX6 3 objectInit, Cond.fieldLink RX6 9 "Grainwright$Survey" "met" "[I", Cond.fieldLink RX6 15 "Grainwright$Survey" "shape" "LGrainwright$Shape;", Cond.fieldLink RX6 19 "Grainwright$Survey" "rules" "LGrainwright$Rules;", Cond.fieldLink RX6 23 "Grainwright$Survey" "piece" "LGrainwright$Piece;", Cond.classLink RX6 27 RX2, Cond.instantiable RX2 8, Cond.initialized RX2, Cond.fieldLink RX6 32 "Grainwright$Survey" "grains" "LGrainwright$Grains;", Cond.fieldLink RX6 36 "Grainwright$Survey" "seen" "LGrainwright$Grains;", Cond.methodLink RX6 29 yX2_init, Cond.instanceMethod yX2_init, Cond.code yX2_init cX2_init 3 none, Cond.methodLink RX2 3 objectInit, Cond.fieldLink RX2 9 "Grainwright$Grains" "grainOf" "[I", Cond.fieldLink RX2 15 "Grainwright$Grains" "firsts" "[I"]
def wA_3 : List Cond := [Cond.fieldLink RX2 18 "Grainwright$Grains" "sizes" "[I", Cond.fieldLink RX2 21 "Grainwright$Grains" "leastMarks" "[I", Cond.fieldLink RX2 24 "Grainwright$Grains" "reached" "[I", Cond.fieldLink RX2 27 "Grainwright$Grains" "many" "I", Cond.fieldLink RX2 31 "Grainwright$Grains" "shape" "LGrainwright$Shape;", Cond.fieldLink RX2 35 "Grainwright$Grains" "rules" "LGrainwright$Rules;", Cond.methodLink RX7 46 yX1_init, Cond.instanceMethod yX1_init, Cond.code yX1_init cX1_init 4 none, Cond.methodLink RX1 3 objectInit, Cond.fieldLink RX1 9 "Grainwright$Furnace" "aim" "I", Cond.fieldLink RX1 15 "Grainwright$Furnace" "programme" "I", Cond.fieldLink RX1 18 "Grainwright$Furnace" "size" "I", Cond.fieldLink RX1 21 "Grainwright$Furnace" "rules" "LGrainwright$Rules;", Cond.classLink RX1 25 RX2, Cond.fieldLink RX1 30 "Grainwright$Furnace" "seen" "LGrainwright$Grains;", Cond.fieldLink RX1 34 "Grainwright$Furnace" "first" "LGrainwright$Piece;", Cond.classLink RX1 38 RX3, Cond.fieldLink RX1 41 "Grainwright$Furnace" "second" "LGrainwright$Piece;", Cond.fieldLink RX1 44 "Grainwright$Furnace" "third" "LGrainwright$Piece;", Cond.methodLink RX1 27 yX2_init, Cond.methodLink RX1 40 yX3_init, Cond.methodLink RX7 53 yX0_init, Cond.instanceMethod yX0_init, Cond.code yX0_init cX0_init 4 none, Cond.methodLink RX0 3 objectInit, Cond.fieldLink RX0 9 "Grainwright$Choice" "chosen" "[I", Cond.fieldLink RX0 15 "Grainwright$Choice" "offered" "[I", Cond.fieldLink RX0 18 "Grainwright$Choice" "chosenMany" "I", Cond.fieldLink RX0 22 "Grainwright$Choice" "offeredMany" "I"]
def wA_4 : List Cond := [Cond.fieldLink RX0 25 "Grainwright$Choice" "energy" "I", Cond.fieldLink RX0 28 "Grainwright$Choice" "marks" "I", Cond.fieldLink RX0 31 "Grainwright$Choice" "shape" "LGrainwright$Shape;", Cond.fieldLink RX0 35 "Grainwright$Choice" "rules" "LGrainwright$Rules;", Cond.fieldLink RX0 39 "Grainwright$Choice" "trial" "LGrainwright$Piece;", Cond.methodLink RL 12 yL_cell, Cond.static yL_cell, Cond.code yL_cell cL_cell 2 (some .int), Cond.constant RL 8 (790386105), Cond.methodLink RL 18 yL_below, Cond.static yL_below, Cond.code yL_below cL_below 2 (some .int), Cond.constant RL 7 (2147483647), Cond.methodLink RL 22 yX7_seed, Cond.instanceMethod yX7_seed, Cond.selects RX7 yX7_seed yX7_seed, Cond.code yX7_seed cX7_seed 2 (some .int), Cond.classLink RX7 62 "java/lang/IllegalArgumentException", Cond.initialized "java/lang/IllegalArgumentException", Cond.methodLink RX7 58 yX7_isWithin, Cond.static yX7_isWithin, Cond.code yX7_isWithin cX7_isWithin 3 (some .boolean), Cond.methodLink RX7 81 yX3_beginRow, Cond.instanceMethod yX3_beginRow, Cond.selects RX3 yX3_beginRow yX3_beginRow, Cond.code yX3_beginRow cX3_beginRow 2 none, Cond.methodLink RX7 84 yX3_drawnEver, Cond.instanceMethod yX3_drawnEver, Cond.selects RX3 yX3_drawnEver yX3_drawnEver, Cond.code yX3_drawnEver cX3_drawnEver 1 (some .int)]
def wA_5 : List Cond := [Cond.methodLink RL 26 yX7_lattice, Cond.instanceMethod yX7_lattice, Cond.selects RX7 yX7_lattice yX7_lattice, Cond.code yX7_lattice cX7_lattice 4 (some .int), Cond.methodLink RX7 65 yX5_layOut, Cond.instanceMethod yX5_layOut, Cond.selects RX5 yX5_layOut yX5_layOut, Cond.code yX5_layOut cX5_layOut 5 none, Cond.fieldLink RX5 18 "Grainwright$Shape" "wide" "I", Cond.fieldLink RX5 22 "Grainwright$Shape" "high" "I", Cond.methodLink RX5 25 Lib.Math.min.name, Cond.static Lib.Math.min.name, Cond.initialized "java/lang/Math", Cond.code Lib.Math.min.name Lib.Math.min.code 2 (some .int), Cond.fieldLink RX5 31 "Grainwright$Shape" "cells" "I", Cond.methodLink RX5 34 yJ7_fill_53178, Cond.methodLink RX5 40 yX5_layCell, Cond.instanceMethod yX5_layCell, Cond.selects RX5 yX5_layCell yX5_layCell, Cond.code yX5_layCell cX5_layCell 4 none, Cond.methodLink RX5 44 yX5_addBeside, Cond.instanceMethod yX5_addBeside, Cond.selects RX5 yX5_addBeside yX5_addBeside, Cond.code yX5_addBeside cX5_addBeside 3 none, Cond.methodLink RX5 47 yX5_holds, Cond.instanceMethod yX5_holds, Cond.selects RX5 yX5_holds yX5_holds, Cond.code yX5_holds cX5_holds 2 (some .boolean), Cond.methodLink RX7 69 yX3_castAnew, Cond.instanceMethod yX3_castAnew]
def wA_6 : List Cond := [Cond.selects RX3 yX3_castAnew yX3_castAnew, Cond.code yX3_castAnew cX3_castAnew 3 none, Cond.methodLink RX3 42 yJ7_fill_53178, Cond.methodLink RX3 48 yX5_cells, Cond.instanceMethod yX5_cells, Cond.selects RX5 yX5_cells yX5_cells, Cond.code yX5_cells cX5_cells 1 (some .int), Cond.methodLink RX3 54 yX3_drawBelow, Cond.instanceMethod yX3_drawBelow, Cond.selects RX3 yX3_drawBelow yX3_drawBelow, Cond.code yX3_drawBelow cX3_drawBelow 3 (some .int), Cond.methodLink RX3 58 yX3_putMark, Cond.instanceMethod yX3_putMark, Cond.selects RX3 yX3_putMark yX3_putMark, Cond.code yX3_putMark cX3_putMark 3 none, Cond.methodLink RX7 73 yX6_look, Cond.instanceMethod yX6_look, Cond.selects RX6 yX6_look yX6_look, Cond.code yX6_look cX6_look 2 none, Cond.methodLink RX6 39 yX2_gather, Cond.instanceMethod yX2_gather, Cond.selects RX2 yX2_gather yX2_gather, Cond.code yX2_gather cX2_gather 4 none, Cond.methodLink RX2 39 yJ7_fill_53178, Cond.methodLink RX2 45 yX5_cells, Cond.methodLink RX2 51 yX3_markAt, Cond.instanceMethod yX3_markAt, Cond.selects RX3 yX3_markAt yX3_markAt, Cond.code yX3_markAt cX3_markAt 2 (some .int), Cond.methodLink RX2 57 yX2_at]
def wA_7 : List Cond := [Cond.instanceMethod yX2_at, Cond.selects RX2 yX2_at yX2_at, Cond.code yX2_at cX2_at 2 (some .int), Cond.methodLink RX2 64 yX5_holds, Cond.methodLink RX2 60 yX2_spread, Cond.instanceMethod yX2_spread, Cond.selects RX2 yX2_spread yX2_spread, Cond.code yX2_spread cX2_spread 10 none, Cond.methodLink RX2 68 Lib.Math.min.name, Cond.methodLink RX2 74 yX5_besideMany, Cond.instanceMethod yX5_besideMany, Cond.selects RX5 yX5_besideMany yX5_besideMany, Cond.code yX5_besideMany cX5_besideMany 2 (some .int), Cond.methodLink RX2 77 yX5_beside, Cond.instanceMethod yX5_beside, Cond.selects RX5 yX5_beside yX5_beside, Cond.code yX5_beside cX5_beside 3 (some .int), Cond.methodLink RX2 80 yX2_isNew, Cond.instanceMethod yX2_isNew, Cond.selects RX2 yX2_isNew yX2_isNew, Cond.code yX2_isNew cX2_isNew 3 (some .boolean), Cond.methodLink RX2 84 yX4_isSeen, Cond.instanceMethod yX4_isSeen, Cond.selects RX4 yX4_isSeen yX4_isSeen, Cond.code yX4_isSeen cX4_isSeen 4 (some .boolean), Cond.methodLink RX4 36 yX4_misfitOf, Cond.instanceMethod yX4_misfitOf, Cond.selects RX4 yX4_misfitOf yX4_misfitOf, Cond.code yX4_misfitOf cX4_misfitOf 3 (some .int), Cond.methodLink RX6 43 yX4_etchNow]
def wA_8 : List Cond := [Cond.instanceMethod yX4_etchNow, Cond.selects RX4 yX4_etchNow yX4_etchNow, Cond.code yX4_etchNow cX4_etchNow 1 (some .int), Cond.methodLink RX7 77 yX6_grainMany, Cond.instanceMethod yX6_grainMany, Cond.selects RX6 yX6_grainMany yX6_grainMany, Cond.code yX6_grainMany cX6_grainMany 1 (some .int), Cond.methodLink RX6 49 yX2_many, Cond.instanceMethod yX2_many, Cond.selects RX2 yX2_many yX2_many, Cond.code yX2_many cX2_many 1 (some .int), Cond.methodLink RL 30 yX7_misfit, Cond.instanceMethod yX7_misfit, Cond.selects RX7 yX7_misfit yX7_misfit, Cond.code yX7_misfit cX7_misfit 5 (some .int), Cond.methodLink RX7 116 yX7_areTwoMarks, Cond.static yX7_areTwoMarks, Cond.code yX7_areTwoMarks cX7_areTwoMarks 2 (some .boolean), Cond.methodLink RX7 120 yX4_misfitOf, Cond.methodLink RX7 124 yX4_putMisfit, Cond.methodLink RL 33 yX7_ofCell, Cond.instanceMethod yX7_ofCell, Cond.selects RX7 yX7_ofCell yX7_ofCell, Cond.code yX7_ofCell cX7_ofCell 3 (some .int), Cond.classLink RX7 91 "java/lang/IndexOutOfBoundsException", Cond.initialized "java/lang/IndexOutOfBoundsException", Cond.methodLink RX7 87 yX5_holds, Cond.methodLink RX7 171 yX6_cellNumber, Cond.instanceMethod yX6_cellNumber, Cond.selects RX6 yX6_cellNumber yX6_cellNumber]
def wA_9 : List Cond := [Cond.code yX6_cellNumber cX6_cellNumber 3 (some .int), Cond.methodLink RX6 107 yX3_markAt, Cond.methodLink RX6 131 yX3_workAt, Cond.instanceMethod yX3_workAt, Cond.selects RX3 yX3_workAt yX3_workAt, Cond.code yX3_workAt cX3_workAt 2 (some .int), Cond.methodLink RX6 134 yX3_hardAt, Cond.instanceMethod yX3_hardAt, Cond.selects RX3 yX3_hardAt yX3_hardAt, Cond.code yX3_hardAt cX3_hardAt 2 (some .int), Cond.methodLink RX6 137 yX6_othersBeside, Cond.instanceMethod yX6_othersBeside, Cond.selects RX6 yX6_othersBeside yX6_othersBeside, Cond.code yX6_othersBeside cX6_othersBeside 5 (some .int), Cond.methodLink RX6 146 yX5_besideMany, Cond.methodLink RX6 149 yX5_beside, Cond.methodLink RX6 140 yX2_at, Cond.methodLink RX6 143 yX3_misfitAround, Cond.instanceMethod yX3_misfitAround, Cond.selects RX3 yX3_misfitAround yX3_misfitAround, Cond.code yX3_misfitAround cX3_misfitAround 4 (some .int), Cond.methodLink RX3 71 yX5_besideMany, Cond.methodLink RX3 62 yX3_markAt, Cond.methodLink RX3 74 yX5_beside, Cond.methodLink RX3 78 yX4_misfitOf, Cond.methodLink RL 36 yX7_work, Cond.instanceMethod yX7_work, Cond.selects RX7 yX7_work yX7_work, Cond.code yX7_work cX7_work 4 (some .int), Cond.classLink RX7 101 "java/lang/IllegalStateException"]
def wA_10 : List Cond := [Cond.initialized "java/lang/IllegalStateException", Cond.methodLink RX7 94 yX3_markAt, Cond.methodLink RX7 113 yX3_workAt, Cond.methodLink RX7 104 yX3_putWork, Cond.instanceMethod yX3_putWork, Cond.selects RX3 yX3_putWork yX3_putWork, Cond.code yX3_putWork cX3_putWork 3 none, Cond.methodLink RL 39 yX7_pin, Cond.instanceMethod yX7_pin, Cond.selects RX7 yX7_pin yX7_pin, Cond.code yX7_pin cX7_pin 2 (some .int), Cond.methodLink RX7 98 yX3_putMark, Cond.methodLink RX7 107 yX3_putHard, Cond.instanceMethod yX3_putHard, Cond.selects RX3 yX3_putHard yX3_putHard, Cond.code yX3_putHard cX3_putHard 3 none, Cond.methodLink RX7 110 yX3_particles, Cond.instanceMethod yX3_particles, Cond.selects RX3 yX3_particles yX3_particles, Cond.code yX3_particles cX3_particles 3 (some .int), Cond.methodLink RL 42 yX7_etch, Cond.instanceMethod yX7_etch, Cond.selects RX7 yX7_etch yX7_etch, Cond.code yX7_etch cX7_etch 2 (some .int), Cond.methodLink RX7 128 yX4_putEtch, Cond.instanceMethod yX4_putEtch, Cond.selects RX4 yX4_putEtch yX4_putEtch, Cond.code yX4_putEtch cX4_putEtch 2 none, Cond.methodLink RX7 131 yX6_seenMany, Cond.instanceMethod yX6_seenMany]
def wA_11 : List Cond := [Cond.selects RX6 yX6_seenMany yX6_seenMany, Cond.code yX6_seenMany cX6_seenMany 1 (some .int), Cond.methodLink RL 45 yX7_curve, Cond.instanceMethod yX7_curve, Cond.selects RX7 yX7_curve yX7_curve, Cond.code yX7_curve cX7_curve 4 (some .int), Cond.methodLink RX7 146 yX4_timeAt, Cond.instanceMethod yX4_timeAt, Cond.selects RX4 yX4_timeAt yX4_timeAt, Cond.code yX4_timeAt cX4_timeAt 2 (some .int), Cond.methodLink RX7 149 yX4_putTime, Cond.instanceMethod yX4_putTime, Cond.selects RX4 yX4_putTime yX4_putTime, Cond.code yX4_putTime cX4_putTime 3 none, Cond.methodLink RL 48 yX7_cool, Cond.instanceMethod yX7_cool, Cond.selects RX7 yX7_cool yX7_cool, Cond.code yX7_cool cX7_cool 4 (some .int), Cond.methodLink RX7 152 yX7_isCooling, Cond.static yX7_isCooling, Cond.code yX7_isCooling cX7_isCooling 2 (some .boolean), Cond.methodLink RX7 155 yX3_coolDown, Cond.instanceMethod yX3_coolDown, Cond.selects RX3 yX3_coolDown yX3_coolDown, Cond.code yX3_coolDown cX3_coolDown 9 (some .int), Cond.methodLink RX3 119 yX4_tickAt, Cond.instanceMethod yX4_tickAt, Cond.selects RX4 yX4_tickAt yX4_tickAt, Cond.code yX4_tickAt cX4_tickAt 3 (some .int), Cond.methodLink RX4 32 yX4_timeAt]
def wA_12 : List Cond := [Cond.methodLink RX3 122 yX3_hardenOne, Cond.instanceMethod yX3_hardenOne, Cond.selects RX3 yX3_hardenOne yX3_hardenOne, Cond.code yX3_hardenOne cX3_hardenOne 4 (some .int), Cond.methodLink RX3 65 yX3_hardAt, Cond.methodLink RX3 68 yX3_workAt, Cond.methodLink RX3 131 yX3_putHard, Cond.methodLink RL 51 yX7_metal, Cond.instanceMethod yX7_metal, Cond.selects RX7 yX7_metal yX7_metal, Cond.code yX7_metal cX7_metal 2 (some .int), Cond.methodLink RX7 177 yX6_metalNumber, Cond.instanceMethod yX6_metalNumber, Cond.selects RX6 yX6_metalNumber yX6_metalNumber, Cond.code yX6_metalNumber cX6_metalNumber 2 (some .int), Cond.methodLink RX6 52 yX5_cells, Cond.methodLink RX6 57 yX3_drawnEver, Cond.methodLink RX6 62 yX3_energy, Cond.instanceMethod yX3_energy, Cond.selects RX3 yX3_energy yX3_energy, Cond.code yX3_energy cX3_energy 3 (some .int), Cond.methodLink RX3 83 yX3_misfitAround, Cond.methodLink RX3 86 yX3_allWork, Cond.instanceMethod yX3_allWork, Cond.selects RX3 yX3_allWork yX3_allWork, Cond.code yX3_allWork cX3_allWork 3 (some .int), Cond.methodLink RX6 65 yX2_sizeByArea, Cond.instanceMethod yX2_sizeByArea, Cond.selects RX2 yX2_sizeByArea yX2_sizeByArea, Cond.code yX2_sizeByArea cX2_sizeByArea 2 (some .int)]
def wA_13 : List Cond := [Cond.methodLink RX2 99 yX3_particles, Cond.methodLink RX6 69 yX6_sizeByLines, Cond.instanceMethod yX6_sizeByLines, Cond.selects RX6 yX6_sizeByLines yX6_sizeByLines, Cond.code yX6_sizeByLines cX6_sizeByLines 2 (some .int), Cond.methodLink RX6 81 yX6_allCuts, Cond.instanceMethod yX6_allCuts, Cond.selects RX6 yX6_allCuts yX6_allCuts, Cond.code yX6_allCuts cX6_allCuts 3 (some .int), Cond.methodLink RX6 96 yX5_lines, Cond.instanceMethod yX5_lines, Cond.selects RX5 yX5_lines yX5_lines, Cond.code yX5_lines cX5_lines 1 (some .int), Cond.methodLink RX6 114 yX6_cutsOf, Cond.instanceMethod yX6_cutsOf, Cond.selects RX6 yX6_cutsOf yX6_cutsOf, Cond.code yX6_cutsOf cX6_cutsOf 5 (some .int), Cond.methodLink RX6 99 yX5_lineCells, Cond.instanceMethod yX5_lineCells, Cond.selects RX5 yX5_lineCells yX5_lineCells, Cond.code yX5_lineCells cX5_lineCells 2 (some .int), Cond.methodLink RX6 103 yX5_lineCell, Cond.instanceMethod yX5_lineCell, Cond.selects RX5 yX5_lineCell yX5_lineCell, Cond.code yX5_lineCell cX5_lineCell 3 (some .int), Cond.methodLink RX6 110 yX4_isSeen, Cond.methodLink RX6 72 yX6_sizeByChart, Cond.instanceMethod yX6_sizeByChart, Cond.selects RX6 yX6_sizeByChart yX6_sizeByChart, Cond.code yX6_sizeByChart cX6_sizeByChart 3 (some .int)]
def wA_14 : List Cond := [Cond.methodLink RX6 75 yX6_junctions, Cond.instanceMethod yX6_junctions, Cond.selects RX6 yX6_junctions yX6_junctions, Cond.code yX6_junctions cX6_junctions 4 (some .int), Cond.methodLink RX6 117 yX5_high, Cond.instanceMethod yX5_high, Cond.selects RX5 yX5_high yX5_high, Cond.code yX5_high cX5_high 1 (some .int), Cond.methodLink RX6 120 yX5_wide, Cond.instanceMethod yX5_wide, Cond.selects RX5 yX5_wide yX5_wide, Cond.code yX5_wide cX5_wide 1 (some .int), Cond.methodLink RX6 123 yX6_marksOfSquare, Cond.instanceMethod yX6_marksOfSquare, Cond.selects RX6 yX6_marksOfSquare yX6_marksOfSquare, Cond.code yX6_marksOfSquare cX6_marksOfSquare 4 (some .int), Cond.methodLink RX6 126 yJ6_bitCount_0f7a4, Cond.static yJ6_bitCount_0f7a4, Cond.initialized RJ6, Cond.code yJ6_bitCount_0f7a4 cJ6_bitCount_0f7a4 1 (some .int), Cond.constant RJ6 265 (1431655765), Cond.constant RJ6 266 (858993459), Cond.constant RJ6 267 (252645135), Cond.methodLink RX6 78 yX6_strength, Cond.instanceMethod yX6_strength, Cond.selects RX6 yX6_strength yX6_strength, Cond.code yX6_strength cX6_strength 3 (some .int), Cond.methodLink RX6 84 yX3_particles, Cond.methodLink RX6 87 yX3_hardCells, Cond.instanceMethod yX3_hardCells]
def wA_15 : List Cond := [Cond.selects RX3 yX3_hardCells yX3_hardCells, Cond.code yX3_hardCells cX3_hardCells 3 (some .int), Cond.methodLink RX6 90 yX3_allWork, Cond.methodLink RX6 93 yX2_greatestSize, Cond.instanceMethod yX2_greatestSize, Cond.selects RX2 yX2_greatestSize yX2_greatestSize, Cond.code yX2_greatestSize cX2_greatestSize 3 (some .int), Cond.methodLink RX2 96 Lib.Math.max.name, Cond.static Lib.Math.max.name, Cond.code Lib.Math.max.name Lib.Math.max.code 2 (some .int), Cond.methodLink RX2 93 yX2_sizeOf, Cond.instanceMethod yX2_sizeOf, Cond.selects RX2 yX2_sizeOf yX2_sizeOf, Cond.code yX2_sizeOf cX2_sizeOf 2 (some .int), Cond.methodLink RX2 90 yX2_hasGrain, Cond.instanceMethod yX2_hasGrain, Cond.selects RX2 yX2_hasGrain yX2_hasGrain, Cond.code yX2_hasGrain cX2_hasGrain 2 (some .boolean), Cond.methodLink RL 62 yL_told, Cond.static yL_told, Cond.code yL_told cL_told 4 (some (.array .int)), Cond.methodLink RL 66 yX7_heat, Cond.instanceMethod yX7_heat, Cond.selects RX7 yX7_heat yX7_heat, Cond.code yX7_heat cX7_heat 3 (some .int), Cond.methodLink RX7 134 yX3_sweepOften, Cond.instanceMethod yX3_sweepOften, Cond.selects RX3 yX3_sweepOften yX3_sweepOften, Cond.code yX3_sweepOften cX3_sweepOften 6 (some .int), Cond.methodLink RX3 89 yX3_tryOne]
def wA_16 : List Cond := [Cond.instanceMethod yX3_tryOne, Cond.selects RX3 yX3_tryOne yX3_tryOne, Cond.code yX3_tryOne cX3_tryOne 7 (some .int), Cond.methodLink RX3 98 yX3_changeBy, Cond.instanceMethod yX3_changeBy, Cond.selects RX3 yX3_changeBy yX3_changeBy, Cond.code yX3_changeBy cX3_changeBy 8 (some .int), Cond.methodLink RX3 101 yX3_putWork, Cond.methodLink RX3 92 yX3_meltOne, Cond.instanceMethod yX3_meltOne, Cond.selects RX3 yX3_meltOne yX3_meltOne, Cond.code yX3_meltOne cX3_meltOne 3 none, Cond.methodLink RX3 104 yX3_firstMarkBeside, Cond.instanceMethod yX3_firstMarkBeside, Cond.selects RX3 yX3_firstMarkBeside yX3_firstMarkBeside, Cond.code yX3_firstMarkBeside cX3_firstMarkBeside 4 (some .int), Cond.methodLink RX3 95 yX3_easeAll, Cond.instanceMethod yX3_easeAll, Cond.selects RX3 yX3_easeAll yX3_easeAll, Cond.code yX3_easeAll cX3_easeAll 2 none, Cond.methodLink RX3 107 Lib.Math.max.name, Cond.methodLink RL 69 yX7_roll, Cond.instanceMethod yX7_roll, Cond.selects RX7 yX7_roll yX7_roll, Cond.code yX7_roll cX7_roll 3 (some .int), Cond.methodLink RX7 137 yX3_rollOnce, Cond.instanceMethod yX3_rollOnce, Cond.selects RX3 yX3_rollOnce yX3_rollOnce, Cond.code yX3_rollOnce cX3_rollOnce 4 none, Cond.methodLink RX3 112 Lib.Math.min.name]
def wA_17 : List Cond := [Cond.methodLink RX7 140 yX3_allWork, Cond.methodLink RL 72 yX7_born, Cond.instanceMethod yX7_born, Cond.selects RX7 yX7_born yX7_born, Cond.code yX7_born cX7_born 2 (some .int), Cond.methodLink RX7 143 yX3_bear, Cond.instanceMethod yX3_bear, Cond.selects RX3 yX3_bear yX3_bear, Cond.code yX3_bear cX3_bear 4 (some .int), Cond.methodLink RX3 115 yX3_isBearing, Cond.instanceMethod yX3_isBearing, Cond.selects RX3 yX3_isBearing yX3_isBearing, Cond.code yX3_isBearing cX3_isBearing 6 (some .boolean), Cond.methodLink RL 75 yX7_soften, Cond.instanceMethod yX7_soften, Cond.selects RX7 yX7_soften yX7_soften, Cond.code yX7_soften cX7_soften 1 (some .int), Cond.methodLink RX7 159 yX3_loosenAll, Cond.instanceMethod yX3_loosenAll, Cond.selects RX3 yX3_loosenAll yX3_loosenAll, Cond.code yX3_loosenAll cX3_loosenAll 2 (some .int), Cond.methodLink RX3 128 yX3_hardCells, Cond.methodLink RL 79 yX7_furnace, Cond.instanceMethod yX7_furnace, Cond.selects RX7 yX7_furnace yX7_furnace, Cond.code yX7_furnace cX7_furnace 3 (some .int), Cond.methodLink RX7 162 yX7_isProgramme, Cond.static yX7_isProgramme, Cond.code yX7_isProgramme cX7_isProgramme 4 (some .boolean), Cond.methodLink RX7 165 yX3_doStep]
def wA_18 : List Cond := [Cond.instanceMethod yX3_doStep, Cond.selects RX3 yX3_doStep yX3_doStep, Cond.code yX3_doStep cX3_doStep 2 none, Cond.methodLink RX3 134 yX3_sweepOften, Cond.methodLink RX3 137 yX3_rollOnce, Cond.methodLink RX3 140 yX3_bear, Cond.methodLink RX7 168 yX6_sizeByArea, Cond.instanceMethod yX6_sizeByArea, Cond.selects RX6 yX6_sizeByArea yX6_sizeByArea, Cond.code yX6_sizeByArea cX6_sizeByArea 1 (some .int), Cond.methodLink RL 82 yL_isSo, Cond.static yL_isSo, Cond.code yL_isSo cL_isSo 9 (some .boolean), Cond.methodLink RL 94 yX7_ofGrain, Cond.instanceMethod yX7_ofGrain, Cond.selects RX7 yX7_ofGrain yX7_ofGrain, Cond.code yX7_ofGrain cX7_ofGrain 3 (some .int), Cond.methodLink RX7 174 yX6_grainNumber, Cond.instanceMethod yX6_grainNumber, Cond.selects RX6 yX6_grainNumber yX6_grainNumber, Cond.code yX6_grainNumber cX6_grainNumber 3 (some .int), Cond.methodLink RX6 152 yX2_firstOf, Cond.instanceMethod yX2_firstOf, Cond.selects RX2 yX2_firstOf yX2_firstOf, Cond.code yX2_firstOf cX2_firstOf 2 (some .int), Cond.methodLink RX6 155 yX2_sizeOf, Cond.methodLink RX6 158 yX6_roundOf, Cond.instanceMethod yX6_roundOf, Cond.selects RX6 yX6_roundOf yX6_roundOf, Cond.code yX6_roundOf cX6_roundOf 5 (some .int)]
def wA_19 : List Cond := [Cond.methodLink RX6 161 yX6_bordersOf, Cond.instanceMethod yX6_bordersOf, Cond.selects RX6 yX6_bordersOf yX6_bordersOf, Cond.code yX6_bordersOf cX6_bordersOf 6 (some .int), Cond.methodLink RX6 170 yJ7_fill_53178, Cond.methodLink RX6 164 yX6_workOf, Cond.instanceMethod yX6_workOf, Cond.selects RX6 yX6_workOf yX6_workOf, Cond.code yX6_workOf cX6_workOf 4 (some .int), Cond.methodLink RX6 167 yX6_hardOf, Cond.instanceMethod yX6_hardOf, Cond.selects RX6 yX6_hardOf yX6_hardOf, Cond.code yX6_hardOf cX6_hardOf 4 (some .int), Cond.methodLink RL 97 yL_wide, Cond.static yL_wide, Cond.code yL_wide cL_wide 1 (some .int), Cond.methodLink RL 54 yX7_line, Cond.instanceMethod yX7_line, Cond.selects RX7 yX7_line yX7_line, Cond.code yX7_line cX7_line 3 (some .int), Cond.methodLink RX7 195 yX5_lines, Cond.methodLink RX7 198 yX6_cutsOf, Cond.methodLink RX7 201 yX5_lineCells, Cond.methodLink RL 101 yL_high, Cond.static yL_high, Cond.code yL_high cL_high 1 (some .int), Cond.methodLink RL 104 yX7_texture, Cond.instanceMethod yX7_texture, Cond.selects RX7 yX7_texture yX7_texture, Cond.code yX7_texture cX7_texture 2 (some .int)]
def wA_20 : List Cond := [Cond.methodLink RX7 189 yX6_textureOf, Cond.instanceMethod yX6_textureOf, Cond.selects RX6 yX6_textureOf yX6_textureOf, Cond.code yX6_textureOf cX6_textureOf 4 (some .int), Cond.methodLink RL 107 yX7_picture, Cond.instanceMethod yX7_picture, Cond.selects RX7 yX7_picture yX7_picture, Cond.code yX7_picture cX7_picture 1 (some (.object "java/lang/String")), Cond.methodLink RX7 207 yX6_drawnPicture, Cond.instanceMethod yX6_drawnPicture, Cond.selects RX6 yX6_drawnPicture yX6_drawnPicture, Cond.code yX6_drawnPicture cX6_drawnPicture 5 (some (.object "java/lang/String")), Cond.classLink RX6 176 RJ4, Cond.instantiable RJ4 4, Cond.initialized RJ4, Cond.methodLink RX6 178 yJ4_init_da8c8, Cond.instanceMethod yJ4_init_da8c8, Cond.code yJ4_init_da8c8 cJ4_init_da8c8 1 none, Cond.methodLink RJ4 1 yJ5_init_d00df, Cond.instanceMethod yJ5_init_d00df, Cond.initialized RJ5, Cond.code yJ5_init_d00df cJ5_init_d00df 2 none, Cond.methodLink RJ5 3 objectInit, Cond.fieldLink RJ5 18 "java/lang/String" "COMPACT_STRINGS" "Z", Cond.arrayClass .byte, Cond.fieldLink RJ5 15 "java/lang/AbstractStringBuilder" "value" "[B", Cond.fieldLink RJ5 22 "java/lang/AbstractStringBuilder" "coder" "B", Cond.methodLink RJ5 26 yJ2_newBytesFor_77867, Cond.static yJ2_newBytesFor_77867, Cond.initialized RJ2]
def wA_21 : List Cond := [Cond.code yJ2_newBytesFor_77867 cJ2_newBytesFor_77867 1 (some (.array .byte)), Cond.methodLink RJ2 11 yJ2_newBytesLength_0f7a4, Cond.static yJ2_newBytesLength_0f7a4, Cond.code yJ2_newBytesLength_0f7a4 cJ2_newBytesLength_0f7a4 1 (some .int), Cond.constant RJ2 20 (1073741823), Cond.methodLink RX6 179 yJ4_append_cf468, Cond.instanceMethod yJ4_append_cf468, Cond.selects RJ4 yJ4_append_cf468 yJ4_append_cf468, Cond.code yJ4_append_cf468 cJ4_append_cf468 2 (some (.object "java/lang/StringBuilder")), Cond.methodLink RJ4 50 yJ5_append_3fe6f, Cond.sameMethod "java/lang/AbstractStringBuilder" "java/lang/AbstractStringBuilder" "append" "(C)Ljava/lang/AbstractStringBuilder;", Cond.superclass RJ4 RJ5, Cond.instanceMethod yJ5_append_3fe6f, Cond.code yJ5_append_3fe6f cJ5_append_3fe6f 2 (some (.object "java/lang/AbstractStringBuilder")), Cond.fieldLink RJ5 79 "java/lang/AbstractStringBuilder" "count" "I", Cond.methodLink RJ5 100 ⟨"java/lang/AbstractStringBuilder", "ensureCapacityInternal", "(I)V"⟩, Cond.sameMethod "java/lang/AbstractStringBuilder" "java/lang/AbstractStringBuilder" "ensureCapacityInternal" "(I)V", Cond.instanceMethod yJ5_ensureCapacityInternal_d00df, Cond.code yJ5_ensureCapacityInternal_d00df cJ5_ensureCapacityInternal_d00df 3 none, Cond.methodLink RJ5 104 ⟨"java/lang/AbstractStringBuilder", "newCapacity", "(I)I"⟩, Cond.sameMethod "java/lang/AbstractStringBuilder" "java/lang/AbstractStringBuilder" "newCapacity" "(I)I", Cond.instanceMethod yJ5_newCapacity_0f7a4, Cond.code yJ5_newCapacity_0f7a4 cJ5_newCapacity_0f7a4 6 (some .int), Cond.constant RJ5 39 (2147483647), Cond.methodLink RJ5 114 yJ8_newLength_cabcc, Cond.static yJ8_newLength_cabcc, Cond.initialized RJ8, Cond.code yJ8_newLength_cabcc cJ8_newLength_cabcc 4 (some .int), Cond.methodLink RJ8 194 Lib.Math.max.name, Cond.constant RJ8 200 (2147483639)]
def wA_22 : List Cond := [Cond.methodLink RJ8 201 yJ8_hugeLength_7cf53, Cond.static yJ8_hugeLength_7cf53, Cond.code yJ8_hugeLength_7cf53 cJ8_hugeLength_7cf53 3 (some .int), Cond.methodLink RJ5 108 yJ7_copyOf_9075b, Cond.static yJ7_copyOf_9075b, Cond.code yJ7_copyOf_9075b cJ7_copyOf_9075b 3 (some (.array .byte)), Cond.methodLink RJ7 310 ⟨"[B", "clone", "()Ljava/lang/Object;"⟩, Cond.sameMethod "[B" "java/lang/Object" "clone" "()Ljava/lang/Object;", Cond.native ⟨"java/lang/Object", "clone", "()Ljava/lang/Object;"⟩, Cond.instanceMethod ⟨"java/lang/Object", "clone", "()Ljava/lang/Object;"⟩, Cond.selects "[B" ⟨"[B", "clone", "()Ljava/lang/Object;"⟩ ⟨"java/lang/Object", "clone", "()Ljava/lang/Object;"⟩, Cond.classLink RJ7 311 "[B", Cond.methodLink RJ7 304 Lib.Math.min.name, Cond.methodLink RJ7 150 arraycopyName, Cond.native arraycopyName, Cond.static arraycopyName, Cond.initialized "java/lang/System", Cond.methodLink RJ5 83 ⟨"java/lang/AbstractStringBuilder", "isLatin1", "()Z"⟩, Cond.sameMethod "java/lang/AbstractStringBuilder" "java/lang/AbstractStringBuilder" "isLatin1" "()Z", Cond.selects RJ4 ⟨"java/lang/AbstractStringBuilder", "isLatin1", "()Z"⟩ yJ5_isLatin1_aae02, Cond.instanceMethod yJ5_isLatin1_aae02, Cond.code yJ5_isLatin1_aae02 cJ5_isLatin1_aae02 1 (some .boolean), Cond.methodLink RJ5 191 yJ1_canEncode_fc78d, Cond.static yJ1_canEncode_fc78d, Cond.initialized RJ1, Cond.code yJ1_canEncode_fc78d cJ1_canEncode_fc78d 1 (some .boolean), Cond.methodLink RJ5 195 ⟨"java/lang/AbstractStringBuilder", "inflate", "()V"⟩, Cond.sameMethod "java/lang/AbstractStringBuilder" "java/lang/AbstractStringBuilder" "inflate" "()V", Cond.instanceMethod yJ5_inflate_da8c8, Cond.code yJ5_inflate_da8c8 cJ5_inflate_da8c8 2 none]
def wA_23 : List Cond := [Cond.methodLink RJ5 125 yJ1_inflate_0e8fd, Cond.static yJ1_inflate_0e8fd, Cond.code yJ1_inflate_0e8fd cJ1_inflate_0e8fd 5 none, Cond.methodLink RJ1 240 yJ2_inflate_0e8fd, Cond.static yJ2_inflate_0e8fd, Cond.code yJ2_inflate_0e8fd cJ2_inflate_0e8fd 6 none, Cond.methodLink RJ2 173 yJ2_checkBoundsOffCount_d044e, Cond.static yJ2_checkBoundsOffCount_d044e, Cond.code yJ2_checkBoundsOffCount_d044e cJ2_checkBoundsOffCount_d044e 3 none, Cond.methodLink RJ2 48 yJ2_length_9d52b, Cond.static yJ2_length_9d52b, Cond.code yJ2_length_9d52b cJ2_length_9d52b 1 (some .int), Cond.methodLink RJ2 419 yJ0_checkBoundsOffCount_cabcc, Cond.static yJ0_checkBoundsOffCount_cabcc, Cond.initialized RJ0, Cond.code yJ0_checkBoundsOffCount_cabcc cJ0_checkBoundsOffCount_cabcc 3 (some .int), Cond.fieldLink RJ0 1053 "jdk/internal/util/Preconditions" "SIOOBE_FORMATTER" "Ljava/util/function/BiFunction;", Cond.methodLink RJ0 1065 yJ3_checkFromIndexSize_8c36e, Cond.static yJ3_checkFromIndexSize_8c36e, Cond.initialized RJ3, Cond.code yJ3_checkFromIndexSize_8c36e cJ3_checkFromIndexSize_8c36e 4 (some .int), Cond.methodLink RJ2 111 yJ2_putChar_b72d1, Cond.static yJ2_putChar_b72d1, Cond.code yJ2_putChar_b72d1 cJ2_putChar_b72d1 3 none, Cond.fieldLink RJ2 44 "java/lang/StringUTF16" "$assertionsDisabled" "Z", Cond.fieldLink RJ2 59 "java/lang/StringUTF16" "HI_BYTE_SHIFT" "I", Cond.fieldLink RJ2 63 "java/lang/StringUTF16" "LO_BYTE_SHIFT" "I", Cond.methodLink RJ5 197 yJ2_putCharSB_b72d1, Cond.static yJ2_putCharSB_b72d1, Cond.code yJ2_putCharSB_b72d1 cJ2_putCharSB_b72d1 3 none]
def wA_24 : List Cond := [Cond.methodLink RJ2 67 yJ2_checkIndex_2214a, Cond.static yJ2_checkIndex_2214a, Cond.code yJ2_checkIndex_2214a cJ2_checkIndex_2214a 2 none, Cond.methodLink RJ2 414 yJ0_checkIndex_df160, Cond.static yJ0_checkIndex_df160, Cond.code yJ0_checkIndex_df160 cJ0_checkIndex_df160 2 none, Cond.methodLink RJ0 1059 yJ3_checkIndex_8e157, Cond.static yJ3_checkIndex_8e157, Cond.code yJ3_checkIndex_8e157 cJ3_checkIndex_8e157 3 (some .int), Cond.methodLink RX6 183 yX6_signOf, Cond.instanceMethod yX6_signOf, Cond.selects RX6 yX6_signOf yX6_signOf, Cond.code yX6_signOf cX6_signOf 4 (some .char), Cond.methodLink RX6 194 yX2_leastMarkOf, Cond.instanceMethod yX2_leastMarkOf, Cond.selects RX2 yX2_leastMarkOf yX2_leastMarkOf, Cond.code yX2_leastMarkOf cX2_leastMarkOf 2 (some .int), Cond.methodLink RX6 187 yJ4_length_8abf5, Cond.instanceMethod yJ4_length_8abf5, Cond.selects RJ4 yJ4_length_8abf5 yJ4_length_8abf5, Cond.code yJ4_length_8abf5 cJ4_length_8abf5 1 (some .int), Cond.methodLink RJ4 343 yJ5_length_8abf5, Cond.sameMethod "java/lang/AbstractStringBuilder" "java/lang/AbstractStringBuilder" "length" "()I", Cond.instanceMethod yJ5_length_8abf5, Cond.code yJ5_length_8abf5 cJ5_length_8abf5 1 (some .int), Cond.methodLink RX6 190 yJ4_toString_0e30d, Cond.instanceMethod yJ4_toString_0e30d, Cond.selects RJ4 yJ4_toString_0e30d yJ4_toString_0e30d, Cond.code yJ4_toString_0e30d cJ4_toString_0e30d 1 (some (.object "java/lang/String")), Cond.classLink RJ4 18 RJ0]
def wA_25 : List Cond := [Cond.instantiable RJ0 4, Cond.methodLink RJ4 137 yJ0_init_81219, Cond.instanceMethod yJ0_init_81219, Cond.code yJ0_init_81219 cJ0_init_81219 2 none, Cond.methodLink RJ0 489 yJ0_init_db425, Cond.instanceMethod yJ0_init_db425, Cond.code yJ0_init_db425 cJ0_init_db425 5 none, Cond.methodLink RJ0 1 objectInit, Cond.fieldLink RJ0 15 "java/lang/String" "coder" "B", Cond.fieldLink RJ0 9 "java/lang/String" "value" "[B", Cond.fieldLink RJ0 38 "java/lang/String" "COMPACT_STRINGS" "Z", Cond.fieldLink RJ0 1048 "java/lang/AbstractStringBuilder" "maybeLatin1" "Z", Cond.methodLink RJ0 552 ⟨"java/lang/AbstractStringBuilder", "getValue", "()[B"⟩, Cond.sameMethod "java/lang/AbstractStringBuilder" "java/lang/AbstractStringBuilder" "getValue" "()[B", Cond.selects RJ4 ⟨"java/lang/AbstractStringBuilder", "getValue", "()[B"⟩ yJ5_getValue_6d5f1, Cond.instanceMethod yJ5_getValue_6d5f1, Cond.code yJ5_getValue_6d5f1 cJ5_getValue_6d5f1 1 (some (.array .byte)), Cond.methodLink RJ0 549 ⟨"java/lang/AbstractStringBuilder", "length", "()I"⟩, Cond.instanceMethod ⟨"java/lang/AbstractStringBuilder", "length", "()I"⟩, Cond.selects RJ4 ⟨"java/lang/AbstractStringBuilder", "length", "()I"⟩ yJ4_length_8abf5, Cond.methodLink RJ0 1047 ⟨"java/lang/AbstractStringBuilder", "isLatin1", "()Z"⟩, Cond.methodLink RJ0 54 yJ7_copyOfRange_39247, Cond.static yJ7_copyOfRange_39247, Cond.code yJ7_copyOfRange_39247 cJ7_copyOfRange_39247 3 (some (.array .byte)), Cond.methodLink RJ7 339 yJ7_copyOfRangeByte_39247, Cond.static yJ7_copyOfRangeByte_39247, Cond.code yJ7_copyOfRangeByte_39247 cJ7_copyOfRangeByte_39247 5 (some (.array .byte)), Cond.methodLink RJ7 343 yJ7_checkLength_df160, Cond.static yJ7_checkLength_df160, Cond.code yJ7_checkLength_df160 cJ7_checkLength_df160 2 none]
def wA_26 : List Cond := [Cond.methodLink RJ0 1051 yJ2_compress_39247, Cond.static yJ2_compress_39247, Cond.code yJ2_compress_39247 cJ2_compress_39247 6 (some (.array .byte)), Cond.methodLink RJ2 123 yJ2_compress_5af95, Cond.static yJ2_compress_5af95, Cond.code yJ2_compress_5af95 cJ2_compress_5af95 7 (some .int), Cond.methodLink RJ2 71 yJ2_getChar_3b067, Cond.static yJ2_getChar_3b067, Cond.code yJ2_getChar_3b067 cJ2_getChar_3b067 2 (some .char), Cond.methodLink RJ2 126 yJ7_copyOfRange_39247, Cond.methodLink RJ0 47 yJ2_coderFromArrayLen_85cad, Cond.static yJ2_coderFromArrayLen_85cad, Cond.code yJ2_coderFromArrayLen_85cad cJ2_coderFromArrayLen_85cad 2 (some .byte), Cond.methodLink RL 111 yJ0_length_8abf5, Cond.instanceMethod yJ0_length_8abf5, Cond.selects RJ0 yJ0_length_8abf5 yJ0_length_8abf5, Cond.code yJ0_length_8abf5 cJ0_length_8abf5 1 (some .int), Cond.methodLink RJ0 335 yJ0_coder_7d493, Cond.instanceMethod yJ0_coder_7d493, Cond.selects RJ0 yJ0_coder_7d493 yJ0_coder_7d493, Cond.code yJ0_coder_7d493 cJ0_coder_7d493 1 (some .byte), Cond.methodLink RL 116 yX7_etched, Cond.instanceMethod yX7_etched, Cond.selects RX7 yX7_etched yX7_etched, Cond.code yX7_etched cX7_etched 1 (some (.object "java/lang/String")), Cond.methodLink RL 86 yX7_digest, Cond.instanceMethod yX7_digest, Cond.selects RX7 yX7_digest yX7_digest, Cond.code yX7_digest cX7_digest 4 (some .long), Cond.constantLong RX7 242 (58288)]
def wA_27 : List Cond := [Cond.constantLong RX7 244 (31), Cond.methodLink RX7 246 yX7_digestOfCells, Cond.instanceMethod yX7_digestOfCells, Cond.selects RX7 yX7_digestOfCells yX7_digestOfCells, Cond.code yX7_digestOfCells cX7_digestOfCells 7 (some .long), Cond.methodLink RX7 256 yX5_cells, Cond.methodLink RX7 250 yX7_digestOfGrains, Cond.instanceMethod yX7_digestOfGrains, Cond.selects RX7 yX7_digestOfGrains yX7_digestOfGrains, Cond.code yX7_digestOfGrains cX7_digestOfGrains 7 (some .long), Cond.methodLink RX7 204 yX6_grainsBordering, Cond.instanceMethod yX6_grainsBordering, Cond.selects RX6 yX6_grainsBordering yX6_grainsBordering, Cond.code yX6_grainsBordering cX6_grainsBordering 4 (some .int), Cond.methodLink RX7 253 yX3_nextOfRow, Cond.instanceMethod yX3_nextOfRow, Cond.selects RX3 yX3_nextOfRow yX3_nextOfRow, Cond.code yX3_nextOfRow cX3_nextOfRow 1 (some .int), Cond.methodLink RX7 238 yX6_isAllSound, Cond.instanceMethod yX6_isAllSound, Cond.selects RX6 yX6_isAllSound yX6_isAllSound, Cond.code yX6_isAllSound cX6_isAllSound 3 (some .boolean), Cond.methodLink RX6 197 yX6_areCellsSound, Cond.instanceMethod yX6_areCellsSound, Cond.selects RX6 yX6_areCellsSound yX6_areCellsSound, Cond.code yX6_areCellsSound cX6_areCellsSound 4 (some .boolean), Cond.methodLink RX6 201 yX6_seenPairs, Cond.instanceMethod yX6_seenPairs, Cond.selects RX6 yX6_seenPairs yX6_seenPairs, Cond.code yX6_seenPairs cX6_seenPairs 5 (some .int)]
def wA_28 : List Cond := [Cond.methodLink RL 90 yX7_isSound, Cond.instanceMethod yX7_isSound, Cond.selects RX7 yX7_isSound yX7_isSound, Cond.code yX7_isSound cX7_isSound 1 (some .boolean)]
def wA0 : List Cond := wA_0 ++ (wA_1 ++ (wA_2 ++ (wA_3 ++ (wA_4 ++ (wA_5 ++ (wA_6 ++ (wA_7 ++ (wA_8 ++ (wA_9 ++ (wA_10 ++ (wA_11 ++ (wA_12 ++ (wA_13 ++ (wA_14 ++ (wA_15 ++ (wA_16 ++ (wA_17 ++ (wA_18 ++ (wA_19 ++ (wA_20 ++ (wA_21 ++ (wA_22 ++ (wA_23 ++ (wA_24 ++ (wA_25 ++ (wA_26 ++ (wA_27 ++ (wA_28))))))))))))))))))))))))))))
/-- what StringBuilder selects of the private methods above it: derived, not in the tables -/
def wA_x : List Cond := [Cond.selects RJ4 yJ5_ensureCapacityInternal_d00df yJ5_ensureCapacityInternal_d00df, Cond.selects RJ4 yJ5_newCapacity_0f7a4 yJ5_newCapacity_0f7a4]
def wA : List Cond := wA0 ++ (wsX70 ++ (wsX50 ++ (wsX40 ++ (wsX30 ++ (wsX60 ++ (wsX10 ++ (wsX00 ++ (wsX20 ++ (wsJ40 ++ (wsJ00 ++ (wA_x)))))))))))
set_option maxRecDepth 20000 in
theorem wA_0_at : wA_0 = [1100, 548, 549, 29, 550, 551, 490, 30, 552, 553, 554, 555, 88, 89, 556, 557, 31, 750, 579, 580, 32, 751, 600, 138, 34, 752, 753, 627, 360, 35].filterMap (fun i => lw_tbl[i]?) := by decide +kernel
theorem wA_0_in : ∀ w ∈ wA_0, w ∈ lw_tbl := fun w hw => by
  rw [wA_0_at] at hw
  obtain ⟨i, -, hi⟩ := List.mem_filterMap.mp hw
  exact List.mem_of_getElem? hi
set_option maxRecDepth 20000 in
theorem wA_1_at : wA_1 = [754, 681, 682, 37, 755, 716, 717, 38, 756, 559, 560, 561, 578, 565, 566, 581, 582, 583, 584, 590, 591, 592, 585, 262, 33, 263, 586, 587, 588, 589].filterMap (fun i => lw_tbl[i]?) := by decide +kernel
theorem wA_1_in : ∀ w ∈ wA_1, w ∈ lw_tbl := fun w hw => by
  rw [wA_1_at] at hw
  obtain ⟨i, -, hi⟩ := List.mem_filterMap.mp hw
  exact List.mem_of_getElem? hi
set_option maxRecDepth 20000 in
theorem wA_2_at : wA_2 = [601, 602, 603, 604, 607, 608, 609, 610, 611, 605, 606, 628, 629, 630, 631, 666, 662, 663, 667, 632, 300, 36, 664, 665, 633, 634, 635, 636, 639, 640].filterMap (fun i => lw_tbl[i]?) := by decide +kernel
theorem wA_2_in : ∀ w ∈ wA_2, w ∈ lw_tbl := fun w hw => by
  rw [wA_2_at] at hw
  obtain ⟨i, -, hi⟩ := List.mem_filterMap.mp hw
  exact List.mem_of_getElem? hi
set_option maxRecDepth 20000 in
theorem wA_3_at : wA_3 = [641, 642, 643, 644, 637, 638, 683, 684, 685, 686, 696, 697, 698, 691, 687, 692, 693, 689, 694, 695, 688, 690, 718, 719, 720, 721, 725, 726, 727, 728].filterMap (fun i => lw_tbl[i]?) := by decide +kernel
theorem wA_3_in : ∀ w ∈ wA_3, w ∈ lw_tbl := fun w hw => by
  rw [wA_3_at] at hw
  obtain ⟨i, -, hi⟩ := List.mem_filterMap.mp hw
  exact List.mem_of_getElem? hi
set_option maxRecDepth 20000 in
theorem wA_4_at : wA_4 = [729, 730, 722, 723, 724, 544, 545, 546, 547, 540, 541, 542, 543, 772, 773, 774, 775, 62, 42, 59, 60, 61, 776, 777, 778, 779, 780, 379, 380, 381].filterMap (fun i => lw_tbl[i]?) := by decide +kernel
theorem wA_4_in : ∀ w ∈ wA_4, w ∈ lw_tbl := fun w hw => by
  rw [wA_4_at] at hw
  obtain ⟨i, -, hi⟩ := List.mem_filterMap.mp hw
  exact List.mem_of_getElem? hi
set_option maxRecDepth 20000 in
theorem wA_5_at : wA_5 = [781, 782, 783, 784, 785, 786, 787, 788, 562, 563, 789, 204, 43, 205, 564, 790, 791, 793, 26, 794, 795, 797, 27, 798, 799, 294, 295, 296, 800, 801].filterMap (fun i => lw_tbl[i]?) := by decide +kernel
theorem wA_5_in : ∀ w ∈ wA_5, w ∈ lw_tbl := fun w hw => by
  rw [wA_5_at] at hw
  obtain ⟨i, -, hi⟩ := List.mem_filterMap.mp hw
  exact List.mem_of_getElem? hi
set_option maxRecDepth 20000 in
theorem wA_6_at : wA_6 = [802, 803, 261, 131, 132, 133, 134, 140, 142, 2, 143, 172, 173, 174, 175, 278, 279, 280, 281, 282, 283, 284, 285, 286, 287, 288, 153, 154, 155, 289].filterMap (fun i => lw_tbl[i]?) := by decide +kernel
theorem wA_6_in : ∀ w ∈ wA_6, w ∈ lw_tbl := fun w hw => by
  rw [wA_6_at] at hw
  obtain ⟨i, -, hi⟩ := List.mem_filterMap.mp hw
  exact List.mem_of_getElem? hi
set_option maxRecDepth 20000 in
theorem wA_7_at : wA_7 = [290, 291, 292, 293, 297, 299, 8, 301, 302, 303, 145, 146, 147, 304, 149, 150, 151, 305, 307, 9, 308, 309, 310, 311, 312, 313, 169, 170, 171, 314].filterMap (fun i => lw_tbl[i]?) := by decide +kernel
theorem wA_7_in : ∀ w ∈ wA_7, w ∈ lw_tbl := fun w hw => by
  rw [wA_7_at] at hw
  obtain ⟨i, -, hi⟩ := List.mem_filterMap.mp hw
  exact List.mem_of_getElem? hi
set_option maxRecDepth 20000 in
theorem wA_8_at : wA_8 = [315, 316, 317, 497, 498, 499, 500, 388, 389, 390, 391, 804, 805, 806, 807, 808, 809, 810, 811, 812, 330, 331, 332, 333, 335, 44, 334, 350, 351, 352].filterMap (fun i => lw_tbl[i]?) := by decide +kernel
theorem wA_8_in : ∀ w ∈ wA_8, w ∈ lw_tbl := fun w hw => by
  rw [wA_8_at] at hw
  obtain ⟨i, -, hi⟩ := List.mem_filterMap.mp hw
  exact List.mem_of_getElem? hi
set_option maxRecDepth 20000 in
theorem wA_9_at : wA_9 = [353, 354, 355, 165, 166, 167, 356, 157, 158, 159, 357, 359, 10, 361, 362, 363, 364, 365, 366, 367, 368, 144, 152, 148, 168, 813, 814, 815, 816, 818].filterMap (fun i => lw_tbl[i]?) := by decide +kernel
theorem wA_9_in : ∀ w ∈ wA_9, w ∈ lw_tbl := fun w hw => by
  rw [wA_9_at] at hw
  obtain ⟨i, -, hi⟩ := List.mem_filterMap.mp hw
  exact List.mem_of_getElem? hi
set_option maxRecDepth 20000 in
theorem wA_10_at : wA_10 = [45, 817, 833, 834, 177, 178, 179, 835, 836, 837, 838, 839, 840, 246, 247, 248, 841, 327, 328, 329, 842, 843, 844, 845, 846, 847, 848, 849, 850, 851].filterMap (fun i => lw_tbl[i]?) := by decide +kernel
theorem wA_10_in : ∀ w ∈ wA_10, w ∈ lw_tbl := fun w hw => by
  rw [wA_10_at] at hw
  obtain ⟨i, -, hi⟩ := List.mem_filterMap.mp hw
  exact List.mem_of_getElem? hi
set_option maxRecDepth 20000 in
theorem wA_11_at : wA_11 = [852, 853, 854, 855, 856, 857, 858, 238, 239, 240, 859, 860, 861, 862, 222, 223, 224, 225, 226, 227, 228, 229, 230, 231, 232, 233, 234, 235, 236, 237].filterMap (fun i => lw_tbl[i]?) := by decide +kernel
theorem wA_11_in : ∀ w ∈ wA_11, w ∈ lw_tbl := fun w hw => by
  rw [wA_11_at] at hw
  obtain ⟨i, -, hi⟩ := List.mem_filterMap.mp hw
  exact List.mem_of_getElem? hi
set_option maxRecDepth 20000 in
theorem wA_12_at : wA_12 = [241, 243, 7, 244, 156, 164, 245, 369, 370, 371, 372, 373, 374, 375, 376, 377, 378, 382, 383, 384, 385, 386, 387, 207, 208, 209, 322, 323, 324, 325].filterMap (fun i => lw_tbl[i]?) := by decide +kernel
theorem wA_12_in : ∀ w ∈ wA_12, w ∈ lw_tbl := fun w hw => by
  rw [wA_12_at] at hw
  obtain ⟨i, -, hi⟩ := List.mem_filterMap.mp hw
  exact List.mem_of_getElem? hi
set_option maxRecDepth 20000 in
theorem wA_13_at : wA_13 = [326, 392, 394, 11, 395, 396, 398, 12, 399, 400, 401, 402, 403, 404, 405, 406, 407, 408, 409, 410, 411, 412, 413, 414, 415, 416, 417, 419, 13, 420].filterMap (fun i => lw_tbl[i]?) := by decide +kernel
theorem wA_13_in : ∀ w ∈ wA_13, w ∈ lw_tbl := fun w hw => by
  rw [wA_13_at] at hw
  obtain ⟨i, -, hi⟩ := List.mem_filterMap.mp hw
  exact List.mem_of_getElem? hi
set_option maxRecDepth 20000 in
theorem wA_14_at : wA_14 = [421, 423, 14, 424, 425, 426, 427, 428, 429, 430, 431, 432, 433, 435, 15, 436, 437, 438, 46, 439, 440, 441, 442, 443, 445, 16, 446, 447, 448, 258].filterMap (fun i => lw_tbl[i]?) := by decide +kernel
theorem wA_14_in : ∀ w ∈ wA_14, w ∈ lw_tbl := fun w hw => by
  rw [wA_14_at] at hw
  obtain ⟨i, -, hi⟩ := List.mem_filterMap.mp hw
  exact List.mem_of_getElem? hi
set_option maxRecDepth 20000 in
theorem wA_15_at : wA_15 = [259, 260, 449, 450, 451, 452, 453, 462, 193, 194, 454, 455, 456, 457, 458, 460, 17, 461, 863, 864, 865, 55, 56, 57, 58, 127, 128, 129, 130, 135].filterMap (fun i => lw_tbl[i]?) := by decide +kernel
theorem wA_15_in : ∀ w ∈ wA_15, w ∈ lw_tbl := fun w hw => by
  rw [wA_15_at] at hw
  obtain ⟨i, -, hi⟩ := List.mem_filterMap.mp hw
  exact List.mem_of_getElem? hi
set_option maxRecDepth 20000 in
theorem wA_16_at : wA_16 = [137, 1, 139, 160, 161, 162, 163, 176, 180, 182, 3, 183, 184, 186, 4, 187, 188, 190, 5, 191, 192, 195, 196, 197, 198, 199, 200, 201, 202, 203].filterMap (fun i => lw_tbl[i]?) := by decide +kernel
theorem wA_16_in : ∀ w ∈ wA_16, w ∈ lw_tbl := fun w hw => by
  rw [wA_16_at] at hw
  obtain ⟨i, -, hi⟩ := List.mem_filterMap.mp hw
  exact List.mem_of_getElem? hi
set_option maxRecDepth 20000 in
theorem wA_17_at : wA_17 = [206, 210, 211, 212, 213, 214, 215, 216, 217, 218, 220, 6, 221, 249, 250, 251, 252, 253, 254, 255, 256, 257, 264, 265, 266, 267, 268, 269, 270, 271].filterMap (fun i => lw_tbl[i]?) := by decide +kernel
theorem wA_17_in : ∀ w ∈ wA_17, w ∈ lw_tbl := fun w hw => by
  rw [wA_17_at] at hw
  obtain ⟨i, -, hi⟩ := List.mem_filterMap.mp hw
  exact List.mem_of_getElem? hi
set_option maxRecDepth 20000 in
theorem wA_18_at : wA_18 = [272, 273, 274, 275, 276, 277, 318, 319, 320, 321, 866, 867, 868, 869, 870, 871, 872, 501, 502, 503, 504, 505, 506, 507, 508, 471, 509, 511, 22, 512].filterMap (fun i => lw_tbl[i]?) := by decide +kernel
theorem wA_18_in : ∀ w ∈ wA_18, w ∈ lw_tbl := fun w hw => by
  rw [wA_18_at] at hw
  obtain ⟨i, -, hi⟩ := List.mem_filterMap.mp hw
  exact List.mem_of_getElem? hi
set_option maxRecDepth 20000 in
theorem wA_19_at : wA_19 = [513, 515, 23, 516, 517, 518, 520, 24, 521, 522, 524, 25, 525, 873, 874, 875, 876, 877, 878, 879, 530, 531, 880, 881, 882, 883, 884, 885, 886, 887].filterMap (fun i => lw_tbl[i]?) := by decide +kernel
theorem wA_19_in : ∀ w ∈ wA_19, w ∈ lw_tbl := fun w hw => by
  rw [wA_19_at] at hw
  obtain ⟨i, -, hi⟩ := List.mem_filterMap.mp hw
  exact List.mem_of_getElem? hi
set_option maxRecDepth 20000 in
theorem wA_20_at : wA_20 = [526, 527, 528, 529, 888, 889, 890, 891, 892, 893, 894, 895, 896, 897, 48, 898, 899, 900, 901, 902, 47, 903, 904, 905, 927, 914, 915, 907, 908, 50].filterMap (fun i => lw_tbl[i]?) := by decide +kernel
theorem wA_20_in : ∀ w ∈ wA_20, w ∈ lw_tbl := fun w hw => by
  rw [wA_20_at] at hw
  obtain ⟨i, -, hi⟩ := List.mem_filterMap.mp hw
  exact List.mem_of_getElem? hi
set_option maxRecDepth 20000 in
theorem wA_21_at : wA_21 = [909, 910, 911, 912, 913, 928, 929, 930, 931, 932, 1102, 926, 933, 934, 917, 935, 1103, 937, 938, 939, 1104, 941, 942, 951, 943, 944, 51, 945, 946, 947].filterMap (fun i => lw_tbl[i]?) := by decide +kernel
theorem wA_21_in : ∀ w ∈ wA_21, w ∈ lw_tbl := fun w hw => by
  rw [wA_21_at] at hw
  obtain ⟨i, -, hi⟩ := List.mem_filterMap.mp hw
  exact List.mem_of_getElem? hi
set_option maxRecDepth 20000 in
theorem wA_22_at : wA_22 = [948, 949, 950, 952, 953, 954, 955, 956, 957, 958, 959, 961, 962, 963, 965, 964, 52, 966, 968, 969, 967, 970, 971, 972, 53, 973, 974, 1105, 976, 977].filterMap (fun i => lw_tbl[i]?) := by decide +kernel
theorem wA_22_in : ∀ w ∈ wA_22, w ∈ lw_tbl := fun w hw => by
  rw [wA_22_at] at hw
  obtain ⟨i, -, hi⟩ := List.mem_filterMap.mp hw
  exact List.mem_of_getElem? hi
set_option maxRecDepth 20000 in
theorem wA_23_at : wA_23 = [978, 979, 980, 981, 982, 983, 984, 985, 986, 987, 988, 989, 990, 991, 49, 992, 993, 995, 996, 54, 997, 998, 999, 1000, 1001, 1003, 1005, 1007, 1008, 1009].filterMap (fun i => lw_tbl[i]?) := by decide +kernel
theorem wA_23_in : ∀ w ∈ wA_23, w ∈ lw_tbl := fun w hw => by
  rw [wA_23_at] at hw
  obtain ⟨i, -, hi⟩ := List.mem_filterMap.mp hw
  exact List.mem_of_getElem? hi
set_option maxRecDepth 20000 in
theorem wA_24_at : wA_24 = [1010, 1011, 1012, 1013, 1014, 1015, 1016, 1017, 1018, 1019, 1021, 28, 1022, 1023, 1024, 1025, 1026, 1027, 1028, 1029, 1030, 1031, 1106, 1032, 1033, 1034, 1035, 1036, 1037, 1038].filterMap (fun i => lw_tbl[i]?) := by decide +kernel
theorem wA_24_in : ∀ w ∈ wA_24, w ∈ lw_tbl := fun w hw => by
  rw [wA_24_at] at hw
  obtain ⟨i, -, hi⟩ := List.mem_filterMap.mp hw
  exact List.mem_of_getElem? hi
set_option maxRecDepth 20000 in
theorem wA_25_at : wA_25 = [1039, 1040, 1041, 1042, 1043, 1044, 1045, 1046, 1078, 1077, 1063, 916, 1047, 1049, 1050, 1048, 1051, 1052, 1032, 1107, 1053, 1054, 1055, 1056, 1057, 1058, 1059, 1060, 1061, 1062].filterMap (fun i => lw_tbl[i]?) := by decide +kernel
theorem wA_25_in : ∀ w ∈ wA_25, w ∈ lw_tbl := fun w hw => by
  rw [wA_25_at] at hw
  obtain ⟨i, -, hi⟩ := List.mem_filterMap.mp hw
  exact List.mem_of_getElem? hi
set_option maxRecDepth 20000 in
theorem wA_26_at : wA_26 = [1064, 1065, 1066, 1067, 1068, 1069, 1070, 1071, 1072, 1073, 1074, 1075, 1076, 1088, 1089, 1090, 1091, 1092, 1093, 1094, 1095, 1096, 1097, 1098, 1099, 481, 482, 483, 484, 485].filterMap (fun i => lw_tbl[i]?) := by decide +kernel
theorem wA_26_in : ∀ w ∈ wA_26, w ∈ lw_tbl := fun w hw => by
  rw [wA_26_at] at hw
  obtain ⟨i, -, hi⟩ := List.mem_filterMap.mp hw
  exact List.mem_of_getElem? hi
set_option maxRecDepth 20000 in
theorem wA_27_at : wA_27 = [486, 487, 489, 20, 491, 492, 493, 495, 21, 496, 532, 533, 534, 535, 536, 537, 538, 539, 467, 468, 469, 470, 472, 474, 18, 475, 477, 479, 19, 480].filterMap (fun i => lw_tbl[i]?) := by decide +kernel
theorem wA_27_in : ∀ w ∈ wA_27, w ∈ lw_tbl := fun w hw => by
  rw [wA_27_at] at hw
  obtain ⟨i, -, hi⟩ := List.mem_filterMap.mp hw
  exact List.mem_of_getElem? hi
set_option maxRecDepth 20000 in
theorem wA_28_at : wA_28 = [463, 464, 465, 466].filterMap (fun i => lw_tbl[i]?) := by decide +kernel
theorem wA_28_in : ∀ w ∈ wA_28, w ∈ lw_tbl := fun w hw => by
  rw [wA_28_at] at hw
  obtain ⟨i, -, hi⟩ := List.mem_filterMap.mp hw
  exact List.mem_of_getElem? hi
theorem wA0_in : ∀ w ∈ wA0, w ∈ lw_tbl := fun w h => (List.mem_append.mp h).elim (wA_0_in w) (fun h => (List.mem_append.mp h).elim (wA_1_in w) (fun h => (List.mem_append.mp h).elim (wA_2_in w) (fun h => (List.mem_append.mp h).elim (wA_3_in w) (fun h => (List.mem_append.mp h).elim (wA_4_in w) (fun h => (List.mem_append.mp h).elim (wA_5_in w) (fun h => (List.mem_append.mp h).elim (wA_6_in w) (fun h => (List.mem_append.mp h).elim (wA_7_in w) (fun h => (List.mem_append.mp h).elim (wA_8_in w) (fun h => (List.mem_append.mp h).elim (wA_9_in w) (fun h => (List.mem_append.mp h).elim (wA_10_in w) (fun h => (List.mem_append.mp h).elim (wA_11_in w) (fun h => (List.mem_append.mp h).elim (wA_12_in w) (fun h => (List.mem_append.mp h).elim (wA_13_in w) (fun h => (List.mem_append.mp h).elim (wA_14_in w) (fun h => (List.mem_append.mp h).elim (wA_15_in w) (fun h => (List.mem_append.mp h).elim (wA_16_in w) (fun h => (List.mem_append.mp h).elim (wA_17_in w) (fun h => (List.mem_append.mp h).elim (wA_18_in w) (fun h => (List.mem_append.mp h).elim (wA_19_in w) (fun h => (List.mem_append.mp h).elim (wA_20_in w) (fun h => (List.mem_append.mp h).elim (wA_21_in w) (fun h => (List.mem_append.mp h).elim (wA_22_in w) (fun h => (List.mem_append.mp h).elim (wA_23_in w) (fun h => (List.mem_append.mp h).elim (wA_24_in w) (fun h => (List.mem_append.mp h).elim (wA_25_in w) (fun h => (List.mem_append.mp h).elim (wA_26_in w) (fun h => (List.mem_append.mp h).elim (wA_27_in w) (fun h => wA_28_in w h))))))))))))))))))))))))))))
set_option maxRecDepth 20000 in
theorem iT_X7 : ∀ w ∈ wsX70, w ∈ lw_tbl := by decide +kernel
set_option maxRecDepth 20000 in
theorem iT_X5 : ∀ w ∈ wsX50, w ∈ lw_tbl := by decide +kernel
set_option maxRecDepth 20000 in
theorem iT_X4 : ∀ w ∈ wsX40, w ∈ lw_tbl := by decide +kernel
set_option maxRecDepth 20000 in
theorem iT_X3 : ∀ w ∈ wsX30, w ∈ lw_tbl := by decide +kernel
set_option maxRecDepth 20000 in
theorem iT_X6 : ∀ w ∈ wsX60, w ∈ lw_tbl := by decide +kernel
set_option maxRecDepth 20000 in
theorem iT_X1 : ∀ w ∈ wsX10, w ∈ lw_tbl := by decide +kernel
set_option maxRecDepth 20000 in
theorem iT_X0 : ∀ w ∈ wsX00, w ∈ lw_tbl := by decide +kernel
set_option maxRecDepth 20000 in
theorem iT_X2 : ∀ w ∈ wsX20, w ∈ lw_tbl := by decide +kernel
set_option maxRecDepth 20000 in
theorem iT_J4 : ∀ w ∈ wsJ40, w ∈ lw_tbl := by decide +kernel
set_option maxRecDepth 20000 in
theorem iT_J0 : ∀ w ∈ wsJ00, w ∈ lw_tbl := by decide +kernel
theorem wA_of {args : Array Value} {s : State} (hts : ∀ w ∈ lw_tbl, w.before args s = true) (hx : ∀ w ∈ wA_x, w.before args s = true) : ∀ w ∈ wA, w.before args s = true := fun w h => (List.mem_append.mp h).elim (fun h => hts w (wA0_in w h)) (fun h => (List.mem_append.mp h).elim (fun h => hts w (iT_X7 w h)) (fun h => (List.mem_append.mp h).elim (fun h => hts w (iT_X5 w h)) (fun h => (List.mem_append.mp h).elim (fun h => hts w (iT_X4 w h)) (fun h => (List.mem_append.mp h).elim (fun h => hts w (iT_X3 w h)) (fun h => (List.mem_append.mp h).elim (fun h => hts w (iT_X6 w h)) (fun h => (List.mem_append.mp h).elim (fun h => hts w (iT_X1 w h)) (fun h => (List.mem_append.mp h).elim (fun h => hts w (iT_X0 w h)) (fun h => (List.mem_append.mp h).elim (fun h => hts w (iT_X2 w h)) (fun h => (List.mem_append.mp h).elim (fun h => hts w (iT_J4 w h)) (fun h => (List.mem_append.mp h).elim (fun h => hts w (iT_J0 w h)) (fun h => hx w h)))))))))))
set_option maxRecDepth 20000 in
theorem wA_good : wA.all goodWord = true := by decide +kernel
theorem iA_X7 : ∀ w ∈ wsX70, w ∈ wA := fun _ h => List.mem_append_right _ (List.mem_append_left _ h)
theorem iA_X5 : ∀ w ∈ wsX50, w ∈ wA := fun _ h => List.mem_append_right _ (List.mem_append_right _ (List.mem_append_left _ h))
theorem iA_X4 : ∀ w ∈ wsX40, w ∈ wA := fun _ h => List.mem_append_right _ (List.mem_append_right _ (List.mem_append_right _ (List.mem_append_left _ h)))
theorem iA_X3 : ∀ w ∈ wsX30, w ∈ wA := fun _ h => List.mem_append_right _ (List.mem_append_right _ (List.mem_append_right _ (List.mem_append_right _ (List.mem_append_left _ h))))
theorem iA_X6 : ∀ w ∈ wsX60, w ∈ wA := fun _ h => List.mem_append_right _ (List.mem_append_right _ (List.mem_append_right _ (List.mem_append_right _ (List.mem_append_right _ (List.mem_append_left _ h)))))
theorem iA_X1 : ∀ w ∈ wsX10, w ∈ wA := fun _ h => List.mem_append_right _ (List.mem_append_right _ (List.mem_append_right _ (List.mem_append_right _ (List.mem_append_right _ (List.mem_append_right _ (List.mem_append_left _ h))))))
theorem iA_X0 : ∀ w ∈ wsX00, w ∈ wA := fun _ h => List.mem_append_right _ (List.mem_append_right _ (List.mem_append_right _ (List.mem_append_right _ (List.mem_append_right _ (List.mem_append_right _ (List.mem_append_right _ (List.mem_append_left _ h)))))))
theorem iA_X2 : ∀ w ∈ wsX20, w ∈ wA := fun _ h => List.mem_append_right _ (List.mem_append_right _ (List.mem_append_right _ (List.mem_append_right _ (List.mem_append_right _ (List.mem_append_right _ (List.mem_append_right _ (List.mem_append_right _ (List.mem_append_left _ h))))))))
theorem iA_J4 : ∀ w ∈ wsJ40, w ∈ wA := fun _ h => List.mem_append_right _ (List.mem_append_right _ (List.mem_append_right _ (List.mem_append_right _ (List.mem_append_right _ (List.mem_append_right _ (List.mem_append_right _ (List.mem_append_right _ (List.mem_append_right _ (List.mem_append_left _ h)))))))))
theorem iA_J0 : ∀ w ∈ wsJ00, w ∈ wA := fun _ h => List.mem_append_right _ (List.mem_append_right _ (List.mem_append_right _ (List.mem_append_right _ (List.mem_append_right _ (List.mem_append_right _ (List.mem_append_right _ (List.mem_append_right _ (List.mem_append_right _ (List.mem_append_right _ (List.mem_append_left _ h))))))))))
theorem iA_x : ∀ w ∈ wA_x, w ∈ wA := fun _ h => List.mem_append_right _ (List.mem_append_right _ (List.mem_append_right _ (List.mem_append_right _ (List.mem_append_right _ (List.mem_append_right _ (List.mem_append_right _ (List.mem_append_right _ (List.mem_append_right _ (List.mem_append_right _ (List.mem_append_right _ (h)))))))))))
