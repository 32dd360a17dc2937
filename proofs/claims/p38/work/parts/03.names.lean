def RX0 : String := "SugarTowers$Banquet"
def TX0 : u_T := fun k => match k with
  | 0 => ("SugarTowers$Banquet", "number", "I", false)
  | 1 => ("SugarTowers$Banquet", "hour", "I", false)
  | 2 => ("SugarTowers$Banquet", "wantedCourses", "I", false)
  | 3 => ("SugarTowers$Banquet", "coins", "I", false)
  | _ => ("SugarTowers$Banquet", "tower", "I", false)
def tyX0 : Nat → FieldType := fun k => match k with
  | 0 => .int
  | 1 => .int
  | 2 => .int
  | 3 => .int
  | _ => .int
abbrev wsX00 : List Cond := u_ws RX0 TX0 5
theorem nmX0 : ∀ a, a < 5 → ∀ b, b < 5 → a ≠ b → (TX0 a).2.1 ≠ (TX0 b).2.1 := by decide +kernel
theorem tyX0_ok : ∀ k, k < 5 → parseFieldDescriptor (TX0 k).2.2.1 = some (tyX0 k) := by decide +kernel
abbrev cX0_init : ByteArray := prog_2_method_1_code
def yX0_init : MethodName := ⟨RX0, "<init>", "()V"⟩
abbrev cX0_start : ByteArray := prog_2_method_2_code
def yX0_start : MethodName := ⟨RX0, "start", "(IIII)V"⟩
abbrev cX0_copyFrom : ByteArray := prog_2_method_3_code
def yX0_copyFrom : MethodName := ⟨RX0, "copyFrom", "(LSugarTowers$Banquet;)V"⟩
def RX1 : String := "SugarTowers$History"
def TX1 : u_T := fun k => match k with
  | 0 => ("SugarTowers$History", "ring", "[LSugarTowers$Hotel;", true)
  | 1 => ("SugarTowers$History", "newest", "I", false)
  | _ => ("SugarTowers$History", "count", "I", false)
def tyX1 : Nat → FieldType := fun k => match k with
  | 0 => .array (.object "SugarTowers$Hotel")
  | 1 => .int
  | _ => .int
abbrev wsX10 : List Cond := u_ws RX1 TX1 3
theorem nmX1 : ∀ a, a < 3 → ∀ b, b < 3 → a ≠ b → (TX1 a).2.1 ≠ (TX1 b).2.1 := by decide +kernel
theorem tyX1_ok : ∀ k, k < 3 → parseFieldDescriptor (TX1 k).2.2.1 = some (tyX1 k) := by decide +kernel
abbrev cX1_init : ByteArray := prog_3_method_1_code
def yX1_init : MethodName := ⟨RX1, "<init>", "()V"⟩
abbrev cX1_keep : ByteArray := prog_3_method_2_code
def yX1_keep : MethodName := ⟨RX1, "keep", "(LSugarTowers$Hotel;)V"⟩
abbrev cX1_giveBackTo : ByteArray := prog_3_method_3_code
def yX1_giveBackTo : MethodName := ⟨RX1, "giveBackTo", "(LSugarTowers$Hotel;)V"⟩
def RX2 : String := "SugarTowers$Hotel"
def TX2 : u_T := fun k => match k with
  | 0 => ("SugarTowers$Hotel", "hour", "I", false)
  | 1 => ("SugarTowers$Hotel", "coins", "I", false)
  | 2 => ("SugarTowers$Hotel", "humidities", "[I", true)
  | 3 => ("SugarTowers$Hotel", "stock", "[I", true)
  | 4 => ("SugarTowers$Hotel", "bought", "[I", true)
  | 5 => ("SugarTowers$Hotel", "tongsRow", "[LSugarTowers$Tongs;", true)
  | 6 => ("SugarTowers$Hotel", "tongsCount", "I", false)
  | 7 => ("SugarTowers$Hotel", "towerRow", "[LSugarTowers$Tower;", true)
  | 8 => ("SugarTowers$Hotel", "towerCount", "I", false)
  | 9 => ("SugarTowers$Hotel", "banquetRow", "[LSugarTowers$Banquet;", true)
  | 10 => ("SugarTowers$Hotel", "waiting", "I", false)
  | 11 => ("SugarTowers$Hotel", "nextBanquet", "I", false)
  | 12 => ("SugarTowers$Hotel", "heldBanquets", "I", false)
  | 13 => ("SugarTowers$Hotel", "spoiltBanquets", "I", false)
  | 14 => ("SugarTowers$Hotel", "banquetCoins", "I", false)
  | 15 => ("SugarTowers$Hotel", "brokenCubes", "I", false)
  | _ => ("SugarTowers$Hotel", "eatenCubes", "I", false)
def tyX2 : Nat → FieldType := fun k => match k with
  | 0 => .int
  | 1 => .int
  | 2 => .array .int
  | 3 => .array .int
  | 4 => .array .int
  | 5 => .array (.object "SugarTowers$Tongs")
  | 6 => .int
  | 7 => .array (.object "SugarTowers$Tower")
  | 8 => .int
  | 9 => .array (.object "SugarTowers$Banquet")
  | 10 => .int
  | 11 => .int
  | 12 => .int
  | 13 => .int
  | 14 => .int
  | 15 => .int
  | _ => .int
abbrev wsX20 : List Cond := u_ws RX2 TX2 17
theorem nmX2 : ∀ a, a < 17 → ∀ b, b < 17 → a ≠ b → (TX2 a).2.1 ≠ (TX2 b).2.1 := by decide +kernel
theorem tyX2_ok : ∀ k, k < 17 → parseFieldDescriptor (TX2 k).2.2.1 = some (tyX2 k) := by decide +kernel
abbrev cX2_init : ByteArray := prog_4_method_1_code
def yX2_init : MethodName := ⟨RX2, "<init>", "()V"⟩
abbrev cX2_copyFrom : ByteArray := prog_4_method_2_code
def yX2_copyFrom : MethodName := ⟨RX2, "copyFrom", "(LSugarTowers$Hotel;)V"⟩
abbrev cX2_humidityAfter : ByteArray := prog_4_method_3_code
def yX2_humidityAfter : MethodName := ⟨RX2, "humidityAfter", "(I)I"⟩
abbrev cX2_setHumidity : ByteArray := prog_4_method_4_code
def yX2_setHumidity : MethodName := ⟨RX2, "setHumidity", "(II)I"⟩
abbrev cX2_stockOf : ByteArray := prog_4_method_5_code
def yX2_stockOf : MethodName := ⟨RX2, "stockOf", "(I)I"⟩
abbrev cX2_reasonAgainstBuying : ByteArray := prog_4_method_6_code
def yX2_reasonAgainstBuying : MethodName := ⟨RX2, "reasonAgainstBuying", "(LSugarTowers$Refusal;II)I"⟩
abbrev cX2_buyCubes : ByteArray := prog_4_method_7_code
def yX2_buyCubes : MethodName := ⟨RX2, "buyCubes", "(II)I"⟩
abbrev cX2_tongsAt : ByteArray := prog_4_method_8_code
def yX2_tongsAt : MethodName := ⟨RX2, "tongsAt", "(I)LSugarTowers$Tongs;"⟩
abbrev cX2_addTongs : ByteArray := prog_4_method_9_code
def yX2_addTongs : MethodName := ⟨RX2, "addTongs", "(I)I"⟩
abbrev cX2_busyTongs : ByteArray := prog_4_method_11_code
def yX2_busyTongs : MethodName := ⟨RX2, "busyTongs", "()I"⟩
abbrev cX2_towerAt : ByteArray := prog_4_method_12_code
def yX2_towerAt : MethodName := ⟨RX2, "towerAt", "(I)LSugarTowers$Tower;"⟩
abbrev cX2_addTower : ByteArray := prog_4_method_13_code
def yX2_addTower : MethodName := ⟨RX2, "addTower", "()I"⟩
abbrev cX2_reasonAgainstLaying : ByteArray := prog_4_method_14_code
def yX2_reasonAgainstLaying : MethodName := ⟨RX2, "reasonAgainstLaying", "(LSugarTowers$Refusal;IIII)I"⟩
abbrev cX2_layCourse : ByteArray := prog_4_method_15_code
def yX2_layCourse : MethodName := ⟨RX2, "layCourse", "(IIII)I"⟩
abbrev cX2_takeCourse : ByteArray := prog_4_method_16_code
def yX2_takeCourse : MethodName := ⟨RX2, "takeCourse", "(LSugarTowers$Tower;)I"⟩
abbrev cX2_placeOfBanquet : ByteArray := prog_4_method_18_code
def yX2_placeOfBanquet : MethodName := ⟨RX2, "placeOfBanquet", "(I)I"⟩
abbrev cX2_banquetAt : ByteArray := prog_4_method_19_code
def yX2_banquetAt : MethodName := ⟨RX2, "banquetAt", "(I)LSugarTowers$Banquet;"⟩
abbrev cX2_reasonAgainstBanquet : ByteArray := prog_4_method_20_code
def yX2_reasonAgainstBanquet : MethodName := ⟨RX2, "reasonAgainstBanquet", "(LSugarTowers$Refusal;I)I"⟩
abbrev cX2_addBanquet : ByteArray := prog_4_method_21_code
def yX2_addBanquet : MethodName := ⟨RX2, "addBanquet", "(III)I"⟩
abbrev cX2_dropBanquet : ByteArray := prog_4_method_22_code
def yX2_dropBanquet : MethodName := ⟨RX2, "dropBanquet", "(I)V"⟩
abbrev cX2_missingCourses : ByteArray := prog_4_method_23_code
def yX2_missingCourses : MethodName := ⟨RX2, "missingCourses", "(LSugarTowers$Banquet;)I"⟩
abbrev cX2_banquetsWith : ByteArray := prog_4_method_24_code
def yX2_banquetsWith : MethodName := ⟨RX2, "banquetsWith", "(I)I"⟩
abbrev cX2_letHoursGoBy : ByteArray := prog_4_method_26_code
def yX2_letHoursGoBy : MethodName := ⟨RX2, "letHoursGoBy", "(I)I"⟩
abbrev cX2_makeTowersDamp : ByteArray := prog_4_method_27_code
def yX2_makeTowersDamp : MethodName := ⟨RX2, "makeTowersDamp", "()V"⟩
abbrev cX2_breakWeakTowers : ByteArray := prog_4_method_28_code
def yX2_breakWeakTowers : MethodName := ⟨RX2, "breakWeakTowers", "()I"⟩
abbrev cX2_restTongs : ByteArray := prog_4_method_29_code
def yX2_restTongs : MethodName := ⟨RX2, "restTongs", "()V"⟩
abbrev cX2_holdBanquets : ByteArray := prog_4_method_30_code
def yX2_holdBanquets : MethodName := ⟨RX2, "holdBanquets", "()V"⟩
abbrev cX2_dropHeldBanquets : ByteArray := prog_4_method_31_code
def yX2_dropHeldBanquets : MethodName := ⟨RX2, "dropHeldBanquets", "()V"⟩
abbrev cX2_cubesInTowers : ByteArray := prog_4_method_32_code
def yX2_cubesInTowers : MethodName := ⟨RX2, "cubesInTowers", "()I"⟩
abbrev cX2_coursesInTowers : ByteArray := prog_4_method_33_code
def yX2_coursesInTowers : MethodName := ⟨RX2, "coursesInTowers", "()I"⟩
def RX3 : String := "SugarTowers$Order"
def TX3 : u_T := fun k => match k with
  | 0 => ("SugarTowers$Order", "letter", "I", false)
  | _ => ("SugarTowers$Order", "parts", "[I", true)
def tyX3 : Nat → FieldType := fun k => match k with
  | 0 => .int
  | _ => .array .int
abbrev wsX30 : List Cond := u_ws RX3 TX3 2
theorem nmX3 : ∀ a, a < 2 → ∀ b, b < 2 → a ≠ b → (TX3 a).2.1 ≠ (TX3 b).2.1 := by decide +kernel
theorem tyX3_ok : ∀ k, k < 2 → parseFieldDescriptor (TX3 k).2.2.1 = some (tyX3 k) := by decide +kernel
abbrev cX3_init : ByteArray := prog_5_method_1_code
def yX3_init : MethodName := ⟨RX3, "<init>", "()V"⟩
def RX4 : String := "SugarTowers$Refusal"
def TX4 : u_T := fun k => match k with
  | 0 => ("SugarTowers$Refusal", "reason", "I", false)
  | _ => ("SugarTowers$Refusal", "detail", "I", false)
def tyX4 : Nat → FieldType := fun k => match k with
  | 0 => .int
  | _ => .int
abbrev wsX40 : List Cond := u_ws RX4 TX4 2
theorem nmX4 : ∀ a, a < 2 → ∀ b, b < 2 → a ≠ b → (TX4 a).2.1 ≠ (TX4 b).2.1 := by decide +kernel
theorem tyX4_ok : ∀ k, k < 2 → parseFieldDescriptor (TX4 k).2.2.1 = some (tyX4 k) := by decide +kernel
abbrev cX4_init : ByteArray := prog_6_method_1_code
def yX4_init : MethodName := ⟨RX4, "<init>", "()V"⟩
abbrev cX4_because : ByteArray := prog_6_method_2_code
def yX4_because : MethodName := ⟨RX4, "because", "(II)I"⟩
def RX5 : String := "SugarTowers$Text"
def TX5 : u_T := fun k => match k with
  | 0 => ("SugarTowers$Text", "signs", "[C", true)
  | 1 => ("SugarTowers$Text", "length", "I", false)
  | 2 => ("SugarTowers$Text", "at", "I", false)
  | 3 => ("SugarTowers$Text", "orders", "[LSugarTowers$Order;", true)
  | _ => ("SugarTowers$Text", "orderCount", "I", false)
def tyX5 : Nat → FieldType := fun k => match k with
  | 0 => .array .char
  | 1 => .int
  | 2 => .int
  | 3 => .array (.object "SugarTowers$Order")
  | _ => .int
abbrev wsX50 : List Cond := u_ws RX5 TX5 5
theorem nmX5 : ∀ a, a < 5 → ∀ b, b < 5 → a ≠ b → (TX5 a).2.1 ≠ (TX5 b).2.1 := by decide +kernel
theorem tyX5_ok : ∀ k, k < 5 → parseFieldDescriptor (TX5 k).2.2.1 = some (tyX5 k) := by decide +kernel
abbrev cX5_init : ByteArray := prog_7_method_1_code
def yX5_init : MethodName := ⟨RX5, "<init>", "()V"⟩
abbrev cX5_addSign : ByteArray := prog_7_method_2_code
def yX5_addSign : MethodName := ⟨RX5, "addSign", "(C)I"⟩
abbrev cX5_orderAt : ByteArray := prog_7_method_3_code
def yX5_orderAt : MethodName := ⟨RX5, "orderAt", "(I)LSugarTowers$Order;"⟩
abbrev cX5_parseOrders : ByteArray := prog_7_method_4_code
def yX5_parseOrders : MethodName := ⟨RX5, "parseOrders", "()I"⟩
abbrev cX5_parseOrder : ByteArray := prog_7_method_5_code
def yX5_parseOrder : MethodName := ⟨RX5, "parseOrder", "(LSugarTowers$Order;)Z"⟩
abbrev cX5_formOf : ByteArray := prog_7_method_6_code
def yX5_formOf : MethodName := ⟨RX5, "formOf", "(I)Ljava/lang/String;"⟩
abbrev cX5_parseNumber : ByteArray := prog_7_method_7_code
def yX5_parseNumber : MethodName := ⟨RX5, "parseNumber", "(I)I"⟩
abbrev cX5_signHere : ByteArray := prog_7_method_8_code
def yX5_signHere : MethodName := ⟨RX5, "signHere", "()I"⟩
def RX6 : String := "SugarTowers$Tongs"
def TX6 : u_T := fun k => match k with
  | 0 => ("SugarTowers$Tongs", "reach", "I", false)
  | 1 => ("SugarTowers$Tongs", "busyHours", "I", false)
  | _ => ("SugarTowers$Tongs", "laidCubes", "I", false)
def tyX6 : Nat → FieldType := fun k => match k with
  | 0 => .int
  | 1 => .int
  | _ => .int
abbrev wsX60 : List Cond := u_ws RX6 TX6 3
theorem nmX6 : ∀ a, a < 3 → ∀ b, b < 3 → a ≠ b → (TX6 a).2.1 ≠ (TX6 b).2.1 := by decide +kernel
theorem tyX6_ok : ∀ k, k < 3 → parseFieldDescriptor (TX6 k).2.2.1 = some (tyX6 k) := by decide +kernel
abbrev cX6_init : ByteArray := prog_8_method_1_code
def yX6_init : MethodName := ⟨RX6, "<init>", "()V"⟩
abbrev cX6_start : ByteArray := prog_8_method_2_code
def yX6_start : MethodName := ⟨RX6, "start", "(I)V"⟩
abbrev cX6_copyFrom : ByteArray := prog_8_method_3_code
def yX6_copyFrom : MethodName := ⟨RX6, "copyFrom", "(LSugarTowers$Tongs;)V"⟩
def RX7 : String := "SugarTowers$Tower"
def TX7 : u_T := fun k => match k with
  | 0 => ("SugarTowers$Tower", "grades", "[I", true)
  | 1 => ("SugarTowers$Tower", "cubes", "[I", true)
  | 2 => ("SugarTowers$Tower", "courses", "I", false)
  | 3 => ("SugarTowers$Tower", "dampness", "I", false)
  | _ => ("SugarTowers$Tower", "brokenCourses", "I", false)
def tyX7 : Nat → FieldType := fun k => match k with
  | 0 => .array .int
  | 1 => .array .int
  | 2 => .int
  | 3 => .int
  | _ => .int
abbrev wsX70 : List Cond := u_ws RX7 TX7 5
theorem nmX7 : ∀ a, a < 5 → ∀ b, b < 5 → a ≠ b → (TX7 a).2.1 ≠ (TX7 b).2.1 := by decide +kernel
theorem tyX7_ok : ∀ k, k < 5 → parseFieldDescriptor (TX7 k).2.2.1 = some (tyX7 k) := by decide +kernel
abbrev cX7_init : ByteArray := prog_9_method_1_code
def yX7_init : MethodName := ⟨RX7, "<init>", "()V"⟩
abbrev cX7_start : ByteArray := prog_9_method_2_code
def yX7_start : MethodName := ⟨RX7, "start", "()V"⟩
abbrev cX7_copyFrom : ByteArray := prog_9_method_3_code
def yX7_copyFrom : MethodName := ⟨RX7, "copyFrom", "(LSugarTowers$Tower;)V"⟩
abbrev cX7_hasCourse : ByteArray := prog_9_method_4_code
def yX7_hasCourse : MethodName := ⟨RX7, "hasCourse", "(I)Z"⟩
abbrev cX7_gradeAt : ByteArray := prog_9_method_5_code
def yX7_gradeAt : MethodName := ⟨RX7, "gradeAt", "(I)I"⟩
abbrev cX7_cubesAt : ByteArray := prog_9_method_6_code
def yX7_cubesAt : MethodName := ⟨RX7, "cubesAt", "(I)I"⟩
abbrev cX7_cubesFrom : ByteArray := prog_9_method_7_code
def yX7_cubesFrom : MethodName := ⟨RX7, "cubesFrom", "(I)I"⟩
abbrev cX7_addCourse : ByteArray := prog_9_method_8_code
def yX7_addCourse : MethodName := ⟨RX7, "addCourse", "(II)I"⟩
abbrev cX7_removeFrom : ByteArray := prog_9_method_9_code
def yX7_removeFrom : MethodName := ⟨RX7, "removeFrom", "(I)I"⟩
abbrev cX7_lowestWeakCourse : ByteArray := prog_9_method_10_code
def yX7_lowestWeakCourse : MethodName := ⟨RX7, "lowestWeakCourse", "(II)I"⟩
abbrev cX7_spareCubes : ByteArray := prog_9_method_11_code
def yX7_spareCubes : MethodName := ⟨RX7, "spareCubes", "()I"⟩
def RX8 : String := "SugarTowers"
def TX8 : u_T := fun k => match k with
  | 0 => ("SugarTowers", "now", "LSugarTowers$Hotel;", true)
  | 1 => ("SugarTowers", "trial", "LSugarTowers$Hotel;", true)
  | 2 => ("SugarTowers", "snapshot", "LSugarTowers$Hotel;", true)
  | 3 => ("SugarTowers", "isSaved", "Z", false)
  | 4 => ("SugarTowers", "past", "LSugarTowers$History;", true)
  | 5 => ("SugarTowers", "input", "LSugarTowers$Text;", true)
  | 6 => ("SugarTowers", "errorAt", "I", false)
  | 7 => ("SugarTowers", "latest", "LSugarTowers$Refusal;", true)
  | _ => ("SugarTowers", "unkept", "LSugarTowers$Refusal;", true)
def tyX8 : Nat → FieldType := fun k => match k with
  | 0 => .object "SugarTowers$Hotel"
  | 1 => .object "SugarTowers$Hotel"
  | 2 => .object "SugarTowers$Hotel"
  | 3 => .boolean
  | 4 => .object "SugarTowers$History"
  | 5 => .object "SugarTowers$Text"
  | 6 => .int
  | 7 => .object "SugarTowers$Refusal"
  | _ => .object "SugarTowers$Refusal"
abbrev wsX80 : List Cond := u_ws RX8 TX8 9
theorem nmX8 : ∀ a, a < 9 → ∀ b, b < 9 → a ≠ b → (TX8 a).2.1 ≠ (TX8 b).2.1 := by decide +kernel
theorem tyX8_ok : ∀ k, k < 9 → parseFieldDescriptor (TX8 k).2.2.1 = some (tyX8 k) := by decide +kernel
abbrev cX8_init : ByteArray := prog_1_method_1_code
def yX8_init : MethodName := ⟨RX8, "<init>", "()V"⟩
abbrev cX8_humidity : ByteArray := prog_1_method_2_code
def yX8_humidity : MethodName := ⟨RX8, "humidity", "(II)I"⟩
abbrev cX8_buy : ByteArray := prog_1_method_4_code
def yX8_buy : MethodName := ⟨RX8, "buy", "(II)I"⟩
abbrev cX8_stock : ByteArray := prog_1_method_5_code
def yX8_stock : MethodName := ⟨RX8, "stock", "(I)I"⟩
abbrev cX8_tongs : ByteArray := prog_1_method_6_code
def yX8_tongs : MethodName := ⟨RX8, "tongs", "(I)I"⟩
abbrev cX8_tongsOf : ByteArray := prog_1_method_7_code
def yX8_tongsOf : MethodName := ⟨RX8, "tongsOf", "(II)I"⟩
abbrev cX8_tower : ByteArray := prog_1_method_9_code
def yX8_tower : MethodName := ⟨RX8, "tower", "()I"⟩
abbrev cX8_lay : ByteArray := prog_1_method_10_code
def yX8_lay : MethodName := ⟨RX8, "lay", "(IIII)I"⟩
abbrev cX8_why : ByteArray := prog_1_method_11_code
def yX8_why : MethodName := ⟨RX8, "why", "(IIII)I"⟩
abbrev cX8_take : ByteArray := prog_1_method_12_code
def yX8_take : MethodName := ⟨RX8, "take", "(I)I"⟩
abbrev cX8_courseOf : ByteArray := prog_1_method_13_code
def yX8_courseOf : MethodName := ⟨RX8, "courseOf", "(III)I"⟩
abbrev cX8_towerOf : ByteArray := prog_1_method_15_code
def yX8_towerOf : MethodName := ⟨RX8, "towerOf", "(II)I"⟩
abbrev cX8_spare : ByteArray := prog_1_method_16_code
def yX8_spare : MethodName := ⟨RX8, "spare", "(I)I"⟩
abbrev cX8_banquet : ByteArray := prog_1_method_20_code
def yX8_banquet : MethodName := ⟨RX8, "banquet", "(III)I"⟩
abbrev cX8_show : ByteArray := prog_1_method_21_code
def yX8_show : MethodName := ⟨RX8, "show", "(II)I"⟩
abbrev cX8_cancel : ByteArray := prog_1_method_22_code
def yX8_cancel : MethodName := ⟨RX8, "cancel", "(I)I"⟩
abbrev cX8_banquetOf : ByteArray := prog_1_method_23_code
def yX8_banquetOf : MethodName := ⟨RX8, "banquetOf", "(II)I"⟩
abbrev cX8_pass : ByteArray := prog_1_method_25_code
def yX8_pass : MethodName := ⟨RX8, "pass", "(I)I"⟩
abbrev cX8_append : ByteArray := prog_1_method_26_code
def yX8_append : MethodName := ⟨RX8, "append", "(C)I"⟩
abbrev cX8_read : ByteArray := prog_1_method_27_code
def yX8_read : MethodName := ⟨RX8, "read", "()I"⟩
abbrev cX8_errorPosition : ByteArray := prog_1_method_28_code
def yX8_errorPosition : MethodName := ⟨RX8, "errorPosition", "()I"⟩
abbrev cX8_refusal : ByteArray := prog_1_method_29_code
def yX8_refusal : MethodName := ⟨RX8, "refusal", "(Z)I"⟩
abbrev cX8_account : ByteArray := prog_1_method_30_code
def yX8_account : MethodName := ⟨RX8, "account", "(I)I"⟩
abbrev cX8_undo : ByteArray := prog_1_method_34_code
def yX8_undo : MethodName := ⟨RX8, "undo", "()I"⟩
abbrev cX8_save : ByteArray := prog_1_method_35_code
def yX8_save : MethodName := ⟨RX8, "save", "()I"⟩
abbrev cX8_restore : ByteArray := prog_1_method_36_code
def yX8_restore : MethodName := ⟨RX8, "restore", "()I"⟩
abbrev cX8_knownTower : ByteArray := prog_1_method_37_code
def yX8_knownTower : MethodName := ⟨RX8, "knownTower", "(I)LSugarTowers$Tower;"⟩
abbrev cX8_towerWithCourse : ByteArray := prog_1_method_38_code
def yX8_towerWithCourse : MethodName := ⟨RX8, "towerWithCourse", "(II)LSugarTowers$Tower;"⟩
abbrev cX8_knownTongs : ByteArray := prog_1_method_39_code
def yX8_knownTongs : MethodName := ⟨RX8, "knownTongs", "(I)LSugarTowers$Tongs;"⟩
abbrev cX8_knownBanquet : ByteArray := prog_1_method_40_code
def yX8_knownBanquet : MethodName := ⟨RX8, "knownBanquet", "(I)LSugarTowers$Banquet;"⟩
abbrev cX8_reasonAgainstCourse : ByteArray := prog_1_method_41_code
def yX8_reasonAgainstCourse : MethodName := ⟨RX8, "reasonAgainstCourse", "(LSugarTowers$Refusal;IIII)I"⟩
abbrev cX8_tryOrder : ByteArray := prog_1_method_42_code
def yX8_tryOrder : MethodName := ⟨RX8, "tryOrder", "(LSugarTowers$Order;)I"⟩
abbrev cX8_tryToBuy : ByteArray := prog_1_method_43_code
def yX8_tryToBuy : MethodName := ⟨RX8, "tryToBuy", "(II)I"⟩
abbrev cX8_tryToLay : ByteArray := prog_1_method_44_code
def yX8_tryToLay : MethodName := ⟨RX8, "tryToLay", "(IIII)I"⟩
abbrev cX8_tryToTake : ByteArray := prog_1_method_45_code
def yX8_tryToTake : MethodName := ⟨RX8, "tryToTake", "(I)I"⟩
abbrev cX8_tryToShow : ByteArray := prog_1_method_46_code
def yX8_tryToShow : MethodName := ⟨RX8, "tryToShow", "(II)I"⟩
abbrev cX8_tryToPass : ByteArray := prog_1_method_47_code
def yX8_tryToPass : MethodName := ⟨RX8, "tryToPass", "(I)I"⟩
abbrev cX8_isBetween : ByteArray := prog_1_method_48_code
def yX8_isBetween : MethodName := ⟨RX8, "isBetween", "(III)Z"⟩
abbrev cX8_isGrade : ByteArray := prog_1_method_49_code
def yX8_isGrade : MethodName := ⟨RX8, "isGrade", "(I)Z"⟩
abbrev cX8_isPurchase : ByteArray := prog_1_method_50_code
def yX8_isPurchase : MethodName := ⟨RX8, "isPurchase", "(II)Z"⟩
abbrev cX8_isCourse : ByteArray := prog_1_method_51_code
def yX8_isCourse : MethodName := ⟨RX8, "isCourse", "(II)Z"⟩
abbrev cX8_priceOfCube : ByteArray := prog_1_method_52_code
def yX8_priceOfCube : MethodName := ⟨RX8, "priceOfCube", "(I)I"⟩
abbrev cX8_cubeBears : ByteArray := prog_1_method_53_code
def yX8_cubeBears : MethodName := ⟨RX8, "cubeBears", "(II)I"⟩
abbrev cX8_dampnessAfterHour : ByteArray := prog_1_method_54_code
def yX8_dampnessAfterHour : MethodName := ⟨RX8, "dampnessAfterHour", "(II)I"⟩
abbrev cX8_sumOf : ByteArray := prog_1_method_55_code
def yX8_sumOf : MethodName := ⟨RX8, "sumOf", "([I)I"⟩
def RX9 : String := "SugarTowersModel"
def TX9 : u_T := fun k => match k with
  | _ => ("", "", "", false)
def tyX9 : Nat → FieldType := fun k => match k with
  | _ => .int
abbrev wsX90 : List Cond := u_ws RX9 TX9 0
theorem nmX9 : ∀ a, a < 0 → ∀ b, b < 0 → a ≠ b → (TX9 a).2.1 ≠ (TX9 b).2.1 := by decide +kernel
theorem tyX9_ok : ∀ k, k < 0 → parseFieldDescriptor (TX9 k).2.2.1 = some (tyX9 k) := by decide +kernel
def RJx145de : String := "java/io/Serializable"
def TJx145de : u_T := fun k => match k with
  | _ => ("", "", "", false)
def tyJx145de : Nat → FieldType := fun k => match k with
  | _ => .int
abbrev wsJx145de0 : List Cond := u_ws RJx145de TJx145de 0
theorem nmJx145de : ∀ a, a < 0 → ∀ b, b < 0 → a ≠ b → (TJx145de a).2.1 ≠ (TJx145de b).2.1 := by decide +kernel
theorem tyJx145de_ok : ∀ k, k < 0 → parseFieldDescriptor (TJx145de k).2.2.1 = some (tyJx145de k) := by decide +kernel
def RJx9f9b0 : String := "java/lang/CharSequence"
def TJx9f9b0 : u_T := fun k => match k with
  | _ => ("", "", "", false)
def tyJx9f9b0 : Nat → FieldType := fun k => match k with
  | _ => .int
abbrev wsJx9f9b00 : List Cond := u_ws RJx9f9b0 TJx9f9b0 0
theorem nmJx9f9b0 : ∀ a, a < 0 → ∀ b, b < 0 → a ≠ b → (TJx9f9b0 a).2.1 ≠ (TJx9f9b0 b).2.1 := by decide +kernel
theorem tyJx9f9b0_ok : ∀ k, k < 0 → parseFieldDescriptor (TJx9f9b0 k).2.2.1 = some (tyJx9f9b0 k) := by decide +kernel
def RJxb160c : String := "java/lang/Comparable"
def TJxb160c : u_T := fun k => match k with
  | _ => ("", "", "", false)
def tyJxb160c : Nat → FieldType := fun k => match k with
  | _ => .int
abbrev wsJxb160c0 : List Cond := u_ws RJxb160c TJxb160c 0
theorem nmJxb160c : ∀ a, a < 0 → ∀ b, b < 0 → a ≠ b → (TJxb160c a).2.1 ≠ (TJxb160c b).2.1 := by decide +kernel
theorem tyJxb160c_ok : ∀ k, k < 0 → parseFieldDescriptor (TJxb160c k).2.2.1 = some (tyJxb160c k) := by decide +kernel
def RJ9 : String := "java/lang/Math"
def TJ9 : u_T := fun k => match k with
  | _ => ("", "", "", false)
def tyJ9 : Nat → FieldType := fun k => match k with
  | _ => .int
abbrev wsJ90 : List Cond := u_ws RJ9 TJ9 0
theorem nmJ9 : ∀ a, a < 0 → ∀ b, b < 0 → a ≠ b → (TJ9 a).2.1 ≠ (TJ9 b).2.1 := by decide +kernel
theorem tyJ9_ok : ∀ k, k < 0 → parseFieldDescriptor (TJ9 k).2.2.1 = some (tyJ9 k) := by decide +kernel
abbrev cJ9_floorMod_7cf53 : ByteArray := prog_19_method_50_code
def yJ9_floorMod_7cf53 : MethodName := ⟨RJ9, "floorMod", "(II)I"⟩
abbrev cJ9_max_7cf53 : ByteArray := prog_19_method_65_code
def yJ9_max_7cf53 : MethodName := ⟨RJ9, "max", "(II)I"⟩
abbrev cJ9_min_7cf53 : ByteArray := prog_19_method_69_code
def yJ9_min_7cf53 : MethodName := ⟨RJ9, "min", "(II)I"⟩
def RJ0 : String := "java/lang/String"
def TJ0 : u_T := fun k => match k with
  | _ => ("", "", "", false)
def tyJ0 : Nat → FieldType := fun k => match k with
  | _ => .int
abbrev wsJ00 : List Cond := u_ws RJ0 TJ0 0
theorem nmJ0 : ∀ a, a < 0 → ∀ b, b < 0 → a ≠ b → (TJ0 a).2.1 ≠ (TJ0 b).2.1 := by decide +kernel
theorem tyJ0_ok : ∀ k, k < 0 → parseFieldDescriptor (TJ0 k).2.2.1 = some (tyJ0 k) := by decide +kernel
abbrev cJ0_length_8abf5 : ByteArray := prog_21_method_54_code
def yJ0_length_8abf5 : MethodName := ⟨RJ0, "length", "()I"⟩
abbrev cJ0_isEmpty_aae02 : ByteArray := prog_21_method_55_code
def yJ0_isEmpty_aae02 : MethodName := ⟨RJ0, "isEmpty", "()Z"⟩
abbrev cJ0_charAt_5068e : ByteArray := prog_21_method_56_code
def yJ0_charAt_5068e : MethodName := ⟨RJ0, "charAt", "(I)C"⟩
abbrev cJ0_coder_7d493 : ByteArray := prog_21_method_152_code
def yJ0_coder_7d493 : MethodName := ⟨RJ0, "coder", "()B"⟩
abbrev cJ0_isLatin1_aae02 : ByteArray := prog_21_method_154_code
def yJ0_isLatin1_aae02 : MethodName := ⟨RJ0, "isLatin1", "()Z"⟩
abbrev cJ0_checkIndex_df160 : ByteArray := prog_21_method_155_code
def yJ0_checkIndex_df160 : MethodName := ⟨RJ0, "checkIndex", "(II)V"⟩
def RJ1 : String := "java/lang/StringLatin1"
def TJ1 : u_T := fun k => match k with
  | _ => ("", "", "", false)
def tyJ1 : Nat → FieldType := fun k => match k with
  | _ => .int
abbrev wsJ10 : List Cond := u_ws RJ1 TJ1 0
theorem nmJ1 : ∀ a, a < 0 → ∀ b, b < 0 → a ≠ b → (TJ1 a).2.1 ≠ (TJ1 b).2.1 := by decide +kernel
theorem tyJ1_ok : ∀ k, k < 0 → parseFieldDescriptor (TJ1 k).2.2.1 = some (tyJ1 k) := by decide +kernel
abbrev cJ1_charAt_3b067 : ByteArray := prog_22_method_2_code
def yJ1_charAt_3b067 : MethodName := ⟨RJ1, "charAt", "([BI)C"⟩
def RJ2 : String := "java/lang/StringUTF16"
def TJ2 : u_T := fun k => match k with
  | _ => ("", "", "", false)
def tyJ2 : Nat → FieldType := fun k => match k with
  | _ => .int
abbrev wsJ20 : List Cond := u_ws RJ2 TJ2 0
theorem nmJ2 : ∀ a, a < 0 → ∀ b, b < 0 → a ≠ b → (TJ2 a).2.1 ≠ (TJ2 b).2.1 := by decide +kernel
theorem tyJ2_ok : ∀ k, k < 0 → parseFieldDescriptor (TJ2 k).2.2.1 = some (tyJ2 k) := by decide +kernel
abbrev cJ2_getChar_3b067 : ByteArray := prog_23_method_5_code
def yJ2_getChar_3b067 : MethodName := ⟨RJ2, "getChar", "([BI)C"⟩
abbrev cJ2_length_9d52b : ByteArray := prog_23_method_6_code
def yJ2_length_9d52b : MethodName := ⟨RJ2, "length", "([B)I"⟩
abbrev cJ2_charAt_3b067 : ByteArray := prog_23_method_83_code
def yJ2_charAt_3b067 : MethodName := ⟨RJ2, "charAt", "([BI)C"⟩
abbrev cJ2_checkIndex_2214a : ByteArray := prog_23_method_91_code
def yJ2_checkIndex_2214a : MethodName := ⟨RJ2, "checkIndex", "(I[B)V"⟩
def RJ10 : String := "java/lang/System"
def TJ10 : u_T := fun k => match k with
  | _ => ("", "", "", false)
def tyJ10 : Nat → FieldType := fun k => match k with
  | _ => .int
abbrev wsJ100 : List Cond := u_ws RJ10 TJ10 0
theorem nmJ10 : ∀ a, a < 0 → ∀ b, b < 0 → a ≠ b → (TJ10 a).2.1 ≠ (TJ10 b).2.1 := by decide +kernel
theorem tyJ10_ok : ∀ k, k < 0 → parseFieldDescriptor (TJ10 k).2.2.1 = some (tyJ10 k) := by decide +kernel
def RJxfd54e : String := "java/lang/constant/Constable"
def TJxfd54e : u_T := fun k => match k with
  | _ => ("", "", "", false)
def tyJxfd54e : Nat → FieldType := fun k => match k with
  | _ => .int
abbrev wsJxfd54e0 : List Cond := u_ws RJxfd54e TJxfd54e 0
theorem nmJxfd54e : ∀ a, a < 0 → ∀ b, b < 0 → a ≠ b → (TJxfd54e a).2.1 ≠ (TJxfd54e b).2.1 := by decide +kernel
theorem tyJxfd54e_ok : ∀ k, k < 0 → parseFieldDescriptor (TJxfd54e k).2.2.1 = some (tyJxfd54e k) := by decide +kernel
def RJx3cf43 : String := "java/lang/constant/ConstantDesc"
def TJx3cf43 : u_T := fun k => match k with
  | _ => ("", "", "", false)
def tyJx3cf43 : Nat → FieldType := fun k => match k with
  | _ => .int
abbrev wsJx3cf430 : List Cond := u_ws RJx3cf43 TJx3cf43 0
theorem nmJx3cf43 : ∀ a, a < 0 → ∀ b, b < 0 → a ≠ b → (TJx3cf43 a).2.1 ≠ (TJx3cf43 b).2.1 := by decide +kernel
theorem tyJx3cf43_ok : ∀ k, k < 0 → parseFieldDescriptor (TJx3cf43 k).2.2.1 = some (tyJx3cf43 k) := by decide +kernel
def RJ3 : String := "jdk/internal/util/Preconditions"
def TJ3 : u_T := fun k => match k with
  | _ => ("", "", "", false)
def tyJ3 : Nat → FieldType := fun k => match k with
  | _ => .int
abbrev wsJ30 : List Cond := u_ws RJ3 TJ3 0
theorem nmJ3 : ∀ a, a < 0 → ∀ b, b < 0 → a ≠ b → (TJ3 a).2.1 ≠ (TJ3 b).2.1 := by decide +kernel
theorem tyJ3_ok : ∀ k, k < 0 → parseFieldDescriptor (TJ3 k).2.2.1 = some (tyJ3 k) := by decide +kernel
abbrev cJ3_checkIndex_8e157 : ByteArray := prog_30_method_11_code
def yJ3_checkIndex_8e157 : MethodName := ⟨RJ3, "checkIndex", "(IILjava/util/function/BiFunction;)I"⟩
def RL : String := "SugarTowersLaw"
abbrev cL_at : ByteArray := method_2_code
def yL_at : MethodName := ⟨RL, "at", "([II)I"⟩
abbrev cL_put : ByteArray := method_3_code
def yL_put : MethodName := ⟨RL, "put", "(LSugarTowers;Ljava/lang/String;)V"⟩
abbrev cL_build : ByteArray := method_4_code
def yL_build : MethodName := ⟨RL, "build", "([I)LSugarTowers;"⟩
abbrev cL_act : ByteArray := method_5_code
def yL_act : MethodName := ⟨RL, "act", "(LSugarTowers;IIIII)I"⟩
abbrev cL_state : ByteArray := method_6_code
def yL_state : MethodName := ⟨RL, "state", "(LSugarTowers;)I"⟩
abbrev cL_law : ByteArray := code
def yL_law : MethodName := ⟨RL, "law", "([I)Z"⟩
abbrev cL_reads : ByteArray := method_9_code
def yL_reads : MethodName := ⟨RL, "reads", "(LSugarTowers;)I"⟩
abbrev vwCl : List vw_C := [(RX0, TX0, 5), (RX1, TX1, 3), (RX2, TX2, 17), (RX3, TX3, 2), (RX4, TX4, 2), (RX5, TX5, 5), (RX6, TX6, 3), (RX7, TX7, 5), (RX8, TX8, 9)]
