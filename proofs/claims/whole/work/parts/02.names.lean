/-! names of the classes, their fields in the order of the slots (out of the printed names), the words of the tables that a contract carries -/
def zTB : List Cond := lw_tbl.filter goodWord
theorem zTB_of {w : Cond} (i : Nat) (h : tables_1[i]? = some w) (g : goodWord w = true) : w ∈ zTB := List.mem_filter.mpr ⟨List.mem_append_right _ (List.mem_of_getElem? h), g⟩
theorem zTB_ofS {w : Cond} (i : Nat) (h : (k2_sels lw_privs)[i]? = some w) (g : goodWord w = true) : w ∈ zTB := List.mem_filter.mpr ⟨List.mem_append_left _ (List.mem_of_getElem? h), g⟩
theorem zTB_in {w : Cond} (h : w ∈ zTB) : w ∈ lw_tbl := (List.mem_filter.mp h).1
theorem zTB_good {w : Cond} (h : w ∈ zTB) : goodWord w = true := (List.mem_filter.mp h).2
theorem zTB_list {ws : List Cond} (ps : List Nat) (hp : ws = ps.filterMap (fun i => tables_1[i]?)) (h : ws.all goodWord = true) : ∀ w ∈ ws, w ∈ zTB := by
  intro w hw
  have h1 := List.all_eq_true.mp h w hw
  rw [hp] at hw
  obtain ⟨i, -, hi⟩ := List.mem_filterMap.mp hw
  exact zTB_of i hi h1
def zIsNest : Cond → Bool
  | .fieldLinkNest .. => true
  | .methodLinkNest .. => true
  | _ => false
def zNW : List Cond := tables_1.filter zIsNest
theorem zNW_of {w : Cond} (i : Nat) (h : tables_1[i]? = some w) (g : zIsNest w = true) : w ∈ zNW := List.mem_filter.mpr ⟨List.mem_of_getElem? h, g⟩
theorem zNW_in {w : Cond} (h : w ∈ zNW) : w ∈ lw_tbl := List.mem_append_right _ (List.mem_filter.mp h).1
theorem zNW_nest {w : Cond} (h : w ∈ zNW) : zIsNest w = true := (List.mem_filter.mp h).2

def RX0 : String := "CamPieces$Range"
def TX0 : u_T := fun k => match k with
  | 0 => ("CamPieces$Range", "least", "J", false)
  | 1 => ("CamPieces$Range", "most", "J", false)
  | _ => ("CamPieces$Range", "isEmpty", "Z", false)
def tyX0 : Nat → FieldType := fun k => match k with
  | 0 => .long
  | 1 => .long
  | _ => .boolean
theorem nmX0 : ∀ a, a < 3 → ∀ b, b < 3 → a ≠ b → (TX0 a).2.1 ≠ (TX0 b).2.1 := by decide +kernel
theorem tyX0_ok : ∀ k, k < 3 → parseFieldDescriptor (TX0 k).2.2.1 = some (tyX0 k) := by decide +kernel
theorem inX0 : ∀ w ∈ u_ws RX0 TX0 3, w ∈ zTB := zTB_list [156, 158, 160] (by decide +kernel) (by decide +kernel)
def RX1 : String := "CamPieces$Ratio"
def TX1 : u_T := fun k => match k with
  | 0 => ("CamPieces$Ratio", "above", "J", false)
  | _ => ("CamPieces$Ratio", "below", "J", false)
def tyX1 : Nat → FieldType := fun k => match k with
  | 0 => .long
  | _ => .long
theorem nmX1 : ∀ a, a < 2 → ∀ b, b < 2 → a ≠ b → (TX1 a).2.1 ≠ (TX1 b).2.1 := by decide +kernel
theorem tyX1_ok : ∀ k, k < 2 → parseFieldDescriptor (TX1 k).2.2.1 = some (tyX1 k) := by decide +kernel
theorem inX1 : ∀ w ∈ u_ws RX1 TX1 2, w ∈ zTB := zTB_list [173, 175] (by decide +kernel) (by decide +kernel)
def RX2 : String := "CamPieces$Reader"
def TX2 : u_T := fun k => match k with
  | 0 => ("CamPieces$Reader", "bytes", "[I", true)
  | 1 => ("CamPieces$Reader", "size", "I", false)
  | 2 => ("CamPieces$Reader", "read", "LCamPieces$Train;", true)
  | 3 => ("CamPieces$Reader", "place", "I", false)
  | 4 => ("CamPieces$Reader", "pieces", "I", false)
  | 5 => ("CamPieces$Reader", "fault", "I", false)
  | 6 => ("CamPieces$Reader", "unfit", "I", false)
  | _ => ("CamPieces$Reader", "cause", "I", false)
def tyX2 : Nat → FieldType := fun k => match k with
  | 0 => .array .int
  | 1 => .int
  | 2 => .object "CamPieces$Train"
  | 3 => .int
  | 4 => .int
  | 5 => .int
  | 6 => .int
  | _ => .int
theorem nmX2 : ∀ a, a < 8 → ∀ b, b < 8 → a ≠ b → (TX2 a).2.1 ≠ (TX2 b).2.1 := by decide +kernel
theorem tyX2_ok : ∀ k, k < 8 → parseFieldDescriptor (TX2 k).2.2.1 = some (tyX2 k) := by decide +kernel
theorem inX2 : ∀ w ∈ u_ws RX2 TX2 8, w ∈ zTB := zTB_list [65, 67, 69, 71, 73, 75, 77, 79] (by decide +kernel) (by decide +kernel)
def RX3 : String := "CamPieces$Rows"
def TX3 : u_T := fun k => match k with
  | 0 => ("CamPieces$Rows", "places", "[J", true)
  | _ => ("CamPieces$Rows", "sizes", "[I", true)
def tyX3 : Nat → FieldType := fun k => match k with
  | 0 => .array .long
  | _ => .array .int
theorem nmX3 : ∀ a, a < 2 → ∀ b, b < 2 → a ≠ b → (TX3 a).2.1 ≠ (TX3 b).2.1 := by decide +kernel
theorem tyX3_ok : ∀ k, k < 2 → parseFieldDescriptor (TX3 k).2.2.1 = some (tyX3 k) := by decide +kernel
theorem inX3 : ∀ w ∈ u_ws RX3 TX3 2, w ∈ zTB := zTB_list [90, 92] (by decide +kernel) (by decide +kernel)
def RX4 : String := "CamPieces$Spot"
def TX4 : u_T := fun k => match k with
  | 0 => ("CamPieces$Spot", "below", "J", false)
  | 1 => ("CamPieces$Spot", "gain", "J", false)
  | 2 => ("CamPieces$Spot", "slope", "J", false)
  | 3 => ("CamPieces$Spot", "bend", "J", false)
  | _ => ("CamPieces$Spot", "base", "J", false)
def tyX4 : Nat → FieldType := fun k => match k with
  | 0 => .long
  | 1 => .long
  | 2 => .long
  | 3 => .long
  | _ => .long
theorem nmX4 : ∀ a, a < 5 → ∀ b, b < 5 → a ≠ b → (TX4 a).2.1 ≠ (TX4 b).2.1 := by decide +kernel
theorem tyX4_ok : ∀ k, k < 5 → parseFieldDescriptor (TX4 k).2.2.1 = some (tyX4 k) := by decide +kernel
theorem inX4 : ∀ w ∈ u_ws RX4 TX4 5, w ∈ zTB := zTB_list [110, 112, 114, 116, 118] (by decide +kernel) (by decide +kernel)
def RX5 : String := "CamPieces$Train"
def TX5 : u_T := fun k => match k with
  | 0 => ("CamPieces$Train", "kinds", "[I", true)
  | 1 => ("CamPieces$Train", "longs", "[I", true)
  | 2 => ("CamPieces$Train", "rises", "[I", true)
  | _ => ("CamPieces$Train", "size", "I", false)
def tyX5 : Nat → FieldType := fun k => match k with
  | 0 => .array .int
  | 1 => .array .int
  | 2 => .array .int
  | _ => .int
theorem nmX5 : ∀ a, a < 4 → ∀ b, b < 4 → a ≠ b → (TX5 a).2.1 ≠ (TX5 b).2.1 := by decide +kernel
theorem tyX5_ok : ∀ k, k < 4 → parseFieldDescriptor (TX5 k).2.2.1 = some (tyX5 k) := by decide +kernel
theorem inX5 : ∀ w ∈ u_ws RX5 TX5 4, w ∈ zTB := zTB_list [35, 37, 39, 41] (by decide +kernel) (by decide +kernel)
def RX6 : String := "CamPieces$Walk"
def TX6 : u_T := fun k => match k with
  | 0 => ("CamPieces$Walk", "angle", "I", false)
  | 1 => ("CamPieces$Walk", "index", "I", false)
  | 2 => ("CamPieces$Walk", "begin", "I", false)
  | 3 => ("CamPieces$Walk", "base", "I", false)
  | 4 => ("CamPieces$Walk", "u", "I", false)
  | _ => ("CamPieces$Walk", "isClosed", "Z", false)
def tyX6 : Nat → FieldType := fun k => match k with
  | 0 => .int
  | 1 => .int
  | 2 => .int
  | 3 => .int
  | 4 => .int
  | _ => .boolean
theorem nmX6 : ∀ a, a < 6 → ∀ b, b < 6 → a ≠ b → (TX6 a).2.1 ≠ (TX6 b).2.1 := by decide +kernel
theorem tyX6_ok : ∀ k, k < 6 → parseFieldDescriptor (TX6 k).2.2.1 = some (tyX6 k) := by decide +kernel
theorem inX6 : ∀ w ∈ u_ws RX6 TX6 6, w ∈ zTB := zTB_list [134, 136, 138, 140, 142, 144] (by decide +kernel) (by decide +kernel)
def RX7 : String := "CamPieces"
def TX7 : u_T := fun k => match k with
  | 0 => ("CamPieces", "train", "LCamPieces$Train;", true)
  | 1 => ("CamPieces", "settings", "[I", true)
  | 2 => ("CamPieces", "pictured", "LCamPieces$Train;", true)
  | 3 => ("CamPieces", "picturedSettings", "[I", true)
  | 4 => ("CamPieces", "isPictured", "Z", false)
  | 5 => ("CamPieces", "reader", "LCamPieces$Reader;", true)
  | 6 => ("CamPieces", "latestCause", "I", false)
  | 7 => ("CamPieces", "rows", "LCamPieces$Rows;", true)
  | 8 => ("CamPieces", "spot", "LCamPieces$Spot;", true)
  | 9 => ("CamPieces", "walk", "LCamPieces$Walk;", true)
  | 10 => ("CamPieces", "range", "LCamPieces$Range;", true)
  | 11 => ("CamPieces", "ratio", "LCamPieces$Ratio;", true)
  | 12 => ("CamPieces", "ratioAhead", "LCamPieces$Ratio;", true)
  | 13 => ("CamPieces", "samples", "[J", true)
  | _ => ("CamPieces", "corners", "[I", true)
def tyX7 : Nat → FieldType := fun k => match k with
  | 0 => .object "CamPieces$Train"
  | 1 => .array .int
  | 2 => .object "CamPieces$Train"
  | 3 => .array .int
  | 4 => .boolean
  | 5 => .object "CamPieces$Reader"
  | 6 => .int
  | 7 => .object "CamPieces$Rows"
  | 8 => .object "CamPieces$Spot"
  | 9 => .object "CamPieces$Walk"
  | 10 => .object "CamPieces$Range"
  | 11 => .object "CamPieces$Ratio"
  | 12 => .object "CamPieces$Ratio"
  | 13 => .array .long
  | _ => .array .int
theorem nmX7 : ∀ a, a < 15 → ∀ b, b < 15 → a ≠ b → (TX7 a).2.1 ≠ (TX7 b).2.1 := by decide +kernel
theorem tyX7_ok : ∀ k, k < 15 → parseFieldDescriptor (TX7 k).2.2.1 = some (tyX7 k) := by decide +kernel
theorem inX7 : ∀ w ∈ u_ws RX7 TX7 15, w ∈ zTB := zTB_list [204, 206, 208, 210, 212, 214, 216, 218, 220, 222, 224, 226, 228, 230, 232] (by decide +kernel) (by decide +kernel)
def RX8 : String := "CamPiecesModel"
def TX8 : u_T := fun k => match k with
  | 0 => ("CamPiecesModel", "pieces", "I", false)
  | 1 => ("CamPiecesModel", "kinds", "[I", true)
  | 2 => ("CamPiecesModel", "lengths", "[I", true)
  | 3 => ("CamPiecesModel", "rises", "[I", true)
  | 4 => ("CamPiecesModel", "numbers", "[I", true)
  | 5 => ("CamPiecesModel", "leasts", "[I", true)
  | 6 => ("CamPiecesModel", "mosts", "[I", true)
  | 7 => ("CamPiecesModel", "here", "I", false)
  | 8 => ("CamPiecesModel", "far", "I", false)
  | 9 => ("CamPiecesModel", "lift", "J", false)
  | 10 => ("CamPiecesModel", "slope", "J", false)
  | 11 => ("CamPiecesModel", "bend", "J", false)
  | 12 => ("CamPiecesModel", "over", "J", false)
  | 13 => ("CamPiecesModel", "above", "J", false)
  | 14 => ("CamPiecesModel", "below", "J", false)
  | 15 => ("CamPiecesModel", "kindsWere", "[I", true)
  | 16 => ("CamPiecesModel", "samples", "[J", true)
  | 17 => ("CamPiecesModel", "tape", "[I", true)
  | 18 => ("CamPiecesModel", "taped", "I", false)
  | 19 => ("CamPiecesModel", "at", "I", false)
  | 20 => ("CamPiecesModel", "fault", "I", false)
  | 21 => ("CamPiecesModel", "why", "I", false)
  | 22 => ("CamPiecesModel", "cause", "I", false)
  | 23 => ("CamPiecesModel", "camPieces", "I", false)
  | 24 => ("CamPiecesModel", "camKinds", "[I", true)
  | 25 => ("CamPiecesModel", "camLengths", "[I", true)
  | 26 => ("CamPiecesModel", "camRises", "[I", true)
  | 27 => ("CamPiecesModel", "words", "[I", true)
  | 28 => ("CamPiecesModel", "sizes", "[I", true)
  | 29 => ("CamPiecesModel", "items", "[J", true)
  | 30 => ("CamPiecesModel", "imaged", "I", false)
  | 31 => ("CamPiecesModel", "imageKinds", "[I", true)
  | 32 => ("CamPiecesModel", "imageLengths", "[I", true)
  | 33 => ("CamPiecesModel", "imageRises", "[I", true)
  | _ => ("CamPiecesModel", "imageNumbers", "[I", true)
def tyX8 : Nat → FieldType := fun k => match k with
  | 0 => .int
  | 1 => .array .int
  | 2 => .array .int
  | 3 => .array .int
  | 4 => .array .int
  | 5 => .array .int
  | 6 => .array .int
  | 7 => .int
  | 8 => .int
  | 9 => .long
  | 10 => .long
  | 11 => .long
  | 12 => .long
  | 13 => .long
  | 14 => .long
  | 15 => .array .int
  | 16 => .array .long
  | 17 => .array .int
  | 18 => .int
  | 19 => .int
  | 20 => .int
  | 21 => .int
  | 22 => .int
  | 23 => .int
  | 24 => .array .int
  | 25 => .array .int
  | 26 => .array .int
  | 27 => .array .int
  | 28 => .array .int
  | 29 => .array .long
  | 30 => .int
  | 31 => .array .int
  | 32 => .array .int
  | 33 => .array .int
  | _ => .array .int
theorem nmX8 : ∀ a, a < 35 → ∀ b, b < 35 → a ≠ b → (TX8 a).2.1 ≠ (TX8 b).2.1 := by decide +kernel
theorem tyX8_ok : ∀ k, k < 35 → parseFieldDescriptor (TX8 k).2.2.1 = some (tyX8 k) := by decide +kernel
theorem inX8 : ∀ w ∈ u_ws RX8 TX8 35, w ∈ zTB := zTB_list [911, 913, 915, 917, 919, 921, 923, 925, 927, 929, 931, 933, 935, 937, 939, 941, 943, 945, 947, 949, 951, 953, 955, 957, 959, 961, 963, 965, 967, 969, 971, 973, 975, 977, 979] (by decide +kernel) (by decide +kernel)
abbrev zCls : List vw_C := [(RX0, TX0, 3), (RX1, TX1, 2), (RX2, TX2, 8), (RX3, TX3, 2), (RX4, TX4, 5), (RX5, TX5, 4), (RX6, TX6, 6), (RX7, TX7, 15), (RX8, TX8, 35)]
