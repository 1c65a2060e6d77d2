/-! the classes of the system: names, fields (declaring class, name, descriptor, final), their types -/
def am_T0 : u_T := fun k => match k with
  | 0 => ("CrewOffice$Clock", "first", "I", false)
  | 1 => ("CrewOffice$Clock", "change", "I", false)
  | _ => ("CrewOffice$Clock", "second", "I", false)
def am_ty0 : Nat → FieldType := fun k => match k with
  | 0 => .int
  | 1 => .int
  | _ => .int
def am_T1 : u_T := fun k => match k with
  | 0 => ("CrewOffice$Leg", "there", "Z", false)
  | 1 => ("CrewOffice$Leg", "from", "I", false)
  | 2 => ("CrewOffice$Leg", "to", "I", false)
  | 3 => ("CrewOffice$Leg", "departs", "I", false)
  | 4 => ("CrewOffice$Leg", "arrives", "I", false)
  | _ => ("CrewOffice$Leg", "type", "I", false)
def am_ty1 : Nat → FieldType := fun k => match k with
  | 0 => .boolean
  | 1 => .int
  | 2 => .int
  | 3 => .int
  | 4 => .int
  | _ => .int
def am_T2 : u_T := fun k => match k with
  | 0 => ("CrewOffice$Member", "there", "Z", false)
  | 1 => ("CrewOffice$Member", "base", "I", false)
  | 2 => ("CrewOffice$Member", "rank", "I", false)
  | 3 => ("CrewOffice$Member", "types", "I", false)
  | 4 => ("CrewOffice$Member", "flown", "I", false)
  | 5 => ("CrewOffice$Member", "offFrom", "I", false)
  | 6 => ("CrewOffice$Member", "offTo", "I", false)
  | 7 => ("CrewOffice$Member", "bids", "I", false)
  | 8 => ("CrewOffice$Member", "kinds", "[I", true)
  | 9 => ("CrewOffice$Member", "arguments", "[I", true)
  | _ => ("CrewOffice$Member", "weights", "[I", true)
def am_ty2 : Nat → FieldType := fun k => match k with
  | 0 => .boolean
  | 1 => .int
  | 2 => .int
  | 3 => .int
  | 4 => .int
  | 5 => .int
  | 6 => .int
  | 7 => .int
  | 8 => .array (.int)
  | 9 => .array (.int)
  | _ => .array (.int)
def am_T3 : u_T := fun k => match k with
  | 0 => ("CrewOffice$Plan", "clocks", "[LCrewOffice$Clock;", true)
  | 1 => ("CrewOffice$Plan", "legs", "[LCrewOffice$Leg;", true)
  | 2 => ("CrewOffice$Plan", "members", "[LCrewOffice$Member;", true)
  | 3 => ("CrewOffice$Plan", "values", "[I", true)
  | _ => ("CrewOffice$Plan", "limits", "[[I", true)
def am_ty3 : Nat → FieldType := fun k => match k with
  | 0 => .array (.object "CrewOffice$Clock")
  | 1 => .array (.object "CrewOffice$Leg")
  | 2 => .array (.object "CrewOffice$Member")
  | 3 => .array (.int)
  | _ => .array (.array (.int))
def am_T4 : u_T := fun k => match k with
  | 0 => ("CrewOffice$Work", "row", "[I", true)
  | 1 => ("CrewOffice$Work", "size", "I", false)
  | 2 => ("CrewOffice$Work", "base", "I", false)
  | 3 => ("CrewOffice$Work", "begin", "I", false)
  | 4 => ("CrewOffice$Work", "end", "I", false)
  | 5 => ("CrewOffice$Work", "air", "I", false)
  | 6 => ("CrewOffice$Work", "types", "I", false)
  | _ => ("CrewOffice$Work", "flights", "I", false)
def am_ty4 : Nat → FieldType := fun k => match k with
  | 0 => .array (.int)
  | 1 => .int
  | 2 => .int
  | 3 => .int
  | 4 => .int
  | 5 => .int
  | 6 => .int
  | _ => .int
def am_T5 : u_T := fun k => match k with
  | 0 => ("CrewOffice$Trip", "plan", "LCrewOffice$Plan;", true)
  | 1 => ("CrewOffice$Trip", "whole", "LCrewOffice$Work;", true)
  | 2 => ("CrewOffice$Trip", "duties", "I", false)
  | 3 => ("CrewOffice$Trip", "firsts", "[I", true)
  | 4 => ("CrewOffice$Trip", "begins", "[I", true)
  | _ => ("CrewOffice$Trip", "ends", "[I", true)
def am_ty5 : Nat → FieldType := fun k => match k with
  | 0 => .object "CrewOffice$Plan"
  | 1 => .object "CrewOffice$Work"
  | 2 => .int
  | 3 => .array (.int)
  | 4 => .array (.int)
  | _ => .array (.int)
def am_T6 : u_T := fun k => match k with
  | 0 => ("CrewOffice$Listing", "plan", "LCrewOffice$Plan;", true)
  | 1 => ("CrewOffice$Listing", "draft", "LCrewOffice$Trip;", true)
  | 2 => ("CrewOffice$Listing", "works", "[LCrewOffice$Work;", true)
  | 3 => ("CrewOffice$Listing", "count", "I", false)
  | _ => ("CrewOffice$Listing", "tooMany", "Z", false)
def am_ty6 : Nat → FieldType := fun k => match k with
  | 0 => .object "CrewOffice$Plan"
  | 1 => .object "CrewOffice$Trip"
  | 2 => .array (.object "CrewOffice$Work")
  | 3 => .int
  | _ => .boolean
def am_T7 : u_T := fun k => match k with
  | 0 => ("CrewOffice$Choice", "plan", "LCrewOffice$Plan;", true)
  | 1 => ("CrewOffice$Choice", "listing", "LCrewOffice$Listing;", true)
  | 2 => ("CrewOffice$Choice", "taken", "[I", true)
  | 3 => ("CrewOffice$Choice", "count", "I", false)
  | 4 => ("CrewOffice$Choice", "prices", "[I", true)
  | _ => ("CrewOffice$Choice", "pickings", "[J", true)
def am_ty7 : Nat → FieldType := fun k => match k with
  | 0 => .object "CrewOffice$Plan"
  | 1 => .object "CrewOffice$Listing"
  | 2 => .array (.int)
  | 3 => .int
  | 4 => .array (.int)
  | _ => .array (.long)
def am_T8 : u_T := fun k => match k with
  | 0 => ("CrewOffice$Sharing", "plan", "LCrewOffice$Plan;", true)
  | 1 => ("CrewOffice$Sharing", "listing", "LCrewOffice$Listing;", true)
  | 2 => ("CrewOffice$Sharing", "choice", "LCrewOffice$Choice;", true)
  | 3 => ("CrewOffice$Sharing", "shares", "[I", true)
  | 4 => ("CrewOffice$Sharing", "order", "[I", true)
  | 5 => ("CrewOffice$Sharing", "served", "I", false)
  | 6 => ("CrewOffice$Sharing", "allowed", "[I", true)
  | 7 => ("CrewOffice$Sharing", "held", "[I", true)
  | _ => ("CrewOffice$Sharing", "rivals", "[I", true)
def am_ty8 : Nat → FieldType := fun k => match k with
  | 0 => .object "CrewOffice$Plan"
  | 1 => .object "CrewOffice$Listing"
  | 2 => .object "CrewOffice$Choice"
  | 3 => .array (.int)
  | 4 => .array (.int)
  | 5 => .int
  | 6 => .array (.int)
  | 7 => .array (.int)
  | _ => .array (.int)
def am_T9 : u_T := fun k => match k with
  | 0 => ("CrewOffice", "plan", "LCrewOffice$Plan;", true)
  | 1 => ("CrewOffice", "trip", "LCrewOffice$Trip;", true)
  | 2 => ("CrewOffice", "listing", "LCrewOffice$Listing;", true)
  | 3 => ("CrewOffice", "choice", "LCrewOffice$Choice;", true)
  | _ => ("CrewOffice", "sharing", "LCrewOffice$Sharing;", true)
def am_ty9 : Nat → FieldType := fun k => match k with
  | 0 => .object "CrewOffice$Plan"
  | 1 => .object "CrewOffice$Trip"
  | 2 => .object "CrewOffice$Listing"
  | 3 => .object "CrewOffice$Choice"
  | _ => .object "CrewOffice$Sharing"
def am_T10 : u_T := fun k => match k with
  | 0 => ("CrewOfficeModel", "thrown", "I", false)
  | 1 => ("CrewOfficeModel", "early", "[I", true)
  | 2 => ("CrewOfficeModel", "change", "[I", true)
  | 3 => ("CrewOfficeModel", "late", "[I", true)
  | 4 => ("CrewOfficeModel", "rest", "[I", true)
  | 5 => ("CrewOfficeModel", "known", "[Z", true)
  | 6 => ("CrewOfficeModel", "there", "[Z", true)
  | 7 => ("CrewOfficeModel", "from", "[I", true)
  | 8 => ("CrewOfficeModel", "to", "[I", true)
  | 9 => ("CrewOfficeModel", "departs", "[I", true)
  | 10 => ("CrewOfficeModel", "arrives", "[I", true)
  | 11 => ("CrewOfficeModel", "type", "[I", true)
  | 12 => ("CrewOfficeModel", "hired", "[Z", true)
  | 13 => ("CrewOfficeModel", "base", "[I", true)
  | 14 => ("CrewOfficeModel", "rank", "[I", true)
  | 15 => ("CrewOfficeModel", "types", "[I", true)
  | 16 => ("CrewOfficeModel", "flown", "[I", true)
  | 17 => ("CrewOfficeModel", "offFrom", "[I", true)
  | 18 => ("CrewOfficeModel", "offTo", "[I", true)
  | 19 => ("CrewOfficeModel", "bids", "[I", true)
  | 20 => ("CrewOfficeModel", "bidKind", "[I", true)
  | 21 => ("CrewOfficeModel", "bidArg", "[I", true)
  | 22 => ("CrewOfficeModel", "bidWeight", "[I", true)
  | 23 => ("CrewOfficeModel", "value", "[I", true)
  | 24 => ("CrewOfficeModel", "limits", "[I", true)
  | 25 => ("CrewOfficeModel", "chained", "[I", true)
  | 26 => ("CrewOfficeModel", "chain", "I", false)
  | 27 => ("CrewOfficeModel", "row", "[I", true)
  | 28 => ("CrewOfficeModel", "n", "I", false)
  | 29 => ("CrewOfficeModel", "duties", "I", false)
  | 30 => ("CrewOfficeModel", "first", "[I", true)
  | 31 => ("CrewOfficeModel", "last", "[I", true)
  | 32 => ("CrewOfficeModel", "begin", "[I", true)
  | 33 => ("CrewOfficeModel", "end", "[I", true)
  | 34 => ("CrewOfficeModel", "listed", "I", false)
  | 35 => ("CrewOfficeModel", "flights", "[I", true)
  | 36 => ("CrewOfficeModel", "size", "[I", true)
  | 37 => ("CrewOfficeModel", "starts", "[I", true)
  | 38 => ("CrewOfficeModel", "ends", "[I", true)
  | 39 => ("CrewOfficeModel", "air", "[I", true)
  | 40 => ("CrewOfficeModel", "mask", "[I", true)
  | 41 => ("CrewOfficeModel", "covered", "Z", false)
  | 42 => ("CrewOfficeModel", "taken", "[Z", true)
  | 43 => ("CrewOfficeModel", "owners", "[I", true)
  | 44 => ("CrewOfficeModel", "cost", "[J", true)
  | 45 => ("CrewOfficeModel", "costNext", "[J", true)
  | 46 => ("CrewOfficeModel", "made", "[J", true)
  | 47 => ("CrewOfficeModel", "madeNext", "[J", true)
  | 48 => ("CrewOfficeModel", "item", "[I", true)
  | 49 => ("CrewOfficeModel", "items", "I", false)
  | 50 => ("CrewOfficeModel", "turn", "[I", true)
  | 51 => ("CrewOfficeModel", "turns", "I", false)
  | 52 => ("CrewOfficeModel", "may", "[Z", true)
  | _ => ("CrewOfficeModel", "can", "[Z", true)
def am_ty10 : Nat → FieldType := fun k => match k with
  | 0 => .int
  | 1 => .array (.int)
  | 2 => .array (.int)
  | 3 => .array (.int)
  | 4 => .array (.int)
  | 5 => .array (.boolean)
  | 6 => .array (.boolean)
  | 7 => .array (.int)
  | 8 => .array (.int)
  | 9 => .array (.int)
  | 10 => .array (.int)
  | 11 => .array (.int)
  | 12 => .array (.boolean)
  | 13 => .array (.int)
  | 14 => .array (.int)
  | 15 => .array (.int)
  | 16 => .array (.int)
  | 17 => .array (.int)
  | 18 => .array (.int)
  | 19 => .array (.int)
  | 20 => .array (.int)
  | 21 => .array (.int)
  | 22 => .array (.int)
  | 23 => .array (.int)
  | 24 => .array (.int)
  | 25 => .array (.int)
  | 26 => .int
  | 27 => .array (.int)
  | 28 => .int
  | 29 => .int
  | 30 => .array (.int)
  | 31 => .array (.int)
  | 32 => .array (.int)
  | 33 => .array (.int)
  | 34 => .int
  | 35 => .array (.int)
  | 36 => .array (.int)
  | 37 => .array (.int)
  | 38 => .array (.int)
  | 39 => .array (.int)
  | 40 => .array (.int)
  | 41 => .boolean
  | 42 => .array (.boolean)
  | 43 => .array (.int)
  | 44 => .array (.long)
  | 45 => .array (.long)
  | 46 => .array (.long)
  | 47 => .array (.long)
  | 48 => .array (.int)
  | 49 => .int
  | 50 => .array (.int)
  | 51 => .int
  | 52 => .array (.boolean)
  | _ => .array (.boolean)
def am_C : Nat → String := fun c => match c with
  | 0 => "CrewOffice$Clock"
  | 1 => "CrewOffice$Leg"
  | 2 => "CrewOffice$Member"
  | 3 => "CrewOffice$Plan"
  | 4 => "CrewOffice$Work"
  | 5 => "CrewOffice$Trip"
  | 6 => "CrewOffice$Listing"
  | 7 => "CrewOffice$Choice"
  | 8 => "CrewOffice$Sharing"
  | 9 => "CrewOffice"
  | _ => "CrewOfficeModel"
def am_T : Nat → u_T := fun c => match c with
  | 0 => am_T0
  | 1 => am_T1
  | 2 => am_T2
  | 3 => am_T3
  | 4 => am_T4
  | 5 => am_T5
  | 6 => am_T6
  | 7 => am_T7
  | 8 => am_T8
  | 9 => am_T9
  | _ => am_T10
def am_ty : Nat → Nat → FieldType := fun c => match c with
  | 0 => am_ty0
  | 1 => am_ty1
  | 2 => am_ty2
  | 3 => am_ty3
  | 4 => am_ty4
  | 5 => am_ty5
  | 6 => am_ty6
  | 7 => am_ty7
  | 8 => am_ty8
  | 9 => am_ty9
  | _ => am_ty10
def am_N : Nat → Nat := fun c => match c with
  | 0 => 3
  | 1 => 6
  | 2 => 11
  | 3 => 5
  | 4 => 8
  | 5 => 6
  | 6 => 5
  | 7 => 6
  | 8 => 9
  | 9 => 5
  | _ => 54
def am_cl : List vw_C := (List.range 11).map (fun c => (am_C c, am_T c, am_N c))
theorem am_cl_get {c : Nat} (h : c < 11) : am_cl[c]? = some (am_C c, am_T c, am_N c) := by simp [am_cl, h]
set_option maxRecDepth 20000 in
theorem am_in0 : ∀ w ∈ u_ws (am_C 0) (am_T 0) (am_N 0), w ∈ lw_tbl := by decide +kernel
theorem am_nm0 : ∀ a, a < am_N 0 → ∀ b, b < am_N 0 → a ≠ b → (am_T 0 a).2.1 ≠ (am_T 0 b).2.1 := by decide +kernel
theorem am_tk0 : ∀ k, k < am_N 0 → parseFieldDescriptor (am_T 0 k).2.2.1 = some (am_ty 0 k) := by decide +kernel
theorem am_ow0 : ∀ k, k < am_N 0 → (am_T 0 k).1 = am_C 0 := by decide +kernel
set_option maxRecDepth 20000 in
theorem am_in1 : ∀ w ∈ u_ws (am_C 1) (am_T 1) (am_N 1), w ∈ lw_tbl := by decide +kernel
theorem am_nm1 : ∀ a, a < am_N 1 → ∀ b, b < am_N 1 → a ≠ b → (am_T 1 a).2.1 ≠ (am_T 1 b).2.1 := by decide +kernel
theorem am_tk1 : ∀ k, k < am_N 1 → parseFieldDescriptor (am_T 1 k).2.2.1 = some (am_ty 1 k) := by decide +kernel
theorem am_ow1 : ∀ k, k < am_N 1 → (am_T 1 k).1 = am_C 1 := by decide +kernel
set_option maxRecDepth 20000 in
theorem am_in2 : ∀ w ∈ u_ws (am_C 2) (am_T 2) (am_N 2), w ∈ lw_tbl := by decide +kernel
theorem am_nm2 : ∀ a, a < am_N 2 → ∀ b, b < am_N 2 → a ≠ b → (am_T 2 a).2.1 ≠ (am_T 2 b).2.1 := by decide +kernel
theorem am_tk2 : ∀ k, k < am_N 2 → parseFieldDescriptor (am_T 2 k).2.2.1 = some (am_ty 2 k) := by decide +kernel
theorem am_ow2 : ∀ k, k < am_N 2 → (am_T 2 k).1 = am_C 2 := by decide +kernel
set_option maxRecDepth 20000 in
theorem am_in3 : ∀ w ∈ u_ws (am_C 3) (am_T 3) (am_N 3), w ∈ lw_tbl := by decide +kernel
theorem am_nm3 : ∀ a, a < am_N 3 → ∀ b, b < am_N 3 → a ≠ b → (am_T 3 a).2.1 ≠ (am_T 3 b).2.1 := by decide +kernel
theorem am_tk3 : ∀ k, k < am_N 3 → parseFieldDescriptor (am_T 3 k).2.2.1 = some (am_ty 3 k) := by decide +kernel
theorem am_ow3 : ∀ k, k < am_N 3 → (am_T 3 k).1 = am_C 3 := by decide +kernel
set_option maxRecDepth 20000 in
theorem am_in4 : ∀ w ∈ u_ws (am_C 4) (am_T 4) (am_N 4), w ∈ lw_tbl := by decide +kernel
theorem am_nm4 : ∀ a, a < am_N 4 → ∀ b, b < am_N 4 → a ≠ b → (am_T 4 a).2.1 ≠ (am_T 4 b).2.1 := by decide +kernel
theorem am_tk4 : ∀ k, k < am_N 4 → parseFieldDescriptor (am_T 4 k).2.2.1 = some (am_ty 4 k) := by decide +kernel
theorem am_ow4 : ∀ k, k < am_N 4 → (am_T 4 k).1 = am_C 4 := by decide +kernel
set_option maxRecDepth 20000 in
theorem am_in5 : ∀ w ∈ u_ws (am_C 5) (am_T 5) (am_N 5), w ∈ lw_tbl := by decide +kernel
theorem am_nm5 : ∀ a, a < am_N 5 → ∀ b, b < am_N 5 → a ≠ b → (am_T 5 a).2.1 ≠ (am_T 5 b).2.1 := by decide +kernel
theorem am_tk5 : ∀ k, k < am_N 5 → parseFieldDescriptor (am_T 5 k).2.2.1 = some (am_ty 5 k) := by decide +kernel
theorem am_ow5 : ∀ k, k < am_N 5 → (am_T 5 k).1 = am_C 5 := by decide +kernel
set_option maxRecDepth 20000 in
theorem am_in6 : ∀ w ∈ u_ws (am_C 6) (am_T 6) (am_N 6), w ∈ lw_tbl := by decide +kernel
theorem am_nm6 : ∀ a, a < am_N 6 → ∀ b, b < am_N 6 → a ≠ b → (am_T 6 a).2.1 ≠ (am_T 6 b).2.1 := by decide +kernel
theorem am_tk6 : ∀ k, k < am_N 6 → parseFieldDescriptor (am_T 6 k).2.2.1 = some (am_ty 6 k) := by decide +kernel
theorem am_ow6 : ∀ k, k < am_N 6 → (am_T 6 k).1 = am_C 6 := by decide +kernel
set_option maxRecDepth 20000 in
theorem am_in7 : ∀ w ∈ u_ws (am_C 7) (am_T 7) (am_N 7), w ∈ lw_tbl := by decide +kernel
theorem am_nm7 : ∀ a, a < am_N 7 → ∀ b, b < am_N 7 → a ≠ b → (am_T 7 a).2.1 ≠ (am_T 7 b).2.1 := by decide +kernel
theorem am_tk7 : ∀ k, k < am_N 7 → parseFieldDescriptor (am_T 7 k).2.2.1 = some (am_ty 7 k) := by decide +kernel
theorem am_ow7 : ∀ k, k < am_N 7 → (am_T 7 k).1 = am_C 7 := by decide +kernel
set_option maxRecDepth 20000 in
theorem am_in8 : ∀ w ∈ u_ws (am_C 8) (am_T 8) (am_N 8), w ∈ lw_tbl := by decide +kernel
theorem am_nm8 : ∀ a, a < am_N 8 → ∀ b, b < am_N 8 → a ≠ b → (am_T 8 a).2.1 ≠ (am_T 8 b).2.1 := by decide +kernel
theorem am_tk8 : ∀ k, k < am_N 8 → parseFieldDescriptor (am_T 8 k).2.2.1 = some (am_ty 8 k) := by decide +kernel
theorem am_ow8 : ∀ k, k < am_N 8 → (am_T 8 k).1 = am_C 8 := by decide +kernel
set_option maxRecDepth 20000 in
theorem am_in9 : ∀ w ∈ u_ws (am_C 9) (am_T 9) (am_N 9), w ∈ lw_tbl := by decide +kernel
theorem am_nm9 : ∀ a, a < am_N 9 → ∀ b, b < am_N 9 → a ≠ b → (am_T 9 a).2.1 ≠ (am_T 9 b).2.1 := by decide +kernel
theorem am_tk9 : ∀ k, k < am_N 9 → parseFieldDescriptor (am_T 9 k).2.2.1 = some (am_ty 9 k) := by decide +kernel
theorem am_ow9 : ∀ k, k < am_N 9 → (am_T 9 k).1 = am_C 9 := by decide +kernel
set_option maxRecDepth 20000 in
theorem am_in10 : ∀ w ∈ u_ws (am_C 10) (am_T 10) (am_N 10), w ∈ lw_tbl := by decide +kernel
theorem am_nm10 : ∀ a, a < am_N 10 → ∀ b, b < am_N 10 → a ≠ b → (am_T 10 a).2.1 ≠ (am_T 10 b).2.1 := by decide +kernel
theorem am_tk10 : ∀ k, k < am_N 10 → parseFieldDescriptor (am_T 10 k).2.2.1 = some (am_ty 10 k) := by decide +kernel
theorem am_ow10 : ∀ k, k < am_N 10 → (am_T 10 k).1 = am_C 10 := by decide +kernel
theorem am_inl {c : Nat} (h : c < 11) : ∀ w ∈ u_ws (am_C c) (am_T c) (am_N c), w ∈ lw_tbl := by
  match c, h with
  | 0, _ => exact am_in0
  | 1, _ => exact am_in1
  | 2, _ => exact am_in2
  | 3, _ => exact am_in3
  | 4, _ => exact am_in4
  | 5, _ => exact am_in5
  | 6, _ => exact am_in6
  | 7, _ => exact am_in7
  | 8, _ => exact am_in8
  | 9, _ => exact am_in9
  | 10, _ => exact am_in10
  | k + 11, h => exact absurd h (by omega)
theorem am_nm {c : Nat} (h : c < 11) : ∀ a, a < am_N c → ∀ b, b < am_N c → a ≠ b → (am_T c a).2.1 ≠ (am_T c b).2.1 := by
  match c, h with
  | 0, _ => exact am_nm0
  | 1, _ => exact am_nm1
  | 2, _ => exact am_nm2
  | 3, _ => exact am_nm3
  | 4, _ => exact am_nm4
  | 5, _ => exact am_nm5
  | 6, _ => exact am_nm6
  | 7, _ => exact am_nm7
  | 8, _ => exact am_nm8
  | 9, _ => exact am_nm9
  | 10, _ => exact am_nm10
  | k + 11, h => exact absurd h (by omega)
theorem am_tk {c : Nat} (h : c < 11) : ∀ k, k < am_N c → parseFieldDescriptor (am_T c k).2.2.1 = some (am_ty c k) := by
  match c, h with
  | 0, _ => exact am_tk0
  | 1, _ => exact am_tk1
  | 2, _ => exact am_tk2
  | 3, _ => exact am_tk3
  | 4, _ => exact am_tk4
  | 5, _ => exact am_tk5
  | 6, _ => exact am_tk6
  | 7, _ => exact am_tk7
  | 8, _ => exact am_tk8
  | 9, _ => exact am_tk9
  | 10, _ => exact am_tk10
  | k + 11, h => exact absurd h (by omega)
theorem am_ow {c : Nat} (h : c < 11) : ∀ k, k < am_N c → (am_T c k).1 = am_C c := by
  match c, h with
  | 0, _ => exact am_ow0
  | 1, _ => exact am_ow1
  | 2, _ => exact am_ow2
  | 3, _ => exact am_ow3
  | 4, _ => exact am_ow4
  | 5, _ => exact am_ow5
  | 6, _ => exact am_ow6
  | 7, _ => exact am_ow7
  | 8, _ => exact am_ow8
  | 9, _ => exact am_ow9
  | 10, _ => exact am_ow10
  | k + 11, h => exact absurd h (by omega)
/-- the words that stay true wherever the system goes -/
def am_nl : Cond → Bool
  | .laysStatic .. => false
  | .stringRef .. => false
  | .arrayOver .. => false
  | _ => true
def am_ws : List Cond := lw_tbl.filter am_nl
theorem am_mem {w : Cond} (h : w ∈ lw_tbl) (hn : am_nl w = true) : w ∈ am_ws := List.mem_filter.mpr ⟨h, hn⟩
theorem am_in {c : Nat} (h : c < 11) : ∀ w ∈ u_ws (am_C c) (am_T c) (am_N c), w ∈ am_ws := fun w hw => am_mem (am_inl h w hw) (by
  obtain ⟨k, -, rfl⟩ := List.mem_map.mp hw
  unfold u_lay
  split <;> rfl)
def am_odd : Cond → Bool
  | .castable .. => true
  | .declares .. => true
  | .methodLinkNest .. => true
  | .fieldLinkNest .. => true
  | .privateMethod .. => true
  | _ => false
set_option maxRecDepth 100000 in
theorem am_oddk : lw_tbl.all (fun w => !am_nl w || (goodWord w || am_odd w)) = true := by decide +kernel
theorem am_keepw {args a' : Array Value} {s U : State} (hW : s.WarmedH U.vm) (h : ∀ w ∈ am_ws, w.before args s = true) : ∀ w ∈ am_ws, w.before a' U = true := by
  intro w hw
  have hb := h w hw
  obtain ⟨h1, h2⟩ := List.mem_filter.mp hw
  have hk := List.all_eq_true.mp am_oddk w h1
  rw [h2] at hk
  by_cases hg : goodWord w = true
  · exact word_at hW (good_of_word hg) hb
  · have ho : am_odd w = true := by simpa [hg] using hk
    cases w with
    | castable a b => exact va_Nw.use rfl (va_Nw.warmC hW (va_Nw.of rfl hb))
    | declares a => exact va_Nw.use rfl (va_Nw.warmD hW (va_Nw.of rfl hb))
    | methodLinkNest a b c d => exact va_Nw.use rfl (va_Nw.warmM hW (va_Nw.of rfl hb))
    | fieldLinkNest a b c d e f => exact va_Nw.use rfl (va_Nw.warmF hW (va_Nw.of rfl hb))
    | privateMethod a => exact va_tabs rfl (rfl : (s.setVm U.vm).vm = U.vm) ((Cond.privateMethod_setVm (args := args) hW.alike a).trans hb)
    | _ => cases ho
