def R_HaulFlows : String := "HaulFlows"
def R_Site : String := "HaulFlows$Site"
def R_Plan : String := "HaulFlows$Plan"
def R_Ways : String := "HaulFlows$Ways"
def R_Shortage : String := "HaulFlows$Shortage"
def R_Model : String := "HaulFlowsModel"
def R_Law : String := "HaulFlowsLaw"
def R_Arrays : String := "java/util/Arrays"
def R_Math : String := "java/lang/Math"
def R_Throwable : String := "java/lang/Throwable"
def R_Exception : String := "java/lang/Exception"
def R_RuntimeException : String := "java/lang/RuntimeException"
def R_ISE : String := "java/lang/IllegalStateException"
def R_Object : String := "java/lang/Object"
def R_String : String := "java/lang/String"
def T_Plan : u_T := fun k => match k with
  | 0 => ("HaulFlows$Plan", "site", "LHaulFlows$Site;", true)
  | 1 => ("HaulFlows$Plan", "sources", "I", false)
  | 2 => ("HaulFlows$Plan", "fills", "I", false)
  | 3 => ("HaulFlows$Plan", "unit", "[J", true)
  | 4 => ("HaulFlows$Plan", "load", "[J", true)
  | 5 => ("HaulFlows$Plan", "rent", "[J", true)
  | 6 => ("HaulFlows$Plan", "worth", "[J", true)
  | 7 => ("HaulFlows$Plan", "key", "[J", true)
  | 8 => ("HaulFlows$Plan", "done", "[Z", true)
  | 9 => ("HaulFlows$Plan", "before", "[I", true)
  | 10 => ("HaulFlows$Plan", "queue", "[I", true)
  | _ => ("HaulFlows$Plan", "queued", "I", false)
def ty_Plan : Nat → FieldType := fun k => match k with
  | 0 => .object "HaulFlows$Site"
  | 1 => .int
  | 2 => .int
  | 3 => .array .long
  | 4 => .array .long
  | 5 => .array .long
  | 6 => .array .long
  | 7 => .array .long
  | 8 => .array .boolean
  | 9 => .array .int
  | 10 => .array .int
  | _ => .int
theorem nok_Plan : ∀ a, a < 12 → ∀ b, b < 12 → a ≠ b → (T_Plan a).2.1 ≠ (T_Plan b).2.1 := by decide +kernel
theorem tok_Plan : ∀ k, k < 12 → parseFieldDescriptor (T_Plan k).2.2.1 = some (ty_Plan k) := by decide +kernel
theorem in_Plan : ∀ w ∈ u_ws R_Plan T_Plan 12, w ∈ wG := by
  have h : ∀ w ∈ u_ws R_Plan T_Plan 12, w ∈ lw_tbl := by decide +kernel
  have g : (u_ws R_Plan T_Plan 12).all goodWord = true := by decide +kernel
  exact fun w hw => List.mem_filter.mpr ⟨h w hw, List.all_eq_true.mp g w hw⟩
def T_Shortage : u_T := fun k => match k with
  | 0 => ("HaulFlows$Shortage", "site", "LHaulFlows$Site;", true)
  | 1 => ("HaulFlows$Shortage", "shortFills", "I", false)
  | 2 => ("HaulFlows$Shortage", "shortFill", "[I", true)
  | 3 => ("HaulFlows$Shortage", "rest", "[J", true)
  | 4 => ("HaulFlows$Shortage", "before", "[I", true)
  | _ => ("HaulFlows$Shortage", "queue", "[I", true)
def ty_Shortage : Nat → FieldType := fun k => match k with
  | 0 => .object "HaulFlows$Site"
  | 1 => .int
  | 2 => .array .int
  | 3 => .array .long
  | 4 => .array .int
  | _ => .array .int
theorem nok_Shortage : ∀ a, a < 6 → ∀ b, b < 6 → a ≠ b → (T_Shortage a).2.1 ≠ (T_Shortage b).2.1 := by decide +kernel
theorem tok_Shortage : ∀ k, k < 6 → parseFieldDescriptor (T_Shortage k).2.2.1 = some (ty_Shortage k) := by decide +kernel
theorem in_Shortage : ∀ w ∈ u_ws R_Shortage T_Shortage 6, w ∈ wG := by
  have h : ∀ w ∈ u_ws R_Shortage T_Shortage 6, w ∈ lw_tbl := by decide +kernel
  have g : (u_ws R_Shortage T_Shortage 6).all goodWord = true := by decide +kernel
  exact fun w hw => List.mem_filter.mpr ⟨h w hw, List.all_eq_true.mp g w hw⟩
def T_Site : u_T := fun k => match k with
  | 0 => ("HaulFlows$Site", "cuts", "I", false)
  | 1 => ("HaulFlows$Site", "pits", "I", false)
  | 2 => ("HaulFlows$Site", "fills", "I", false)
  | 3 => ("HaulFlows$Site", "ways", "LHaulFlows$Ways;", true)
  | 4 => ("HaulFlows$Site", "cutVolume", "[J", true)
  | 5 => ("HaulFlows$Site", "cutMetre", "[J", true)
  | 6 => ("HaulFlows$Site", "cutKind", "[I", true)
  | 7 => ("HaulFlows$Site", "cutWeek", "[I", true)
  | 8 => ("HaulFlows$Site", "pitMetre", "[J", true)
  | 9 => ("HaulFlows$Site", "pitCents", "[J", true)
  | 10 => ("HaulFlows$Site", "fillVolume", "[J", true)
  | 11 => ("HaulFlows$Site", "fillMetre", "[J", true)
  | 12 => ("HaulFlows$Site", "fillWeek", "[I", true)
  | 13 => ("HaulFlows$Site", "above", "[J", true)
  | 14 => ("HaulFlows$Site", "below", "[J", true)
  | 15 => ("HaulFlows$Site", "unfit", "[I", true)
  | _ => ("HaulFlows$Site", "weekMost", "[J", true)
def ty_Site : Nat → FieldType := fun k => match k with
  | 0 => .int
  | 1 => .int
  | 2 => .int
  | 3 => .object "HaulFlows$Ways"
  | 4 => .array .long
  | 5 => .array .long
  | 6 => .array .int
  | 7 => .array .int
  | 8 => .array .long
  | 9 => .array .long
  | 10 => .array .long
  | 11 => .array .long
  | 12 => .array .int
  | 13 => .array .long
  | 14 => .array .long
  | 15 => .array .int
  | _ => .array .long
theorem nok_Site : ∀ a, a < 17 → ∀ b, b < 17 → a ≠ b → (T_Site a).2.1 ≠ (T_Site b).2.1 := by decide +kernel
theorem tok_Site : ∀ k, k < 17 → parseFieldDescriptor (T_Site k).2.2.1 = some (ty_Site k) := by decide +kernel
theorem in_Site : ∀ w ∈ u_ws R_Site T_Site 17, w ∈ wG := by
  have h : ∀ w ∈ u_ws R_Site T_Site 17, w ∈ lw_tbl := by decide +kernel
  have g : (u_ws R_Site T_Site 17).all goodWord = true := by decide +kernel
  exact fun w hw => List.mem_filter.mpr ⟨h w hw, List.all_eq_true.mp g w hw⟩
def T_Ways : u_T := fun k => match k with
  | 0 => ("HaulFlows$Ways", "count", "I", false)
  | 1 => ("HaulFlows$Ways", "from", "[J", true)
  | 2 => ("HaulFlows$Ways", "to", "[J", true)
  | 3 => ("HaulFlows$Ways", "cents", "[J", true)
  | _ => ("HaulFlows$Ways", "barred", "[I", true)
def ty_Ways : Nat → FieldType := fun k => match k with
  | 0 => .int
  | 1 => .array .long
  | 2 => .array .long
  | 3 => .array .long
  | _ => .array .int
theorem nok_Ways : ∀ a, a < 5 → ∀ b, b < 5 → a ≠ b → (T_Ways a).2.1 ≠ (T_Ways b).2.1 := by decide +kernel
theorem tok_Ways : ∀ k, k < 5 → parseFieldDescriptor (T_Ways k).2.2.1 = some (ty_Ways k) := by decide +kernel
theorem in_Ways : ∀ w ∈ u_ws R_Ways T_Ways 5, w ∈ wG := by
  have h : ∀ w ∈ u_ws R_Ways T_Ways 5, w ∈ lw_tbl := by decide +kernel
  have g : (u_ws R_Ways T_Ways 5).all goodWord = true := by decide +kernel
  exact fun w hw => List.mem_filter.mpr ⟨h w hw, List.all_eq_true.mp g w hw⟩
def T_HaulFlows : u_T := fun k => match k with
  | 0 => ("HaulFlows", "site", "LHaulFlows$Site;", true)
  | 1 => ("HaulFlows", "plan", "LHaulFlows$Plan;", true)
  | 2 => ("HaulFlows", "trial", "LHaulFlows$Plan;", true)
  | 3 => ("HaulFlows", "shortage", "LHaulFlows$Shortage;", true)
  | _ => ("HaulFlows", "state", "I", false)
def ty_HaulFlows : Nat → FieldType := fun k => match k with
  | 0 => .object "HaulFlows$Site"
  | 1 => .object "HaulFlows$Plan"
  | 2 => .object "HaulFlows$Plan"
  | 3 => .object "HaulFlows$Shortage"
  | _ => .int
theorem nok_HaulFlows : ∀ a, a < 5 → ∀ b, b < 5 → a ≠ b → (T_HaulFlows a).2.1 ≠ (T_HaulFlows b).2.1 := by decide +kernel
theorem tok_HaulFlows : ∀ k, k < 5 → parseFieldDescriptor (T_HaulFlows k).2.2.1 = some (ty_HaulFlows k) := by decide +kernel
theorem in_HaulFlows : ∀ w ∈ u_ws R_HaulFlows T_HaulFlows 5, w ∈ wG := by
  have h : ∀ w ∈ u_ws R_HaulFlows T_HaulFlows 5, w ∈ lw_tbl := by decide +kernel
  have g : (u_ws R_HaulFlows T_HaulFlows 5).all goodWord = true := by decide +kernel
  exact fun w hw => List.mem_filter.mpr ⟨h w hw, List.all_eq_true.mp g w hw⟩
def T_Model : u_T := fun k => match k with
  | 0 => ("HaulFlowsModel", "thrown", "I", false)
  | 1 => ("HaulFlowsModel", "cuts", "I", false)
  | 2 => ("HaulFlowsModel", "volumes", "[J", true)
  | 3 => ("HaulFlowsModel", "kinds", "[I", true)
  | 4 => ("HaulFlowsModel", "weeks", "[I", true)
  | 5 => ("HaulFlowsModel", "metres", "[J", true)
  | 6 => ("HaulFlowsModel", "fills", "I", false)
  | 7 => ("HaulFlowsModel", "wants", "[J", true)
  | 8 => ("HaulFlowsModel", "fillWeeks", "[I", true)
  | 9 => ("HaulFlowsModel", "fillMetres", "[J", true)
  | 10 => ("HaulFlowsModel", "unfit", "[Z", true)
  | 11 => ("HaulFlowsModel", "swellAbove", "[J", true)
  | 12 => ("HaulFlowsModel", "swellBelow", "[J", true)
  | 13 => ("HaulFlowsModel", "ways", "I", false)
  | 14 => ("HaulFlowsModel", "wayFrom", "[J", true)
  | 15 => ("HaulFlowsModel", "wayTo", "[J", true)
  | 16 => ("HaulFlowsModel", "wayCents", "[J", true)
  | 17 => ("HaulFlowsModel", "barred", "[Z", true)
  | 18 => ("HaulFlowsModel", "pits", "I", false)
  | 19 => ("HaulFlowsModel", "pitMetres", "[J", true)
  | 20 => ("HaulFlowsModel", "pitCents", "[J", true)
  | 21 => ("HaulFlowsModel", "mosts", "[J", true)
  | 22 => ("HaulFlowsModel", "state", "I", false)
  | 23 => ("HaulFlowsModel", "plan", "[J", true)
  | 24 => ("HaulFlowsModel", "planCost", "J", false)
  | 25 => ("HaulFlowsModel", "clashing", "[Z", true)
  | 26 => ("HaulFlowsModel", "rest", "[J", true)
  | 27 => ("HaulFlowsModel", "costs", "[J", true)
  | 28 => ("HaulFlowsModel", "far", "[J", true)
  | _ => ("HaulFlowsModel", "before", "[I", true)
def ty_Model : Nat → FieldType := fun k => match k with
  | 0 => .int
  | 1 => .int
  | 2 => .array .long
  | 3 => .array .int
  | 4 => .array .int
  | 5 => .array .long
  | 6 => .int
  | 7 => .array .long
  | 8 => .array .int
  | 9 => .array .long
  | 10 => .array .boolean
  | 11 => .array .long
  | 12 => .array .long
  | 13 => .int
  | 14 => .array .long
  | 15 => .array .long
  | 16 => .array .long
  | 17 => .array .boolean
  | 18 => .int
  | 19 => .array .long
  | 20 => .array .long
  | 21 => .array .long
  | 22 => .int
  | 23 => .array .long
  | 24 => .long
  | 25 => .array .boolean
  | 26 => .array .long
  | 27 => .array .long
  | 28 => .array .long
  | _ => .array .int
theorem nok_Model : ∀ a, a < 30 → ∀ b, b < 30 → a ≠ b → (T_Model a).2.1 ≠ (T_Model b).2.1 := by decide +kernel
theorem tok_Model : ∀ k, k < 30 → parseFieldDescriptor (T_Model k).2.2.1 = some (ty_Model k) := by decide +kernel
theorem in_Model : ∀ w ∈ u_ws R_Model T_Model 30, w ∈ wG := by
  have h : ∀ w ∈ u_ws R_Model T_Model 30, w ∈ lw_tbl := by decide +kernel
  have g : (u_ws R_Model T_Model 30).all goodWord = true := by decide +kernel
  exact fun w hw => List.mem_filter.mpr ⟨h w hw, List.all_eq_true.mp g w hw⟩
abbrev vwCl : List vw_C := [(R_Plan, T_Plan, 12), (R_Shortage, T_Shortage, 6), (R_Site, T_Site, 17), (R_Ways, T_Ways, 5), (R_HaulFlows, T_HaulFlows, 5), (R_Model, T_Model, 30)]
