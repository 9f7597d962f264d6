/-! names, field tables (laid by wip/whole/emit.py); ints are kept as Int: iI z is the machine's int of z; an array's contents are a function from Int -/
def iI (z : Int) : Int32 := Int32.ofInt z
def ia (A : Int → Int) : Nat → Int32 := fun k => iI (A (k : Int))
def la (A : Int → Int64) : Nat → Int64 := fun k => A (k : Int)
def R_T : String := "PathTiming"
def F_T : u_T := fun k => match k with
  | 0 => ("PathTiming", "net", "LPathTiming$Net;", true)
  | 1 => ("PathTiming", "order", "LPathTiming$GateOrder;", true)
  | 2 => ("PathTiming", "clockWays", "LPathTiming$ClockWays;", true)
  | 3 => ("PathTiming", "arrivals", "LPathTiming$Arrivals;", true)
  | 4 => ("PathTiming", "slacks", "LPathTiming$Slacks;", true)
  | 5 => ("PathTiming", "worstPaths", "LPathTiming$WorstPaths;", true)
  | _ => ("PathTiming", "analysed", "Z", false)
def ty_T : Nat → FieldType := fun k => match k with
  | 0 => .object "PathTiming$Net"
  | 1 => .object "PathTiming$GateOrder"
  | 2 => .object "PathTiming$ClockWays"
  | 3 => .object "PathTiming$Arrivals"
  | 4 => .object "PathTiming$Slacks"
  | 5 => .object "PathTiming$WorstPaths"
  | _ => .boolean
theorem n_T : ∀ a, a < 7 → ∀ b, b < 7 → a ≠ b → (F_T a).2.1 ≠ (F_T b).2.1 := by decide +kernel
theorem ty_T_ok : ∀ k, k < 7 → parseFieldDescriptor (F_T k).2.2.1 = some (ty_T k) := by decide +kernel
theorem in_T : ∀ w ∈ u_ws R_T F_T 7, w ∈ Tg := by
  have e : u_ws R_T F_T 7 = [Cond.laysFinal "PathTiming" "PathTiming" "net" "LPathTiming$Net;", Cond.laysFinal "PathTiming" "PathTiming" "order" "LPathTiming$GateOrder;", Cond.laysFinal "PathTiming" "PathTiming" "clockWays" "LPathTiming$ClockWays;", Cond.laysFinal "PathTiming" "PathTiming" "arrivals" "LPathTiming$Arrivals;", Cond.laysFinal "PathTiming" "PathTiming" "slacks" "LPathTiming$Slacks;", Cond.laysFinal "PathTiming" "PathTiming" "worstPaths" "LPathTiming$WorstPaths;", Cond.lays "PathTiming" "PathTiming" "analysed" "Z"] := rfl
  rw [e]
  exact List.forall_mem_cons.mpr ⟨m416, List.forall_mem_cons.mpr ⟨m418, List.forall_mem_cons.mpr ⟨m420, List.forall_mem_cons.mpr ⟨m422, List.forall_mem_cons.mpr ⟨m424, List.forall_mem_cons.mpr ⟨m426, List.forall_mem_cons.mpr ⟨m428, fun _ h => absurd h List.not_mem_nil⟩⟩⟩⟩⟩⟩⟩
def R_Net : String := "PathTiming$Net"
def F_Net : u_T := fun k => match k with
  | 0 => ("PathTiming$Net", "period", "I", false)
  | 1 => ("PathTiming$Net", "width", "I", false)
  | 2 => ("PathTiming$Net", "size", "I", false)
  | 3 => ("PathTiming$Net", "kind", "[I", true)
  | 4 => ("PathTiming$Net", "pins", "[I", true)
  | 5 => ("PathTiming$Net", "source", "[I", true)
  | 6 => ("PathTiming$Net", "wireEarly", "[I", true)
  | 7 => ("PathTiming$Net", "wireLate", "[I", true)
  | 8 => ("PathTiming$Net", "senses", "[I", true)
  | 9 => ("PathTiming$Net", "gateEarly", "[I", true)
  | 10 => ("PathTiming$Net", "gateLate", "[I", true)
  | 11 => ("PathTiming$Net", "startEarly", "[I", true)
  | 12 => ("PathTiming$Net", "startLate", "[I", true)
  | 13 => ("PathTiming$Net", "setups", "[I", true)
  | _ => ("PathTiming$Net", "holds", "[I", true)
def ty_Net : Nat → FieldType := fun k => match k with
  | 0 => .int
  | 1 => .int
  | 2 => .int
  | 3 => .array .int
  | 4 => .array .int
  | 5 => .array .int
  | 6 => .array .int
  | 7 => .array .int
  | 8 => .array .int
  | 9 => .array .int
  | 10 => .array .int
  | 11 => .array .int
  | 12 => .array .int
  | 13 => .array .int
  | _ => .array .int
theorem n_Net : ∀ a, a < 15 → ∀ b, b < 15 → a ≠ b → (F_Net a).2.1 ≠ (F_Net b).2.1 := by decide +kernel
theorem ty_Net_ok : ∀ k, k < 15 → parseFieldDescriptor (F_Net k).2.2.1 = some (ty_Net k) := by decide +kernel
theorem in_Net : ∀ w ∈ u_ws R_Net F_Net 15, w ∈ Tg := by
  have e : u_ws R_Net F_Net 15 = [Cond.lays "PathTiming$Net" "PathTiming$Net" "period" "I", Cond.lays "PathTiming$Net" "PathTiming$Net" "width" "I", Cond.lays "PathTiming$Net" "PathTiming$Net" "size" "I", Cond.laysFinal "PathTiming$Net" "PathTiming$Net" "kind" "[I", Cond.laysFinal "PathTiming$Net" "PathTiming$Net" "pins" "[I", Cond.laysFinal "PathTiming$Net" "PathTiming$Net" "source" "[I", Cond.laysFinal "PathTiming$Net" "PathTiming$Net" "wireEarly" "[I", Cond.laysFinal "PathTiming$Net" "PathTiming$Net" "wireLate" "[I", Cond.laysFinal "PathTiming$Net" "PathTiming$Net" "senses" "[I", Cond.laysFinal "PathTiming$Net" "PathTiming$Net" "gateEarly" "[I", Cond.laysFinal "PathTiming$Net" "PathTiming$Net" "gateLate" "[I", Cond.laysFinal "PathTiming$Net" "PathTiming$Net" "startEarly" "[I", Cond.laysFinal "PathTiming$Net" "PathTiming$Net" "startLate" "[I", Cond.laysFinal "PathTiming$Net" "PathTiming$Net" "setups" "[I", Cond.laysFinal "PathTiming$Net" "PathTiming$Net" "holds" "[I"] := rfl
  rw [e]
  exact List.forall_mem_cons.mpr ⟨m101, List.forall_mem_cons.mpr ⟨m103, List.forall_mem_cons.mpr ⟨m105, List.forall_mem_cons.mpr ⟨m107, List.forall_mem_cons.mpr ⟨m109, List.forall_mem_cons.mpr ⟨m111, List.forall_mem_cons.mpr ⟨m113, List.forall_mem_cons.mpr ⟨m115, List.forall_mem_cons.mpr ⟨m117, List.forall_mem_cons.mpr ⟨m119, List.forall_mem_cons.mpr ⟨m121, List.forall_mem_cons.mpr ⟨m123, List.forall_mem_cons.mpr ⟨m125, List.forall_mem_cons.mpr ⟨m127, List.forall_mem_cons.mpr ⟨m129, fun _ h => absurd h List.not_mem_nil⟩⟩⟩⟩⟩⟩⟩⟩⟩⟩⟩⟩⟩⟩⟩
def R_GateOrder : String := "PathTiming$GateOrder"
def F_GateOrder : u_T := fun k => match k with
  | 0 => ("PathTiming$GateOrder", "net", "LPathTiming$Net;", true)
  | 1 => ("PathTiming$GateOrder", "leading", "[J", true)
  | 2 => ("PathTiming$GateOrder", "gates", "[I", true)
  | _ => ("PathTiming$GateOrder", "count", "I", false)
def ty_GateOrder : Nat → FieldType := fun k => match k with
  | 0 => .object "PathTiming$Net"
  | 1 => .array .long
  | 2 => .array .int
  | _ => .int
theorem n_GateOrder : ∀ a, a < 4 → ∀ b, b < 4 → a ≠ b → (F_GateOrder a).2.1 ≠ (F_GateOrder b).2.1 := by decide +kernel
theorem ty_GateOrder_ok : ∀ k, k < 4 → parseFieldDescriptor (F_GateOrder k).2.2.1 = some (ty_GateOrder k) := by decide +kernel
theorem in_GateOrder : ∀ w ∈ u_ws R_GateOrder F_GateOrder 4, w ∈ Tg := by
  have e : u_ws R_GateOrder F_GateOrder 4 = [Cond.laysFinal "PathTiming$GateOrder" "PathTiming$GateOrder" "net" "LPathTiming$Net;", Cond.laysFinal "PathTiming$GateOrder" "PathTiming$GateOrder" "leading" "[J", Cond.laysFinal "PathTiming$GateOrder" "PathTiming$GateOrder" "gates" "[I", Cond.lays "PathTiming$GateOrder" "PathTiming$GateOrder" "count" "I"] := rfl
  rw [e]
  exact List.forall_mem_cons.mpr ⟨m147, List.forall_mem_cons.mpr ⟨m149, List.forall_mem_cons.mpr ⟨m151, List.forall_mem_cons.mpr ⟨m153, fun _ h => absurd h List.not_mem_nil⟩⟩⟩⟩
def R_Spread : String := "PathTiming$Spread"
def F_Spread : u_T := fun k => match k with
  | 0 => ("PathTiming$Spread", "net", "LPathTiming$Net;", true)
  | 1 => ("PathTiming$Spread", "order", "LPathTiming$GateOrder;", true)
  | 2 => ("PathTiming$Spread", "count", "[I", true)
  | 3 => ("PathTiming$Spread", "early", "[I", true)
  | _ => ("PathTiming$Spread", "late", "[I", true)
def ty_Spread : Nat → FieldType := fun k => match k with
  | 0 => .object "PathTiming$Net"
  | 1 => .object "PathTiming$GateOrder"
  | 2 => .array .int
  | 3 => .array .int
  | _ => .array .int
theorem n_Spread : ∀ a, a < 5 → ∀ b, b < 5 → a ≠ b → (F_Spread a).2.1 ≠ (F_Spread b).2.1 := by decide +kernel
theorem ty_Spread_ok : ∀ k, k < 5 → parseFieldDescriptor (F_Spread k).2.2.1 = some (ty_Spread k) := by decide +kernel
theorem in_Spread : ∀ w ∈ u_ws R_Spread F_Spread 5, w ∈ Tg := by
  have e : u_ws R_Spread F_Spread 5 = [Cond.laysFinal "PathTiming$Spread" "PathTiming$Spread" "net" "LPathTiming$Net;", Cond.laysFinal "PathTiming$Spread" "PathTiming$Spread" "order" "LPathTiming$GateOrder;", Cond.laysFinal "PathTiming$Spread" "PathTiming$Spread" "count" "[I", Cond.laysFinal "PathTiming$Spread" "PathTiming$Spread" "early" "[I", Cond.laysFinal "PathTiming$Spread" "PathTiming$Spread" "late" "[I"] := rfl
  rw [e]
  exact List.forall_mem_cons.mpr ⟨m182, List.forall_mem_cons.mpr ⟨m184, List.forall_mem_cons.mpr ⟨m186, List.forall_mem_cons.mpr ⟨m188, List.forall_mem_cons.mpr ⟨m190, fun _ h => absurd h List.not_mem_nil⟩⟩⟩⟩⟩
def R_ClockWays : String := "PathTiming$ClockWays"
def F_ClockWays : u_T := fun k => match k with
  | 0 => ("PathTiming$ClockWays", "net", "LPathTiming$Net;", true)
  | 1 => ("PathTiming$ClockWays", "order", "LPathTiming$GateOrder;", true)
  | 2 => ("PathTiming$ClockWays", "counts", "LPathTiming$Spread;", true)
  | 3 => ("PathTiming$ClockWays", "needed", "[Z", true)
  | 4 => ("PathTiming$ClockWays", "size", "I", false)
  | 5 => ("PathTiming$ClockWays", "elements", "[I", true)
  | 6 => ("PathTiming$ClockWays", "parent", "[I", true)
  | 7 => ("PathTiming$ClockWays", "length", "[I", true)
  | 8 => ("PathTiming$ClockWays", "early", "[I", true)
  | 9 => ("PathTiming$ClockWays", "late", "[I", true)
  | 10 => ("PathTiming$ClockWays", "firstOf", "[I", true)
  | 11 => ("PathTiming$ClockWays", "nextOf", "[I", true)
  | 12 => ("PathTiming$ClockWays", "count", "[I", true)
  | 13 => ("PathTiming$ClockWays", "last", "[I", true)
  | 14 => ("PathTiming$ClockWays", "base", "[I", true)
  | 15 => ("PathTiming$ClockWays", "wayEarly", "[I", true)
  | _ => ("PathTiming$ClockWays", "wayLate", "[I", true)
def ty_ClockWays : Nat → FieldType := fun k => match k with
  | 0 => .object "PathTiming$Net"
  | 1 => .object "PathTiming$GateOrder"
  | 2 => .object "PathTiming$Spread"
  | 3 => .array .boolean
  | 4 => .int
  | 5 => .array .int
  | 6 => .array .int
  | 7 => .array .int
  | 8 => .array .int
  | 9 => .array .int
  | 10 => .array .int
  | 11 => .array .int
  | 12 => .array .int
  | 13 => .array .int
  | 14 => .array .int
  | 15 => .array .int
  | _ => .array .int
theorem n_ClockWays : ∀ a, a < 17 → ∀ b, b < 17 → a ≠ b → (F_ClockWays a).2.1 ≠ (F_ClockWays b).2.1 := by decide +kernel
theorem ty_ClockWays_ok : ∀ k, k < 17 → parseFieldDescriptor (F_ClockWays k).2.2.1 = some (ty_ClockWays k) := by decide +kernel
theorem in_ClockWays : ∀ w ∈ u_ws R_ClockWays F_ClockWays 17, w ∈ Tg := by
  have e : u_ws R_ClockWays F_ClockWays 17 = [Cond.laysFinal "PathTiming$ClockWays" "PathTiming$ClockWays" "net" "LPathTiming$Net;", Cond.laysFinal "PathTiming$ClockWays" "PathTiming$ClockWays" "order" "LPathTiming$GateOrder;", Cond.laysFinal "PathTiming$ClockWays" "PathTiming$ClockWays" "counts" "LPathTiming$Spread;", Cond.laysFinal "PathTiming$ClockWays" "PathTiming$ClockWays" "needed" "[Z", Cond.lays "PathTiming$ClockWays" "PathTiming$ClockWays" "size" "I", Cond.laysFinal "PathTiming$ClockWays" "PathTiming$ClockWays" "elements" "[I", Cond.laysFinal "PathTiming$ClockWays" "PathTiming$ClockWays" "parent" "[I", Cond.laysFinal "PathTiming$ClockWays" "PathTiming$ClockWays" "length" "[I", Cond.laysFinal "PathTiming$ClockWays" "PathTiming$ClockWays" "early" "[I", Cond.laysFinal "PathTiming$ClockWays" "PathTiming$ClockWays" "late" "[I", Cond.laysFinal "PathTiming$ClockWays" "PathTiming$ClockWays" "firstOf" "[I", Cond.laysFinal "PathTiming$ClockWays" "PathTiming$ClockWays" "nextOf" "[I", Cond.laysFinal "PathTiming$ClockWays" "PathTiming$ClockWays" "count" "[I", Cond.laysFinal "PathTiming$ClockWays" "PathTiming$ClockWays" "last" "[I", Cond.laysFinal "PathTiming$ClockWays" "PathTiming$ClockWays" "base" "[I", Cond.laysFinal "PathTiming$ClockWays" "PathTiming$ClockWays" "wayEarly" "[I", Cond.laysFinal "PathTiming$ClockWays" "PathTiming$ClockWays" "wayLate" "[I"] := rfl
  rw [e]
  exact List.forall_mem_cons.mpr ⟨m222, List.forall_mem_cons.mpr ⟨m224, List.forall_mem_cons.mpr ⟨m226, List.forall_mem_cons.mpr ⟨m228, List.forall_mem_cons.mpr ⟨m230, List.forall_mem_cons.mpr ⟨m232, List.forall_mem_cons.mpr ⟨m234, List.forall_mem_cons.mpr ⟨m236, List.forall_mem_cons.mpr ⟨m238, List.forall_mem_cons.mpr ⟨m240, List.forall_mem_cons.mpr ⟨m242, List.forall_mem_cons.mpr ⟨m244, List.forall_mem_cons.mpr ⟨m246, List.forall_mem_cons.mpr ⟨m248, List.forall_mem_cons.mpr ⟨m250, List.forall_mem_cons.mpr ⟨m252, List.forall_mem_cons.mpr ⟨m254, fun _ h => absurd h List.not_mem_nil⟩⟩⟩⟩⟩⟩⟩⟩⟩⟩⟩⟩⟩⟩⟩⟩⟩
def R_Arrivals : String := "PathTiming$Arrivals"
def F_Arrivals : u_T := fun k => match k with
  | 0 => ("PathTiming$Arrivals", "net", "LPathTiming$Net;", true)
  | 1 => ("PathTiming$Arrivals", "clockWays", "LPathTiming$ClockWays;", true)
  | 2 => ("PathTiming$Arrivals", "fromZero", "LPathTiming$Spread;", true)
  | _ => ("PathTiming$Arrivals", "fromWidth", "LPathTiming$Spread;", true)
def ty_Arrivals : Nat → FieldType := fun k => match k with
  | 0 => .object "PathTiming$Net"
  | 1 => .object "PathTiming$ClockWays"
  | 2 => .object "PathTiming$Spread"
  | _ => .object "PathTiming$Spread"
theorem n_Arrivals : ∀ a, a < 4 → ∀ b, b < 4 → a ≠ b → (F_Arrivals a).2.1 ≠ (F_Arrivals b).2.1 := by decide +kernel
theorem ty_Arrivals_ok : ∀ k, k < 4 → parseFieldDescriptor (F_Arrivals k).2.2.1 = some (ty_Arrivals k) := by decide +kernel
theorem in_Arrivals : ∀ w ∈ u_ws R_Arrivals F_Arrivals 4, w ∈ Tg := by
  have e : u_ws R_Arrivals F_Arrivals 4 = [Cond.laysFinal "PathTiming$Arrivals" "PathTiming$Arrivals" "net" "LPathTiming$Net;", Cond.laysFinal "PathTiming$Arrivals" "PathTiming$Arrivals" "clockWays" "LPathTiming$ClockWays;", Cond.laysFinal "PathTiming$Arrivals" "PathTiming$Arrivals" "fromZero" "LPathTiming$Spread;", Cond.laysFinal "PathTiming$Arrivals" "PathTiming$Arrivals" "fromWidth" "LPathTiming$Spread;"] := rfl
  rw [e]
  exact List.forall_mem_cons.mpr ⟨m302, List.forall_mem_cons.mpr ⟨m304, List.forall_mem_cons.mpr ⟨m306, List.forall_mem_cons.mpr ⟨m308, fun _ h => absurd h List.not_mem_nil⟩⟩⟩⟩
def R_Rooms : String := "PathTiming$Rooms"
def F_Rooms : u_T := fun k => match k with
  | 0 => ("PathTiming$Rooms", "net", "LPathTiming$Net;", true)
  | 1 => ("PathTiming$Rooms", "clockWays", "LPathTiming$ClockWays;", true)
  | 2 => ("PathTiming$Rooms", "setup", "[I", true)
  | 3 => ("PathTiming$Rooms", "hold", "[I", true)
  | 4 => ("PathTiming$Rooms", "leastMoving", "I", false)
  | 5 => ("PathTiming$Rooms", "leastFixed", "I", false)
  | _ => ("PathTiming$Rooms", "leastHold", "I", false)
def ty_Rooms : Nat → FieldType := fun k => match k with
  | 0 => .object "PathTiming$Net"
  | 1 => .object "PathTiming$ClockWays"
  | 2 => .array .int
  | 3 => .array .int
  | 4 => .int
  | 5 => .int
  | _ => .int
theorem n_Rooms : ∀ a, a < 7 → ∀ b, b < 7 → a ≠ b → (F_Rooms a).2.1 ≠ (F_Rooms b).2.1 := by decide +kernel
theorem ty_Rooms_ok : ∀ k, k < 7 → parseFieldDescriptor (F_Rooms k).2.2.1 = some (ty_Rooms k) := by decide +kernel
theorem in_Rooms : ∀ w ∈ u_ws R_Rooms F_Rooms 7, w ∈ Tg := by
  have e : u_ws R_Rooms F_Rooms 7 = [Cond.laysFinal "PathTiming$Rooms" "PathTiming$Rooms" "net" "LPathTiming$Net;", Cond.laysFinal "PathTiming$Rooms" "PathTiming$Rooms" "clockWays" "LPathTiming$ClockWays;", Cond.laysFinal "PathTiming$Rooms" "PathTiming$Rooms" "setup" "[I", Cond.laysFinal "PathTiming$Rooms" "PathTiming$Rooms" "hold" "[I", Cond.lays "PathTiming$Rooms" "PathTiming$Rooms" "leastMoving" "I", Cond.lays "PathTiming$Rooms" "PathTiming$Rooms" "leastFixed" "I", Cond.lays "PathTiming$Rooms" "PathTiming$Rooms" "leastHold" "I"] := rfl
  rw [e]
  exact List.forall_mem_cons.mpr ⟨m277, List.forall_mem_cons.mpr ⟨m279, List.forall_mem_cons.mpr ⟨m281, List.forall_mem_cons.mpr ⟨m283, List.forall_mem_cons.mpr ⟨m285, List.forall_mem_cons.mpr ⟨m287, List.forall_mem_cons.mpr ⟨m289, fun _ h => absurd h List.not_mem_nil⟩⟩⟩⟩⟩⟩⟩
def R_Slacks : String := "PathTiming$Slacks"
def F_Slacks : u_T := fun k => match k with
  | 0 => ("PathTiming$Slacks", "net", "LPathTiming$Net;", true)
  | 1 => ("PathTiming$Slacks", "clockWays", "LPathTiming$ClockWays;", true)
  | 2 => ("PathTiming$Slacks", "spread", "LPathTiming$Spread;", true)
  | 3 => ("PathTiming$Slacks", "rooms", "LPathTiming$Rooms;", true)
  | 4 => ("PathTiming$Slacks", "least", "[I", true)
  | 5 => ("PathTiming$Slacks", "leastMoving", "I", false)
  | 6 => ("PathTiming$Slacks", "leastFixed", "I", false)
  | _ => ("PathTiming$Slacks", "pathCount", "I", false)
def ty_Slacks : Nat → FieldType := fun k => match k with
  | 0 => .object "PathTiming$Net"
  | 1 => .object "PathTiming$ClockWays"
  | 2 => .object "PathTiming$Spread"
  | 3 => .object "PathTiming$Rooms"
  | 4 => .array .int
  | 5 => .int
  | 6 => .int
  | _ => .int
theorem n_Slacks : ∀ a, a < 8 → ∀ b, b < 8 → a ≠ b → (F_Slacks a).2.1 ≠ (F_Slacks b).2.1 := by decide +kernel
theorem ty_Slacks_ok : ∀ k, k < 8 → parseFieldDescriptor (F_Slacks k).2.2.1 = some (ty_Slacks k) := by decide +kernel
theorem in_Slacks : ∀ w ∈ u_ws R_Slacks F_Slacks 8, w ∈ Tg := by
  have e : u_ws R_Slacks F_Slacks 8 = [Cond.laysFinal "PathTiming$Slacks" "PathTiming$Slacks" "net" "LPathTiming$Net;", Cond.laysFinal "PathTiming$Slacks" "PathTiming$Slacks" "clockWays" "LPathTiming$ClockWays;", Cond.laysFinal "PathTiming$Slacks" "PathTiming$Slacks" "spread" "LPathTiming$Spread;", Cond.laysFinal "PathTiming$Slacks" "PathTiming$Slacks" "rooms" "LPathTiming$Rooms;", Cond.laysFinal "PathTiming$Slacks" "PathTiming$Slacks" "least" "[I", Cond.lays "PathTiming$Slacks" "PathTiming$Slacks" "leastMoving" "I", Cond.lays "PathTiming$Slacks" "PathTiming$Slacks" "leastFixed" "I", Cond.lays "PathTiming$Slacks" "PathTiming$Slacks" "pathCount" "I"] := rfl
  rw [e]
  exact List.forall_mem_cons.mpr ⟨m326, List.forall_mem_cons.mpr ⟨m328, List.forall_mem_cons.mpr ⟨m330, List.forall_mem_cons.mpr ⟨m332, List.forall_mem_cons.mpr ⟨m334, List.forall_mem_cons.mpr ⟨m336, List.forall_mem_cons.mpr ⟨m338, List.forall_mem_cons.mpr ⟨m340, fun _ h => absurd h List.not_mem_nil⟩⟩⟩⟩⟩⟩⟩⟩
def R_WorstPaths : String := "PathTiming$WorstPaths"
def F_WorstPaths : u_T := fun k => match k with
  | 0 => ("PathTiming$WorstPaths", "net", "LPathTiming$Net;", true)
  | 1 => ("PathTiming$WorstPaths", "clockWays", "LPathTiming$ClockWays;", true)
  | 2 => ("PathTiming$WorstPaths", "spread", "LPathTiming$Spread;", true)
  | 3 => ("PathTiming$WorstPaths", "rooms", "LPathTiming$Rooms;", true)
  | 4 => ("PathTiming$WorstPaths", "bySetup", "LPathTiming$PathList;", true)
  | 5 => ("PathTiming$WorstPaths", "byHold", "LPathTiming$PathList;", true)
  | 6 => ("PathTiming$WorstPaths", "trail", "[I", true)
  | 7 => ("PathTiming$WorstPaths", "row", "[I", true)
  | 8 => ("PathTiming$WorstPaths", "start", "I", false)
  | 9 => ("PathTiming$WorstPaths", "end", "I", false)
  | 10 => ("PathTiming$WorstPaths", "endChange", "I", false)
  | _ => ("PathTiming$WorstPaths", "isCollected", "Z", false)
def ty_WorstPaths : Nat → FieldType := fun k => match k with
  | 0 => .object "PathTiming$Net"
  | 1 => .object "PathTiming$ClockWays"
  | 2 => .object "PathTiming$Spread"
  | 3 => .object "PathTiming$Rooms"
  | 4 => .object "PathTiming$PathList"
  | 5 => .object "PathTiming$PathList"
  | 6 => .array .int
  | 7 => .array .int
  | 8 => .int
  | 9 => .int
  | 10 => .int
  | _ => .boolean
theorem n_WorstPaths : ∀ a, a < 12 → ∀ b, b < 12 → a ≠ b → (F_WorstPaths a).2.1 ≠ (F_WorstPaths b).2.1 := by decide +kernel
theorem ty_WorstPaths_ok : ∀ k, k < 12 → parseFieldDescriptor (F_WorstPaths k).2.2.1 = some (ty_WorstPaths k) := by decide +kernel
theorem in_WorstPaths : ∀ w ∈ u_ws R_WorstPaths F_WorstPaths 12, w ∈ Tg := by
  have e : u_ws R_WorstPaths F_WorstPaths 12 = [Cond.laysFinal "PathTiming$WorstPaths" "PathTiming$WorstPaths" "net" "LPathTiming$Net;", Cond.laysFinal "PathTiming$WorstPaths" "PathTiming$WorstPaths" "clockWays" "LPathTiming$ClockWays;", Cond.laysFinal "PathTiming$WorstPaths" "PathTiming$WorstPaths" "spread" "LPathTiming$Spread;", Cond.laysFinal "PathTiming$WorstPaths" "PathTiming$WorstPaths" "rooms" "LPathTiming$Rooms;", Cond.laysFinal "PathTiming$WorstPaths" "PathTiming$WorstPaths" "bySetup" "LPathTiming$PathList;", Cond.laysFinal "PathTiming$WorstPaths" "PathTiming$WorstPaths" "byHold" "LPathTiming$PathList;", Cond.laysFinal "PathTiming$WorstPaths" "PathTiming$WorstPaths" "trail" "[I", Cond.laysFinal "PathTiming$WorstPaths" "PathTiming$WorstPaths" "row" "[I", Cond.lays "PathTiming$WorstPaths" "PathTiming$WorstPaths" "start" "I", Cond.lays "PathTiming$WorstPaths" "PathTiming$WorstPaths" "end" "I", Cond.lays "PathTiming$WorstPaths" "PathTiming$WorstPaths" "endChange" "I", Cond.lays "PathTiming$WorstPaths" "PathTiming$WorstPaths" "isCollected" "Z"] := rfl
  rw [e]
  exact List.forall_mem_cons.mpr ⟨m384, List.forall_mem_cons.mpr ⟨m386, List.forall_mem_cons.mpr ⟨m388, List.forall_mem_cons.mpr ⟨m390, List.forall_mem_cons.mpr ⟨m392, List.forall_mem_cons.mpr ⟨m394, List.forall_mem_cons.mpr ⟨m396, List.forall_mem_cons.mpr ⟨m398, List.forall_mem_cons.mpr ⟨m400, List.forall_mem_cons.mpr ⟨m402, List.forall_mem_cons.mpr ⟨m404, List.forall_mem_cons.mpr ⟨m406, fun _ h => absurd h List.not_mem_nil⟩⟩⟩⟩⟩⟩⟩⟩⟩⟩⟩⟩
def R_PathList : String := "PathTiming$PathList"
def F_PathList : u_T := fun k => match k with
  | 0 => ("PathTiming$PathList", "size", "I", false)
  | 1 => ("PathTiming$PathList", "slotOf", "[I", true)
  | 2 => ("PathTiming$PathList", "slacks", "[I", true)
  | 3 => ("PathTiming$PathList", "lengths", "[I", true)
  | _ => ("PathTiming$PathList", "rows", "[I", true)
def ty_PathList : Nat → FieldType := fun k => match k with
  | 0 => .int
  | 1 => .array .int
  | 2 => .array .int
  | 3 => .array .int
  | _ => .array .int
theorem n_PathList : ∀ a, a < 5 → ∀ b, b < 5 → a ≠ b → (F_PathList a).2.1 ≠ (F_PathList b).2.1 := by decide +kernel
theorem ty_PathList_ok : ∀ k, k < 5 → parseFieldDescriptor (F_PathList k).2.2.1 = some (ty_PathList k) := by decide +kernel
theorem in_PathList : ∀ w ∈ u_ws R_PathList F_PathList 5, w ∈ Tg := by
  have e : u_ws R_PathList F_PathList 5 = [Cond.lays "PathTiming$PathList" "PathTiming$PathList" "size" "I", Cond.laysFinal "PathTiming$PathList" "PathTiming$PathList" "slotOf" "[I", Cond.laysFinal "PathTiming$PathList" "PathTiming$PathList" "slacks" "[I", Cond.laysFinal "PathTiming$PathList" "PathTiming$PathList" "lengths" "[I", Cond.laysFinal "PathTiming$PathList" "PathTiming$PathList" "rows" "[I"] := rfl
  rw [e]
  exact List.forall_mem_cons.mpr ⟨m361, List.forall_mem_cons.mpr ⟨m363, List.forall_mem_cons.mpr ⟨m365, List.forall_mem_cons.mpr ⟨m367, List.forall_mem_cons.mpr ⟨m369, fun _ h => absurd h List.not_mem_nil⟩⟩⟩⟩⟩
def R_M : String := "PathTimingModel"
def F_M : u_T := fun k => match k with
  | 0 => ("PathTimingModel", "thrown", "I", false)
  | 1 => ("PathTimingModel", "period", "I", false)
  | 2 => ("PathTimingModel", "width", "I", false)
  | 3 => ("PathTimingModel", "nodes", "I", false)
  | 4 => ("PathTimingModel", "kinds", "[I", true)
  | 5 => ("PathTimingModel", "pins", "[I", true)
  | 6 => ("PathTimingModel", "froms", "[I", true)
  | 7 => ("PathTimingModel", "wireEarly", "[I", true)
  | 8 => ("PathTimingModel", "wireLate", "[I", true)
  | 9 => ("PathTimingModel", "senses", "[I", true)
  | 10 => ("PathTimingModel", "delayEarly", "[I", true)
  | 11 => ("PathTimingModel", "delayLate", "[I", true)
  | 12 => ("PathTimingModel", "firstOf", "[I", true)
  | 13 => ("PathTimingModel", "secondOf", "[I", true)
  | 14 => ("PathTimingModel", "analysed", "Z", false)
  | 15 => ("PathTimingModel", "order", "[I", true)
  | 16 => ("PathTimingModel", "gates", "I", false)
  | 17 => ("PathTimingModel", "wayCount", "[I", true)
  | 18 => ("PathTimingModel", "wayBase", "[I", true)
  | 19 => ("PathTimingModel", "wayEarly", "[I", true)
  | 20 => ("PathTimingModel", "wayLate", "[I", true)
  | 21 => ("PathTimingModel", "wayLast", "[I", true)
  | 22 => ("PathTimingModel", "waySize", "[I", true)
  | 23 => ("PathTimingModel", "wayRows", "[I", true)
  | 24 => ("PathTimingModel", "waySpread", "[I", true)
  | 25 => ("PathTimingModel", "clockWays", "[I", true)
  | 26 => ("PathTimingModel", "there", "[Z", true)
  | 27 => ("PathTimingModel", "early", "[I", true)
  | 28 => ("PathTimingModel", "late", "[I", true)
  | 29 => ("PathTimingModel", "startNode", "I", false)
  | 30 => ("PathTimingModel", "startChange", "I", false)
  | 31 => ("PathTimingModel", "startWay", "I", false)
  | 32 => ("PathTimingModel", "startBase", "I", false)
  | 33 => ("PathTimingModel", "startEarly", "I", false)
  | 34 => ("PathTimingModel", "startLate", "I", false)
  | 35 => ("PathTimingModel", "least", "[I", true)
  | 36 => ("PathTimingModel", "greatest", "[I", true)
  | 37 => ("PathTimingModel", "slacks", "[I", true)
  | 38 => ("PathTimingModel", "worstWith", "I", false)
  | 39 => ("PathTimingModel", "worstWithout", "I", false)
  | 40 => ("PathTimingModel", "goals", "[J", true)
  | 41 => ("PathTimingModel", "all", "J", false)
  | 42 => ("PathTimingModel", "atNode", "[I", true)
  | 43 => ("PathTimingModel", "atChange", "[I", true)
  | 44 => ("PathTimingModel", "atNext", "[I", true)
  | 45 => ("PathTimingModel", "atEarly", "[I", true)
  | 46 => ("PathTimingModel", "atLate", "[I", true)
  | 47 => ("PathTimingModel", "row", "[I", true)
  | 48 => ("PathTimingModel", "rowSize", "I", false)
  | 49 => ("PathTimingModel", "listed", "[I", true)
  | 50 => ("PathTimingModel", "listSlack", "[I", true)
  | 51 => ("PathTimingModel", "listSize", "[I", true)
  | _ => ("PathTimingModel", "listRows", "[I", true)
def ty_M : Nat → FieldType := fun k => match k with
  | 0 => .int
  | 1 => .int
  | 2 => .int
  | 3 => .int
  | 4 => .array .int
  | 5 => .array .int
  | 6 => .array .int
  | 7 => .array .int
  | 8 => .array .int
  | 9 => .array .int
  | 10 => .array .int
  | 11 => .array .int
  | 12 => .array .int
  | 13 => .array .int
  | 14 => .boolean
  | 15 => .array .int
  | 16 => .int
  | 17 => .array .int
  | 18 => .array .int
  | 19 => .array .int
  | 20 => .array .int
  | 21 => .array .int
  | 22 => .array .int
  | 23 => .array .int
  | 24 => .array .int
  | 25 => .array .int
  | 26 => .array .boolean
  | 27 => .array .int
  | 28 => .array .int
  | 29 => .int
  | 30 => .int
  | 31 => .int
  | 32 => .int
  | 33 => .int
  | 34 => .int
  | 35 => .array .int
  | 36 => .array .int
  | 37 => .array .int
  | 38 => .int
  | 39 => .int
  | 40 => .array .long
  | 41 => .long
  | 42 => .array .int
  | 43 => .array .int
  | 44 => .array .int
  | 45 => .array .int
  | 46 => .array .int
  | 47 => .array .int
  | 48 => .int
  | 49 => .array .int
  | 50 => .array .int
  | 51 => .array .int
  | _ => .array .int
theorem n_M : ∀ a, a < 53 → ∀ b, b < 53 → a ≠ b → (F_M a).2.1 ≠ (F_M b).2.1 := by decide +kernel
theorem ty_M_ok : ∀ k, k < 53 → parseFieldDescriptor (F_M k).2.2.1 = some (ty_M k) := by decide +kernel
theorem in_M : ∀ w ∈ u_ws R_M F_M 53, w ∈ Tg := by
  have e : u_ws R_M F_M 53 = [Cond.lays "PathTimingModel" "PathTimingModel" "thrown" "I", Cond.lays "PathTimingModel" "PathTimingModel" "period" "I", Cond.lays "PathTimingModel" "PathTimingModel" "width" "I", Cond.lays "PathTimingModel" "PathTimingModel" "nodes" "I", Cond.laysFinal "PathTimingModel" "PathTimingModel" "kinds" "[I", Cond.laysFinal "PathTimingModel" "PathTimingModel" "pins" "[I", Cond.laysFinal "PathTimingModel" "PathTimingModel" "froms" "[I", Cond.laysFinal "PathTimingModel" "PathTimingModel" "wireEarly" "[I", Cond.laysFinal "PathTimingModel" "PathTimingModel" "wireLate" "[I", Cond.laysFinal "PathTimingModel" "PathTimingModel" "senses" "[I", Cond.laysFinal "PathTimingModel" "PathTimingModel" "delayEarly" "[I", Cond.laysFinal "PathTimingModel" "PathTimingModel" "delayLate" "[I", Cond.laysFinal "PathTimingModel" "PathTimingModel" "firstOf" "[I", Cond.laysFinal "PathTimingModel" "PathTimingModel" "secondOf" "[I", Cond.lays "PathTimingModel" "PathTimingModel" "analysed" "Z", Cond.laysFinal "PathTimingModel" "PathTimingModel" "order" "[I", Cond.lays "PathTimingModel" "PathTimingModel" "gates" "I", Cond.laysFinal "PathTimingModel" "PathTimingModel" "wayCount" "[I", Cond.laysFinal "PathTimingModel" "PathTimingModel" "wayBase" "[I", Cond.laysFinal "PathTimingModel" "PathTimingModel" "wayEarly" "[I", Cond.laysFinal "PathTimingModel" "PathTimingModel" "wayLate" "[I", Cond.laysFinal "PathTimingModel" "PathTimingModel" "wayLast" "[I", Cond.laysFinal "PathTimingModel" "PathTimingModel" "waySize" "[I", Cond.laysFinal "PathTimingModel" "PathTimingModel" "wayRows" "[I", Cond.laysFinal "PathTimingModel" "PathTimingModel" "waySpread" "[I", Cond.laysFinal "PathTimingModel" "PathTimingModel" "clockWays" "[I", Cond.laysFinal "PathTimingModel" "PathTimingModel" "there" "[Z", Cond.laysFinal "PathTimingModel" "PathTimingModel" "early" "[I", Cond.laysFinal "PathTimingModel" "PathTimingModel" "late" "[I", Cond.lays "PathTimingModel" "PathTimingModel" "startNode" "I", Cond.lays "PathTimingModel" "PathTimingModel" "startChange" "I", Cond.lays "PathTimingModel" "PathTimingModel" "startWay" "I", Cond.lays "PathTimingModel" "PathTimingModel" "startBase" "I", Cond.lays "PathTimingModel" "PathTimingModel" "startEarly" "I", Cond.lays "PathTimingModel" "PathTimingModel" "startLate" "I", Cond.laysFinal "PathTimingModel" "PathTimingModel" "least" "[I", Cond.laysFinal "PathTimingModel" "PathTimingModel" "greatest" "[I", Cond.laysFinal "PathTimingModel" "PathTimingModel" "slacks" "[I", Cond.lays "PathTimingModel" "PathTimingModel" "worstWith" "I", Cond.lays "PathTimingModel" "PathTimingModel" "worstWithout" "I", Cond.laysFinal "PathTimingModel" "PathTimingModel" "goals" "[J", Cond.lays "PathTimingModel" "PathTimingModel" "all" "J", Cond.laysFinal "PathTimingModel" "PathTimingModel" "atNode" "[I", Cond.laysFinal "PathTimingModel" "PathTimingModel" "atChange" "[I", Cond.laysFinal "PathTimingModel" "PathTimingModel" "atNext" "[I", Cond.laysFinal "PathTimingModel" "PathTimingModel" "atEarly" "[I", Cond.laysFinal "PathTimingModel" "PathTimingModel" "atLate" "[I", Cond.laysFinal "PathTimingModel" "PathTimingModel" "row" "[I", Cond.lays "PathTimingModel" "PathTimingModel" "rowSize" "I", Cond.laysFinal "PathTimingModel" "PathTimingModel" "listed" "[I", Cond.laysFinal "PathTimingModel" "PathTimingModel" "listSlack" "[I", Cond.laysFinal "PathTimingModel" "PathTimingModel" "listSize" "[I", Cond.laysFinal "PathTimingModel" "PathTimingModel" "listRows" "[I"] := rfl
  rw [e]
  exact List.forall_mem_cons.mpr ⟨m1074, List.forall_mem_cons.mpr ⟨m1076, List.forall_mem_cons.mpr ⟨m1078, List.forall_mem_cons.mpr ⟨m1080, List.forall_mem_cons.mpr ⟨m1082, List.forall_mem_cons.mpr ⟨m1084, List.forall_mem_cons.mpr ⟨m1086, List.forall_mem_cons.mpr ⟨m1088, List.forall_mem_cons.mpr ⟨m1090, List.forall_mem_cons.mpr ⟨m1092, List.forall_mem_cons.mpr ⟨m1094, List.forall_mem_cons.mpr ⟨m1096, List.forall_mem_cons.mpr ⟨m1098, List.forall_mem_cons.mpr ⟨m1100, List.forall_mem_cons.mpr ⟨m1102, List.forall_mem_cons.mpr ⟨m1104, List.forall_mem_cons.mpr ⟨m1106, List.forall_mem_cons.mpr ⟨m1108, List.forall_mem_cons.mpr ⟨m1110, List.forall_mem_cons.mpr ⟨m1112, List.forall_mem_cons.mpr ⟨m1114, List.forall_mem_cons.mpr ⟨m1116, List.forall_mem_cons.mpr ⟨m1118, List.forall_mem_cons.mpr ⟨m1120, List.forall_mem_cons.mpr ⟨m1122, List.forall_mem_cons.mpr ⟨m1124, List.forall_mem_cons.mpr ⟨m1126, List.forall_mem_cons.mpr ⟨m1128, List.forall_mem_cons.mpr ⟨m1130, List.forall_mem_cons.mpr ⟨m1132, List.forall_mem_cons.mpr ⟨m1134, List.forall_mem_cons.mpr ⟨m1136, List.forall_mem_cons.mpr ⟨m1138, List.forall_mem_cons.mpr ⟨m1140, List.forall_mem_cons.mpr ⟨m1142, List.forall_mem_cons.mpr ⟨m1144, List.forall_mem_cons.mpr ⟨m1146, List.forall_mem_cons.mpr ⟨m1148, List.forall_mem_cons.mpr ⟨m1150, List.forall_mem_cons.mpr ⟨m1152, List.forall_mem_cons.mpr ⟨m1154, List.forall_mem_cons.mpr ⟨m1156, List.forall_mem_cons.mpr ⟨m1158, List.forall_mem_cons.mpr ⟨m1160, List.forall_mem_cons.mpr ⟨m1162, List.forall_mem_cons.mpr ⟨m1164, List.forall_mem_cons.mpr ⟨m1166, List.forall_mem_cons.mpr ⟨m1168, List.forall_mem_cons.mpr ⟨m1170, List.forall_mem_cons.mpr ⟨m1172, List.forall_mem_cons.mpr ⟨m1174, List.forall_mem_cons.mpr ⟨m1176, List.forall_mem_cons.mpr ⟨m1178, fun _ h => absurd h List.not_mem_nil⟩⟩⟩⟩⟩⟩⟩⟩⟩⟩⟩⟩⟩⟩⟩⟩⟩⟩⟩⟩⟩⟩⟩⟩⟩⟩⟩⟩⟩⟩⟩⟩⟩⟩⟩⟩⟩⟩⟩⟩⟩⟩⟩⟩⟩⟩⟩⟩⟩⟩⟩⟩⟩
def R_Arrays : String := "java/util/Arrays"
def R_Long : String := "java/lang/Long"
def R_Law : String := "PathTimingLaw"
abbrev vwCl : List vw_C := [(R_T, F_T, 7), (R_Net, F_Net, 15), (R_GateOrder, F_GateOrder, 4), (R_Spread, F_Spread, 5), (R_ClockWays, F_ClockWays, 17), (R_Arrivals, F_Arrivals, 4), (R_Rooms, F_Rooms, 7), (R_Slacks, F_Slacks, 8), (R_WorstPaths, F_WorstPaths, 12), (R_PathList, F_PathList, 5), (R_M, F_M, 53)]
abbrev o_T (a : Nat → Nat) (i_analysed : Int) : Nat × va_E := (a 0, .inr (0, [.ref (a 43), .ref (a 40), .ref (a 10), .ref (a 1), .ref (a 2), .ref (a 4), .int (iI i_analysed)]))
abbrev o_N (a : Nat → Nat) (i_period : Int) (i_width : Int) (i_size : Int) : Nat × va_E := (a 43, .inr (1, [.int (iI i_period), .int (iI i_width), .int (iI i_size), .ref (a 44), .ref (a 45), .ref (a 46), .ref (a 47), .ref (a 48), .ref (a 49), .ref (a 50), .ref (a 51), .ref (a 52), .ref (a 53), .ref (a 54), .ref (a 55)]))
abbrev o_O (a : Nat → Nat) (i_count : Int) : Nat × va_E := (a 40, .inr (2, [.ref (a 43), .ref (a 41), .ref (a 42), .int (iI i_count)]))
abbrev o_X (aX aX_count aX_early aX_late b_net b_order : Nat)  : Nat × va_E := (aX, .inr (3, [.ref b_net, .ref b_order, .ref aX_count, .ref aX_early, .ref aX_late]))
abbrev o_K (a : Nat → Nat)  : Nat × va_E := (a 24, .inr (3, [.ref (a 43), .ref (a 40), .ref (a 25), .ref (a 26), .ref (a 27)]))
abbrev o_S (a : Nat → Nat)  : Nat × va_E := (a 28, .inr (3, [.ref (a 43), .ref (a 40), .ref (a 29), .ref (a 30), .ref (a 31)]))
abbrev o_Z (a : Nat → Nat)  : Nat × va_E := (a 32, .inr (3, [.ref (a 43), .ref (a 40), .ref (a 33), .ref (a 34), .ref (a 35)]))
abbrev o_V (a : Nat → Nat)  : Nat × va_E := (a 36, .inr (3, [.ref (a 43), .ref (a 40), .ref (a 37), .ref (a 38), .ref (a 39)]))
abbrev o_C (a : Nat → Nat) (i_size : Int) : Nat × va_E := (a 10, .inr (4, [.ref (a 43), .ref (a 40), .ref (a 24), .ref (a 11), .int (iI i_size), .ref (a 12), .ref (a 13), .ref (a 14), .ref (a 15), .ref (a 16), .ref (a 17), .ref (a 18), .ref (a 19), .ref (a 20), .ref (a 21), .ref (a 22), .ref (a 23)]))
abbrev o_A (a : Nat → Nat)  : Nat × va_E := (a 1, .inr (5, [.ref (a 43), .ref (a 10), .ref (a 32), .ref (a 36)]))
abbrev o_R (a : Nat → Nat) (i_leastMoving : Int) (i_leastFixed : Int) (i_leastHold : Int) : Nat × va_E := (a 7, .inr (6, [.ref (a 43), .ref (a 10), .ref (a 8), .ref (a 9), .int (iI i_leastMoving), .int (iI i_leastFixed), .int (iI i_leastHold)]))
abbrev o_L (a : Nat → Nat) (i_leastMoving : Int) (i_leastFixed : Int) (i_pathCount : Int) : Nat × va_E := (a 2, .inr (7, [.ref (a 43), .ref (a 10), .ref (a 28), .ref (a 7), .ref (a 3), .int (iI i_leastMoving), .int (iI i_leastFixed), .int (iI i_pathCount)]))
abbrev o_P (a : Nat → Nat) (i_start : Int) (i_end : Int) (i_endChange : Int) (i_isCollected : Int) : Nat × va_E := (a 4, .inr (8, [.ref (a 43), .ref (a 10), .ref (a 28), .ref (a 7), .ref (a 56), .ref (a 61), .ref (a 5), .ref (a 6), .int (iI i_start), .int (iI i_end), .int (iI i_endChange), .int (iI i_isCollected)]))
abbrev o_G (aG aG_slotOf aG_slacks aG_lengths aG_rows : Nat) (i_size : Int) : Nat × va_E := (aG, .inr (9, [.int (iI i_size), .ref aG_slotOf, .ref aG_slacks, .ref aG_lengths, .ref aG_rows]))
abbrev o_Y (a : Nat → Nat) (i_size : Int) : Nat × va_E := (a 56, .inr (9, [.int (iI i_size), .ref (a 57), .ref (a 58), .ref (a 59), .ref (a 60)]))
abbrev o_B (a : Nat → Nat) (i_size : Int) : Nat × va_E := (a 61, .inr (9, [.int (iI i_size), .ref (a 62), .ref (a 63), .ref (a 64), .ref (a 65)]))
abbrev o_M (a : Nat → Nat) (i_thrown : Int) (i_period : Int) (i_width : Int) (i_nodes : Int) (i_analysed : Int) (i_gates : Int) (i_startNode : Int) (i_startChange : Int) (i_startWay : Int) (i_startBase : Int) (i_startEarly : Int) (i_startLate : Int) (i_worstWith : Int) (i_worstWithout : Int) (i_all : Int64) (i_rowSize : Int) : Nat × va_E := (a 0, .inr (10, [.int (iI i_thrown), .int (iI i_period), .int (iI i_width), .int (iI i_nodes), .ref (a 1), .ref (a 2), .ref (a 3), .ref (a 4), .ref (a 5), .ref (a 6), .ref (a 7), .ref (a 8), .ref (a 9), .ref (a 10), .int (iI i_analysed), .ref (a 11), .int (iI i_gates), .ref (a 12), .ref (a 13), .ref (a 14), .ref (a 15), .ref (a 16), .ref (a 17), .ref (a 18), .ref (a 19), .ref (a 20), .ref (a 21), .ref (a 22), .ref (a 23), .int (iI i_startNode), .int (iI i_startChange), .int (iI i_startWay), .int (iI i_startBase), .int (iI i_startEarly), .int (iI i_startLate), .ref (a 24), .ref (a 25), .ref (a 26), .int (iI i_worstWith), .int (iI i_worstWithout), .ref (a 27), .long i_all, .ref (a 28), .ref (a 29), .ref (a 30), .ref (a 31), .ref (a 32), .ref (a 33), .int (iI i_rowSize), .ref (a 34), .ref (a 35), .ref (a 36), .ref (a 37)]))
def y_T_init : MethodName := ⟨"PathTiming", "<init>", "()V"⟩
abbrev w_T_init : List Cond := Cond.code y_T_init prog_1_method_1_code 3 (Option.none : Option Jvm.ClassFile.FieldType) :: Tg
theorem hc_T_init : y_T_init.cls ≠ "java/lang/invoke/MethodHandle" ∧ y_T_init.cls ≠ "java/lang/invoke/VarHandle" ∧ (parseMethodDescriptor y_T_init.desc).map (fun d => d.parameters.length) = some 0 := ⟨by decide +kernel, by decide +kernel, by decide +kernel⟩
def y_T_clock : MethodName := ⟨"PathTiming", "clock", "(II)V"⟩
abbrev w_T_clock : List Cond := Cond.code y_T_clock prog_1_method_2_code 3 (Option.none : Option Jvm.ClassFile.FieldType) :: Tg
theorem hc_T_clock : y_T_clock.cls ≠ "java/lang/invoke/MethodHandle" ∧ y_T_clock.cls ≠ "java/lang/invoke/VarHandle" ∧ (parseMethodDescriptor y_T_clock.desc).map (fun d => d.parameters.length) = some 2 := ⟨by decide +kernel, by decide +kernel, by decide +kernel⟩
def y_T_input : MethodName := ⟨"PathTiming", "input", "(IIII)I"⟩
abbrev w_T_input : List Cond := Cond.code y_T_input prog_1_method_3_code 6 (Option.some Jvm.ClassFile.FieldType.int) :: Tg
theorem hc_T_input : y_T_input.cls ≠ "java/lang/invoke/MethodHandle" ∧ y_T_input.cls ≠ "java/lang/invoke/VarHandle" ∧ (parseMethodDescriptor y_T_input.desc).map (fun d => d.parameters.length) = some 4 := ⟨by decide +kernel, by decide +kernel, by decide +kernel⟩
def y_T_gate : MethodName := ⟨"PathTiming", "gate", "(I)I"⟩
abbrev w_T_gate : List Cond := Cond.code y_T_gate prog_1_method_4_code 2 (Option.some Jvm.ClassFile.FieldType.int) :: Tg
theorem hc_T_gate : y_T_gate.cls ≠ "java/lang/invoke/MethodHandle" ∧ y_T_gate.cls ≠ "java/lang/invoke/VarHandle" ∧ (parseMethodDescriptor y_T_gate.desc).map (fun d => d.parameters.length) = some 1 := ⟨by decide +kernel, by decide +kernel, by decide +kernel⟩
def y_T_register : MethodName := ⟨"PathTiming", "register", "()I"⟩
abbrev w_T_register : List Cond := Cond.code y_T_register prog_1_method_5_code 1 (Option.some Jvm.ClassFile.FieldType.int) :: Tg
theorem hc_T_register : y_T_register.cls ≠ "java/lang/invoke/MethodHandle" ∧ y_T_register.cls ≠ "java/lang/invoke/VarHandle" ∧ (parseMethodDescriptor y_T_register.desc).map (fun d => d.parameters.length) = some 0 := ⟨by decide +kernel, by decide +kernel, by decide +kernel⟩
def y_T_output : MethodName := ⟨"PathTiming", "output", "()I"⟩
abbrev w_T_output : List Cond := Cond.code y_T_output prog_1_method_6_code 1 (Option.some Jvm.ClassFile.FieldType.int) :: Tg
theorem hc_T_output : y_T_output.cls ≠ "java/lang/invoke/MethodHandle" ∧ y_T_output.cls ≠ "java/lang/invoke/VarHandle" ∧ (parseMethodDescriptor y_T_output.desc).map (fun d => d.parameters.length) = some 0 := ⟨by decide +kernel, by decide +kernel, by decide +kernel⟩
def y_T_wire : MethodName := ⟨"PathTiming", "wire", "(IIIII)V"⟩
abbrev w_T_wire : List Cond := Cond.code y_T_wire prog_1_method_7_code 6 (Option.none : Option Jvm.ClassFile.FieldType) :: Tg
theorem hc_T_wire : y_T_wire.cls ≠ "java/lang/invoke/MethodHandle" ∧ y_T_wire.cls ≠ "java/lang/invoke/VarHandle" ∧ (parseMethodDescriptor y_T_wire.desc).map (fun d => d.parameters.length) = some 5 := ⟨by decide +kernel, by decide +kernel, by decide +kernel⟩
def y_T_sense : MethodName := ⟨"PathTiming", "sense", "(III)V"⟩
abbrev w_T_sense : List Cond := Cond.code y_T_sense prog_1_method_8_code 4 (Option.none : Option Jvm.ClassFile.FieldType) :: Tg
theorem hc_T_sense : y_T_sense.cls ≠ "java/lang/invoke/MethodHandle" ∧ y_T_sense.cls ≠ "java/lang/invoke/VarHandle" ∧ (parseMethodDescriptor y_T_sense.desc).map (fun d => d.parameters.length) = some 3 := ⟨by decide +kernel, by decide +kernel, by decide +kernel⟩
def y_T_delay : MethodName := ⟨"PathTiming", "delay", "(IIIII)V"⟩
abbrev w_T_delay : List Cond := Cond.code y_T_delay prog_1_method_9_code 6 (Option.none : Option Jvm.ClassFile.FieldType) :: Tg
theorem hc_T_delay : y_T_delay.cls ≠ "java/lang/invoke/MethodHandle" ∧ y_T_delay.cls ≠ "java/lang/invoke/VarHandle" ∧ (parseMethodDescriptor y_T_delay.desc).map (fun d => d.parameters.length) = some 5 := ⟨by decide +kernel, by decide +kernel, by decide +kernel⟩
def y_T_check : MethodName := ⟨"PathTiming", "check", "(IIII)V"⟩
abbrev w_T_check : List Cond := Cond.code y_T_check prog_1_method_10_code 5 (Option.none : Option Jvm.ClassFile.FieldType) :: Tg
theorem hc_T_check : y_T_check.cls ≠ "java/lang/invoke/MethodHandle" ∧ y_T_check.cls ≠ "java/lang/invoke/VarHandle" ∧ (parseMethodDescriptor y_T_check.desc).map (fun d => d.parameters.length) = some 4 := ⟨by decide +kernel, by decide +kernel, by decide +kernel⟩
def y_T_analyse : MethodName := ⟨"PathTiming", "analyse", "()I"⟩
abbrev w_T_analyse : List Cond := Cond.code y_T_analyse prog_1_method_11_code 1 (Option.some Jvm.ClassFile.FieldType.int) :: Tg
theorem hc_T_analyse : y_T_analyse.cls ≠ "java/lang/invoke/MethodHandle" ∧ y_T_analyse.cls ≠ "java/lang/invoke/VarHandle" ∧ (parseMethodDescriptor y_T_analyse.desc).map (fun d => d.parameters.length) = some 0 := ⟨by decide +kernel, by decide +kernel, by decide +kernel⟩
def y_T_cycle : MethodName := ⟨"PathTiming", "cycle", "()I"⟩
abbrev w_T_cycle : List Cond := Cond.code y_T_cycle prog_1_method_12_code 1 (Option.some Jvm.ClassFile.FieldType.int) :: Tg
theorem hc_T_cycle : y_T_cycle.cls ≠ "java/lang/invoke/MethodHandle" ∧ y_T_cycle.cls ≠ "java/lang/invoke/VarHandle" ∧ (parseMethodDescriptor y_T_cycle.desc).map (fun d => d.parameters.length) = some 0 := ⟨by decide +kernel, by decide +kernel, by decide +kernel⟩
def y_T_ways : MethodName := ⟨"PathTiming", "ways", "(I)I"⟩
abbrev w_T_ways : List Cond := Cond.code y_T_ways prog_1_method_13_code 2 (Option.some Jvm.ClassFile.FieldType.int) :: Tg
theorem hc_T_ways : y_T_ways.cls ≠ "java/lang/invoke/MethodHandle" ∧ y_T_ways.cls ≠ "java/lang/invoke/VarHandle" ∧ (parseMethodDescriptor y_T_ways.desc).map (fun d => d.parameters.length) = some 1 := ⟨by decide +kernel, by decide +kernel, by decide +kernel⟩
def y_T_arrival : MethodName := ⟨"PathTiming", "arrival", "(IIIZ)I"⟩
abbrev w_T_arrival : List Cond := Cond.code y_T_arrival prog_1_method_14_code 5 (Option.some Jvm.ClassFile.FieldType.int) :: Tg
theorem hc_T_arrival : y_T_arrival.cls ≠ "java/lang/invoke/MethodHandle" ∧ y_T_arrival.cls ≠ "java/lang/invoke/VarHandle" ∧ (parseMethodDescriptor y_T_arrival.desc).map (fun d => d.parameters.length) = some 4 := ⟨by decide +kernel, by decide +kernel, by decide +kernel⟩
def y_T_slack : MethodName := ⟨"PathTiming", "slack", "(II)I"⟩
abbrev w_T_slack : List Cond := Cond.code y_T_slack prog_1_method_15_code 3 (Option.some Jvm.ClassFile.FieldType.int) :: Tg
theorem hc_T_slack : y_T_slack.cls ≠ "java/lang/invoke/MethodHandle" ∧ y_T_slack.cls ≠ "java/lang/invoke/VarHandle" ∧ (parseMethodDescriptor y_T_slack.desc).map (fun d => d.parameters.length) = some 2 := ⟨by decide +kernel, by decide +kernel, by decide +kernel⟩
def y_T_worst : MethodName := ⟨"PathTiming", "worst", "(I)I"⟩
abbrev w_T_worst : List Cond := Cond.code y_T_worst prog_1_method_16_code 2 (Option.some Jvm.ClassFile.FieldType.int) :: Tg
theorem hc_T_worst : y_T_worst.cls ≠ "java/lang/invoke/MethodHandle" ∧ y_T_worst.cls ≠ "java/lang/invoke/VarHandle" ∧ (parseMethodDescriptor y_T_worst.desc).map (fun d => d.parameters.length) = some 1 := ⟨by decide +kernel, by decide +kernel, by decide +kernel⟩
def y_T_total : MethodName := ⟨"PathTiming", "total", "(I)I"⟩
abbrev w_T_total : List Cond := Cond.code y_T_total prog_1_method_17_code 2 (Option.some Jvm.ClassFile.FieldType.int) :: Tg
theorem hc_T_total : y_T_total.cls ≠ "java/lang/invoke/MethodHandle" ∧ y_T_total.cls ≠ "java/lang/invoke/VarHandle" ∧ (parseMethodDescriptor y_T_total.desc).map (fun d => d.parameters.length) = some 1 := ⟨by decide +kernel, by decide +kernel, by decide +kernel⟩
def y_T_leastPeriod : MethodName := ⟨"PathTiming", "leastPeriod", "()I"⟩
abbrev w_T_leastPeriod : List Cond := Cond.code y_T_leastPeriod prog_1_method_18_code 1 (Option.some Jvm.ClassFile.FieldType.int) :: Tg
theorem hc_T_leastPeriod : y_T_leastPeriod.cls ≠ "java/lang/invoke/MethodHandle" ∧ y_T_leastPeriod.cls ≠ "java/lang/invoke/VarHandle" ∧ (parseMethodDescriptor y_T_leastPeriod.desc).map (fun d => d.parameters.length) = some 0 := ⟨by decide +kernel, by decide +kernel, by decide +kernel⟩
def y_T_paths : MethodName := ⟨"PathTiming", "paths", "()I"⟩
abbrev w_T_paths : List Cond := Cond.code y_T_paths prog_1_method_19_code 1 (Option.some Jvm.ClassFile.FieldType.int) :: Tg
theorem hc_T_paths : y_T_paths.cls ≠ "java/lang/invoke/MethodHandle" ∧ y_T_paths.cls ≠ "java/lang/invoke/VarHandle" ∧ (parseMethodDescriptor y_T_paths.desc).map (fun d => d.parameters.length) = some 0 := ⟨by decide +kernel, by decide +kernel, by decide +kernel⟩
def y_T_path : MethodName := ⟨"PathTiming", "path", "(II)I"⟩
abbrev w_T_path : List Cond := Cond.code y_T_path prog_1_method_20_code 3 (Option.some Jvm.ClassFile.FieldType.int) :: Tg
theorem hc_T_path : y_T_path.cls ≠ "java/lang/invoke/MethodHandle" ∧ y_T_path.cls ≠ "java/lang/invoke/VarHandle" ∧ (parseMethodDescriptor y_T_path.desc).map (fun d => d.parameters.length) = some 2 := ⟨by decide +kernel, by decide +kernel, by decide +kernel⟩
def y_T_element : MethodName := ⟨"PathTiming", "element", "(III)I"⟩
abbrev w_T_element : List Cond := Cond.code y_T_element prog_1_method_21_code 4 (Option.some Jvm.ClassFile.FieldType.int) :: Tg
theorem hc_T_element : y_T_element.cls ≠ "java/lang/invoke/MethodHandle" ∧ y_T_element.cls ≠ "java/lang/invoke/VarHandle" ∧ (parseMethodDescriptor y_T_element.desc).map (fun d => d.parameters.length) = some 3 := ⟨by decide +kernel, by decide +kernel, by decide +kernel⟩
def y_T_addNode : MethodName := ⟨"PathTiming", "addNode", "(II)I"⟩
abbrev w_T_addNode : List Cond := Cond.code y_T_addNode prog_1_method_22_code 3 (Option.some Jvm.ClassFile.FieldType.int) :: Tg
theorem hc_T_addNode : y_T_addNode.cls ≠ "java/lang/invoke/MethodHandle" ∧ y_T_addNode.cls ≠ "java/lang/invoke/VarHandle" ∧ (parseMethodDescriptor y_T_addNode.desc).map (fun d => d.parameters.length) = some 2 := ⟨by decide +kernel, by decide +kernel, by decide +kernel⟩
def y_T_needAnalysis : MethodName := ⟨"PathTiming", "needAnalysis", "()V"⟩
abbrev w_T_needAnalysis : List Cond := Cond.code y_T_needAnalysis prog_1_method_23_code 1 (Option.none : Option Jvm.ClassFile.FieldType) :: Tg
theorem hc_T_needAnalysis : y_T_needAnalysis.cls ≠ "java/lang/invoke/MethodHandle" ∧ y_T_needAnalysis.cls ≠ "java/lang/invoke/VarHandle" ∧ (parseMethodDescriptor y_T_needAnalysis.desc).map (fun d => d.parameters.length) = some 0 := ⟨by decide +kernel, by decide +kernel, by decide +kernel⟩
def y_T_needPath : MethodName := ⟨"PathTiming", "needPath", "(II)V"⟩
abbrev w_T_needPath : List Cond := Cond.code y_T_needPath prog_1_method_24_code 3 (Option.none : Option Jvm.ClassFile.FieldType) :: Tg
theorem hc_T_needPath : y_T_needPath.cls ≠ "java/lang/invoke/MethodHandle" ∧ y_T_needPath.cls ≠ "java/lang/invoke/VarHandle" ∧ (parseMethodDescriptor y_T_needPath.desc).map (fun d => d.parameters.length) = some 2 := ⟨by decide +kernel, by decide +kernel, by decide +kernel⟩
def y_T_needBit : MethodName := ⟨"PathTiming", "needBit", "(I)V"⟩
abbrev w_T_needBit : List Cond := Cond.code y_T_needBit prog_1_method_25_code 1 (Option.none : Option Jvm.ClassFile.FieldType) :: Tg
theorem hc_T_needBit : y_T_needBit.cls ≠ "java/lang/invoke/MethodHandle" ∧ y_T_needBit.cls ≠ "java/lang/invoke/VarHandle" ∧ (parseMethodDescriptor y_T_needBit.desc).map (fun d => d.parameters.length) = some 1 := ⟨by decide +kernel, by decide +kernel, by decide +kernel⟩
def y_T_isBit : MethodName := ⟨"PathTiming", "isBit", "(I)Z"⟩
abbrev w_T_isBit : List Cond := Cond.code y_T_isBit prog_1_method_26_code 1 (Option.some Jvm.ClassFile.FieldType.boolean) :: Tg
theorem hc_T_isBit : y_T_isBit.cls ≠ "java/lang/invoke/MethodHandle" ∧ y_T_isBit.cls ≠ "java/lang/invoke/VarHandle" ∧ (parseMethodDescriptor y_T_isBit.desc).map (fun d => d.parameters.length) = some 1 := ⟨by decide +kernel, by decide +kernel, by decide +kernel⟩
def y_T_isWithin : MethodName := ⟨"PathTiming", "isWithin", "(III)Z"⟩
abbrev w_T_isWithin : List Cond := Cond.code y_T_isWithin prog_1_method_27_code 3 (Option.some Jvm.ClassFile.FieldType.boolean) :: Tg
theorem hc_T_isWithin : y_T_isWithin.cls ≠ "java/lang/invoke/MethodHandle" ∧ y_T_isWithin.cls ≠ "java/lang/invoke/VarHandle" ∧ (parseMethodDescriptor y_T_isWithin.desc).map (fun d => d.parameters.length) = some 3 := ⟨by decide +kernel, by decide +kernel, by decide +kernel⟩
def y_T_isDelay : MethodName := ⟨"PathTiming", "isDelay", "(II)Z"⟩
abbrev w_T_isDelay : List Cond := Cond.code y_T_isDelay prog_1_method_28_code 2 (Option.some Jvm.ClassFile.FieldType.boolean) :: Tg
theorem hc_T_isDelay : y_T_isDelay.cls ≠ "java/lang/invoke/MethodHandle" ∧ y_T_isDelay.cls ≠ "java/lang/invoke/VarHandle" ∧ (parseMethodDescriptor y_T_isDelay.desc).map (fun d => d.parameters.length) = some 2 := ⟨by decide +kernel, by decide +kernel, by decide +kernel⟩
def y_T_isInputTime : MethodName := ⟨"PathTiming", "isInputTime", "(II)Z"⟩
abbrev w_T_isInputTime : List Cond := Cond.code y_T_isInputTime prog_1_method_29_code 2 (Option.some Jvm.ClassFile.FieldType.boolean) :: Tg
theorem hc_T_isInputTime : y_T_isInputTime.cls ≠ "java/lang/invoke/MethodHandle" ∧ y_T_isInputTime.cls ≠ "java/lang/invoke/VarHandle" ∧ (parseMethodDescriptor y_T_isInputTime.desc).map (fun d => d.parameters.length) = some 2 := ⟨by decide +kernel, by decide +kernel, by decide +kernel⟩
def y_T_isCheckTime : MethodName := ⟨"PathTiming", "isCheckTime", "(I)Z"⟩
abbrev w_T_isCheckTime : List Cond := Cond.code y_T_isCheckTime prog_1_method_30_code 1 (Option.some Jvm.ClassFile.FieldType.boolean) :: Tg
theorem hc_T_isCheckTime : y_T_isCheckTime.cls ≠ "java/lang/invoke/MethodHandle" ∧ y_T_isCheckTime.cls ≠ "java/lang/invoke/VarHandle" ∧ (parseMethodDescriptor y_T_isCheckTime.desc).map (fun d => d.parameters.length) = some 1 := ⟨by decide +kernel, by decide +kernel, by decide +kernel⟩
def y_T_elementOf : MethodName := ⟨"PathTiming", "elementOf", "(III)I"⟩
abbrev w_T_elementOf : List Cond := Cond.code y_T_elementOf prog_1_method_31_code 3 (Option.some Jvm.ClassFile.FieldType.int) :: Tg
theorem hc_T_elementOf : y_T_elementOf.cls ≠ "java/lang/invoke/MethodHandle" ∧ y_T_elementOf.cls ≠ "java/lang/invoke/VarHandle" ∧ (parseMethodDescriptor y_T_elementOf.desc).map (fun d => d.parameters.length) = some 3 := ⟨by decide +kernel, by decide +kernel, by decide +kernel⟩
def y_M_init : MethodName := ⟨"PathTimingModel", "<init>", "()V"⟩
abbrev w_M_init : List Cond := Cond.code y_M_init prog_12_method_1_code 1 (Option.none : Option Jvm.ClassFile.FieldType) :: Tg
theorem hc_M_init : y_M_init.cls ≠ "java/lang/invoke/MethodHandle" ∧ y_M_init.cls ≠ "java/lang/invoke/VarHandle" ∧ (parseMethodDescriptor y_M_init.desc).map (fun d => d.parameters.length) = some 0 := ⟨by decide +kernel, by decide +kernel, by decide +kernel⟩
def y_M_thrown : MethodName := ⟨"PathTimingModel", "thrown", "()I"⟩
abbrev w_M_thrown : List Cond := Cond.code y_M_thrown prog_12_method_2_code 1 (Option.some Jvm.ClassFile.FieldType.int) :: Tg
theorem hc_M_thrown : y_M_thrown.cls ≠ "java/lang/invoke/MethodHandle" ∧ y_M_thrown.cls ≠ "java/lang/invoke/VarHandle" ∧ (parseMethodDescriptor y_M_thrown.desc).map (fun d => d.parameters.length) = some 0 := ⟨by decide +kernel, by decide +kernel, by decide +kernel⟩
def y_M_clearNode : MethodName := ⟨"PathTimingModel", "clearNode", "(III)V"⟩
abbrev w_M_clearNode : List Cond := Cond.code y_M_clearNode prog_12_method_3_code 6 (Option.none : Option Jvm.ClassFile.FieldType) :: Tg
theorem hc_M_clearNode : y_M_clearNode.cls ≠ "java/lang/invoke/MethodHandle" ∧ y_M_clearNode.cls ≠ "java/lang/invoke/VarHandle" ∧ (parseMethodDescriptor y_M_clearNode.desc).map (fun d => d.parameters.length) = some 3 := ⟨by decide +kernel, by decide +kernel, by decide +kernel⟩
def y_M_add : MethodName := ⟨"PathTimingModel", "add", "(II)I"⟩
abbrev w_M_add : List Cond := Cond.code y_M_add prog_12_method_4_code 3 (Option.some Jvm.ClassFile.FieldType.int) :: Tg
theorem hc_M_add : y_M_add.cls ≠ "java/lang/invoke/MethodHandle" ∧ y_M_add.cls ≠ "java/lang/invoke/VarHandle" ∧ (parseMethodDescriptor y_M_add.desc).map (fun d => d.parameters.length) = some 2 := ⟨by decide +kernel, by decide +kernel, by decide +kernel⟩
def y_M_clock : MethodName := ⟨"PathTimingModel", "clock", "(II)V"⟩
abbrev w_M_clock : List Cond := Cond.code y_M_clock prog_12_method_5_code 3 (Option.none : Option Jvm.ClassFile.FieldType) :: Tg
theorem hc_M_clock : y_M_clock.cls ≠ "java/lang/invoke/MethodHandle" ∧ y_M_clock.cls ≠ "java/lang/invoke/VarHandle" ∧ (parseMethodDescriptor y_M_clock.desc).map (fun d => d.parameters.length) = some 2 := ⟨by decide +kernel, by decide +kernel, by decide +kernel⟩
def y_M_noTimes : MethodName := ⟨"PathTimingModel", "noTimes", "(IIII)Z"⟩
abbrev w_M_noTimes : List Cond := Cond.code y_M_noTimes prog_12_method_6_code 4 (Option.some Jvm.ClassFile.FieldType.boolean) :: Tg
theorem hc_M_noTimes : y_M_noTimes.cls ≠ "java/lang/invoke/MethodHandle" ∧ y_M_noTimes.cls ≠ "java/lang/invoke/VarHandle" ∧ (parseMethodDescriptor y_M_noTimes.desc).map (fun d => d.parameters.length) = some 4 := ⟨by decide +kernel, by decide +kernel, by decide +kernel⟩
def y_M_input : MethodName := ⟨"PathTimingModel", "input", "(IIII)I"⟩
abbrev w_M_input : List Cond := Cond.code y_M_input prog_12_method_7_code 6 (Option.some Jvm.ClassFile.FieldType.int) :: Tg
theorem hc_M_input : y_M_input.cls ≠ "java/lang/invoke/MethodHandle" ∧ y_M_input.cls ≠ "java/lang/invoke/VarHandle" ∧ (parseMethodDescriptor y_M_input.desc).map (fun d => d.parameters.length) = some 4 := ⟨by decide +kernel, by decide +kernel, by decide +kernel⟩
def y_M_gate : MethodName := ⟨"PathTimingModel", "gate", "(I)I"⟩
abbrev w_M_gate : List Cond := Cond.code y_M_gate prog_12_method_8_code 2 (Option.some Jvm.ClassFile.FieldType.int) :: Tg
theorem hc_M_gate : y_M_gate.cls ≠ "java/lang/invoke/MethodHandle" ∧ y_M_gate.cls ≠ "java/lang/invoke/VarHandle" ∧ (parseMethodDescriptor y_M_gate.desc).map (fun d => d.parameters.length) = some 1 := ⟨by decide +kernel, by decide +kernel, by decide +kernel⟩
def y_M_register : MethodName := ⟨"PathTimingModel", "register", "()I"⟩
abbrev w_M_register : List Cond := Cond.code y_M_register prog_12_method_9_code 1 (Option.some Jvm.ClassFile.FieldType.int) :: Tg
theorem hc_M_register : y_M_register.cls ≠ "java/lang/invoke/MethodHandle" ∧ y_M_register.cls ≠ "java/lang/invoke/VarHandle" ∧ (parseMethodDescriptor y_M_register.desc).map (fun d => d.parameters.length) = some 0 := ⟨by decide +kernel, by decide +kernel, by decide +kernel⟩
def y_M_output : MethodName := ⟨"PathTimingModel", "output", "()I"⟩
abbrev w_M_output : List Cond := Cond.code y_M_output prog_12_method_10_code 1 (Option.some Jvm.ClassFile.FieldType.int) :: Tg
theorem hc_M_output : y_M_output.cls ≠ "java/lang/invoke/MethodHandle" ∧ y_M_output.cls ≠ "java/lang/invoke/VarHandle" ∧ (parseMethodDescriptor y_M_output.desc).map (fun d => d.parameters.length) = some 0 := ⟨by decide +kernel, by decide +kernel, by decide +kernel⟩
def y_M_noPin : MethodName := ⟨"PathTimingModel", "noPin", "(II)Z"⟩
abbrev w_M_noPin : List Cond := Cond.code y_M_noPin prog_12_method_11_code 3 (Option.some Jvm.ClassFile.FieldType.boolean) :: Tg
theorem hc_M_noPin : y_M_noPin.cls ≠ "java/lang/invoke/MethodHandle" ∧ y_M_noPin.cls ≠ "java/lang/invoke/VarHandle" ∧ (parseMethodDescriptor y_M_noPin.desc).map (fun d => d.parameters.length) = some 2 := ⟨by decide +kernel, by decide +kernel, by decide +kernel⟩
def y_M_wire : MethodName := ⟨"PathTimingModel", "wire", "(IIIII)V"⟩
abbrev w_M_wire : List Cond := Cond.code y_M_wire prog_12_method_12_code 6 (Option.none : Option Jvm.ClassFile.FieldType) :: Tg
theorem hc_M_wire : y_M_wire.cls ≠ "java/lang/invoke/MethodHandle" ∧ y_M_wire.cls ≠ "java/lang/invoke/VarHandle" ∧ (parseMethodDescriptor y_M_wire.desc).map (fun d => d.parameters.length) = some 5 := ⟨by decide +kernel, by decide +kernel, by decide +kernel⟩
def y_M_sense : MethodName := ⟨"PathTimingModel", "sense", "(III)V"⟩
abbrev w_M_sense : List Cond := Cond.code y_M_sense prog_12_method_13_code 4 (Option.none : Option Jvm.ClassFile.FieldType) :: Tg
theorem hc_M_sense : y_M_sense.cls ≠ "java/lang/invoke/MethodHandle" ∧ y_M_sense.cls ≠ "java/lang/invoke/VarHandle" ∧ (parseMethodDescriptor y_M_sense.desc).map (fun d => d.parameters.length) = some 3 := ⟨by decide +kernel, by decide +kernel, by decide +kernel⟩
def y_M_delay : MethodName := ⟨"PathTimingModel", "delay", "(IIIII)V"⟩
abbrev w_M_delay : List Cond := Cond.code y_M_delay prog_12_method_14_code 6 (Option.none : Option Jvm.ClassFile.FieldType) :: Tg
theorem hc_M_delay : y_M_delay.cls ≠ "java/lang/invoke/MethodHandle" ∧ y_M_delay.cls ≠ "java/lang/invoke/VarHandle" ∧ (parseMethodDescriptor y_M_delay.desc).map (fun d => d.parameters.length) = some 5 := ⟨by decide +kernel, by decide +kernel, by decide +kernel⟩
def y_M_isEnd : MethodName := ⟨"PathTimingModel", "isEnd", "(I)Z"⟩
abbrev w_M_isEnd : List Cond := Cond.code y_M_isEnd prog_12_method_15_code 2 (Option.some Jvm.ClassFile.FieldType.boolean) :: Tg
theorem hc_M_isEnd : y_M_isEnd.cls ≠ "java/lang/invoke/MethodHandle" ∧ y_M_isEnd.cls ≠ "java/lang/invoke/VarHandle" ∧ (parseMethodDescriptor y_M_isEnd.desc).map (fun d => d.parameters.length) = some 1 := ⟨by decide +kernel, by decide +kernel, by decide +kernel⟩
def y_M_check : MethodName := ⟨"PathTimingModel", "check", "(IIII)V"⟩
abbrev w_M_check : List Cond := Cond.code y_M_check prog_12_method_16_code 5 (Option.none : Option Jvm.ClassFile.FieldType) :: Tg
theorem hc_M_check : y_M_check.cls ≠ "java/lang/invoke/MethodHandle" ∧ y_M_check.cls ≠ "java/lang/invoke/VarHandle" ∧ (parseMethodDescriptor y_M_check.desc).map (fun d => d.parameters.length) = some 4 := ⟨by decide +kernel, by decide +kernel, by decide +kernel⟩
def y_M_isGate : MethodName := ⟨"PathTimingModel", "isGate", "(I)Z"⟩
abbrev w_M_isGate : List Cond := Cond.code y_M_isGate prog_12_method_17_code 2 (Option.some Jvm.ClassFile.FieldType.boolean) :: Tg
theorem hc_M_isGate : y_M_isGate.cls ≠ "java/lang/invoke/MethodHandle" ∧ y_M_isGate.cls ≠ "java/lang/invoke/VarHandle" ∧ (parseMethodDescriptor y_M_isGate.desc).map (fun d => d.parameters.length) = some 1 := ⟨by decide +kernel, by decide +kernel, by decide +kernel⟩
def y_M_isRound : MethodName := ⟨"PathTimingModel", "isRound", "(I)Z"⟩
abbrev w_M_isRound : List Cond := Cond.code y_M_isRound prog_12_method_18_code 6 (Option.some Jvm.ClassFile.FieldType.boolean) :: Tg
theorem hc_M_isRound : y_M_isRound.cls ≠ "java/lang/invoke/MethodHandle" ∧ y_M_isRound.cls ≠ "java/lang/invoke/VarHandle" ∧ (parseMethodDescriptor y_M_isRound.desc).map (fun d => d.parameters.length) = some 1 := ⟨by decide +kernel, by decide +kernel, by decide +kernel⟩
def y_M_cycle : MethodName := ⟨"PathTimingModel", "cycle", "()I"⟩
abbrev w_M_cycle : List Cond := Cond.code y_M_cycle prog_12_method_19_code 2 (Option.some Jvm.ClassFile.FieldType.int) :: Tg
theorem hc_M_cycle : y_M_cycle.cls ≠ "java/lang/invoke/MethodHandle" ∧ y_M_cycle.cls ≠ "java/lang/invoke/VarHandle" ∧ (parseMethodDescriptor y_M_cycle.desc).map (fun d => d.parameters.length) = some 0 := ⟨by decide +kernel, by decide +kernel, by decide +kernel⟩
def y_M_sort : MethodName := ⟨"PathTimingModel", "sort", "()V"⟩
abbrev w_M_sort : List Cond := Cond.code y_M_sort prog_12_method_20_code 6 (Option.none : Option Jvm.ClassFile.FieldType) :: Tg
theorem hc_M_sort : y_M_sort.cls ≠ "java/lang/invoke/MethodHandle" ∧ y_M_sort.cls ≠ "java/lang/invoke/VarHandle" ∧ (parseMethodDescriptor y_M_sort.desc).map (fun d => d.parameters.length) = some 0 := ⟨by decide +kernel, by decide +kernel, by decide +kernel⟩
def y_M_lets : MethodName := ⟨"PathTimingModel", "lets", "(IIII)Z"⟩
abbrev w_M_lets : List Cond := Cond.code y_M_lets prog_12_method_21_code 6 (Option.some Jvm.ClassFile.FieldType.boolean) :: Tg
theorem hc_M_lets : y_M_lets.cls ≠ "java/lang/invoke/MethodHandle" ∧ y_M_lets.cls ≠ "java/lang/invoke/VarHandle" ∧ (parseMethodDescriptor y_M_lets.desc).map (fun d => d.parameters.length) = some 4 := ⟨by decide +kernel, by decide +kernel, by decide +kernel⟩
def y_M_countClock : MethodName := ⟨"PathTimingModel", "countClock", "()V"⟩
abbrev w_M_countClock : List Cond := Cond.code y_M_countClock prog_12_method_22_code 7 (Option.none : Option Jvm.ClassFile.FieldType) :: Tg
theorem hc_M_countClock : y_M_countClock.cls ≠ "java/lang/invoke/MethodHandle" ∧ y_M_countClock.cls ≠ "java/lang/invoke/VarHandle" ∧ (parseMethodDescriptor y_M_countClock.desc).map (fun d => d.parameters.length) = some 0 := ⟨by decide +kernel, by decide +kernel, by decide +kernel⟩
def y_M_keepWay : MethodName := ⟨"PathTimingModel", "keepWay", "(II)V"⟩
abbrev w_M_keepWay : List Cond := Cond.code y_M_keepWay prog_12_method_23_code 12 (Option.none : Option Jvm.ClassFile.FieldType) :: Tg
theorem hc_M_keepWay : y_M_keepWay.cls ≠ "java/lang/invoke/MethodHandle" ∧ y_M_keepWay.cls ≠ "java/lang/invoke/VarHandle" ∧ (parseMethodDescriptor y_M_keepWay.desc).map (fun d => d.parameters.length) = some 2 := ⟨by decide +kernel, by decide +kernel, by decide +kernel⟩
def y_M_findWays : MethodName := ⟨"PathTimingModel", "findWays", "(I)V"⟩
abbrev w_M_findWays : List Cond := Cond.code y_M_findWays prog_12_method_24_code 7 (Option.none : Option Jvm.ClassFile.FieldType) :: Tg
theorem hc_M_findWays : y_M_findWays.cls ≠ "java/lang/invoke/MethodHandle" ∧ y_M_findWays.cls ≠ "java/lang/invoke/VarHandle" ∧ (parseMethodDescriptor y_M_findWays.desc).map (fun d => d.parameters.length) = some 1 := ⟨by decide +kernel, by decide +kernel, by decide +kernel⟩
def y_M_clearStart : MethodName := ⟨"PathTimingModel", "clearStart", "()V"⟩
abbrev w_M_clearStart : List Cond := Cond.code y_M_clearStart prog_12_method_25_code 2 (Option.none : Option Jvm.ClassFile.FieldType) :: Tg
theorem hc_M_clearStart : y_M_clearStart.cls ≠ "java/lang/invoke/MethodHandle" ∧ y_M_clearStart.cls ≠ "java/lang/invoke/VarHandle" ∧ (parseMethodDescriptor y_M_clearStart.desc).map (fun d => d.parameters.length) = some 0 := ⟨by decide +kernel, by decide +kernel, by decide +kernel⟩
def y_M_reach : MethodName := ⟨"PathTimingModel", "reach", "(III)V"⟩
abbrev w_M_reach : List Cond := Cond.code y_M_reach prog_12_method_26_code 4 (Option.none : Option Jvm.ClassFile.FieldType) :: Tg
theorem hc_M_reach : y_M_reach.cls ≠ "java/lang/invoke/MethodHandle" ∧ y_M_reach.cls ≠ "java/lang/invoke/VarHandle" ∧ (parseMethodDescriptor y_M_reach.desc).map (fun d => d.parameters.length) = some 3 := ⟨by decide +kernel, by decide +kernel, by decide +kernel⟩
def y_M_lead : MethodName := ⟨"PathTimingModel", "lead", "()V"⟩
abbrev w_M_lead : List Cond := Cond.code y_M_lead prog_12_method_27_code 8 (Option.none : Option Jvm.ClassFile.FieldType) :: Tg
theorem hc_M_lead : y_M_lead.cls ≠ "java/lang/invoke/MethodHandle" ∧ y_M_lead.cls ≠ "java/lang/invoke/VarHandle" ∧ (parseMethodDescriptor y_M_lead.desc).map (fun d => d.parameters.length) = some 0 := ⟨by decide +kernel, by decide +kernel, by decide +kernel⟩
def y_M_arrive : MethodName := ⟨"PathTimingModel", "arrive", "(IIII)V"⟩
abbrev w_M_arrive : List Cond := Cond.code y_M_arrive prog_12_method_28_code 6 (Option.none : Option Jvm.ClassFile.FieldType) :: Tg
theorem hc_M_arrive : y_M_arrive.cls ≠ "java/lang/invoke/MethodHandle" ∧ y_M_arrive.cls ≠ "java/lang/invoke/VarHandle" ∧ (parseMethodDescriptor y_M_arrive.desc).map (fun d => d.parameters.length) = some 4 := ⟨by decide +kernel, by decide +kernel, by decide +kernel⟩
def y_M_credit : MethodName := ⟨"PathTimingModel", "credit", "(I)I"⟩
abbrev w_M_credit : List Cond := Cond.code y_M_credit prog_12_method_29_code 4 (Option.some Jvm.ClassFile.FieldType.int) :: Tg
theorem hc_M_credit : y_M_credit.cls ≠ "java/lang/invoke/MethodHandle" ∧ y_M_credit.cls ≠ "java/lang/invoke/VarHandle" ∧ (parseMethodDescriptor y_M_credit.desc).map (fun d => d.parameters.length) = some 1 := ⟨by decide +kernel, by decide +kernel, by decide +kernel⟩
def y_M_edge : MethodName := ⟨"PathTimingModel", "edge", "(I)I"⟩
abbrev w_M_edge : List Cond := Cond.code y_M_edge prog_12_method_30_code 3 (Option.some Jvm.ClassFile.FieldType.int) :: Tg
theorem hc_M_edge : y_M_edge.cls ≠ "java/lang/invoke/MethodHandle" ∧ y_M_edge.cls ≠ "java/lang/invoke/VarHandle" ∧ (parseMethodDescriptor y_M_edge.desc).map (fun d => d.parameters.length) = some 1 := ⟨by decide +kernel, by decide +kernel, by decide +kernel⟩
def y_M_slackOf : MethodName := ⟨"PathTimingModel", "slackOf", "(IIIIII)I"⟩
abbrev w_M_slackOf : List Cond := Cond.code y_M_slackOf prog_12_method_31_code 7 (Option.some Jvm.ClassFile.FieldType.int) :: Tg
theorem hc_M_slackOf : y_M_slackOf.cls ≠ "java/lang/invoke/MethodHandle" ∧ y_M_slackOf.cls ≠ "java/lang/invoke/VarHandle" ∧ (parseMethodDescriptor y_M_slackOf.desc).map (fun d => d.parameters.length) = some 6 := ⟨by decide +kernel, by decide +kernel, by decide +kernel⟩
def y_M_meet : MethodName := ⟨"PathTimingModel", "meet", "(IIIII)V"⟩
abbrev w_M_meet : List Cond := Cond.code y_M_meet prog_12_method_32_code 9 (Option.none : Option Jvm.ClassFile.FieldType) :: Tg
theorem hc_M_meet : y_M_meet.cls ≠ "java/lang/invoke/MethodHandle" ∧ y_M_meet.cls ≠ "java/lang/invoke/VarHandle" ∧ (parseMethodDescriptor y_M_meet.desc).map (fun d => d.parameters.length) = some 5 := ⟨by decide +kernel, by decide +kernel, by decide +kernel⟩
def y_M_finishAt : MethodName := ⟨"PathTimingModel", "finishAt", "(I)V"⟩
abbrev w_M_finishAt : List Cond := Cond.code y_M_finishAt prog_12_method_33_code 7 (Option.none : Option Jvm.ClassFile.FieldType) :: Tg
theorem hc_M_finishAt : y_M_finishAt.cls ≠ "java/lang/invoke/MethodHandle" ∧ y_M_finishAt.cls ≠ "java/lang/invoke/VarHandle" ∧ (parseMethodDescriptor y_M_finishAt.desc).map (fun d => d.parameters.length) = some 1 := ⟨by decide +kernel, by decide +kernel, by decide +kernel⟩
def y_M_fromStart : MethodName := ⟨"PathTimingModel", "fromStart", "()V"⟩
abbrev w_M_fromStart : List Cond := Cond.code y_M_fromStart prog_12_method_34_code 3 (Option.none : Option Jvm.ClassFile.FieldType) :: Tg
theorem hc_M_fromStart : y_M_fromStart.cls ≠ "java/lang/invoke/MethodHandle" ∧ y_M_fromStart.cls ≠ "java/lang/invoke/VarHandle" ∧ (parseMethodDescriptor y_M_fromStart.desc).map (fun d => d.parameters.length) = some 0 := ⟨by decide +kernel, by decide +kernel, by decide +kernel⟩
def y_M_setStart : MethodName := ⟨"PathTimingModel", "setStart", "(II)V"⟩
abbrev w_M_setStart : List Cond := Cond.code y_M_setStart prog_12_method_35_code 3 (Option.none : Option Jvm.ClassFile.FieldType) :: Tg
theorem hc_M_setStart : y_M_setStart.cls ≠ "java/lang/invoke/MethodHandle" ∧ y_M_setStart.cls ≠ "java/lang/invoke/VarHandle" ∧ (parseMethodDescriptor y_M_setStart.desc).map (fun d => d.parameters.length) = some 2 := ⟨by decide +kernel, by decide +kernel, by decide +kernel⟩
def y_M_starts : MethodName := ⟨"PathTimingModel", "starts", "(I)I"⟩
abbrev w_M_starts : List Cond := Cond.code y_M_starts prog_12_method_36_code 2 (Option.some Jvm.ClassFile.FieldType.int) :: Tg
theorem hc_M_starts : y_M_starts.cls ≠ "java/lang/invoke/MethodHandle" ∧ y_M_starts.cls ≠ "java/lang/invoke/VarHandle" ∧ (parseMethodDescriptor y_M_starts.desc).map (fun d => d.parameters.length) = some 1 := ⟨by decide +kernel, by decide +kernel, by decide +kernel⟩
def y_M_countGoals : MethodName := ⟨"PathTimingModel", "countGoals", "()V"⟩
abbrev w_M_countGoals : List Cond := Cond.code y_M_countGoals prog_12_method_37_code 7 (Option.none : Option Jvm.ClassFile.FieldType) :: Tg
theorem hc_M_countGoals : y_M_countGoals.cls ≠ "java/lang/invoke/MethodHandle" ∧ y_M_countGoals.cls ≠ "java/lang/invoke/VarHandle" ∧ (parseMethodDescriptor y_M_countGoals.desc).map (fun d => d.parameters.length) = some 0 := ⟨by decide +kernel, by decide +kernel, by decide +kernel⟩
def y_M_isBefore : MethodName := ⟨"PathTimingModel", "isBefore", "(II)Z"⟩
abbrev w_M_isBefore : List Cond := Cond.code y_M_isBefore prog_12_method_38_code 4 (Option.some Jvm.ClassFile.FieldType.boolean) :: Tg
theorem hc_M_isBefore : y_M_isBefore.cls ≠ "java/lang/invoke/MethodHandle" ∧ y_M_isBefore.cls ≠ "java/lang/invoke/VarHandle" ∧ (parseMethodDescriptor y_M_isBefore.desc).map (fun d => d.parameters.length) = some 2 := ⟨by decide +kernel, by decide +kernel, by decide +kernel⟩
def y_M_list : MethodName := ⟨"PathTimingModel", "list", "(II)V"⟩
abbrev w_M_list : List Cond := Cond.code y_M_list prog_12_method_39_code 7 (Option.none : Option Jvm.ClassFile.FieldType) :: Tg
theorem hc_M_list : y_M_list.cls ≠ "java/lang/invoke/MethodHandle" ∧ y_M_list.cls ≠ "java/lang/invoke/VarHandle" ∧ (parseMethodDescriptor y_M_list.desc).map (fun d => d.parameters.length) = some 2 := ⟨by decide +kernel, by decide +kernel, by decide +kernel⟩
def y_M_end : MethodName := ⟨"PathTimingModel", "end", "(IIIIII)V"⟩
abbrev w_M_end : List Cond := Cond.code y_M_end prog_12_method_40_code 8 (Option.none : Option Jvm.ClassFile.FieldType) :: Tg
theorem hc_M_end : y_M_end.cls ≠ "java/lang/invoke/MethodHandle" ∧ y_M_end.cls ≠ "java/lang/invoke/VarHandle" ∧ (parseMethodDescriptor y_M_end.desc).map (fun d => d.parameters.length) = some 6 := ⟨by decide +kernel, by decide +kernel, by decide +kernel⟩
def y_M_endAll : MethodName := ⟨"PathTimingModel", "endAll", "(IIIII)V"⟩
abbrev w_M_endAll : List Cond := Cond.code y_M_endAll prog_12_method_41_code 7 (Option.none : Option Jvm.ClassFile.FieldType) :: Tg
theorem hc_M_endAll : y_M_endAll.cls ≠ "java/lang/invoke/MethodHandle" ∧ y_M_endAll.cls ≠ "java/lang/invoke/VarHandle" ∧ (parseMethodDescriptor y_M_endAll.desc).map (fun d => d.parameters.length) = some 5 := ⟨by decide +kernel, by decide +kernel, by decide +kernel⟩
def y_M_startRow : MethodName := ⟨"PathTimingModel", "startRow", "()I"⟩
abbrev w_M_startRow : List Cond := Cond.code y_M_startRow prog_12_method_42_code 3 (Option.some Jvm.ClassFile.FieldType.int) :: Tg
theorem hc_M_startRow : y_M_startRow.cls ≠ "java/lang/invoke/MethodHandle" ∧ y_M_startRow.cls ≠ "java/lang/invoke/VarHandle" ∧ (parseMethodDescriptor y_M_startRow.desc).map (fun d => d.parameters.length) = some 0 := ⟨by decide +kernel, by decide +kernel, by decide +kernel⟩
def y_M_walk : MethodName := ⟨"PathTimingModel", "walk", "()V"⟩
abbrev w_M_walk : List Cond := Cond.code y_M_walk prog_12_method_43_code 9 (Option.none : Option Jvm.ClassFile.FieldType) :: Tg
theorem hc_M_walk : y_M_walk.cls ≠ "java/lang/invoke/MethodHandle" ∧ y_M_walk.cls ≠ "java/lang/invoke/VarHandle" ∧ (parseMethodDescriptor y_M_walk.desc).map (fun d => d.parameters.length) = some 0 := ⟨by decide +kernel, by decide +kernel, by decide +kernel⟩
def y_M_clearAll : MethodName := ⟨"PathTimingModel", "clearAll", "()V"⟩
abbrev w_M_clearAll : List Cond := Cond.code y_M_clearAll prog_12_method_44_code 2 (Option.none : Option Jvm.ClassFile.FieldType) :: Tg
theorem hc_M_clearAll : y_M_clearAll.cls ≠ "java/lang/invoke/MethodHandle" ∧ y_M_clearAll.cls ≠ "java/lang/invoke/VarHandle" ∧ (parseMethodDescriptor y_M_clearAll.desc).map (fun d => d.parameters.length) = some 0 := ⟨by decide +kernel, by decide +kernel, by decide +kernel⟩
def y_M_analyse : MethodName := ⟨"PathTimingModel", "analyse", "()I"⟩
abbrev w_M_analyse : List Cond := Cond.code y_M_analyse prog_12_method_45_code 3 (Option.some Jvm.ClassFile.FieldType.int) :: Tg
theorem hc_M_analyse : y_M_analyse.cls ≠ "java/lang/invoke/MethodHandle" ∧ y_M_analyse.cls ≠ "java/lang/invoke/VarHandle" ∧ (parseMethodDescriptor y_M_analyse.desc).map (fun d => d.parameters.length) = some 0 := ⟨by decide +kernel, by decide +kernel, by decide +kernel⟩
def y_M_noBit : MethodName := ⟨"PathTimingModel", "noBit", "(I)Z"⟩
abbrev w_M_noBit : List Cond := Cond.code y_M_noBit prog_12_method_46_code 1 (Option.some Jvm.ClassFile.FieldType.boolean) :: Tg
theorem hc_M_noBit : y_M_noBit.cls ≠ "java/lang/invoke/MethodHandle" ∧ y_M_noBit.cls ≠ "java/lang/invoke/VarHandle" ∧ (parseMethodDescriptor y_M_noBit.desc).map (fun d => d.parameters.length) = some 1 := ⟨by decide +kernel, by decide +kernel, by decide +kernel⟩
def y_M_ways : MethodName := ⟨"PathTimingModel", "ways", "(I)I"⟩
abbrev w_M_ways : List Cond := Cond.code y_M_ways prog_12_method_47_code 2 (Option.some Jvm.ClassFile.FieldType.int) :: Tg
theorem hc_M_ways : y_M_ways.cls ≠ "java/lang/invoke/MethodHandle" ∧ y_M_ways.cls ≠ "java/lang/invoke/VarHandle" ∧ (parseMethodDescriptor y_M_ways.desc).map (fun d => d.parameters.length) = some 1 := ⟨by decide +kernel, by decide +kernel, by decide +kernel⟩
def y_M_arrival : MethodName := ⟨"PathTimingModel", "arrival", "(IIIZ)I"⟩
abbrev w_M_arrival : List Cond := Cond.code y_M_arrival prog_12_method_48_code 5 (Option.some Jvm.ClassFile.FieldType.int) :: Tg
theorem hc_M_arrival : y_M_arrival.cls ≠ "java/lang/invoke/MethodHandle" ∧ y_M_arrival.cls ≠ "java/lang/invoke/VarHandle" ∧ (parseMethodDescriptor y_M_arrival.desc).map (fun d => d.parameters.length) = some 4 := ⟨by decide +kernel, by decide +kernel, by decide +kernel⟩
def y_M_slack : MethodName := ⟨"PathTimingModel", "slack", "(II)I"⟩
abbrev w_M_slack : List Cond := Cond.code y_M_slack prog_12_method_49_code 3 (Option.some Jvm.ClassFile.FieldType.int) :: Tg
theorem hc_M_slack : y_M_slack.cls ≠ "java/lang/invoke/MethodHandle" ∧ y_M_slack.cls ≠ "java/lang/invoke/VarHandle" ∧ (parseMethodDescriptor y_M_slack.desc).map (fun d => d.parameters.length) = some 2 := ⟨by decide +kernel, by decide +kernel, by decide +kernel⟩
def y_M_worst : MethodName := ⟨"PathTimingModel", "worst", "(I)I"⟩
abbrev w_M_worst : List Cond := Cond.code y_M_worst prog_12_method_50_code 5 (Option.some Jvm.ClassFile.FieldType.int) :: Tg
theorem hc_M_worst : y_M_worst.cls ≠ "java/lang/invoke/MethodHandle" ∧ y_M_worst.cls ≠ "java/lang/invoke/VarHandle" ∧ (parseMethodDescriptor y_M_worst.desc).map (fun d => d.parameters.length) = some 1 := ⟨by decide +kernel, by decide +kernel, by decide +kernel⟩
def y_M_total : MethodName := ⟨"PathTimingModel", "total", "(I)I"⟩
abbrev w_M_total : List Cond := Cond.code y_M_total prog_12_method_51_code 5 (Option.some Jvm.ClassFile.FieldType.int) :: Tg
theorem hc_M_total : y_M_total.cls ≠ "java/lang/invoke/MethodHandle" ∧ y_M_total.cls ≠ "java/lang/invoke/VarHandle" ∧ (parseMethodDescriptor y_M_total.desc).map (fun d => d.parameters.length) = some 1 := ⟨by decide +kernel, by decide +kernel, by decide +kernel⟩
def y_M_leastPeriod : MethodName := ⟨"PathTimingModel", "leastPeriod", "()I"⟩
abbrev w_M_leastPeriod : List Cond := Cond.code y_M_leastPeriod prog_12_method_52_code 2 (Option.some Jvm.ClassFile.FieldType.int) :: Tg
theorem hc_M_leastPeriod : y_M_leastPeriod.cls ≠ "java/lang/invoke/MethodHandle" ∧ y_M_leastPeriod.cls ≠ "java/lang/invoke/VarHandle" ∧ (parseMethodDescriptor y_M_leastPeriod.desc).map (fun d => d.parameters.length) = some 0 := ⟨by decide +kernel, by decide +kernel, by decide +kernel⟩
def y_M_paths : MethodName := ⟨"PathTimingModel", "paths", "()I"⟩
abbrev w_M_paths : List Cond := Cond.code y_M_paths prog_12_method_53_code 1 (Option.some Jvm.ClassFile.FieldType.int) :: Tg
theorem hc_M_paths : y_M_paths.cls ≠ "java/lang/invoke/MethodHandle" ∧ y_M_paths.cls ≠ "java/lang/invoke/VarHandle" ∧ (parseMethodDescriptor y_M_paths.desc).map (fun d => d.parameters.length) = some 0 := ⟨by decide +kernel, by decide +kernel, by decide +kernel⟩
def y_M_refused : MethodName := ⟨"PathTimingModel", "refused", "(II)I"⟩
abbrev w_M_refused : List Cond := Cond.code y_M_refused prog_12_method_54_code 3 (Option.some Jvm.ClassFile.FieldType.int) :: Tg
theorem hc_M_refused : y_M_refused.cls ≠ "java/lang/invoke/MethodHandle" ∧ y_M_refused.cls ≠ "java/lang/invoke/VarHandle" ∧ (parseMethodDescriptor y_M_refused.desc).map (fun d => d.parameters.length) = some 2 := ⟨by decide +kernel, by decide +kernel, by decide +kernel⟩
def y_M_path : MethodName := ⟨"PathTimingModel", "path", "(II)I"⟩
abbrev w_M_path : List Cond := Cond.code y_M_path prog_12_method_55_code 3 (Option.some Jvm.ClassFile.FieldType.int) :: Tg
theorem hc_M_path : y_M_path.cls ≠ "java/lang/invoke/MethodHandle" ∧ y_M_path.cls ≠ "java/lang/invoke/VarHandle" ∧ (parseMethodDescriptor y_M_path.desc).map (fun d => d.parameters.length) = some 2 := ⟨by decide +kernel, by decide +kernel, by decide +kernel⟩
def y_M_element : MethodName := ⟨"PathTimingModel", "element", "(III)I"⟩
abbrev w_M_element : List Cond := Cond.code y_M_element prog_12_method_56_code 4 (Option.some Jvm.ClassFile.FieldType.int) :: Tg
theorem hc_M_element : y_M_element.cls ≠ "java/lang/invoke/MethodHandle" ∧ y_M_element.cls ≠ "java/lang/invoke/VarHandle" ∧ (parseMethodDescriptor y_M_element.desc).map (fun d => d.parameters.length) = some 3 := ⟨by decide +kernel, by decide +kernel, by decide +kernel⟩
def y_Arrivals_init : MethodName := ⟨"PathTiming$Arrivals", "<init>", "(LPathTiming$Net;LPathTiming$ClockWays;LPathTiming$Spread;LPathTiming$Spread;)V"⟩
abbrev w_Arrivals_init : List Cond := Cond.code y_Arrivals_init prog_2_method_1_code 5 (Option.none : Option Jvm.ClassFile.FieldType) :: Tg
theorem hc_Arrivals_init : y_Arrivals_init.cls ≠ "java/lang/invoke/MethodHandle" ∧ y_Arrivals_init.cls ≠ "java/lang/invoke/VarHandle" ∧ (parseMethodDescriptor y_Arrivals_init.desc).map (fun d => d.parameters.length) = some 4 := ⟨by decide +kernel, by decide +kernel, by decide +kernel⟩
def y_Arrivals_reckon : MethodName := ⟨"PathTiming$Arrivals", "reckon", "()V"⟩
abbrev w_Arrivals_reckon : List Cond := Cond.code y_Arrivals_reckon prog_2_method_2_code 3 (Option.none : Option Jvm.ClassFile.FieldType) :: Tg
theorem hc_Arrivals_reckon : y_Arrivals_reckon.cls ≠ "java/lang/invoke/MethodHandle" ∧ y_Arrivals_reckon.cls ≠ "java/lang/invoke/VarHandle" ∧ (parseMethodDescriptor y_Arrivals_reckon.desc).map (fun d => d.parameters.length) = some 0 := ⟨by decide +kernel, by decide +kernel, by decide +kernel⟩
def y_Arrivals_timeAt : MethodName := ⟨"PathTiming$Arrivals", "timeAt", "(IIIZ)I"⟩
abbrev w_Arrivals_timeAt : List Cond := Cond.code y_Arrivals_timeAt prog_2_method_3_code 8 (Option.some Jvm.ClassFile.FieldType.int) :: Tg
theorem hc_Arrivals_timeAt : y_Arrivals_timeAt.cls ≠ "java/lang/invoke/MethodHandle" ∧ y_Arrivals_timeAt.cls ≠ "java/lang/invoke/VarHandle" ∧ (parseMethodDescriptor y_Arrivals_timeAt.desc).map (fun d => d.parameters.length) = some 4 := ⟨by decide +kernel, by decide +kernel, by decide +kernel⟩
def y_Arrivals_begin : MethodName := ⟨"PathTiming$Arrivals", "begin", "(II)V"⟩
abbrev w_Arrivals_begin : List Cond := Cond.code y_Arrivals_begin prog_2_method_4_code 6 (Option.none : Option Jvm.ClassFile.FieldType) :: Tg
theorem hc_Arrivals_begin : y_Arrivals_begin.cls ≠ "java/lang/invoke/MethodHandle" ∧ y_Arrivals_begin.cls ≠ "java/lang/invoke/VarHandle" ∧ (parseMethodDescriptor y_Arrivals_begin.desc).map (fun d => d.parameters.length) = some 2 := ⟨by decide +kernel, by decide +kernel, by decide +kernel⟩
def y_Arrivals_timeOf : MethodName := ⟨"PathTiming$Arrivals", "timeOf", "(LPathTiming$Spread;IZ)I"⟩
abbrev w_Arrivals_timeOf : List Cond := Cond.code y_Arrivals_timeOf prog_2_method_5_code 3 (Option.some Jvm.ClassFile.FieldType.int) :: Tg
theorem hc_Arrivals_timeOf : y_Arrivals_timeOf.cls ≠ "java/lang/invoke/MethodHandle" ∧ y_Arrivals_timeOf.cls ≠ "java/lang/invoke/VarHandle" ∧ (parseMethodDescriptor y_Arrivals_timeOf.desc).map (fun d => d.parameters.length) = some 3 := ⟨by decide +kernel, by decide +kernel, by decide +kernel⟩
def y_ClockWays_init : MethodName := ⟨"PathTiming$ClockWays", "<init>", "(LPathTiming$Net;LPathTiming$GateOrder;)V"⟩
abbrev w_ClockWays_init : List Cond := Cond.code y_ClockWays_init prog_3_method_1_code 3 (Option.none : Option Jvm.ClassFile.FieldType) :: Tg
theorem hc_ClockWays_init : y_ClockWays_init.cls ≠ "java/lang/invoke/MethodHandle" ∧ y_ClockWays_init.cls ≠ "java/lang/invoke/VarHandle" ∧ (parseMethodDescriptor y_ClockWays_init.desc).map (fun d => d.parameters.length) = some 2 := ⟨by decide +kernel, by decide +kernel, by decide +kernel⟩
def y_ClockWays_find : MethodName := ⟨"PathTiming$ClockWays", "find", "()Z"⟩
abbrev w_ClockWays_find : List Cond := Cond.code y_ClockWays_find prog_3_method_2_code 2 (Option.some Jvm.ClassFile.FieldType.boolean) :: Tg
theorem hc_ClockWays_find : y_ClockWays_find.cls ≠ "java/lang/invoke/MethodHandle" ∧ y_ClockWays_find.cls ≠ "java/lang/invoke/VarHandle" ∧ (parseMethodDescriptor y_ClockWays_find.desc).map (fun d => d.parameters.length) = some 0 := ⟨by decide +kernel, by decide +kernel, by decide +kernel⟩
def y_ClockWays_begins : MethodName := ⟨"PathTiming$ClockWays", "begins", "(I)Z"⟩
abbrev w_ClockWays_begins : List Cond := Cond.code y_ClockWays_begins prog_3_method_3_code 2 (Option.some Jvm.ClassFile.FieldType.boolean) :: Tg
theorem hc_ClockWays_begins : y_ClockWays_begins.cls ≠ "java/lang/invoke/MethodHandle" ∧ y_ClockWays_begins.cls ≠ "java/lang/invoke/VarHandle" ∧ (parseMethodDescriptor y_ClockWays_begins.desc).map (fun d => d.parameters.length) = some 1 := ⟨by decide +kernel, by decide +kernel, by decide +kernel⟩
def y_ClockWays_ends : MethodName := ⟨"PathTiming$ClockWays", "ends", "(I)Z"⟩
abbrev w_ClockWays_ends : List Cond := Cond.code y_ClockWays_ends prog_3_method_4_code 2 (Option.some Jvm.ClassFile.FieldType.boolean) :: Tg
theorem hc_ClockWays_ends : y_ClockWays_ends.cls ≠ "java/lang/invoke/MethodHandle" ∧ y_ClockWays_ends.cls ≠ "java/lang/invoke/VarHandle" ∧ (parseMethodDescriptor y_ClockWays_ends.desc).map (fun d => d.parameters.length) = some 1 := ⟨by decide +kernel, by decide +kernel, by decide +kernel⟩
def y_ClockWays_credit : MethodName := ⟨"PathTiming$ClockWays", "credit", "(IIII)I"⟩
abbrev w_ClockWays_credit : List Cond := Cond.code y_ClockWays_credit prog_3_method_5_code 10 (Option.some Jvm.ClassFile.FieldType.int) :: Tg
theorem hc_ClockWays_credit : y_ClockWays_credit.cls ≠ "java/lang/invoke/MethodHandle" ∧ y_ClockWays_credit.cls ≠ "java/lang/invoke/VarHandle" ∧ (parseMethodDescriptor y_ClockWays_credit.desc).map (fun d => d.parameters.length) = some 4 := ⟨by decide +kernel, by decide +kernel, by decide +kernel⟩
def y_ClockWays_write : MethodName := ⟨"PathTiming$ClockWays", "write", "(II[II)I"⟩
abbrev w_ClockWays_write : List Cond := Cond.code y_ClockWays_write prog_3_method_6_code 8 (Option.some Jvm.ClassFile.FieldType.int) :: Tg
theorem hc_ClockWays_write : y_ClockWays_write.cls ≠ "java/lang/invoke/MethodHandle" ∧ y_ClockWays_write.cls ≠ "java/lang/invoke/VarHandle" ∧ (parseMethodDescriptor y_ClockWays_write.desc).map (fun d => d.parameters.length) = some 4 := ⟨by decide +kernel, by decide +kernel, by decide +kernel⟩
def y_ClockWays_isTangled : MethodName := ⟨"PathTiming$ClockWays", "isTangled", "()Z"⟩
abbrev w_ClockWays_isTangled : List Cond := Cond.code y_ClockWays_isTangled prog_3_method_7_code 3 (Option.some Jvm.ClassFile.FieldType.boolean) :: Tg
theorem hc_ClockWays_isTangled : y_ClockWays_isTangled.cls ≠ "java/lang/invoke/MethodHandle" ∧ y_ClockWays_isTangled.cls ≠ "java/lang/invoke/VarHandle" ∧ (parseMethodDescriptor y_ClockWays_isTangled.desc).map (fun d => d.parameters.length) = some 0 := ⟨by decide +kernel, by decide +kernel, by decide +kernel⟩
def y_ClockWays_markNeeded : MethodName := ⟨"PathTiming$ClockWays", "markNeeded", "()V"⟩
abbrev w_ClockWays_markNeeded : List Cond := Cond.code y_ClockWays_markNeeded prog_3_method_8_code 3 (Option.none : Option Jvm.ClassFile.FieldType) :: Tg
theorem hc_ClockWays_markNeeded : y_ClockWays_markNeeded.cls ≠ "java/lang/invoke/MethodHandle" ∧ y_ClockWays_markNeeded.cls ≠ "java/lang/invoke/VarHandle" ∧ (parseMethodDescriptor y_ClockWays_markNeeded.desc).map (fun d => d.parameters.length) = some 0 := ⟨by decide +kernel, by decide +kernel, by decide +kernel⟩
def y_ClockWays_markNeededBy : MethodName := ⟨"PathTiming$ClockWays", "markNeededBy", "(II)V"⟩
abbrev w_ClockWays_markNeededBy : List Cond := Cond.code y_ClockWays_markNeededBy prog_3_method_9_code 6 (Option.none : Option Jvm.ClassFile.FieldType) :: Tg
theorem hc_ClockWays_markNeededBy : y_ClockWays_markNeededBy.cls ≠ "java/lang/invoke/MethodHandle" ∧ y_ClockWays_markNeededBy.cls ≠ "java/lang/invoke/VarHandle" ∧ (parseMethodDescriptor y_ClockWays_markNeededBy.desc).map (fun d => d.parameters.length) = some 2 := ⟨by decide +kernel, by decide +kernel, by decide +kernel⟩
def y_ClockWays_growTree : MethodName := ⟨"PathTiming$ClockWays", "growTree", "()V"⟩
abbrev w_ClockWays_growTree : List Cond := Cond.code y_ClockWays_growTree prog_3_method_10_code 4 (Option.none : Option Jvm.ClassFile.FieldType) :: Tg
theorem hc_ClockWays_growTree : y_ClockWays_growTree.cls ≠ "java/lang/invoke/MethodHandle" ∧ y_ClockWays_growTree.cls ≠ "java/lang/invoke/VarHandle" ∧ (parseMethodDescriptor y_ClockWays_growTree.desc).map (fun d => d.parameters.length) = some 0 := ⟨by decide +kernel, by decide +kernel, by decide +kernel⟩
def y_ClockWays_growBy : MethodName := ⟨"PathTiming$ClockWays", "growBy", "(III)V"⟩
abbrev w_ClockWays_growBy : List Cond := Cond.code y_ClockWays_growBy prog_3_method_11_code 10 (Option.none : Option Jvm.ClassFile.FieldType) :: Tg
theorem hc_ClockWays_growBy : y_ClockWays_growBy.cls ≠ "java/lang/invoke/MethodHandle" ∧ y_ClockWays_growBy.cls ≠ "java/lang/invoke/VarHandle" ∧ (parseMethodDescriptor y_ClockWays_growBy.desc).map (fun d => d.parameters.length) = some 3 := ⟨by decide +kernel, by decide +kernel, by decide +kernel⟩
def y_ClockWays_grow : MethodName := ⟨"PathTiming$ClockWays", "grow", "(IIIII)V"⟩
abbrev w_ClockWays_grow : List Cond := Cond.code y_ClockWays_grow prog_3_method_12_code 6 (Option.none : Option Jvm.ClassFile.FieldType) :: Tg
theorem hc_ClockWays_grow : y_ClockWays_grow.cls ≠ "java/lang/invoke/MethodHandle" ∧ y_ClockWays_grow.cls ≠ "java/lang/invoke/VarHandle" ∧ (parseMethodDescriptor y_ClockWays_grow.desc).map (fun d => d.parameters.length) = some 5 := ⟨by decide +kernel, by decide +kernel, by decide +kernel⟩
def y_ClockWays_gather : MethodName := ⟨"PathTiming$ClockWays", "gather", "(I)V"⟩
abbrev w_ClockWays_gather : List Cond := Cond.code y_ClockWays_gather prog_3_method_13_code 5 (Option.none : Option Jvm.ClassFile.FieldType) :: Tg
theorem hc_ClockWays_gather : y_ClockWays_gather.cls ≠ "java/lang/invoke/MethodHandle" ∧ y_ClockWays_gather.cls ≠ "java/lang/invoke/VarHandle" ∧ (parseMethodDescriptor y_ClockWays_gather.desc).map (fun d => d.parameters.length) = some 1 := ⟨by decide +kernel, by decide +kernel, by decide +kernel⟩
def y_ClockWays_addWay : MethodName := ⟨"PathTiming$ClockWays", "addWay", "(IIIII)V"⟩
abbrev w_ClockWays_addWay : List Cond := Cond.code y_ClockWays_addWay prog_3_method_14_code 7 (Option.none : Option Jvm.ClassFile.FieldType) :: Tg
theorem hc_ClockWays_addWay : y_ClockWays_addWay.cls ≠ "java/lang/invoke/MethodHandle" ∧ y_ClockWays_addWay.cls ≠ "java/lang/invoke/VarHandle" ∧ (parseMethodDescriptor y_ClockWays_addWay.desc).map (fun d => d.parameters.length) = some 5 := ⟨by decide +kernel, by decide +kernel, by decide +kernel⟩
def y_ClockWays_baseOf : MethodName := ⟨"PathTiming$ClockWays", "baseOf", "(I)I"⟩
abbrev w_ClockWays_baseOf : List Cond := Cond.code y_ClockWays_baseOf prog_3_method_15_code 4 (Option.some Jvm.ClassFile.FieldType.int) :: Tg
theorem hc_ClockWays_baseOf : y_ClockWays_baseOf.cls ≠ "java/lang/invoke/MethodHandle" ∧ y_ClockWays_baseOf.cls ≠ "java/lang/invoke/VarHandle" ∧ (parseMethodDescriptor y_ClockWays_baseOf.desc).map (fun d => d.parameters.length) = some 1 := ⟨by decide +kernel, by decide +kernel, by decide +kernel⟩
def y_ClockWays_sharedEnd : MethodName := ⟨"PathTiming$ClockWays", "sharedEnd", "(II)I"⟩
abbrev w_ClockWays_sharedEnd : List Cond := Cond.code y_ClockWays_sharedEnd prog_3_method_16_code 6 (Option.some Jvm.ClassFile.FieldType.int) :: Tg
theorem hc_ClockWays_sharedEnd : y_ClockWays_sharedEnd.cls ≠ "java/lang/invoke/MethodHandle" ∧ y_ClockWays_sharedEnd.cls ≠ "java/lang/invoke/VarHandle" ∧ (parseMethodDescriptor y_ClockWays_sharedEnd.desc).map (fun d => d.parameters.length) = some 2 := ⟨by decide +kernel, by decide +kernel, by decide +kernel⟩
def y_GateOrder_init : MethodName := ⟨"PathTiming$GateOrder", "<init>", "(LPathTiming$Net;)V"⟩
abbrev w_GateOrder_init : List Cond := Cond.code y_GateOrder_init prog_4_method_1_code 2 (Option.none : Option Jvm.ClassFile.FieldType) :: Tg
theorem hc_GateOrder_init : y_GateOrder_init.cls ≠ "java/lang/invoke/MethodHandle" ∧ y_GateOrder_init.cls ≠ "java/lang/invoke/VarHandle" ∧ (parseMethodDescriptor y_GateOrder_init.desc).map (fun d => d.parameters.length) = some 1 := ⟨by decide +kernel, by decide +kernel, by decide +kernel⟩
def y_GateOrder_leastOnCycle : MethodName := ⟨"PathTiming$GateOrder", "leastOnCycle", "()I"⟩
abbrev w_GateOrder_leastOnCycle : List Cond := Cond.code y_GateOrder_leastOnCycle prog_4_method_2_code 2 (Option.some Jvm.ClassFile.FieldType.int) :: Tg
theorem hc_GateOrder_leastOnCycle : y_GateOrder_leastOnCycle.cls ≠ "java/lang/invoke/MethodHandle" ∧ y_GateOrder_leastOnCycle.cls ≠ "java/lang/invoke/VarHandle" ∧ (parseMethodDescriptor y_GateOrder_leastOnCycle.desc).map (fun d => d.parameters.length) = some 0 := ⟨by decide +kernel, by decide +kernel, by decide +kernel⟩
def y_GateOrder_sort : MethodName := ⟨"PathTiming$GateOrder", "sort", "()V"⟩
abbrev w_GateOrder_sort : List Cond := Cond.code y_GateOrder_sort prog_4_method_3_code 3 (Option.none : Option Jvm.ClassFile.FieldType) :: Tg
theorem hc_GateOrder_sort : y_GateOrder_sort.cls ≠ "java/lang/invoke/MethodHandle" ∧ y_GateOrder_sort.cls ≠ "java/lang/invoke/VarHandle" ∧ (parseMethodDescriptor y_GateOrder_sort.desc).map (fun d => d.parameters.length) = some 0 := ⟨by decide +kernel, by decide +kernel, by decide +kernel⟩
def y_GateOrder_findLeading : MethodName := ⟨"PathTiming$GateOrder", "findLeading", "()V"⟩
abbrev w_GateOrder_findLeading : List Cond := Cond.code y_GateOrder_findLeading prog_4_method_4_code 3 (Option.none : Option Jvm.ClassFile.FieldType) :: Tg
theorem hc_GateOrder_findLeading : y_GateOrder_findLeading.cls ≠ "java/lang/invoke/MethodHandle" ∧ y_GateOrder_findLeading.cls ≠ "java/lang/invoke/VarHandle" ∧ (parseMethodDescriptor y_GateOrder_findLeading.desc).map (fun d => d.parameters.length) = some 0 := ⟨by decide +kernel, by decide +kernel, by decide +kernel⟩
def y_GateOrder_gatesWiredTo : MethodName := ⟨"PathTiming$GateOrder", "gatesWiredTo", "(I)J"⟩
abbrev w_GateOrder_gatesWiredTo : List Cond := Cond.code y_GateOrder_gatesWiredTo prog_4_method_5_code 6 (Option.some Jvm.ClassFile.FieldType.long) :: Tg
theorem hc_GateOrder_gatesWiredTo : y_GateOrder_gatesWiredTo.cls ≠ "java/lang/invoke/MethodHandle" ∧ y_GateOrder_gatesWiredTo.cls ≠ "java/lang/invoke/VarHandle" ∧ (parseMethodDescriptor y_GateOrder_gatesWiredTo.desc).map (fun d => d.parameters.length) = some 1 := ⟨by decide +kernel, by decide +kernel, by decide +kernel⟩
def y_GateOrder_has : MethodName := ⟨"PathTiming$GateOrder", "has", "(JI)Z"⟩
abbrev w_GateOrder_has : List Cond := Cond.code y_GateOrder_has prog_4_method_6_code 3 (Option.some Jvm.ClassFile.FieldType.boolean) :: Tg
theorem hc_GateOrder_has : y_GateOrder_has.cls ≠ "java/lang/invoke/MethodHandle" ∧ y_GateOrder_has.cls ≠ "java/lang/invoke/VarHandle" ∧ (parseMethodDescriptor y_GateOrder_has.desc).map (fun d => d.parameters.length) = some 2 := ⟨by decide +kernel, by decide +kernel, by decide +kernel⟩
def y_Net_init : MethodName := ⟨"PathTiming$Net", "<init>", "()V"⟩
abbrev w_Net_init : List Cond := Cond.code y_Net_init prog_5_method_1_code 1 (Option.none : Option Jvm.ClassFile.FieldType) :: Tg
theorem hc_Net_init : y_Net_init.cls ≠ "java/lang/invoke/MethodHandle" ∧ y_Net_init.cls ≠ "java/lang/invoke/VarHandle" ∧ (parseMethodDescriptor y_Net_init.desc).map (fun d => d.parameters.length) = some 0 := ⟨by decide +kernel, by decide +kernel, by decide +kernel⟩
def y_Net_add : MethodName := ⟨"PathTiming$Net", "add", "(II)I"⟩
abbrev w_Net_add : List Cond := Cond.code y_Net_add prog_5_method_2_code 3 (Option.some Jvm.ClassFile.FieldType.int) :: Tg
theorem hc_Net_add : y_Net_add.cls ≠ "java/lang/invoke/MethodHandle" ∧ y_Net_add.cls ≠ "java/lang/invoke/VarHandle" ∧ (parseMethodDescriptor y_Net_add.desc).map (fun d => d.parameters.length) = some 2 := ⟨by decide +kernel, by decide +kernel, by decide +kernel⟩
def y_Net_isNode : MethodName := ⟨"PathTiming$Net", "isNode", "(I)Z"⟩
abbrev w_Net_isNode : List Cond := Cond.code y_Net_isNode prog_5_method_3_code 2 (Option.some Jvm.ClassFile.FieldType.boolean) :: Tg
theorem hc_Net_isNode : y_Net_isNode.cls ≠ "java/lang/invoke/MethodHandle" ∧ y_Net_isNode.cls ≠ "java/lang/invoke/VarHandle" ∧ (parseMethodDescriptor y_Net_isNode.desc).map (fun d => d.parameters.length) = some 1 := ⟨by decide +kernel, by decide +kernel, by decide +kernel⟩
def y_Net_hasPin : MethodName := ⟨"PathTiming$Net", "hasPin", "(II)Z"⟩
abbrev w_Net_hasPin : List Cond := Cond.code y_Net_hasPin prog_5_method_4_code 3 (Option.some Jvm.ClassFile.FieldType.boolean) :: Tg
theorem hc_Net_hasPin : y_Net_hasPin.cls ≠ "java/lang/invoke/MethodHandle" ∧ y_Net_hasPin.cls ≠ "java/lang/invoke/VarHandle" ∧ (parseMethodDescriptor y_Net_hasPin.desc).map (fun d => d.parameters.length) = some 2 := ⟨by decide +kernel, by decide +kernel, by decide +kernel⟩
def y_Net_hasDelay : MethodName := ⟨"PathTiming$Net", "hasDelay", "(II)Z"⟩
abbrev w_Net_hasDelay : List Cond := Cond.code y_Net_hasDelay prog_5_method_5_code 3 (Option.some Jvm.ClassFile.FieldType.boolean) :: Tg
theorem hc_Net_hasDelay : y_Net_hasDelay.cls ≠ "java/lang/invoke/MethodHandle" ∧ y_Net_hasDelay.cls ≠ "java/lang/invoke/VarHandle" ∧ (parseMethodDescriptor y_Net_hasDelay.desc).map (fun d => d.parameters.length) = some 2 := ⟨by decide +kernel, by decide +kernel, by decide +kernel⟩
def y_Net_maySend : MethodName := ⟨"PathTiming$Net", "maySend", "(I)Z"⟩
abbrev w_Net_maySend : List Cond := Cond.code y_Net_maySend prog_5_method_6_code 2 (Option.some Jvm.ClassFile.FieldType.boolean) :: Tg
theorem hc_Net_maySend : y_Net_maySend.cls ≠ "java/lang/invoke/MethodHandle" ∧ y_Net_maySend.cls ≠ "java/lang/invoke/VarHandle" ∧ (parseMethodDescriptor y_Net_maySend.desc).map (fun d => d.parameters.length) = some 1 := ⟨by decide +kernel, by decide +kernel, by decide +kernel⟩
def y_Net_isStart : MethodName := ⟨"PathTiming$Net", "isStart", "(I)Z"⟩
abbrev w_Net_isStart : List Cond := Cond.code y_Net_isStart prog_5_method_7_code 2 (Option.some Jvm.ClassFile.FieldType.boolean) :: Tg
theorem hc_Net_isStart : y_Net_isStart.cls ≠ "java/lang/invoke/MethodHandle" ∧ y_Net_isStart.cls ≠ "java/lang/invoke/VarHandle" ∧ (parseMethodDescriptor y_Net_isStart.desc).map (fun d => d.parameters.length) = some 1 := ⟨by decide +kernel, by decide +kernel, by decide +kernel⟩
def y_Net_isEnd : MethodName := ⟨"PathTiming$Net", "isEnd", "(I)Z"⟩
abbrev w_Net_isEnd : List Cond := Cond.code y_Net_isEnd prog_5_method_8_code 2 (Option.some Jvm.ClassFile.FieldType.boolean) :: Tg
theorem hc_Net_isEnd : y_Net_isEnd.cls ≠ "java/lang/invoke/MethodHandle" ∧ y_Net_isEnd.cls ≠ "java/lang/invoke/VarHandle" ∧ (parseMethodDescriptor y_Net_isEnd.desc).map (fun d => d.parameters.length) = some 1 := ⟨by decide +kernel, by decide +kernel, by decide +kernel⟩
def y_Net_setWire : MethodName := ⟨"PathTiming$Net", "setWire", "(IIII)V"⟩
abbrev w_Net_setWire : List Cond := Cond.code y_Net_setWire prog_5_method_9_code 5 (Option.none : Option Jvm.ClassFile.FieldType) :: Tg
theorem hc_Net_setWire : y_Net_setWire.cls ≠ "java/lang/invoke/MethodHandle" ∧ y_Net_setWire.cls ≠ "java/lang/invoke/VarHandle" ∧ (parseMethodDescriptor y_Net_setWire.desc).map (fun d => d.parameters.length) = some 4 := ⟨by decide +kernel, by decide +kernel, by decide +kernel⟩
def y_Net_setGateDelay : MethodName := ⟨"PathTiming$Net", "setGateDelay", "(IIII)V"⟩
abbrev w_Net_setGateDelay : List Cond := Cond.code y_Net_setGateDelay prog_5_method_10_code 5 (Option.none : Option Jvm.ClassFile.FieldType) :: Tg
theorem hc_Net_setGateDelay : y_Net_setGateDelay.cls ≠ "java/lang/invoke/MethodHandle" ∧ y_Net_setGateDelay.cls ≠ "java/lang/invoke/VarHandle" ∧ (parseMethodDescriptor y_Net_setGateDelay.desc).map (fun d => d.parameters.length) = some 4 := ⟨by decide +kernel, by decide +kernel, by decide +kernel⟩
def y_Net_setStart : MethodName := ⟨"PathTiming$Net", "setStart", "(IIII)V"⟩
abbrev w_Net_setStart : List Cond := Cond.code y_Net_setStart prog_5_method_11_code 5 (Option.none : Option Jvm.ClassFile.FieldType) :: Tg
theorem hc_Net_setStart : y_Net_setStart.cls ≠ "java/lang/invoke/MethodHandle" ∧ y_Net_setStart.cls ≠ "java/lang/invoke/VarHandle" ∧ (parseMethodDescriptor y_Net_setStart.desc).map (fun d => d.parameters.length) = some 4 := ⟨by decide +kernel, by decide +kernel, by decide +kernel⟩
def y_Net_lets : MethodName := ⟨"PathTiming$Net", "lets", "(III)Z"⟩
abbrev w_Net_lets : List Cond := Cond.code y_Net_lets prog_5_method_12_code 4 (Option.some Jvm.ClassFile.FieldType.boolean) :: Tg
theorem hc_Net_lets : y_Net_lets.cls ≠ "java/lang/invoke/MethodHandle" ∧ y_Net_lets.cls ≠ "java/lang/invoke/VarHandle" ∧ (parseMethodDescriptor y_Net_lets.desc).map (fun d => d.parameters.length) = some 3 := ⟨by decide +kernel, by decide +kernel, by decide +kernel⟩
def y_Net_stepEarly : MethodName := ⟨"PathTiming$Net", "stepEarly", "(II)I"⟩
abbrev w_Net_stepEarly : List Cond := Cond.code y_Net_stepEarly prog_5_method_13_code 3 (Option.some Jvm.ClassFile.FieldType.int) :: Tg
theorem hc_Net_stepEarly : y_Net_stepEarly.cls ≠ "java/lang/invoke/MethodHandle" ∧ y_Net_stepEarly.cls ≠ "java/lang/invoke/VarHandle" ∧ (parseMethodDescriptor y_Net_stepEarly.desc).map (fun d => d.parameters.length) = some 2 := ⟨by decide +kernel, by decide +kernel, by decide +kernel⟩
def y_Net_stepLate : MethodName := ⟨"PathTiming$Net", "stepLate", "(II)I"⟩
abbrev w_Net_stepLate : List Cond := Cond.code y_Net_stepLate prog_5_method_14_code 3 (Option.some Jvm.ClassFile.FieldType.int) :: Tg
theorem hc_Net_stepLate : y_Net_stepLate.cls ≠ "java/lang/invoke/MethodHandle" ∧ y_Net_stepLate.cls ≠ "java/lang/invoke/VarHandle" ∧ (parseMethodDescriptor y_Net_stepLate.desc).map (fun d => d.parameters.length) = some 2 := ⟨by decide +kernel, by decide +kernel, by decide +kernel⟩
def y_PathList_init : MethodName := ⟨"PathTiming$PathList", "<init>", "()V"⟩
abbrev w_PathList_init : List Cond := Cond.code y_PathList_init prog_6_method_1_code 1 (Option.none : Option Jvm.ClassFile.FieldType) :: Tg
theorem hc_PathList_init : y_PathList_init.cls ≠ "java/lang/invoke/MethodHandle" ∧ y_PathList_init.cls ≠ "java/lang/invoke/VarHandle" ∧ (parseMethodDescriptor y_PathList_init.desc).map (fun d => d.parameters.length) = some 0 := ⟨by decide +kernel, by decide +kernel, by decide +kernel⟩
def y_PathList_slackOf : MethodName := ⟨"PathTiming$PathList", "slackOf", "(I)I"⟩
abbrev w_PathList_slackOf : List Cond := Cond.code y_PathList_slackOf prog_6_method_2_code 2 (Option.some Jvm.ClassFile.FieldType.int) :: Tg
theorem hc_PathList_slackOf : y_PathList_slackOf.cls ≠ "java/lang/invoke/MethodHandle" ∧ y_PathList_slackOf.cls ≠ "java/lang/invoke/VarHandle" ∧ (parseMethodDescriptor y_PathList_slackOf.desc).map (fun d => d.parameters.length) = some 1 := ⟨by decide +kernel, by decide +kernel, by decide +kernel⟩
def y_PathList_elementAt : MethodName := ⟨"PathTiming$PathList", "elementAt", "(II)I"⟩
abbrev w_PathList_elementAt : List Cond := Cond.code y_PathList_elementAt prog_6_method_3_code 3 (Option.some Jvm.ClassFile.FieldType.int) :: Tg
theorem hc_PathList_elementAt : y_PathList_elementAt.cls ≠ "java/lang/invoke/MethodHandle" ∧ y_PathList_elementAt.cls ≠ "java/lang/invoke/VarHandle" ∧ (parseMethodDescriptor y_PathList_elementAt.desc).map (fun d => d.parameters.length) = some 2 := ⟨by decide +kernel, by decide +kernel, by decide +kernel⟩
def y_PathList_mayTake : MethodName := ⟨"PathTiming$PathList", "mayTake", "(I)Z"⟩
abbrev w_PathList_mayTake : List Cond := Cond.code y_PathList_mayTake prog_6_method_4_code 2 (Option.some Jvm.ClassFile.FieldType.boolean) :: Tg
theorem hc_PathList_mayTake : y_PathList_mayTake.cls ≠ "java/lang/invoke/MethodHandle" ∧ y_PathList_mayTake.cls ≠ "java/lang/invoke/VarHandle" ∧ (parseMethodDescriptor y_PathList_mayTake.desc).map (fun d => d.parameters.length) = some 1 := ⟨by decide +kernel, by decide +kernel, by decide +kernel⟩
def y_PathList_offer : MethodName := ⟨"PathTiming$PathList", "offer", "(I[II)V"⟩
abbrev w_PathList_offer : List Cond := Cond.code y_PathList_offer prog_6_method_5_code 7 (Option.none : Option Jvm.ClassFile.FieldType) :: Tg
theorem hc_PathList_offer : y_PathList_offer.cls ≠ "java/lang/invoke/MethodHandle" ∧ y_PathList_offer.cls ≠ "java/lang/invoke/VarHandle" ∧ (parseMethodDescriptor y_PathList_offer.desc).map (fun d => d.parameters.length) = some 3 := ⟨by decide +kernel, by decide +kernel, by decide +kernel⟩
def y_PathList_takeSlot : MethodName := ⟨"PathTiming$PathList", "takeSlot", "()I"⟩
abbrev w_PathList_takeSlot : List Cond := Cond.code y_PathList_takeSlot prog_6_method_6_code 1 (Option.some Jvm.ClassFile.FieldType.int) :: Tg
theorem hc_PathList_takeSlot : y_PathList_takeSlot.cls ≠ "java/lang/invoke/MethodHandle" ∧ y_PathList_takeSlot.cls ≠ "java/lang/invoke/VarHandle" ∧ (parseMethodDescriptor y_PathList_takeSlot.desc).map (fun d => d.parameters.length) = some 0 := ⟨by decide +kernel, by decide +kernel, by decide +kernel⟩
def y_PathList_comesBefore : MethodName := ⟨"PathTiming$PathList", "comesBefore", "(I[III)Z"⟩
abbrev w_PathList_comesBefore : List Cond := Cond.code y_PathList_comesBefore prog_6_method_7_code 8 (Option.some Jvm.ClassFile.FieldType.boolean) :: Tg
theorem hc_PathList_comesBefore : y_PathList_comesBefore.cls ≠ "java/lang/invoke/MethodHandle" ∧ y_PathList_comesBefore.cls ≠ "java/lang/invoke/VarHandle" ∧ (parseMethodDescriptor y_PathList_comesBefore.desc).map (fun d => d.parameters.length) = some 4 := ⟨by decide +kernel, by decide +kernel, by decide +kernel⟩
def y_Rooms_init : MethodName := ⟨"PathTiming$Rooms", "<init>", "(LPathTiming$Net;LPathTiming$ClockWays;)V"⟩
abbrev w_Rooms_init : List Cond := Cond.code y_Rooms_init prog_7_method_1_code 3 (Option.none : Option Jvm.ClassFile.FieldType) :: Tg
theorem hc_Rooms_init : y_Rooms_init.cls ≠ "java/lang/invoke/MethodHandle" ∧ y_Rooms_init.cls ≠ "java/lang/invoke/VarHandle" ∧ (parseMethodDescriptor y_Rooms_init.desc).map (fun d => d.parameters.length) = some 2 := ⟨by decide +kernel, by decide +kernel, by decide +kernel⟩
def y_Rooms_measure : MethodName := ⟨"PathTiming$Rooms", "measure", "(II)V"⟩
abbrev w_Rooms_measure : List Cond := Cond.code y_Rooms_measure prog_7_method_2_code 5 (Option.none : Option Jvm.ClassFile.FieldType) :: Tg
theorem hc_Rooms_measure : y_Rooms_measure.cls ≠ "java/lang/invoke/MethodHandle" ∧ y_Rooms_measure.cls ≠ "java/lang/invoke/VarHandle" ∧ (parseMethodDescriptor y_Rooms_measure.desc).map (fun d => d.parameters.length) = some 2 := ⟨by decide +kernel, by decide +kernel, by decide +kernel⟩
def y_Rooms_measurePair : MethodName := ⟨"PathTiming$Rooms", "measurePair", "(IIII)V"⟩
abbrev w_Rooms_measurePair : List Cond := Cond.code y_Rooms_measurePair prog_7_method_3_code 11 (Option.none : Option Jvm.ClassFile.FieldType) :: Tg
theorem hc_Rooms_measurePair : y_Rooms_measurePair.cls ≠ "java/lang/invoke/MethodHandle" ∧ y_Rooms_measurePair.cls ≠ "java/lang/invoke/VarHandle" ∧ (parseMethodDescriptor y_Rooms_measurePair.desc).map (fun d => d.parameters.length) = some 4 := ⟨by decide +kernel, by decide +kernel, by decide +kernel⟩
def y_Slacks_init : MethodName := ⟨"PathTiming$Slacks", "<init>", "(LPathTiming$Net;LPathTiming$ClockWays;LPathTiming$Spread;LPathTiming$Rooms;)V"⟩
abbrev w_Slacks_init : List Cond := Cond.code y_Slacks_init prog_8_method_1_code 5 (Option.none : Option Jvm.ClassFile.FieldType) :: Tg
theorem hc_Slacks_init : y_Slacks_init.cls ≠ "java/lang/invoke/MethodHandle" ∧ y_Slacks_init.cls ≠ "java/lang/invoke/VarHandle" ∧ (parseMethodDescriptor y_Slacks_init.desc).map (fun d => d.parameters.length) = some 4 := ⟨by decide +kernel, by decide +kernel, by decide +kernel⟩
def y_Slacks_reckon : MethodName := ⟨"PathTiming$Slacks", "reckon", "()V"⟩
abbrev w_Slacks_reckon : List Cond := Cond.code y_Slacks_reckon prog_8_method_2_code 3 (Option.none : Option Jvm.ClassFile.FieldType) :: Tg
theorem hc_Slacks_reckon : y_Slacks_reckon.cls ≠ "java/lang/invoke/MethodHandle" ∧ y_Slacks_reckon.cls ≠ "java/lang/invoke/VarHandle" ∧ (parseMethodDescriptor y_Slacks_reckon.desc).map (fun d => d.parameters.length) = some 0 := ⟨by decide +kernel, by decide +kernel, by decide +kernel⟩
def y_Slacks_countEnds : MethodName := ⟨"PathTiming$Slacks", "countEnds", "()I"⟩
abbrev w_Slacks_countEnds : List Cond := Cond.code y_Slacks_countEnds prog_8_method_3_code 3 (Option.some Jvm.ClassFile.FieldType.int) :: Tg
theorem hc_Slacks_countEnds : y_Slacks_countEnds.cls ≠ "java/lang/invoke/MethodHandle" ∧ y_Slacks_countEnds.cls ≠ "java/lang/invoke/VarHandle" ∧ (parseMethodDescriptor y_Slacks_countEnds.desc).map (fun d => d.parameters.length) = some 0 := ⟨by decide +kernel, by decide +kernel, by decide +kernel⟩
def y_Slacks_leastAt : MethodName := ⟨"PathTiming$Slacks", "leastAt", "(II)I"⟩
abbrev w_Slacks_leastAt : List Cond := Cond.code y_Slacks_leastAt prog_8_method_4_code 4 (Option.some Jvm.ClassFile.FieldType.int) :: Tg
theorem hc_Slacks_leastAt : y_Slacks_leastAt.cls ≠ "java/lang/invoke/MethodHandle" ∧ y_Slacks_leastAt.cls ≠ "java/lang/invoke/VarHandle" ∧ (parseMethodDescriptor y_Slacks_leastAt.desc).map (fun d => d.parameters.length) = some 2 := ⟨by decide +kernel, by decide +kernel, by decide +kernel⟩
def y_Slacks_leastOfAll : MethodName := ⟨"PathTiming$Slacks", "leastOfAll", "(I)I"⟩
abbrev w_Slacks_leastOfAll : List Cond := Cond.code y_Slacks_leastOfAll prog_8_method_5_code 4 (Option.some Jvm.ClassFile.FieldType.int) :: Tg
theorem hc_Slacks_leastOfAll : y_Slacks_leastOfAll.cls ≠ "java/lang/invoke/MethodHandle" ∧ y_Slacks_leastOfAll.cls ≠ "java/lang/invoke/VarHandle" ∧ (parseMethodDescriptor y_Slacks_leastOfAll.desc).map (fun d => d.parameters.length) = some 1 := ⟨by decide +kernel, by decide +kernel, by decide +kernel⟩
def y_Slacks_sumBelowZero : MethodName := ⟨"PathTiming$Slacks", "sumBelowZero", "(I)I"⟩
abbrev w_Slacks_sumBelowZero : List Cond := Cond.code y_Slacks_sumBelowZero prog_8_method_6_code 4 (Option.some Jvm.ClassFile.FieldType.int) :: Tg
theorem hc_Slacks_sumBelowZero : y_Slacks_sumBelowZero.cls ≠ "java/lang/invoke/MethodHandle" ∧ y_Slacks_sumBelowZero.cls ≠ "java/lang/invoke/VarHandle" ∧ (parseMethodDescriptor y_Slacks_sumBelowZero.desc).map (fun d => d.parameters.length) = some 1 := ⟨by decide +kernel, by decide +kernel, by decide +kernel⟩
def y_Slacks_leastPeriodKept : MethodName := ⟨"PathTiming$Slacks", "leastPeriodKept", "()I"⟩
abbrev w_Slacks_leastPeriodKept : List Cond := Cond.code y_Slacks_leastPeriodKept prog_8_method_7_code 2 (Option.some Jvm.ClassFile.FieldType.int) :: Tg
theorem hc_Slacks_leastPeriodKept : y_Slacks_leastPeriodKept.cls ≠ "java/lang/invoke/MethodHandle" ∧ y_Slacks_leastPeriodKept.cls ≠ "java/lang/invoke/VarHandle" ∧ (parseMethodDescriptor y_Slacks_leastPeriodKept.desc).map (fun d => d.parameters.length) = some 0 := ⟨by decide +kernel, by decide +kernel, by decide +kernel⟩
def y_Slacks_reckonPair : MethodName := ⟨"PathTiming$Slacks", "reckonPair", "(II)V"⟩
abbrev w_Slacks_reckonPair : List Cond := Cond.code y_Slacks_reckonPair prog_8_method_8_code 10 (Option.none : Option Jvm.ClassFile.FieldType) :: Tg
theorem hc_Slacks_reckonPair : y_Slacks_reckonPair.cls ≠ "java/lang/invoke/MethodHandle" ∧ y_Slacks_reckonPair.cls ≠ "java/lang/invoke/VarHandle" ∧ (parseMethodDescriptor y_Slacks_reckonPair.desc).map (fun d => d.parameters.length) = some 2 := ⟨by decide +kernel, by decide +kernel, by decide +kernel⟩
def y_Slacks_keepLeast : MethodName := ⟨"PathTiming$Slacks", "keepLeast", "(III)V"⟩
abbrev w_Slacks_keepLeast : List Cond := Cond.code y_Slacks_keepLeast prog_8_method_9_code 5 (Option.none : Option Jvm.ClassFile.FieldType) :: Tg
theorem hc_Slacks_keepLeast : y_Slacks_keepLeast.cls ≠ "java/lang/invoke/MethodHandle" ∧ y_Slacks_keepLeast.cls ≠ "java/lang/invoke/VarHandle" ∧ (parseMethodDescriptor y_Slacks_keepLeast.desc).map (fun d => d.parameters.length) = some 3 := ⟨by decide +kernel, by decide +kernel, by decide +kernel⟩
def y_Spread_init : MethodName := ⟨"PathTiming$Spread", "<init>", "(LPathTiming$Net;LPathTiming$GateOrder;)V"⟩
abbrev w_Spread_init : List Cond := Cond.code y_Spread_init prog_9_method_1_code 3 (Option.none : Option Jvm.ClassFile.FieldType) :: Tg
theorem hc_Spread_init : y_Spread_init.cls ≠ "java/lang/invoke/MethodHandle" ∧ y_Spread_init.cls ≠ "java/lang/invoke/VarHandle" ∧ (parseMethodDescriptor y_Spread_init.desc).map (fun d => d.parameters.length) = some 2 := ⟨by decide +kernel, by decide +kernel, by decide +kernel⟩
def y_Spread_clear : MethodName := ⟨"PathTiming$Spread", "clear", "()V"⟩
abbrev w_Spread_clear : List Cond := Cond.code y_Spread_clear prog_9_method_2_code 1 (Option.none : Option Jvm.ClassFile.FieldType) :: Tg
theorem hc_Spread_clear : y_Spread_clear.cls ≠ "java/lang/invoke/MethodHandle" ∧ y_Spread_clear.cls ≠ "java/lang/invoke/VarHandle" ∧ (parseMethodDescriptor y_Spread_clear.desc).map (fun d => d.parameters.length) = some 0 := ⟨by decide +kernel, by decide +kernel, by decide +kernel⟩
def y_Spread_reaches : MethodName := ⟨"PathTiming$Spread", "reaches", "(I)Z"⟩
abbrev w_Spread_reaches : List Cond := Cond.code y_Spread_reaches prog_9_method_3_code 2 (Option.some Jvm.ClassFile.FieldType.boolean) :: Tg
theorem hc_Spread_reaches : y_Spread_reaches.cls ≠ "java/lang/invoke/MethodHandle" ∧ y_Spread_reaches.cls ≠ "java/lang/invoke/VarHandle" ∧ (parseMethodDescriptor y_Spread_reaches.desc).map (fun d => d.parameters.length) = some 1 := ⟨by decide +kernel, by decide +kernel, by decide +kernel⟩
def y_Spread_join : MethodName := ⟨"PathTiming$Spread", "join", "(IIII)V"⟩
abbrev w_Spread_join : List Cond := Cond.code y_Spread_join prog_9_method_4_code 6 (Option.none : Option Jvm.ClassFile.FieldType) :: Tg
theorem hc_Spread_join : y_Spread_join.cls ≠ "java/lang/invoke/MethodHandle" ∧ y_Spread_join.cls ≠ "java/lang/invoke/VarHandle" ∧ (parseMethodDescriptor y_Spread_join.desc).map (fun d => d.parameters.length) = some 4 := ⟨by decide +kernel, by decide +kernel, by decide +kernel⟩
def y_Spread_spread : MethodName := ⟨"PathTiming$Spread", "spread", "()V"⟩
abbrev w_Spread_spread : List Cond := Cond.code y_Spread_spread prog_9_method_5_code 4 (Option.none : Option Jvm.ClassFile.FieldType) :: Tg
theorem hc_Spread_spread : y_Spread_spread.cls ≠ "java/lang/invoke/MethodHandle" ∧ y_Spread_spread.cls ≠ "java/lang/invoke/VarHandle" ∧ (parseMethodDescriptor y_Spread_spread.desc).map (fun d => d.parameters.length) = some 0 := ⟨by decide +kernel, by decide +kernel, by decide +kernel⟩
def y_Spread_spreadFrom : MethodName := ⟨"PathTiming$Spread", "spreadFrom", "(II)V"⟩
abbrev w_Spread_spreadFrom : List Cond := Cond.code y_Spread_spreadFrom prog_9_method_6_code 4 (Option.none : Option Jvm.ClassFile.FieldType) :: Tg
theorem hc_Spread_spreadFrom : y_Spread_spreadFrom.cls ≠ "java/lang/invoke/MethodHandle" ∧ y_Spread_spreadFrom.cls ≠ "java/lang/invoke/VarHandle" ∧ (parseMethodDescriptor y_Spread_spreadFrom.desc).map (fun d => d.parameters.length) = some 2 := ⟨by decide +kernel, by decide +kernel, by decide +kernel⟩
def y_Spread_spreadBy : MethodName := ⟨"PathTiming$Spread", "spreadBy", "(II)V"⟩
abbrev w_Spread_spreadBy : List Cond := Cond.code y_Spread_spreadBy prog_9_method_7_code 7 (Option.none : Option Jvm.ClassFile.FieldType) :: Tg
theorem hc_Spread_spreadBy : y_Spread_spreadBy.cls ≠ "java/lang/invoke/MethodHandle" ∧ y_Spread_spreadBy.cls ≠ "java/lang/invoke/VarHandle" ∧ (parseMethodDescriptor y_Spread_spreadBy.desc).map (fun d => d.parameters.length) = some 2 := ⟨by decide +kernel, by decide +kernel, by decide +kernel⟩
def y_WorstPaths_init : MethodName := ⟨"PathTiming$WorstPaths", "<init>", "(LPathTiming$Net;LPathTiming$ClockWays;LPathTiming$Spread;LPathTiming$Rooms;)V"⟩
abbrev w_WorstPaths_init : List Cond := Cond.code y_WorstPaths_init prog_10_method_1_code 5 (Option.none : Option Jvm.ClassFile.FieldType) :: Tg
theorem hc_WorstPaths_init : y_WorstPaths_init.cls ≠ "java/lang/invoke/MethodHandle" ∧ y_WorstPaths_init.cls ≠ "java/lang/invoke/VarHandle" ∧ (parseMethodDescriptor y_WorstPaths_init.desc).map (fun d => d.parameters.length) = some 4 := ⟨by decide +kernel, by decide +kernel, by decide +kernel⟩
def y_WorstPaths_listOf : MethodName := ⟨"PathTiming$WorstPaths", "listOf", "(I)LPathTiming$PathList;"⟩
abbrev w_WorstPaths_listOf : List Cond := Cond.code y_WorstPaths_listOf prog_10_method_2_code 2 (Option.some (Jvm.ClassFile.FieldType.object "PathTiming$PathList")) :: Tg
theorem hc_WorstPaths_listOf : y_WorstPaths_listOf.cls ≠ "java/lang/invoke/MethodHandle" ∧ y_WorstPaths_listOf.cls ≠ "java/lang/invoke/VarHandle" ∧ (parseMethodDescriptor y_WorstPaths_listOf.desc).map (fun d => d.parameters.length) = some 1 := ⟨by decide +kernel, by decide +kernel, by decide +kernel⟩
def y_WorstPaths_forget : MethodName := ⟨"PathTiming$WorstPaths", "forget", "()V"⟩
abbrev w_WorstPaths_forget : List Cond := Cond.code y_WorstPaths_forget prog_10_method_3_code 1 (Option.none : Option Jvm.ClassFile.FieldType) :: Tg
theorem hc_WorstPaths_forget : y_WorstPaths_forget.cls ≠ "java/lang/invoke/MethodHandle" ∧ y_WorstPaths_forget.cls ≠ "java/lang/invoke/VarHandle" ∧ (parseMethodDescriptor y_WorstPaths_forget.desc).map (fun d => d.parameters.length) = some 0 := ⟨by decide +kernel, by decide +kernel, by decide +kernel⟩
def y_WorstPaths_collect : MethodName := ⟨"PathTiming$WorstPaths", "collect", "()V"⟩
abbrev w_WorstPaths_collect : List Cond := Cond.code y_WorstPaths_collect prog_10_method_4_code 3 (Option.none : Option Jvm.ClassFile.FieldType) :: Tg
theorem hc_WorstPaths_collect : y_WorstPaths_collect.cls ≠ "java/lang/invoke/MethodHandle" ∧ y_WorstPaths_collect.cls ≠ "java/lang/invoke/VarHandle" ∧ (parseMethodDescriptor y_WorstPaths_collect.desc).map (fun d => d.parameters.length) = some 0 := ⟨by decide +kernel, by decide +kernel, by decide +kernel⟩
def y_WorstPaths_collectTo : MethodName := ⟨"PathTiming$WorstPaths", "collectTo", "(I)V"⟩
abbrev w_WorstPaths_collectTo : List Cond := Cond.code y_WorstPaths_collectTo prog_10_method_5_code 5 (Option.none : Option Jvm.ClassFile.FieldType) :: Tg
theorem hc_WorstPaths_collectTo : y_WorstPaths_collectTo.cls ≠ "java/lang/invoke/MethodHandle" ∧ y_WorstPaths_collectTo.cls ≠ "java/lang/invoke/VarHandle" ∧ (parseMethodDescriptor y_WorstPaths_collectTo.desc).map (fun d => d.parameters.length) = some 1 := ⟨by decide +kernel, by decide +kernel, by decide +kernel⟩
def y_WorstPaths_goBack : MethodName := ⟨"PathTiming$WorstPaths", "goBack", "(IIII)V"⟩
abbrev w_WorstPaths_goBack : List Cond := Cond.code y_WorstPaths_goBack prog_10_method_6_code 10 (Option.none : Option Jvm.ClassFile.FieldType) :: Tg
theorem hc_WorstPaths_goBack : y_WorstPaths_goBack.cls ≠ "java/lang/invoke/MethodHandle" ∧ y_WorstPaths_goBack.cls ≠ "java/lang/invoke/VarHandle" ∧ (parseMethodDescriptor y_WorstPaths_goBack.desc).map (fun d => d.parameters.length) = some 4 := ⟨by decide +kernel, by decide +kernel, by decide +kernel⟩
def y_WorstPaths_leads : MethodName := ⟨"PathTiming$WorstPaths", "leads", "(III)Z"⟩
abbrev w_WorstPaths_leads : List Cond := Cond.code y_WorstPaths_leads prog_10_method_7_code 5 (Option.some Jvm.ClassFile.FieldType.boolean) :: Tg
theorem hc_WorstPaths_leads : y_WorstPaths_leads.cls ≠ "java/lang/invoke/MethodHandle" ∧ y_WorstPaths_leads.cls ≠ "java/lang/invoke/VarHandle" ∧ (parseMethodDescriptor y_WorstPaths_leads.desc).map (fun d => d.parameters.length) = some 3 := ⟨by decide +kernel, by decide +kernel, by decide +kernel⟩
def y_WorstPaths_offerAll : MethodName := ⟨"PathTiming$WorstPaths", "offerAll", "(IIII)V"⟩
abbrev w_WorstPaths_offerAll : List Cond := Cond.code y_WorstPaths_offerAll prog_10_method_8_code 13 (Option.none : Option Jvm.ClassFile.FieldType) :: Tg
theorem hc_WorstPaths_offerAll : y_WorstPaths_offerAll.cls ≠ "java/lang/invoke/MethodHandle" ∧ y_WorstPaths_offerAll.cls ≠ "java/lang/invoke/VarHandle" ∧ (parseMethodDescriptor y_WorstPaths_offerAll.desc).map (fun d => d.parameters.length) = some 4 := ⟨by decide +kernel, by decide +kernel, by decide +kernel⟩
def y_WorstPaths_writeRow : MethodName := ⟨"PathTiming$WorstPaths", "writeRow", "(IIII)I"⟩
abbrev w_WorstPaths_writeRow : List Cond := Cond.code y_WorstPaths_writeRow prog_10_method_9_code 7 (Option.some Jvm.ClassFile.FieldType.int) :: Tg
theorem hc_WorstPaths_writeRow : y_WorstPaths_writeRow.cls ≠ "java/lang/invoke/MethodHandle" ∧ y_WorstPaths_writeRow.cls ≠ "java/lang/invoke/VarHandle" ∧ (parseMethodDescriptor y_WorstPaths_writeRow.desc).map (fun d => d.parameters.length) = some 4 := ⟨by decide +kernel, by decide +kernel, by decide +kernel⟩
def y_Law_clock : MethodName := ⟨"PathTimingLaw", "clock", "(LPathTiming;II)I"⟩
theorem hc_Law_clock : y_Law_clock.cls ≠ "java/lang/invoke/MethodHandle" ∧ y_Law_clock.cls ≠ "java/lang/invoke/VarHandle" ∧ (parseMethodDescriptor y_Law_clock.desc).map (fun d => d.parameters.length) = some 3 := ⟨by decide +kernel, by decide +kernel, by decide +kernel⟩
def y_Law_input : MethodName := ⟨"PathTimingLaw", "input", "(LPathTiming;IIII[J)I"⟩
theorem hc_Law_input : y_Law_input.cls ≠ "java/lang/invoke/MethodHandle" ∧ y_Law_input.cls ≠ "java/lang/invoke/VarHandle" ∧ (parseMethodDescriptor y_Law_input.desc).map (fun d => d.parameters.length) = some 6 := ⟨by decide +kernel, by decide +kernel, by decide +kernel⟩
def y_Law_gate : MethodName := ⟨"PathTimingLaw", "gate", "(LPathTiming;I[J)I"⟩
theorem hc_Law_gate : y_Law_gate.cls ≠ "java/lang/invoke/MethodHandle" ∧ y_Law_gate.cls ≠ "java/lang/invoke/VarHandle" ∧ (parseMethodDescriptor y_Law_gate.desc).map (fun d => d.parameters.length) = some 3 := ⟨by decide +kernel, by decide +kernel, by decide +kernel⟩
def y_Law_wire : MethodName := ⟨"PathTimingLaw", "wire", "(LPathTiming;IIIII)I"⟩
theorem hc_Law_wire : y_Law_wire.cls ≠ "java/lang/invoke/MethodHandle" ∧ y_Law_wire.cls ≠ "java/lang/invoke/VarHandle" ∧ (parseMethodDescriptor y_Law_wire.desc).map (fun d => d.parameters.length) = some 6 := ⟨by decide +kernel, by decide +kernel, by decide +kernel⟩
def y_Law_sense : MethodName := ⟨"PathTimingLaw", "sense", "(LPathTiming;III)I"⟩
theorem hc_Law_sense : y_Law_sense.cls ≠ "java/lang/invoke/MethodHandle" ∧ y_Law_sense.cls ≠ "java/lang/invoke/VarHandle" ∧ (parseMethodDescriptor y_Law_sense.desc).map (fun d => d.parameters.length) = some 4 := ⟨by decide +kernel, by decide +kernel, by decide +kernel⟩
def y_Law_delay : MethodName := ⟨"PathTimingLaw", "delay", "(LPathTiming;IIIII)I"⟩
theorem hc_Law_delay : y_Law_delay.cls ≠ "java/lang/invoke/MethodHandle" ∧ y_Law_delay.cls ≠ "java/lang/invoke/VarHandle" ∧ (parseMethodDescriptor y_Law_delay.desc).map (fun d => d.parameters.length) = some 6 := ⟨by decide +kernel, by decide +kernel, by decide +kernel⟩
def y_Law_check : MethodName := ⟨"PathTimingLaw", "check", "(LPathTiming;IIII)I"⟩
theorem hc_Law_check : y_Law_check.cls ≠ "java/lang/invoke/MethodHandle" ∧ y_Law_check.cls ≠ "java/lang/invoke/VarHandle" ∧ (parseMethodDescriptor y_Law_check.desc).map (fun d => d.parameters.length) = some 5 := ⟨by decide +kernel, by decide +kernel, by decide +kernel⟩
def y_Law_ways : MethodName := ⟨"PathTimingLaw", "ways", "(LPathTiming;I[J)I"⟩
theorem hc_Law_ways : y_Law_ways.cls ≠ "java/lang/invoke/MethodHandle" ∧ y_Law_ways.cls ≠ "java/lang/invoke/VarHandle" ∧ (parseMethodDescriptor y_Law_ways.desc).map (fun d => d.parameters.length) = some 3 := ⟨by decide +kernel, by decide +kernel, by decide +kernel⟩
def y_Law_arrival : MethodName := ⟨"PathTimingLaw", "arrival", "(LPathTiming;IIIZ[J)I"⟩
theorem hc_Law_arrival : y_Law_arrival.cls ≠ "java/lang/invoke/MethodHandle" ∧ y_Law_arrival.cls ≠ "java/lang/invoke/VarHandle" ∧ (parseMethodDescriptor y_Law_arrival.desc).map (fun d => d.parameters.length) = some 6 := ⟨by decide +kernel, by decide +kernel, by decide +kernel⟩
def y_Law_slack : MethodName := ⟨"PathTimingLaw", "slack", "(LPathTiming;II[J)I"⟩
theorem hc_Law_slack : y_Law_slack.cls ≠ "java/lang/invoke/MethodHandle" ∧ y_Law_slack.cls ≠ "java/lang/invoke/VarHandle" ∧ (parseMethodDescriptor y_Law_slack.desc).map (fun d => d.parameters.length) = some 4 := ⟨by decide +kernel, by decide +kernel, by decide +kernel⟩
def y_Law_worst : MethodName := ⟨"PathTimingLaw", "worst", "(LPathTiming;I[J)I"⟩
theorem hc_Law_worst : y_Law_worst.cls ≠ "java/lang/invoke/MethodHandle" ∧ y_Law_worst.cls ≠ "java/lang/invoke/VarHandle" ∧ (parseMethodDescriptor y_Law_worst.desc).map (fun d => d.parameters.length) = some 3 := ⟨by decide +kernel, by decide +kernel, by decide +kernel⟩
def y_Law_total : MethodName := ⟨"PathTimingLaw", "total", "(LPathTiming;I[J)I"⟩
theorem hc_Law_total : y_Law_total.cls ≠ "java/lang/invoke/MethodHandle" ∧ y_Law_total.cls ≠ "java/lang/invoke/VarHandle" ∧ (parseMethodDescriptor y_Law_total.desc).map (fun d => d.parameters.length) = some 3 := ⟨by decide +kernel, by decide +kernel, by decide +kernel⟩
def y_Law_leastPeriod : MethodName := ⟨"PathTimingLaw", "leastPeriod", "(LPathTiming;[J)I"⟩
theorem hc_Law_leastPeriod : y_Law_leastPeriod.cls ≠ "java/lang/invoke/MethodHandle" ∧ y_Law_leastPeriod.cls ≠ "java/lang/invoke/VarHandle" ∧ (parseMethodDescriptor y_Law_leastPeriod.desc).map (fun d => d.parameters.length) = some 2 := ⟨by decide +kernel, by decide +kernel, by decide +kernel⟩
def y_Law_paths : MethodName := ⟨"PathTimingLaw", "paths", "(LPathTiming;[J)I"⟩
theorem hc_Law_paths : y_Law_paths.cls ≠ "java/lang/invoke/MethodHandle" ∧ y_Law_paths.cls ≠ "java/lang/invoke/VarHandle" ∧ (parseMethodDescriptor y_Law_paths.desc).map (fun d => d.parameters.length) = some 2 := ⟨by decide +kernel, by decide +kernel, by decide +kernel⟩
def y_Law_path : MethodName := ⟨"PathTimingLaw", "path", "(LPathTiming;II[J)I"⟩
theorem hc_Law_path : y_Law_path.cls ≠ "java/lang/invoke/MethodHandle" ∧ y_Law_path.cls ≠ "java/lang/invoke/VarHandle" ∧ (parseMethodDescriptor y_Law_path.desc).map (fun d => d.parameters.length) = some 4 := ⟨by decide +kernel, by decide +kernel, by decide +kernel⟩
def y_Law_element : MethodName := ⟨"PathTimingLaw", "element", "(LPathTiming;III[J)I"⟩
theorem hc_Law_element : y_Law_element.cls ≠ "java/lang/invoke/MethodHandle" ∧ y_Law_element.cls ≠ "java/lang/invoke/VarHandle" ∧ (parseMethodDescriptor y_Law_element.desc).map (fun d => d.parameters.length) = some 5 := ⟨by decide +kernel, by decide +kernel, by decide +kernel⟩
def y_Long_bitCount : MethodName := ⟨"java/lang/Long", "bitCount", "(J)I"⟩
abbrev w_Long_bitCount : List Cond := Cond.code y_Long_bitCount prog_17_method_50_code 2 (Option.some Jvm.ClassFile.FieldType.int) :: Tg
theorem hc_Long_bitCount : y_Long_bitCount.cls ≠ "java/lang/invoke/MethodHandle" ∧ y_Long_bitCount.cls ≠ "java/lang/invoke/VarHandle" ∧ (parseMethodDescriptor y_Long_bitCount.desc).map (fun d => d.parameters.length) = some 1 := ⟨by decide +kernel, by decide +kernel, by decide +kernel⟩
def y_Arrays_fill : MethodName := ⟨"java/util/Arrays", "fill", "([II)V"⟩
abbrev w_Arrays_fill : List Cond := Cond.code y_Arrays_fill prog_22_method_103_code 4 (Option.none : Option Jvm.ClassFile.FieldType) :: Tg
theorem hc_Arrays_fill : y_Arrays_fill.cls ≠ "java/lang/invoke/MethodHandle" ∧ y_Arrays_fill.cls ≠ "java/lang/invoke/VarHandle" ∧ (parseMethodDescriptor y_Arrays_fill.desc).map (fun d => d.parameters.length) = some 2 := ⟨by decide +kernel, by decide +kernel, by decide +kernel⟩
theorem m_code_Math_min : Cond.code Lib.Math.min.name Lib.Math.min.code 2 (some .int) ∈ Tg := m497
theorem m_code_Math_max : Cond.code Lib.Math.max.name Lib.Math.max.code 2 (some .int) ∈ Tg := m612
/-- the nest words: links to private members of nest mates -/
def NW (U : State) : Prop := va_Nw (Jvm.Cond.methodLinkNest "PathTiming$WorstPaths" (11 : Nat) ({ cls := "PathTiming$PathList", name := "<init>", desc := "()V" } : Jvm.MethodName) "PathTiming") U ∧ va_Nw (Jvm.Cond.methodLinkNest "PathTiming$ClockWays" (152 : Nat) ({ cls := "PathTiming", name := "elementOf", desc := "(III)I" } : Jvm.MethodName) "PathTiming") U ∧ va_Nw (Jvm.Cond.methodLinkNest "PathTiming$Net" (64 : Nat) ({ cls := "PathTiming", name := "isWithin", desc := "(III)Z" } : Jvm.MethodName) "PathTiming") U ∧ va_Nw (Jvm.Cond.methodLinkNest "PathTiming$WorstPaths" (120 : Nat) ({ cls := "PathTiming", name := "elementOf", desc := "(III)I" } : Jvm.MethodName) "PathTiming") U
theorem NW.same {u U : State} (h : u.vm = U.vm) (z : NW u) : NW U := ⟨va_Nw.same rfl h z.1, va_Nw.same rfl h z.2.1, va_Nw.same rfl h z.2.2.1, va_Nw.same rfl h z.2.2.2⟩
theorem NW.warm {s U : State} (h : s.WarmedH U.vm) (z : NW s) : NW U := ⟨va_Nw.warmM h z.1, va_Nw.warmM h z.2.1, va_Nw.warmM h z.2.2.1, va_Nw.warmM h z.2.2.2⟩
theorem m_code_objinit : Cond.code Lib.objectInit ⟨#[0xb1]⟩ 1 none ∈ Tg := m29
