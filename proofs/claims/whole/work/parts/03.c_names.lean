def RX0 : String := "Marionette$Asset"
def TX0 : u_T := fun k => match k with
  | 0 => ("Marionette$Asset", "versions", "[LMarionette$Version;", true)
  | _ => ("Marionette$Asset", "versionCount", "I", false)
def tyX0 : Nat → FieldType := fun k => match k with
  | 0 => .array (.object "Marionette$Version")
  | _ => .int
theorem nmX0 : ∀ a, a < 2 → ∀ b, b < 2 → a ≠ b → (TX0 a).2.1 ≠ (TX0 b).2.1 := by decide +kernel
theorem tyX0_ok : ∀ k, k < 2 → parseFieldDescriptor (TX0 k).2.2.1 = some (tyX0 k) := by decide +kernel
def RX1 : String := "Marionette$Cache"
def TX1 : u_T := fun k => match k with
  | 0 => ("Marionette$Cache", "ofVersion", "[LMarionette$Version;", true)
  | 1 => ("Marionette$Cache", "ofRow", "[[I", true)
  | 2 => ("Marionette$Cache", "values", "[I", true)
  | 3 => ("Marionette$Cache", "next", "I", false)
  | 4 => ("Marionette$Cache", "size", "I", false)
  | 5 => ("Marionette$Cache", "hits", "I", false)
  | 6 => ("Marionette$Cache", "makings", "I", false)
  | _ => ("Marionette$Cache", "rows", "[[I", true)
def tyX1 : Nat → FieldType := fun k => match k with
  | 0 => .array (.object "Marionette$Version")
  | 1 => .array (.array .int)
  | 2 => .array .int
  | 3 => .int
  | 4 => .int
  | 5 => .int
  | 6 => .int
  | _ => .array (.array .int)
theorem nmX1 : ∀ a, a < 8 → ∀ b, b < 8 → a ≠ b → (TX1 a).2.1 ≠ (TX1 b).2.1 := by decide +kernel
theorem tyX1_ok : ∀ k, k < 8 → parseFieldDescriptor (TX1 k).2.2.1 = some (tyX1 k) := by decide +kernel
def RX2 : String := "Marionette$Constraint"
def TX2 : u_T := fun k => match k with
  | 0 => ("Marionette$Constraint", "kind", "I", true)
  | 1 => ("Marionette$Constraint", "target", "I", true)
  | 2 => ("Marionette$Constraint", "source", "I", true)
  | _ => ("Marionette$Constraint", "number", "I", true)
def tyX2 : Nat → FieldType := fun k => match k with
  | 0 => .int
  | 1 => .int
  | 2 => .int
  | _ => .int
theorem nmX2 : ∀ a, a < 4 → ∀ b, b < 4 → a ≠ b → (TX2 a).2.1 ≠ (TX2 b).2.1 := by decide +kernel
theorem tyX2_ok : ∀ k, k < 4 → parseFieldDescriptor (TX2 k).2.2.1 = some (tyX2 k) := by decide +kernel
def RX3 : String := "Marionette$Delivery"
def TX3 : u_T := fun k => match k with
  | _ => ("Marionette$Delivery", "images", "[I", true)
def tyX3 : Nat → FieldType := fun k => match k with
  | _ => .array .int
theorem nmX3 : ∀ a, a < 1 → ∀ b, b < 1 → a ≠ b → (TX3 a).2.1 ≠ (TX3 b).2.1 := by decide +kernel
theorem tyX3_ok : ∀ k, k < 1 → parseFieldDescriptor (TX3 k).2.2.1 = some (tyX3 k) := by decide +kernel
def RX4 : String := "Marionette$Farm"
def TX4 : u_T := fun k => match k with
  | 0 => ("Marionette$Farm", "machines", "[LMarionette$Machine;", true)
  | 1 => ("Marionette$Farm", "machineCount", "I", false)
  | 2 => ("Marionette$Farm", "queue", "[LMarionette$Frame;", true)
  | 3 => ("Marionette$Farm", "queued", "I", false)
  | 4 => ("Marionette$Farm", "room", "I", false)
  | 5 => ("Marionette$Farm", "used", "I", false)
  | 6 => ("Marionette$Farm", "failedTries", "I", false)
  | 7 => ("Marionette$Farm", "givenUp", "I", false)
  | _ => ("Marionette$Farm", "cache", "LMarionette$Cache;", true)
def tyX4 : Nat → FieldType := fun k => match k with
  | 0 => .array (.object "Marionette$Machine")
  | 1 => .int
  | 2 => .array (.object "Marionette$Frame")
  | 3 => .int
  | 4 => .int
  | 5 => .int
  | 6 => .int
  | 7 => .int
  | _ => .object "Marionette$Cache"
theorem nmX4 : ∀ a, a < 9 → ∀ b, b < 9 → a ≠ b → (TX4 a).2.1 ≠ (TX4 b).2.1 := by decide +kernel
theorem tyX4_ok : ∀ k, k < 9 → parseFieldDescriptor (TX4 k).2.2.1 = some (tyX4 k) := by decide +kernel
def RX5 : String := "Marionette$Frame"
def TX5 : u_T := fun k => match k with
  | 0 => ("Marionette$Frame", "shot", "LMarionette$Shot;", true)
  | 1 => ("Marionette$Frame", "name", "I", false)
  | 2 => ("Marionette$Frame", "keyed", "[Z", true)
  | 3 => ("Marionette$Frame", "keys", "[I", true)
  | 4 => ("Marionette$Frame", "station", "I", false)
  | 5 => ("Marionette$Frame", "tries", "I", false)
  | 6 => ("Marionette$Frame", "hasImage", "Z", false)
  | 7 => ("Marionette$Frame", "image", "I", false)
  | 8 => ("Marionette$Frame", "madePins", "[LMarionette$Version;", true)
  | 9 => ("Marionette$Frame", "madeLines", "[I", true)
  | 10 => ("Marionette$Frame", "madeColour", "I", false)
  | _ => ("Marionette$Frame", "madeSize", "I", false)
def tyX5 : Nat → FieldType := fun k => match k with
  | 0 => .object "Marionette$Shot"
  | 1 => .int
  | 2 => .array .boolean
  | 3 => .array .int
  | 4 => .int
  | 5 => .int
  | 6 => .boolean
  | 7 => .int
  | 8 => .array (.object "Marionette$Version")
  | 9 => .array .int
  | 10 => .int
  | _ => .int
theorem nmX5 : ∀ a, a < 12 → ∀ b, b < 12 → a ≠ b → (TX5 a).2.1 ≠ (TX5 b).2.1 := by decide +kernel
theorem tyX5_ok : ∀ k, k < 12 → parseFieldDescriptor (TX5 k).2.2.1 = some (tyX5 k) := by decide +kernel
def RX6 : String := "Marionette$Machine"
def TX6 : u_T := fun k => match k with
  | 0 => ("Marionette$Machine", "number", "I", true)
  | 1 => ("Marionette$Machine", "speed", "I", true)
  | 2 => ("Marionette$Machine", "weakness", "I", true)
  | 3 => ("Marionette$Machine", "frame", "LMarionette$Frame;", false)
  | 4 => ("Marionette$Machine", "ticksLeft", "I", false)
  | _ => ("Marionette$Machine", "tried", "Z", false)
def tyX6 : Nat → FieldType := fun k => match k with
  | 0 => .int
  | 1 => .int
  | 2 => .int
  | 3 => .object "Marionette$Frame"
  | 4 => .int
  | _ => .boolean
theorem nmX6 : ∀ a, a < 6 → ∀ b, b < 6 → a ≠ b → (TX6 a).2.1 ≠ (TX6 b).2.1 := by decide +kernel
theorem tyX6_ok : ∀ k, k < 6 → parseFieldDescriptor (TX6 k).2.2.1 = some (tyX6 k) := by decide +kernel
def RX7 : String := "Marionette$Note"
def TX7 : u_T := fun k => match k with
  | 0 => ("Marionette$Note", "shot", "LMarionette$Shot;", true)
  | 1 => ("Marionette$Note", "name", "I", true)
  | 2 => ("Marionette$Note", "weight", "I", true)
  | _ => ("Marionette$Note", "open", "Z", false)
def tyX7 : Nat → FieldType := fun k => match k with
  | 0 => .object "Marionette$Shot"
  | 1 => .int
  | 2 => .int
  | _ => .boolean
theorem nmX7 : ∀ a, a < 4 → ∀ b, b < 4 → a ≠ b → (TX7 a).2.1 ≠ (TX7 b).2.1 := by decide +kernel
theorem tyX7_ok : ∀ k, k < 4 → parseFieldDescriptor (TX7 k).2.2.1 = some (tyX7 k) := by decide +kernel
def RX8 : String := "Marionette$Shot"
def TX8 : u_T := fun k => match k with
  | 0 => ("Marionette$Shot", "number", "I", true)
  | 1 => ("Marionette$Shot", "row", "[LMarionette$Frame;", true)
  | 2 => ("Marionette$Shot", "nextRow", "[LMarionette$Frame;", true)
  | 3 => ("Marionette$Shot", "frameCount", "I", false)
  | 4 => ("Marionette$Shot", "nextName", "I", false)
  | 5 => ("Marionette$Shot", "pins", "[LMarionette$Version;", true)
  | 6 => ("Marionette$Shot", "keyCount", "I", false)
  | 7 => ("Marionette$Shot", "colour", "I", false)
  | 8 => ("Marionette$Shot", "size", "I", false)
  | 9 => ("Marionette$Shot", "approved", "Z", false)
  | 10 => ("Marionette$Shot", "bid", "I", false)
  | _ => ("Marionette$Shot", "hours", "I", false)
def tyX8 : Nat → FieldType := fun k => match k with
  | 0 => .int
  | 1 => .array (.object "Marionette$Frame")
  | 2 => .array (.object "Marionette$Frame")
  | 3 => .int
  | 4 => .int
  | 5 => .array (.object "Marionette$Version")
  | 6 => .int
  | 7 => .int
  | 8 => .int
  | 9 => .boolean
  | 10 => .int
  | _ => .int
theorem nmX8 : ∀ a, a < 12 → ∀ b, b < 12 → a ≠ b → (TX8 a).2.1 ≠ (TX8 b).2.1 := by decide +kernel
theorem tyX8_ok : ∀ k, k < 12 → parseFieldDescriptor (TX8 k).2.2.1 = some (tyX8 k) := by decide +kernel
def RX9 : String := "Marionette$Version"
def TX9 : u_T := fun k => match k with
  | 0 => ("Marionette$Version", "content", "I", false)
  | 1 => ("Marionette$Version", "constraints", "[LMarionette$Constraint;", true)
  | 2 => ("Marionette$Version", "constraintCount", "I", false)
  | 3 => ("Marionette$Version", "parents", "[LMarionette$Version;", true)
  | 4 => ("Marionette$Version", "parentCount", "I", false)
  | 5 => ("Marionette$Version", "height", "I", false)
  | 6 => ("Marionette$Version", "retracted", "Z", false)
  | 7 => ("Marionette$Version", "approved", "Z", false)
  | _ => ("Marionette$Version", "marked", "Z", false)
def tyX9 : Nat → FieldType := fun k => match k with
  | 0 => .int
  | 1 => .array (.object "Marionette$Constraint")
  | 2 => .int
  | 3 => .array (.object "Marionette$Version")
  | 4 => .int
  | 5 => .int
  | 6 => .boolean
  | 7 => .boolean
  | _ => .boolean
theorem nmX9 : ∀ a, a < 9 → ∀ b, b < 9 → a ≠ b → (TX9 a).2.1 ≠ (TX9 b).2.1 := by decide +kernel
theorem tyX9_ok : ∀ k, k < 9 → parseFieldDescriptor (TX9 k).2.2.1 = some (tyX9 k) := by decide +kernel
def RX10 : String := "Marionette"
def TX10 : u_T := fun k => match k with
  | 0 => ("Marionette", "assets", "[LMarionette$Asset;", true)
  | 1 => ("Marionette", "assetCount", "I", false)
  | 2 => ("Marionette", "published", "[LMarionette$Version;", true)
  | 3 => ("Marionette", "publishedCount", "I", false)
  | 4 => ("Marionette", "draft", "LMarionette$Version;", false)
  | 5 => ("Marionette", "shots", "[LMarionette$Shot;", true)
  | 6 => ("Marionette", "shotCount", "I", false)
  | 7 => ("Marionette", "cache", "LMarionette$Cache;", true)
  | 8 => ("Marionette", "farm", "LMarionette$Farm;", true)
  | 9 => ("Marionette", "notes", "[LMarionette$Note;", true)
  | 10 => ("Marionette", "noteCount", "I", false)
  | 11 => ("Marionette", "deliveries", "[LMarionette$Delivery;", true)
  | _ => ("Marionette", "deliveryCount", "I", false)
def tyX10 : Nat → FieldType := fun k => match k with
  | 0 => .array (.object "Marionette$Asset")
  | 1 => .int
  | 2 => .array (.object "Marionette$Version")
  | 3 => .int
  | 4 => .object "Marionette$Version"
  | 5 => .array (.object "Marionette$Shot")
  | 6 => .int
  | 7 => .object "Marionette$Cache"
  | 8 => .object "Marionette$Farm"
  | 9 => .array (.object "Marionette$Note")
  | 10 => .int
  | 11 => .array (.object "Marionette$Delivery")
  | _ => .int
theorem nmX10 : ∀ a, a < 13 → ∀ b, b < 13 → a ≠ b → (TX10 a).2.1 ≠ (TX10 b).2.1 := by decide +kernel
theorem tyX10_ok : ∀ k, k < 13 → parseFieldDescriptor (TX10 k).2.2.1 = some (tyX10 k) := by decide +kernel
def RX11 : String := "MarionetteModel"
def TX11 : u_T := fun k => match k with
  | 0 => ("MarionetteModel", "thrown", "I", false)
  | 1 => ("MarionetteModel", "assets", "I", false)
  | 2 => ("MarionetteModel", "versions", "[I", true)
  | 3 => ("MarionetteModel", "content", "[I", true)
  | 4 => ("MarionetteModel", "constraints", "[I", true)
  | 5 => ("MarionetteModel", "constraint", "[I", true)
  | 6 => ("MarionetteModel", "parents", "[I", true)
  | 7 => ("MarionetteModel", "parent", "[I", true)
  | 8 => ("MarionetteModel", "height", "[I", true)
  | 9 => ("MarionetteModel", "isRetracted", "[Z", true)
  | 10 => ("MarionetteModel", "isApproved", "[Z", true)
  | 11 => ("MarionetteModel", "draftContent", "I", false)
  | 12 => ("MarionetteModel", "draftConstraints", "I", false)
  | 13 => ("MarionetteModel", "draftConstraint", "[I", true)
  | 14 => ("MarionetteModel", "draftParents", "I", false)
  | 15 => ("MarionetteModel", "draftParent", "[I", true)
  | 16 => ("MarionetteModel", "shots", "I", false)
  | 17 => ("MarionetteModel", "frames", "[I", true)
  | 18 => ("MarionetteModel", "row", "[I", true)
  | 19 => ("MarionetteModel", "isTaken", "[Z", true)
  | 20 => ("MarionetteModel", "names", "[I", true)
  | 21 => ("MarionetteModel", "name", "[I", true)
  | 22 => ("MarionetteModel", "pins", "[I", true)
  | 23 => ("MarionetteModel", "keys", "[I", true)
  | 24 => ("MarionetteModel", "keyOf", "[I", true)
  | 25 => ("MarionetteModel", "keyAt", "[I", true)
  | 26 => ("MarionetteModel", "keyValue", "[I", true)
  | 27 => ("MarionetteModel", "colour", "[I", true)
  | 28 => ("MarionetteModel", "size", "[I", true)
  | 29 => ("MarionetteModel", "bid", "[I", true)
  | 30 => ("MarionetteModel", "hours", "[I", true)
  | 31 => ("MarionetteModel", "isFine", "[Z", true)
  | 32 => ("MarionetteModel", "stored", "[I", true)
  | 33 => ("MarionetteModel", "storedCost", "[I", true)
  | 34 => ("MarionetteModel", "madeOf", "[I", true)
  | 35 => ("MarionetteModel", "disk", "I", false)
  | 36 => ("MarionetteModel", "machines", "I", false)
  | 37 => ("MarionetteModel", "speed", "[I", true)
  | 38 => ("MarionetteModel", "weakness", "[I", true)
  | 39 => ("MarionetteModel", "unit", "[I", true)
  | 40 => ("MarionetteModel", "ticks", "[I", true)
  | 41 => ("MarionetteModel", "isTried", "[Z", true)
  | 42 => ("MarionetteModel", "queued", "I", false)
  | 43 => ("MarionetteModel", "queue", "[I", true)
  | 44 => ("MarionetteModel", "tries", "[I", true)
  | 45 => ("MarionetteModel", "failed", "I", false)
  | 46 => ("MarionetteModel", "givenUp", "I", false)
  | 47 => ("MarionetteModel", "notes", "I", false)
  | 48 => ("MarionetteModel", "noteOf", "[I", true)
  | 49 => ("MarionetteModel", "weight", "[I", true)
  | 50 => ("MarionetteModel", "isOpen", "[Z", true)
  | 51 => ("MarionetteModel", "kept", "I", false)
  | 52 => ("MarionetteModel", "keptMany", "[I", true)
  | 53 => ("MarionetteModel", "keptImage", "[I", true)
  | 54 => ("MarionetteModel", "cached", "I", false)
  | 55 => ("MarionetteModel", "first", "I", false)
  | 56 => ("MarionetteModel", "cache", "[I", true)
  | 57 => ("MarionetteModel", "hits", "I", false)
  | 58 => ("MarionetteModel", "makings", "I", false)
  | 59 => ("MarionetteModel", "at", "[I", true)
  | 60 => ("MarionetteModel", "next", "[I", true)
  | 61 => ("MarionetteModel", "ahead", "[I", true)
  | 62 => ("MarionetteModel", "behind", "[I", true)
  | 63 => ("MarionetteModel", "sum", "[I", true)
  | 64 => ("MarionetteModel", "now", "[I", true)
  | _ => ("MarionetteModel", "stands", "[Z", true)
def tyX11 : Nat → FieldType := fun k => match k with
  | 0 => .int
  | 1 => .int
  | 2 => .array .int
  | 3 => .array .int
  | 4 => .array .int
  | 5 => .array .int
  | 6 => .array .int
  | 7 => .array .int
  | 8 => .array .int
  | 9 => .array .boolean
  | 10 => .array .boolean
  | 11 => .int
  | 12 => .int
  | 13 => .array .int
  | 14 => .int
  | 15 => .array .int
  | 16 => .int
  | 17 => .array .int
  | 18 => .array .int
  | 19 => .array .boolean
  | 20 => .array .int
  | 21 => .array .int
  | 22 => .array .int
  | 23 => .array .int
  | 24 => .array .int
  | 25 => .array .int
  | 26 => .array .int
  | 27 => .array .int
  | 28 => .array .int
  | 29 => .array .int
  | 30 => .array .int
  | 31 => .array .boolean
  | 32 => .array .int
  | 33 => .array .int
  | 34 => .array .int
  | 35 => .int
  | 36 => .int
  | 37 => .array .int
  | 38 => .array .int
  | 39 => .array .int
  | 40 => .array .int
  | 41 => .array .boolean
  | 42 => .int
  | 43 => .array .int
  | 44 => .array .int
  | 45 => .int
  | 46 => .int
  | 47 => .int
  | 48 => .array .int
  | 49 => .array .int
  | 50 => .array .boolean
  | 51 => .int
  | 52 => .array .int
  | 53 => .array .int
  | 54 => .int
  | 55 => .int
  | 56 => .array .int
  | 57 => .int
  | 58 => .int
  | 59 => .array .int
  | 60 => .array .int
  | 61 => .array .int
  | 62 => .array .int
  | 63 => .array .int
  | 64 => .array .int
  | _ => .array .boolean
theorem nmX11 : ∀ a, a < 66 → ∀ b, b < 66 → a ≠ b → (TX11 a).2.1 ≠ (TX11 b).2.1 := by decide +kernel
theorem tyX11_ok : ∀ k, k < 66 → parseFieldDescriptor (TX11 k).2.2.1 = some (tyX11 k) := by decide +kernel
abbrev vwCl : List vw_C := [(RX0, TX0, 2), (RX1, TX1, 8), (RX2, TX2, 4), (RX3, TX3, 1), (RX4, TX4, 9), (RX5, TX5, 12), (RX6, TX6, 6), (RX7, TX7, 4), (RX8, TX8, 12), (RX9, TX9, 9), (RX10, TX10, 13), (RX11, TX11, 66)]
def nF (ci : Nat) : Nat := match ci with
  | 0 => 2
  | 1 => 8
  | 2 => 4
  | 3 => 1
  | 4 => 9
  | 5 => 12
  | 6 => 6
  | 7 => 4
  | 8 => 12
  | 9 => 9
  | 10 => 13
  | 11 => 66
  | _ => 0
/-- is field k of class ci a reference -/
def ftR (ci k : Nat) : Bool := match ci, k with
  | 0, 0 => true
  | 1, 0 => true
  | 1, 1 => true
  | 1, 2 => true
  | 1, 7 => true
  | 3, 0 => true
  | 4, 0 => true
  | 4, 2 => true
  | 4, 8 => true
  | 5, 0 => true
  | 5, 2 => true
  | 5, 3 => true
  | 5, 8 => true
  | 5, 9 => true
  | 6, 3 => true
  | 7, 0 => true
  | 8, 1 => true
  | 8, 2 => true
  | 8, 5 => true
  | 9, 1 => true
  | 9, 3 => true
  | 10, 0 => true
  | 10, 2 => true
  | 10, 4 => true
  | 10, 5 => true
  | 10, 7 => true
  | 10, 8 => true
  | 10, 9 => true
  | 10, 11 => true
  | 11, 2 => true
  | 11, 3 => true
  | 11, 4 => true
  | 11, 5 => true
  | 11, 6 => true
  | 11, 7 => true
  | 11, 8 => true
  | 11, 9 => true
  | 11, 10 => true
  | 11, 13 => true
  | 11, 15 => true
  | 11, 17 => true
  | 11, 18 => true
  | 11, 19 => true
  | 11, 20 => true
  | 11, 21 => true
  | 11, 22 => true
  | 11, 23 => true
  | 11, 24 => true
  | 11, 25 => true
  | 11, 26 => true
  | 11, 27 => true
  | 11, 28 => true
  | 11, 29 => true
  | 11, 30 => true
  | 11, 31 => true
  | 11, 32 => true
  | 11, 33 => true
  | 11, 34 => true
  | 11, 37 => true
  | 11, 38 => true
  | 11, 39 => true
  | 11, 40 => true
  | 11, 41 => true
  | 11, 43 => true
  | 11, 44 => true
  | 11, 48 => true
  | 11, 49 => true
  | 11, 50 => true
  | 11, 52 => true
  | 11, 53 => true
  | 11, 56 => true
  | 11, 59 => true
  | 11, 60 => true
  | 11, 61 => true
  | 11, 62 => true
  | 11, 63 => true
  | 11, 64 => true
  | 11, 65 => true
  | _, _ => false
def ftZ (ci k : Nat) : Bool := match ci, k with
  | 5, 6 => true
  | 6, 5 => true
  | 7, 3 => true
  | 8, 9 => true
  | 9, 6 => true
  | 9, 7 => true
  | 9, 8 => true
  | _, _ => false
def rX (ci : Nat) : String := match ci with
  | 0 => RX0
  | 1 => RX1
  | 2 => RX2
  | 3 => RX3
  | 4 => RX4
  | 5 => RX5
  | 6 => RX6
  | 7 => RX7
  | 8 => RX8
  | 9 => RX9
  | 10 => RX10
  | 11 => RX11
  | _ => RX0
def tX (ci : Nat) : u_T := match ci with
  | 0 => TX0
  | 1 => TX1
  | 2 => TX2
  | 3 => TX3
  | 4 => TX4
  | 5 => TX5
  | 6 => TX6
  | 7 => TX7
  | 8 => TX8
  | 9 => TX9
  | 10 => TX10
  | 11 => TX11
  | _ => TX0
def tyX (ci : Nat) : Nat → FieldType := match ci with
  | 0 => tyX0
  | 1 => tyX1
  | 2 => tyX2
  | 3 => tyX3
  | 4 => tyX4
  | 5 => tyX5
  | 6 => tyX6
  | 7 => tyX7
  | 8 => tyX8
  | 9 => tyX9
  | 10 => tyX10
  | 11 => tyX11
  | _ => tyX0
theorem vw_at : ∀ ci, ci < 12 → vwCl[ci]? = some (rX ci, tX ci, nF ci) := by
  intro ci h
  have h9 : ci = 0 ∨ ci = 1 ∨ ci = 2 ∨ ci = 3 ∨ ci = 4 ∨ ci = 5 ∨ ci = 6 ∨ ci = 7 ∨ ci = 8 ∨ ci = 9 ∨ ci = 10 ∨ ci = 11 := by omega
  rcases h9 with rfl | rfl | rfl | rfl | rfl | rfl | rfl | rfl | rfl | rfl | rfl | rfl <;> rfl
theorem nm_all : ∀ ci, ci < 12 → ∀ a, a < nF ci → ∀ b, b < nF ci → a ≠ b → (tX ci a).2.1 ≠ (tX ci b).2.1 := by
  intro ci h
  have h9 : ci = 0 ∨ ci = 1 ∨ ci = 2 ∨ ci = 3 ∨ ci = 4 ∨ ci = 5 ∨ ci = 6 ∨ ci = 7 ∨ ci = 8 ∨ ci = 9 ∨ ci = 10 ∨ ci = 11 := by omega
  rcases h9 with rfl | rfl | rfl | rfl | rfl | rfl | rfl | rfl | rfl | rfl | rfl | rfl
  · exact nmX0
  · exact nmX1
  · exact nmX2
  · exact nmX3
  · exact nmX4
  · exact nmX5
  · exact nmX6
  · exact nmX7
  · exact nmX8
  · exact nmX9
  · exact nmX10
  · exact nmX11
theorem ty_all : ∀ ci, ci < 12 → ∀ k, k < nF ci → parseFieldDescriptor (tX ci k).2.2.1 = some (tyX ci k) := by
  intro ci h
  have h9 : ci = 0 ∨ ci = 1 ∨ ci = 2 ∨ ci = 3 ∨ ci = 4 ∨ ci = 5 ∨ ci = 6 ∨ ci = 7 ∨ ci = 8 ∨ ci = 9 ∨ ci = 10 ∨ ci = 11 := by omega
  rcases h9 with rfl | rfl | rfl | rfl | rfl | rfl | rfl | rfl | rfl | rfl | rfl | rfl
  · exact tyX0_ok
  · exact tyX1_ok
  · exact tyX2_ok
  · exact tyX3_ok
  · exact tyX4_ok
  · exact tyX5_ok
  · exact tyX6_ok
  · exact tyX7_ok
  · exact tyX8_ok
  · exact tyX9_ok
  · exact tyX10_ok
  · exact tyX11_ok
theorem ty_kind : ∀ ci, ci < 12 → ∀ k, k < nF ci → (ftR ci k = true ∧ ((∃ C, tyX ci k = .object C) ∨ ∃ t, tyX ci k = .array t)) ∨ (ftR ci k = false ∧ ((ftZ ci k = true ∧ tyX ci k = .boolean) ∨ (ftZ ci k = false ∧ tyX ci k = .int))) := by
  intro ci h
  have h9 : ci = 0 ∨ ci = 1 ∨ ci = 2 ∨ ci = 3 ∨ ci = 4 ∨ ci = 5 ∨ ci = 6 ∨ ci = 7 ∨ ci = 8 ∨ ci = 9 ∨ ci = 10 ∨ ci = 11 := by omega
  rcases h9 with rfl | rfl | rfl | rfl | rfl | rfl | rfl | rfl | rfl | rfl | rfl | rfl
  · intro k hk
    have h8 : k = 0 ∨ k = 1 := by have h7 : k < 2 := hk; omega
    rcases h8 with rfl | rfl
    · exact Or.inl ⟨rfl, Or.inr ⟨_, rfl⟩⟩
    · exact Or.inr ⟨rfl, Or.inr ⟨rfl, rfl⟩⟩
  · intro k hk
    have h8 : k = 0 ∨ k = 1 ∨ k = 2 ∨ k = 3 ∨ k = 4 ∨ k = 5 ∨ k = 6 ∨ k = 7 := by have h7 : k < 8 := hk; omega
    rcases h8 with rfl | rfl | rfl | rfl | rfl | rfl | rfl | rfl
    · exact Or.inl ⟨rfl, Or.inr ⟨_, rfl⟩⟩
    · exact Or.inl ⟨rfl, Or.inr ⟨_, rfl⟩⟩
    · exact Or.inl ⟨rfl, Or.inr ⟨_, rfl⟩⟩
    · exact Or.inr ⟨rfl, Or.inr ⟨rfl, rfl⟩⟩
    · exact Or.inr ⟨rfl, Or.inr ⟨rfl, rfl⟩⟩
    · exact Or.inr ⟨rfl, Or.inr ⟨rfl, rfl⟩⟩
    · exact Or.inr ⟨rfl, Or.inr ⟨rfl, rfl⟩⟩
    · exact Or.inl ⟨rfl, Or.inr ⟨_, rfl⟩⟩
  · intro k hk
    have h8 : k = 0 ∨ k = 1 ∨ k = 2 ∨ k = 3 := by have h7 : k < 4 := hk; omega
    rcases h8 with rfl | rfl | rfl | rfl
    · exact Or.inr ⟨rfl, Or.inr ⟨rfl, rfl⟩⟩
    · exact Or.inr ⟨rfl, Or.inr ⟨rfl, rfl⟩⟩
    · exact Or.inr ⟨rfl, Or.inr ⟨rfl, rfl⟩⟩
    · exact Or.inr ⟨rfl, Or.inr ⟨rfl, rfl⟩⟩
  · intro k hk
    have h8 : k = 0 := by have h7 : k < 1 := hk; omega
    rcases h8 with rfl
    · exact Or.inl ⟨rfl, Or.inr ⟨_, rfl⟩⟩
  · intro k hk
    have h8 : k = 0 ∨ k = 1 ∨ k = 2 ∨ k = 3 ∨ k = 4 ∨ k = 5 ∨ k = 6 ∨ k = 7 ∨ k = 8 := by have h7 : k < 9 := hk; omega
    rcases h8 with rfl | rfl | rfl | rfl | rfl | rfl | rfl | rfl | rfl
    · exact Or.inl ⟨rfl, Or.inr ⟨_, rfl⟩⟩
    · exact Or.inr ⟨rfl, Or.inr ⟨rfl, rfl⟩⟩
    · exact Or.inl ⟨rfl, Or.inr ⟨_, rfl⟩⟩
    · exact Or.inr ⟨rfl, Or.inr ⟨rfl, rfl⟩⟩
    · exact Or.inr ⟨rfl, Or.inr ⟨rfl, rfl⟩⟩
    · exact Or.inr ⟨rfl, Or.inr ⟨rfl, rfl⟩⟩
    · exact Or.inr ⟨rfl, Or.inr ⟨rfl, rfl⟩⟩
    · exact Or.inr ⟨rfl, Or.inr ⟨rfl, rfl⟩⟩
    · exact Or.inl ⟨rfl, Or.inl ⟨_, rfl⟩⟩
  · intro k hk
    have h8 : k = 0 ∨ k = 1 ∨ k = 2 ∨ k = 3 ∨ k = 4 ∨ k = 5 ∨ k = 6 ∨ k = 7 ∨ k = 8 ∨ k = 9 ∨ k = 10 ∨ k = 11 := by have h7 : k < 12 := hk; omega
    rcases h8 with rfl | rfl | rfl | rfl | rfl | rfl | rfl | rfl | rfl | rfl | rfl | rfl
    · exact Or.inl ⟨rfl, Or.inl ⟨_, rfl⟩⟩
    · exact Or.inr ⟨rfl, Or.inr ⟨rfl, rfl⟩⟩
    · exact Or.inl ⟨rfl, Or.inr ⟨_, rfl⟩⟩
    · exact Or.inl ⟨rfl, Or.inr ⟨_, rfl⟩⟩
    · exact Or.inr ⟨rfl, Or.inr ⟨rfl, rfl⟩⟩
    · exact Or.inr ⟨rfl, Or.inr ⟨rfl, rfl⟩⟩
    · exact Or.inr ⟨rfl, Or.inl ⟨rfl, rfl⟩⟩
    · exact Or.inr ⟨rfl, Or.inr ⟨rfl, rfl⟩⟩
    · exact Or.inl ⟨rfl, Or.inr ⟨_, rfl⟩⟩
    · exact Or.inl ⟨rfl, Or.inr ⟨_, rfl⟩⟩
    · exact Or.inr ⟨rfl, Or.inr ⟨rfl, rfl⟩⟩
    · exact Or.inr ⟨rfl, Or.inr ⟨rfl, rfl⟩⟩
  · intro k hk
    have h8 : k = 0 ∨ k = 1 ∨ k = 2 ∨ k = 3 ∨ k = 4 ∨ k = 5 := by have h7 : k < 6 := hk; omega
    rcases h8 with rfl | rfl | rfl | rfl | rfl | rfl
    · exact Or.inr ⟨rfl, Or.inr ⟨rfl, rfl⟩⟩
    · exact Or.inr ⟨rfl, Or.inr ⟨rfl, rfl⟩⟩
    · exact Or.inr ⟨rfl, Or.inr ⟨rfl, rfl⟩⟩
    · exact Or.inl ⟨rfl, Or.inl ⟨_, rfl⟩⟩
    · exact Or.inr ⟨rfl, Or.inr ⟨rfl, rfl⟩⟩
    · exact Or.inr ⟨rfl, Or.inl ⟨rfl, rfl⟩⟩
  · intro k hk
    have h8 : k = 0 ∨ k = 1 ∨ k = 2 ∨ k = 3 := by have h7 : k < 4 := hk; omega
    rcases h8 with rfl | rfl | rfl | rfl
    · exact Or.inl ⟨rfl, Or.inl ⟨_, rfl⟩⟩
    · exact Or.inr ⟨rfl, Or.inr ⟨rfl, rfl⟩⟩
    · exact Or.inr ⟨rfl, Or.inr ⟨rfl, rfl⟩⟩
    · exact Or.inr ⟨rfl, Or.inl ⟨rfl, rfl⟩⟩
  · intro k hk
    have h8 : k = 0 ∨ k = 1 ∨ k = 2 ∨ k = 3 ∨ k = 4 ∨ k = 5 ∨ k = 6 ∨ k = 7 ∨ k = 8 ∨ k = 9 ∨ k = 10 ∨ k = 11 := by have h7 : k < 12 := hk; omega
    rcases h8 with rfl | rfl | rfl | rfl | rfl | rfl | rfl | rfl | rfl | rfl | rfl | rfl
    · exact Or.inr ⟨rfl, Or.inr ⟨rfl, rfl⟩⟩
    · exact Or.inl ⟨rfl, Or.inr ⟨_, rfl⟩⟩
    · exact Or.inl ⟨rfl, Or.inr ⟨_, rfl⟩⟩
    · exact Or.inr ⟨rfl, Or.inr ⟨rfl, rfl⟩⟩
    · exact Or.inr ⟨rfl, Or.inr ⟨rfl, rfl⟩⟩
    · exact Or.inl ⟨rfl, Or.inr ⟨_, rfl⟩⟩
    · exact Or.inr ⟨rfl, Or.inr ⟨rfl, rfl⟩⟩
    · exact Or.inr ⟨rfl, Or.inr ⟨rfl, rfl⟩⟩
    · exact Or.inr ⟨rfl, Or.inr ⟨rfl, rfl⟩⟩
    · exact Or.inr ⟨rfl, Or.inl ⟨rfl, rfl⟩⟩
    · exact Or.inr ⟨rfl, Or.inr ⟨rfl, rfl⟩⟩
    · exact Or.inr ⟨rfl, Or.inr ⟨rfl, rfl⟩⟩
  · intro k hk
    have h8 : k = 0 ∨ k = 1 ∨ k = 2 ∨ k = 3 ∨ k = 4 ∨ k = 5 ∨ k = 6 ∨ k = 7 ∨ k = 8 := by have h7 : k < 9 := hk; omega
    rcases h8 with rfl | rfl | rfl | rfl | rfl | rfl | rfl | rfl | rfl
    · exact Or.inr ⟨rfl, Or.inr ⟨rfl, rfl⟩⟩
    · exact Or.inl ⟨rfl, Or.inr ⟨_, rfl⟩⟩
    · exact Or.inr ⟨rfl, Or.inr ⟨rfl, rfl⟩⟩
    · exact Or.inl ⟨rfl, Or.inr ⟨_, rfl⟩⟩
    · exact Or.inr ⟨rfl, Or.inr ⟨rfl, rfl⟩⟩
    · exact Or.inr ⟨rfl, Or.inr ⟨rfl, rfl⟩⟩
    · exact Or.inr ⟨rfl, Or.inl ⟨rfl, rfl⟩⟩
    · exact Or.inr ⟨rfl, Or.inl ⟨rfl, rfl⟩⟩
    · exact Or.inr ⟨rfl, Or.inl ⟨rfl, rfl⟩⟩
  · intro k hk
    have h8 : k = 0 ∨ k = 1 ∨ k = 2 ∨ k = 3 ∨ k = 4 ∨ k = 5 ∨ k = 6 ∨ k = 7 ∨ k = 8 ∨ k = 9 ∨ k = 10 ∨ k = 11 ∨ k = 12 := by have h7 : k < 13 := hk; omega
    rcases h8 with rfl | rfl | rfl | rfl | rfl | rfl | rfl | rfl | rfl | rfl | rfl | rfl | rfl
    · exact Or.inl ⟨rfl, Or.inr ⟨_, rfl⟩⟩
    · exact Or.inr ⟨rfl, Or.inr ⟨rfl, rfl⟩⟩
    · exact Or.inl ⟨rfl, Or.inr ⟨_, rfl⟩⟩
    · exact Or.inr ⟨rfl, Or.inr ⟨rfl, rfl⟩⟩
    · exact Or.inl ⟨rfl, Or.inl ⟨_, rfl⟩⟩
    · exact Or.inl ⟨rfl, Or.inr ⟨_, rfl⟩⟩
    · exact Or.inr ⟨rfl, Or.inr ⟨rfl, rfl⟩⟩
    · exact Or.inl ⟨rfl, Or.inl ⟨_, rfl⟩⟩
    · exact Or.inl ⟨rfl, Or.inl ⟨_, rfl⟩⟩
    · exact Or.inl ⟨rfl, Or.inr ⟨_, rfl⟩⟩
    · exact Or.inr ⟨rfl, Or.inr ⟨rfl, rfl⟩⟩
    · exact Or.inl ⟨rfl, Or.inr ⟨_, rfl⟩⟩
    · exact Or.inr ⟨rfl, Or.inr ⟨rfl, rfl⟩⟩
  · intro k hk
    have h8 : k = 0 ∨ k = 1 ∨ k = 2 ∨ k = 3 ∨ k = 4 ∨ k = 5 ∨ k = 6 ∨ k = 7 ∨ k = 8 ∨ k = 9 ∨ k = 10 ∨ k = 11 ∨ k = 12 ∨ k = 13 ∨ k = 14 ∨ k = 15 ∨ k = 16 ∨ k = 17 ∨ k = 18 ∨ k = 19 ∨ k = 20 ∨ k = 21 ∨ k = 22 ∨ k = 23 ∨ k = 24 ∨ k = 25 ∨ k = 26 ∨ k = 27 ∨ k = 28 ∨ k = 29 ∨ k = 30 ∨ k = 31 ∨ k = 32 ∨ k = 33 ∨ k = 34 ∨ k = 35 ∨ k = 36 ∨ k = 37 ∨ k = 38 ∨ k = 39 ∨ k = 40 ∨ k = 41 ∨ k = 42 ∨ k = 43 ∨ k = 44 ∨ k = 45 ∨ k = 46 ∨ k = 47 ∨ k = 48 ∨ k = 49 ∨ k = 50 ∨ k = 51 ∨ k = 52 ∨ k = 53 ∨ k = 54 ∨ k = 55 ∨ k = 56 ∨ k = 57 ∨ k = 58 ∨ k = 59 ∨ k = 60 ∨ k = 61 ∨ k = 62 ∨ k = 63 ∨ k = 64 ∨ k = 65 := by have h7 : k < 66 := hk; omega
    rcases h8 with rfl | rfl | rfl | rfl | rfl | rfl | rfl | rfl | rfl | rfl | rfl | rfl | rfl | rfl | rfl | rfl | rfl | rfl | rfl | rfl | rfl | rfl | rfl | rfl | rfl | rfl | rfl | rfl | rfl | rfl | rfl | rfl | rfl | rfl | rfl | rfl | rfl | rfl | rfl | rfl | rfl | rfl | rfl | rfl | rfl | rfl | rfl | rfl | rfl | rfl | rfl | rfl | rfl | rfl | rfl | rfl | rfl | rfl | rfl | rfl | rfl | rfl | rfl | rfl | rfl | rfl
    · exact Or.inr ⟨rfl, Or.inr ⟨rfl, rfl⟩⟩
    · exact Or.inr ⟨rfl, Or.inr ⟨rfl, rfl⟩⟩
    · exact Or.inl ⟨rfl, Or.inr ⟨_, rfl⟩⟩
    · exact Or.inl ⟨rfl, Or.inr ⟨_, rfl⟩⟩
    · exact Or.inl ⟨rfl, Or.inr ⟨_, rfl⟩⟩
    · exact Or.inl ⟨rfl, Or.inr ⟨_, rfl⟩⟩
    · exact Or.inl ⟨rfl, Or.inr ⟨_, rfl⟩⟩
    · exact Or.inl ⟨rfl, Or.inr ⟨_, rfl⟩⟩
    · exact Or.inl ⟨rfl, Or.inr ⟨_, rfl⟩⟩
    · exact Or.inl ⟨rfl, Or.inr ⟨_, rfl⟩⟩
    · exact Or.inl ⟨rfl, Or.inr ⟨_, rfl⟩⟩
    · exact Or.inr ⟨rfl, Or.inr ⟨rfl, rfl⟩⟩
    · exact Or.inr ⟨rfl, Or.inr ⟨rfl, rfl⟩⟩
    · exact Or.inl ⟨rfl, Or.inr ⟨_, rfl⟩⟩
    · exact Or.inr ⟨rfl, Or.inr ⟨rfl, rfl⟩⟩
    · exact Or.inl ⟨rfl, Or.inr ⟨_, rfl⟩⟩
    · exact Or.inr ⟨rfl, Or.inr ⟨rfl, rfl⟩⟩
    · exact Or.inl ⟨rfl, Or.inr ⟨_, rfl⟩⟩
    · exact Or.inl ⟨rfl, Or.inr ⟨_, rfl⟩⟩
    · exact Or.inl ⟨rfl, Or.inr ⟨_, rfl⟩⟩
    · exact Or.inl ⟨rfl, Or.inr ⟨_, rfl⟩⟩
    · exact Or.inl ⟨rfl, Or.inr ⟨_, rfl⟩⟩
    · exact Or.inl ⟨rfl, Or.inr ⟨_, rfl⟩⟩
    · exact Or.inl ⟨rfl, Or.inr ⟨_, rfl⟩⟩
    · exact Or.inl ⟨rfl, Or.inr ⟨_, rfl⟩⟩
    · exact Or.inl ⟨rfl, Or.inr ⟨_, rfl⟩⟩
    · exact Or.inl ⟨rfl, Or.inr ⟨_, rfl⟩⟩
    · exact Or.inl ⟨rfl, Or.inr ⟨_, rfl⟩⟩
    · exact Or.inl ⟨rfl, Or.inr ⟨_, rfl⟩⟩
    · exact Or.inl ⟨rfl, Or.inr ⟨_, rfl⟩⟩
    · exact Or.inl ⟨rfl, Or.inr ⟨_, rfl⟩⟩
    · exact Or.inl ⟨rfl, Or.inr ⟨_, rfl⟩⟩
    · exact Or.inl ⟨rfl, Or.inr ⟨_, rfl⟩⟩
    · exact Or.inl ⟨rfl, Or.inr ⟨_, rfl⟩⟩
    · exact Or.inl ⟨rfl, Or.inr ⟨_, rfl⟩⟩
    · exact Or.inr ⟨rfl, Or.inr ⟨rfl, rfl⟩⟩
    · exact Or.inr ⟨rfl, Or.inr ⟨rfl, rfl⟩⟩
    · exact Or.inl ⟨rfl, Or.inr ⟨_, rfl⟩⟩
    · exact Or.inl ⟨rfl, Or.inr ⟨_, rfl⟩⟩
    · exact Or.inl ⟨rfl, Or.inr ⟨_, rfl⟩⟩
    · exact Or.inl ⟨rfl, Or.inr ⟨_, rfl⟩⟩
    · exact Or.inl ⟨rfl, Or.inr ⟨_, rfl⟩⟩
    · exact Or.inr ⟨rfl, Or.inr ⟨rfl, rfl⟩⟩
    · exact Or.inl ⟨rfl, Or.inr ⟨_, rfl⟩⟩
    · exact Or.inl ⟨rfl, Or.inr ⟨_, rfl⟩⟩
    · exact Or.inr ⟨rfl, Or.inr ⟨rfl, rfl⟩⟩
    · exact Or.inr ⟨rfl, Or.inr ⟨rfl, rfl⟩⟩
    · exact Or.inr ⟨rfl, Or.inr ⟨rfl, rfl⟩⟩
    · exact Or.inl ⟨rfl, Or.inr ⟨_, rfl⟩⟩
    · exact Or.inl ⟨rfl, Or.inr ⟨_, rfl⟩⟩
    · exact Or.inl ⟨rfl, Or.inr ⟨_, rfl⟩⟩
    · exact Or.inr ⟨rfl, Or.inr ⟨rfl, rfl⟩⟩
    · exact Or.inl ⟨rfl, Or.inr ⟨_, rfl⟩⟩
    · exact Or.inl ⟨rfl, Or.inr ⟨_, rfl⟩⟩
    · exact Or.inr ⟨rfl, Or.inr ⟨rfl, rfl⟩⟩
    · exact Or.inr ⟨rfl, Or.inr ⟨rfl, rfl⟩⟩
    · exact Or.inl ⟨rfl, Or.inr ⟨_, rfl⟩⟩
    · exact Or.inr ⟨rfl, Or.inr ⟨rfl, rfl⟩⟩
    · exact Or.inr ⟨rfl, Or.inr ⟨rfl, rfl⟩⟩
    · exact Or.inl ⟨rfl, Or.inr ⟨_, rfl⟩⟩
    · exact Or.inl ⟨rfl, Or.inr ⟨_, rfl⟩⟩
    · exact Or.inl ⟨rfl, Or.inr ⟨_, rfl⟩⟩
    · exact Or.inl ⟨rfl, Or.inr ⟨_, rfl⟩⟩
    · exact Or.inl ⟨rfl, Or.inr ⟨_, rfl⟩⟩
    · exact Or.inl ⟨rfl, Or.inr ⟨_, rfl⟩⟩
    · exact Or.inl ⟨rfl, Or.inr ⟨_, rfl⟩⟩
def UG : List Cond := lw_tbl.filter goodWord
theorem ug_of {w : Cond} (i : Nat) (h : lw_tbl[i]? = some w) (g : goodWord w = true) : w ∈ UG := List.mem_filter.mpr ⟨List.mem_of_getElem? h, g⟩
theorem ug_good : GoodIn UG UG := fun w h => ⟨h, good_of_word (List.mem_filter.mp h).2⟩
theorem uw_0 : ∀ w ∈ u_ws RX0 TX0 2, w ∈ UG := by
  intro w h
  have h2 := goodIn_r (big := lw_tbl) (u_ws RX0 TX0 2) [348, 350] (by decide +kernel) (by decide +kernel) w h
  exact List.mem_filter.mpr ⟨h2.1, List.all_eq_true.mp (show (u_ws RX0 TX0 2).all goodWord = true by decide +kernel) w h⟩
theorem uw_1 : ∀ w ∈ u_ws RX1 TX1 8, w ∈ UG := by
  intro w h
  have h2 := goodIn_r (big := lw_tbl) (u_ws RX1 TX1 8) [152, 154, 156, 158, 160, 162, 164, 166] (by decide +kernel) (by decide +kernel) w h
  exact List.mem_filter.mpr ⟨h2.1, List.all_eq_true.mp (show (u_ws RX1 TX1 8).all goodWord = true by decide +kernel) w h⟩
theorem uw_2 : ∀ w ∈ u_ws RX2 TX2 4, w ∈ UG := by
  intro w h
  have h2 := goodIn_r (big := lw_tbl) (u_ws RX2 TX2 4) [423, 425, 427, 429] (by decide +kernel) (by decide +kernel) w h
  exact List.mem_filter.mpr ⟨h2.1, List.all_eq_true.mp (show (u_ws RX2 TX2 4).all goodWord = true by decide +kernel) w h⟩
theorem uw_3 : ∀ w ∈ u_ws RX3 TX3 1, w ∈ UG := by
  intro w h
  have h2 := goodIn_r (big := lw_tbl) (u_ws RX3 TX3 1) [1027] (by decide +kernel) (by decide +kernel) w h
  exact List.mem_filter.mpr ⟨h2.1, List.all_eq_true.mp (show (u_ws RX3 TX3 1).all goodWord = true by decide +kernel) w h⟩
theorem uw_4 : ∀ w ∈ u_ws RX4 TX4 9, w ∈ UG := by
  intro w h
  have h2 := goodIn_r (big := lw_tbl) (u_ws RX4 TX4 9) [196, 198, 200, 202, 204, 206, 208, 210, 212] (by decide +kernel) (by decide +kernel) w h
  exact List.mem_filter.mpr ⟨h2.1, List.all_eq_true.mp (show (u_ws RX4 TX4 9).all goodWord = true by decide +kernel) w h⟩
theorem uw_5 : ∀ w ∈ u_ws RX5 TX5 12, w ∈ UG := by
  intro w h
  have h2 := goodIn_r (big := lw_tbl) (u_ws RX5 TX5 12) [621, 623, 625, 627, 629, 631, 633, 635, 637, 639, 641, 643] (by decide +kernel) (by decide +kernel) w h
  exact List.mem_filter.mpr ⟨h2.1, List.all_eq_true.mp (show (u_ws RX5 TX5 12).all goodWord = true by decide +kernel) w h⟩
theorem uw_6 : ∀ w ∈ u_ws RX6 TX6 6, w ∈ UG := by
  intro w h
  have h2 := goodIn_r (big := lw_tbl) (u_ws RX6 TX6 6) [813, 815, 817, 819, 821, 823] (by decide +kernel) (by decide +kernel) w h
  exact List.mem_filter.mpr ⟨h2.1, List.all_eq_true.mp (show (u_ws RX6 TX6 6).all goodWord = true by decide +kernel) w h⟩
theorem uw_7 : ∀ w ∈ u_ws RX7 TX7 4, w ∈ UG := by
  intro w h
  have h2 := goodIn_r (big := lw_tbl) (u_ws RX7 TX7 4) [978, 980, 982, 984] (by decide +kernel) (by decide +kernel) w h
  exact List.mem_filter.mpr ⟨h2.1, List.all_eq_true.mp (show (u_ws RX7 TX7 4).all goodWord = true by decide +kernel) w h⟩
theorem uw_8 : ∀ w ∈ u_ws RX8 TX8 12, w ∈ UG := by
  intro w h
  have h2 := goodIn_r (big := lw_tbl) (u_ws RX8 TX8 12) [557, 559, 561, 563, 565, 567, 569, 571, 573, 575, 577, 579] (by decide +kernel) (by decide +kernel) w h
  exact List.mem_filter.mpr ⟨h2.1, List.all_eq_true.mp (show (u_ws RX8 TX8 12).all goodWord = true by decide +kernel) w h⟩
theorem uw_9 : ∀ w ∈ u_ws RX9 TX9 9, w ∈ UG := by
  intro w h
  have h2 := goodIn_r (big := lw_tbl) (u_ws RX9 TX9 9) [111, 113, 115, 117, 119, 121, 123, 125, 127] (by decide +kernel) (by decide +kernel) w h
  exact List.mem_filter.mpr ⟨h2.1, List.all_eq_true.mp (show (u_ws RX9 TX9 9).all goodWord = true by decide +kernel) w h⟩
theorem uw_10 : ∀ w ∈ u_ws RX10 TX10 13, w ∈ UG := by
  intro w h
  have h2 := goodIn_r (big := lw_tbl) (u_ws RX10 TX10 13) [232, 234, 236, 238, 240, 242, 244, 246, 248, 250, 252, 254, 256] (by decide +kernel) (by decide +kernel) w h
  exact List.mem_filter.mpr ⟨h2.1, List.all_eq_true.mp (show (u_ws RX10 TX10 13).all goodWord = true by decide +kernel) w h⟩
theorem uw_11 : ∀ w ∈ u_ws RX11 TX11 66, w ∈ UG := by
  intro w h
  have h2 := goodIn_r (big := lw_tbl) (u_ws RX11 TX11 66) [1215, 1217, 1219, 1221, 1223, 1225, 1227, 1229, 1231, 1233, 1235, 1237, 1239, 1241, 1243, 1245, 1247, 1249, 1251, 1253, 1255, 1257, 1259, 1261, 1263, 1265, 1267, 1269, 1271, 1273, 1275, 1277, 1279, 1281, 1283, 1285, 1287, 1289, 1291, 1293, 1295, 1297, 1299, 1301, 1303, 1305, 1307, 1309, 1311, 1313, 1315, 1317, 1319, 1321, 1323, 1325, 1327, 1329, 1331, 1333, 1335, 1337, 1339, 1341, 1343, 1345] (by decide +kernel) (by decide +kernel) w h
  exact List.mem_filter.mpr ⟨h2.1, List.all_eq_true.mp (show (u_ws RX11 TX11 66).all goodWord = true by decide +kernel) w h⟩
theorem uw_all : ∀ ci, ci < 12 → ∀ w ∈ u_ws (rX ci) (tX ci) (nF ci), w ∈ UG := by
  intro ci h
  have h9 : ci = 0 ∨ ci = 1 ∨ ci = 2 ∨ ci = 3 ∨ ci = 4 ∨ ci = 5 ∨ ci = 6 ∨ ci = 7 ∨ ci = 8 ∨ ci = 9 ∨ ci = 10 ∨ ci = 11 := by omega
  rcases h9 with rfl | rfl | rfl | rfl | rfl | rfl | rfl | rfl | rfl | rfl | rfl | rfl
  · exact uw_0
  · exact uw_1
  · exact uw_2
  · exact uw_3
  · exact uw_4
  · exact uw_5
  · exact uw_6
  · exact uw_7
  · exact uw_8
  · exact uw_9
  · exact uw_10
  · exact uw_11
