def RX0 : String := "DreamDuty$Border"
def TX0 : u_T := fun k => match k with
  | 0 => ("DreamDuty$Border", "state", "LDreamDuty$State;", true)
  | 1 => ("DreamDuty$Border", "owed", "[I", true)
  | 2 => ("DreamDuty$Border", "values", "[I", true)
  | 3 => ("DreamDuty$Border", "text", "LDreamDuty$Text;", false)
  | _ => ("DreamDuty$Border", "seed", "I", false)
def tyX0 : Nat → FieldType := fun k => match k with
  | 0 => .object "DreamDuty$State"
  | 1 => .array .int
  | 2 => .array .int
  | 3 => .object "DreamDuty$Text"
  | _ => .int
abbrev wsX00 : List Cond := u_ws RX0 TX0 5
theorem nmX0 : ∀ a, a < 5 → ∀ b, b < 5 → a ≠ b → (TX0 a).2.1 ≠ (TX0 b).2.1 := by decide +kernel
theorem tyX0_ok : ∀ k, k < 5 → parseFieldDescriptor (TX0 k).2.2.1 = some (tyX0 k) := by decide +kernel
def RX1 : String := "DreamDuty$Grammar"
def TX1 : u_T := fun k => match k with
  | 0 => ("DreamDuty$Grammar", "tokens", "LDreamDuty$Tokens;", true)
  | 1 => ("DreamDuty$Grammar", "told", "[I", true)
  | 2 => ("DreamDuty$Grammar", "waiting", "[I", true)
  | 3 => ("DreamDuty$Grammar", "waitingCount", "I", false)
  | 4 => ("DreamDuty$Grammar", "depth", "I", false)
  | 5 => ("DreamDuty$Grammar", "at", "I", false)
  | _ => ("DreamDuty$Grammar", "fault", "I", false)
def tyX1 : Nat → FieldType := fun k => match k with
  | 0 => .object "DreamDuty$Tokens"
  | 1 => .array .int
  | 2 => .array .int
  | 3 => .int
  | 4 => .int
  | 5 => .int
  | _ => .int
abbrev wsX10 : List Cond := u_ws RX1 TX1 7
theorem nmX1 : ∀ a, a < 7 → ∀ b, b < 7 → a ≠ b → (TX1 a).2.1 ≠ (TX1 b).2.1 := by decide +kernel
theorem tyX1_ok : ∀ k, k < 7 → parseFieldDescriptor (TX1 k).2.2.1 = some (tyX1 k) := by decide +kernel
def RX2 : String := "DreamDuty$History"
def TX2 : u_T := fun k => match k with
  | 0 => ("DreamDuty$History", "past", "[LDreamDuty$State;", true)
  | 1 => ("DreamDuty$History", "next", "I", false)
  | _ => ("DreamDuty$History", "size", "I", false)
def tyX2 : Nat → FieldType := fun k => match k with
  | 0 => .array (.object "DreamDuty$State")
  | 1 => .int
  | _ => .int
abbrev wsX20 : List Cond := u_ws RX2 TX2 3
theorem nmX2 : ∀ a, a < 3 → ∀ b, b < 3 → a ≠ b → (TX2 a).2.1 ≠ (TX2 b).2.1 := by decide +kernel
theorem tyX2_ok : ∀ k, k < 3 → parseFieldDescriptor (TX2 k).2.2.1 = some (tyX2 k) := by decide +kernel
def RX3 : String := "DreamDuty$Law"
def TX3 : u_T := fun k => match k with
  | 0 => ("DreamDuty$Law", "code", "[I", true)
  | 1 => ("DreamDuty$Law", "stack", "[I", true)
  | _ => ("DreamDuty$Law", "size", "I", false)
def tyX3 : Nat → FieldType := fun k => match k with
  | 0 => .array .int
  | 1 => .array .int
  | _ => .int
abbrev wsX30 : List Cond := u_ws RX3 TX3 3
theorem nmX3 : ∀ a, a < 3 → ∀ b, b < 3 → a ≠ b → (TX3 a).2.1 ≠ (TX3 b).2.1 := by decide +kernel
theorem tyX3_ok : ∀ k, k < 3 → parseFieldDescriptor (TX3 k).2.2.1 = some (tyX3 k) := by decide +kernel
def RX4 : String := "DreamDuty$Lodgings"
def TX4 : u_T := fun k => match k with
  | 0 => ("DreamDuty$Lodgings", "members", "[I", true)
  | 1 => ("DreamDuty$Lodgings", "innOf", "[I", true)
  | 2 => ("DreamDuty$Lodgings", "bestInn", "[I", true)
  | 3 => ("DreamDuty$Lodgings", "free", "[I", true)
  | 4 => ("DreamDuty$Lodgings", "cost", "[J", true)
  | 5 => ("DreamDuty$Lodgings", "size", "I", false)
  | 6 => ("DreamDuty$Lodgings", "below", "J", false)
  | _ => ("DreamDuty$Lodgings", "bestSum", "J", false)
def tyX4 : Nat → FieldType := fun k => match k with
  | 0 => .array .int
  | 1 => .array .int
  | 2 => .array .int
  | 3 => .array .int
  | 4 => .array .long
  | 5 => .int
  | 6 => .long
  | _ => .long
abbrev wsX40 : List Cond := u_ws RX4 TX4 8
theorem nmX4 : ∀ a, a < 8 → ∀ b, b < 8 → a ≠ b → (TX4 a).2.1 ≠ (TX4 b).2.1 := by decide +kernel
theorem tyX4_ok : ∀ k, k < 8 → parseFieldDescriptor (TX4 k).2.2.1 = some (tyX4 k) := by decide +kernel
def RX5 : String := "DreamDuty$Pairings"
def TX5 : u_T := fun k => match k with
  | 0 => ("DreamDuty$Pairings", "bestSum", "I", false)
  | 1 => ("DreamDuty$Pairings", "bestCount", "I", false)
  | _ => ("DreamDuty$Pairings", "bestFirst", "I", false)
def tyX5 : Nat → FieldType := fun k => match k with
  | 0 => .int
  | 1 => .int
  | _ => .int
abbrev wsX50 : List Cond := u_ws RX5 TX5 3
theorem nmX5 : ∀ a, a < 3 → ∀ b, b < 3 → a ≠ b → (TX5 a).2.1 ≠ (TX5 b).2.1 := by decide +kernel
theorem tyX5_ok : ∀ k, k < 3 → parseFieldDescriptor (TX5 k).2.2.1 = some (tyX5 k) := by decide +kernel
def RX6 : String := "DreamDuty$Rests"
def TX6 : u_T := fun k => match k with
  | 0 => ("DreamDuty$Rests", "declaring", "[I", true)
  | 1 => ("DreamDuty$Rests", "hiding", "[I", true)
  | _ => ("DreamDuty$Rests", "dreamers", "I", false)
def tyX6 : Nat → FieldType := fun k => match k with
  | 0 => .array .int
  | 1 => .array .int
  | _ => .int
abbrev wsX60 : List Cond := u_ws RX6 TX6 3
theorem nmX6 : ∀ a, a < 3 → ∀ b, b < 3 → a ≠ b → (TX6 a).2.1 ≠ (TX6 b).2.1 := by decide +kernel
theorem tyX6_ok : ∀ k, k < 3 → parseFieldDescriptor (TX6 k).2.2.1 = some (tyX6 k) := by decide +kernel
def RX7 : String := "DreamDuty$State"
def TX7 : u_T := fun k => match k with
  | 0 => ("DreamDuty$State", "night", "I", false)
  | 1 => ("DreamDuty$State", "paidAtCustoms", "I", false)
  | 2 => ("DreamDuty$State", "paidToInns", "I", false)
  | 3 => ("DreamDuty$State", "coins", "[I", true)
  | 4 => ("DreamDuty$State", "lodged", "[I", true)
  | 5 => ("DreamDuty$State", "dream", "[I", true)
  | 6 => ("DreamDuty$State", "kept", "[I", true)
  | 7 => ("DreamDuty$State", "keptCount", "[I", true)
  | 8 => ("DreamDuty$State", "declared", "[I", true)
  | 9 => ("DreamDuty$State", "seen", "[I", true)
  | 10 => ("DreamDuty$State", "lastThing", "[I", true)
  | _ => ("DreamDuty$State", "lastBy", "[I", true)
def tyX7 : Nat → FieldType := fun k => match k with
  | 0 => .int
  | 1 => .int
  | 2 => .int
  | 3 => .array .int
  | 4 => .array .int
  | 5 => .array .int
  | 6 => .array .int
  | 7 => .array .int
  | 8 => .array .int
  | 9 => .array .int
  | 10 => .array .int
  | _ => .array .int
abbrev wsX70 : List Cond := u_ws RX7 TX7 12
theorem nmX7 : ∀ a, a < 12 → ∀ b, b < 12 → a ≠ b → (TX7 a).2.1 ≠ (TX7 b).2.1 := by decide +kernel
theorem tyX7_ok : ∀ k, k < 12 → parseFieldDescriptor (TX7 k).2.2.1 = some (tyX7 k) := by decide +kernel
def RX8 : String := "DreamDuty$Teller"
def TX8 : u_T := fun k => match k with
  | 0 => ("DreamDuty$Teller", "tokens", "LDreamDuty$Tokens;", true)
  | 1 => ("DreamDuty$Teller", "names", "[J", true)
  | 2 => ("DreamDuty$Teller", "sorts", "[I", true)
  | 3 => ("DreamDuty$Teller", "numbers", "[I", true)
  | 4 => ("DreamDuty$Teller", "nameCount", "I", false)
  | 5 => ("DreamDuty$Teller", "at", "I", false)
  | 6 => ("DreamDuty$Teller", "fault", "I", false)
  | _ => ("DreamDuty$Teller", "faultAt", "I", false)
def tyX8 : Nat → FieldType := fun k => match k with
  | 0 => .object "DreamDuty$Tokens"
  | 1 => .array .long
  | 2 => .array .int
  | 3 => .array .int
  | 4 => .int
  | 5 => .int
  | 6 => .int
  | _ => .int
abbrev wsX80 : List Cond := u_ws RX8 TX8 8
theorem nmX8 : ∀ a, a < 8 → ∀ b, b < 8 → a ≠ b → (TX8 a).2.1 ≠ (TX8 b).2.1 := by decide +kernel
theorem tyX8_ok : ∀ k, k < 8 → parseFieldDescriptor (TX8 k).2.2.1 = some (tyX8 k) := by decide +kernel
def RX9 : String := "DreamDuty$Text"
def TX9 : u_T := fun k => match k with
  | 0 => ("DreamDuty$Text", "things", "I", false)
  | 1 => ("DreamDuty$Text", "inns", "I", false)
  | 2 => ("DreamDuty$Text", "guests", "I", false)
  | 3 => ("DreamDuty$Text", "posts", "I", false)
  | 4 => ("DreamDuty$Text", "fine", "I", false)
  | 5 => ("DreamDuty$Text", "seed", "I", false)
  | 6 => ("DreamDuty$Text", "tariff", "[I", true)
  | 7 => ("DreamDuty$Text", "price", "[I", true)
  | 8 => ("DreamDuty$Text", "beds", "[I", true)
  | 9 => ("DreamDuty$Text", "cheese", "[I", true)
  | 10 => ("DreamDuty$Text", "weight", "[I", true)
  | 11 => ("DreamDuty$Text", "allWeights", "[I", true)
  | 12 => ("DreamDuty$Text", "coins", "[I", true)
  | 13 => ("DreamDuty$Text", "honest", "[I", true)
  | 14 => ("DreamDuty$Text", "degree", "[I", true)
  | 15 => ("DreamDuty$Text", "twin", "[I", true)
  | 16 => ("DreamDuty$Text", "watches", "[I", true)
  | 17 => ("DreamDuty$Text", "muchLaw", "LDreamDuty$Law;", true)
  | 18 => ("DreamDuty$Text", "owesLaw", "LDreamDuty$Law;", true)
  | _ => ("DreamDuty$Text", "showsLaw", "LDreamDuty$Law;", true)
def tyX9 : Nat → FieldType := fun k => match k with
  | 0 => .int
  | 1 => .int
  | 2 => .int
  | 3 => .int
  | 4 => .int
  | 5 => .int
  | 6 => .array .int
  | 7 => .array .int
  | 8 => .array .int
  | 9 => .array .int
  | 10 => .array .int
  | 11 => .array .int
  | 12 => .array .int
  | 13 => .array .int
  | 14 => .array .int
  | 15 => .array .int
  | 16 => .array .int
  | 17 => .object "DreamDuty$Law"
  | 18 => .object "DreamDuty$Law"
  | _ => .object "DreamDuty$Law"
abbrev wsX90 : List Cond := u_ws RX9 TX9 20
theorem nmX9 : ∀ a, a < 20 → ∀ b, b < 20 → a ≠ b → (TX9 a).2.1 ≠ (TX9 b).2.1 := by decide +kernel
theorem tyX9_ok : ∀ k, k < 20 → parseFieldDescriptor (TX9 k).2.2.1 = some (tyX9 k) := by decide +kernel
def RX10 : String := "DreamDuty$Tokens"
def TX10 : u_T := fun k => match k with
  | 0 => ("DreamDuty$Tokens", "words", "[J", true)
  | 1 => ("DreamDuty$Tokens", "kinds", "[I", true)
  | 2 => ("DreamDuty$Tokens", "places", "[I", true)
  | 3 => ("DreamDuty$Tokens", "values", "[J", true)
  | 4 => ("DreamDuty$Tokens", "count", "I", false)
  | _ => ("DreamDuty$Tokens", "textLength", "I", false)
def tyX10 : Nat → FieldType := fun k => match k with
  | 0 => .array .long
  | 1 => .array .int
  | 2 => .array .int
  | 3 => .array .long
  | 4 => .int
  | _ => .int
abbrev wsX100 : List Cond := u_ws RX10 TX10 6
theorem nmX10 : ∀ a, a < 6 → ∀ b, b < 6 → a ≠ b → (TX10 a).2.1 ≠ (TX10 b).2.1 := by decide +kernel
theorem tyX10_ok : ∀ k, k < 6 → parseFieldDescriptor (TX10 k).2.2.1 = some (tyX10 k) := by decide +kernel
def RX11 : String := "DreamDuty"
def TX11 : u_T := fun k => match k with
  | 0 => ("DreamDuty", "tape", "[I", true)
  | 1 => ("DreamDuty", "tapeLength", "I", false)
  | 2 => ("DreamDuty", "faultPlace", "I", false)
  | 3 => ("DreamDuty", "tokens", "LDreamDuty$Tokens;", true)
  | 4 => ("DreamDuty", "grammar", "LDreamDuty$Grammar;", true)
  | 5 => ("DreamDuty", "teller", "LDreamDuty$Teller;", true)
  | 6 => ("DreamDuty", "text", "LDreamDuty$Text;", false)
  | 7 => ("DreamDuty", "spare", "LDreamDuty$Text;", false)
  | 8 => ("DreamDuty", "border", "LDreamDuty$Border;", true)
  | 9 => ("DreamDuty", "trial", "LDreamDuty$Border;", true)
  | 10 => ("DreamDuty", "history", "LDreamDuty$History;", true)
  | 11 => ("DreamDuty", "slots", "[LDreamDuty$State;", true)
  | 12 => ("DreamDuty", "held", "[Z", true)
  | 13 => ("DreamDuty", "told", "[I", true)
  | 14 => ("DreamDuty", "toldCount", "I", false)
  | 15 => ("DreamDuty", "lodgings", "LDreamDuty$Lodgings;", true)
  | 16 => ("DreamDuty", "pairings", "LDreamDuty$Pairings;", true)
  | _ => ("DreamDuty", "rests", "LDreamDuty$Rests;", true)
def tyX11 : Nat → FieldType := fun k => match k with
  | 0 => .array .int
  | 1 => .int
  | 2 => .int
  | 3 => .object "DreamDuty$Tokens"
  | 4 => .object "DreamDuty$Grammar"
  | 5 => .object "DreamDuty$Teller"
  | 6 => .object "DreamDuty$Text"
  | 7 => .object "DreamDuty$Text"
  | 8 => .object "DreamDuty$Border"
  | 9 => .object "DreamDuty$Border"
  | 10 => .object "DreamDuty$History"
  | 11 => .array (.object "DreamDuty$State")
  | 12 => .array .boolean
  | 13 => .array .int
  | 14 => .int
  | 15 => .object "DreamDuty$Lodgings"
  | 16 => .object "DreamDuty$Pairings"
  | _ => .object "DreamDuty$Rests"
abbrev wsX110 : List Cond := u_ws RX11 TX11 18
theorem nmX11 : ∀ a, a < 18 → ∀ b, b < 18 → a ≠ b → (TX11 a).2.1 ≠ (TX11 b).2.1 := by decide +kernel
theorem tyX11_ok : ∀ k, k < 18 → parseFieldDescriptor (TX11 k).2.2.1 = some (tyX11 k) := by decide +kernel
def RX12 : String := "DreamDutyModel"
def TX12 : u_T := fun k => match k with
  | 0 => ("DreamDutyModel", "thrown", "I", false)
  | 1 => ("DreamDutyModel", "tape", "[B", true)
  | 2 => ("DreamDutyModel", "taped", "I", false)
  | 3 => ("DreamDutyModel", "text", "[B", true)
  | 4 => ("DreamDutyModel", "size", "I", false)
  | 5 => ("DreamDutyModel", "tKind", "[I", true)
  | 6 => ("DreamDutyModel", "tPlace", "[I", true)
  | 7 => ("DreamDutyModel", "tValue", "[I", true)
  | 8 => ("DreamDutyModel", "tName", "[J", true)
  | 9 => ("DreamDutyModel", "keys", "[J", true)
  | 10 => ("DreamDutyModel", "tokens", "I", false)
  | 11 => ("DreamDutyModel", "t", "I", false)
  | 12 => ("DreamDutyModel", "open", "I", false)
  | 13 => ("DreamDutyModel", "fault", "I", false)
  | 14 => ("DreamDutyModel", "faultPlace", "I", false)
  | 15 => ("DreamDutyModel", "worst", "I", false)
  | 16 => ("DreamDutyModel", "worstPlace", "I", false)
  | 17 => ("DreamDutyModel", "place", "I", false)
  | 18 => ("DreamDutyModel", "live", "I", false)
  | 19 => ("DreamDutyModel", "side", "I", false)
  | 20 => ("DreamDutyModel", "names", "I", false)
  | 21 => ("DreamDutyModel", "nameOf", "[J", true)
  | 22 => ("DreamDutyModel", "nameSort", "[I", true)
  | 23 => ("DreamDutyModel", "nameAt", "[I", true)
  | 24 => ("DreamDutyModel", "things", "[I", true)
  | 25 => ("DreamDutyModel", "tariffOf", "[I", true)
  | 26 => ("DreamDutyModel", "inns", "[I", true)
  | 27 => ("DreamDutyModel", "priceOf", "[I", true)
  | 28 => ("DreamDutyModel", "bedsOf", "[I", true)
  | 29 => ("DreamDutyModel", "cheeseOf", "[I", true)
  | 30 => ("DreamDutyModel", "weightOf", "[I", true)
  | 31 => ("DreamDutyModel", "guests", "[I", true)
  | 32 => ("DreamDutyModel", "coinsTold", "[I", true)
  | 33 => ("DreamDutyModel", "honestOf", "[I", true)
  | 34 => ("DreamDutyModel", "degreeOf", "[I", true)
  | 35 => ("DreamDutyModel", "twinOf", "[I", true)
  | 36 => ("DreamDutyModel", "pairs", "[I", true)
  | 37 => ("DreamDutyModel", "posts", "[I", true)
  | 38 => ("DreamDutyModel", "watches", "[I", true)
  | 39 => ("DreamDutyModel", "fine", "[I", true)
  | 40 => ("DreamDutyModel", "seed", "[I", true)
  | 41 => ("DreamDutyModel", "lawFirst", "[I", true)
  | 42 => ("DreamDutyModel", "lawLast", "[I", true)
  | 43 => ("DreamDutyModel", "branches", "I", false)
  | 44 => ("DreamDutyModel", "hasTest", "[Z", true)
  | 45 => ("DreamDutyModel", "testFrom", "[I", true)
  | 46 => ("DreamDutyModel", "testMid", "[I", true)
  | 47 => ("DreamDutyModel", "testTo", "[I", true)
  | 48 => ("DreamDutyModel", "termTo", "[I", true)
  | 49 => ("DreamDutyModel", "codes", "I", false)
  | 50 => ("DreamDutyModel", "code", "[I", true)
  | 51 => ("DreamDutyModel", "codeInt", "[I", true)
  | 52 => ("DreamDutyModel", "waits", "[I", true)
  | 53 => ("DreamDutyModel", "waiting", "I", false)
  | 54 => ("DreamDutyModel", "variables", "[I", true)
  | 55 => ("DreamDutyModel", "pile", "[I", true)
  | 56 => ("DreamDutyModel", "isBroken", "Z", false)
  | 57 => ("DreamDutyModel", "now", "[I", true)
  | 58 => ("DreamDutyModel", "row", "[I", true)
  | 59 => ("DreamDutyModel", "lots", "I", false)
  | 60 => ("DreamDutyModel", "paying", "[I", true)
  | 61 => ("DreamDutyModel", "undos", "I", false)
  | 62 => ("DreamDutyModel", "history", "[I", true)
  | 63 => ("DreamDutyModel", "whole", "J", false)
  | 64 => ("DreamDutyModel", "costsBy", "[J", true)
  | 65 => ("DreamDutyModel", "lodgingCosts", "J", false)
  | 66 => ("DreamDutyModel", "lodgingWay", "I", false)
  | 67 => ("DreamDutyModel", "pairOne", "[I", true)
  | 68 => ("DreamDutyModel", "pairTwo", "[I", true)
  | 69 => ("DreamDutyModel", "swapSum", "I", false)
  | 70 => ("DreamDutyModel", "swapSet", "I", false)
  | 71 => ("DreamDutyModel", "told", "I", false)
  | 72 => ("DreamDutyModel", "toldThing", "[I", true)
  | 73 => ("DreamDutyModel", "isHeld", "[Z", true)
  | _ => ("DreamDutyModel", "heldRows", "[I", true)
def tyX12 : Nat → FieldType := fun k => match k with
  | 0 => .int
  | 1 => .array .byte
  | 2 => .int
  | 3 => .array .byte
  | 4 => .int
  | 5 => .array .int
  | 6 => .array .int
  | 7 => .array .int
  | 8 => .array .long
  | 9 => .array .long
  | 10 => .int
  | 11 => .int
  | 12 => .int
  | 13 => .int
  | 14 => .int
  | 15 => .int
  | 16 => .int
  | 17 => .int
  | 18 => .int
  | 19 => .int
  | 20 => .int
  | 21 => .array .long
  | 22 => .array .int
  | 23 => .array .int
  | 24 => .array .int
  | 25 => .array .int
  | 26 => .array .int
  | 27 => .array .int
  | 28 => .array .int
  | 29 => .array .int
  | 30 => .array .int
  | 31 => .array .int
  | 32 => .array .int
  | 33 => .array .int
  | 34 => .array .int
  | 35 => .array .int
  | 36 => .array .int
  | 37 => .array .int
  | 38 => .array .int
  | 39 => .array .int
  | 40 => .array .int
  | 41 => .array .int
  | 42 => .array .int
  | 43 => .int
  | 44 => .array .boolean
  | 45 => .array .int
  | 46 => .array .int
  | 47 => .array .int
  | 48 => .array .int
  | 49 => .int
  | 50 => .array .int
  | 51 => .array .int
  | 52 => .array .int
  | 53 => .int
  | 54 => .array .int
  | 55 => .array .int
  | 56 => .boolean
  | 57 => .array .int
  | 58 => .array .int
  | 59 => .int
  | 60 => .array .int
  | 61 => .int
  | 62 => .array .int
  | 63 => .long
  | 64 => .array .long
  | 65 => .long
  | 66 => .int
  | 67 => .array .int
  | 68 => .array .int
  | 69 => .int
  | 70 => .int
  | 71 => .int
  | 72 => .array .int
  | 73 => .array .boolean
  | _ => .array .int
abbrev wsX120 : List Cond := u_ws RX12 TX12 75
theorem nmX12 : ∀ a, a < 75 → ∀ b, b < 75 → a ≠ b → (TX12 a).2.1 ≠ (TX12 b).2.1 := by decide +kernel
theorem tyX12_ok : ∀ k, k < 75 → parseFieldDescriptor (TX12 k).2.2.1 = some (tyX12 k) := by decide +kernel
abbrev vwCl : List vw_C := [(RX0, TX0, 5), (RX1, TX1, 7), (RX2, TX2, 3), (RX3, TX3, 3), (RX4, TX4, 8), (RX5, TX5, 3), (RX6, TX6, 3), (RX7, TX7, 12), (RX8, TX8, 8), (RX9, TX9, 20), (RX10, TX10, 6), (RX11, TX11, 18), (RX12, TX12, 75)]
def gw : List Cond := lw_tbl.filter goodWord
theorem gw_of {i : Nat} {w : Cond} (h : lw_tbl[i]? = some w) (g : goodWord w = true) : w ∈ gw := List.mem_filter.mpr ⟨List.mem_of_getElem? h, g⟩
theorem gwc_1 {i : Nat} {w : Cond} (h : tables_1_1[i]? = some w) (g : goodWord w = true) : w ∈ gw := by
  have h1 : w ∈ tables_1 := by
    have := List.mem_of_getElem? h
    unfold tables_1
    simp only [List.mem_append]
    exact Or.inl this
  exact List.mem_filter.mpr ⟨List.mem_append_right _ h1, g⟩
theorem gwc_2 {i : Nat} {w : Cond} (h : tables_1_2[i]? = some w) (g : goodWord w = true) : w ∈ gw := by
  have h1 : w ∈ tables_1 := by
    have := List.mem_of_getElem? h
    unfold tables_1
    simp only [List.mem_append]
    exact Or.inr (Or.inl this)
  exact List.mem_filter.mpr ⟨List.mem_append_right _ h1, g⟩
theorem gwc_3 {i : Nat} {w : Cond} (h : tables_1_3[i]? = some w) (g : goodWord w = true) : w ∈ gw := by
  have h1 : w ∈ tables_1 := by
    have := List.mem_of_getElem? h
    unfold tables_1
    simp only [List.mem_append]
    exact Or.inr (Or.inr (Or.inl this))
  exact List.mem_filter.mpr ⟨List.mem_append_right _ h1, g⟩
theorem gwc_4 {i : Nat} {w : Cond} (h : tables_1_4[i]? = some w) (g : goodWord w = true) : w ∈ gw := by
  have h1 : w ∈ tables_1 := by
    have := List.mem_of_getElem? h
    unfold tables_1
    simp only [List.mem_append]
    exact Or.inr (Or.inr (Or.inr (Or.inl this)))
  exact List.mem_filter.mpr ⟨List.mem_append_right _ h1, g⟩
theorem gwc_5 {i : Nat} {w : Cond} (h : tables_1_5[i]? = some w) (g : goodWord w = true) : w ∈ gw := by
  have h1 : w ∈ tables_1 := by
    have := List.mem_of_getElem? h
    unfold tables_1
    simp only [List.mem_append]
    exact Or.inr (Or.inr (Or.inr (Or.inr (Or.inl this))))
  exact List.mem_filter.mpr ⟨List.mem_append_right _ h1, g⟩
theorem gwc_6 {i : Nat} {w : Cond} (h : tables_1_6[i]? = some w) (g : goodWord w = true) : w ∈ gw := by
  have h1 : w ∈ tables_1 := by
    have := List.mem_of_getElem? h
    unfold tables_1
    simp only [List.mem_append]
    exact Or.inr (Or.inr (Or.inr (Or.inr (Or.inr (Or.inl this)))))
  exact List.mem_filter.mpr ⟨List.mem_append_right _ h1, g⟩
theorem gwc_7 {i : Nat} {w : Cond} (h : tables_1_7[i]? = some w) (g : goodWord w = true) : w ∈ gw := by
  have h1 : w ∈ tables_1 := by
    have := List.mem_of_getElem? h
    unfold tables_1
    simp only [List.mem_append]
    exact Or.inr (Or.inr (Or.inr (Or.inr (Or.inr (Or.inr (Or.inl this))))))
  exact List.mem_filter.mpr ⟨List.mem_append_right _ h1, g⟩
theorem gwc_8 {i : Nat} {w : Cond} (h : tables_1_8[i]? = some w) (g : goodWord w = true) : w ∈ gw := by
  have h1 : w ∈ tables_1 := by
    have := List.mem_of_getElem? h
    unfold tables_1
    simp only [List.mem_append]
    exact Or.inr (Or.inr (Or.inr (Or.inr (Or.inr (Or.inr (Or.inr (this)))))))
  exact List.mem_filter.mpr ⟨List.mem_append_right _ h1, g⟩
theorem lw_of {i : Nat} {w : Cond} (h : lw_tbl[i]? = some w) : w ∈ lw_tbl := List.mem_of_getElem? h
def pOwnL : List (Nat × String) := [(0, "DreamDuty$Border"), (1, "DreamDuty$Grammar"), (2, "DreamDuty$History"), (3, "DreamDuty$Law"), (4, "DreamDuty$Lodgings"), (5, "DreamDuty$Pairings"), (6, "DreamDuty$Rests"), (7, "DreamDuty$State"), (8, "DreamDuty$Teller"), (9, "DreamDuty$Text"), (10, "DreamDuty$Tokens"), (11, "DreamDuty"), (12, "DreamDutyModel"), (13, "DreamDutyLaw"), (60, "java/lang/Integer"), (61, "java/lang/String"), (62, "java/lang/StringLatin1"), (63, "java/util/Arrays"), (64, "jdk/internal/util/Preconditions")]
def pOwnN (i : Nat) : String := (pOwnL.lookup i).getD ""
def pOwns : List Nat := [0, 0, 0, 0, 0, 0, 0, 0, 0, 0, 0, 0, 0, 0, 0, 0, 0, 0, 0, 0, 0, 1, 1, 1, 1, 1, 1, 1, 1, 1, 1, 1, 1, 1, 1, 1, 1, 1, 1, 1, 2, 2, 2, 2, 3, 3, 3, 3, 3, 3, 3, 3, 4, 4, 4, 4, 4, 4, 4, 4, 5, 5, 5, 5, 6, 6, 6, 7, 7, 7, 7, 7, 7, 8, 8, 8, 8, 8, 8, 8, 8, 8, 8, 8, 8, 8, 8, 8, 8, 8, 9, 9, 9, 9, 9, 9, 10, 10, 10, 10, 10, 10, 10, 10, 10, 10, 10, 10, 10, 11, 11, 11, 11, 11, 11, 11, 11, 11, 11, 11, 11, 11, 11, 11, 11, 11, 11, 11, 11, 11, 11, 11, 11, 11, 11, 11, 11, 11, 11, 11, 11, 11, 11, 11, 11, 11, 11, 11, 11, 11, 11, 11, 11, 11, 11, 11, 11, 11, 11, 12, 12, 12, 12, 12, 12, 12, 12, 12, 12, 12, 12, 12, 12, 12, 12, 12, 12, 12, 12, 12, 12, 12, 12, 12, 12, 12, 12, 12, 12, 12, 12, 12, 12, 12, 12, 12, 12, 12, 12, 12, 12, 12, 12, 12, 12, 12, 12, 12, 12, 12, 12, 12, 12, 12, 12, 12, 12, 12, 12, 12, 12, 12, 12, 12, 12, 12, 12, 12, 12, 12, 12, 12, 12, 12, 12, 12, 12, 12, 12, 12, 12, 12, 12, 12, 12, 12, 12, 12, 12, 12, 12, 12, 12, 12, 12, 12, 12, 12, 12, 12, 12, 12, 12, 12, 12, 12, 12, 12, 12, 12, 60, 63, 61, 61, 61, 61, 62, 61, 64, 61, 61, 62, 62, 62, 13]
def pOwn (k : Nat) : Nat := pOwns.getD k 99
def pYs_0 : List (MethodName) := [⟨"DreamDuty$Border", "<init>", "()V"⟩, ⟨"DreamDuty$Border", "begin", "(LDreamDuty$Text;)V"⟩, ⟨"DreamDuty$Border", "takeOver", "(LDreamDuty$Border;)V"⟩, ⟨"DreamDuty$Border", "lodgersOf", "(I)I"⟩, ⟨"DreamDuty$Border", "usedInns", "()I"⟩, ⟨"DreamDuty$Border", "dreamers", "()I"⟩, ⟨"DreamDuty$Border", "sleep", "()V"⟩, ⟨"DreamDuty$Border", "dreamAt", "(II)V"⟩, ⟨"DreamDuty$Border", "drawn", "(II)I"⟩, ⟨"DreamDuty$Border", "lot", "(II)I"⟩, ⟨"DreamDuty$Border", "stirred", "(II)I"⟩, ⟨"DreamDuty$Border", "dreamWould", "(III)I"⟩, ⟨"DreamDuty$Border", "twiceAt", "(III)I"⟩, ⟨"DreamDuty$Border", "dutyFor", "(III)I"⟩, ⟨"DreamDuty$Border", "eyesOf", "(I)I"⟩, ⟨"DreamDuty$Border", "look", "(III)V"⟩, ⟨"DreamDuty$Border", "alike", "(II)I"⟩, ⟨"DreamDuty$Border", "weighAll", "()I"⟩, ⟨"DreamDuty$Border", "customs", "()I"⟩, ⟨"DreamDuty$Border", "paysAtCustoms", "(I)I"⟩, ⟨"DreamDuty$Border", "meanSum", "(II)I"⟩, ⟨"DreamDuty$Grammar", "<init>", "(LDreamDuty$Tokens;)V"⟩, ⟨"DreamDuty$Grammar", "check", "(LDreamDuty$Text;)I"⟩, ⟨"DreamDuty$Grammar", "stopped", "()I"⟩, ⟨"DreamDuty$Grammar", "tellOne", "(LDreamDuty$Text;)V"⟩, ⟨"DreamDuty$Grammar", "mostOf", "(I)I"⟩, ⟨"DreamDuty$Grammar", "shapeOf", "(I)Ljava/lang/String;"⟩, ⟨"DreamDuty$Grammar", "takeAll", "(Ljava/lang/String;)V"⟩, ⟨"DreamDuty$Grammar", "postOf", "()V"⟩, ⟨"DreamDuty$Grammar", "lawOf", "(LDreamDuty$Law;)V"⟩, ⟨"DreamDuty$Grammar", "expression", "(LDreamDuty$Law;I)V"⟩, ⟨"DreamDuty$Grammar", "unit", "(LDreamDuty$Law;)Z"⟩, ⟨"DreamDuty$Grammar", "open", "()V"⟩, ⟨"DreamDuty$Grammar", "behindUnit", "(LDreamDuty$Law;)Z"⟩, ⟨"DreamDuty$Grammar", "push", "(I)V"⟩, ⟨"DreamDuty$Grammar", "unwind", "(LDreamDuty$Law;I)V"⟩, ⟨"DreamDuty$Grammar", "rankOf", "(I)I"⟩, ⟨"DreamDuty$Grammar", "stepOf", "(I)I"⟩, ⟨"DreamDuty$Grammar", "take", "(I)V"⟩, ⟨"DreamDuty$Grammar", "step", "()V"⟩, ⟨"DreamDuty$History", "<init>", "()V"⟩, ⟨"DreamDuty$History", "clear", "()V"⟩, ⟨"DreamDuty$History", "remember", "(LDreamDuty$State;)V"⟩, ⟨"DreamDuty$History", "goBack", "(LDreamDuty$State;)Z"⟩, ⟨"DreamDuty$Law", "<init>", "()V"⟩, ⟨"DreamDuty$Law", "clear", "()V"⟩, ⟨"DreamDuty$Law", "add", "(I)V"⟩, ⟨"DreamDuty$Law", "addJump", "()I"⟩, ⟨"DreamDuty$Law", "land", "(I)V"⟩, ⟨"DreamDuty$Law", "tells", "([I)I"⟩, ⟨"DreamDuty$Law", "goalOf", "(I)I"⟩, ⟨"DreamDuty$Law", "worked", "(III)I"⟩, ⟨"DreamDuty$Lodgings", "<init>", "()V"⟩, ⟨"DreamDuty$Lodgings", "find", "(LDreamDuty$Border;I)Z"⟩, ⟨"DreamDuty$Lodgings", "sum", "()I"⟩, ⟨"DreamDuty$Lodgings", "innOf", "(I)I"⟩, ⟨"DreamDuty$Lodgings", "prepare", "(LDreamDuty$Border;I)V"⟩, ⟨"DreamDuty$Lodgings", "spread", "(II)V"⟩, ⟨"DreamDuty$Lodgings", "fits", "(I)Z"⟩, ⟨"DreamDuty$Lodgings", "sumOf", "()J"⟩, ⟨"DreamDuty$Pairings", "<init>", "()V"⟩, ⟨"DreamDuty$Pairings", "find", "(LDreamDuty$Border;)V"⟩, ⟨"DreamDuty$Pairings", "pair", "(LDreamDuty$Border;IIII)V"⟩, ⟨"DreamDuty$Pairings", "keepIfBetter", "(III)V"⟩, ⟨"DreamDuty$Rests", "<init>", "()V"⟩, ⟨"DreamDuty$Rests", "weigh", "(LDreamDuty$Border;)V"⟩, ⟨"DreamDuty$Rests", "holds", "(I)Z"⟩, ⟨"DreamDuty$State", "<init>", "()V"⟩, ⟨"DreamDuty$State", "begin", "(LDreamDuty$Text;)V"⟩, ⟨"DreamDuty$State", "copy", "(LDreamDuty$State;)V"⟩, ⟨"DreamDuty$State", "change", "(II)V"⟩, ⟨"DreamDuty$State", "leave", "(I)V"⟩, ⟨"DreamDuty$State", "takeBack", "(I)V"⟩, ⟨"DreamDuty$Teller", "<init>", "(LDreamDuty$Tokens;)V"⟩, ⟨"DreamDuty$Teller", "check", "(LDreamDuty$Text;)I"⟩, ⟨"DreamDuty$Teller", "stopped", "()I"⟩, ⟨"DreamDuty$Teller", "tellOne", "(LDreamDuty$Text;)V"⟩, ⟨"DreamDuty$Teller", "thingOf", "(LDreamDuty$Text;)V"⟩, ⟨"DreamDuty$Teller", "innOf", "(LDreamDuty$Text;)V"⟩, ⟨"DreamDuty$Teller", "guestOf", "(LDreamDuty$Text;)V"⟩, ⟨"DreamDuty$Teller", "weightOf", "(LDreamDuty$Text;)V"⟩, ⟨"DreamDuty$Teller", "twinsOf", "(LDreamDuty$Text;)V"⟩, ⟨"DreamDuty$Teller", "newTwin", "(LDreamDuty$Text;I)I"⟩, ⟨"DreamDuty$Teller", "postOf", "(LDreamDuty$Text;)V"⟩, ⟨"DreamDuty$Teller", "newName", "(II)V"⟩, ⟨"DreamDuty$Teller", "formerName", "(I)I"⟩, ⟨"DreamDuty$Teller", "find", "(J)I"⟩, ⟨"DreamDuty$Teller", "number", "(II)I"⟩, ⟨"DreamDuty$Teller", "goBehindSemicolon", "()V"⟩, ⟨"DreamDuty$Teller", "fail", "(II)V"⟩, ⟨"DreamDuty$Text", "<init>", "()V"⟩, ⟨"DreamDuty$Text", "clear", "()V"⟩, ⟨"DreamDuty$Text", "addUp", "()V"⟩, ⟨"DreamDuty$Text", "weightOf", "(II)I"⟩, ⟨"DreamDuty$Text", "watchedBy", "(I)I"⟩, ⟨"DreamDuty$Text", "lawOf", "(I)LDreamDuty$Law;"⟩, ⟨"DreamDuty$Tokens", "<init>", "()V"⟩, ⟨"DreamDuty$Tokens", "scan", "([II)V"⟩, ⟨"DreamDuty$Tokens", "kindAt", "(I)I"⟩, ⟨"DreamDuty$Tokens", "placeAt", "(I)I"⟩, ⟨"DreamDuty$Tokens", "valueAt", "(I)J"⟩, ⟨"DreamDuty$Tokens", "variable", "(I)I"⟩, ⟨"DreamDuty$Tokens", "isBlank", "(I)Z"⟩, ⟨"DreamDuty$Tokens", "isLetter", "(I)Z"⟩, ⟨"DreamDuty$Tokens", "isDigit", "(I)Z"⟩, ⟨"DreamDuty$Tokens", "endOf", "([III)I"⟩, ⟨"DreamDuty$Tokens", "kindOf", "([III)I"⟩, ⟨"DreamDuty$Tokens", "intOf", "([III)I"⟩, ⟨"DreamDuty$Tokens", "nameOf", "([III)I"⟩, ⟨"DreamDuty", "<init>", "()V"⟩, ⟨"DreamDuty", "feed", "(IIIII)I"⟩, ⟨"DreamDuty", "back", "(I)I"⟩, ⟨"DreamDuty", "read", "()I"⟩, ⟨"DreamDuty", "place", "()I"⟩, ⟨"DreamDuty", "guest", "(II)I"⟩, ⟨"DreamDuty", "inn", "(II)I"⟩, ⟨"DreamDuty", "gives", "(II)I"⟩, ⟨"DreamDuty", "lodge", "(II)Z"⟩, ⟨"DreamDuty", "nights", "(I)I"⟩, ⟨"DreamDuty", "morning", "()I"⟩, ⟨"DreamDuty", "swap", "(II)Z"⟩, ⟨"DreamDuty", "deposit", "(IZ)I"⟩, ⟨"DreamDuty", "undo", "()Z"⟩, ⟨"DreamDuty", "owes", "(III)I"⟩, ⟨"DreamDuty", "mean", "(IIZ)I"⟩, ⟨"DreamDuty", "sure", "(I)I"⟩, ⟨"DreamDuty", "lodging", "(I)I"⟩, ⟨"DreamDuty", "lodgingAt", "(II)I"⟩, ⟨"DreamDuty", "swaps", "(I)I"⟩, ⟨"DreamDuty", "declares", "(I)I"⟩, ⟨"DreamDuty", "posts", "(I)I"⟩, ⟨"DreamDuty", "year", "(III)I"⟩, ⟨"DreamDuty", "poorBy", "(I)I"⟩, ⟨"DreamDuty", "shows", "(I)I"⟩, ⟨"DreamDuty", "tell", "(I)I"⟩, ⟨"DreamDuty", "forget", "()I"⟩, ⟨"DreamDuty", "from", "(I)I"⟩, ⟨"DreamDuty", "likeliest", "(I)I"⟩, ⟨"DreamDuty", "whose", "(I)I"⟩, ⟨"DreamDuty", "hold", "(I)Z"⟩, ⟨"DreamDuty", "restore", "(I)Z"⟩, ⟨"DreamDuty", "count", "(I)I"⟩, ⟨"DreamDuty", "begin", "()V"⟩, ⟨"DreamDuty", "putWord", "(I)V"⟩, ⟨"DreamDuty", "isThing", "(I)Z"⟩, ⟨"DreamDuty", "isInn", "(I)Z"⟩, ⟨"DreamDuty", "isGuest", "(I)Z"⟩, ⟨"DreamDuty", "isLodgingSet", "(I)Z"⟩, ⟨"DreamDuty", "isKnown", "(I)Z"⟩, ⟨"DreamDuty", "heldSlots", "()I"⟩, ⟨"DreamDuty", "innsOf", "(I)I"⟩, ⟨"DreamDuty", "weightsOf", "(II)J"⟩, ⟨"DreamDuty", "allWeightsOf", "(II)J"⟩, ⟨"DreamDuty", "dreamOf", "(III)I"⟩, ⟨"DreamDuty", "thingOf", "(I)I"⟩, ⟨"DreamDuty", "unitsOf", "(I)I"⟩, ⟨"DreamDuty", "twiceOf", "(I)I"⟩, ⟨"DreamDuty", "clamp", "(II)I"⟩, ⟨"DreamDuty", "commonDivisor", "(JJ)J"⟩, ⟨"DreamDutyModel", "<init>", "()V"⟩, ⟨"DreamDutyModel", "feed", "(IIIII)I"⟩, ⟨"DreamDutyModel", "put", "(I)V"⟩, ⟨"DreamDutyModel", "back", "(I)I"⟩, ⟨"DreamDutyModel", "byteAt", "(I)I"⟩, ⟨"DreamDutyModel", "isDigit", "(I)Z"⟩, ⟨"DreamDutyModel", "isLetter", "(I)Z"⟩, ⟨"DreamDutyModel", "appends", "(JI)J"⟩, ⟨"DreamDutyModel", "word", "(IIIIIII)J"⟩, ⟨"DreamDutyModel", "token", "(IIIJ)V"⟩, ⟨"DreamDutyModel", "cut", "()V"⟩, ⟨"DreamDutyModel", "sign", "(III)I"⟩, ⟨"DreamDutyModel", "is", "(I)Z"⟩, ⟨"DreamDutyModel", "fail", "(I)V"⟩, ⟨"DreamDutyModel", "wrong", "(II)V"⟩, ⟨"DreamDutyModel", "goesOn", "()V"⟩, ⟨"DreamDutyModel", "must", "(I)V"⟩, ⟨"DreamDutyModel", "plain", "(I)V"⟩, ⟨"DreamDutyModel", "read", "()I"⟩, ⟨"DreamDutyModel", "place", "()I"⟩, ⟨"DreamDutyModel", "roomFor", "(II)V"⟩, ⟨"DreamDutyModel", "tellOne", "()V"⟩, ⟨"DreamDutyModel", "named", "()I"⟩, ⟨"DreamDutyModel", "notes", "(III)V"⟩, ⟨"DreamDutyModel", "known", "(I)I"⟩, ⟨"DreamDutyModel", "bounded", "(II)I"⟩, ⟨"DreamDutyModel", "tellThing", "()V"⟩, ⟨"DreamDutyModel", "tellInn", "()V"⟩, ⟨"DreamDutyModel", "tellGuest", "()V"⟩, ⟨"DreamDutyModel", "tellTwins", "()V"⟩, ⟨"DreamDutyModel", "tellPost", "()V"⟩, ⟨"DreamDutyModel", "tellLaw", "(I)V"⟩, ⟨"DreamDutyModel", "term", "()V"⟩, ⟨"DreamDutyModel", "emit", "(II)V"⟩, ⟨"DreamDutyModel", "comesOut", "(Z)V"⟩, ⟨"DreamDutyModel", "expression", "()V"⟩, ⟨"DreamDutyModel", "unit", "()V"⟩, ⟨"DreamDutyModel", "termOf", "(II)I"⟩, ⟨"DreamDutyModel", "in", "(III)Z"⟩, ⟨"DreamDutyModel", "bits", "(I)I"⟩, ⟨"DreamDutyModel", "isGuest", "(I)Z"⟩, ⟨"DreamDutyModel", "isInn", "(I)Z"⟩, ⟨"DreamDutyModel", "isThing", "(I)Z"⟩, ⟨"DreamDutyModel", "begins", "()V"⟩, ⟨"DreamDutyModel", "keepsRow", "()V"⟩, ⟨"DreamDutyModel", "copies", "()V"⟩, ⟨"DreamDutyModel", "mixed", "(II)I"⟩, ⟨"DreamDutyModel", "lotOf", "(II)I"⟩, ⟨"DreamDutyModel", "weightIn", "(II)I"⟩, ⟨"DreamDutyModel", "weightsOf", "(I)I"⟩, ⟨"DreamDutyModel", "alikeTo", "(II)I"⟩, ⟨"DreamDutyModel", "isTwice", "(III)Z"⟩, ⟨"DreamDutyModel", "looks", "(IIIII)V"⟩, ⟨"DreamDutyModel", "asks", "(III)I"⟩, ⟨"DreamDutyModel", "muchOf", "(IIII)I"⟩, ⟨"DreamDutyModel", "dutyOf", "(IIIII)I"⟩, ⟨"DreamDutyModel", "ownDuty", "(I)I"⟩, ⟨"DreamDutyModel", "owesNow", "(I)I"⟩, ⟨"DreamDutyModel", "showsNow", "(I)I"⟩, ⟨"DreamDutyModel", "losesDream", "(I)V"⟩, ⟨"DreamDutyModel", "sleeps", "(I)V"⟩, ⟨"DreamDutyModel", "nightGoes", "()V"⟩, ⟨"DreamDutyModel", "paysIn", "(I)I"⟩, ⟨"DreamDutyModel", "morningGoes", "()I"⟩, ⟨"DreamDutyModel", "withDreams", "()I"⟩, ⟨"DreamDutyModel", "lodgedAt", "(I)I"⟩, ⟨"DreamDutyModel", "guest", "(II)I"⟩, ⟨"DreamDutyModel", "inn", "(II)I"⟩, ⟨"DreamDutyModel", "gives", "(II)I"⟩, ⟨"DreamDutyModel", "keeps", "()V"⟩, ⟨"DreamDutyModel", "lodge", "(II)Z"⟩, ⟨"DreamDutyModel", "nights", "(I)I"⟩, ⟨"DreamDutyModel", "morning", "()I"⟩, ⟨"DreamDutyModel", "swapsTwo", "(II)V"⟩, ⟨"DreamDutyModel", "swap", "(II)Z"⟩, ⟨"DreamDutyModel", "deposit", "(IZ)I"⟩, ⟨"DreamDutyModel", "undo", "()Z"⟩, ⟨"DreamDutyModel", "owes", "(III)I"⟩, ⟨"DreamDutyModel", "common", "(II)I"⟩, ⟨"DreamDutyModel", "meanAbove", "(II)I"⟩, ⟨"DreamDutyModel", "mean", "(IIZ)I"⟩, ⟨"DreamDutyModel", "sure", "(I)I"⟩, ⟨"DreamDutyModel", "fillsCosts", "()V"⟩, ⟨"DreamDutyModel", "fives", "(I)I"⟩, ⟨"DreamDutyModel", "innIn", "(III)I"⟩, ⟨"DreamDutyModel", "hasBeds", "(II)Z"⟩, ⟨"DreamDutyModel", "fillsLodging", "(I)V"⟩, ⟨"DreamDutyModel", "isSet", "(I)Z"⟩, ⟨"DreamDutyModel", "lodging", "(I)I"⟩, ⟨"DreamDutyModel", "lodgingAt", "(II)I"⟩, ⟨"DreamDutyModel", "fillsPairs", "()V"⟩, ⟨"DreamDutyModel", "swapsAll", "(I)Z"⟩, ⟨"DreamDutyModel", "fillsSwaps", "()V"⟩, ⟨"DreamDutyModel", "swaps", "(I)I"⟩, ⟨"DreamDutyModel", "paysBy", "(II)I"⟩, ⟨"DreamDutyModel", "isResting", "(II)Z"⟩, ⟨"DreamDutyModel", "declares", "(I)I"⟩, ⟨"DreamDutyModel", "posts", "(I)I"⟩, ⟨"DreamDutyModel", "year", "(III)I"⟩, ⟨"DreamDutyModel", "poorBy", "(I)I"⟩, ⟨"DreamDutyModel", "shows", "(I)I"⟩, ⟨"DreamDutyModel", "tell", "(I)I"⟩, ⟨"DreamDutyModel", "forget", "()I"⟩, ⟨"DreamDutyModel", "fromBy", "(I)I"⟩, ⟨"DreamDutyModel", "from", "(I)I"⟩, ⟨"DreamDutyModel", "productIn", "(IIZ)J"⟩, ⟨"DreamDutyModel", "likeliest", "(I)I"⟩, ⟨"DreamDutyModel", "whose", "(I)I"⟩, ⟨"DreamDutyModel", "hold", "(I)Z"⟩, ⟨"DreamDutyModel", "restore", "(I)Z"⟩, ⟨"DreamDutyModel", "count", "(I)I"⟩, ⟨"java/lang/Integer", "bitCount", "(I)I"⟩, ⟨"java/util/Arrays", "fill", "([II)V"⟩, ⟨"java/lang/String", "length", "()I"⟩, ⟨"java/lang/String", "coder", "()B"⟩, ⟨"java/lang/String", "charAt", "(I)C"⟩, ⟨"java/lang/String", "isLatin1", "()Z"⟩, ⟨"java/lang/StringLatin1", "charAt", "([BI)C"⟩, ⟨"java/lang/String", "checkIndex", "(II)V"⟩, ⟨"jdk/internal/util/Preconditions", "checkIndex", "(IILjava/util/function/BiFunction;)I"⟩, ⟨"java/lang/String", "indexOf", "(I)I"⟩, ⟨"java/lang/String", "indexOf", "(II)I"⟩, ⟨"java/lang/StringLatin1", "indexOf", "([BIII)I"⟩, ⟨"java/lang/StringLatin1", "canEncode", "(I)Z"⟩, ⟨"java/lang/StringLatin1", "indexOfChar", "([BIII)I"⟩, ⟨"DreamDutyLaw", "law", "([I)Z"⟩]
def pYs : List (MethodName) := pYs_0
def pY (k : Nat) : MethodName := pYs.getD k ⟨"", "", ""⟩
def pBytess_0 : List (ByteArray) := [prog_2_method_1_code, prog_2_method_2_code, prog_2_method_3_code, prog_2_method_4_code, prog_2_method_5_code, prog_2_method_6_code, prog_2_method_7_code, prog_2_method_8_code, prog_2_method_9_code, prog_2_method_10_code, prog_2_method_11_code, prog_2_method_12_code, prog_2_method_13_code, prog_2_method_14_code, prog_2_method_15_code, prog_2_method_16_code, prog_2_method_17_code, prog_2_method_18_code, prog_2_method_19_code, prog_2_method_20_code, prog_2_method_21_code, prog_3_method_1_code, prog_3_method_2_code, prog_3_method_3_code, prog_3_method_4_code, prog_3_method_5_code, prog_3_method_6_code, prog_3_method_7_code, prog_3_method_8_code, prog_3_method_9_code, prog_3_method_10_code, prog_3_method_11_code, prog_3_method_12_code, prog_3_method_13_code, prog_3_method_14_code, prog_3_method_15_code, prog_3_method_16_code, prog_3_method_17_code, prog_3_method_18_code, prog_3_method_19_code, prog_4_method_1_code, prog_4_method_2_code, prog_4_method_3_code, prog_4_method_4_code, prog_5_method_1_code, prog_5_method_2_code, prog_5_method_3_code, prog_5_method_4_code, prog_5_method_5_code, prog_5_method_6_code, prog_5_method_7_code, prog_5_method_8_code, prog_6_method_1_code, prog_6_method_2_code, prog_6_method_3_code, prog_6_method_4_code, prog_6_method_5_code, prog_6_method_6_code, prog_6_method_7_code, prog_6_method_8_code, prog_7_method_1_code, prog_7_method_2_code, prog_7_method_3_code, prog_7_method_4_code, prog_8_method_1_code, prog_8_method_2_code, prog_8_method_3_code, prog_9_method_1_code, prog_9_method_2_code, prog_9_method_3_code, prog_9_method_4_code, prog_9_method_5_code, prog_9_method_6_code, prog_10_method_1_code, prog_10_method_2_code, prog_10_method_3_code, prog_10_method_4_code, prog_10_method_5_code, prog_10_method_6_code, prog_10_method_7_code, prog_10_method_8_code, prog_10_method_9_code, prog_10_method_10_code, prog_10_method_11_code, prog_10_method_12_code, prog_10_method_13_code, prog_10_method_14_code, prog_10_method_15_code, prog_10_method_16_code, prog_10_method_17_code, prog_11_method_1_code, prog_11_method_2_code, prog_11_method_3_code, prog_11_method_4_code, prog_11_method_5_code, prog_11_method_6_code, prog_12_method_1_code, prog_12_method_2_code, prog_12_method_3_code, prog_12_method_4_code, prog_12_method_5_code, prog_12_method_6_code, prog_12_method_7_code, prog_12_method_8_code, prog_12_method_9_code, prog_12_method_10_code, prog_12_method_11_code, prog_12_method_12_code, prog_12_method_13_code, prog_1_method_1_code, prog_1_method_2_code, prog_1_method_3_code, prog_1_method_4_code, prog_1_method_5_code, prog_1_method_6_code, prog_1_method_7_code, prog_1_method_8_code, prog_1_method_9_code, prog_1_method_10_code, prog_1_method_11_code, prog_1_method_12_code, prog_1_method_13_code, prog_1_method_14_code, prog_1_method_15_code, prog_1_method_16_code, prog_1_method_17_code, prog_1_method_18_code, prog_1_method_19_code, prog_1_method_20_code, prog_1_method_21_code, prog_1_method_22_code, prog_1_method_23_code, prog_1_method_24_code, prog_1_method_25_code, prog_1_method_26_code, prog_1_method_27_code, prog_1_method_28_code, prog_1_method_29_code, prog_1_method_30_code, prog_1_method_31_code, prog_1_method_32_code, prog_1_method_33_code, prog_1_method_34_code, prog_1_method_35_code, prog_1_method_36_code, prog_1_method_37_code, prog_1_method_38_code, prog_1_method_39_code, prog_1_method_40_code, prog_1_method_41_code, prog_1_method_42_code, prog_1_method_43_code, prog_1_method_44_code, prog_1_method_45_code, prog_1_method_46_code, prog_1_method_47_code, prog_1_method_48_code, prog_1_method_49_code, prog_1_method_50_code, prog_14_method_2_code, prog_14_method_3_code, prog_14_method_4_code, prog_14_method_5_code, prog_14_method_6_code, prog_14_method_7_code, prog_14_method_8_code, prog_14_method_9_code, prog_14_method_10_code, prog_14_method_11_code, prog_14_method_12_code, prog_14_method_13_code, prog_14_method_14_code, prog_14_method_15_code, prog_14_method_16_code, prog_14_method_17_code, prog_14_method_18_code, prog_14_method_19_code, prog_14_method_20_code, prog_14_method_21_code, prog_14_method_22_code, prog_14_method_23_code, prog_14_method_24_code, prog_14_method_25_code, prog_14_method_26_code, prog_14_method_27_code, prog_14_method_28_code, prog_14_method_29_code, prog_14_method_30_code, prog_14_method_31_code, prog_14_method_32_code, prog_14_method_33_code, prog_14_method_34_code, prog_14_method_35_code, prog_14_method_36_code, prog_14_method_37_code, prog_14_method_38_code, prog_14_method_39_code, prog_14_method_40_code, prog_14_method_41_code, prog_14_method_42_code, prog_14_method_43_code, prog_14_method_44_code, prog_14_method_45_code, prog_14_method_46_code, prog_14_method_47_code, prog_14_method_48_code, prog_14_method_49_code, prog_14_method_50_code, prog_14_method_51_code, prog_14_method_52_code, prog_14_method_53_code, prog_14_method_54_code, prog_14_method_55_code, prog_14_method_56_code, prog_14_method_57_code, prog_14_method_58_code, prog_14_method_59_code, prog_14_method_60_code, prog_14_method_61_code, prog_14_method_62_code, prog_14_method_63_code, prog_14_method_64_code, prog_14_method_65_code, prog_14_method_66_code, prog_14_method_67_code, prog_14_method_68_code, prog_14_method_69_code, prog_14_method_70_code, prog_14_method_71_code, prog_14_method_72_code, prog_14_method_73_code, prog_14_method_74_code, prog_14_method_75_code, prog_14_method_76_code, prog_14_method_77_code, prog_14_method_78_code, prog_14_method_79_code, prog_14_method_80_code, prog_14_method_81_code, prog_14_method_82_code, prog_14_method_83_code, prog_14_method_84_code, prog_14_method_85_code, prog_14_method_86_code, prog_14_method_87_code, prog_14_method_88_code, prog_14_method_89_code, prog_14_method_90_code, prog_14_method_91_code, prog_14_method_92_code, prog_14_method_93_code, prog_14_method_94_code, prog_14_method_95_code, prog_14_method_96_code, prog_14_method_97_code, prog_14_method_98_code, prog_14_method_99_code, prog_14_method_100_code, prog_14_method_101_code, prog_14_method_102_code, prog_14_method_103_code, prog_14_method_104_code, prog_14_method_105_code, prog_14_method_106_code, prog_14_method_107_code, prog_14_method_108_code, prog_14_method_109_code, prog_14_method_110_code, prog_14_method_111_code, prog_14_method_112_code, prog_16_method_49_code, prog_22_method_103_code, prog_18_method_54_code, prog_18_method_152_code, prog_18_method_56_code, prog_18_method_154_code, prog_19_method_2_code, prog_18_method_155_code, prog_23_method_11_code, prog_18_method_79_code, prog_18_method_80_code, prog_19_method_22_code, prog_19_method_4_code, prog_19_method_23_code, code]
def pBytess : List (ByteArray) := pBytess_0
def pBytes (k : Nat) : ByteArray := pBytess.getD k ⟨#[]⟩
def pRets_0 : List (Option FieldType) := [none, none, none, some .int, some .int, some .int, none, none, some .int, some .int, some .int, some .int, some .int, some .int, some .int, none, some .int, some .int, some .int, some .int, some .int, none, some .int, some .int, none, some .int, some (.object "java/lang/String"), none, none, none, none, some .boolean, none, some .boolean, none, none, some .int, some .int, none, none, none, none, none, some .boolean, none, none, none, some .int, none, some .int, some .int, some .int, none, some .boolean, some .int, some .int, none, none, some .boolean, some .long, none, none, none, none, none, none, some .boolean, none, none, none, none, none, none, none, some .int, some .int, none, none, none, none, none, none, some .int, none, none, some .int, some .int, some .int, none, none, none, none, none, some .int, some .int, some (.object "DreamDuty$Law"), none, none, some .int, some .int, some .long, some .int, some .boolean, some .boolean, some .boolean, some .int, some .int, some .int, some .int, none, some .int, some .int, some .int, some .int, some .int, some .int, some .int, some .boolean, some .int, some .int, some .boolean, some .int, some .boolean, some .int, some .int, some .int, some .int, some .int, some .int, some .int, some .int, some .int, some .int, some .int, some .int, some .int, some .int, some .int, some .int, some .boolean, some .boolean, some .int, none, none, some .boolean, some .boolean, some .boolean, some .boolean, some .boolean, some .int, some .int, some .long, some .long, some .int, some .int, some .int, some .int, some .int, some .long, none, some .int, none, some .int, some .int, some .boolean, some .boolean, some .long, some .long, none, none, some .int, some .boolean, none, none, none, none, none, some .int, some .int, none, none, some .int, none, some .int, some .int, none, none, none, none, none, none, none, none, none, none, none, some .int, some .boolean, some .int, some .boolean, some .boolean, some .boolean, none, none, none, some .int, some .int, some .int, some .int, some .int, some .boolean, none, some .int, some .int, some .int, some .int, some .int, some .int, none, none, none, some .int, some .int, some .int, some .int, some .int, some .int, some .int, none, some .boolean, some .int, some .int, none, some .boolean, some .int, some .boolean, some .int, some .int, some .int, some .int, some .int, none, some .int, some .int, some .boolean, none, some .boolean, some .int, some .int, none, some .boolean, none, some .int, some .int, some .boolean, some .int, some .int, some .int, some .int, some .int, some .int, some .int, some .int, some .int, some .long, some .int, some .int, some .boolean, some .boolean, some .int, some .int, none, some .int, some .byte, some .char, some .boolean, some .char, none, some .int, some .int, some .int, some .int, some .boolean, some .int, some .boolean]
def pRets : List (Option FieldType) := pRets_0
def pRet (k : Nat) : Option FieldType := pRets.getD k none
def pVoid (k : Nat) : Bool := (pRet k).isNone
def pInits : List Nat := [0, 21, 40, 44, 52, 60, 64, 67, 73, 90, 96, 109, 159]
def pFld_0 : List (Nat × Nat × Nat × Nat) := [(0, 12, 0, 0), (0, 18, 0, 1), (0, 24, 0, 2), (0, 27, 0, 3), (0, 31, 9, 5), (0, 37, 0, 4), (0, 46, 9, 2), (0, 49, 7, 4), (0, 52, 7, 5), (0, 55, 7, 3), (0, 58, 9, 7), (0, 61, 7, 2), (0, 68, 7, 0), (0, 79, 7, 10), (0, 82, 7, 11), (0, 85, 9, 11), (0, 91, 9, 0), (0, 111, 9, 17), (0, 122, 9, 18), (0, 125, 9, 19)]
def pFld_1 : List (Nat × Nat × Nat × Nat) := [(0, 132, 9, 6), (0, 138, 9, 9), (0, 141, 9, 14), (0, 144, 9, 13), (0, 156, 9, 15), (0, 166, 7, 1), (0, 175, 7, 8), (0, 181, 7, 9), (0, 184, 9, 4), (1, 11, 1, 1), (1, 17, 1, 2), (1, 20, 1, 0), (1, 24, 1, 5), (1, 28, 1, 6), (1, 116, 1, 3), (1, 119, 1, 4), (2, 11, 2, 0), (2, 18, 2, 1), (2, 22, 2, 2), (3, 7, 3, 0)]
def pFld_2 : List (Nat × Nat × Nat × Nat) := [(3, 13, 3, 1), (3, 16, 3, 2), (4, 9, 4, 0), (4, 15, 4, 1), (4, 18, 4, 2), (4, 21, 4, 3), (4, 24, 4, 4), (4, 32, 0, 3), (4, 38, 9, 1), (4, 44, 4, 5), (4, 49, 4, 7), (4, 71, 4, 6), (4, 74, 9, 2), (4, 77, 9, 8), (4, 89, 9, 11), (4, 102, 9, 7), (5, 15, 5, 0), (5, 21, 5, 1), (5, 24, 5, 2), (5, 34, 0, 3)]
def pFld_3 : List (Nat × Nat × Nat × Nat) := [(5, 38, 9, 2), (5, 47, 0, 0), (6, 9, 6, 0), (6, 15, 6, 1), (6, 24, 6, 2), (6, 30, 0, 3), (6, 34, 9, 2), (6, 39, 0, 1), (6, 42, 9, 4), (7, 9, 7, 3), (7, 15, 7, 4), (7, 18, 7, 5), (7, 21, 7, 6), (7, 24, 7, 7), (7, 27, 7, 8), (7, 30, 7, 9), (7, 33, 7, 10), (7, 36, 7, 11), (7, 39, 7, 0), (7, 43, 7, 1)]
def pFld_4 : List (Nat × Nat × Nat × Nat) := [(7, 46, 7, 2), (7, 49, 9, 2), (7, 54, 9, 12), (8, 11, 8, 1), (8, 15, 8, 2), (8, 19, 8, 3), (8, 22, 8, 0), (8, 26, 8, 4), (8, 30, 8, 5), (8, 33, 8, 6), (8, 36, 8, 7), (8, 79, 9, 4), (8, 82, 9, 5), (8, 88, 9, 0), (8, 95, 9, 6), (8, 98, 9, 1), (8, 101, 9, 7), (8, 104, 9, 8), (8, 107, 9, 9), (8, 110, 9, 2)]
def pFld_5 : List (Nat × Nat × Nat × Nat) := [(8, 113, 9, 12), (8, 116, 9, 13), (8, 119, 9, 14), (8, 125, 9, 10), (8, 132, 9, 15), (8, 138, 9, 3), (8, 141, 9, 16), (9, 9, 9, 6), (9, 15, 9, 7), (9, 18, 9, 8), (9, 21, 9, 9), (9, 24, 9, 10), (9, 27, 9, 11), (9, 30, 9, 12), (9, 33, 9, 13), (9, 36, 9, 14), (9, 39, 9, 15), (9, 42, 9, 16), (9, 48, 9, 17), (9, 52, 9, 18)]
def pFld_6 : List (Nat × Nat × Nat × Nat) := [(9, 55, 9, 19), (9, 61, 9, 0), (9, 65, 9, 1), (9, 68, 9, 2), (9, 71, 9, 3), (9, 74, 9, 4), (9, 77, 9, 5), (10, 9, 10, 0), (10, 13, 10, 1), (10, 17, 10, 2), (10, 20, 10, 3), (10, 37, 10, 4), (10, 41, 10, 5), (11, 9, 11, 0), (11, 13, 11, 12), (11, 17, 11, 13), (11, 23, 11, 3), (11, 32, 11, 4), (11, 39, 11, 5), (11, 46, 11, 6)]
def pFld_7 : List (Nat × Nat × Nat × Nat) := [(11, 50, 11, 7), (11, 56, 11, 8), (11, 60, 11, 9), (11, 66, 11, 10), (11, 72, 11, 11), (11, 80, 11, 15), (11, 87, 11, 16), (11, 94, 11, 17), (11, 98, 11, 2), (11, 105, 11, 1), (11, 134, 0, 0), (11, 138, 7, 3), (11, 141, 7, 4), (11, 144, 7, 5), (11, 157, 0, 1), (11, 160, 7, 7), (11, 163, 7, 8), (11, 166, 7, 9), (11, 175, 9, 8), (11, 183, 7, 10)]
def pFld_8 : List (Nat × Nat × Nat × Nat) := [(11, 186, 7, 11), (11, 189, 9, 11), (11, 206, 7, 0), (11, 246, 9, 1), (11, 268, 5, 0), (11, 271, 5, 1), (11, 274, 5, 2), (11, 280, 9, 2), (11, 289, 9, 3), (11, 295, 9, 5), (11, 298, 0, 4), (11, 302, 11, 14), (11, 322, 9, 0), (11, 325, 7, 1), (11, 328, 7, 2), (11, 331, 2, 2), (11, 337, 9, 4), (12, 13, 12, 1), (12, 17, 12, 3), (12, 20, 12, 5)]
def pFld_9 : List (Nat × Nat × Nat × Nat) := [(12, 24, 12, 6), (12, 27, 12, 7), (12, 30, 12, 8), (12, 34, 12, 9), (12, 37, 12, 17), (12, 40, 12, 21), (12, 43, 12, 22), (12, 46, 12, 23), (12, 49, 12, 24), (12, 52, 12, 25), (12, 55, 12, 26), (12, 58, 12, 27), (12, 61, 12, 28), (12, 64, 12, 29), (12, 67, 12, 30), (12, 70, 12, 31), (12, 73, 12, 32), (12, 76, 12, 33), (12, 79, 12, 34), (12, 82, 12, 35)]
def pFld_10 : List (Nat × Nat × Nat × Nat) := [(12, 85, 12, 36), (12, 88, 12, 37), (12, 91, 12, 38), (12, 94, 12, 39), (12, 97, 12, 40), (12, 100, 12, 41), (12, 103, 12, 42), (12, 106, 12, 44), (12, 110, 12, 45), (12, 113, 12, 46), (12, 116, 12, 47), (12, 119, 12, 48), (12, 122, 12, 50), (12, 125, 12, 51), (12, 128, 12, 52), (12, 131, 12, 54), (12, 134, 12, 55), (12, 137, 12, 57), (12, 140, 12, 58), (12, 143, 12, 60)]
def pFld_11 : List (Nat × Nat × Nat × Nat) := [(12, 146, 12, 62), (12, 149, 12, 64), (12, 152, 12, 67), (12, 155, 12, 68), (12, 158, 12, 72), (12, 161, 12, 73), (12, 164, 12, 74), (12, 181, 12, 2), (12, 187, 12, 4), (12, 196, 12, 10), (12, 218, 12, 13), (12, 221, 12, 11), (12, 224, 12, 14), (12, 227, 12, 15), (12, 230, 12, 16), (12, 245, 12, 12), (12, 248, 12, 18), (12, 251, 12, 19), (12, 254, 12, 20), (12, 257, 12, 43)]
def pFld_12 : List (Nat × Nat × Nat × Nat) := [(12, 260, 12, 49), (12, 266, 12, 61), (12, 269, 12, 71), (12, 321, 12, 53), (12, 334, 12, 56), (12, 342, 12, 59), (12, 440, 12, 63), (12, 455, 12, 65), (12, 458, 12, 66), (12, 474, 12, 69), (12, 477, 12, 70)]
def pFld : List (Nat × Nat × Nat × Nat) := pFld_0 ++ (pFld_1 ++ (pFld_2 ++ (pFld_3 ++ (pFld_4 ++ (pFld_5 ++ (pFld_6 ++ (pFld_7 ++ (pFld_8 ++ (pFld_9 ++ (pFld_10 ++ (pFld_11 ++ (pFld_12))))))))))))
def pFldS_0 : List (Nat × Nat × Nat × Nat) := [(61, 9, 50, 0), (61, 15, 50, 1)]
def pFldS : List (Nat × Nat × Nat × Nat) := pFldS_0
def pCst_0 : List (Nat × Nat × Int32) := [(0, 100, 1103515245), (11, 133, (-100000)), (12, 345, 1103515245), (12, 403, (-100000)), (60, 265, 1431655765), (60, 266, 858993459), (60, 267, 252645135)]
def pCst : List (Nat × Nat × Int32) := pCst_0
def pCstL_0 : List (Nat × Nat × Int64) := [(4, 47, (-1)), (10, 35, 27), (10, 73, 10), (12, 190, 27), (12, 453, (-1))]
def pCstL : List (Nat × Nat × Int64) := pCstL_0
def pStrT_0 : List (Nat × Nat × Nat) := [(1, 74, 2), (1, 76, 3), (1, 78, 4), (1, 80, 5), (1, 82, 6), (10, 23, 0), (10, 67, 1)]
def pStrT : List (Nat × Nat × Nat) := pStrT_0
def pStat_0 : List (Nat × Nat × Nat) := [(61, 38, 0), (61, 1053, 1)]
def pStat : List (Nat × Nat × Nat) := pStat_0
def pCls_0 : List (Nat × Nat × Nat) := [(0, 9, 7), (2, 9, 7), (9, 45, 3), (11, 20, 10), (11, 27, 1), (11, 36, 8), (11, 43, 9), (11, 53, 0), (11, 63, 2), (11, 70, 7), (11, 77, 4), (11, 84, 5), (11, 91, 6), (13, 7, 11), (13, 10, 12)]
def pCls : List (Nat × Nat × Nat) := pCls_0
def pAcl_0 : List (Nat × Nat) := [(2, 9), (11, 70)]
def pAcl : List (Nat × Nat) := pAcl_0
def pOin_0 : List (Nat × Nat) := [(0, 3), (1, 3), (2, 3), (3, 1), (4, 3), (5, 3), (6, 3), (7, 3), (8, 3), (9, 3), (10, 1), (11, 1), (12, 7)]
def pOin : List (Nat × Nat) := pOin_0
def pCpy_0 : List (Nat × Nat) := [(4, 65), (7, 61)]
def pCpy : List (Nat × Nat) := pCpy_0
def pMth_0 : List (Nat × Nat × Nat) := [(1, 145, 9996), (2, 29, 9995), (3, 28, 9996), (4, 92, 9996), (11, 348, 9994), (11, 353, 9995), (11, 355, 9996), (62, 38, 9995), (62, 92, 9996)]
def pMth : List (Nat × Nat × Nat) := pMth_0
def pInvT_0 : List (Nat × Nat × Nat × Nat × Nat) := [(0, 11, 67, 1, 12), (0, 38, 68, 2, 0), (0, 42, 69, 2, 0), (0, 64, 7, 3, 0), (0, 71, 8, 3, 0), (0, 75, 11, 4, 0), (0, 88, 9, 3, 0), (0, 94, 93, 3, 0), (0, 97, 10, 2, 1), (0, 101, 12, 4, 0), (0, 104, 153, 3, 11), (0, 107, 15, 4, 0), (0, 115, 49, 2, 0), (0, 119, 157, 2, 11), (0, 128, 154, 1, 11), (0, 135, 155, 1, 11), (0, 147, 156, 1, 11), (0, 150, 16, 3, 0), (0, 153, 13, 4, 0), (0, 159, 17, 1, 0)]
def pInvT_1 : List (Nat × Nat × Nat × Nat × Nat) := [(0, 163, 19, 2, 0), (0, 169, 271, 2, 1), (0, 178, 14, 2, 0), (1, 31, 271, 2, 1), (1, 37, 98, 2, 0), (1, 41, 24, 2, 0), (1, 45, 99, 2, 0), (1, 48, 25, 1, 1), (1, 51, 39, 1, 0), (1, 54, 28, 1, 0), (1, 57, 95, 2, 0), (1, 63, 29, 2, 0), (1, 66, 26, 1, 1), (1, 70, 27, 2, 0), (1, 84, 272, 1, 0), (1, 90, 274, 2, 0), (1, 94, 38, 2, 0), (1, 98, 45, 1, 0), (1, 103, 30, 3, 0), (1, 107, 47, 1, 0)]
def pInvT_2 : List (Nat × Nat × Nat × Nat × Nat) := [(1, 110, 46, 2, 0), (1, 113, 48, 2, 0), (1, 122, 31, 2, 0), (1, 126, 35, 3, 0), (1, 129, 33, 2, 0), (1, 132, 32, 1, 0), (1, 135, 100, 2, 0), (1, 139, 101, 1, 1), (1, 142, 34, 2, 0), (1, 151, 36, 1, 1), (1, 154, 37, 1, 1), (2, 17, 67, 1, 12), (2, 25, 69, 2, 0), (3, 20, 46, 2, 0), (3, 24, 50, 2, 0), (3, 34, 51, 3, 1), (4, 28, 56, 3, 0), (4, 53, 57, 3, 0), (4, 57, 58, 2, 0), (4, 61, 59, 1, 0)]
def pInvT_3 : List (Nat × Nat × Nat × Nat × Nat) := [(4, 80, 3, 2, 0), (4, 84, 270, 1, 1), (4, 98, 158, 2, 11), (4, 105, 20, 3, 0), (5, 9, 17, 1, 0), (5, 27, 5, 1, 0), (5, 30, 62, 6, 0), (5, 43, 63, 4, 0), (5, 51, 70, 3, 0), (6, 18, 5, 1, 0), (6, 27, 17, 1, 0), (6, 45, 14, 2, 0), (6, 49, 270, 1, 1), (7, 55, 271, 2, 1), (8, 41, 98, 2, 0), (8, 45, 76, 2, 0), (8, 49, 92, 1, 0), (8, 54, 99, 2, 0), (8, 57, 77, 2, 0), (8, 60, 78, 2, 0)]
def pInvT_4 : List (Nat × Nat × Nat × Nat × Nat) := [(8, 63, 80, 2, 0), (8, 66, 79, 2, 0), (8, 69, 81, 2, 0), (8, 72, 83, 2, 0), (8, 75, 87, 3, 0), (8, 85, 88, 1, 0), (8, 91, 84, 3, 0), (8, 122, 85, 2, 0), (8, 128, 82, 3, 0), (8, 135, 89, 3, 0), (8, 144, 100, 2, 0), (8, 148, 86, 2, 0), (9, 47, 44, 1, 12), (9, 58, 91, 1, 0), (9, 80, 271, 2, 1), (9, 86, 45, 1, 0), (9, 87, 46, 2, 0), (9, 93, 101, 1, 1), (9, 97, 93, 3, 0), (10, 25, 272, 1, 0)]
def pInvT_5 : List (Nat × Nat × Nat × Nat × Nat) := [(10, 31, 274, 2, 0), (10, 44, 102, 1, 1), (10, 48, 105, 3, 1), (10, 52, 106, 4, 0), (10, 55, 103, 1, 1), (10, 58, 104, 1, 1), (10, 61, 107, 4, 0), (10, 64, 108, 4, 0), (10, 69, 279, 2, 0), (11, 22, 96, 1, 2), (11, 29, 21, 2, 2), (11, 38, 73, 2, 2), (11, 45, 90, 1, 2), (11, 55, 0, 1, 12), (11, 65, 40, 1, 2), (11, 76, 67, 1, 12), (11, 79, 52, 1, 12), (11, 86, 60, 1, 12), (11, 93, 64, 1, 12), (11, 102, 142, 1, 0)]
def pInvT_6 : List (Nat × Nat × Nat × Nat × Nat) := [(11, 108, 143, 2, 0), (11, 112, 97, 3, 0), (11, 116, 91, 1, 0), (11, 119, 22, 2, 0), (11, 123, 23, 1, 0), (11, 127, 74, 2, 0), (11, 128, 75, 1, 0), (11, 129, 146, 2, 0), (11, 147, 154, 1, 1), (11, 151, 155, 1, 1), (11, 154, 17, 1, 0), (11, 169, 145, 2, 0), (11, 172, 3, 2, 0), (11, 178, 270, 1, 1), (11, 192, 144, 2, 0), (11, 195, 93, 3, 0), (11, 199, 42, 2, 0), (11, 203, 6, 1, 0), (11, 209, 5, 1, 0), (11, 212, 18, 1, 0)]
def pInvT_7 : List (Nat × Nat × Nat × Nat × Nat) := [(11, 215, 70, 3, 0), (11, 219, 72, 2, 0), (11, 222, 71, 2, 0), (11, 225, 43, 2, 0), (11, 229, 12, 4, 0), (11, 233, 153, 3, 1), (11, 236, 13, 4, 0), (11, 239, 20, 3, 0), (11, 242, 158, 2, 1), (11, 249, 147, 2, 0), (11, 252, 53, 3, 0), (11, 256, 54, 1, 0), (11, 259, 55, 2, 0), (11, 262, 2, 2, 0), (11, 266, 61, 2, 0), (11, 277, 65, 2, 0), (11, 283, 66, 2, 0), (11, 286, 4, 1, 0), (11, 292, 94, 2, 0), (11, 299, 14, 2, 0)]
def pInvT_8 : List (Nat × Nat × Nat × Nat × Nat) := [(11, 305, 148, 2, 0), (11, 308, 150, 2, 0), (11, 311, 151, 3, 0), (11, 315, 152, 3, 0), (11, 318, 69, 2, 0), (11, 321, 41, 1, 0), (11, 334, 149, 1, 0), (11, 340, 1, 2, 0), (11, 343, 271, 2, 1), (12, 167, 176, 2, 0), (12, 171, 167, 7, 1), (12, 175, 202, 1, 0), (12, 178, 203, 1, 0), (12, 184, 161, 2, 0), (12, 192, 166, 2, 1), (12, 199, 163, 2, 0), (12, 203, 168, 5, 0), (12, 207, 165, 1, 1), (12, 211, 164, 1, 1), (12, 214, 170, 4, 0)]
def pInvT_9 : List (Nat × Nat × Nat × Nat × Nat) := [(12, 233, 172, 2, 0), (12, 236, 171, 2, 0), (12, 239, 174, 1, 0), (12, 242, 169, 1, 0), (12, 263, 180, 1, 0), (12, 272, 179, 3, 0), (12, 276, 185, 1, 0), (12, 279, 186, 1, 0), (12, 282, 183, 2, 0), (12, 285, 184, 3, 0), (12, 289, 175, 2, 0), (12, 292, 187, 1, 0), (12, 295, 188, 1, 0), (12, 298, 189, 1, 0), (12, 301, 190, 2, 0), (12, 304, 173, 3, 0), (12, 307, 181, 1, 0), (12, 311, 182, 4, 0), (12, 315, 194, 1, 0), (12, 318, 191, 1, 0)]
def pInvT_10 : List (Nat × Nat × Nat × Nat × Nat) := [(12, 324, 192, 3, 0), (12, 327, 195, 1, 0), (12, 330, 193, 2, 0), (12, 338, 197, 3, 1), (12, 346, 205, 2, 1), (12, 349, 207, 3, 0), (12, 352, 209, 3, 0), (12, 355, 196, 3, 0), (12, 358, 211, 6, 0), (12, 362, 212, 4, 0), (12, 365, 214, 6, 0), (12, 369, 215, 2, 0), (12, 372, 218, 2, 0), (12, 375, 208, 2, 0), (12, 378, 206, 3, 0), (12, 381, 210, 4, 0), (12, 384, 213, 5, 0), (12, 388, 219, 2, 0), (12, 391, 216, 2, 0), (12, 394, 217, 2, 0)]
def pInvT_11 : List (Nat × Nat × Nat × Nat × Nat) := [(12, 397, 221, 2, 0), (12, 400, 199, 2, 0), (12, 404, 204, 1, 0), (12, 407, 200, 2, 0), (12, 410, 224, 2, 0), (12, 413, 198, 1, 1), (12, 416, 201, 2, 0), (12, 419, 228, 1, 0), (12, 422, 220, 1, 0), (12, 425, 223, 1, 0), (12, 428, 222, 1, 0), (12, 431, 232, 3, 0), (12, 434, 238, 3, 0), (12, 437, 237, 2, 1), (12, 444, 242, 1, 1), (12, 447, 243, 4, 0), (12, 450, 241, 1, 0), (12, 461, 244, 3, 0), (12, 465, 246, 2, 0), (12, 468, 245, 2, 0)]
def pInvT_12 : List (Nat × Nat × Nat × Nat × Nat) := [(12, 471, 249, 1, 0), (12, 480, 250, 2, 0), (12, 483, 251, 1, 0), (12, 486, 253, 3, 0), (12, 489, 254, 3, 0), (12, 492, 262, 2, 0), (12, 495, 264, 4, 0), (13, 9, 109, 1, 2), (13, 12, 159, 1, 2), (13, 13, 110, 6, 0), (13, 17, 160, 6, 0), (13, 18, 111, 2, 0), (13, 22, 162, 2, 0), (13, 23, 112, 1, 0), (13, 27, 177, 1, 0), (13, 28, 113, 1, 0), (13, 31, 178, 1, 0), (13, 32, 114, 3, 0), (13, 36, 225, 3, 0), (13, 37, 115, 3, 0)]
def pInvT_13 : List (Nat × Nat × Nat × Nat × Nat) := [(13, 40, 226, 3, 0), (13, 41, 116, 3, 0), (13, 44, 227, 3, 0), (13, 45, 117, 3, 0), (13, 49, 229, 3, 0), (13, 50, 118, 2, 0), (13, 53, 230, 2, 0), (13, 54, 119, 1, 0), (13, 57, 231, 1, 0), (13, 58, 120, 3, 0), (13, 61, 233, 3, 0), (13, 62, 121, 3, 0), (13, 66, 234, 3, 0), (13, 67, 122, 1, 0), (13, 71, 235, 1, 0), (13, 72, 123, 4, 0), (13, 76, 236, 4, 0), (13, 77, 124, 4, 0), (13, 81, 239, 4, 0), (13, 82, 125, 2, 0)]
def pInvT_14 : List (Nat × Nat × Nat × Nat × Nat) := [(13, 85, 240, 2, 0), (13, 86, 126, 2, 0), (13, 89, 247, 2, 0), (13, 90, 127, 3, 0), (13, 93, 248, 3, 0), (13, 94, 128, 2, 0), (13, 97, 252, 2, 0), (13, 98, 129, 2, 0), (13, 101, 255, 2, 0), (13, 102, 130, 2, 0), (13, 105, 256, 2, 0), (13, 106, 131, 4, 0), (13, 109, 257, 4, 0), (13, 110, 132, 2, 0), (13, 113, 258, 2, 0), (13, 114, 133, 2, 0), (13, 117, 259, 2, 0), (13, 118, 134, 2, 0), (13, 121, 260, 2, 0), (13, 122, 135, 1, 0)]
def pInvT_15 : List (Nat × Nat × Nat × Nat × Nat) := [(13, 125, 261, 1, 0), (13, 126, 136, 2, 0), (13, 129, 263, 2, 0), (13, 130, 137, 2, 0), (13, 133, 265, 2, 0), (13, 134, 138, 2, 0), (13, 137, 266, 2, 0), (13, 138, 139, 2, 0), (13, 142, 267, 2, 0), (13, 143, 140, 2, 0), (13, 146, 268, 2, 0), (13, 147, 141, 2, 0), (13, 150, 269, 2, 0), (61, 335, 273, 1, 0), (61, 492, 275, 1, 0), (61, 495, 276, 2, 1), (61, 505, 272, 1, 0), (61, 633, 280, 3, 0), (61, 637, 281, 4, 1), (61, 1059, 278, 3, 1)]
def pInvT_16 : List (Nat × Nat × Nat × Nat × Nat) := [(62, 9, 277, 2, 1), (62, 88, 282, 1, 1), (62, 95, 283, 4, 1)]
def pInvT : List (Nat × Nat × Nat × Nat × Nat) := pInvT_0 ++ (pInvT_1 ++ (pInvT_2 ++ (pInvT_3 ++ (pInvT_4 ++ (pInvT_5 ++ (pInvT_6 ++ (pInvT_7 ++ (pInvT_8 ++ (pInvT_9 ++ (pInvT_10 ++ (pInvT_11 ++ (pInvT_12 ++ (pInvT_13 ++ (pInvT_14 ++ (pInvT_15 ++ (pInvT_16))))))))))))))))
def pC (c : Nat) : vw_C := vwCl.getD c ("", fun _ => ("", "", "", false), 0)
def pTys : List (Nat → FieldType) := [tyX0, tyX1, tyX2, tyX3, tyX4, tyX5, tyX6, tyX7, tyX8, tyX9, tyX10, tyX11, tyX12]
def pTyF (c : Nat) : Nat → FieldType := pTys.getD c (fun _ => .int)
def pTy (t : Nat) : FieldType := bif Nat.beq t 100 then .int else bif Nat.beq t 101 then .byte else bif Nat.beq t 102 then .boolean else bif Nat.beq t 103 then .long else .object "DreamDuty$State"
def pArrT : ArrayType → Nat × Value
  | .int => (100, .int 0)
  | .byte => (101, .int 0)
  | .boolean => (102, .int 0)
  | .long => (103, .long 0)
  | _ => (0, .null)
def pPutT : Value → FieldType → Bool
  | .int _, .int => true
  | .float _, .boolean => true
  | .long _, .long => true
  | .null, .object _ => true
  | .null, .array _ => true
  | _, _ => false
def pRetT : Nat → Option FieldType → Bool
  | 0, some .int => true
  | 1, some .boolean => true
  | 2, some .char => true
  | 3, some .byte => true
  | _, _ => false
def pSwOK (pc : Nat) (lo hi : Int) (offs : Array Int) (tbl : List (Int32 × Nat)) : Bool :=
  decide (hi - lo + 1 = (offs.size : Int)) && (decide (-2147483648 ≤ lo) && (decide (hi < 2147483648) && ((List.range offs.size).all (fun i => decide ((pc : Int) + offs.getD i 0 = ((tbl.getD i (0, 0)).2 : Int)) && decide ((tbl.getD i (0, 0)).1.toInt = lo + (i : Int))) && decide (tbl.length = offs.size))))
/-- an entry is what its instruction says -/
def chkE (k pc : Nat) (en : pE) : Bool :=
  match en.1 with
  | .iconst n => decide (en.2.1 = 1) && decide (en.2.2.2.2.1 = .int (Int32.ofInt n))
  | .bipush n => decide (en.2.1 = 2) && decide (en.2.2.2.2.1 = .int (Int8.ofInt n).toInt32)
  | .sipush n => decide (en.2.1 = 3) && decide (en.2.2.2.2.1 = .int (Int16.ofInt n).toInt32)
  | .lconst n => decide (en.2.1 = 1) && decide (en.2.2.2.2.1 = .long (Int64.ofNat n.val))
  | .ldc i => decide (en.2.1 = 2) && (match en.2.2.2.2.1 with
    | .int c => decide ((pOwn k, i, c) ∈ pCst)
    | .ref r => decide (100001 ≤ r) && decide ((pOwn k, i, r - 100001) ∈ pStrT)
    | _ => false)
  | .ldc_w i => decide (en.2.1 = 3) && (match en.2.2.2.2.1 with
    | .int c => decide ((pOwn k, i, c) ∈ pCst)
    | _ => false)
  | .ldc2_w i => decide (en.2.1 = 3) && (match en.2.2.2.2.1 with
    | .long c => decide ((pOwn k, i, c) ∈ pCstL)
    | _ => false)
  | .getstatic i => decide (en.2.1 = 3) && (match en.2.2.2.2.1 with
    | .int c => decide (c = 1) && decide ((pOwn k, i, 0) ∈ pStat)
    | .float _ => decide ((pOwn k, i, 1) ∈ pStat)
    | _ => false)
  | .iload_n _ => decide (en.2.1 = 1)
  | .iload _ => decide (en.2.1 = 2)
  | .lload_n _ => decide (en.2.1 = 1)
  | .lload _ => decide (en.2.1 = 2)
  | .aload_n _ => decide (en.2.1 = 1)
  | .aload _ => decide (en.2.1 = 2)
  | .istore_n i => decide (en.2.1 = 1) && decide (i.val < pMaxL k)
  | .istore i => decide (en.2.1 = 2) && decide (i < pMaxL k)
  | .lstore_n i => decide (en.2.1 = 1) && decide (i.val + 1 < pMaxL k)
  | .lstore i => decide (en.2.1 = 2) && decide (i + 1 < pMaxL k)
  | .astore_n i => decide (en.2.1 = 1) && decide (i.val < pMaxL k)
  | .astore i => decide (en.2.1 = 2) && decide (i < pMaxL k)
  | .iinc i n => decide (en.2.1 = 3) && (decide (i < pMaxL k) && decide (en.2.2.2.2.1 = .int (Int32.ofInt n)))
  | .getfield i => decide (en.2.1 = 3) && (decide ((pOwn k, i, en.2.2.1, en.2.2.2.1) ∈ pFld) || decide ((pOwn k, i, en.2.2.1, en.2.2.2.1) ∈ pFldS))
  | .putfield i => decide (en.2.1 = 3) && (decide ((pOwn k, i, en.2.2.1, en.2.2.2.1) ∈ pFld) && (pPutT en.2.2.2.2.1 (pTyF en.2.2.1 en.2.2.2.1) && (!((pC en.2.2.1).2.1 en.2.2.2.1).2.2.2 || (decide (k ∈ pInits) && decide (pOwn k = en.2.2.1)))))
  | .baload => decide (en.2.1 = 1) && (decide (en.2.2.1 = 101) || decide (en.2.2.1 = 102))
  | .bastore => decide (en.2.1 = 1) && (decide (en.2.2.1 = 101) || decide (en.2.2.1 = 102))
  | .newarray t => decide (en.2.1 = 2) && (decide (en.2.2.1 = (pArrT t).1) && (decide (en.2.2.2.2.1 = (pArrT t).2) && decide (100 ≤ (pArrT t).1)))
  | .anewarray i => decide (en.2.1 = 3) && decide ((pOwn k, i) ∈ pAcl)
  | .new i => decide (en.2.1 = 3) && decide ((pOwn k, i, en.2.2.1) ∈ pCls)
  | .invokevirtual i => decide ((pOwn k, i, en.2.2.1, en.2.2.2.1, 0) ∈ pInvT) && decide ((en.2.2.2.2.1 = .retAddr 0) = (pVoid en.2.2.1 = true))
  | .invokestatic i => decide (en.2.2.1 = 9998 ∧ (pOwn k, i) ∈ pCpy) || decide ((pOwn k, i, en.2.2.1) ∈ pMth) || (decide (((pOwn k, i, en.2.2.1, en.2.2.2.1, 1) ∈ pInvT ∨ (pOwn k, i, en.2.2.1, en.2.2.2.1, 11) ∈ pInvT)) && decide ((en.2.2.2.2.1 = .retAddr 0) = (pVoid en.2.2.1 = true)))
  | .invokespecial i => decide (en.2.2.1 = 9999 ∧ (pOwn k, i) ∈ pOin) || (decide (((pOwn k, i, en.2.2.1, en.2.2.2.1, 2) ∈ pInvT ∨ (pOwn k, i, en.2.2.1, en.2.2.2.1, 12) ∈ pInvT)) && decide ((en.2.2.2.2.1 = .retAddr 0) = (pVoid en.2.2.1 = true)))
  | .ireturn => decide (en.2.1 = 1) && pRetT en.2.2.1 (pRet k)
  | .lreturn => decide (en.2.1 = 1) && decide (pRet k = some .long)
  | .areturn => decide (en.2.1 = 1) && (match pRet k with | some t => t.isReference | none => false)
  | .return_ => decide (en.2.1 = 1) && decide (pRet k = none)
  | .goto d => decide (en.2.1 = 3) && decide ((pc : Int) + d = (en.2.2.1 : Int))
  | .if_icmp _ d => decide (en.2.1 = 3) && decide ((pc : Int) + d = (en.2.2.1 : Int))
  | .ifCond _ d => decide (en.2.1 = 3) && decide ((pc : Int) + d = (en.2.2.1 : Int))
  | .tableswitch d lo hi offs => decide ((pc : Int) + d = (en.2.2.1 : Int)) && pSwOK pc lo hi offs en.2.2.2.2.2
  | _ => decide (en.2.1 = 1)
def chkM (k : Nat) : Bool := (pCode k).all (fun q => decide (decode (pBytes k) q.1 = .ok (q.2.1, q.2.2.1)) && (chkE k q.1 q.2 || (match q.2.1 with | .athrow => true | .invokestatic _ => Nat.beq q.2.2.2.1 9900 | _ => false)))
