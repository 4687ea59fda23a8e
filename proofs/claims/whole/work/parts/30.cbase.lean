def RX0 : String := "PartHouse$Assembler"
def TX0 : u_T := fun k => match k with
  | 0 => ("PartHouse$Assembler", "lexer", "LPartHouse$Lexer;", true)
  | 1 => ("PartHouse$Assembler", "names", "[J", true)
  | 2 => ("PartHouse$Assembler", "at", "I", false)
  | 3 => ("PartHouse$Assembler", "words", "[I", true)
  | 4 => ("PartHouse$Assembler", "count", "I", false)
  | 5 => ("PartHouse$Assembler", "labels", "[J", true)
  | 6 => ("PartHouse$Assembler", "labelWords", "[I", true)
  | 7 => ("PartHouse$Assembler", "labelCount", "I", false)
  | 8 => ("PartHouse$Assembler", "useNames", "[J", true)
  | 9 => ("PartHouse$Assembler", "useWords", "[I", true)
  | 10 => ("PartHouse$Assembler", "usePlaces", "[I", true)
  | 11 => ("PartHouse$Assembler", "useCount", "I", false)
  | 12 => ("PartHouse$Assembler", "fault", "I", false)
  | 13 => ("PartHouse$Assembler", "faultPlace", "I", false)
  | 14 => ("PartHouse$Assembler", "shownText", "[C", true)
  | _ => ("PartHouse$Assembler", "shownCount", "I", false)
def tyX0 : Nat → FieldType := fun k => match k with
  | 0 => .object "PartHouse$Lexer"
  | 1 => .array .long
  | 2 => .int
  | 3 => .array .int
  | 4 => .int
  | 5 => .array .long
  | 6 => .array .int
  | 7 => .int
  | 8 => .array .long
  | 9 => .array .int
  | 10 => .array .int
  | 11 => .int
  | 12 => .int
  | 13 => .int
  | 14 => .array .char
  | _ => .int
theorem nmX0 : ∀ a, a < 16 → ∀ b, b < 16 → a ≠ b → (TX0 a).2.1 ≠ (TX0 b).2.1 := by decide +kernel
theorem tyX0_ok : ∀ k, k < 16 → parseFieldDescriptor (TX0 k).2.2.1 = some (tyX0 k) := by decide +kernel
theorem inX0 : ∀ w ∈ u_ws RX0 TX0 16, w ∈ rf_tb := rf_ats [137, 139, 141, 143, 145, 147, 149, 151, 153, 155, 157, 159, 161, 163, 165, 167] (by decide +kernel) (by decide +kernel)
def RX1 : String := "PartHouse$Config"
def TX1 : u_T := fun k => match k with
  | 0 => ("PartHouse$Config", "partitions", "I", false)
  | 1 => ("PartHouse$Config", "base", "[I", true)
  | 2 => ("PartHouse$Config", "size", "[I", true)
  | 3 => ("PartHouse$Config", "area", "[I", true)
  | 4 => ("PartHouse$Config", "areaStart", "[I", true)
  | 5 => ("PartHouse$Config", "channels", "I", false)
  | 6 => ("PartHouse$Config", "from", "[I", true)
  | 7 => ("PartHouse$Config", "to", "[I", true)
  | 8 => ("PartHouse$Config", "length", "[I", true)
  | 9 => ("PartHouse$Config", "slots", "I", false)
  | 10 => ("PartHouse$Config", "who", "[I", true)
  | 11 => ("PartHouse$Config", "steps", "[I", true)
  | 12 => ("PartHouse$Config", "words", "[I", false)
  | 13 => ("PartHouse$Config", "wordCount", "I", false)
  | 14 => ("PartHouse$Config", "at", "I", false)
  | _ => ("PartHouse$Config", "fault", "I", false)
def tyX1 : Nat → FieldType := fun k => match k with
  | 0 => .int
  | 1 => .array .int
  | 2 => .array .int
  | 3 => .array .int
  | 4 => .array .int
  | 5 => .int
  | 6 => .array .int
  | 7 => .array .int
  | 8 => .array .int
  | 9 => .int
  | 10 => .array .int
  | 11 => .array .int
  | 12 => .array .int
  | 13 => .int
  | 14 => .int
  | _ => .int
theorem nmX1 : ∀ a, a < 16 → ∀ b, b < 16 → a ≠ b → (TX1 a).2.1 ≠ (TX1 b).2.1 := by decide +kernel
theorem tyX1_ok : ∀ k, k < 16 → parseFieldDescriptor (TX1 k).2.2.1 = some (tyX1 k) := by decide +kernel
theorem inX1 : ∀ w ∈ u_ws RX1 TX1 16, w ∈ rf_tb := rf_ats [452, 454, 456, 458, 460, 462, 464, 466, 468, 470, 472, 474, 476, 478, 480, 482] (by decide +kernel) (by decide +kernel)
def RX2 : String := "PartHouse$Core"
def TX2 : u_T := fun k => match k with
  | 0 => ("PartHouse$Core", "region", "[I", true)
  | 1 => ("PartHouse$Core", "registers", "[I", true)
  | 2 => ("PartHouse$Core", "size", "I", false)
  | 3 => ("PartHouse$Core", "pc", "I", false)
  | 4 => ("PartHouse$Core", "handler", "I", false)
  | 5 => ("PartHouse$Core", "cause", "I", false)
  | 6 => ("PartHouse$Core", "where", "I", false)
  | 7 => ("PartHouse$Core", "halted", "Z", false)
  | _ => ("PartHouse$Core", "inHandler", "Z", false)
def tyX2 : Nat → FieldType := fun k => match k with
  | 0 => .array .int
  | 1 => .array .int
  | 2 => .int
  | 3 => .int
  | 4 => .int
  | 5 => .int
  | 6 => .int
  | 7 => .boolean
  | _ => .boolean
theorem nmX2 : ∀ a, a < 9 → ∀ b, b < 9 → a ≠ b → (TX2 a).2.1 ≠ (TX2 b).2.1 := by decide +kernel
theorem tyX2_ok : ∀ k, k < 9 → parseFieldDescriptor (TX2 k).2.2.1 = some (tyX2 k) := by decide +kernel
theorem inX2 : ∀ w ∈ u_ws RX2 TX2 9, w ∈ rf_tb := rf_ats [526, 528, 530, 532, 534, 536, 538, 540, 542] (by decide +kernel) (by decide +kernel)
def RX3 : String := "PartHouse$Disk"
def TX3 : u_T := fun k => match k with
  | 0 => ("PartHouse$Disk", "none", "LPartHouse$Term;", true)
  | 1 => ("PartHouse$Disk", "version", "[I", true)
  | _ => ("PartHouse$Disk", "term", "[LPartHouse$Term;", true)
def tyX3 : Nat → FieldType := fun k => match k with
  | 0 => .object "PartHouse$Term"
  | 1 => .array .int
  | _ => .array (.object "PartHouse$Term")
theorem nmX3 : ∀ a, a < 3 → ∀ b, b < 3 → a ≠ b → (TX3 a).2.1 ≠ (TX3 b).2.1 := by decide +kernel
theorem tyX3_ok : ∀ k, k < 3 → parseFieldDescriptor (TX3 k).2.2.1 = some (tyX3 k) := by decide +kernel
theorem inX3 : ∀ w ∈ u_ws RX3 TX3 3, w ∈ rf_tb := rf_ats [400, 402, 404] (by decide +kernel) (by decide +kernel)
def RX4 : String := "PartHouse$Lexer"
def TX4 : u_T := fun k => match k with
  | 0 => ("PartHouse$Lexer", "text", "[C", true)
  | 1 => ("PartHouse$Lexer", "length", "I", false)
  | 2 => ("PartHouse$Lexer", "at", "I", false)
  | 3 => ("PartHouse$Lexer", "kinds", "[I", true)
  | 4 => ("PartHouse$Lexer", "places", "[I", true)
  | 5 => ("PartHouse$Lexer", "values", "[J", true)
  | _ => ("PartHouse$Lexer", "count", "I", false)
def tyX4 : Nat → FieldType := fun k => match k with
  | 0 => .array .char
  | 1 => .int
  | 2 => .int
  | 3 => .array .int
  | 4 => .array .int
  | 5 => .array .long
  | _ => .int
theorem nmX4 : ∀ a, a < 7 → ∀ b, b < 7 → a ≠ b → (TX4 a).2.1 ≠ (TX4 b).2.1 := by decide +kernel
theorem tyX4_ok : ∀ k, k < 7 → parseFieldDescriptor (TX4 k).2.2.1 = some (tyX4 k) := by decide +kernel
theorem inX4 : ∀ w ∈ u_ws RX4 TX4 7, w ∈ rf_tb := rf_ats [48, 50, 52, 54, 56, 58, 60] (by decide +kernel) (by decide +kernel)
def RX5 : String := "PartHouse$Machine"
def TX5 : u_T := fun k => match k with
  | 0 => ("PartHouse$Machine", "terms", "LPartHouse$Terms;", true)
  | 1 => ("PartHouse$Machine", "disk", "LPartHouse$Disk;", true)
  | 2 => ("PartHouse$Machine", "real", "Z", true)
  | 3 => ("PartHouse$Machine", "config", "LPartHouse$Config;", false)
  | 4 => ("PartHouse$Machine", "parts", "[LPartHouse$Partition;", true)
  | 5 => ("PartHouse$Machine", "sent", "[[I", true)
  | 6 => ("PartHouse$Machine", "unread", "[I", true)
  | 7 => ("PartHouse$Machine", "sentTerm", "[LPartHouse$Term;", true)
  | 8 => ("PartHouse$Machine", "on", "Z", false)
  | 9 => ("PartHouse$Machine", "ticks", "I", false)
  | 10 => ("PartHouse$Machine", "slot", "I", false)
  | 11 => ("PartHouse$Machine", "slotTicks", "I", false)
  | 12 => ("PartHouse$Machine", "yielded", "Z", false)
  | 13 => ("PartHouse$Machine", "writesToCut", "I", false)
  | 14 => ("PartHouse$Machine", "writes", "I", false)
  | 15 => ("PartHouse$Machine", "inputs", "I", false)
  | 16 => ("PartHouse$Machine", "inputTick", "[I", true)
  | 17 => ("PartHouse$Machine", "inputPart", "[I", true)
  | 18 => ("PartHouse$Machine", "inputWord", "[I", true)
  | _ => ("PartHouse$Machine", "inputTerms", "[LPartHouse$Term;", true)
def tyX5 : Nat → FieldType := fun k => match k with
  | 0 => .object "PartHouse$Terms"
  | 1 => .object "PartHouse$Disk"
  | 2 => .boolean
  | 3 => .object "PartHouse$Config"
  | 4 => .array (.object "PartHouse$Partition")
  | 5 => .array (.array .int)
  | 6 => .array .int
  | 7 => .array (.object "PartHouse$Term")
  | 8 => .boolean
  | 9 => .int
  | 10 => .int
  | 11 => .int
  | 12 => .boolean
  | 13 => .int
  | 14 => .int
  | 15 => .int
  | 16 => .array .int
  | 17 => .array .int
  | 18 => .array .int
  | _ => .array (.object "PartHouse$Term")
theorem nmX5 : ∀ a, a < 20 → ∀ b, b < 20 → a ≠ b → (TX5 a).2.1 ≠ (TX5 b).2.1 := by decide +kernel
theorem tyX5_ok : ∀ k, k < 20 → parseFieldDescriptor (TX5 k).2.2.1 = some (tyX5 k) := by decide +kernel
theorem inX5 : ∀ w ∈ u_ws RX5 TX5 20, w ∈ rf_tb := rf_ats [650, 652, 654, 656, 658, 660, 662, 664, 666, 668, 670, 672, 674, 676, 678, 680, 682, 684, 686, 688] (by decide +kernel) (by decide +kernel)
def RX6 : String := "PartHouse$Partition"
def TX6 : u_T := fun k => match k with
  | 0 => ("PartHouse$Partition", "terms", "LPartHouse$Terms;", true)
  | 1 => ("PartHouse$Partition", "core", "LPartHouse$Core;", true)
  | 2 => ("PartHouse$Partition", "table", "LPartHouse$Table;", true)
  | 3 => ("PartHouse$Partition", "index", "I", true)
  | 4 => ("PartHouse$Partition", "outWord", "[I", true)
  | 5 => ("PartHouse$Partition", "outTerm", "[LPartHouse$Term;", true)
  | 6 => ("PartHouse$Partition", "outCount", "I", false)
  | 7 => ("PartHouse$Partition", "waitingWords", "[I", true)
  | 8 => ("PartHouse$Partition", "wordsWaiting", "I", false)
  | 9 => ("PartHouse$Partition", "waitingTerms", "[LPartHouse$Term;", true)
  | 10 => ("PartHouse$Partition", "termsWaiting", "I", false)
  | 11 => ("PartHouse$Partition", "secrets", "[LPartHouse$Term;", true)
  | 12 => ("PartHouse$Partition", "secretsHad", "I", false)
  | 13 => ("PartHouse$Partition", "secretsAsked", "I", false)
  | 14 => ("PartHouse$Partition", "seals", "I", false)
  | 15 => ("PartHouse$Partition", "image", "LPartHouse$Term;", false)
  | 16 => ("PartHouse$Partition", "measured", "LPartHouse$Term;", false)
  | _ => ("PartHouse$Partition", "sealKey", "LPartHouse$Term;", false)
def tyX6 : Nat → FieldType := fun k => match k with
  | 0 => .object "PartHouse$Terms"
  | 1 => .object "PartHouse$Core"
  | 2 => .object "PartHouse$Table"
  | 3 => .int
  | 4 => .array .int
  | 5 => .array (.object "PartHouse$Term")
  | 6 => .int
  | 7 => .array .int
  | 8 => .int
  | 9 => .array (.object "PartHouse$Term")
  | 10 => .int
  | 11 => .array (.object "PartHouse$Term")
  | 12 => .int
  | 13 => .int
  | 14 => .int
  | 15 => .object "PartHouse$Term"
  | 16 => .object "PartHouse$Term"
  | _ => .object "PartHouse$Term"
theorem nmX6 : ∀ a, a < 18 → ∀ b, b < 18 → a ≠ b → (TX6 a).2.1 ≠ (TX6 b).2.1 := by decide +kernel
theorem tyX6_ok : ∀ k, k < 18 → parseFieldDescriptor (TX6 k).2.2.1 = some (tyX6 k) := by decide +kernel
theorem inX6 : ∀ w ∈ u_ws RX6 TX6 18, w ∈ rf_tb := rf_ats [583, 585, 587, 589, 591, 593, 595, 597, 599, 601, 603, 605, 607, 609, 611, 613, 615, 617] (by decide +kernel) (by decide +kernel)
def RX7 : String := "PartHouse$SafeCheck"
def TX7 : u_T := fun k => match k with
  | 0 => ("PartHouse$SafeCheck", "reached", "[I", true)
  | 1 => ("PartHouse$SafeCheck", "open", "[I", true)
  | 2 => ("PartHouse$SafeCheck", "openCount", "I", false)
  | 3 => ("PartHouse$SafeCheck", "length", "I", false)
  | _ => ("PartHouse$SafeCheck", "least", "I", false)
def tyX7 : Nat → FieldType := fun k => match k with
  | 0 => .array .int
  | 1 => .array .int
  | 2 => .int
  | 3 => .int
  | _ => .int
theorem nmX7 : ∀ a, a < 5 → ∀ b, b < 5 → a ≠ b → (TX7 a).2.1 ≠ (TX7 b).2.1 := by decide +kernel
theorem tyX7_ok : ∀ k, k < 5 → parseFieldDescriptor (TX7 k).2.2.1 = some (tyX7 k) := by decide +kernel
theorem inX7 : ∀ w ∈ u_ws RX7 TX7 5, w ∈ rf_tb := rf_ats [182, 184, 186, 188, 190] (by decide +kernel) (by decide +kernel)
def RX8 : String := "PartHouse$Table"
def TX8 : u_T := fun k => match k with
  | 0 => ("PartHouse$Table", "terms", "LPartHouse$Terms;", true)
  | 1 => ("PartHouse$Table", "limit", "I", true)
  | 2 => ("PartHouse$Table", "outside", "Z", true)
  | 3 => ("PartHouse$Table", "held", "[LPartHouse$Term;", true)
  | 4 => ("PartHouse$Table", "slots", "[I", true)
  | _ => ("PartHouse$Table", "count", "I", false)
def tyX8 : Nat → FieldType := fun k => match k with
  | 0 => .object "PartHouse$Terms"
  | 1 => .int
  | 2 => .boolean
  | 3 => .array (.object "PartHouse$Term")
  | 4 => .array .int
  | _ => .int
theorem nmX8 : ∀ a, a < 6 → ∀ b, b < 6 → a ≠ b → (TX8 a).2.1 ≠ (TX8 b).2.1 := by decide +kernel
theorem tyX8_ok : ∀ k, k < 6 → parseFieldDescriptor (TX8 k).2.2.1 = some (tyX8 k) := by decide +kernel
theorem inX8 : ∀ w ∈ u_ws RX8 TX8 6, w ∈ rf_tb := rf_ats [373, 375, 377, 379, 381, 383] (by decide +kernel) (by decide +kernel)
def RX9 : String := "PartHouse$Term"
def TX9 : u_T := fun k => match k with
  | 0 => ("PartHouse$Term", "kind", "I", true)
  | 1 => ("PartHouse$Term", "number", "I", true)
  | 2 => ("PartHouse$Term", "serial", "I", true)
  | 3 => ("PartHouse$Term", "a", "LPartHouse$Term;", false)
  | 4 => ("PartHouse$Term", "b", "LPartHouse$Term;", false)
  | 5 => ("PartHouse$Term", "c", "LPartHouse$Term;", false)
  | 6 => ("PartHouse$Term", "words", "[I", false)
  | 7 => ("PartHouse$Term", "nextInBucket", "LPartHouse$Term;", false)
  | 8 => ("PartHouse$Term", "older", "LPartHouse$Term;", true)
  | 9 => ("PartHouse$Term", "told", "Z", false)
  | 10 => ("PartHouse$Term", "round", "I", false)
  | 11 => ("PartHouse$Term", "nextInQueue", "LPartHouse$Term;", false)
  | 12 => ("PartHouse$Term", "firstUser", "LPartHouse$Term;", false)
  | 13 => ("PartHouse$Term", "nextUserOfA", "LPartHouse$Term;", false)
  | 14 => ("PartHouse$Term", "nextUserOfB", "LPartHouse$Term;", false)
  | _ => ("PartHouse$Term", "nextUserOfC", "LPartHouse$Term;", false)
def tyX9 : Nat → FieldType := fun k => match k with
  | 0 => .int
  | 1 => .int
  | 2 => .int
  | 3 => .object "PartHouse$Term"
  | 4 => .object "PartHouse$Term"
  | 5 => .object "PartHouse$Term"
  | 6 => .array .int
  | 7 => .object "PartHouse$Term"
  | 8 => .object "PartHouse$Term"
  | 9 => .boolean
  | 10 => .int
  | 11 => .object "PartHouse$Term"
  | 12 => .object "PartHouse$Term"
  | 13 => .object "PartHouse$Term"
  | 14 => .object "PartHouse$Term"
  | _ => .object "PartHouse$Term"
theorem nmX9 : ∀ a, a < 16 → ∀ b, b < 16 → a ≠ b → (TX9 a).2.1 ≠ (TX9 b).2.1 := by decide +kernel
theorem tyX9_ok : ∀ k, k < 16 → parseFieldDescriptor (TX9 k).2.2.1 = some (tyX9 k) := by decide +kernel
theorem inX9 : ∀ w ∈ u_ws RX9 TX9 16, w ∈ rf_tb := rf_ats [253, 255, 257, 259, 261, 263, 265, 267, 269, 271, 273, 275, 277, 279, 281, 283] (by decide +kernel) (by decide +kernel)
def RX10 : String := "PartHouse$Terms"
def TX10 : u_T := fun k => match k with
  | 0 => ("PartHouse$Terms", "buckets", "[LPartHouse$Term;", true)
  | 1 => ("PartHouse$Terms", "newest", "LPartHouse$Term;", false)
  | 2 => ("PartHouse$Terms", "count", "I", false)
  | 3 => ("PartHouse$Terms", "secrets", "I", false)
  | 4 => ("PartHouse$Terms", "none", "LPartHouse$Term;", true)
  | 5 => ("PartHouse$Terms", "deviceKey", "LPartHouse$Term;", true)
  | 6 => ("PartHouse$Terms", "quoteKey", "LPartHouse$Term;", true)
  | 7 => ("PartHouse$Terms", "quotePublic", "LPartHouse$Term;", true)
  | 8 => ("PartHouse$Terms", "judged", "Z", false)
  | 9 => ("PartHouse$Terms", "firstInQueue", "LPartHouse$Term;", false)
  | _ => ("PartHouse$Terms", "lastInQueue", "LPartHouse$Term;", false)
def tyX10 : Nat → FieldType := fun k => match k with
  | 0 => .array (.object "PartHouse$Term")
  | 1 => .object "PartHouse$Term"
  | 2 => .int
  | 3 => .int
  | 4 => .object "PartHouse$Term"
  | 5 => .object "PartHouse$Term"
  | 6 => .object "PartHouse$Term"
  | 7 => .object "PartHouse$Term"
  | 8 => .boolean
  | 9 => .object "PartHouse$Term"
  | _ => .object "PartHouse$Term"
theorem nmX10 : ∀ a, a < 11 → ∀ b, b < 11 → a ≠ b → (TX10 a).2.1 ≠ (TX10 b).2.1 := by decide +kernel
theorem tyX10_ok : ∀ k, k < 11 → parseFieldDescriptor (TX10 k).2.2.1 = some (tyX10 k) := by decide +kernel
theorem inX10 : ∀ w ∈ u_ws RX10 TX10 11, w ∈ rf_tb := rf_ats [336, 338, 340, 342, 344, 346, 348, 350, 352, 354, 356] (by decide +kernel) (by decide +kernel)
def RX11 : String := "PartHouse"
def TX11 : u_T := fun k => match k with
  | 0 => ("PartHouse", "lexer", "LPartHouse$Lexer;", true)
  | 1 => ("PartHouse", "assembler", "LPartHouse$Assembler;", true)
  | 2 => ("PartHouse", "safeCheck", "LPartHouse$SafeCheck;", true)
  | 3 => ("PartHouse", "row", "[I", true)
  | 4 => ("PartHouse", "rowCount", "I", false)
  | 5 => ("PartHouse", "kept", "[[I", true)
  | 6 => ("PartHouse", "keptCount", "[I", true)
  | 7 => ("PartHouse", "terms", "LPartHouse$Terms;", true)
  | 8 => ("PartHouse", "outside", "LPartHouse$Table;", true)
  | 9 => ("PartHouse", "disk", "LPartHouse$Disk;", true)
  | 10 => ("PartHouse", "diskAtBoot", "LPartHouse$Disk;", true)
  | 11 => ("PartHouse", "machine", "LPartHouse$Machine;", true)
  | 12 => ("PartHouse", "again", "LPartHouse$Machine;", true)
  | 13 => ("PartHouse", "spare", "LPartHouse$Config;", false)
  | _ => ("PartHouse", "boots", "I", false)
def tyX11 : Nat → FieldType := fun k => match k with
  | 0 => .object "PartHouse$Lexer"
  | 1 => .object "PartHouse$Assembler"
  | 2 => .object "PartHouse$SafeCheck"
  | 3 => .array .int
  | 4 => .int
  | 5 => .array (.array .int)
  | 6 => .array .int
  | 7 => .object "PartHouse$Terms"
  | 8 => .object "PartHouse$Table"
  | 9 => .object "PartHouse$Disk"
  | 10 => .object "PartHouse$Disk"
  | 11 => .object "PartHouse$Machine"
  | 12 => .object "PartHouse$Machine"
  | 13 => .object "PartHouse$Config"
  | _ => .int
theorem nmX11 : ∀ a, a < 15 → ∀ b, b < 15 → a ≠ b → (TX11 a).2.1 ≠ (TX11 b).2.1 := by decide +kernel
theorem tyX11_ok : ∀ k, k < 15 → parseFieldDescriptor (TX11 k).2.2.1 = some (tyX11 k) := by decide +kernel
theorem inX11 : ∀ w ∈ u_ws RX11 TX11 15, w ∈ rf_tb := rf_ats [708, 710, 712, 714, 716, 718, 720, 722, 724, 726, 728, 730, 732, 734, 736] (by decide +kernel) (by decide +kernel)
abbrev cl_cls : List vw_C := [(RX0, TX0, 16), (RX1, TX1, 16), (RX2, TX2, 9), (RX3, TX3, 3), (RX4, TX4, 7), (RX5, TX5, 20), (RX6, TX6, 18), (RX7, TX7, 5), (RX8, TX8, 6), (RX9, TX9, 16), (RX10, TX10, 11), (RX11, TX11, 15)]
def cl_fdL : List (List Nat) := [[22, 4, 0, 3, 0, 4, 3, 0, 4, 3, 3, 0, 0, 0, 5, 0], [0, 3, 3, 3, 3, 0, 3, 3, 3, 0, 3, 3, 3, 0, 0, 0], [3, 3, 0, 0, 0, 0, 0, 0, 0], [27, 3, 6], [5, 0, 0, 3, 3, 4, 0], [28, 21, 0, 19, 7, 8, 3, 6, 0, 0, 0, 0, 0, 0, 0, 0, 3, 3, 3, 6], [28, 20, 26, 0, 3, 6, 0, 3, 0, 6, 0, 6, 0, 0, 0, 27, 27, 27], [3, 3, 0, 0, 0], [28, 0, 0, 6, 3, 0], [0, 0, 0, 27, 27, 27, 2, 27, 27, 0, 0, 27, 27, 27, 27, 27], [6, 27, 0, 0, 27, 27, 27, 27, 0, 27, 27], [22, 18, 25, 3, 0, 8, 3, 28, 26, 21, 21, 23, 23, 19, 0]]
def cl_layL : List (List (Nat × Nat × Nat × Nat × Nat)) := [[(0, 1, 1, 20, 0), (1, 0, 1, 2, 42), (3, 0, 2, 1, 2048), (5, 0, 3, 2, 200), (6, 0, 4, 1, 200), (8, 0, 5, 2, 2048), (9, 0, 6, 1, 2048), (10, 0, 7, 1, 2048), (14, 0, 8, 3, 40)], [(1, 0, 1, 1, 8), (2, 0, 2, 1, 8), (3, 0, 3, 1, 8), (4, 0, 4, 1, 8), (6, 0, 5, 1, 16), (7, 0, 6, 1, 16), (8, 0, 7, 1, 16), (10, 0, 8, 1, 32), (11, 0, 9, 1, 32)], [(0, 0, 1, 1, 2048), (1, 0, 2, 1, 16)], [(0, 1, 33, 25, 0), (1, 0, 1, 1, 64), (2, 0, 2, 4, 64)], [(0, 0, 1, 3, 6000), (3, 0, 2, 1, 6001), (4, 0, 3, 1, 6001), (5, 0, 4, 2, 6001)], [(0, 1, 31, 26, 0), (4, 2, 12, 5, 8), (5, 2, 13, 6, 16), (6, 2, 30, 1, 16), (7, 2, 31, 4, 16), (16, 2, 32, 1, 500), (17, 2, 33, 1, 500), (18, 2, 34, 1, 500), (19, 2, 35, 4, 500)], [(0, 1, 31, 26, 0), (1, 0, 1, 18, 0), (2, 0, 9, 24, 0), (4, 0, 4, 1, 200), (5, 0, 5, 4, 200), (7, 0, 6, 1, 64), (9, 0, 7, 4, 64), (11, 0, 8, 4, 100)], [(0, 0, 1, 1, 2048), (1, 0, 2, 1, 2048)], [(0, 1, 31, 26, 0), (3, 3, 1, 4, 0), (4, 3, 2, 1, 0)], [], [], [(0, 1, 1, 20, 0), (1, 1, 6, 16, 0), (2, 1, 15, 23, 0), (3, 1, 18, 1, 2048), (5, 1, 19, 6, 10), (6, 1, 30, 1, 10), (7, 1, 31, 26, 0), (8, 1, 38, 24, 0), (9, 1, 41, 19, 0), (10, 1, 44, 19, 0), (11, 1, 47, 21, 0), (12, 1, 179, 21, 0)]]
def RJ7 : String := "java/util/Arrays"
abbrev cl_S : Type := (Nat → Nat → Int32) × (Nat → Nat → Int64) × (Nat → Nat → Option Nat) × (Nat → Nat × Nat) × Nat × Nat × Nat
def cl_w (σ : cl_S) (a k : Nat) (v : Int32) : cl_S := (up2 σ.1 a k v, σ.2)
def cl_wl (σ : cl_S) (a k : Nat) (v : Int64) : cl_S := (σ.1, up2 σ.2.1 a k v, σ.2.2)
def cl_wr (σ : cl_S) (a k : Nat) (v : Option Nat) : cl_S := (σ.1, σ.2.1, up2 σ.2.2.1 a k v, σ.2.2.2)
def cl_row {α : Type} (f : Nat → Nat → α) (a : Nat) (v : Nat → α) : Nat → Nat → α := fun b j => if b = a then v j else f b j
/-- a new cell of kind t and length n (an object: of N slots, n = 0) at the next address -/
def cl_nw (σ : cl_S) (t n N : Nat) : cl_S := (cl_row σ.1 σ.2.2.2.2.1 (fun _ => 0), cl_row σ.2.1 σ.2.2.2.2.1 (fun _ => 0), cl_row σ.2.2.1 σ.2.2.2.2.1 (fun _ => none), va_up σ.2.2.2.1 σ.2.2.2.2.1 (t, n), σ.2.2.2.2.1 + 1, σ.2.2.2.2.2.1 - 1, σ.2.2.2.2.2.2 - N)
abbrev cl_D : Type := (Nat → ClassId) × (Nat → Nat → Nat) × (Nat → ClassId) × Heap × Nat × (List Int32 → Nat)
def cl_rf (c0 : Nat) (r : Option Nat) : Value := va_rf (r.map (fun a => c0 + a))
def cl_fd (ci k : Nat) : Nat := (cl_fdL.getD ci []).getD k 0
def cl_N (ci : Nat) : Nat := (cl_fdL.getD ci []).length
def cl_el (t : Nat) : Nat := if t = 4 then 25 else if t = 5 then 22 else 1
def cl_T : Nat → FieldType := fun t => match t with
  | 1 => .int
  | 2 => .long
  | 3 => .char
  | 4 => .object "PartHouse$Term"
  | 5 => .object "PartHouse$Partition"
  | _ => .array .int
/-- what a field's reference leads to, by its code; code 2: the words of a TERM, where none is the one empty array that the class has at its start -/
def cl_tk (f : Nat) : Nat := if f = 2 then 1 else f - 2
def cl_wa (c0 zw : Nat) (raw : Bool) (f : Int32) (r : Option Nat) : Value := match r with
  | none => if raw = true ∧ f = 0 then .null else .ref zw
  | some b => .ref (c0 + b)
def cl_V (c0 zw : Nat) (raw : Bool) (σ : cl_S) (a ci k : Nat) : Value := match cl_fd ci k with
  | 0 => .int (σ.1 a k)
  | 1 => .long (σ.2.1 a k)
  | 2 => cl_wa c0 zw raw (σ.1 a k) (σ.2.2.1 a k)
  | _ => cl_rf c0 (σ.2.2.1 a k)
def cl_arr (D : cl_D) (c0 : Nat) (σ : cl_S) (a t n : Nat) : Cell := if t = 2 then arrV (D.2.2.1 2) n (fun j => .long (σ.2.1 a j)) else if t < 4 then arrV (D.2.2.1 t) n (fun j => .int (σ.1 a j)) else arrV (D.2.2.1 t) n (fun j => cl_rf c0 (σ.2.2.1 a j))
/-- the class of an object's kind: 16 and on, or 116 and on while it is being made -/
def cl_ci (t : Nat) : Nat := if t < 116 then t - 16 else t - 116
def cl_at (D : cl_D) (c0 : Nat) (σ : cl_S) (a t n : Nat) (H : Heap) : Prop := if t = 0 then True else if t < 16 then H[c0 + a]? = some (cl_arr D c0 σ a t n) else t_OB (c0 + a) (D.1 (cl_ci t)) (cl_N (cl_ci t)) (D.2.1 (cl_ci t)) H (cl_V c0 D.2.2.2.2.1 (decide (116 ≤ t)) σ a (cl_ci t))
/-- a reference of a kind -/
def cl_RT (T : Nat → Nat × Nat) (r : Option Nat) (K : Nat) : Prop := ∀ b, r = some b → (T b).1 = K
def cl_wt (σ : cl_S) : Prop := (∀ a k, 16 ≤ (σ.2.2.2.1 a).1 → 2 ≤ cl_fd (cl_ci (σ.2.2.2.1 a).1) k → cl_RT σ.2.2.2.1 (σ.2.2.1 a k) (cl_tk (cl_fd (cl_ci (σ.2.2.2.1 a).1) k))) ∧ ∀ a j, 4 ≤ (σ.2.2.2.1 a).1 → (σ.2.2.2.1 a).1 < 16 → j < (σ.2.2.2.1 a).2 → cl_RT σ.2.2.2.1 (σ.2.2.1 a j) (cl_el (σ.2.2.2.1 a).1)
def cl_P (D : cl_D) (c0 : Nat) (σ : cl_S) (H : Heap) : Prop := H.size = c0 + σ.2.2.2.2.1 ∧ (∀ a, σ.2.2.2.2.1 ≤ a → (σ.2.2.2.1 a).1 = 0) ∧ (∀ a, cl_at D c0 σ a (σ.2.2.2.1 a).1 (σ.2.2.2.1 a).2 H) ∧ cl_wt σ ∧ D.2.2.2.1.size ≤ c0 ∧ ∀ q : Nat, q < D.2.2.2.1.size → H[q]? = D.2.2.2.1[q]?
/-- arrays of int arrays can be made -/
def cl_AOA (U : State) : Prop := (Cond.arrayOver (.array .int)).before #[] U = true
theorem cl_AOA.spec {s : State} (h : cl_AOA s) : ∃ comp c k, s.vm.findClass (FieldType.array .int).toString = some comp ∧ (s.vm.classes.findIdx? fun (x : Class) => match x.kind with | .array component _ => component == comp | _ => false) = some c ∧ s.vm.classes[c]? = some k ∧ k.kind = .array comp (.array .int) ∧ s.vm.findClass ("[" ++ (FieldType.array .int).toString) = some c := by
  unfold cl_AOA Cond.before at h
  simp only [Cond.holds, Cond.value, beq_iff_eq] at h
  cases hc : s.vm.findClass (FieldType.array .int).toString with
  | none => simp [hc] at h
  | some comp =>
    simp only [hc, Option.bind_some, Option.bind_eq_some_iff, Option.map_eq_some_iff] at h
    obtain ⟨c, hi, k, hk, hb⟩ := h
    obtain ⟨hlt, hp, -⟩ := Array.findIdx?_eq_some_iff_getElem.mp hi
    have hkk : s.vm.classes[c] = k := (Array.getElem?_eq_some_iff.mp hk).2
    rw [hkk] at hp
    cases hkind : k.kind with
    | array component ty =>
      rw [hkind] at hb hp
      simp at hb hp
      exact ⟨comp, c, k, rfl, hi, hk, by rw [hkind, hp, hb.1], hb.2⟩
    | _ => rw [hkind] at hb; simp at hb
theorem cl_AOA.moved {u U : State} (hvm : u.vm.Alike U.vm) (h : cl_AOA u) : cl_AOA U := by
  obtain ⟨comp, c, k, h1, h2, h3, h4, h5⟩ := h.spec
  obtain ⟨k', hk', he⟩ := hvm.2.2 _ _ h3
  have hi : (U.vm.classes.findIdx? fun (x : Class) => match x.kind with | .array component _ => component == comp | _ => false) = some c := by
    have e0 := va_idx_bare U.vm comp
    have e1 := va_idx_bare u.vm comp
    have e2 : U.vm.bare = u.vm.bare := by first | exact hvm.bare_eq | exact hvm.bare_eq.symm
    rw [e2] at e0
    exact e0.symm.trans (e1.trans h2)
  have hkind : k'.kind = .array comp (.array .int) := by rw [he]; exact h4
  have f1 : U.vm.findClass (FieldType.array .int).toString = some comp := by rw [hvm.findClass]; exact h1
  have f2 : U.vm.findClass ("[" ++ (FieldType.array .int).toString) = some c := by rw [hvm.findClass]; exact h5
  unfold cl_AOA Cond.before Cond.holds
  simp only [Cond.value]
  rw [f1, Option.bind_some]
  refine (congrArg (fun o : Option Nat => (o.bind (fun c => (U.vm.classes[c]?).map fun (k : Class) => match k.kind with | .array _ ty => decide (ty = FieldType.array .int) && decide (U.vm.findClass ("[" ++ (FieldType.array .int).toString) = some c) | _ => false) == some true)) hi).trans ?_
  simp [hk', hkind, f2]
/-- the octets of the names, six each -/
def nm_tab : List Int32 := [97, 100, 100, 32, 32, 32, 115, 117, 98, 32, 32, 32, 97, 110, 100, 32, 32, 32, 111, 114, 32, 32, 32, 32, 120, 111, 114, 32, 32, 32, 115, 104, 108, 32, 32, 32, 115, 104, 114, 32, 32, 32, 115, 97, 114, 32, 32, 32, 108, 101, 115, 115, 32, 32, 98, 101, 108, 111, 119, 32, 109, 117, 108, 32, 32, 32, 97, 100, 100, 105, 32, 32, 97, 110, 100, 105, 32, 32, 111, 114, 105, 32, 32, 32, 120, 111, 114, 105, 32, 32, 115, 104, 108, 105, 32, 32, 115, 104, 114, 105, 32, 32, 115, 97, 114, 105, 32, 32, 108, 101, 115, 115, 105, 32, 98, 101, 108, 111, 119, 105, 104, 105, 103, 104, 32, 32, 108, 100, 119, 32, 32, 32, 108, 100, 104, 32, 32, 32, 108, 100, 104, 117, 32, 32, 108, 100, 111, 32, 32, 32, 108, 100, 111, 117, 32, 32, 115, 116, 119, 32, 32, 32, 115, 116, 104, 32, 32, 32, 115, 116, 111, 32, 32, 32, 98, 101, 113, 32, 32, 32, 98, 110, 101, 32, 32, 32, 98, 108, 116, 32, 32, 32, 98, 103, 101, 32, 32, 32, 98, 108, 116, 117, 32, 32, 98, 103, 101, 117, 32, 32, 106, 117, 109, 112, 32, 32, 106, 117, 109, 112, 114, 32, 97, 115, 107, 32, 32, 32, 98, 97, 99, 107, 32, 32, 119, 111, 114, 100, 32, 32, 114, 111, 111, 109, 32, 32]
def cl_strs : List (Nat × String × List Int32) := [(50, "add   sub   and   o\x72    xo\x72   shl   sh\x72   sa\x72   less  below mul   addi  andi  o\x72i   xo\x72i  shli  sh\x72i  sa\x72i  lessi belowihigh  ldw   ldh   ldhu  ldo   ldou  stw   sth   sto   beq   bne   blt   bge   bltu  bgeu  jump  jump\x72 ask   back  wo\x72d  \x72oom  ", nm_tab), (206, " ", [32]), (215, " \x72", [32, 114]), (221, ", \x72", [44, 32, 114]), (223, ", ", [44, 32])]
/-- private constructors that nest mates call -/
def cl_nest : List (String × Nat × MethodName × String) := [("PartHouse", 9, ⟨"PartHouse$Lexer", "<init>", "()V"⟩, "PartHouse"), ("PartHouse", 27, ⟨"PartHouse$SafeCheck", "<init>", "()V"⟩, "PartHouse"), ("PartHouse$Machine", 11, ⟨"PartHouse$Config", "<init>", "()V"⟩, "PartHouse"), ("PartHouse$Partition", 11, ⟨"PartHouse$Core", "<init>", "()V"⟩, "PartHouse"), ("PartHouse", 90, ⟨"PartHouse$Config", "<init>", "()V"⟩, "PartHouse")]
def cl_KS (D : cl_D) (U : State) : Prop := (∀ q ∈ cl_strs, vk_R RX0 q.1 q.2.1 (D.2.2.2.2.2 q.2.2) U ∧ ∃ qv, jk_S D.2.2.2.1 (D.2.2.2.2.2 q.2.2) qv q.2.2 U) ∧ (∀ q ∈ cl_nest, va_Nw (.methodLinkNest q.1 q.2.1 q.2.2.1 q.2.2.2) U) ∧ va_AO "PartHouse$Term" U ∧ va_AO "PartHouse$Partition" U ∧ cl_AOA U ∧ va_Z "PartHouse$Term" "NO_WORDS" "[I" (.ref D.2.2.2.2.1) (fun q => D.2.2.2.1.size ≤ q) U D.2.2.2.1 ∧ va_Nw (.castable "[I" "java/lang/Cloneable") U ∧ jk_K D.2.2.2.1 U
def cl_K (D : cl_D) (U : State) : Prop := (∀ (ci : Nat) (q : vw_C), cl_cls[ci]? = some q → u_Kn U q.1 q.2.1 q.2.2 (D.1 ci) (D.2.1 ci)) ∧ (∀ t, 0 < t → t < 7 → ArrOfT U (D.2.2.1 t) (cl_T t) ∧ va_RA U (D.2.2.1 t) (cl_T t)) ∧ cl_KS D U
theorem cl_K.moved {D : cl_D} {u U : State} (hW : u.WarmedH U.vm) (h : cl_K D u) : cl_K D U := ⟨fun ci q hq => u_Kn_moved hW.alike (h.1 ci q hq), fun t h0 h7 => ⟨arrOfT_moved hW.alike (h.2.1 t h0 h7).1, (h.2.1 t h0 h7).2.moved hW.alike⟩, fun q hq => ⟨(h.2.2.1 q hq).1.warm hW, (h.2.2.1 q hq).2.imp (fun qv hv => hv.moved hW.alike)⟩, fun q hq => (h.2.2.2.1 q hq).warmM hW, h.2.2.2.2.1.moved hW.alike, h.2.2.2.2.2.1.moved hW.alike, h.2.2.2.2.2.2.1.moved hW.alike, h.2.2.2.2.2.2.2.1.moved hW.alike, h.2.2.2.2.2.2.2.2.1.warmC hW, h.2.2.2.2.2.2.2.2.2.moved hW.alike⟩
theorem cl_K.same {D : cl_D} {u U : State} (hv : U.vm = u.vm) (h : cl_K D u) : cl_K D U := by
  have ha : u.vm.Alike U.vm := by rw [hv]; exact Vm.Alike.refl _
  exact ⟨fun ci q hq => u_Kn_moved ha (h.1 ci q hq), fun t h0 h7 => ⟨arrOfT_moved ha (h.2.1 t h0 h7).1, (h.2.1 t h0 h7).2.moved ha⟩, fun q hq => ⟨(h.2.2.1 q hq).1.same hv, (h.2.2.1 q hq).2.imp (fun qv hq => hq.moved ha)⟩, fun q hq => va_Nw.same rfl hv.symm (h.2.2.2.1 q hq), h.2.2.2.2.1.moved ha, h.2.2.2.2.2.1.moved ha, h.2.2.2.2.2.2.1.moved ha, h.2.2.2.2.2.2.2.1.moved ha, va_Nw.same rfl hv.symm h.2.2.2.2.2.2.2.2.1, h.2.2.2.2.2.2.2.2.2.moved ha⟩
def cl_A (c0 : Nat) (T0 : Nat → Nat × Nat) (sz : Nat) : Nat → Prop := fun q => sz ≤ q ∨ (c0 ≤ q ∧ (T0 (q - c0)).1 ≠ 0)
/-- T1 keeps what T0 has -/
def cl_up (T0 T1 : Nat → Nat × Nat) : Prop := ∀ a, (T0 a).1 ≠ 0 → T1 a = T0 a
/-- owned and shared pointers that never change: (field, 0 = behind the object / 1 = at a fixed address, offset, kind, length) -/
def cl_md (a : Nat) : Nat := if a = 47 then 0 else 3
def cl_tgt (a : Nat) (e : Nat × Nat × Nat × Nat × Nat) : Nat := if e.2.1 = 0 then a + e.2.2.1 else if e.2.1 = 1 then e.2.2.1 else if e.2.1 = 2 then a + e.2.2.1 + cl_md a else a + e.2.2.1
def cl_th (a : Nat) : Nat := if a = 38 then 601 else 101
def cl_ts (a : Nat) : Nat := if a = 38 then 2048 else 256
def cl_ll (a : Nat) (e : Nat × Nat × Nat × Nat × Nat) : Nat := if e.2.1 = 3 then (if e.2.2.1 = 1 then cl_th a else cl_ts a) else e.2.2.2.2
def cl_lay (σ : cl_S) : Prop := ∀ a ci, (σ.2.2.2.1 a).1 = 16 + ci → ci < 100 → ∀ e ∈ cl_layL.getD ci [], σ.2.2.1 a e.1 = some (cl_tgt a e) ∧ σ.2.2.2.1 (cl_tgt a e) = (e.2.2.2.1, cl_ll a e)
def cl_G (b : Bool) (D : cl_D) (c0 : Nat) (R : Room) (s : State) (T0 T : Nat → Nat × Nat) (σ : cl_S) (H : Heap) (locs : List Loc) (cells slots : Nat) : Prop := σ.2.2.2.1 = T ∧ cl_P D c0 σ H ∧ (b = true → cl_lay σ) ∧ va_S (cl_A c0 T0 s.heap.size) s.heap H locs ∧ (∀ a, c0 + a < s.heap.size → T a = T0 a) ∧ cells + σ.2.2.2.2.2.1 = R.cells ∧ slots + σ.2.2.2.2.2.2 = R.slots
def cl_C (D : cl_D) (p : Program) (s : State) (m : MethodId) (args : Array Value) (meth : Method) (c : Code) (cc : ByteArray) (nL : Nat) (ret : Option FieldType) (own : String) : Prop :=
  p.tables.exec = Jvm.exec ∧ c.code = cc ∧ c.maxLocals = nL ∧ s.vm.findClass own = some m.cls ∧ (∀ w ∈ rf_tb, w.before args s = true) ∧ cl_K D s ∧ meth.sig.returnType = ret ∧ meth.locks = false
def cl_Q (b : Bool) (D : cl_D) (c0 : Nat) (rv : Option Value) (X : (Nat → Nat × Nat) → Prop) (σ σ' : cl_S) : Array Value → State → Outcome → State → Prop := fun _ st o t => o = .returned rv ∧ X σ'.2.2.2.1 ∧ cl_P D c0 σ' t.heap ∧ (b = true → cl_lay σ') ∧ va_F (cl_A c0 σ.2.2.2.1 st.heap.size) st t ∧ (∀ a, c0 + a < st.heap.size → σ'.2.2.2.1 a = σ.2.2.2.1 a) ∧ σ'.2.2.2.2.2.1 ≤ σ.2.2.2.2.2.1 ∧ σ'.2.2.2.2.2.2 ≤ σ.2.2.2.2.2.2
def cl_Met (b : Bool) (l : Launch) (D : cl_D) (c0 : Nat) (y : MethodName) (cc : ByteArray) (maxL : Nat) (ret : Option FieldType) (fr lo : Nat) (av : List Value) (σ : cl_S) (rv : Option Value) (X : (Nat → Nat × Nat) → Prop) (σ' : cl_S) : Prop :=
  ∀ sz : Nat, Met l y (.code y cc maxL ret :: rf_tb) ({ frames := fr, cells := σ.2.2.2.2.2.1, slots := σ.2.2.2.2.2.2, locals := lo }) (va_Pc av (fun U => U.heap.size = sz ∧ cl_P D c0 σ U.heap ∧ (b = true → cl_lay σ) ∧ cl_K D U)) (cl_Q b D c0 rv X σ σ') (σ.2.2.2.2.2.1 - σ'.2.2.2.2.2.1) (σ.2.2.2.2.2.2 - σ'.2.2.2.2.2.2) (cl_A c0 σ.2.2.2.1 sz)
theorem cl_RT.up {T0 T1 : Nat → Nat × Nat} {r : Option Nat} {K : Nat} (h : cl_RT T0 r K) (hu : cl_up T0 T1) (hK : K ≠ 0) : cl_RT T1 r K := fun b hb => by rw [hu b (by rw [h b hb]; exact hK)]; exact h b hb
theorem cl_up.kind {T0 T1 : Nat → Nat × Nat} {a K : Nat} (hu : cl_up T0 T1) (h : (T0 a).1 = K) (hK : K ≠ 0) : (T1 a).1 = K := by rw [hu a (by rw [h]; exact hK)]; exact h
theorem cl_up.trans {T0 T1 T2 : Nat → Nat × Nat} (h : cl_up T0 T1) (h2 : cl_up T1 T2) : cl_up T0 T2 := fun a ha => by rw [h2 a (by rw [h a ha]; exact ha)]; exact h a ha
