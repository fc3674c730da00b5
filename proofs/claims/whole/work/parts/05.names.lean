/-! names, fields and tables of the classes (out of the printed names) -/
def RX0 : String := "RoyaltyOffice$Catalogue"
def RX1 : String := "RoyaltyOffice$Division"
def RX2 : String := "RoyaltyOffice$Ledger"
def RX3 : String := "RoyaltyOffice$Office"
def RX4 : String := "RoyaltyOffice$Report"
def RX5 : String := "RoyaltyOffice$Script"
def RX6 : String := "RoyaltyOffice$ScriptReader"
def RX7 : String := "RoyaltyOffice$StatementReader"
def RX8 : String := "RoyaltyOffice$Table"
def RX9 : String := "RoyaltyOffice$Tokens"
def RX10 : String := "RoyaltyOffice"
def RX11 : String := "RoyaltyOfficeModel"
def RL : String := "RoyaltyOfficeLaw"
def RJ7 : String := "java/util/Arrays"
def RJ0 : String := "java/lang/String"
def RJ1 : String := "java/lang/StringLatin1"
def RJ3 : String := "jdk/internal/util/Preconditions"
def RJ9 : String := "java/lang/Math"
def RJ10 : String := "java/lang/System"
def TX0 : u_T := fun k => match k with
  | 0 => ("RoyaltyOffice$Catalogue", "payees", "I", false)
  | 1 => ("RoyaltyOffice$Catalogue", "works", "I", false)
  | 2 => ("RoyaltyOffice$Catalogue", "payeeNames", "[J", true)
  | 3 => ("RoyaltyOffice$Catalogue", "leasts", "[I", true)
  | 4 => ("RoyaltyOffice$Catalogue", "workNames", "[J", true)
  | 5 => ("RoyaltyOffice$Catalogue", "sourceCounts", "[I", true)
  | 6 => ("RoyaltyOffice$Catalogue", "splitCounts", "[I", true)
  | 7 => ("RoyaltyOffice$Catalogue", "sources", "LRoyaltyOffice$Table;", true)
  | 8 => ("RoyaltyOffice$Catalogue", "splits", "LRoyaltyOffice$Table;", true)
  | _ => ("RoyaltyOffice$Catalogue", "shares", "LRoyaltyOffice$Table;", true)
def tyX0 : Nat → FieldType := fun k => match k with
  | 0 => .int
  | 1 => .int
  | 2 => .array .long
  | 3 => .array .int
  | 4 => .array .long
  | 5 => .array .int
  | 6 => .array .int
  | 7 => .object "RoyaltyOffice$Table"
  | 8 => .object "RoyaltyOffice$Table"
  | _ => .object "RoyaltyOffice$Table"
theorem nmX0 : ∀ a, a < 10 → ∀ b, b < 10 → a ≠ b → (TX0 a).2.1 ≠ (TX0 b).2.1 := by decide +kernel
theorem tyX0_ok : ∀ k, k < 10 → parseFieldDescriptor (TX0 k).2.2.1 = some (tyX0 k) := by decide +kernel
def TX1 : u_T := fun k => match k with
  | 0 => ("RoyaltyOffice$Division", "splits", "[I", true)
  | 1 => ("RoyaltyOffice$Division", "rights", "[I", true)
  | 2 => ("RoyaltyOffice$Division", "debts", "[I", true)
  | 3 => ("RoyaltyOffice$Division", "comings", "[I", true)
  | 4 => ("RoyaltyOffice$Division", "open", "[I", true)
  | 5 => ("RoyaltyOffice$Division", "returned", "[I", true)
  | 6 => ("RoyaltyOffice$Division", "lines", "LRoyaltyOffice$Table;", true)
  | 7 => ("RoyaltyOffice$Division", "catalogue", "LRoyaltyOffice$Catalogue;", false)
  | 8 => ("RoyaltyOffice$Division", "assignments", "LRoyaltyOffice$Table;", false)
  | _ => ("RoyaltyOffice$Division", "advances", "LRoyaltyOffice$Table;", false)
def tyX1 : Nat → FieldType := fun k => match k with
  | 0 => .array .int
  | 1 => .array .int
  | 2 => .array .int
  | 3 => .array .int
  | 4 => .array .int
  | 5 => .array .int
  | 6 => .object "RoyaltyOffice$Table"
  | 7 => .object "RoyaltyOffice$Catalogue"
  | 8 => .object "RoyaltyOffice$Table"
  | _ => .object "RoyaltyOffice$Table"
theorem nmX1 : ∀ a, a < 10 → ∀ b, b < 10 → a ≠ b → (TX1 a).2.1 ≠ (TX1 b).2.1 := by decide +kernel
theorem tyX1_ok : ∀ k, k < 10 → parseFieldDescriptor (TX1 k).2.2.1 = some (tyX1 k) := by decide +kernel
def TX2 : u_T := fun k => match k with
  | 0 => ("RoyaltyOffice$Ledger", "balances", "[J", true)
  | 1 => ("RoyaltyOffice$Ledger", "totals", "[J", true)
  | 2 => ("RoyaltyOffice$Ledger", "period", "[J", true)
  | 3 => ("RoyaltyOffice$Ledger", "earnings", "[J", true)
  | 4 => ("RoyaltyOffice$Ledger", "comings", "[J", true)
  | 5 => ("RoyaltyOffice$Ledger", "statements", "[J", true)
  | 6 => ("RoyaltyOffice$Ledger", "statementDays", "[I", true)
  | _ => ("RoyaltyOffice$Ledger", "closed", "I", false)
def tyX2 : Nat → FieldType := fun k => match k with
  | 0 => .array .long
  | 1 => .array .long
  | 2 => .array .long
  | 3 => .array .long
  | 4 => .array .long
  | 5 => .array .long
  | 6 => .array .int
  | _ => .int
theorem nmX2 : ∀ a, a < 8 → ∀ b, b < 8 → a ≠ b → (TX2 a).2.1 ≠ (TX2 b).2.1 := by decide +kernel
theorem tyX2_ok : ∀ k, k < 8 → parseFieldDescriptor (TX2 k).2.2.1 = some (tyX2 k) := by decide +kernel
def TX3 : u_T := fun k => match k with
  | 0 => ("RoyaltyOffice$Office", "day", "I", false)
  | 1 => ("RoyaltyOffice$Office", "catalogue", "LRoyaltyOffice$Catalogue;", true)
  | 2 => ("RoyaltyOffice$Office", "assignments", "LRoyaltyOffice$Table;", true)
  | 3 => ("RoyaltyOffice$Office", "advances", "LRoyaltyOffice$Table;", true)
  | 4 => ("RoyaltyOffice$Office", "lines", "LRoyaltyOffice$Table;", true)
  | _ => ("RoyaltyOffice$Office", "ledger", "LRoyaltyOffice$Ledger;", true)
def tyX3 : Nat → FieldType := fun k => match k with
  | 0 => .int
  | 1 => .object "RoyaltyOffice$Catalogue"
  | 2 => .object "RoyaltyOffice$Table"
  | 3 => .object "RoyaltyOffice$Table"
  | 4 => .object "RoyaltyOffice$Table"
  | _ => .object "RoyaltyOffice$Ledger"
theorem nmX3 : ∀ a, a < 6 → ∀ b, b < 6 → a ≠ b → (TX3 a).2.1 ≠ (TX3 b).2.1 := by decide +kernel
theorem tyX3_ok : ∀ k, k < 6 → parseFieldDescriptor (TX3 k).2.2.1 = some (tyX3 k) := by decide +kernel
def TX4 : u_T := fun k => match k with
  | 0 => ("RoyaltyOffice$Report", "bytes", "[B", true)
  | 1 => ("RoyaltyOffice$Report", "digits", "[B", true)
  | _ => ("RoyaltyOffice$Report", "length", "I", false)
def tyX4 : Nat → FieldType := fun k => match k with
  | 0 => .array .byte
  | 1 => .array .byte
  | _ => .int
theorem nmX4 : ∀ a, a < 3 → ∀ b, b < 3 → a ≠ b → (TX4 a).2.1 ≠ (TX4 b).2.1 := by decide +kernel
theorem tyX4_ok : ∀ k, k < 3 → parseFieldDescriptor (TX4 k).2.2.1 = some (tyX4 k) := by decide +kernel
def TX5 : u_T := fun k => match k with
  | 0 => ("RoyaltyOffice$Script", "commands", "LRoyaltyOffice$Table;", true)
  | 1 => ("RoyaltyOffice$Script", "office", "LRoyaltyOffice$Office;", false)
  | 2 => ("RoyaltyOffice$Script", "division", "LRoyaltyOffice$Division;", false)
  | _ => ("RoyaltyOffice$Script", "done", "I", false)
def tyX5 : Nat → FieldType := fun k => match k with
  | 0 => .object "RoyaltyOffice$Table"
  | 1 => .object "RoyaltyOffice$Office"
  | 2 => .object "RoyaltyOffice$Division"
  | _ => .int
theorem nmX5 : ∀ a, a < 4 → ∀ b, b < 4 → a ≠ b → (TX5 a).2.1 ≠ (TX5 b).2.1 := by decide +kernel
theorem tyX5_ok : ∀ k, k < 4 → parseFieldDescriptor (TX5 k).2.2.1 = some (tyX5 k) := by decide +kernel
def TX6 : u_T := fun k => match k with
  | 0 => ("RoyaltyOffice$ScriptReader", "tokens", "LRoyaltyOffice$Tokens;", true)
  | 1 => ("RoyaltyOffice$ScriptReader", "script", "LRoyaltyOffice$Script;", true)
  | _ => ("RoyaltyOffice$ScriptReader", "catalogue", "LRoyaltyOffice$Catalogue;", false)
def tyX6 : Nat → FieldType := fun k => match k with
  | 0 => .object "RoyaltyOffice$Tokens"
  | 1 => .object "RoyaltyOffice$Script"
  | _ => .object "RoyaltyOffice$Catalogue"
theorem nmX6 : ∀ a, a < 3 → ∀ b, b < 3 → a ≠ b → (TX6 a).2.1 ≠ (TX6 b).2.1 := by decide +kernel
theorem tyX6_ok : ∀ k, k < 3 → parseFieldDescriptor (TX6 k).2.2.1 = some (tyX6 k) := by decide +kernel
def TX7 : u_T := fun k => match k with
  | 0 => ("RoyaltyOffice$StatementReader", "tokens", "LRoyaltyOffice$Tokens;", true)
  | 1 => ("RoyaltyOffice$StatementReader", "shares", "LRoyaltyOffice$Table;", true)
  | 2 => ("RoyaltyOffice$StatementReader", "into", "LRoyaltyOffice$Office;", false)
  | _ => ("RoyaltyOffice$StatementReader", "catalogue", "LRoyaltyOffice$Catalogue;", false)
def tyX7 : Nat → FieldType := fun k => match k with
  | 0 => .object "RoyaltyOffice$Tokens"
  | 1 => .object "RoyaltyOffice$Table"
  | 2 => .object "RoyaltyOffice$Office"
  | _ => .object "RoyaltyOffice$Catalogue"
theorem nmX7 : ∀ a, a < 4 → ∀ b, b < 4 → a ≠ b → (TX7 a).2.1 ≠ (TX7 b).2.1 := by decide +kernel
theorem tyX7_ok : ∀ k, k < 4 → parseFieldDescriptor (TX7 k).2.2.1 = some (tyX7 k) := by decide +kernel
def TX8 : u_T := fun k => match k with
  | 0 => ("RoyaltyOffice$Table", "width", "I", true)
  | 1 => ("RoyaltyOffice$Table", "cells", "[I", true)
  | _ => ("RoyaltyOffice$Table", "rows", "I", false)
def tyX8 : Nat → FieldType := fun k => match k with
  | 0 => .int
  | 1 => .array .int
  | _ => .int
theorem nmX8 : ∀ a, a < 3 → ∀ b, b < 3 → a ≠ b → (TX8 a).2.1 ≠ (TX8 b).2.1 := by decide +kernel
theorem tyX8_ok : ∀ k, k < 3 → parseFieldDescriptor (TX8 k).2.2.1 = some (tyX8 k) := by decide +kernel
def TX9 : u_T := fun k => match k with
  | 0 => ("RoyaltyOffice$Tokens", "quoted", "[J", true)
  | 1 => ("RoyaltyOffice$Tokens", "kinds", "[I", true)
  | 2 => ("RoyaltyOffice$Tokens", "starts", "[I", true)
  | 3 => ("RoyaltyOffice$Tokens", "values", "[J", true)
  | 4 => ("RoyaltyOffice$Tokens", "size", "I", false)
  | 5 => ("RoyaltyOffice$Tokens", "place", "I", false)
  | 6 => ("RoyaltyOffice$Tokens", "code", "I", false)
  | 7 => ("RoyaltyOffice$Tokens", "position", "I", false)
  | _ => ("RoyaltyOffice$Tokens", "reason", "I", false)
def tyX9 : Nat → FieldType := fun k => match k with
  | 0 => .array .long
  | 1 => .array .int
  | 2 => .array .int
  | 3 => .array .long
  | 4 => .int
  | 5 => .int
  | 6 => .int
  | 7 => .int
  | _ => .int
theorem nmX9 : ∀ a, a < 9 → ∀ b, b < 9 → a ≠ b → (TX9 a).2.1 ≠ (TX9 b).2.1 := by decide +kernel
theorem tyX9_ok : ∀ k, k < 9 → parseFieldDescriptor (TX9 k).2.2.1 = some (tyX9 k) := by decide +kernel
def TX10 : u_T := fun k => match k with
  | 0 => ("RoyaltyOffice", "buffer", "[B", true)
  | 1 => ("RoyaltyOffice", "buffered", "I", false)
  | 2 => ("RoyaltyOffice", "tokens", "LRoyaltyOffice$Tokens;", true)
  | 3 => ("RoyaltyOffice", "statementReader", "LRoyaltyOffice$StatementReader;", true)
  | 4 => ("RoyaltyOffice", "scriptReader", "LRoyaltyOffice$ScriptReader;", true)
  | 5 => ("RoyaltyOffice", "script", "LRoyaltyOffice$Script;", true)
  | 6 => ("RoyaltyOffice", "division", "LRoyaltyOffice$Division;", true)
  | 7 => ("RoyaltyOffice", "written", "LRoyaltyOffice$Report;", true)
  | 8 => ("RoyaltyOffice", "history", "[LRoyaltyOffice$Office;", true)
  | 9 => ("RoyaltyOffice", "undoable", "I", false)
  | 10 => ("RoyaltyOffice", "saved", "LRoyaltyOffice$Office;", true)
  | 11 => ("RoyaltyOffice", "isSaved", "Z", false)
  | 12 => ("RoyaltyOffice", "spare", "LRoyaltyOffice$Office;", false)
  | _ => ("RoyaltyOffice", "office", "LRoyaltyOffice$Office;", false)
def tyX10 : Nat → FieldType := fun k => match k with
  | 0 => .array .byte
  | 1 => .int
  | 2 => .object "RoyaltyOffice$Tokens"
  | 3 => .object "RoyaltyOffice$StatementReader"
  | 4 => .object "RoyaltyOffice$ScriptReader"
  | 5 => .object "RoyaltyOffice$Script"
  | 6 => .object "RoyaltyOffice$Division"
  | 7 => .object "RoyaltyOffice$Report"
  | 8 => .array (.object "RoyaltyOffice$Office")
  | 9 => .int
  | 10 => .object "RoyaltyOffice$Office"
  | 11 => .boolean
  | 12 => .object "RoyaltyOffice$Office"
  | _ => .object "RoyaltyOffice$Office"
theorem nmX10 : ∀ a, a < 14 → ∀ b, b < 14 → a ≠ b → (TX10 a).2.1 ≠ (TX10 b).2.1 := by decide +kernel
theorem tyX10_ok : ∀ k, k < 14 → parseFieldDescriptor (TX10 k).2.2.1 = some (tyX10 k) := by decide +kernel
def TX11 : u_T := fun k => match k with
  | 0 => ("RoyaltyOfficeModel", "code", "I", false)
  | 1 => ("RoyaltyOfficeModel", "buffer", "[I", true)
  | 2 => ("RoyaltyOfficeModel", "filled", "I", false)
  | 3 => ("RoyaltyOfficeModel", "bytes", "I", false)
  | 4 => ("RoyaltyOfficeModel", "at", "I", false)
  | 5 => ("RoyaltyOfficeModel", "place", "I", false)
  | 6 => ("RoyaltyOfficeModel", "sort", "I", false)
  | 7 => ("RoyaltyOfficeModel", "value", "I", false)
  | 8 => ("RoyaltyOfficeModel", "error", "I", false)
  | 9 => ("RoyaltyOfficeModel", "errorPlace", "I", false)
  | 10 => ("RoyaltyOfficeModel", "reason", "I", false)
  | 11 => ("RoyaltyOfficeModel", "toldError", "I", false)
  | 12 => ("RoyaltyOfficeModel", "toldPlace", "I", false)
  | 13 => ("RoyaltyOfficeModel", "toldReason", "I", false)
  | 14 => ("RoyaltyOfficeModel", "word", "J", false)
  | 15 => ("RoyaltyOfficeModel", "s", "[I", true)
  | 16 => ("RoyaltyOfficeModel", "kept", "[I", true)
  | 17 => ("RoyaltyOfficeModel", "past", "[I", true)
  | 18 => ("RoyaltyOfficeModel", "aside", "[I", true)
  | 19 => ("RoyaltyOfficeModel", "m", "[J", true)
  | 20 => ("RoyaltyOfficeModel", "keptAmounts", "[J", true)
  | 21 => ("RoyaltyOfficeModel", "pastAmounts", "[J", true)
  | 22 => ("RoyaltyOfficeModel", "asideAmounts", "[J", true)
  | 23 => ("RoyaltyOfficeModel", "undos", "I", false)
  | 24 => ("RoyaltyOfficeModel", "hasKept", "Z", false)
  | 25 => ("RoyaltyOfficeModel", "readPayee", "[I", true)
  | 26 => ("RoyaltyOfficeModel", "readPercent", "[I", true)
  | 27 => ("RoyaltyOfficeModel", "readMany", "I", false)
  | 28 => ("RoyaltyOfficeModel", "laid", "[I", true)
  | 29 => ("RoyaltyOfficeModel", "comes", "[I", true)
  | 30 => ("RoyaltyOfficeModel", "open", "[I", true)
  | 31 => ("RoyaltyOfficeModel", "grows", "[I", true)
  | 32 => ("RoyaltyOfficeModel", "back", "[I", true)
  | 33 => ("RoyaltyOfficeModel", "laidMany", "I", false)
  | 34 => ("RoyaltyOfficeModel", "script", "[I", true)
  | 35 => ("RoyaltyOfficeModel", "one", "[I", true)
  | 36 => ("RoyaltyOfficeModel", "two", "[I", true)
  | 37 => ("RoyaltyOfficeModel", "begun", "[I", true)
  | 38 => ("RoyaltyOfficeModel", "laps", "[I", true)
  | 39 => ("RoyaltyOfficeModel", "scripted", "I", false)
  | 40 => ("RoyaltyOfficeModel", "wordsHad", "I", false)
  | 41 => ("RoyaltyOfficeModel", "opened", "I", false)
  | 42 => ("RoyaltyOfficeModel", "spare", "I", false)
  | 43 => ("RoyaltyOfficeModel", "report", "[I", true)
  | 44 => ("RoyaltyOfficeModel", "reported", "I", false)
  | _ => ("RoyaltyOfficeModel", "hasReport", "Z", false)
def tyX11 : Nat → FieldType := fun k => match k with
  | 0 => .int
  | 1 => .array .int
  | 2 => .int
  | 3 => .int
  | 4 => .int
  | 5 => .int
  | 6 => .int
  | 7 => .int
  | 8 => .int
  | 9 => .int
  | 10 => .int
  | 11 => .int
  | 12 => .int
  | 13 => .int
  | 14 => .long
  | 15 => .array .int
  | 16 => .array .int
  | 17 => .array .int
  | 18 => .array .int
  | 19 => .array .long
  | 20 => .array .long
  | 21 => .array .long
  | 22 => .array .long
  | 23 => .int
  | 24 => .boolean
  | 25 => .array .int
  | 26 => .array .int
  | 27 => .int
  | 28 => .array .int
  | 29 => .array .int
  | 30 => .array .int
  | 31 => .array .int
  | 32 => .array .int
  | 33 => .int
  | 34 => .array .int
  | 35 => .array .int
  | 36 => .array .int
  | 37 => .array .int
  | 38 => .array .int
  | 39 => .int
  | 40 => .int
  | 41 => .int
  | 42 => .int
  | 43 => .array .int
  | 44 => .int
  | _ => .boolean
theorem nmX11 : ∀ a, a < 46 → ∀ b, b < 46 → a ≠ b → (TX11 a).2.1 ≠ (TX11 b).2.1 := by decide +kernel
theorem tyX11_ok : ∀ k, k < 46 → parseFieldDescriptor (TX11 k).2.2.1 = some (tyX11 k) := by decide +kernel
abbrev vwCl : List vw_C := [(RX0, TX0, 10), (RX1, TX1, 10), (RX2, TX2, 8), (RX3, TX3, 6), (RX4, TX4, 3), (RX5, TX5, 4), (RX6, TX6, 3), (RX7, TX7, 4), (RX8, TX8, 3), (RX9, TX9, 9), (RX10, TX10, 14), (RX11, TX11, 46)]
def am_cn : Nat → String := fun k => match k with
  | 0 => RX0
  | 1 => RX1
  | 2 => RX2
  | 3 => RX3
  | 4 => RX4
  | 5 => RX5
  | 6 => RX6
  | 7 => RX7
  | 8 => RX8
  | 9 => RX9
  | 10 => RX10
  | 11 => RX11
  | 12 => RL
  | 13 => RJ7
  | 14 => RJ0
  | 15 => RJ1
  | _ => RJ3
