/-! names, fields and tables of the classes (out of the printed names) -/
def RX0 : String := "RoyaltyOffice$Catalogue"
def RX1 : String := "RoyaltyOffice$Division"
def RX2 : String := "RoyaltyOffice$Ledger"
def RX3 : String := "RoyaltyOffice$Office"
def RX4 : String := "RoyaltyOffice$Report"
def RX5 : String := "RoyaltyOffice$Script"
def RX6 : String := "RoyaltyOffice$ScriptReader"
def RX7 : String := "RoyaltyOffice$StatementReader"
def RX8 : String := "RoyaltyOffice$Table"
def RX9 : String := "RoyaltyOffice$Tokens"
def RX10 : String := "RoyaltyOffice"
def RX11 : String := "RoyaltyOfficeLaw$Work"
def RX12 : String := "RoyaltyOfficeLaw$World"
def RJ4 : String := "java/lang/StringBuilder"
def RJ0 : String := "java/lang/String"
def RJx4a65c : String := "java/util/ArrayList"
def RJx35411 : String := "java/util/ArrayList$Itr"
def RL : String := "RoyaltyOfficeLaw"
def RJ7 : String := "java/util/Arrays"
def RJ1 : String := "java/lang/StringLatin1"
def RJ3 : String := "jdk/internal/util/Preconditions"
def RJ5 : String := "java/lang/AbstractStringBuilder"
def RJ6 : String := "java/lang/Integer"
def RJ8 : String := "jdk/internal/util/ArraysSupport"
def RJ15 : String := "java/util/Objects"
def RJxc12de : String := "java/util/AbstractList"
def RJxa1e45 : String := "java/util/AbstractCollection"
def TX0 : u_T := fun k => match k with
  | 0 => ("RoyaltyOffice$Catalogue", "payees", "I", false)
  | 1 => ("RoyaltyOffice$Catalogue", "works", "I", false)
  | 2 => ("RoyaltyOffice$Catalogue", "payeeNames", "[J", true)
  | 3 => ("RoyaltyOffice$Catalogue", "leasts", "[I", true)
  | 4 => ("RoyaltyOffice$Catalogue", "workNames", "[J", true)
  | 5 => ("RoyaltyOffice$Catalogue", "sourceCounts", "[I", true)
  | 6 => ("RoyaltyOffice$Catalogue", "splitCounts", "[I", true)
  | 7 => ("RoyaltyOffice$Catalogue", "sources", "LRoyaltyOffice$Table;", true)
  | 8 => ("RoyaltyOffice$Catalogue", "splits", "LRoyaltyOffice$Table;", true)
  | _ => ("RoyaltyOffice$Catalogue", "shares", "LRoyaltyOffice$Table;", true)
def tyX0 : Nat → FieldType := fun k => match k with
  | 0 => .int
  | 1 => .int
  | 2 => .array .long
  | 3 => .array .int
  | 4 => .array .long
  | 5 => .array .int
  | 6 => .array .int
  | 7 => .object "RoyaltyOffice$Table"
  | 8 => .object "RoyaltyOffice$Table"
  | _ => .object "RoyaltyOffice$Table"
theorem nmX0 : ∀ a, a < 10 → ∀ b, b < 10 → a ≠ b → (TX0 a).2.1 ≠ (TX0 b).2.1 := by decide +kernel
theorem tyX0_ok : ∀ k, k < 10 → parseFieldDescriptor (TX0 k).2.2.1 = some (tyX0 k) := by decide +kernel
def TX1 : u_T := fun k => match k with
  | 0 => ("RoyaltyOffice$Division", "splits", "[I", true)
  | 1 => ("RoyaltyOffice$Division", "rights", "[I", true)
  | 2 => ("RoyaltyOffice$Division", "debts", "[I", true)
  | 3 => ("RoyaltyOffice$Division", "comings", "[I", true)
  | 4 => ("RoyaltyOffice$Division", "open", "[I", true)
  | 5 => ("RoyaltyOffice$Division", "returned", "[I", true)
  | 6 => ("RoyaltyOffice$Division", "lines", "LRoyaltyOffice$Table;", true)
  | 7 => ("RoyaltyOffice$Division", "catalogue", "LRoyaltyOffice$Catalogue;", false)
  | 8 => ("RoyaltyOffice$Division", "assignments", "LRoyaltyOffice$Table;", false)
  | _ => ("RoyaltyOffice$Division", "advances", "LRoyaltyOffice$Table;", false)
def tyX1 : Nat → FieldType := fun k => match k with
  | 0 => .array .int
  | 1 => .array .int
  | 2 => .array .int
  | 3 => .array .int
  | 4 => .array .int
  | 5 => .array .int
  | 6 => .object "RoyaltyOffice$Table"
  | 7 => .object "RoyaltyOffice$Catalogue"
  | 8 => .object "RoyaltyOffice$Table"
  | _ => .object "RoyaltyOffice$Table"
theorem nmX1 : ∀ a, a < 10 → ∀ b, b < 10 → a ≠ b → (TX1 a).2.1 ≠ (TX1 b).2.1 := by decide +kernel
theorem tyX1_ok : ∀ k, k < 10 → parseFieldDescriptor (TX1 k).2.2.1 = some (tyX1 k) := by decide +kernel
def TX2 : u_T := fun k => match k with
  | 0 => ("RoyaltyOffice$Ledger", "balances", "[J", true)
  | 1 => ("RoyaltyOffice$Ledger", "totals", "[J", true)
  | 2 => ("RoyaltyOffice$Ledger", "period", "[J", true)
  | 3 => ("RoyaltyOffice$Ledger", "earnings", "[J", true)
  | 4 => ("RoyaltyOffice$Ledger", "comings", "[J", true)
  | 5 => ("RoyaltyOffice$Ledger", "statements", "[J", true)
  | 6 => ("RoyaltyOffice$Ledger", "statementDays", "[I", true)
  | _ => ("RoyaltyOffice$Ledger", "closed", "I", false)
def tyX2 : Nat → FieldType := fun k => match k with
  | 0 => .array .long
  | 1 => .array .long
  | 2 => .array .long
  | 3 => .array .long
  | 4 => .array .long
  | 5 => .array .long
  | 6 => .array .int
  | _ => .int
theorem nmX2 : ∀ a, a < 8 → ∀ b, b < 8 → a ≠ b → (TX2 a).2.1 ≠ (TX2 b).2.1 := by decide +kernel
theorem tyX2_ok : ∀ k, k < 8 → parseFieldDescriptor (TX2 k).2.2.1 = some (tyX2 k) := by decide +kernel
def TX3 : u_T := fun k => match k with
  | 0 => ("RoyaltyOffice$Office", "day", "I", false)
  | 1 => ("RoyaltyOffice$Office", "catalogue", "LRoyaltyOffice$Catalogue;", true)
  | 2 => ("RoyaltyOffice$Office", "assignments", "LRoyaltyOffice$Table;", true)
  | 3 => ("RoyaltyOffice$Office", "advances", "LRoyaltyOffice$Table;", true)
  | 4 => ("RoyaltyOffice$Office", "lines", "LRoyaltyOffice$Table;", true)
  | _ => ("RoyaltyOffice$Office", "ledger", "LRoyaltyOffice$Ledger;", true)
def tyX3 : Nat → FieldType := fun k => match k with
  | 0 => .int
  | 1 => .object "RoyaltyOffice$Catalogue"
  | 2 => .object "RoyaltyOffice$Table"
  | 3 => .object "RoyaltyOffice$Table"
  | 4 => .object "RoyaltyOffice$Table"
  | _ => .object "RoyaltyOffice$Ledger"
theorem nmX3 : ∀ a, a < 6 → ∀ b, b < 6 → a ≠ b → (TX3 a).2.1 ≠ (TX3 b).2.1 := by decide +kernel
theorem tyX3_ok : ∀ k, k < 6 → parseFieldDescriptor (TX3 k).2.2.1 = some (tyX3 k) := by decide +kernel
def TX4 : u_T := fun k => match k with
  | 0 => ("RoyaltyOffice$Report", "bytes", "[B", true)
  | 1 => ("RoyaltyOffice$Report", "digits", "[B", true)
  | _ => ("RoyaltyOffice$Report", "length", "I", false)
def tyX4 : Nat → FieldType := fun k => match k with
  | 0 => .array .byte
  | 1 => .array .byte
  | _ => .int
theorem nmX4 : ∀ a, a < 3 → ∀ b, b < 3 → a ≠ b → (TX4 a).2.1 ≠ (TX4 b).2.1 := by decide +kernel
theorem tyX4_ok : ∀ k, k < 3 → parseFieldDescriptor (TX4 k).2.2.1 = some (tyX4 k) := by decide +kernel
def TX5 : u_T := fun k => match k with
  | 0 => ("RoyaltyOffice$Script", "commands", "LRoyaltyOffice$Table;", true)
  | 1 => ("RoyaltyOffice$Script", "office", "LRoyaltyOffice$Office;", false)
  | 2 => ("RoyaltyOffice$Script", "division", "LRoyaltyOffice$Division;", false)
  | _ => ("RoyaltyOffice$Script", "done", "I", false)
def tyX5 : Nat → FieldType := fun k => match k with
  | 0 => .object "RoyaltyOffice$Table"
  | 1 => .object "RoyaltyOffice$Office"
  | 2 => .object "RoyaltyOffice$Division"
  | _ => .int
theorem nmX5 : ∀ a, a < 4 → ∀ b, b < 4 → a ≠ b → (TX5 a).2.1 ≠ (TX5 b).2.1 := by decide +kernel
theorem tyX5_ok : ∀ k, k < 4 → parseFieldDescriptor (TX5 k).2.2.1 = some (tyX5 k) := by decide +kernel
def TX6 : u_T := fun k => match k with
  | 0 => ("RoyaltyOffice$ScriptReader", "tokens", "LRoyaltyOffice$Tokens;", true)
  | 1 => ("RoyaltyOffice$ScriptReader", "script", "LRoyaltyOffice$Script;", true)
  | _ => ("RoyaltyOffice$ScriptReader", "catalogue", "LRoyaltyOffice$Catalogue;", false)
def tyX6 : Nat → FieldType := fun k => match k with
  | 0 => .object "RoyaltyOffice$Tokens"
  | 1 => .object "RoyaltyOffice$Script"
  | _ => .object "RoyaltyOffice$Catalogue"
theorem nmX6 : ∀ a, a < 3 → ∀ b, b < 3 → a ≠ b → (TX6 a).2.1 ≠ (TX6 b).2.1 := by decide +kernel
theorem tyX6_ok : ∀ k, k < 3 → parseFieldDescriptor (TX6 k).2.2.1 = some (tyX6 k) := by decide +kernel
def TX7 : u_T := fun k => match k with
  | 0 => ("RoyaltyOffice$StatementReader", "tokens", "LRoyaltyOffice$Tokens;", true)
  | 1 => ("RoyaltyOffice$StatementReader", "shares", "LRoyaltyOffice$Table;", true)
  | 2 => ("RoyaltyOffice$StatementReader", "into", "LRoyaltyOffice$Office;", false)
  | _ => ("RoyaltyOffice$StatementReader", "catalogue", "LRoyaltyOffice$Catalogue;", false)
def tyX7 : Nat → FieldType := fun k => match k with
  | 0 => .object "RoyaltyOffice$Tokens"
  | 1 => .object "RoyaltyOffice$Table"
  | 2 => .object "RoyaltyOffice$Office"
  | _ => .object "RoyaltyOffice$Catalogue"
theorem nmX7 : ∀ a, a < 4 → ∀ b, b < 4 → a ≠ b → (TX7 a).2.1 ≠ (TX7 b).2.1 := by decide +kernel
theorem tyX7_ok : ∀ k, k < 4 → parseFieldDescriptor (TX7 k).2.2.1 = some (tyX7 k) := by decide +kernel
def TX8 : u_T := fun k => match k with
  | 0 => ("RoyaltyOffice$Table", "width", "I", true)
  | 1 => ("RoyaltyOffice$Table", "cells", "[I", true)
  | _ => ("RoyaltyOffice$Table", "rows", "I", false)
def tyX8 : Nat → FieldType := fun k => match k with
  | 0 => .int
  | 1 => .array .int
  | _ => .int
theorem nmX8 : ∀ a, a < 3 → ∀ b, b < 3 → a ≠ b → (TX8 a).2.1 ≠ (TX8 b).2.1 := by decide +kernel
theorem tyX8_ok : ∀ k, k < 3 → parseFieldDescriptor (TX8 k).2.2.1 = some (tyX8 k) := by decide +kernel
def TX9 : u_T := fun k => match k with
  | 0 => ("RoyaltyOffice$Tokens", "quoted", "[J", true)
  | 1 => ("RoyaltyOffice$Tokens", "kinds", "[I", true)
  | 2 => ("RoyaltyOffice$Tokens", "starts", "[I", true)
  | 3 => ("RoyaltyOffice$Tokens", "values", "[J", true)
  | 4 => ("RoyaltyOffice$Tokens", "size", "I", false)
  | 5 => ("RoyaltyOffice$Tokens", "place", "I", false)
  | 6 => ("RoyaltyOffice$Tokens", "code", "I", false)
  | 7 => ("RoyaltyOffice$Tokens", "position", "I", false)
  | _ => ("RoyaltyOffice$Tokens", "reason", "I", false)
def tyX9 : Nat → FieldType := fun k => match k with
  | 0 => .array .long
  | 1 => .array .int
  | 2 => .array .int
  | 3 => .array .long
  | 4 => .int
  | 5 => .int
  | 6 => .int
  | 7 => .int
  | _ => .int
theorem nmX9 : ∀ a, a < 9 → ∀ b, b < 9 → a ≠ b → (TX9 a).2.1 ≠ (TX9 b).2.1 := by decide +kernel
theorem tyX9_ok : ∀ k, k < 9 → parseFieldDescriptor (TX9 k).2.2.1 = some (tyX9 k) := by decide +kernel
def TX10 : u_T := fun k => match k with
  | 0 => ("RoyaltyOffice", "buffer", "[B", true)
  | 1 => ("RoyaltyOffice", "buffered", "I", false)
  | 2 => ("RoyaltyOffice", "tokens", "LRoyaltyOffice$Tokens;", true)
  | 3 => ("RoyaltyOffice", "statementReader", "LRoyaltyOffice$StatementReader;", true)
  | 4 => ("RoyaltyOffice", "scriptReader", "LRoyaltyOffice$ScriptReader;", true)
  | 5 => ("RoyaltyOffice", "script", "LRoyaltyOffice$Script;", true)
  | 6 => ("RoyaltyOffice", "division", "LRoyaltyOffice$Division;", true)
  | 7 => ("RoyaltyOffice", "written", "LRoyaltyOffice$Report;", true)
  | 8 => ("RoyaltyOffice", "history", "[LRoyaltyOffice$Office;", true)
  | 9 => ("RoyaltyOffice", "undoable", "I", false)
  | 10 => ("RoyaltyOffice", "saved", "LRoyaltyOffice$Office;", true)
  | 11 => ("RoyaltyOffice", "isSaved", "Z", false)
  | 12 => ("RoyaltyOffice", "spare", "LRoyaltyOffice$Office;", false)
  | _ => ("RoyaltyOffice", "office", "LRoyaltyOffice$Office;", false)
def tyX10 : Nat → FieldType := fun k => match k with
  | 0 => .array .byte
  | 1 => .int
  | 2 => .object "RoyaltyOffice$Tokens"
  | 3 => .object "RoyaltyOffice$StatementReader"
  | 4 => .object "RoyaltyOffice$ScriptReader"
  | 5 => .object "RoyaltyOffice$Script"
  | 6 => .object "RoyaltyOffice$Division"
  | 7 => .object "RoyaltyOffice$Report"
  | 8 => .array (.object "RoyaltyOffice$Office")
  | 9 => .int
  | 10 => .object "RoyaltyOffice$Office"
  | 11 => .boolean
  | 12 => .object "RoyaltyOffice$Office"
  | _ => .object "RoyaltyOffice$Office"
theorem nmX10 : ∀ a, a < 14 → ∀ b, b < 14 → a ≠ b → (TX10 a).2.1 ≠ (TX10 b).2.1 := by decide +kernel
theorem tyX10_ok : ∀ k, k < 14 → parseFieldDescriptor (TX10 k).2.2.1 = some (tyX10 k) := by decide +kernel
def TX11 : u_T := fun k => match k with
  | 0 => ("RoyaltyOfficeLaw$Work", "splits", "Ljava/util/List;", true)
  | _ => ("RoyaltyOfficeLaw$Work", "sources", "Ljava/util/List;", true)
def tyX11 : Nat → FieldType := fun k => match k with
  | 0 => .object "java/util/List"
  | _ => .object "java/util/List"
theorem nmX11 : ∀ a, a < 2 → ∀ b, b < 2 → a ≠ b → (TX11 a).2.1 ≠ (TX11 b).2.1 := by decide +kernel
theorem tyX11_ok : ∀ k, k < 2 → parseFieldDescriptor (TX11 k).2.2.1 = some (tyX11 k) := by decide +kernel
def TX12 : u_T := fun k => match k with
  | 0 => ("RoyaltyOfficeLaw$World", "payees", "I", false)
  | 1 => ("RoyaltyOfficeLaw$World", "day", "I", false)
  | 2 => ("RoyaltyOfficeLaw$World", "closed", "I", false)
  | 3 => ("RoyaltyOfficeLaw$World", "works", "Ljava/util/List;", false)
  | 4 => ("RoyaltyOfficeLaw$World", "assigns", "Ljava/util/List;", false)
  | 5 => ("RoyaltyOfficeLaw$World", "advances", "Ljava/util/List;", false)
  | 6 => ("RoyaltyOfficeLaw$World", "least", "[I", false)
  | 7 => ("RoyaltyOfficeLaw$World", "balance", "[J", false)
  | 8 => ("RoyaltyOfficeLaw$World", "came", "[J", false)
  | 9 => ("RoyaltyOfficeLaw$World", "total", "[[J", false)
  | 10 => ("RoyaltyOfficeLaw$World", "current", "[[J", false)
  | 11 => ("RoyaltyOfficeLaw$World", "earned", "[[J", false)
  | 12 => ("RoyaltyOfficeLaw$World", "statements", "Ljava/util/List;", false)
  | 13 => ("RoyaltyOfficeLaw$World", "lines", "Ljava/util/List;", false)
  | 14 => ("RoyaltyOfficeLaw$World", "text", "Ljava/lang/String;", false)
  | 15 => ("RoyaltyOfficeLaw$World", "told", "I", false)
  | 16 => ("RoyaltyOfficeLaw$World", "s", "[I", false)
  | _ => ("RoyaltyOfficeLaw$World", "at", "I", false)
def tyX12 : Nat → FieldType := fun k => match k with
  | 0 => .int
  | 1 => .int
  | 2 => .int
  | 3 => .object "java/util/List"
  | 4 => .object "java/util/List"
  | 5 => .object "java/util/List"
  | 6 => .array .int
  | 7 => .array .long
  | 8 => .array .long
  | 9 => .array (.array .long)
  | 10 => .array (.array .long)
  | 11 => .array (.array .long)
  | 12 => .object "java/util/List"
  | 13 => .object "java/util/List"
  | 14 => .object "java/lang/String"
  | 15 => .int
  | 16 => .array .int
  | _ => .int
theorem nmX12 : ∀ a, a < 18 → ∀ b, b < 18 → a ≠ b → (TX12 a).2.1 ≠ (TX12 b).2.1 := by decide +kernel
theorem tyX12_ok : ∀ k, k < 18 → parseFieldDescriptor (TX12 k).2.2.1 = some (tyX12 k) := by decide +kernel
def TJ4 : u_T := fun k => match k with
  | 0 => ("java/lang/AbstractStringBuilder", "value", "[B", false)
  | 1 => ("java/lang/AbstractStringBuilder", "coder", "B", false)
  | 2 => ("java/lang/AbstractStringBuilder", "maybeLatin1", "Z", false)
  | _ => ("java/lang/AbstractStringBuilder", "count", "I", false)
def tyJ4 : Nat → FieldType := fun k => match k with
  | 0 => .array .byte
  | 1 => .byte
  | 2 => .boolean
  | _ => .int
theorem nmJ4 : ∀ a, a < 4 → ∀ b, b < 4 → a ≠ b → (TJ4 a).2.1 ≠ (TJ4 b).2.1 := by decide +kernel
theorem tyJ4_ok : ∀ k, k < 4 → parseFieldDescriptor (TJ4 k).2.2.1 = some (tyJ4 k) := by decide +kernel
def TJ0 : u_T := fun k => match k with
  | 0 => ("java/lang/String", "value", "[B", true)
  | 1 => ("java/lang/String", "coder", "B", true)
  | 2 => ("java/lang/String", "hash", "I", false)
  | _ => ("java/lang/String", "hashIsZero", "Z", false)
def tyJ0 : Nat → FieldType := fun k => match k with
  | 0 => .array .byte
  | 1 => .byte
  | 2 => .int
  | _ => .boolean
theorem nmJ0 : ∀ a, a < 4 → ∀ b, b < 4 → a ≠ b → (TJ0 a).2.1 ≠ (TJ0 b).2.1 := by decide +kernel
theorem tyJ0_ok : ∀ k, k < 4 → parseFieldDescriptor (TJ0 k).2.2.1 = some (tyJ0 k) := by decide +kernel
def TJx4a65c : u_T := fun k => match k with
  | 0 => ("java/util/AbstractList", "modCount", "I", false)
  | 1 => ("java/util/ArrayList", "elementData", "[Ljava/lang/Object;", false)
  | _ => ("java/util/ArrayList", "size", "I", false)
def tyJx4a65c : Nat → FieldType := fun k => match k with
  | 0 => .int
  | 1 => .array (.object "java/lang/Object")
  | _ => .int
theorem nmJx4a65c : ∀ a, a < 3 → ∀ b, b < 3 → a ≠ b → (TJx4a65c a).2.1 ≠ (TJx4a65c b).2.1 := by decide +kernel
theorem tyJx4a65c_ok : ∀ k, k < 3 → parseFieldDescriptor (TJx4a65c k).2.2.1 = some (tyJx4a65c k) := by decide +kernel
def TJx35411 : u_T := fun k => match k with
  | 0 => ("java/util/ArrayList$Itr", "cursor", "I", false)
  | 1 => ("java/util/ArrayList$Itr", "lastRet", "I", false)
  | 2 => ("java/util/ArrayList$Itr", "expectedModCount", "I", false)
  | _ => ("java/util/ArrayList$Itr", "this$0", "Ljava/util/ArrayList;", true)
def tyJx35411 : Nat → FieldType := fun k => match k with
  | 0 => .int
  | 1 => .int
  | 2 => .int
  | _ => .object "java/util/ArrayList"
theorem nmJx35411 : ∀ a, a < 4 → ∀ b, b < 4 → a ≠ b → (TJx35411 a).2.1 ≠ (TJx35411 b).2.1 := by decide +kernel
theorem tyJx35411_ok : ∀ k, k < 4 → parseFieldDescriptor (TJx35411 k).2.2.1 = some (tyJx35411 k) := by decide +kernel
abbrev vwCl : List vw_C := [(RX0, TX0, 10), (RX1, TX1, 10), (RX2, TX2, 8), (RX3, TX3, 6), (RX4, TX4, 3), (RX5, TX5, 4), (RX6, TX6, 3), (RX7, TX7, 4), (RX8, TX8, 3), (RX9, TX9, 9), (RX10, TX10, 14), (RX11, TX11, 2), (RX12, TX12, 18), (RJ4, TJ4, 4), (RJ0, TJ0, 4), (RJx4a65c, TJx4a65c, 3), (RJx35411, TJx35411, 4)]
def am_cn : Nat → String := fun k => match k with
  | 0 => RX0
  | 1 => RX1
  | 2 => RX2
  | 3 => RX3
  | 4 => RX4
  | 5 => RX5
  | 6 => RX6
  | 7 => RX7
  | 8 => RX8
  | 9 => RX9
  | 10 => RX10
  | 11 => RX11
  | 12 => RX12
  | 13 => RJ4
  | 14 => RJ0
  | 15 => RJx4a65c
  | 16 => RJx35411
  | 17 => RL
  | 18 => RJ7
  | 19 => RJ1
  | 20 => RJ3
  | 21 => RJ5
  | 22 => RJ6
  | 23 => RJ8
  | 24 => RJ15
  | 25 => RJxc12de
  | _ => RJxa1e45
