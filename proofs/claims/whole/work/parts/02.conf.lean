/-! ===== this claim's classes, array types, words ===== -/
def kR_V : String := "VersionedTables"
def kF_V : u_T := fun k => match k with
  | 0 => ("VersionedTables", "tables", "[LVersionedTables$Table;", true)
  | 1 => ("VersionedTables", "transactions", "LVersionedTables$Transactions;", true)
  | 2 => ("VersionedTables", "line", "[I", true)
  | 3 => ("VersionedTables", "lineLength", "I", false)
  | 4 => ("VersionedTables", "refusedAt", "I", false)
  | 5 => ("VersionedTables", "condition", "LVersionedTables$Program;", false)
  | 6 => ("VersionedTables", "settings", "[LVersionedTables$Program;", true)
  | 7 => ("VersionedTables", "found", "LVersionedTables$RowSet;", false)
  | 8 => ("VersionedTables", "chosen", "LVersionedTables$RowSet;", false)
  | _ => ("VersionedTables", "oldValues", "[I", true)
def kT_V : Nat → FieldType := fun k => match k with
  | 0 => (.array (.object "VersionedTables$Table"))
  | 1 => (.object "VersionedTables$Transactions")
  | 2 => (.array .int)
  | 3 => .int
  | 4 => .int
  | 5 => (.object "VersionedTables$Program")
  | 6 => (.array (.object "VersionedTables$Program"))
  | 7 => (.object "VersionedTables$RowSet")
  | 8 => (.object "VersionedTables$RowSet")
  | _ => (.array .int)
def kR_T : String := "VersionedTables$Transactions"
def kF_T : u_T := fun k => match k with
  | 0 => ("VersionedTables$Transactions", "states", "[LVersionedTables$State;", true)
  | 1 => ("VersionedTables$Transactions", "begun", "I", false)
  | _ => ("VersionedTables$Transactions", "brokenTooLate", "I", false)
def kT_T : Nat → FieldType := fun k => match k with
  | 0 => (.array (.object "VersionedTables$State"))
  | 1 => .int
  | _ => .int
def kR_P : String := "VersionedTables$Program"
def kF_P : u_T := fun k => match k with
  | 0 => ("VersionedTables$Program", "steps", "[I", true)
  | 1 => ("VersionedTables$Program", "stack", "[I", true)
  | 2 => ("VersionedTables$Program", "size", "I", false)
  | _ => ("VersionedTables$Program", "height", "I", false)
def kT_P : Nat → FieldType := fun k => match k with
  | 0 => (.array .int)
  | 1 => (.array .int)
  | 2 => .int
  | _ => .int
def kR_S : String := "VersionedTables$RowSet"
def kF_S : u_T := fun k => match k with
  | 0 => ("VersionedTables$RowSet", "numbers", "[I", true)
  | 1 => ("VersionedTables$RowSet", "values", "[[I", true)
  | _ => ("VersionedTables$RowSet", "size", "I", false)
def kT_S : Nat → FieldType := fun k => match k with
  | 0 => (.array .int)
  | 1 => (.array (.array .int))
  | _ => .int
def kR_B : String := "VersionedTables$Table"
def kF_B : u_T := fun k => match k with
  | 0 => ("VersionedTables$Table", "columns", "I", true)
  | 1 => ("VersionedTables$Table", "rows", "[LVersionedTables$Row;", true)
  | 2 => ("VersionedTables$Table", "made", "I", false)
  | _ => ("VersionedTables$Table", "scanned", "I", false)
def kT_B : Nat → FieldType := fun k => match k with
  | 0 => .int
  | 1 => (.array (.object "VersionedTables$Row"))
  | 2 => .int
  | _ => .int
def kR_R : String := "VersionedTables$Row"
def kF_R : u_T := fun k => match k with
  | _ => ("VersionedTables$Row", "byWriter", "[LVersionedTables$Version;", true)
def kT_R : Nat → FieldType := fun k => match k with
  | _ => (.array (.object "VersionedTables$Version"))
def kR_Q : String := "VersionedTables$Parser"
def kF_Q : u_T := fun k => match k with
  | 0 => ("VersionedTables$Parser", "text", "[I", true)
  | 1 => ("VersionedTables$Parser", "length", "I", true)
  | 2 => ("VersionedTables$Parser", "program", "LVersionedTables$Program;", true)
  | 3 => ("VersionedTables$Parser", "at", "I", false)
  | _ => ("VersionedTables$Parser", "column", "I", false)
def kT_Q : Nat → FieldType := fun k => match k with
  | 0 => (.array .int)
  | 1 => .int
  | 2 => (.object "VersionedTables$Program")
  | 3 => .int
  | _ => .int
def kR_N : String := "VersionedTables$Version"
def kF_N : u_T := fun k => match k with
  | 0 => ("VersionedTables$Version", "writer", "I", true)
  | 1 => ("VersionedTables$Version", "values", "[I", true)
  | 2 => ("VersionedTables$Version", "read", "I", false)
  | _ => ("VersionedTables$Version", "gone", "Z", false)
def kT_N : Nat → FieldType := fun k => match k with
  | 0 => .int
  | 1 => (.array .int)
  | 2 => .int
  | _ => .boolean
def kR_M : String := "VersionedTablesModel"
def kF_M : u_T := fun k => match k with
  | 0 => ("VersionedTablesModel", "thrown", "I", false)
  | 1 => ("VersionedTablesModel", "columns", "[I", true)
  | 2 => ("VersionedTablesModel", "rows", "[I", true)
  | 3 => ("VersionedTablesModel", "scanned", "[I", true)
  | 4 => ("VersionedTablesModel", "version", "[I", true)
  | 5 => ("VersionedTablesModel", "values", "[I", true)
  | 6 => ("VersionedTablesModel", "state", "[I", true)
  | 7 => ("VersionedTablesModel", "begun", "I", false)
  | 8 => ("VersionedTablesModel", "late", "I", false)
  | 9 => ("VersionedTablesModel", "line", "[I", true)
  | 10 => ("VersionedTablesModel", "length", "I", false)
  | 11 => ("VersionedTablesModel", "errorAt", "I", false)
  | 12 => ("VersionedTablesModel", "items", "[I", true)
  | 13 => ("VersionedTablesModel", "sizes", "[I", true)
  | 14 => ("VersionedTablesModel", "isSet", "[Z", true)
  | 15 => ("VersionedTablesModel", "opens", "[I", true)
  | 16 => ("VersionedTablesModel", "stack", "[I", true)
  | 17 => ("VersionedTablesModel", "open", "I", false)
  | 18 => ("VersionedTablesModel", "at", "I", false)
  | 19 => ("VersionedTablesModel", "made", "I", false)
  | 20 => ("VersionedTablesModel", "signs", "I", false)
  | 21 => ("VersionedTablesModel", "waiting", "[I", true)
  | 22 => ("VersionedTablesModel", "divided", "Z", false)
  | 23 => ("VersionedTablesModel", "resultRow", "[I", true)
  | 24 => ("VersionedTablesModel", "resultValues", "[I", true)
  | 25 => ("VersionedTablesModel", "results", "I", false)
  | 26 => ("VersionedTablesModel", "holds", "[I", true)
  | 27 => ("VersionedTablesModel", "news", "[I", true)
  | _ => ("VersionedTablesModel", "matches", "[Z", true)
def kT_M : Nat → FieldType := fun k => match k with
  | 0 => .int
  | 1 => (.array .int)
  | 2 => (.array .int)
  | 3 => (.array .int)
  | 4 => (.array .int)
  | 5 => (.array .int)
  | 6 => (.array .int)
  | 7 => .int
  | 8 => .int
  | 9 => (.array .int)
  | 10 => .int
  | 11 => .int
  | 12 => (.array .int)
  | 13 => (.array .int)
  | 14 => (.array .boolean)
  | 15 => (.array .int)
  | 16 => (.array .int)
  | 17 => .int
  | 18 => .int
  | 19 => .int
  | 20 => .int
  | 21 => (.array .int)
  | 22 => .boolean
  | 23 => (.array .int)
  | 24 => (.array .int)
  | 25 => .int
  | 26 => (.array .int)
  | 27 => (.array .int)
  | _ => (.array .boolean)
def kF_E : u_T := fun _ => ("", "", "", false)
abbrev kx_cl : List vw_C := [(kR_V, kF_V, 10), (kR_T, kF_T, 3), (kR_P, kF_P, 4), (kR_S, kF_S, 3), (kR_B, kF_B, 4), (kR_R, kF_R, 1), (kR_Q, kF_Q, 5), (kR_N, kF_N, 4), (kR_M, kF_M, 29), ("java/lang/IllegalArgumentException", kF_E, 0), ("java/lang/IllegalStateException", kF_E, 0), ("java/util/NoSuchElementException", kF_E, 0), ("java/lang/UnsupportedOperationException", kF_E, 0), ("java/lang/ArithmeticException", kF_E, 0), ("java/lang/IndexOutOfBoundsException", kF_E, 0)]
abbrev kx_at : List FieldType := [.int, (.object "VersionedTables$Table"), (.object "VersionedTables$State"), (.object "VersionedTables$Program"), (.object "VersionedTables$Row"), (.object "VersionedTables$Version"), (.array .int), .boolean, .long, .double]
def kx_nc : List Cond := [.not (.castable "java/lang/IllegalStateException" "java/lang/IllegalArgumentException"), .not (.castable "java/util/NoSuchElementException" "java/lang/IllegalArgumentException"), .not (.castable "java/lang/UnsupportedOperationException" "java/lang/IllegalArgumentException"), .not (.castable "java/lang/ArithmeticException" "java/lang/IllegalArgumentException"), .not (.castable "java/lang/IndexOutOfBoundsException" "java/lang/IllegalArgumentException"), .not (.castable "java/lang/IllegalArgumentException" "java/lang/IllegalStateException"), .not (.castable "java/util/NoSuchElementException" "java/lang/IllegalStateException"), .not (.castable "java/lang/UnsupportedOperationException" "java/lang/IllegalStateException"), .not (.castable "java/lang/ArithmeticException" "java/lang/IllegalStateException"), .not (.castable "java/lang/IndexOutOfBoundsException" "java/lang/IllegalStateException"), .not (.castable "java/lang/IllegalArgumentException" "java/util/NoSuchElementException"), .not (.castable "java/lang/IllegalStateException" "java/util/NoSuchElementException"), .not (.castable "java/lang/UnsupportedOperationException" "java/util/NoSuchElementException"), .not (.castable "java/lang/ArithmeticException" "java/util/NoSuchElementException"), .not (.castable "java/lang/IndexOutOfBoundsException" "java/util/NoSuchElementException"), .not (.castable "java/lang/IllegalArgumentException" "java/lang/UnsupportedOperationException"), .not (.castable "java/lang/IllegalStateException" "java/lang/UnsupportedOperationException"), .not (.castable "java/util/NoSuchElementException" "java/lang/UnsupportedOperationException"), .not (.castable "java/lang/ArithmeticException" "java/lang/UnsupportedOperationException"), .not (.castable "java/lang/IndexOutOfBoundsException" "java/lang/UnsupportedOperationException"), .not (.castable "java/lang/IllegalArgumentException" "java/lang/ArithmeticException"), .not (.castable "java/lang/IllegalStateException" "java/lang/ArithmeticException"), .not (.castable "java/util/NoSuchElementException" "java/lang/ArithmeticException"), .not (.castable "java/lang/UnsupportedOperationException" "java/lang/ArithmeticException"), .not (.castable "java/lang/IndexOutOfBoundsException" "java/lang/ArithmeticException"), .not (.castable "java/lang/IllegalArgumentException" "java/lang/IndexOutOfBoundsException"), .not (.castable "java/lang/IllegalStateException" "java/lang/IndexOutOfBoundsException"), .not (.castable "java/util/NoSuchElementException" "java/lang/IndexOutOfBoundsException"), .not (.castable "java/lang/UnsupportedOperationException" "java/lang/IndexOutOfBoundsException"), .not (.castable "java/lang/ArithmeticException" "java/lang/IndexOutOfBoundsException")]
def kx_tb : List Cond := lw_tbl ++ kx_nc
