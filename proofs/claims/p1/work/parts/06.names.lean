/-! names: the classes, their fields in an order of our own, the words that all methods share -/
def R_PS : String := "PatchStore"
def F_PS : u_T := fun k => match k with
  | 0 => ("PatchStore", "tape", "[B", true)
  | 1 => ("PatchStore", "repositories", "[LPatchStore$Repository;", true)
  | 2 => ("PatchStore", "sha", "LPatchStore$Sha256;", true)
  | 3 => ("PatchStore", "stock", "LPatchStore$Stock;", true)
  | 4 => ("PatchStore", "intake", "LPatchStore$Intake;", true)
  | 5 => ("PatchStore", "view", "LPatchStore$View;", true)
  | 6 => ("PatchStore", "text", "LPatchStore$Text;", true)
  | 7 => ("PatchStore", "maker", "LPatchStore$Maker;", true)
  | 8 => ("PatchStore", "recording", "LPatchStore$Recording;", true)
  | 9 => ("PatchStore", "tapeLength", "I", false)
  | _ => ("PatchStore", "lastFault", "I", false)
def t_PS : Nat → FieldType := fun k => match k with
  | 0 => .array .byte
  | 1 => .array (.object "PatchStore$Repository")
  | 2 => .object "PatchStore$Sha256"
  | 3 => .object "PatchStore$Stock"
  | 4 => .object "PatchStore$Intake"
  | 5 => .object "PatchStore$View"
  | 6 => .object "PatchStore$Text"
  | 7 => .object "PatchStore$Maker"
  | 8 => .object "PatchStore$Recording"
  | 9 => .int
  | _ => .int
abbrev w_PS : List Cond := u_ws R_PS F_PS 11
theorem n_PS : ∀ a, a < 11 → ∀ b, b < 11 → a ≠ b → (F_PS a).2.1 ≠ (F_PS b).2.1 := by decide +kernel
theorem t_PS_ok : ∀ k, k < 11 → parseFieldDescriptor (F_PS k).2.2.1 = some (t_PS k) := by decide +kernel
def R_Ch : String := "PatchStore$Changes"
def F_Ch : u_T := fun k => match k with
  | 0 => ("PatchStore$Changes", "at", "[I", true)
  | 1 => ("PatchStore$Changes", "patch", "[I", true)
  | 2 => ("PatchStore$Changes", "file", "[I", true)
  | 3 => ("PatchStore$Changes", "firstLine", "[I", true)
  | 4 => ("PatchStore$Changes", "adds", "[I", true)
  | _ => ("PatchStore$Changes", "files", "I", false)
def t_Ch : Nat → FieldType := fun k => match k with
  | 0 => .array .int
  | 1 => .array .int
  | 2 => .array .int
  | 3 => .array .int
  | 4 => .array .int
  | _ => .int
abbrev w_Ch : List Cond := u_ws R_Ch F_Ch 6
theorem n_Ch : ∀ a, a < 6 → ∀ b, b < 6 → a ≠ b → (F_Ch a).2.1 ≠ (F_Ch b).2.1 := by decide +kernel
theorem t_Ch_ok : ∀ k, k < 6 → parseFieldDescriptor (F_Ch k).2.2.1 = some (t_Ch k) := by decide +kernel
def R_Fo : String := "PatchStore$Form"
def F_Fo : u_T := fun k => match k with
  | _ => ("PatchStore$Form", "stock", "LPatchStore$Stock;", true)
def t_Fo : Nat → FieldType := fun k => match k with
  | _ => .object "PatchStore$Stock"
abbrev w_Fo : List Cond := u_ws R_Fo F_Fo 1
theorem n_Fo : ∀ a, a < 1 → ∀ b, b < 1 → a ≠ b → (F_Fo a).2.1 ≠ (F_Fo b).2.1 := by decide +kernel
theorem t_Fo_ok : ∀ k, k < 1 → parseFieldDescriptor (F_Fo k).2.2.1 = some (t_Fo k) := by decide +kernel
def R_In : String := "PatchStore$Intake"
def F_In : u_T := fun k => match k with
  | 0 => ("PatchStore$Intake", "stock", "LPatchStore$Stock;", true)
  | 1 => ("PatchStore$Intake", "changes", "LPatchStore$Changes;", true)
  | 2 => ("PatchStore$Intake", "lines", "LPatchStore$Lines;", true)
  | 3 => ("PatchStore$Intake", "sha", "LPatchStore$Sha256;", true)
  | 4 => ("PatchStore$Intake", "form", "LPatchStore$Form;", true)
  | 5 => ("PatchStore$Intake", "named", "[I", true)
  | 6 => ("PatchStore$Intake", "linesOfFile", "[I", true)
  | 7 => ("PatchStore$Intake", "nextFile", "I", false)
  | _ => ("PatchStore$Intake", "nextLine", "I", false)
def t_In : Nat → FieldType := fun k => match k with
  | 0 => .object "PatchStore$Stock"
  | 1 => .object "PatchStore$Changes"
  | 2 => .object "PatchStore$Lines"
  | 3 => .object "PatchStore$Sha256"
  | 4 => .object "PatchStore$Form"
  | 5 => .array .int
  | 6 => .array .int
  | 7 => .int
  | _ => .int
abbrev w_In : List Cond := u_ws R_In F_In 9
theorem n_In : ∀ a, a < 9 → ∀ b, b < 9 → a ≠ b → (F_In a).2.1 ≠ (F_In b).2.1 := by decide +kernel
theorem t_In_ok : ∀ k, k < 9 → parseFieldDescriptor (F_In k).2.2.1 = some (t_In k) := by decide +kernel
def R_Li : String := "PatchStore$Lines"
def F_Li : u_T := fun k => match k with
  | 0 => ("PatchStore$Lines", "at", "[I", true)
  | 1 => ("PatchStore$Lines", "length", "[I", true)
  | 2 => ("PatchStore$Lines", "change", "[I", true)
  | 3 => ("PatchStore$Lines", "place", "[I", true)
  | 4 => ("PatchStore$Lines", "up", "[I", true)
  | 5 => ("PatchStore$Lines", "down", "[I", true)
  | 6 => ("PatchStore$Lines", "ofFile", "[I", true)
  | _ => ("PatchStore$Lines", "total", "I", false)
def t_Li : Nat → FieldType := fun k => match k with
  | 0 => .array .int
  | 1 => .array .int
  | 2 => .array .int
  | 3 => .array .int
  | 4 => .array .int
  | 5 => .array .int
  | 6 => .array .int
  | _ => .int
abbrev w_Li : List Cond := u_ws R_Li F_Li 8
theorem n_Li : ∀ a, a < 8 → ∀ b, b < 8 → a ≠ b → (F_Li a).2.1 ≠ (F_Li b).2.1 := by decide +kernel
theorem t_Li_ok : ∀ k, k < 8 → parseFieldDescriptor (F_Li k).2.2.1 = some (t_Li k) := by decide +kernel
def R_Mk : String := "PatchStore$Maker"
def F_Mk : u_T := fun k => match k with
  | 0 => ("PatchStore$Maker", "stock", "LPatchStore$Stock;", true)
  | 1 => ("PatchStore$Maker", "named", "[I", true)
  | 2 => ("PatchStore$Maker", "places", "[I", true)
  | 3 => ("PatchStore$Maker", "at", "I", false)
  | _ => ("PatchStore$Maker", "changes", "I", false)
def t_Mk : Nat → FieldType := fun k => match k with
  | 0 => .object "PatchStore$Stock"
  | 1 => .array .int
  | 2 => .array .int
  | 3 => .int
  | _ => .int
abbrev w_Mk : List Cond := u_ws R_Mk F_Mk 5
theorem n_Mk : ∀ a, a < 5 → ∀ b, b < 5 → a ≠ b → (F_Mk a).2.1 ≠ (F_Mk b).2.1 := by decide +kernel
theorem t_Mk_ok : ∀ k, k < 5 → parseFieldDescriptor (F_Mk k).2.2.1 = some (t_Mk k) := by decide +kernel
def R_Rc : String := "PatchStore$Recording"
def F_Rc : u_T := fun k => match k with
  | 0 => ("PatchStore$Recording", "newTotal", "I", false)
  | 1 => ("PatchStore$Recording", "stock", "LPatchStore$Stock;", true)
  | 2 => ("PatchStore$Recording", "text", "LPatchStore$Text;", true)
  | 3 => ("PatchStore$Recording", "maker", "LPatchStore$Maker;", true)
  | 4 => ("PatchStore$Recording", "tape", "[B", true)
  | 5 => ("PatchStore$Recording", "oldTotal", "I", false)
  | 6 => ("PatchStore$Recording", "file", "I", false)
  | 7 => ("PatchStore$Recording", "newAt", "[I", true)
  | 8 => ("PatchStore$Recording", "newLength", "[I", true)
  | 9 => ("PatchStore$Recording", "sorts", "[I", true)
  | 10 => ("PatchStore$Recording", "sums", "[I", true)
  | 11 => ("PatchStore$Recording", "common", "[I", true)
  | 12 => ("PatchStore$Recording", "deleted", "[I", true)
  | 13 => ("PatchStore$Recording", "deletedTotal", "I", false)
  | 14 => ("PatchStore$Recording", "kept", "[I", true)
  | 15 => ("PatchStore$Recording", "keptNew", "[I", true)
  | _ => ("PatchStore$Recording", "keptTotal", "I", false)
def t_Rc : Nat → FieldType := fun k => match k with
  | 0 => .int
  | 1 => .object "PatchStore$Stock"
  | 2 => .object "PatchStore$Text"
  | 3 => .object "PatchStore$Maker"
  | 4 => .array .byte
  | 5 => .int
  | 6 => .int
  | 7 => .array .int
  | 8 => .array .int
  | 9 => .array .int
  | 10 => .array .int
  | 11 => .array .int
  | 12 => .array .int
  | 13 => .int
  | 14 => .array .int
  | 15 => .array .int
  | _ => .int
abbrev w_Rc : List Cond := u_ws R_Rc F_Rc 17
theorem n_Rc : ∀ a, a < 17 → ∀ b, b < 17 → a ≠ b → (F_Rc a).2.1 ≠ (F_Rc b).2.1 := by decide +kernel
theorem t_Rc_ok : ∀ k, k < 17 → parseFieldDescriptor (F_Rc k).2.2.1 = some (t_Rc k) := by decide +kernel
def R_Re : String := "PatchStore$Repository"
def F_Re : u_T := fun k => match k with
  | 0 => ("PatchStore$Repository", "members", "[J", true)
  | 1 => ("PatchStore$Repository", "digest", "[B", true)
  | 2 => ("PatchStore$Repository", "size", "I", false)
  | 3 => ("PatchStore$Repository", "version", "I", false)
  | _ => ("PatchStore$Repository", "digestVersion", "I", false)
def t_Re : Nat → FieldType := fun k => match k with
  | 0 => .array .long
  | 1 => .array .byte
  | 2 => .int
  | 3 => .int
  | _ => .int
abbrev w_Re : List Cond := u_ws R_Re F_Re 5
theorem n_Re : ∀ a, a < 5 → ∀ b, b < 5 → a ≠ b → (F_Re a).2.1 ≠ (F_Re b).2.1 := by decide +kernel
theorem t_Re_ok : ∀ k, k < 5 → parseFieldDescriptor (F_Re k).2.2.1 = some (t_Re k) := by decide +kernel
def R_Sh : String := "PatchStore$Sha256"
def F_Sh : u_T := fun k => match k with
  | 0 => ("PatchStore$Sha256", "sums", "[I", true)
  | 1 => ("PatchStore$Sha256", "words", "[I", true)
  | 2 => ("PatchStore$Sha256", "block", "[B", true)
  | 3 => ("PatchStore$Sha256", "filled", "I", false)
  | _ => ("PatchStore$Sha256", "taken", "I", false)
def t_Sh : Nat → FieldType := fun k => match k with
  | 0 => .array .int
  | 1 => .array .int
  | 2 => .array .byte
  | 3 => .int
  | _ => .int
abbrev w_Sh : List Cond := u_ws R_Sh F_Sh 5
theorem n_Sh : ∀ a, a < 5 → ∀ b, b < 5 → a ≠ b → (F_Sh a).2.1 ≠ (F_Sh b).2.1 := by decide +kernel
theorem t_Sh_ok : ∀ k, k < 5 → parseFieldDescriptor (F_Sh k).2.2.1 = some (t_Sh k) := by decide +kernel
def R_St : String := "PatchStore$Stock"
def F_St : u_T := fun k => match k with
  | 0 => ("PatchStore$Stock", "bytes", "[B", true)
  | 1 => ("PatchStore$Stock", "from", "[I", true)
  | 2 => ("PatchStore$Stock", "firstDependency", "[I", true)
  | 3 => ("PatchStore$Stock", "firstChange", "[I", true)
  | 4 => ("PatchStore$Stock", "dependencies", "[I", true)
  | 5 => ("PatchStore$Stock", "hashes", "[B", true)
  | 6 => ("PatchStore$Stock", "byHash", "[I", true)
  | 7 => ("PatchStore$Stock", "leansOn", "[J", true)
  | 8 => ("PatchStore$Stock", "leantBy", "[J", true)
  | 9 => ("PatchStore$Stock", "changes", "LPatchStore$Changes;", true)
  | 10 => ("PatchStore$Stock", "lines", "LPatchStore$Lines;", true)
  | _ => ("PatchStore$Stock", "patches", "I", false)
def t_St : Nat → FieldType := fun k => match k with
  | 0 => .array .byte
  | 1 => .array .int
  | 2 => .array .int
  | 3 => .array .int
  | 4 => .array .int
  | 5 => .array .byte
  | 6 => .array .int
  | 7 => .array .long
  | 8 => .array .long
  | 9 => .object "PatchStore$Changes"
  | 10 => .object "PatchStore$Lines"
  | _ => .int
abbrev w_St : List Cond := u_ws R_St F_St 12
theorem n_St : ∀ a, a < 12 → ∀ b, b < 12 → a ≠ b → (F_St a).2.1 ≠ (F_St b).2.1 := by decide +kernel
theorem t_St_ok : ∀ k, k < 12 → parseFieldDescriptor (F_St k).2.2.1 = some (t_St k) := by decide +kernel
def R_Tx : String := "PatchStore$Text"
def F_Tx : u_T := fun k => match k with
  | 0 => ("PatchStore$Text", "order", "[I", true)
  | 1 => ("PatchStore$Text", "length", "I", false)
  | 2 => ("PatchStore$Text", "size", "I", false)
  | 3 => ("PatchStore$Text", "unsure", "I", false)
  | 4 => ("PatchStore$Text", "stranded", "I", false)
  | 5 => ("PatchStore$Text", "dead", "I", false)
  | 6 => ("PatchStore$Text", "stock", "LPatchStore$Stock;", true)
  | 7 => ("PatchStore$Text", "changes", "LPatchStore$Changes;", true)
  | 8 => ("PatchStore$Text", "lines", "LPatchStore$Lines;", true)
  | 9 => ("PatchStore$Text", "loaded", "LPatchStore$Repository;", false)
  | 10 => ("PatchStore$Text", "version", "I", false)
  | 11 => ("PatchStore$Text", "loadedFile", "I", false)
  | 12 => ("PatchStore$Text", "rows", "[I", true)
  | 13 => ("PatchStore$Text", "slots", "[I", true)
  | 14 => ("PatchStore$Text", "total", "I", false)
  | 15 => ("PatchStore$Text", "reach", "[J", true)
  | 16 => ("PatchStore$Text", "deleters", "[J", true)
  | 17 => ("PatchStore$Text", "gone", "[I", true)
  | _ => ("PatchStore$Text", "waits", "[I", true)
def t_Tx : Nat → FieldType := fun k => match k with
  | 0 => .array .int
  | 1 => .int
  | 2 => .int
  | 3 => .int
  | 4 => .int
  | 5 => .int
  | 6 => .object "PatchStore$Stock"
  | 7 => .object "PatchStore$Changes"
  | 8 => .object "PatchStore$Lines"
  | 9 => .object "PatchStore$Repository"
  | 10 => .int
  | 11 => .int
  | 12 => .array .int
  | 13 => .array .int
  | 14 => .int
  | 15 => .array .long
  | 16 => .array .long
  | 17 => .array .int
  | _ => .array .int
abbrev w_Tx : List Cond := u_ws R_Tx F_Tx 19
theorem n_Tx : ∀ a, a < 19 → ∀ b, b < 19 → a ≠ b → (F_Tx a).2.1 ≠ (F_Tx b).2.1 := by decide +kernel
theorem t_Tx_ok : ∀ k, k < 19 → parseFieldDescriptor (F_Tx k).2.2.1 = some (t_Tx k) := by decide +kernel
def R_Vw : String := "PatchStore$View"
def F_Vw : u_T := fun k => match k with
  | 0 => ("PatchStore$View", "files", "[I", true)
  | 1 => ("PatchStore$View", "namingsOf", "[I", true)
  | 2 => ("PatchStore$View", "namings", "[I", true)
  | 3 => ("PatchStore$View", "fileTotal", "I", false)
  | 4 => ("PatchStore$View", "namingTotal", "I", false)
  | 5 => ("PatchStore$View", "stock", "LPatchStore$Stock;", true)
  | 6 => ("PatchStore$View", "changes", "LPatchStore$Changes;", true)
  | 7 => ("PatchStore$View", "loaded", "LPatchStore$Repository;", false)
  | 8 => ("PatchStore$View", "version", "I", false)
  | 9 => ("PatchStore$View", "over", "[I", true)
  | 10 => ("PatchStore$View", "round", "I", false)
  | 11 => ("PatchStore$View", "heads", "[I", true)
  | 12 => ("PatchStore$View", "nexts", "[I", true)
  | _ => ("PatchStore$View", "sharing", "[I", true)
def t_Vw : Nat → FieldType := fun k => match k with
  | 0 => .array .int
  | 1 => .array .int
  | 2 => .array .int
  | 3 => .int
  | 4 => .int
  | 5 => .object "PatchStore$Stock"
  | 6 => .object "PatchStore$Changes"
  | 7 => .object "PatchStore$Repository"
  | 8 => .int
  | 9 => .array .int
  | 10 => .int
  | 11 => .array .int
  | 12 => .array .int
  | _ => .array .int
abbrev w_Vw : List Cond := u_ws R_Vw F_Vw 14
theorem n_Vw : ∀ a, a < 14 → ∀ b, b < 14 → a ≠ b → (F_Vw a).2.1 ≠ (F_Vw b).2.1 := by decide +kernel
theorem t_Vw_ok : ∀ k, k < 14 → parseFieldDescriptor (F_Vw k).2.2.1 = some (t_Vw k) := by decide +kernel
def R_Md : String := "PatchStoreModel"
def F_Md : u_T := fun k => match k with
  | 0 => ("PatchStoreModel", "tape", "[B", true)
  | 1 => ("PatchStoreModel", "size", "I", false)
  | 2 => ("PatchStoreModel", "thrown", "I", false)
  | 3 => ("PatchStoreModel", "fault", "I", false)
  | 4 => ("PatchStoreModel", "bytes", "[B", true)
  | 5 => ("PatchStoreModel", "used", "I", false)
  | 6 => ("PatchStoreModel", "at", "[I", true)
  | 7 => ("PatchStoreModel", "length", "[I", true)
  | 8 => ("PatchStoreModel", "depAt", "[I", true)
  | 9 => ("PatchStoreModel", "firstChange", "[I", true)
  | 10 => ("PatchStoreModel", "hashes", "[[B", true)
  | 11 => ("PatchStoreModel", "deps", "[I", true)
  | 12 => ("PatchStoreModel", "patches", "I", false)
  | 13 => ("PatchStoreModel", "sort", "[I", true)
  | 14 => ("PatchStoreModel", "of", "[I", true)
  | 15 => ("PatchStoreModel", "fileOf", "[I", true)
  | 16 => ("PatchStoreModel", "one", "[I", true)
  | 17 => ("PatchStoreModel", "two", "[I", true)
  | 18 => ("PatchStoreModel", "nameAt", "[I", true)
  | 19 => ("PatchStoreModel", "nameSize", "[I", true)
  | 20 => ("PatchStoreModel", "overAt", "[I", true)
  | 21 => ("PatchStoreModel", "overCount", "[I", true)
  | 22 => ("PatchStoreModel", "lineAt", "[I", true)
  | 23 => ("PatchStoreModel", "lineCount", "[I", true)
  | 24 => ("PatchStoreModel", "changes", "I", false)
  | 25 => ("PatchStoreModel", "overs", "[I", true)
  | 26 => ("PatchStoreModel", "overTotal", "I", false)
  | 27 => ("PatchStoreModel", "lineChange", "[I", true)
  | 28 => ("PatchStoreModel", "textAt", "[I", true)
  | 29 => ("PatchStoreModel", "textSize", "[I", true)
  | 30 => ("PatchStoreModel", "lines", "I", false)
  | 31 => ("PatchStoreModel", "fileChange", "[I", true)
  | 32 => ("PatchStoreModel", "fileLines", "[I", true)
  | 33 => ("PatchStoreModel", "files", "I", false)
  | 34 => ("PatchStoreModel", "sets", "[[Z", true)
  | 35 => ("PatchStoreModel", "stamp", "I", false)
  | 36 => ("PatchStoreModel", "digest", "LPatchStoreModel$Sha256;", true)
  | 37 => ("PatchStoreModel", "in", "[B", false)
  | 38 => ("PatchStoreModel", "pos", "I", false)
  | 39 => ("PatchStoreModel", "stop", "I", false)
  | 40 => ("PatchStoreModel", "wrong", "Z", false)
  | 41 => ("PatchStoreModel", "dep", "[I", true)
  | 42 => ("PatchStoreModel", "named", "[Z", true)
  | 43 => ("PatchStoreModel", "depCount", "I", false)
  | 44 => ("PatchStoreModel", "own", "I", false)
  | 45 => ("PatchStoreModel", "refFile", "I", false)
  | 46 => ("PatchStoreModel", "full", "Z", false)
  | 47 => ("PatchStoreModel", "h", "[B", true)
  | 48 => ("PatchStoreModel", "counts", "[I", true)
  | 49 => ("PatchStoreModel", "marked", "[Z", true)
  | 50 => ("PatchStoreModel", "namings", "[I", true)
  | 51 => ("PatchStoreModel", "namingCount", "I", false)
  | 52 => ("PatchStoreModel", "listed", "[[I", true)
  | 53 => ("PatchStoreModel", "listedCount", "[I", true)
  | 54 => ("PatchStoreModel", "listedStamp", "[I", true)
  | 55 => ("PatchStoreModel", "member", "[I", true)
  | 56 => ("PatchStoreModel", "text", "[I", true)
  | 57 => ("PatchStoreModel", "place", "[I", true)
  | 58 => ("PatchStoreModel", "dead", "[Z", true)
  | 59 => ("PatchStoreModel", "edge", "[[Z", true)
  | 60 => ("PatchStoreModel", "way", "[[Z", true)
  | 61 => ("PatchStoreModel", "members", "I", false)
  | 62 => ("PatchStoreModel", "textLines", "I", false)
  | 63 => ("PatchStoreModel", "unsure", "I", false)
  | 64 => ("PatchStoreModel", "workedRepository", "I", false)
  | 65 => ("PatchStoreModel", "workedFile", "I", false)
  | 66 => ("PatchStoreModel", "workedStamp", "I", false)
  | 67 => ("PatchStoreModel", "stack", "[I", true)
  | 68 => ("PatchStoreModel", "before", "[I", true)
  | 69 => ("PatchStoreModel", "left", "[Z", true)
  | 70 => ("PatchStoreModel", "made", "[B", true)
  | 71 => ("PatchStoreModel", "madeSize", "I", false)
  | 72 => ("PatchStoreModel", "need", "[I", true)
  | 73 => ("PatchStoreModel", "needs", "I", false)
  | 74 => ("PatchStoreModel", "newAt", "[I", true)
  | 75 => ("PatchStoreModel", "newSize", "[I", true)
  | 76 => ("PatchStoreModel", "news", "I", false)
  | 77 => ("PatchStoreModel", "common", "[[I", true)
  | 78 => ("PatchStoreModel", "keptAs", "[I", true)
  | 79 => ("PatchStoreModel", "isNew", "[Z", true)
  | 80 => ("PatchStoreModel", "keptFrom", "[I", true)
  | 81 => ("PatchStoreModel", "stateOf", "[B", true)
  | _ => ("PatchStoreModel", "rising", "[I", true)
def t_Md : Nat → FieldType := fun k => match k with
  | 0 => .array .byte
  | 1 => .int
  | 2 => .int
  | 3 => .int
  | 4 => .array .byte
  | 5 => .int
  | 6 => .array .int
  | 7 => .array .int
  | 8 => .array .int
  | 9 => .array .int
  | 10 => .array (.array .byte)
  | 11 => .array .int
  | 12 => .int
  | 13 => .array .int
  | 14 => .array .int
  | 15 => .array .int
  | 16 => .array .int
  | 17 => .array .int
  | 18 => .array .int
  | 19 => .array .int
  | 20 => .array .int
  | 21 => .array .int
  | 22 => .array .int
  | 23 => .array .int
  | 24 => .int
  | 25 => .array .int
  | 26 => .int
  | 27 => .array .int
  | 28 => .array .int
  | 29 => .array .int
  | 30 => .int
  | 31 => .array .int
  | 32 => .array .int
  | 33 => .int
  | 34 => .array (.array .boolean)
  | 35 => .int
  | 36 => .object "PatchStoreModel$Sha256"
  | 37 => .array .byte
  | 38 => .int
  | 39 => .int
  | 40 => .boolean
  | 41 => .array .int
  | 42 => .array .boolean
  | 43 => .int
  | 44 => .int
  | 45 => .int
  | 46 => .boolean
  | 47 => .array .byte
  | 48 => .array .int
  | 49 => .array .boolean
  | 50 => .array .int
  | 51 => .int
  | 52 => .array (.array .int)
  | 53 => .array .int
  | 54 => .array .int
  | 55 => .array .int
  | 56 => .array .int
  | 57 => .array .int
  | 58 => .array .boolean
  | 59 => .array (.array .boolean)
  | 60 => .array (.array .boolean)
  | 61 => .int
  | 62 => .int
  | 63 => .int
  | 64 => .int
  | 65 => .int
  | 66 => .int
  | 67 => .array .int
  | 68 => .array .int
  | 69 => .array .boolean
  | 70 => .array .byte
  | 71 => .int
  | 72 => .array .int
  | 73 => .int
  | 74 => .array .int
  | 75 => .array .int
  | 76 => .int
  | 77 => .array (.array .int)
  | 78 => .array .int
  | 79 => .array .boolean
  | 80 => .array .int
  | 81 => .array .byte
  | _ => .array .int
abbrev w_Md : List Cond := u_ws R_Md F_Md 83
theorem n_Md : ∀ a, a < 83 → ∀ b, b < 83 → a ≠ b → (F_Md a).2.1 ≠ (F_Md b).2.1 := by decide +kernel
theorem t_Md_ok : ∀ k, k < 83 → parseFieldDescriptor (F_Md k).2.2.1 = some (t_Md k) := by decide +kernel
def R_MS : String := "PatchStoreModel$Sha256"
def F_MS : u_T := fun k => match k with
  | 0 => ("PatchStoreModel$Sha256", "h", "[I", true)
  | 1 => ("PatchStoreModel$Sha256", "w", "[I", true)
  | 2 => ("PatchStoreModel$Digest", "size", "I", true)
  | 3 => ("PatchStoreModel$Digest", "block", "I", true)
  | 4 => ("PatchStoreModel$Digest", "gathered", "[B", true)
  | 5 => ("PatchStoreModel$Digest", "filled", "I", false)
  | 6 => ("PatchStoreModel$Digest", "total", "J", false)
  | _ => ("PatchStoreModel$Digest", "blocks", "I", false)
def t_MS : Nat → FieldType := fun k => match k with
  | 0 => .array .int
  | 1 => .array .int
  | 2 => .int
  | 3 => .int
  | 4 => .array .byte
  | 5 => .int
  | 6 => .long
  | _ => .int
abbrev w_MS : List Cond := u_ws R_MS F_MS 8
theorem n_MS : ∀ a, a < 8 → ∀ b, b < 8 → a ≠ b → (F_MS a).2.1 ≠ (F_MS b).2.1 := by decide +kernel
theorem t_MS_ok : ∀ k, k < 8 → parseFieldDescriptor (F_MS k).2.2.1 = some (t_MS k) := by decide +kernel
def R_Lw : String := "PatchStoreLaw"
abbrev classes : List vw_C := [(R_PS, F_PS, 11), (R_Ch, F_Ch, 6), (R_Fo, F_Fo, 1), (R_In, F_In, 9), (R_Li, F_Li, 8), (R_Mk, F_Mk, 5), (R_Rc, F_Rc, 17), (R_Re, F_Re, 5), (R_Sh, F_Sh, 5), (R_St, F_St, 12), (R_Tx, F_Tx, 19), (R_Vw, F_Vw, 14), (R_Md, F_Md, 83), (R_MS, F_MS, 8)]
/-- the words of the tables that every method may use and that stay when the tables warm -/
def xg_1 : List Cond := lw_tbl.filter goodWord
/-- those that stay too, by other laws: nest mates' links, what a class declares, what can be cast -/
def xg_b : Cond → Bool
  | .fieldLinkNest .. => true
  | .methodLinkNest .. => true
  | w => w.onTables && (w.faceAtom || w.castAtom)
def xg_2 : List Cond := lw_tbl.filter xg_b
theorem xg_good {w : Cond} (h : w ∈ xg_1) : goodWord w = true := (List.mem_filter.mp h).2
theorem xg_in {c : Cond} (h : c ∈ xg_1) : GoodIn xg_1 (c :: xg_1) := by
  intro w hw
  rcases List.mem_cons.mp hw with rfl | h2
  · exact ⟨h, good_of_word (xg_good h)⟩
  · exact ⟨h2, good_of_word (xg_good h2)⟩
theorem xg_law {c : Cond} (h : c ∈ xg_1) : GoodIn lw_tbl (c :: xg_1) := by
  intro w hw
  rcases List.mem_cons.mp hw with rfl | h2
  · exact ⟨(List.mem_filter.mp h).1, good_of_word (xg_good h)⟩
  · exact ⟨(List.mem_filter.mp h2).1, good_of_word (xg_good h2)⟩
theorem xg_t (i : Nat) {w : Cond} (h : tables_1[i]? = some w) (hg : goodWord w = true) : w ∈ xg_1 := List.mem_filter.mpr ⟨List.mem_append_right _ (List.mem_of_getElem? h), hg⟩
theorem xg_t2 (i : Nat) {w : Cond} (h : tables_1[i]? = some w) (hg : xg_b w = true) : w ∈ xg_2 := List.mem_filter.mpr ⟨List.mem_append_right _ (List.mem_of_getElem? h), hg⟩
theorem xg_p (i : Nat) {q : MethodName × Nat} (h : lw_privs[i]? = some q) : Cond.selects q.1.cls q.1 q.1 ∈ xg_1 := by
  refine List.mem_filter.mpr ⟨List.mem_append_left _ ?_, rfl⟩
  exact List.mem_map.mpr ⟨q, List.mem_of_getElem? h, rfl⟩
def xg_N (U : State) : Prop := ∀ w ∈ xg_2, va_Nw w U
theorem xg_on {w : Cond} (h : xg_b w = true) : w.onTables = true := by
  cases w <;> first | rfl | (simp [xg_b, Cond.onTables] at h)
theorem xg_N.same {u U : State} (h : u.vm = U.vm) (hn : xg_N u) : xg_N U := fun w hw => va_Nw.same (xg_on (List.mem_filter.mp hw).2) h (hn w hw)
theorem xg_N.warm {s U : State} (hW : s.WarmedH U.vm) (hn : xg_N s) : xg_N U := by
  intro w hw
  have hb := (List.mem_filter.mp hw).2
  have h0 : w.before #[] s = true := hn w hw
  have key : w.before #[] (s.setVm U.vm) = true := by
    cases w with
    | fieldLinkNest a i b n d h => exact Cond.fieldLinkNest_warmed (args := #[]) hW h0
    | methodLinkNest a i x h => exact Cond.methodLinkNest_warmed (args := #[]) hW h0
    | _ =>
      simp only [xg_b, Bool.and_eq_true, Bool.or_eq_true] at hb
      rcases hb.2 with h | h
      · exact Cond.faceAtom_setVm hW.alike _ h h0
      · exact Cond.castAtom_setVm hW.alike _ h h0
  exact va_tabs (xg_on hb) (rfl : (s.setVm U.vm).vm = U.vm) key
