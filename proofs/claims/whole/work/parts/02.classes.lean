/-! ===== the classes, by their fields (printed by program) ===== -/
def RX0 : String := "SledgeVote$Canton"
def TX0 : u_T := fun k => match k with
  | 0 => ("SledgeVote$Canton", "rules", "[I", true)
  | 1 => ("SledgeVote$Canton", "bumps", "[I", true)
  | 2 => ("SledgeVote$Canton", "members", "[I", true)
  | 3 => ("SledgeVote$Canton", "bumpCount", "I", false)
  | 4 => ("SledgeVote$Canton", "memberCount", "I", false)
  | 5 => ("SledgeVote$Canton", "ice", "I", false)
  | _ => ("SledgeVote$Canton", "iceTwice", "Z", false)
def tyX0 : Nat → FieldType := fun k => match k with
  | 0 => .array .int
  | 1 => .array .int
  | 2 => .array .int
  | 3 => .int
  | 4 => .int
  | 5 => .int
  | _ => .boolean
theorem nmX0 : ∀ a, a < 7 → ∀ b, b < 7 → a ≠ b → (TX0 a).2.1 ≠ (TX0 b).2.1 := by decide +kernel
theorem tyX0_ok : ∀ k, k < 7 → parseFieldDescriptor (TX0 k).2.2.1 = some (tyX0 k) := by decide +kernel
def RX1 : String := "SledgeVote$CantonReader"
def TX1 : u_T := fun k => match k with
  | 0 => ("SledgeVote$CantonReader", "tape", "LSledgeVote$Tape;", true)
  | 1 => ("SledgeVote$CantonReader", "values", "[I", true)
  | 2 => ("SledgeVote$CantonReader", "clauses", "[I", true)
  | _ => ("SledgeVote$CantonReader", "at", "I", false)
def tyX1 : Nat → FieldType := fun k => match k with
  | 0 => .object "SledgeVote$Tape"
  | 1 => .array .int
  | 2 => .array .int
  | _ => .int
theorem nmX1 : ∀ a, a < 4 → ∀ b, b < 4 → a ≠ b → (TX1 a).2.1 ≠ (TX1 b).2.1 := by decide +kernel
theorem tyX1_ok : ∀ k, k < 4 → parseFieldDescriptor (TX1 k).2.2.1 = some (tyX1 k) := by decide +kernel
def RX2 : String := "SledgeVote$Found"
def TX2 : u_T := fun k => match k with
  | 0 => ("SledgeVote$Found", "items", "[I", true)
  | _ => ("SledgeVote$Found", "size", "I", false)
def tyX2 : Nat → FieldType := fun k => match k with
  | 0 => .array .int
  | _ => .int
theorem nmX2 : ∀ a, a < 2 → ∀ b, b < 2 → a ≠ b → (TX2 a).2.1 ≠ (TX2 b).2.1 := by decide +kernel
theorem tyX2_ok : ∀ k, k < 2 → parseFieldDescriptor (TX2 k).2.2.1 = some (tyX2 k) := by decide +kernel
def RX3 : String := "SledgeVote$History"
def TX3 : u_T := fun k => match k with
  | 0 => ("SledgeVote$History", "acts", "I", false)
  | 1 => ("SledgeVote$History", "hasImage", "Z", false)
  | 2 => ("SledgeVote$History", "entries", "[I", true)
  | 3 => ("SledgeVote$History", "before", "[LSledgeVote$State;", true)
  | 4 => ("SledgeVote$History", "next", "I", false)
  | 5 => ("SledgeVote$History", "image", "LSledgeVote$State;", true)
  | _ => ("SledgeVote$History", "imageEntries", "[I", true)
def tyX3 : Nat → FieldType := fun k => match k with
  | 0 => .int
  | 1 => .boolean
  | 2 => .array .int
  | 3 => .array (.object "SledgeVote$State")
  | 4 => .int
  | 5 => .object "SledgeVote$State"
  | _ => .array .int
theorem nmX3 : ∀ a, a < 7 → ∀ b, b < 7 → a ≠ b → (TX3 a).2.1 ≠ (TX3 b).2.1 := by decide +kernel
theorem tyX3_ok : ∀ k, k < 7 → parseFieldDescriptor (TX3 k).2.2.1 = some (tyX3 k) := by decide +kernel
def RX4 : String := "SledgeVote$Law"
def TX4 : u_T := fun k => match k with
  | _ => ("SledgeVote$Law", "steps", "[I", true)
def tyX4 : Nat → FieldType := fun k => match k with
  | _ => .array .int
theorem nmX4 : ∀ a, a < 1 → ∀ b, b < 1 → a ≠ b → (TX4 a).2.1 ≠ (TX4 b).2.1 := by decide +kernel
theorem tyX4_ok : ∀ k, k < 1 → parseFieldDescriptor (TX4 k).2.2.1 = some (tyX4 k) := by decide +kernel
def RX5 : String := "SledgeVote$LawReader"
def TX5 : u_T := fun k => match k with
  | 0 => ("SledgeVote$LawReader", "tape", "LSledgeVote$Tape;", true)
  | 1 => ("SledgeVote$LawReader", "steps", "[I", true)
  | 2 => ("SledgeVote$LawReader", "stepCount", "I", false)
  | _ => ("SledgeVote$LawReader", "at", "I", false)
def tyX5 : Nat → FieldType := fun k => match k with
  | 0 => .object "SledgeVote$Tape"
  | 1 => .array .int
  | 2 => .int
  | _ => .int
theorem nmX5 : ∀ a, a < 4 → ∀ b, b < 4 → a ≠ b → (TX5 a).2.1 ≠ (TX5 b).2.1 := by decide +kernel
theorem tyX5_ok : ∀ k, k < 4 → parseFieldDescriptor (TX5 k).2.2.1 = some (tyX5 k) := by decide +kernel
def RX6 : String := "SledgeVote$Outlook"
def TX6 : u_T := fun k => match k with
  | 0 => ("SledgeVote$Outlook", "found", "LSledgeVote$Found;", true)
  | 1 => ("SledgeVote$Outlook", "fewestMoved", "I", false)
  | 2 => ("SledgeVote$Outlook", "fewestRow", "I", false)
  | 3 => ("SledgeVote$Outlook", "slope", "LSledgeVote$Slope;", true)
  | 4 => ("SledgeVote$Outlook", "trial", "LSledgeVote$State;", true)
  | 5 => ("SledgeVote$Outlook", "order", "[I", true)
  | 6 => ("SledgeVote$Outlook", "sides", "[I", true)
  | _ => ("SledgeVote$Outlook", "gains", "[I", true)
def tyX6 : Nat → FieldType := fun k => match k with
  | 0 => .object "SledgeVote$Found"
  | 1 => .int
  | 2 => .int
  | 3 => .object "SledgeVote$Slope"
  | 4 => .object "SledgeVote$State"
  | 5 => .array .int
  | 6 => .array .int
  | _ => .array .int
theorem nmX6 : ∀ a, a < 8 → ∀ b, b < 8 → a ≠ b → (TX6 a).2.1 ≠ (TX6 b).2.1 := by decide +kernel
theorem tyX6_ok : ∀ k, k < 8 → parseFieldDescriptor (TX6 k).2.2.1 = some (tyX6 k) := by decide +kernel
def RX7 : String := "SledgeVote$Slope"
def TX7 : u_T := fun k => match k with
  | 0 => ("SledgeVote$Slope", "canton", "LSledgeVote$Canton;", false)
  | 1 => ("SledgeVote$Slope", "law", "LSledgeVote$Law;", false)
  | 2 => ("SledgeVote$Slope", "lastSum", "I", false)
  | 3 => ("SledgeVote$Slope", "lastFallen", "I", false)
  | 4 => ("SledgeVote$Slope", "lastBump", "I", false)
  | 5 => ("SledgeVote$Slope", "letters", "[I", true)
  | _ => ("SledgeVote$Slope", "stack", "[I", true)
def tyX7 : Nat → FieldType := fun k => match k with
  | 0 => .object "SledgeVote$Canton"
  | 1 => .object "SledgeVote$Law"
  | 2 => .int
  | 3 => .int
  | 4 => .int
  | 5 => .array .int
  | _ => .array .int
theorem nmX7 : ∀ a, a < 7 → ∀ b, b < 7 → a ≠ b → (TX7 a).2.1 ≠ (TX7 b).2.1 := by decide +kernel
theorem tyX7_ok : ∀ k, k < 7 → parseFieldDescriptor (TX7 k).2.2.1 = some (tyX7 k) := by decide +kernel
def RX8 : String := "SledgeVote$State"
def TX8 : u_T := fun k => match k with
  | 0 => ("SledgeVote$State", "weights", "I", false)
  | 1 => ("SledgeVote$State", "leans", "I", false)
  | 2 => ("SledgeVote$State", "heels", "I", false)
  | 3 => ("SledgeVote$State", "seats", "I", false)
  | 4 => ("SledgeVote$State", "aboard", "I", false)
  | 5 => ("SledgeVote$State", "strewn", "I", false)
  | 6 => ("SledgeVote$State", "strawLeft", "I", false)
  | 7 => ("SledgeVote$State", "row", "I", false)
  | 8 => ("SledgeVote$State", "column", "I", false)
  | 9 => ("SledgeVote$State", "walks", "I", false)
  | _ => ("SledgeVote$State", "logged", "I", false)
def tyX8 : Nat → FieldType := fun k => match k with
  | 0 => .int
  | 1 => .int
  | 2 => .int
  | 3 => .int
  | 4 => .int
  | 5 => .int
  | 6 => .int
  | 7 => .int
  | 8 => .int
  | 9 => .int
  | _ => .int
theorem nmX8 : ∀ a, a < 11 → ∀ b, b < 11 → a ≠ b → (TX8 a).2.1 ≠ (TX8 b).2.1 := by decide +kernel
theorem tyX8_ok : ∀ k, k < 11 → parseFieldDescriptor (TX8 k).2.2.1 = some (tyX8 k) := by decide +kernel
def RX9 : String := "SledgeVote$Tape"
def TX9 : u_T := fun k => match k with
  | 0 => ("SledgeVote$Tape", "signs", "[C", true)
  | _ => ("SledgeVote$Tape", "length", "I", false)
def tyX9 : Nat → FieldType := fun k => match k with
  | 0 => .array .char
  | _ => .int
theorem nmX9 : ∀ a, a < 2 → ∀ b, b < 2 → a ≠ b → (TX9 a).2.1 ≠ (TX9 b).2.1 := by decide +kernel
theorem tyX9_ok : ∀ k, k < 2 → parseFieldDescriptor (TX9 k).2.2.1 = some (tyX9 k) := by decide +kernel
def RX10 : String := "SledgeVote$Track"
def TX10 : u_T := fun k => match k with
  | 0 => ("SledgeVote$Track", "held", "I", false)
  | 1 => ("SledgeVote$Track", "found", "LSledgeVote$Found;", true)
  | 2 => ("SledgeVote$Track", "slope", "LSledgeVote$Slope;", true)
  | 3 => ("SledgeVote$Track", "trial", "LSledgeVote$State;", true)
  | 4 => ("SledgeVote$Track", "seenRows", "[I", true)
  | 5 => ("SledgeVote$Track", "seenColumns", "[I", true)
  | 6 => ("SledgeVote$Track", "seenThere", "[Z", true)
  | 7 => ("SledgeVote$Track", "columns", "[I", true)
  | _ => ("SledgeVote$Track", "tellers", "[I", true)
def tyX10 : Nat → FieldType := fun k => match k with
  | 0 => .int
  | 1 => .object "SledgeVote$Found"
  | 2 => .object "SledgeVote$Slope"
  | 3 => .object "SledgeVote$State"
  | 4 => .array .int
  | 5 => .array .int
  | 6 => .array .boolean
  | 7 => .array .int
  | _ => .array .int
theorem nmX10 : ∀ a, a < 9 → ∀ b, b < 9 → a ≠ b → (TX10 a).2.1 ≠ (TX10 b).2.1 := by decide +kernel
theorem tyX10_ok : ∀ k, k < 9 → parseFieldDescriptor (TX10 k).2.2.1 = some (tyX10 k) := by decide +kernel
def RX11 : String := "SledgeVote"
def TX11 : u_T := fun k => match k with
  | 0 => ("SledgeVote", "tape", "LSledgeVote$Tape;", true)
  | 1 => ("SledgeVote", "cantonReader", "LSledgeVote$CantonReader;", true)
  | 2 => ("SledgeVote", "lawReader", "LSledgeVote$LawReader;", true)
  | 3 => ("SledgeVote", "laws", "[LSledgeVote$Law;", true)
  | 4 => ("SledgeVote", "lawCount", "I", false)
  | 5 => ("SledgeVote", "heldLaw", "I", false)
  | 6 => ("SledgeVote", "canton", "LSledgeVote$Canton;", false)
  | 7 => ("SledgeVote", "spare", "LSledgeVote$Canton;", false)
  | 8 => ("SledgeVote", "now", "LSledgeVote$State;", true)
  | 9 => ("SledgeVote", "slope", "LSledgeVote$Slope;", true)
  | 10 => ("SledgeVote", "history", "LSledgeVote$History;", true)
  | 11 => ("SledgeVote", "outlook", "LSledgeVote$Outlook;", true)
  | 12 => ("SledgeVote", "track", "LSledgeVote$Track;", true)
  | 13 => ("SledgeVote", "refusals", "[I", true)
  | 14 => ("SledgeVote", "dogsNow", "I", false)
  | _ => ("SledgeVote", "drawn", "J", false)
def tyX11 : Nat → FieldType := fun k => match k with
  | 0 => .object "SledgeVote$Tape"
  | 1 => .object "SledgeVote$CantonReader"
  | 2 => .object "SledgeVote$LawReader"
  | 3 => .array (.object "SledgeVote$Law")
  | 4 => .int
  | 5 => .int
  | 6 => .object "SledgeVote$Canton"
  | 7 => .object "SledgeVote$Canton"
  | 8 => .object "SledgeVote$State"
  | 9 => .object "SledgeVote$Slope"
  | 10 => .object "SledgeVote$History"
  | 11 => .object "SledgeVote$Outlook"
  | 12 => .object "SledgeVote$Track"
  | 13 => .array .int
  | 14 => .int
  | _ => .long
theorem nmX11 : ∀ a, a < 16 → ∀ b, b < 16 → a ≠ b → (TX11 a).2.1 ≠ (TX11 b).2.1 := by decide +kernel
theorem tyX11_ok : ∀ k, k < 16 → parseFieldDescriptor (TX11 k).2.2.1 = some (tyX11 k) := by decide +kernel
def RX12 : String := "SledgeVoteModel"
def TX12 : u_T := fun k => match k with
  | 0 => ("SledgeVoteModel", "thrown", "I", false)
  | 1 => ("SledgeVoteModel", "tape", "[I", true)
  | 2 => ("SledgeVoteModel", "size", "I", false)
  | 3 => ("SledgeVoteModel", "at", "I", false)
  | 4 => ("SledgeVoteModel", "wrong", "I", false)
  | 5 => ("SledgeVoteModel", "deep", "I", false)
  | 6 => ("SledgeVoteModel", "code", "[I", true)
  | 7 => ("SledgeVoteModel", "value", "[I", true)
  | 8 => ("SledgeVoteModel", "codes", "[I", true)
  | 9 => ("SledgeVoteModel", "clauses", "[I", true)
  | 10 => ("SledgeVoteModel", "testFrom", "[I", true)
  | 11 => ("SledgeVoteModel", "sumFrom", "[I", true)
  | 12 => ("SledgeVoteModel", "sumTo", "[I", true)
  | 13 => ("SledgeVoteModel", "laws", "I", false)
  | 14 => ("SledgeVoteModel", "text", "I", false)
  | 15 => ("SledgeVoteModel", "letters", "[I", true)
  | 16 => ("SledgeVoteModel", "stack", "[I", true)
  | 17 => ("SledgeVoteModel", "readRule", "[I", true)
  | 18 => ("SledgeVoteModel", "readBump", "[I", true)
  | 19 => ("SledgeVoteModel", "readIce", "[I", true)
  | 20 => ("SledgeVoteModel", "readMember", "[I", true)
  | 21 => ("SledgeVoteModel", "readBumps", "I", false)
  | 22 => ("SledgeVoteModel", "readIces", "I", false)
  | 23 => ("SledgeVoteModel", "readMembers", "I", false)
  | 24 => ("SledgeVoteModel", "rule", "[I", true)
  | 25 => ("SledgeVoteModel", "bump", "[I", true)
  | 26 => ("SledgeVoteModel", "member", "[I", true)
  | 27 => ("SledgeVoteModel", "bumps", "I", false)
  | 28 => ("SledgeVoteModel", "members", "I", false)
  | 29 => ("SledgeVoteModel", "ice", "I", false)
  | 30 => ("SledgeVoteModel", "now", "[I", true)
  | 31 => ("SledgeVoteModel", "refused", "[I", true)
  | 32 => ("SledgeVoteModel", "holding", "I", false)
  | 33 => ("SledgeVoteModel", "dogs", "I", false)
  | 34 => ("SledgeVoteModel", "metBumps", "I", false)
  | 35 => ("SledgeVoteModel", "kept", "[I", true)
  | 36 => ("SledgeVoteModel", "acts", "I", false)
  | 37 => ("SledgeVoteModel", "draws", "J", false)
  | 38 => ("SledgeVoteModel", "by", "[I", true)
  | 39 => ("SledgeVoteModel", "endColumn", "I", false)
  | 40 => ("SledgeVoteModel", "endOff", "I", false)
  | 41 => ("SledgeVoteModel", "bestRow", "I", false)
  | 42 => ("SledgeVoteModel", "bestMany", "I", false)
  | 43 => ("SledgeVoteModel", "leanRow", "[I", true)
  | 44 => ("SledgeVoteModel", "seatRow", "[I", true)
  | 45 => ("SledgeVoteModel", "noteRow", "[I", true)
  | 46 => ("SledgeVoteModel", "noteColumn", "[I", true)
  | 47 => ("SledgeVoteModel", "noteIs", "[Z", true)
  | 48 => ("SledgeVoteModel", "noted", "I", false)
  | 49 => ("SledgeVoteModel", "track", "[I", true)
  | 50 => ("SledgeVoteModel", "wish", "[I", true)
  | 51 => ("SledgeVoteModel", "image", "[I", true)
  | _ => ("SledgeVoteModel", "hasImage", "Z", false)
def tyX12 : Nat → FieldType := fun k => match k with
  | 0 => .int
  | 1 => .array .int
  | 2 => .int
  | 3 => .int
  | 4 => .int
  | 5 => .int
  | 6 => .array .int
  | 7 => .array .int
  | 8 => .array .int
  | 9 => .array .int
  | 10 => .array .int
  | 11 => .array .int
  | 12 => .array .int
  | 13 => .int
  | 14 => .int
  | 15 => .array .int
  | 16 => .array .int
  | 17 => .array .int
  | 18 => .array .int
  | 19 => .array .int
  | 20 => .array .int
  | 21 => .int
  | 22 => .int
  | 23 => .int
  | 24 => .array .int
  | 25 => .array .int
  | 26 => .array .int
  | 27 => .int
  | 28 => .int
  | 29 => .int
  | 30 => .array .int
  | 31 => .array .int
  | 32 => .int
  | 33 => .int
  | 34 => .int
  | 35 => .array .int
  | 36 => .int
  | 37 => .long
  | 38 => .array .int
  | 39 => .int
  | 40 => .int
  | 41 => .int
  | 42 => .int
  | 43 => .array .int
  | 44 => .array .int
  | 45 => .array .int
  | 46 => .array .int
  | 47 => .array .boolean
  | 48 => .int
  | 49 => .array .int
  | 50 => .array .int
  | 51 => .array .int
  | _ => .boolean
theorem nmX12 : ∀ a, a < 53 → ∀ b, b < 53 → a ≠ b → (TX12 a).2.1 ≠ (TX12 b).2.1 := by decide +kernel
theorem tyX12_ok : ∀ k, k < 53 → parseFieldDescriptor (TX12 k).2.2.1 = some (tyX12 k) := by decide +kernel
abbrev vwCl : List vw_C := [(RX0, TX0, 7), (RX1, TX1, 4), (RX2, TX2, 2), (RX3, TX3, 7), (RX4, TX4, 1), (RX5, TX5, 4), (RX6, TX6, 8), (RX7, TX7, 7), (RX8, TX8, 11), (RX9, TX9, 2), (RX10, TX10, 9), (RX11, TX11, 16), (RX12, TX12, 53)]
def gTy : Nat → Nat → FieldType := fun c => match c with
  | 0 => tyX0
  | 1 => tyX1
  | 2 => tyX2
  | 3 => tyX3
  | 4 => tyX4
  | 5 => tyX5
  | 6 => tyX6
  | 7 => tyX7
  | 8 => tyX8
  | 9 => tyX9
  | 10 => tyX10
  | 11 => tyX11
  | _ => tyX12
def gDf : Nat → Option (List Value) := fun c => match c with
  | 0 => some [.null, .null, .null, .int 0, .int 0, .int 0, .int 0]
  | 1 => some [.null, .null, .null, .int 0]
  | 2 => some [.null, .int 0]
  | 3 => some [.int 0, .int 0, .null, .null, .int 0, .null, .null]
  | 4 => some [.null]
  | 5 => some [.null, .null, .int 0, .int 0]
  | 6 => some [.null, .int 0, .int 0, .null, .null, .null, .null, .null]
  | 7 => some [.null, .null, .int 0, .int 0, .int 0, .null, .null]
  | 8 => some [.int 0, .int 0, .int 0, .int 0, .int 0, .int 0, .int 0, .int 0, .int 0, .int 0, .int 0]
  | 9 => some [.null, .int 0]
  | 10 => some [.int 0, .null, .null, .null, .null, .null, .null, .null, .null]
  | 11 => some [.null, .null, .null, .null, .int 0, .int 0, .null, .null, .null, .null, .null, .null, .null, .null, .int 0, .long 0]
  | 12 => some [.int 0, .null, .int 0, .int 0, .int 0, .int 0, .null, .null, .null, .null, .null, .null, .null, .int 0, .int 0, .null, .null, .null, .null, .null, .null, .int 0, .int 0, .int 0, .null, .null, .null, .int 0, .int 0, .int 0, .null, .null, .int 0, .int 0, .int 0, .null, .int 0, .long 0, .null, .int 0, .int 0, .int 0, .int 0, .null, .null, .null, .null, .null, .int 0, .null, .null, .null, .int 0]
  | _ => none
def gTs : List Cond := lw_tbl.filter goodWord
theorem gTs_in {u : Cond} (i : Nat) (h : lw_tbl[i]? = some u) (hg : goodWord u = true) : u ∈ gTs := List.mem_filter.mpr ⟨List.mem_of_getElem? h, hg⟩
theorem gTs_all {us : List Cond} (ps : List Nat) (h : ps.map (fun i => lw_tbl[i]?) = us.map some) (hg : us.all goodWord = true) : ∀ u ∈ us, u ∈ gTs := by
  intro u hu
  obtain ⟨k, hk⟩ := List.getElem?_of_mem hu
  have h1 : (us.map some)[k]? = some (some u) := by rw [List.getElem?_map, hk]; rfl
  rw [← h, List.getElem?_map] at h1
  cases hp : ps[k]? with
  | none => rw [hp] at h1; cases h1
  | some i => rw [hp] at h1; exact gTs_in i (Option.some.inj h1) (List.all_eq_true.mp hg u hu)
set_option maxRecDepth 100000 in
theorem gIn0 : ∀ u ∈ u_ws RX0 TX0 7, u ∈ gTs := gTs_all [221, 223, 225, 227, 229, 231, 233] (by decide +kernel) (by decide +kernel)
set_option maxRecDepth 100000 in
theorem gIn1 : ∀ u ∈ u_ws RX1 TX1 4, u ∈ gTs := gTs_all [164, 166, 168, 170] (by decide +kernel) (by decide +kernel)
set_option maxRecDepth 100000 in
theorem gIn2 : ∀ u ∈ u_ws RX2 TX2 2, u ∈ gTs := gTs_all [383, 385] (by decide +kernel) (by decide +kernel)
set_option maxRecDepth 100000 in
theorem gIn3 : ∀ u ∈ u_ws RX3 TX3 7, u ∈ gTs := gTs_all [352, 354, 356, 358, 360, 362, 364] (by decide +kernel) (by decide +kernel)
set_option maxRecDepth 100000 in
theorem gIn4 : ∀ u ∈ u_ws RX4 TX4 1, u ∈ gTs := gTs_all [822] (by decide +kernel) (by decide +kernel)
set_option maxRecDepth 100000 in
theorem gIn5 : ∀ u ∈ u_ws RX5 TX5 4, u ∈ gTs := gTs_all [184, 186, 188, 190] (by decide +kernel) (by decide +kernel)
set_option maxRecDepth 100000 in
theorem gIn6 : ∀ u ∈ u_ws RX6 TX6 8, u ∈ gTs := gTs_all [401, 403, 405, 407, 409, 411, 413, 415] (by decide +kernel) (by decide +kernel)
set_option maxRecDepth 100000 in
theorem gIn7 : ∀ u ∈ u_ws RX7 TX7 7, u ∈ gTs := gTs_all [319, 321, 323, 325, 327, 329, 331] (by decide +kernel) (by decide +kernel)
set_option maxRecDepth 100000 in
theorem gIn8 : ∀ u ∈ u_ws RX8 TX8 11, u ∈ gTs := gTs_all [276, 278, 280, 282, 284, 286, 288, 290, 292, 294, 296] (by decide +kernel) (by decide +kernel)
set_option maxRecDepth 100000 in
theorem gIn9 : ∀ u ∈ u_ws RX9 TX9 2, u ∈ gTs := gTs_all [148, 150] (by decide +kernel) (by decide +kernel)
set_option maxRecDepth 100000 in
theorem gIn10 : ∀ u ∈ u_ws RX10 TX10 9, u ∈ gTs := gTs_all [439, 441, 443, 445, 447, 449, 451, 453, 455] (by decide +kernel) (by decide +kernel)
set_option maxRecDepth 100000 in
theorem gIn11 : ∀ u ∈ u_ws RX11 TX11 16, u ∈ gTs := gTs_all [475, 477, 479, 481, 483, 485, 487, 489, 491, 493, 495, 497, 499, 501, 503, 505] (by decide +kernel) (by decide +kernel)
set_option maxRecDepth 100000 in
theorem gIn12 : ∀ u ∈ u_ws RX12 TX12 53, u ∈ gTs := gTs_all [1434, 1436, 1438, 1440, 1442, 1444, 1446, 1448, 1450, 1452, 1454, 1456, 1458, 1460, 1462, 1464, 1466, 1468, 1470, 1472, 1474, 1476, 1478, 1480, 1482, 1484, 1486, 1488, 1490, 1492, 1494, 1496, 1498, 1500, 1502, 1504, 1506, 1508, 1510, 1512, 1514, 1516, 1518, 1520, 1522, 1524, 1526, 1528, 1530, 1532, 1534, 1536, 1538] (by decide +kernel) (by decide +kernel)
