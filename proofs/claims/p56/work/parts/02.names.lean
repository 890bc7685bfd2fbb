/-! ===== BEGIN printed: names, fields, word lists, decode rows ===== -/
def RX0 : String := "ReviewForge$Change"
def TX0 : u_T := fun k => match k with
  | 0 => ("ReviewForge$Change", "number", "I", true)
  | 1 => ("ReviewForge$Change", "owner", "I", true)
  | 2 => ("ReviewForge$Change", "repository", "I", true)
  | 3 => ("ReviewForge$Change", "commits", "[I", true)
  | 4 => ("ReviewForge$Change", "setCount", "I", false)
  | 5 => ("ReviewForge$Change", "state", "I", false)
  | 6 => ("ReviewForge$Change", "isInWork", "Z", false)
  | 7 => ("ReviewForge$Change", "isPrivate", "Z", false)
  | 8 => ("ReviewForge$Change", "topic", "I", false)
  | 9 => ("ReviewForge$Change", "reviewerSet", "I", false)
  | 10 => ("ReviewForge$Change", "turns", "I", false)
  | 11 => ("ReviewForge$Change", "lastAct", "I", false)
  | _ => ("ReviewForge$Change", "landedWith", "I", false)
def tyX0 : Nat → FieldType := fun k => match k with
  | 0 => .int
  | 1 => .int
  | 2 => .int
  | 3 => .array .int
  | 4 => .int
  | 5 => .int
  | 6 => .boolean
  | 7 => .boolean
  | 8 => .int
  | 9 => .int
  | 10 => .int
  | 11 => .int
  | _ => .int
abbrev wsX00 : List Cond := u_ws RX0 TX0 13
theorem nmX0 : ∀ a, a < 13 → ∀ b, b < 13 → a ≠ b → (TX0 a).2.1 ≠ (TX0 b).2.1 := by decide +kernel
theorem tyX0_ok : ∀ k, k < 13 → parseFieldDescriptor (TX0 k).2.2.1 = some (tyX0 k) := by decide +kernel
abbrev cX0_init : ByteArray := prog_2_method_1_code
def yX0_init : MethodName := ⟨RX0, "<init>", "(III)V"⟩
abbrev cX0_addCommit : ByteArray := prog_2_method_2_code
def yX0_addCommit : MethodName := ⟨RX0, "addCommit", "(I)V"⟩
abbrev cX0_commitAt : ByteArray := prog_2_method_3_code
def yX0_commitAt : MethodName := ⟨RX0, "commitAt", "(I)I"⟩
abbrev cX0_takePart : ByteArray := prog_2_method_4_code
def yX0_takePart : MethodName := ⟨RX0, "takePart", "(I)V"⟩
abbrev cX0_giveTurns : ByteArray := prog_2_method_5_code
def yX0_giveTurns : MethodName := ⟨RX0, "giveTurns", "(I)V"⟩
def RX1 : String := "ReviewForge$Comment"
def TX1 : u_T := fun k => match k with
  | 0 => ("ReviewForge$Comment", "author", "I", true)
  | 1 => ("ReviewForge$Comment", "thread", "I", true)
  | 2 => ("ReviewForge$Comment", "isUnresolved", "Z", true)
  | 3 => ("ReviewForge$Comment", "place", "LReviewForge$Place;", true)
  | _ => ("ReviewForge$Comment", "isPublished", "Z", false)
def tyX1 : Nat → FieldType := fun k => match k with
  | 0 => .int
  | 1 => .int
  | 2 => .boolean
  | 3 => .object "ReviewForge$Place"
  | _ => .boolean
abbrev wsX10 : List Cond := u_ws RX1 TX1 5
theorem nmX1 : ∀ a, a < 5 → ∀ b, b < 5 → a ≠ b → (TX1 a).2.1 ≠ (TX1 b).2.1 := by decide +kernel
theorem tyX1_ok : ∀ k, k < 5 → parseFieldDescriptor (TX1 k).2.2.1 = some (tyX1 k) := by decide +kernel
abbrev cX1_init : ByteArray := prog_3_method_1_code
def yX1_init : MethodName := ⟨RX1, "<init>", "(IIZLReviewForge$Place;)V"⟩
def RX2 : String := "ReviewForge$Comparer"
def TX2 : u_T := fun k => match k with
  | 0 => ("ReviewForge$Comparer", "store", "LReviewForge$Store;", true)
  | 1 => ("ReviewForge$Comparer", "one", "LReviewForge$Comparison;", true)
  | 2 => ("ReviewForge$Comparer", "two", "LReviewForge$Comparison;", true)
  | _ => ("ReviewForge$Comparer", "left", "[I", true)
def tyX2 : Nat → FieldType := fun k => match k with
  | 0 => .object "ReviewForge$Store"
  | 1 => .object "ReviewForge$Comparison"
  | 2 => .object "ReviewForge$Comparison"
  | _ => .array .int
abbrev wsX20 : List Cond := u_ws RX2 TX2 4
theorem nmX2 : ∀ a, a < 4 → ∀ b, b < 4 → a ≠ b → (TX2 a).2.1 ≠ (TX2 b).2.1 := by decide +kernel
theorem tyX2_ok : ∀ k, k < 4 → parseFieldDescriptor (TX2 k).2.2.1 = some (tyX2 k) := by decide +kernel
abbrev cX2_init : ByteArray := prog_4_method_1_code
def yX2_init : MethodName := ⟨RX2, "<init>", "(LReviewForge$Store;)V"⟩
abbrev cX2_mergeRows : ByteArray := prog_4_method_2_code
def yX2_mergeRows : MethodName := ⟨RX2, "mergeRows", "(III)Z"⟩
abbrev cX2_makeMergedFile : ByteArray := prog_4_method_3_code
def yX2_makeMergedFile : MethodName := ⟨RX2, "makeMergedFile", "(I)Z"⟩
abbrev cX2_kindBetween : ByteArray := prog_4_method_4_code
def yX2_kindBetween : MethodName := ⟨RX2, "kindBetween", "(II)I"⟩
abbrev cX2_isChangedAlike : ByteArray := prog_4_method_5_code
def yX2_isChangedAlike : MethodName := ⟨RX2, "isChangedAlike", "(III)Z"⟩
abbrev cX2_findLeft : ByteArray := prog_4_method_6_code
def yX2_findLeft : MethodName := ⟨RX2, "findLeft", "(IIIZ)I"⟩
abbrev cX2_tellLeft : ByteArray := prog_4_method_7_code
def yX2_tellLeft : MethodName := ⟨RX2, "tellLeft", "(I)I"⟩
abbrev cX2_follow : ByteArray := prog_4_method_8_code
def yX2_follow : MethodName := ⟨RX2, "follow", "(IIII)I"⟩
def RX3 : String := "ReviewForge$Comparison"
def TX3 : u_T := fun k => match k with
  | 0 => ("ReviewForge$Comparison", "first", "[I", true)
  | 1 => ("ReviewForge$Comparison", "second", "[I", true)
  | 2 => ("ReviewForge$Comparison", "pairs", "[I", true)
  | 3 => ("ReviewForge$Comparison", "mates", "[I", true)
  | 4 => ("ReviewForge$Comparison", "dropAt", "[I", true)
  | 5 => ("ReviewForge$Comparison", "drops", "[I", true)
  | 6 => ("ReviewForge$Comparison", "addAt", "[I", true)
  | 7 => ("ReviewForge$Comparison", "adds", "[I", true)
  | 8 => ("ReviewForge$Comparison", "firstSize", "I", false)
  | 9 => ("ReviewForge$Comparison", "secondSize", "I", false)
  | _ => ("ReviewForge$Comparison", "count", "I", false)
def tyX3 : Nat → FieldType := fun k => match k with
  | 0 => .array .int
  | 1 => .array .int
  | 2 => .array .int
  | 3 => .array .int
  | 4 => .array .int
  | 5 => .array .int
  | 6 => .array .int
  | 7 => .array .int
  | 8 => .int
  | 9 => .int
  | _ => .int
abbrev wsX30 : List Cond := u_ws RX3 TX3 11
theorem nmX3 : ∀ a, a < 11 → ∀ b, b < 11 → a ≠ b → (TX3 a).2.1 ≠ (TX3 b).2.1 := by decide +kernel
theorem tyX3_ok : ∀ k, k < 11 → parseFieldDescriptor (TX3 k).2.2.1 = some (tyX3 k) := by decide +kernel
abbrev cX3_init : ByteArray := prog_5_method_1_code
def yX3_init : MethodName := ⟨RX3, "<init>", "()V"⟩
abbrev cX3_compare : ByteArray := prog_5_method_2_code
def yX3_compare : MethodName := ⟨RX3, "compare", "(LReviewForge$Store;IIIZ)V"⟩
abbrev cX3_readLines : ByteArray := prog_5_method_3_code
def yX3_readLines : MethodName := ⟨RX3, "readLines", "(LReviewForge$Store;IIZ[I)I"⟩
abbrev cX3_countPairs : ByteArray := prog_5_method_4_code
def yX3_countPairs : MethodName := ⟨RX3, "countPairs", "()V"⟩
abbrev cX3_pairLines : ByteArray := prog_5_method_5_code
def yX3_pairLines : MethodName := ⟨RX3, "pairLines", "()V"⟩
abbrev cX3_gatherHunks : ByteArray := prog_5_method_6_code
def yX3_gatherHunks : MethodName := ⟨RX3, "gatherHunks", "()V"⟩
abbrev cX3_isAlike : ByteArray := prog_5_method_7_code
def yX3_isAlike : MethodName := ⟨RX3, "isAlike", "(ILReviewForge$Comparison;I)Z"⟩
abbrev cX3_isAlikeOneByOne : ByteArray := prog_5_method_8_code
def yX3_isAlikeOneByOne : MethodName := ⟨RX3, "isAlikeOneByOne", "(LReviewForge$Comparison;)Z"⟩
abbrev cX3_hasAlike : ByteArray := prog_5_method_9_code
def yX3_hasAlike : MethodName := ⟨RX3, "hasAlike", "(LReviewForge$Comparison;I)Z"⟩
abbrev cX3_isInConflict : ByteArray := prog_5_method_10_code
def yX3_isInConflict : MethodName := ⟨RX3, "isInConflict", "(LReviewForge$Comparison;)Z"⟩
abbrev cX3_hunkFrom : ByteArray := prog_5_method_11_code
def yX3_hunkFrom : MethodName := ⟨RX3, "hunkFrom", "(I)I"⟩
def RX4 : String := "ReviewForge$Finding"
def TX4 : u_T := fun k => match k with
  | 0 => ("ReviewForge$Finding", "commit", "I", true)
  | 1 => ("ReviewForge$Finding", "line", "I", true)
  | _ => ("ReviewForge$Finding", "place", "LReviewForge$Place;", true)
def tyX4 : Nat → FieldType := fun k => match k with
  | 0 => .int
  | 1 => .int
  | _ => .object "ReviewForge$Place"
abbrev wsX40 : List Cond := u_ws RX4 TX4 3
theorem nmX4 : ∀ a, a < 3 → ∀ b, b < 3 → a ≠ b → (TX4 a).2.1 ≠ (TX4 b).2.1 := by decide +kernel
theorem tyX4_ok : ∀ k, k < 3 → parseFieldDescriptor (TX4 k).2.2.1 = some (tyX4 k) := by decide +kernel
abbrev cX4_init : ByteArray := prog_6_method_1_code
def yX4_init : MethodName := ⟨RX4, "<init>", "(IILReviewForge$Place;)V"⟩
def RX5 : String := "ReviewForge$Landing"
def TX5 : u_T := fun k => match k with
  | 0 => ("ReviewForge$Landing", "store", "LReviewForge$Store;", true)
  | 1 => ("ReviewForge$Landing", "comparer", "LReviewForge$Comparer;", true)
  | 2 => ("ReviewForge$Landing", "changes", "Ljava/util/ArrayList;", true)
  | 3 => ("ReviewForge$Landing", "ways", "[I", true)
  | 4 => ("ReviewForge$Landing", "commits", "[I", true)
  | _ => ("ReviewForge$Landing", "squashed", "I", false)
def tyX5 : Nat → FieldType := fun k => match k with
  | 0 => .object "ReviewForge$Store"
  | 1 => .object "ReviewForge$Comparer"
  | 2 => .object "java/util/ArrayList"
  | 3 => .array .int
  | 4 => .array .int
  | _ => .int
abbrev wsX50 : List Cond := u_ws RX5 TX5 6
theorem nmX5 : ∀ a, a < 6 → ∀ b, b < 6 → a ≠ b → (TX5 a).2.1 ≠ (TX5 b).2.1 := by decide +kernel
theorem tyX5_ok : ∀ k, k < 6 → parseFieldDescriptor (TX5 k).2.2.1 = some (tyX5 k) := by decide +kernel
abbrev cX5_init : ByteArray := prog_7_method_1_code
def yX5_init : MethodName := ⟨RX5, "<init>", "(LReviewForge$Store;LReviewForge$Comparer;Ljava/util/ArrayList;)V"⟩
abbrev cX5_replaceWay : ByteArray := prog_7_method_2_code
def yX5_replaceWay : MethodName := ⟨RX5, "replaceWay", "(II)I"⟩
abbrev cX5_groupOf : ByteArray := prog_7_method_3_code
def yX5_groupOf : MethodName := ⟨RX5, "groupOf", "(I)I"⟩
abbrev cX5_drawnBy : ByteArray := prog_7_method_4_code
def yX5_drawnBy : MethodName := ⟨RX5, "drawnBy", "(LReviewForge$Change;)I"⟩
abbrev cX5_tryAll : ByteArray := prog_7_method_5_code
def yX5_tryAll : MethodName := ⟨RX5, "tryAll", "(I)Z"⟩
abbrev cX5_nextOf : ByteArray := prog_7_method_6_code
def yX5_nextOf : MethodName := ⟨RX5, "nextOf", "(I)I"⟩
abbrev cX5_findSquashed : ByteArray := prog_7_method_7_code
def yX5_findSquashed : MethodName := ⟨RX5, "findSquashed", "(I)I"⟩
abbrev cX5_tryOne : ByteArray := prog_7_method_8_code
def yX5_tryOne : MethodName := ⟨RX5, "tryOne", "(I)Z"⟩
abbrev cX5_squashedParentOf : ByteArray := prog_7_method_9_code
def yX5_squashedParentOf : MethodName := ⟨RX5, "squashedParentOf", "(I)I"⟩
abbrev cX5_mergeBaseOf : ByteArray := prog_7_method_10_code
def yX5_mergeBaseOf : MethodName := ⟨RX5, "mergeBaseOf", "(I)I"⟩
abbrev cX5_standFor : ByteArray := prog_7_method_11_code
def yX5_standFor : MethodName := ⟨RX5, "standFor", "(II)V"⟩
abbrev cX5_nameCommits : ByteArray := prog_7_method_12_code
def yX5_nameCommits : MethodName := ⟨RX5, "nameCommits", "(I)V"⟩
def RX6 : String := "ReviewForge$OwnerLists"
def TX6 : u_T := fun k => match k with
  | 0 => ("ReviewForge$OwnerLists", "lists", "[I", true)
  | 1 => ("ReviewForge$OwnerLists", "cuts", "[Z", true)
  | 2 => ("ReviewForge$OwnerLists", "includes", "[Z", true)
  | _ => ("ReviewForge$OwnerLists", "lastResort", "I", false)
def tyX6 : Nat → FieldType := fun k => match k with
  | 0 => .array .int
  | 1 => .array .boolean
  | 2 => .array .boolean
  | _ => .int
abbrev wsX60 : List Cond := u_ws RX6 TX6 4
theorem nmX6 : ∀ a, a < 4 → ∀ b, b < 4 → a ≠ b → (TX6 a).2.1 ≠ (TX6 b).2.1 := by decide +kernel
theorem tyX6_ok : ∀ k, k < 4 → parseFieldDescriptor (TX6 k).2.2.1 = some (tyX6 k) := by decide +kernel
abbrev cX6_init : ByteArray := prog_8_method_1_code
def yX6_init : MethodName := ⟨RX6, "<init>", "()V"⟩
abbrev cX6_setList : ByteArray := prog_8_method_2_code
def yX6_setList : MethodName := ⟨RX6, "setList", "(IIZ)I"⟩
abbrev cX6_setIncluding : ByteArray := prog_8_method_3_code
def yX6_setIncluding : MethodName := ⟨RX6, "setIncluding", "(IZ)Z"⟩
abbrev cX6_ownersOf : ByteArray := prog_8_method_4_code
def yX6_ownersOf : MethodName := ⟨RX6, "ownersOf", "(II)I"⟩
def RX7 : String := "ReviewForge$Place"
def TX7 : u_T := fun k => match k with
  | 0 => ("ReviewForge$Place", "change", "I", true)
  | 1 => ("ReviewForge$Place", "set", "I", true)
  | 2 => ("ReviewForge$Place", "file", "I", true)
  | 3 => ("ReviewForge$Place", "from", "I", true)
  | _ => ("ReviewForge$Place", "many", "I", true)
def tyX7 : Nat → FieldType := fun k => match k with
  | 0 => .int
  | 1 => .int
  | 2 => .int
  | 3 => .int
  | _ => .int
abbrev wsX70 : List Cond := u_ws RX7 TX7 5
theorem nmX7 : ∀ a, a < 5 → ∀ b, b < 5 → a ≠ b → (TX7 a).2.1 ≠ (TX7 b).2.1 := by decide +kernel
theorem tyX7_ok : ∀ k, k < 5 → parseFieldDescriptor (TX7 k).2.2.1 = some (tyX7 k) := by decide +kernel
abbrev cX7_init : ByteArray := prog_9_method_1_code
def yX7_init : MethodName := ⟨RX7, "<init>", "(IIIII)V"⟩
abbrev cX7_touches : ByteArray := prog_9_method_2_code
def yX7_touches : MethodName := ⟨RX7, "touches", "(LReviewForge$Place;)Z"⟩
def RX8 : String := "ReviewForge$Rules"
def TX8 : u_T := fun k => match k with
  | 0 => ("ReviewForge$Rules", "statementOf", "[I", true)
  | 1 => ("ReviewForge$Rules", "musts", "[I", true)
  | 2 => ("ReviewForge$Rules", "mustNots", "[I", true)
  | 3 => ("ReviewForge$Rules", "isDropped", "[Z", true)
  | 4 => ("ReviewForge$Rules", "levels", "[I", true)
  | 5 => ("ReviewForge$Rules", "highest", "I", false)
  | _ => ("ReviewForge$Rules", "count", "I", false)
def tyX8 : Nat → FieldType := fun k => match k with
  | 0 => .array .int
  | 1 => .array .int
  | 2 => .array .int
  | 3 => .array .boolean
  | 4 => .array .int
  | 5 => .int
  | _ => .int
abbrev wsX80 : List Cond := u_ws RX8 TX8 7
theorem nmX8 : ∀ a, a < 7 → ∀ b, b < 7 → a ≠ b → (TX8 a).2.1 ≠ (TX8 b).2.1 := by decide +kernel
theorem tyX8_ok : ∀ k, k < 7 → parseFieldDescriptor (TX8 k).2.2.1 = some (tyX8 k) := by decide +kernel
abbrev cX8_init : ByteArray := prog_10_method_1_code
def yX8_init : MethodName := ⟨RX8, "<init>", "()V"⟩
abbrev cX8_tryAdd : ByteArray := prog_10_method_2_code
def yX8_tryAdd : MethodName := ⟨RX8, "tryAdd", "(III)I"⟩
abbrev cX8_tryDrop : ByteArray := prog_10_method_3_code
def yX8_tryDrop : MethodName := ⟨RX8, "tryDrop", "(I)I"⟩
abbrev cX8_findLevels : ByteArray := prog_10_method_4_code
def yX8_findLevels : MethodName := ⟨RX8, "findLevels", "()Z"⟩
abbrev cX8_levelNeeded : ByteArray := prog_10_method_5_code
def yX8_levelNeeded : MethodName := ⟨RX8, "levelNeeded", "(I)I"⟩
abbrev cX8_follow : ByteArray := prog_10_method_6_code
def yX8_follow : MethodName := ⟨RX8, "follow", "(I)I"⟩
abbrev cX8_followOnce : ByteArray := prog_10_method_7_code
def yX8_followOnce : MethodName := ⟨RX8, "followOnce", "(II)I"⟩
abbrev cX8_lackingFacts : ByteArray := prog_10_method_8_code
def yX8_lackingFacts : MethodName := ⟨RX8, "lackingFacts", "(I)I"⟩
def RX9 : String := "ReviewForge$Store"
def TX9 : u_T := fun k => match k with
  | 0 => ("ReviewForge$Store", "lines", "[I", true)
  | 1 => ("ReviewForge$Store", "sizes", "[I", true)
  | 2 => ("ReviewForge$Store", "repositories", "[I", true)
  | 3 => ("ReviewForge$Store", "bases", "[I", true)
  | 4 => ("ReviewForge$Store", "names", "[I", true)
  | 5 => ("ReviewForge$Store", "owningChanges", "[I", true)
  | 6 => ("ReviewForge$Store", "uploaders", "[I", true)
  | 7 => ("ReviewForge$Store", "kinds", "[I", true)
  | 8 => ("ReviewForge$Store", "tips", "[I", true)
  | 9 => ("ReviewForge$Store", "currents", "[I", true)
  | _ => ("ReviewForge$Store", "count", "I", false)
def tyX9 : Nat → FieldType := fun k => match k with
  | 0 => .array .int
  | 1 => .array .int
  | 2 => .array .int
  | 3 => .array .int
  | 4 => .array .int
  | 5 => .array .int
  | 6 => .array .int
  | 7 => .array .int
  | 8 => .array .int
  | 9 => .array .int
  | _ => .int
abbrev wsX90 : List Cond := u_ws RX9 TX9 11
theorem nmX9 : ∀ a, a < 11 → ∀ b, b < 11 → a ≠ b → (TX9 a).2.1 ≠ (TX9 b).2.1 := by decide +kernel
theorem tyX9_ok : ∀ k, k < 11 → parseFieldDescriptor (TX9 k).2.2.1 = some (tyX9 k) := by decide +kernel
abbrev cX9_init : ByteArray := prog_11_method_1_code
def yX9_init : MethodName := ⟨RX9, "<init>", "()V"⟩
abbrev cX9_read : ByteArray := prog_11_method_2_code
def yX9_read : MethodName := ⟨RX9, "read", "([II)I"⟩
abbrev cX9_write : ByteArray := prog_11_method_3_code
def yX9_write : MethodName := ⟨RX9, "write", "([III)V"⟩
abbrev cX9_sizeOf : ByteArray := prog_11_method_4_code
def yX9_sizeOf : MethodName := ⟨RX9, "sizeOf", "(II)I"⟩
abbrev cX9_lineAt : ByteArray := prog_11_method_5_code
def yX9_lineAt : MethodName := ⟨RX9, "lineAt", "(III)I"⟩
abbrev cX9_baseOf : ByteArray := prog_11_method_6_code
def yX9_baseOf : MethodName := ⟨RX9, "baseOf", "(I)I"⟩
abbrev cX9_repositoryOf : ByteArray := prog_11_method_7_code
def yX9_repositoryOf : MethodName := ⟨RX9, "repositoryOf", "(I)I"⟩
abbrev cX9_nameOf : ByteArray := prog_11_method_8_code
def yX9_nameOf : MethodName := ⟨RX9, "nameOf", "(I)I"⟩
abbrev cX9_changeOf : ByteArray := prog_11_method_9_code
def yX9_changeOf : MethodName := ⟨RX9, "changeOf", "(I)I"⟩
abbrev cX9_uploaderOf : ByteArray := prog_11_method_10_code
def yX9_uploaderOf : MethodName := ⟨RX9, "uploaderOf", "(I)I"⟩
abbrev cX9_kindAt : ByteArray := prog_11_method_11_code
def yX9_kindAt : MethodName := ⟨RX9, "kindAt", "(I)I"⟩
abbrev cX9_tipOf : ByteArray := prog_11_method_12_code
def yX9_tipOf : MethodName := ⟨RX9, "tipOf", "(I)I"⟩
abbrev cX9_currentOf : ByteArray := prog_11_method_13_code
def yX9_currentOf : MethodName := ⟨RX9, "currentOf", "(I)I"⟩
abbrev cX9_parentNumber : ByteArray := prog_11_method_14_code
def yX9_parentNumber : MethodName := ⟨RX9, "parentNumber", "(I)I"⟩
abbrev cX9_isOutdated : ByteArray := prog_11_method_15_code
def yX9_isOutdated : MethodName := ⟨RX9, "isOutdated", "(I)Z"⟩
abbrev cX9_isFull : ByteArray := prog_11_method_16_code
def yX9_isFull : MethodName := ⟨RX9, "isFull", "()Z"⟩
abbrev cX9_startOf : ByteArray := prog_11_method_17_code
def yX9_startOf : MethodName := ⟨RX9, "startOf", "(II)I"⟩
abbrev cX9_copyFiles : ByteArray := prog_11_method_18_code
def yX9_copyFiles : MethodName := ⟨RX9, "copyFiles", "(II)V"⟩
abbrev cX9_isSameFile : ByteArray := prog_11_method_19_code
def yX9_isSameFile : MethodName := ⟨RX9, "isSameFile", "(III)Z"⟩
abbrev cX9_setDeskBase : ByteArray := prog_11_method_20_code
def yX9_setDeskBase : MethodName := ⟨RX9, "setDeskBase", "(I)I"⟩
abbrev cX9_insertOnDesk : ByteArray := prog_11_method_21_code
def yX9_insertOnDesk : MethodName := ⟨RX9, "insertOnDesk", "(III)V"⟩
abbrev cX9_removeFromDesk : ByteArray := prog_11_method_22_code
def yX9_removeFromDesk : MethodName := ⟨RX9, "removeFromDesk", "(II)V"⟩
abbrev cX9_startFile : ByteArray := prog_11_method_23_code
def yX9_startFile : MethodName := ⟨RX9, "startFile", "(I)V"⟩
abbrev cX9_addLine : ByteArray := prog_11_method_24_code
def yX9_addLine : MethodName := ⟨RX9, "addLine", "(II)Z"⟩
abbrev cX9_addCommit : ByteArray := prog_11_method_25_code
def yX9_addCommit : MethodName := ⟨RX9, "addCommit", "(III)I"⟩
abbrev cX9_makeSet : ByteArray := prog_11_method_26_code
def yX9_makeSet : MethodName := ⟨RX9, "makeSet", "(IIII)V"⟩
abbrev cX9_lookFor : ByteArray := prog_11_method_27_code
def yX9_lookFor : MethodName := ⟨RX9, "lookFor", "(LReviewForge$Place;II)I"⟩
abbrev cX9_isAgainAt : ByteArray := prog_11_method_28_code
def yX9_isAgainAt : MethodName := ⟨RX9, "isAgainAt", "(LReviewForge$Place;III)Z"⟩
def RX10 : String := "ReviewForge$Votes"
def TX10 : u_T := fun k => match k with
  | 0 => ("ReviewForge$Votes", "store", "LReviewForge$Store;", true)
  | 1 => ("ReviewForge$Votes", "cast", "[I", true)
  | _ => ("ReviewForge$Votes", "copied", "[I", true)
def tyX10 : Nat → FieldType := fun k => match k with
  | 0 => .object "ReviewForge$Store"
  | 1 => .array .int
  | _ => .array .int
abbrev wsX100 : List Cond := u_ws RX10 TX10 3
theorem nmX10 : ∀ a, a < 3 → ∀ b, b < 3 → a ≠ b → (TX10 a).2.1 ≠ (TX10 b).2.1 := by decide +kernel
theorem tyX10_ok : ∀ k, k < 3 → parseFieldDescriptor (TX10 k).2.2.1 = some (tyX10 k) := by decide +kernel
abbrev cX10_init : ByteArray := prog_12_method_1_code
def yX10_init : MethodName := ⟨RX10, "<init>", "(LReviewForge$Store;)V"⟩
abbrev cX10_indexOf : ByteArray := prog_12_method_2_code
def yX10_indexOf : MethodName := ⟨RX10, "indexOf", "(III)I"⟩
abbrev cX10_castVote : ByteArray := prog_12_method_3_code
def yX10_castVote : MethodName := ⟨RX10, "castVote", "(IIII)V"⟩
abbrev cX10_replaceCopied : ByteArray := prog_12_method_4_code
def yX10_replaceCopied : MethodName := ⟨RX10, "replaceCopied", "(II)I"⟩
abbrev cX10_worthOn : ByteArray := prog_12_method_5_code
def yX10_worthOn : MethodName := ⟨RX10, "worthOn", "(LReviewForge$Change;III)I"⟩
abbrev cX10_peopleWith : ByteArray := prog_12_method_6_code
def yX10_peopleWith : MethodName := ⟨RX10, "peopleWith", "(LReviewForge$Change;II)I"⟩
def RX11 : String := "ReviewForge"
def TX11 : u_T := fun k => match k with
  | 0 => ("ReviewForge", "store", "LReviewForge$Store;", true)
  | 1 => ("ReviewForge", "comparer", "LReviewForge$Comparer;", true)
  | 2 => ("ReviewForge", "votes", "LReviewForge$Votes;", true)
  | 3 => ("ReviewForge", "rules", "LReviewForge$Rules;", true)
  | 4 => ("ReviewForge", "ownerLists", "LReviewForge$OwnerLists;", true)
  | 5 => ("ReviewForge", "changeList", "Ljava/util/ArrayList;", true)
  | 6 => ("ReviewForge", "commentList", "Ljava/util/ArrayList;", true)
  | 7 => ("ReviewForge", "findingList", "Ljava/util/ArrayList;", true)
  | 8 => ("ReviewForge", "landing", "LReviewForge$Landing;", true)
  | 9 => ("ReviewForge", "watchers", "[I", true)
  | 10 => ("ReviewForge", "mailCounts", "[I", true)
  | _ => ("ReviewForge", "today", "I", false)
def tyX11 : Nat → FieldType := fun k => match k with
  | 0 => .object "ReviewForge$Store"
  | 1 => .object "ReviewForge$Comparer"
  | 2 => .object "ReviewForge$Votes"
  | 3 => .object "ReviewForge$Rules"
  | 4 => .object "ReviewForge$OwnerLists"
  | 5 => .object "java/util/ArrayList"
  | 6 => .object "java/util/ArrayList"
  | 7 => .object "java/util/ArrayList"
  | 8 => .object "ReviewForge$Landing"
  | 9 => .array .int
  | 10 => .array .int
  | _ => .int
abbrev wsX110 : List Cond := u_ws RX11 TX11 12
theorem nmX11 : ∀ a, a < 12 → ∀ b, b < 12 → a ≠ b → (TX11 a).2.1 ≠ (TX11 b).2.1 := by decide +kernel
theorem tyX11_ok : ∀ k, k < 12 → parseFieldDescriptor (TX11 k).2.2.1 = some (tyX11 k) := by decide +kernel
abbrev cX11_init : ByteArray := prog_1_method_1_code
def yX11_init : MethodName := ⟨RX11, "<init>", "()V"⟩
abbrev cX11_take : ByteArray := prog_1_method_2_code
def yX11_take : MethodName := ⟨RX11, "take", "(I)I"⟩
abbrev cX11_takeSet : ByteArray := prog_1_method_3_code
def yX11_takeSet : MethodName := ⟨RX11, "takeSet", "(II)I"⟩
abbrev cX11_put : ByteArray := prog_1_method_4_code
def yX11_put : MethodName := ⟨RX11, "put", "(III)I"⟩
abbrev cX11_cut : ByteArray := prog_1_method_5_code
def yX11_cut : MethodName := ⟨RX11, "cut", "(II)I"⟩
abbrev cX11_commits : ByteArray := prog_1_method_6_code
def yX11_commits : MethodName := ⟨RX11, "commits", "()I"⟩
abbrev cX11_line : ByteArray := prog_1_method_7_code
def yX11_line : MethodName := ⟨RX11, "line", "(III)I"⟩
abbrev cX11_before : ByteArray := prog_1_method_8_code
def yX11_before : MethodName := ⟨RX11, "before", "(I)I"⟩
abbrev cX11_tip : ByteArray := prog_1_method_9_code
def yX11_tip : MethodName := ⟨RX11, "tip", "(I)I"⟩
abbrev cX11_namedAfter : ByteArray := prog_1_method_10_code
def yX11_namedAfter : MethodName := ⟨RX11, "namedAfter", "(I)I"⟩
abbrev cX11_open : ByteArray := prog_1_method_11_code
def yX11_open : MethodName := ⟨RX11, "open", "(I)I"⟩
abbrev cX11_upload : ByteArray := prog_1_method_12_code
def yX11_upload : MethodName := ⟨RX11, "upload", "(II)I"⟩
abbrev cX11_rebase : ByteArray := prog_1_method_13_code
def yX11_rebase : MethodName := ⟨RX11, "rebase", "(II)I"⟩
abbrev cX11_abandon : ByteArray := prog_1_method_14_code
def yX11_abandon : MethodName := ⟨RX11, "abandon", "(II)I"⟩
abbrev cX11_restore : ByteArray := prog_1_method_15_code
def yX11_restore : MethodName := ⟨RX11, "restore", "(I)I"⟩
abbrev cX11_setFlags : ByteArray := prog_1_method_16_code
def yX11_setFlags : MethodName := ⟨RX11, "setFlags", "(IZZ)I"⟩
abbrev cX11_setTopic : ByteArray := prog_1_method_17_code
def yX11_setTopic : MethodName := ⟨RX11, "setTopic", "(II)I"⟩
abbrev cX11_changes : ByteArray := prog_1_method_18_code
def yX11_changes : MethodName := ⟨RX11, "changes", "()I"⟩
abbrev cX11_stateOf : ByteArray := prog_1_method_19_code
def yX11_stateOf : MethodName := ⟨RX11, "stateOf", "(I)I"⟩
abbrev cX11_sets : ByteArray := prog_1_method_20_code
def yX11_sets : MethodName := ⟨RX11, "sets", "(I)I"⟩
abbrev cX11_commitOf : ByteArray := prog_1_method_21_code
def yX11_commitOf : MethodName := ⟨RX11, "commitOf", "(II)I"⟩
abbrev cX11_kindOf : ByteArray := prog_1_method_22_code
def yX11_kindOf : MethodName := ⟨RX11, "kindOf", "(II)I"⟩
abbrev cX11_parentOf : ByteArray := prog_1_method_23_code
def yX11_parentOf : MethodName := ⟨RX11, "parentOf", "(I)I"⟩
abbrev cX11_hunks : ByteArray := prog_1_method_24_code
def yX11_hunks : MethodName := ⟨RX11, "hunks", "(IIIIZ)I"⟩
abbrev cX11_hunkAt : ByteArray := prog_1_method_25_code
def yX11_hunkAt : MethodName := ⟨RX11, "hunkAt", "(IIIIZI)I"⟩
abbrev cX11_comment : ByteArray := prog_1_method_26_code
def yX11_comment : MethodName := ⟨RX11, "comment", "(IIIIIIZ)I"⟩
abbrev cX11_answer : ByteArray := prog_1_method_27_code
def yX11_answer : MethodName := ⟨RX11, "answer", "(IIZ)I"⟩
abbrev cX11_publish : ByteArray := prog_1_method_28_code
def yX11_publish : MethodName := ⟨RX11, "publish", "(II)I"⟩
abbrev cX11_shown : ByteArray := prog_1_method_29_code
def yX11_shown : MethodName := ⟨RX11, "shown", "(II)I"⟩
abbrev cX11_unresolved : ByteArray := prog_1_method_30_code
def yX11_unresolved : MethodName := ⟨RX11, "unresolved", "(I)I"⟩
abbrev cX11_find : ByteArray := prog_1_method_31_code
def yX11_find : MethodName := ⟨RX11, "find", "(IIIIII)I"⟩
abbrev cX11_takeFixes : ByteArray := prog_1_method_32_code
def yX11_takeFixes : MethodName := ⟨RX11, "takeFixes", "(II)I"⟩
abbrev cX11_setOwners : ByteArray := prog_1_method_33_code
def yX11_setOwners : MethodName := ⟨RX11, "setOwners", "(IIIZ)I"⟩
abbrev cX11_setInclude : ByteArray := prog_1_method_34_code
def yX11_setInclude : MethodName := ⟨RX11, "setInclude", "(IIZ)Z"⟩
abbrev cX11_setLastResort : ByteArray := prog_1_method_35_code
def yX11_setLastResort : MethodName := ⟨RX11, "setLastResort", "(I)I"⟩
abbrev cX11_owners : ByteArray := prog_1_method_36_code
def yX11_owners : MethodName := ⟨RX11, "owners", "(II)I"⟩
abbrev cX11_fewest : ByteArray := prog_1_method_37_code
def yX11_fewest : MethodName := ⟨RX11, "fewest", "(I)I"⟩
abbrev cX11_vote : ByteArray := prog_1_method_38_code
def yX11_vote : MethodName := ⟨RX11, "vote", "(IIIII)I"⟩
abbrev cX11_worth : ByteArray := prog_1_method_39_code
def yX11_worth : MethodName := ⟨RX11, "worth", "(IIII)I"⟩
abbrev cX11_setCopied : ByteArray := prog_1_method_40_code
def yX11_setCopied : MethodName := ⟨RX11, "setCopied", "(III)I"⟩
abbrev cX11_addRule : ByteArray := prog_1_method_41_code
def yX11_addRule : MethodName := ⟨RX11, "addRule", "(III)I"⟩
abbrev cX11_dropRule : ByteArray := prog_1_method_42_code
def yX11_dropRule : MethodName := ⟨RX11, "dropRule", "(I)I"⟩
abbrev cX11_statements : ByteArray := prog_1_method_43_code
def yX11_statements : MethodName := ⟨RX11, "statements", "(I)I"⟩
abbrev cX11_lacks : ByteArray := prog_1_method_44_code
def yX11_lacks : MethodName := ⟨RX11, "lacks", "(I)I"⟩
abbrev cX11_setWay : ByteArray := prog_1_method_45_code
def yX11_setWay : MethodName := ⟨RX11, "setWay", "(II)I"⟩
abbrev cX11_group : ByteArray := prog_1_method_46_code
def yX11_group : MethodName := ⟨RX11, "group", "(I)I"⟩
abbrev cX11_land : ByteArray := prog_1_method_47_code
def yX11_land : MethodName := ⟨RX11, "land", "(II)I"⟩
abbrev cX11_addReviewer : ByteArray := prog_1_method_48_code
def yX11_addReviewer : MethodName := ⟨RX11, "addReviewer", "(II)Z"⟩
abbrev cX11_reviewers : ByteArray := prog_1_method_49_code
def yX11_reviewers : MethodName := ⟨RX11, "reviewers", "(I)I"⟩
abbrev cX11_whoseTurn : ByteArray := prog_1_method_50_code
def yX11_whoseTurn : MethodName := ⟨RX11, "whoseTurn", "(I)I"⟩
abbrev cX11_watch : ByteArray := prog_1_method_51_code
def yX11_watch : MethodName := ⟨RX11, "watch", "(IIZ)Z"⟩
abbrev cX11_mails : ByteArray := prog_1_method_52_code
def yX11_mails : MethodName := ⟨RX11, "mails", "(I)I"⟩
abbrev cX11_advance : ByteArray := prog_1_method_53_code
def yX11_advance : MethodName := ⟨RX11, "advance", "(I)I"⟩
abbrev cX11_day : ByteArray := prog_1_method_54_code
def yX11_day : MethodName := ⟨RX11, "day", "()I"⟩
abbrev cX11_needPerson : ByteArray := prog_1_method_55_code
def yX11_needPerson : MethodName := ⟨RX11, "needPerson", "(I)V"⟩
abbrev cX11_needRepository : ByteArray := prog_1_method_56_code
def yX11_needRepository : MethodName := ⟨RX11, "needRepository", "(I)V"⟩
abbrev cX11_needFile : ByteArray := prog_1_method_57_code
def yX11_needFile : MethodName := ⟨RX11, "needFile", "(I)V"⟩
abbrev cX11_needLabel : ByteArray := prog_1_method_58_code
def yX11_needLabel : MethodName := ⟨RX11, "needLabel", "(I)V"⟩
abbrev cX11_needCommit : ByteArray := prog_1_method_59_code
def yX11_needCommit : MethodName := ⟨RX11, "needCommit", "(I)V"⟩
abbrev cX11_needCommitOrDesk : ByteArray := prog_1_method_60_code
def yX11_needCommitOrDesk : MethodName := ⟨RX11, "needCommitOrDesk", "(I)I"⟩
abbrev cX11_needChange : ByteArray := prog_1_method_61_code
def yX11_needChange : MethodName := ⟨RX11, "needChange", "(I)LReviewForge$Change;"⟩
abbrev cX11_needSet : ByteArray := prog_1_method_62_code
def yX11_needSet : MethodName := ⟨RX11, "needSet", "(LReviewForge$Change;I)I"⟩
abbrev cX11_needComment : ByteArray := prog_1_method_63_code
def yX11_needComment : MethodName := ⟨RX11, "needComment", "(I)LReviewForge$Comment;"⟩
abbrev cX11_needLines : ByteArray := prog_1_method_64_code
def yX11_needLines : MethodName := ⟨RX11, "needLines", "(IIII)V"⟩
abbrev cX11_needSeen : ByteArray := prog_1_method_65_code
def yX11_needSeen : MethodName := ⟨RX11, "needSeen", "(ILReviewForge$Change;)V"⟩
abbrev cX11_needOpenAndSeen : ByteArray := prog_1_method_66_code
def yX11_needOpenAndSeen : MethodName := ⟨RX11, "needOpenAndSeen", "(ILReviewForge$Change;)V"⟩
abbrev cX11_needRoomForCommit : ByteArray := prog_1_method_67_code
def yX11_needRoomForCommit : MethodName := ⟨RX11, "needRoomForCommit", "()V"⟩
abbrev cX11_needRoomForComment : ByteArray := prog_1_method_68_code
def yX11_needRoomForComment : MethodName := ⟨RX11, "needRoomForComment", "()V"⟩
abbrev cX11_isIn : ByteArray := prog_1_method_69_code
def yX11_isIn : MethodName := ⟨RX11, "isIn", "(II)Z"⟩
abbrev cX11_moveDesk : ByteArray := prog_1_method_70_code
def yX11_moveDesk : MethodName := ⟨RX11, "moveDesk", "(I)I"⟩
abbrev cX11_addSet : ByteArray := prog_1_method_71_code
def yX11_addSet : MethodName := ⟨RX11, "addSet", "(ILReviewForge$Change;II)I"⟩
abbrev cX11_isAtOrAbove : ByteArray := prog_1_method_72_code
def yX11_isAtOrAbove : MethodName := ⟨RX11, "isAtOrAbove", "(II)Z"⟩
abbrev cX11_findParent : ByteArray := prog_1_method_73_code
def yX11_findParent : MethodName := ⟨RX11, "findParent", "(LReviewForge$Change;)LReviewForge$Change;"⟩
abbrev cX11_newBaseOf : ByteArray := prog_1_method_74_code
def yX11_newBaseOf : MethodName := ⟨RX11, "newBaseOf", "(LReviewForge$Change;)I"⟩
abbrev cX11_endChange : ByteArray := prog_1_method_75_code
def yX11_endChange : MethodName := ⟨RX11, "endChange", "(LReviewForge$Change;II)V"⟩
abbrev cX11_passTurns : ByteArray := prog_1_method_76_code
def yX11_passTurns : MethodName := ⟨RX11, "passTurns", "(ILReviewForge$Change;Z)V"⟩
abbrev cX11_noteAct : ByteArray := prog_1_method_77_code
def yX11_noteAct : MethodName := ⟨RX11, "noteAct", "(ILReviewForge$Change;)V"⟩
abbrev cX11_findDifference : ByteArray := prog_1_method_78_code
def yX11_findDifference : MethodName := ⟨RX11, "findDifference", "(IIIIZ)I"⟩
abbrev cX11_countUnresolved : ByteArray := prog_1_method_79_code
def yX11_countUnresolved : MethodName := ⟨RX11, "countUnresolved", "(I)I"⟩
abbrev cX11_isThreadUnresolved : ByteArray := prog_1_method_80_code
def yX11_isThreadUnresolved : MethodName := ⟨RX11, "isThreadUnresolved", "(I)Z"⟩
abbrev cX11_chooseFixes : ByteArray := prog_1_method_81_code
def yX11_chooseFixes : MethodName := ⟨RX11, "chooseFixes", "(II)J"⟩
abbrev cX11_isSomeTouching : ByteArray := prog_1_method_82_code
def yX11_isSomeTouching : MethodName := ⟨RX11, "isSomeTouching", "(J)Z"⟩
abbrev cX11_makeFixedFile : ByteArray := prog_1_method_83_code
def yX11_makeFixedFile : MethodName := ⟨RX11, "makeFixedFile", "(IIJ)Z"⟩
abbrev cX11_fixAt : ByteArray := prog_1_method_84_code
def yX11_fixAt : MethodName := ⟨RX11, "fixAt", "(IIJ)I"⟩
abbrev cX11_isChanged : ByteArray := prog_1_method_85_code
def yX11_isChanged : MethodName := ⟨RX11, "isChanged", "(LReviewForge$Change;I)Z"⟩
abbrev cX11_isOwnedBy : ByteArray := prog_1_method_86_code
def yX11_isOwnedBy : MethodName := ⟨RX11, "isOwnedBy", "(LReviewForge$Change;I)Z"⟩
abbrev cX11_factsOf : ByteArray := prog_1_method_87_code
def yX11_factsOf : MethodName := ⟨RX11, "factsOf", "(LReviewForge$Change;I)I"⟩
abbrev cX11_isParentSettled : ByteArray := prog_1_method_88_code
def yX11_isParentSettled : MethodName := ⟨RX11, "isParentSettled", "(LReviewForge$Change;I)Z"⟩
abbrev cX11_canLandIn : ByteArray := prog_1_method_89_code
def yX11_canLandIn : MethodName := ⟨RX11, "canLandIn", "(ILReviewForge$Change;)Z"⟩
def RX12 : String := "ReviewForgeModel"
def TX12 : u_T := fun k => match k with
  | _ => ("", "", "", false)
def tyX12 : Nat → FieldType := fun k => match k with
  | _ => .int
abbrev wsX120 : List Cond := u_ws RX12 TX12 0
theorem nmX12 : ∀ a, a < 0 → ∀ b, b < 0 → a ≠ b → (TX12 a).2.1 ≠ (TX12 b).2.1 := by decide +kernel
theorem tyX12_ok : ∀ k, k < 0 → parseFieldDescriptor (TX12 k).2.2.1 = some (tyX12 k) := by decide +kernel
def RJx145de : String := "java/io/Serializable"
def TJx145de : u_T := fun k => match k with
  | _ => ("", "", "", false)
def tyJx145de : Nat → FieldType := fun k => match k with
  | _ => .int
abbrev wsJx145de0 : List Cond := u_ws RJx145de TJx145de 0
theorem nmJx145de : ∀ a, a < 0 → ∀ b, b < 0 → a ≠ b → (TJx145de a).2.1 ≠ (TJx145de b).2.1 := by decide +kernel
theorem tyJx145de_ok : ∀ k, k < 0 → parseFieldDescriptor (TJx145de k).2.2.1 = some (tyJx145de k) := by decide +kernel
def RJx8e188 : String := "java/lang/Cloneable"
def TJx8e188 : u_T := fun k => match k with
  | _ => ("", "", "", false)
def tyJx8e188 : Nat → FieldType := fun k => match k with
  | _ => .int
abbrev wsJx8e1880 : List Cond := u_ws RJx8e188 TJx8e188 0
theorem nmJx8e188 : ∀ a, a < 0 → ∀ b, b < 0 → a ≠ b → (TJx8e188 a).2.1 ≠ (TJx8e188 b).2.1 := by decide +kernel
theorem tyJx8e188_ok : ∀ k, k < 0 → parseFieldDescriptor (TJx8e188 k).2.2.1 = some (tyJx8e188 k) := by decide +kernel
def RJ6 : String := "java/lang/Integer"
def TJ6 : u_T := fun k => match k with
  | _ => ("", "", "", false)
def tyJ6 : Nat → FieldType := fun k => match k with
  | _ => .int
abbrev wsJ60 : List Cond := u_ws RJ6 TJ6 0
theorem nmJ6 : ∀ a, a < 0 → ∀ b, b < 0 → a ≠ b → (TJ6 a).2.1 ≠ (TJ6 b).2.1 := by decide +kernel
theorem tyJ6_ok : ∀ k, k < 0 → parseFieldDescriptor (TJ6 k).2.2.1 = some (tyJ6 k) := by decide +kernel
abbrev cJ6_bitCount_0f7a4 : ByteArray := prog_21_method_49_code
def yJ6_bitCount_0f7a4 : MethodName := ⟨RJ6, "bitCount", "(I)I"⟩
def RJxab1ab : String := "java/lang/Iterable"
def TJxab1ab : u_T := fun k => match k with
  | _ => ("", "", "", false)
def tyJxab1ab : Nat → FieldType := fun k => match k with
  | _ => .int
abbrev wsJxab1ab0 : List Cond := u_ws RJxab1ab TJxab1ab 0
theorem nmJxab1ab : ∀ a, a < 0 → ∀ b, b < 0 → a ≠ b → (TJxab1ab a).2.1 ≠ (TJxab1ab b).2.1 := by decide +kernel
theorem tyJxab1ab_ok : ∀ k, k < 0 → parseFieldDescriptor (TJxab1ab k).2.2.1 = some (tyJxab1ab k) := by decide +kernel
def RJ9 : String := "java/lang/Math"
def TJ9 : u_T := fun k => match k with
  | _ => ("", "", "", false)
def tyJ9 : Nat → FieldType := fun k => match k with
  | _ => .int
abbrev wsJ90 : List Cond := u_ws RJ9 TJ9 0
theorem nmJ9 : ∀ a, a < 0 → ∀ b, b < 0 → a ≠ b → (TJ9 a).2.1 ≠ (TJ9 b).2.1 := by decide +kernel
theorem tyJ9_ok : ∀ k, k < 0 → parseFieldDescriptor (TJ9 k).2.2.1 = some (tyJ9 k) := by decide +kernel
abbrev cJ9_max_7cf53 : ByteArray := prog_23_method_65_code
def yJ9_max_7cf53 : MethodName := ⟨RJ9, "max", "(II)I"⟩
abbrev cJ9_min_7cf53 : ByteArray := prog_23_method_69_code
def yJ9_min_7cf53 : MethodName := ⟨RJ9, "min", "(II)I"⟩
def RJ0 : String := "java/lang/String"
def TJ0 : u_T := fun k => match k with
  | _ => ("", "", "", false)
def tyJ0 : Nat → FieldType := fun k => match k with
  | _ => .int
abbrev wsJ00 : List Cond := u_ws RJ0 TJ0 0
theorem nmJ0 : ∀ a, a < 0 → ∀ b, b < 0 → a ≠ b → (TJ0 a).2.1 ≠ (TJ0 b).2.1 := by decide +kernel
theorem tyJ0_ok : ∀ k, k < 0 → parseFieldDescriptor (TJ0 k).2.2.1 = some (tyJ0 k) := by decide +kernel
def RJ10 : String := "java/lang/System"
def TJ10 : u_T := fun k => match k with
  | _ => ("", "", "", false)
def tyJ10 : Nat → FieldType := fun k => match k with
  | _ => .int
abbrev wsJ100 : List Cond := u_ws RJ10 TJ10 0
theorem nmJ10 : ∀ a, a < 0 → ∀ b, b < 0 → a ≠ b → (TJ10 a).2.1 ≠ (TJ10 b).2.1 := by decide +kernel
theorem tyJ10_ok : ∀ k, k < 0 → parseFieldDescriptor (TJ10 k).2.2.1 = some (tyJ10 k) := by decide +kernel
def RJxa1e45 : String := "java/util/AbstractCollection"
def TJxa1e45 : u_T := fun k => match k with
  | _ => ("", "", "", false)
def tyJxa1e45 : Nat → FieldType := fun k => match k with
  | _ => .int
abbrev wsJxa1e450 : List Cond := u_ws RJxa1e45 TJxa1e45 0
theorem nmJxa1e45 : ∀ a, a < 0 → ∀ b, b < 0 → a ≠ b → (TJxa1e45 a).2.1 ≠ (TJxa1e45 b).2.1 := by decide +kernel
theorem tyJxa1e45_ok : ∀ k, k < 0 → parseFieldDescriptor (TJxa1e45 k).2.2.1 = some (tyJxa1e45 k) := by decide +kernel
abbrev cJxa1e45_init_da8c8 : ByteArray := prog_28_method_1_code
def yJxa1e45_init_da8c8 : MethodName := ⟨RJxa1e45, "<init>", "()V"⟩
def RJxc12de : String := "java/util/AbstractList"
def TJxc12de : u_T := fun k => match k with
  | _ => ("", "", "", false)
def tyJxc12de : Nat → FieldType := fun k => match k with
  | _ => .int
abbrev wsJxc12de0 : List Cond := u_ws RJxc12de TJxc12de 0
theorem nmJxc12de : ∀ a, a < 0 → ∀ b, b < 0 → a ≠ b → (TJxc12de a).2.1 ≠ (TJxc12de b).2.1 := by decide +kernel
theorem tyJxc12de_ok : ∀ k, k < 0 → parseFieldDescriptor (TJxc12de k).2.2.1 = some (tyJxc12de k) := by decide +kernel
abbrev cJxc12de_init_da8c8 : ByteArray := prog_29_method_1_code
def yJxc12de_init_da8c8 : MethodName := ⟨RJxc12de, "<init>", "()V"⟩
def RJx4a65c : String := "java/util/ArrayList"
def TJx4a65c : u_T := fun k => match k with
  | 0 => ("java/util/AbstractList", "modCount", "I", false)
  | 1 => ("java/util/ArrayList", "elementData", "[Ljava/lang/Object;", false)
  | _ => ("java/util/ArrayList", "size", "I", false)
def tyJx4a65c : Nat → FieldType := fun k => match k with
  | 0 => .int
  | 1 => .array (.object "java/lang/Object")
  | _ => .int
abbrev wsJx4a65c0 : List Cond := u_ws RJx4a65c TJx4a65c 3
theorem nmJx4a65c : ∀ a, a < 3 → ∀ b, b < 3 → a ≠ b → (TJx4a65c a).2.1 ≠ (TJx4a65c b).2.1 := by decide +kernel
theorem tyJx4a65c_ok : ∀ k, k < 3 → parseFieldDescriptor (TJx4a65c k).2.2.1 = some (tyJx4a65c k) := by decide +kernel
abbrev cJx4a65c_init_da8c8 : ByteArray := prog_30_method_2_code
def yJx4a65c_init_da8c8 : MethodName := ⟨RJx4a65c, "<init>", "()V"⟩
abbrev cJx4a65c_grow_92f84 : ByteArray := prog_30_method_6_code
def yJx4a65c_grow_92f84 : MethodName := ⟨RJx4a65c, "grow", "(I)[Ljava/lang/Object;"⟩
abbrev cJx4a65c_grow_d5877 : ByteArray := prog_30_method_7_code
def yJx4a65c_grow_d5877 : MethodName := ⟨RJx4a65c, "grow", "()[Ljava/lang/Object;"⟩
abbrev cJx4a65c_size_8abf5 : ByteArray := prog_30_method_8_code
def yJx4a65c_size_8abf5 : MethodName := ⟨RJx4a65c, "size", "()I"⟩
abbrev cJx4a65c_elementData_915e3 : ByteArray := prog_30_method_18_code
def yJx4a65c_elementData_915e3 : MethodName := ⟨RJx4a65c, "elementData", "(I)Ljava/lang/Object;"⟩
abbrev cJx4a65c_get_915e3 : ByteArray := prog_30_method_20_code
def yJx4a65c_get_915e3 : MethodName := ⟨RJx4a65c, "get", "(I)Ljava/lang/Object;"⟩
abbrev cJx4a65c_add_72be8 : ByteArray := prog_30_method_24_code
def yJx4a65c_add_72be8 : MethodName := ⟨RJx4a65c, "add", "(Ljava/lang/Object;[Ljava/lang/Object;I)V"⟩
abbrev cJx4a65c_add_9ea2d : ByteArray := prog_30_method_25_code
def yJx4a65c_add_9ea2d : MethodName := ⟨RJx4a65c, "add", "(Ljava/lang/Object;)Z"⟩
def RJ7 : String := "java/util/Arrays"
def TJ7 : u_T := fun k => match k with
  | _ => ("", "", "", false)
def tyJ7 : Nat → FieldType := fun k => match k with
  | _ => .int
abbrev wsJ70 : List Cond := u_ws RJ7 TJ7 0
theorem nmJ7 : ∀ a, a < 0 → ∀ b, b < 0 → a ≠ b → (TJ7 a).2.1 ≠ (TJ7 b).2.1 := by decide +kernel
theorem tyJ7_ok : ∀ k, k < 0 → parseFieldDescriptor (TJ7 k).2.2.1 = some (tyJ7 k) := by decide +kernel
abbrev cJ7_fill_53178 : ByteArray := prog_31_method_103_code
def yJ7_fill_53178 : MethodName := ⟨RJ7, "fill", "([II)V"⟩
abbrev cJ7_copyOf_1904c : ByteArray := prog_31_method_119_code
def yJ7_copyOf_1904c : MethodName := ⟨RJ7, "copyOf", "([Ljava/lang/Object;I)[Ljava/lang/Object;"⟩
abbrev cJ7_copyOf_6403c : ByteArray := prog_31_method_120_code
def yJ7_copyOf_6403c : MethodName := ⟨RJ7, "copyOf", "([Ljava/lang/Object;ILjava/lang/Class;)[Ljava/lang/Object;"⟩
def RJx5ef63 : String := "java/util/Collection"
def TJx5ef63 : u_T := fun k => match k with
  | _ => ("", "", "", false)
def tyJx5ef63 : Nat → FieldType := fun k => match k with
  | _ => .int
abbrev wsJx5ef630 : List Cond := u_ws RJx5ef63 TJx5ef63 0
theorem nmJx5ef63 : ∀ a, a < 0 → ∀ b, b < 0 → a ≠ b → (TJx5ef63 a).2.1 ≠ (TJx5ef63 b).2.1 := by decide +kernel
theorem tyJx5ef63_ok : ∀ k, k < 0 → parseFieldDescriptor (TJx5ef63 k).2.2.1 = some (tyJx5ef63 k) := by decide +kernel
def RJxbd725 : String := "java/util/List"
def TJxbd725 : u_T := fun k => match k with
  | _ => ("", "", "", false)
def tyJxbd725 : Nat → FieldType := fun k => match k with
  | _ => .int
abbrev wsJxbd7250 : List Cond := u_ws RJxbd725 TJxbd725 0
theorem nmJxbd725 : ∀ a, a < 0 → ∀ b, b < 0 → a ≠ b → (TJxbd725 a).2.1 ≠ (TJxbd725 b).2.1 := by decide +kernel
theorem tyJxbd725_ok : ∀ k, k < 0 → parseFieldDescriptor (TJxbd725 k).2.2.1 = some (tyJxbd725 k) := by decide +kernel
def RJ15 : String := "java/util/Objects"
def TJ15 : u_T := fun k => match k with
  | _ => ("", "", "", false)
def tyJ15 : Nat → FieldType := fun k => match k with
  | _ => .int
abbrev wsJ150 : List Cond := u_ws RJ15 TJ15 0
theorem nmJ15 : ∀ a, a < 0 → ∀ b, b < 0 → a ≠ b → (TJ15 a).2.1 ≠ (TJ15 b).2.1 := by decide +kernel
theorem tyJ15_ok : ∀ k, k < 0 → parseFieldDescriptor (TJ15 k).2.2.1 = some (tyJ15 k) := by decide +kernel
abbrev cJ15_checkIndex_7cf53 : ByteArray := prog_34_method_17_code
def yJ15_checkIndex_7cf53 : MethodName := ⟨RJ15, "checkIndex", "(II)I"⟩
def RJxf0a74 : String := "java/util/RandomAccess"
def TJxf0a74 : u_T := fun k => match k with
  | _ => ("", "", "", false)
def tyJxf0a74 : Nat → FieldType := fun k => match k with
  | _ => .int
abbrev wsJxf0a740 : List Cond := u_ws RJxf0a74 TJxf0a74 0
theorem nmJxf0a74 : ∀ a, a < 0 → ∀ b, b < 0 → a ≠ b → (TJxf0a74 a).2.1 ≠ (TJxf0a74 b).2.1 := by decide +kernel
theorem tyJxf0a74_ok : ∀ k, k < 0 → parseFieldDescriptor (TJxf0a74 k).2.2.1 = some (tyJxf0a74 k) := by decide +kernel
def RJxa66e6 : String := "java/util/SequencedCollection"
def TJxa66e6 : u_T := fun k => match k with
  | _ => ("", "", "", false)
def tyJxa66e6 : Nat → FieldType := fun k => match k with
  | _ => .int
abbrev wsJxa66e60 : List Cond := u_ws RJxa66e6 TJxa66e6 0
theorem nmJxa66e6 : ∀ a, a < 0 → ∀ b, b < 0 → a ≠ b → (TJxa66e6 a).2.1 ≠ (TJxa66e6 b).2.1 := by decide +kernel
theorem tyJxa66e6_ok : ∀ k, k < 0 → parseFieldDescriptor (TJxa66e6 k).2.2.1 = some (tyJxa66e6 k) := by decide +kernel
def RJ8 : String := "jdk/internal/util/ArraysSupport"
def TJ8 : u_T := fun k => match k with
  | _ => ("", "", "", false)
def tyJ8 : Nat → FieldType := fun k => match k with
  | _ => .int
abbrev wsJ80 : List Cond := u_ws RJ8 TJ8 0
theorem nmJ8 : ∀ a, a < 0 → ∀ b, b < 0 → a ≠ b → (TJ8 a).2.1 ≠ (TJ8 b).2.1 := by decide +kernel
theorem tyJ8_ok : ∀ k, k < 0 → parseFieldDescriptor (TJ8 k).2.2.1 = some (tyJ8 k) := by decide +kernel
abbrev cJ8_newLength_cabcc : ByteArray := prog_37_method_27_code
def yJ8_newLength_cabcc : MethodName := ⟨RJ8, "newLength", "(III)I"⟩
abbrev cJ8_hugeLength_7cf53 : ByteArray := prog_37_method_28_code
def yJ8_hugeLength_7cf53 : MethodName := ⟨RJ8, "hugeLength", "(II)I"⟩
def RJ3 : String := "jdk/internal/util/Preconditions"
def TJ3 : u_T := fun k => match k with
  | _ => ("", "", "", false)
def tyJ3 : Nat → FieldType := fun k => match k with
  | _ => .int
abbrev wsJ30 : List Cond := u_ws RJ3 TJ3 0
theorem nmJ3 : ∀ a, a < 0 → ∀ b, b < 0 → a ≠ b → (TJ3 a).2.1 ≠ (TJ3 b).2.1 := by decide +kernel
theorem tyJ3_ok : ∀ k, k < 0 → parseFieldDescriptor (TJ3 k).2.2.1 = some (tyJ3 k) := by decide +kernel
abbrev cJ3_checkIndex_8e157 : ByteArray := prog_38_method_11_code
def yJ3_checkIndex_8e157 : MethodName := ⟨RJ3, "checkIndex", "(IILjava/util/function/BiFunction;)I"⟩
def RL : String := "ReviewForgeLaw"
abbrev cL_dice : ByteArray := method_2_code
def yL_dice : MethodName := ⟨RL, "dice", "([II)I"⟩
abbrev cL_act : ByteArray := method_3_code
def yL_act : MethodName := ⟨RL, "act", "(LReviewForge;IIIIII)I"⟩
abbrev cL_commented : ByteArray := method_4_code
def yL_commented : MethodName := ⟨RL, "commented", "(LReviewForge;IIIIII)I"⟩
abbrev cL_found : ByteArray := method_5_code
def yL_found : MethodName := ⟨RL, "found", "(LReviewForge;IIIIII)I"⟩
abbrev cL_of : ByteArray := method_6_code
def yL_of : MethodName := ⟨RL, "of", "(LReviewForge;IIIII)I"⟩
abbrev cL_size : ByteArray := method_7_code
def yL_size : MethodName := ⟨RL, "size", "(LReviewForge;II)I"⟩
abbrev cL_now : ByteArray := method_8_code
def yL_now : MethodName := ⟨RL, "now", "(LReviewForge;I)I"⟩
abbrev cL_all : ByteArray := method_9_code
def yL_all : MethodName := ⟨RL, "all", "(LReviewForge;)J"⟩
abbrev cL_most : ByteArray := method_10_code
def yL_most : MethodName := ⟨RL, "most", "(LReviewForge;III)I"⟩
abbrev cL_areHunks : ByteArray := method_11_code
def yL_areHunks : MethodName := ⟨RL, "areHunks", "(LReviewForge;IIII)Z"⟩
abbrev cL_isShown : ByteArray := method_12_code
def yL_isShown : MethodName := ⟨RL, "isShown", "(LReviewForge;[III)Z"⟩
abbrev cL_isChanged : ByteArray := method_13_code
def yL_isChanged : MethodName := ⟨RL, "isChanged", "(LReviewForge;II)Z"⟩
abbrev cL_repo : ByteArray := method_14_code
def yL_repo : MethodName := ⟨RL, "repo", "(LReviewForge;I)I"⟩
abbrev cL_areFacts : ByteArray := method_15_code
def yL_areFacts : MethodName := ⟨RL, "areFacts", "(LReviewForge;[II)Z"⟩
abbrev cL_areChanges : ByteArray := method_16_code
def yL_areChanges : MethodName := ⟨RL, "areChanges", "(LReviewForge;[II)Z"⟩
abbrev cL_isLanded : ByteArray := method_17_code
def yL_isLanded : MethodName := ⟨RL, "isLanded", "(LReviewForge;II)Z"⟩
abbrev cL_isRefused : ByteArray := method_18_code
def yL_isRefused : MethodName := ⟨RL, "isRefused", "(LReviewForge;[I[II)Z"⟩
abbrev cL_law : ByteArray := code
def yL_law : MethodName := ⟨RL, "law", "([I)Z"⟩
abbrev vwCl : List vw_C := [(RJx4a65c, TJx4a65c, 3), (RX0, TX0, 13), (RX1, TX1, 5), (RX2, TX2, 4), (RX3, TX3, 11), (RX4, TX4, 3), (RX5, TX5, 6), (RX6, TX6, 4), (RX7, TX7, 5), (RX8, TX8, 7), (RX9, TX9, 11), (RX10, TX10, 3), (RX11, TX11, 12)]
