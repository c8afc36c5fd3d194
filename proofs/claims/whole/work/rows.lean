section
-- ===== PART A: goes FIRST, ahead of the names: the tables' words, and 'selects' of the private methods out of them =====
/-- a private method of a class that the tables say can be made, by its rows of tables_1 -/
def lw_okq (q : MethodName × Nat) : Prop := (q.1.cls ≠ "java/lang/invoke/MethodHandle" ∧ q.1.cls ≠ "java/lang/invoke/VarHandle") ∧ Cond.instantiable q.1.cls q.2 ∈ tables_1 ∧ Cond.privateMethod q.1 ∈ tables_1 ∧ Cond.instanceMethod q.1 ∈ tables_1
theorem lw_p0 : lw_okq (⟨"SnapshotPieces$Joiner", "forget", "(I)V"⟩, 8) := ⟨⟨by decide +kernel, by decide +kernel⟩, List.mem_of_getElem? (i := 74) (by decide +kernel), List.mem_of_getElem? (i := 269) (by decide +kernel), List.mem_of_getElem? (i := 270) (by decide +kernel)⟩
theorem lw_p1 : lw_okq (⟨"SnapshotPieces$Joiner", "learn", "(IJ)V"⟩, 8) := ⟨⟨by decide +kernel, by decide +kernel⟩, List.mem_of_getElem? (i := 74) (by decide +kernel), List.mem_of_getElem? (i := 274) (by decide +kernel), List.mem_of_getElem? (i := 275) (by decide +kernel)⟩
theorem lw_p2 : lw_okq (⟨"SnapshotPieces$Joiner", "findLacks", "()V"⟩, 8) := ⟨⟨by decide +kernel, by decide +kernel⟩, List.mem_of_getElem? (i := 74) (by decide +kernel), List.mem_of_getElem? (i := 284) (by decide +kernel), List.mem_of_getElem? (i := 285) (by decide +kernel)⟩
theorem lw_p3 : lw_okq (⟨"SnapshotPieces", "exchange", "(IIZ)I"⟩, 6) := ⟨⟨by decide +kernel, by decide +kernel⟩, List.mem_of_getElem? (i := 10) (by decide +kernel), List.mem_of_getElem? (i := 300) (by decide +kernel), List.mem_of_getElem? (i := 301) (by decide +kernel)⟩
theorem lw_p4 : lw_okq (⟨"SnapshotPieces$Piece", "turnFirst", "()V"⟩, 6) := ⟨⟨by decide +kernel, by decide +kernel⟩, List.mem_of_getElem? (i := 125) (by decide +kernel), List.mem_of_getElem? (i := 318) (by decide +kernel), List.mem_of_getElem? (i := 319) (by decide +kernel)⟩
theorem lw_p5 : lw_okq (⟨"SnapshotPiecesModel", "stateAt", "(I)V"⟩, 20) := ⟨⟨by decide +kernel, by decide +kernel⟩, List.mem_of_getElem? (i := 431) (by decide +kernel), List.mem_of_getElem? (i := 509) (by decide +kernel), List.mem_of_getElem? (i := 510) (by decide +kernel)⟩
theorem lw_p6 : lw_okq (⟨"SnapshotPiecesModel", "build", "([J)V"⟩, 20) := ⟨⟨by decide +kernel, by decide +kernel⟩, List.mem_of_getElem? (i := 431) (by decide +kernel), List.mem_of_getElem? (i := 517) (by decide +kernel), List.mem_of_getElem? (i := 518) (by decide +kernel)⟩
theorem lw_p7 : lw_okq (⟨"SnapshotPiecesModel", "lacks", "(I)Z"⟩, 20) := ⟨⟨by decide +kernel, by decide +kernel⟩, List.mem_of_getElem? (i := 431) (by decide +kernel), List.mem_of_getElem? (i := 542) (by decide +kernel), List.mem_of_getElem? (i := 543) (by decide +kernel)⟩
theorem lw_p8 : lw_okq (⟨"SnapshotPiecesModel", "know", "(IJ)V"⟩, 20) := ⟨⟨by decide +kernel, by decide +kernel⟩, List.mem_of_getElem? (i := 431) (by decide +kernel), List.mem_of_getElem? (i := 551) (by decide +kernel), List.mem_of_getElem? (i := 552) (by decide +kernel)⟩
theorem lw_p9 : lw_okq (⟨"SnapshotPiecesModel", "lacking", "()I"⟩, 20) := ⟨⟨by decide +kernel, by decide +kernel⟩, List.mem_of_getElem? (i := 431) (by decide +kernel), List.mem_of_getElem? (i := 561) (by decide +kernel), List.mem_of_getElem? (i := 562) (by decide +kernel)⟩
theorem lw_p10 : lw_okq (⟨"SnapshotPiecesModel", "asking", "(IIZ)I"⟩, 20) := ⟨⟨by decide +kernel, by decide +kernel⟩, List.mem_of_getElem? (i := 431) (by decide +kernel), List.mem_of_getElem? (i := 569) (by decide +kernel), List.mem_of_getElem? (i := 570) (by decide +kernel)⟩
theorem lw_p11 : lw_okq (⟨"SnapshotPiecesModel", "leafComes", "(II)Z"⟩, 20) := ⟨⟨by decide +kernel, by decide +kernel⟩, List.mem_of_getElem? (i := 431) (by decide +kernel), List.mem_of_getElem? (i := 573) (by decide +kernel), List.mem_of_getElem? (i := 574) (by decide +kernel)⟩
theorem lw_p12 : lw_okq (⟨"SnapshotPiecesModel", "rowComes", "(II)Z"⟩, 20) := ⟨⟨by decide +kernel, by decide +kernel⟩, List.mem_of_getElem? (i := 431) (by decide +kernel), List.mem_of_getElem? (i := 577) (by decide +kernel), List.mem_of_getElem? (i := 578) (by decide +kernel)⟩
theorem lw_p13 : lw_okq (⟨"SnapshotPiecesModel", "pairComes", "(II)Z"⟩, 20) := ⟨⟨by decide +kernel, by decide +kernel⟩, List.mem_of_getElem? (i := 431) (by decide +kernel), List.mem_of_getElem? (i := 581) (by decide +kernel), List.mem_of_getElem? (i := 582) (by decide +kernel)⟩
def lw_privs_1 : List (MethodName × Nat) := [(⟨"SnapshotPieces$Joiner", "forget", "(I)V"⟩, 8), (⟨"SnapshotPieces$Joiner", "learn", "(IJ)V"⟩, 8), (⟨"SnapshotPieces$Joiner", "findLacks", "()V"⟩, 8), (⟨"SnapshotPieces", "exchange", "(IIZ)I"⟩, 6), (⟨"SnapshotPieces$Piece", "turnFirst", "()V"⟩, 6), (⟨"SnapshotPiecesModel", "stateAt", "(I)V"⟩, 20), (⟨"SnapshotPiecesModel", "build", "([J)V"⟩, 20), (⟨"SnapshotPiecesModel", "lacks", "(I)Z"⟩, 20), (⟨"SnapshotPiecesModel", "know", "(IJ)V"⟩, 20), (⟨"SnapshotPiecesModel", "lacking", "()I"⟩, 20), (⟨"SnapshotPiecesModel", "asking", "(IIZ)I"⟩, 20), (⟨"SnapshotPiecesModel", "leafComes", "(II)Z"⟩, 20), (⟨"SnapshotPiecesModel", "rowComes", "(II)Z"⟩, 20), (⟨"SnapshotPiecesModel", "pairComes", "(II)Z"⟩, 20)]
theorem lw_r1 : ∀ q ∈ lw_privs_1, lw_okq q := List.forall_mem_cons.mpr ⟨lw_p0, List.forall_mem_cons.mpr ⟨lw_p1, List.forall_mem_cons.mpr ⟨lw_p2, List.forall_mem_cons.mpr ⟨lw_p3, List.forall_mem_cons.mpr ⟨lw_p4, List.forall_mem_cons.mpr ⟨lw_p5, List.forall_mem_cons.mpr ⟨lw_p6, List.forall_mem_cons.mpr ⟨lw_p7, List.forall_mem_cons.mpr ⟨lw_p8, List.forall_mem_cons.mpr ⟨lw_p9, List.forall_mem_cons.mpr ⟨lw_p10, List.forall_mem_cons.mpr ⟨lw_p11, List.forall_mem_cons.mpr ⟨lw_p12, List.forall_mem_cons.mpr ⟨lw_p13, fun _ h => absurd h List.not_mem_nil⟩⟩⟩⟩⟩⟩⟩⟩⟩⟩⟩⟩⟩⟩
def lw_privs : List (MethodName × Nat) := lw_privs_1
def lw_tbl : List Cond := k2_sels lw_privs ++ tables_1
theorem lw_privs_ok : ∀ q ∈ lw_privs, lw_okq q := lw_r1
end
section
/-! ===== BEGIN words of one list among another's, by their places ===== -/
theorem goodIn_r {big : List Cond} (ws : List Cond) (ps : List Nat) (hp : ws = ps.filterMap (fun i => big[i]?)) (h : ws.all goodWord = true) : GoodIn big ws := by
  intro w hw
  have h1 := List.all_eq_true.mp h w hw
  rw [hp] at hw
  obtain ⟨i, -, hi⟩ := List.mem_filterMap.mp hw
  have hm : w ∈ big := by first | exact List.mem_of_getElem? hi | exact List.getElem?_mem hi
  exact ⟨hm, good_of_word h1⟩
theorem goodIn_app {big a b : List Cond} (ha : GoodIn big a) (hb : GoodIn big b) : GoodIn big (a ++ b) := fun w h => (List.mem_append.mp h).elim (ha w) (hb w)
theorem goodIn_ca {big a b : List Cond} {c : Cond} (ha : GoodIn big (c :: a)) (hb : GoodIn big b) : GoodIn big (c :: (a ++ b)) := fun w h => (List.mem_cons.mp h).elim (fun e => ha w (List.mem_cons.mpr (Or.inl e))) (fun h => (List.mem_append.mp h).elim (fun h => ha w (List.mem_cons.mpr (Or.inr h))) (hb w))
theorem goodIn_sub {big ws : List Cond} (hm : ∀ w ∈ ws, w ∈ big) (h : ws.all goodWord = true) : GoodIn big ws := fun w hw => ⟨hm w hw, good_of_word (List.all_eq_true.mp h w hw)⟩
/-! ===== END ===== -/

/-! ===== BEGIN printed: names, fields, word lists, decode rows ===== -/
def RX0 : String := "SnapshotPieces$Givers"
def TX0 : u_T := fun k => match k with
  | 0 => ("SnapshotPieces$Givers", "kindOf", "[I", true)
  | 1 => ("SnapshotPieces$Givers", "headOf", "[I", true)
  | 2 => ("SnapshotPieces$Givers", "asksOf", "[I", true)
  | 3 => ("SnapshotPieces$Givers", "faultsOf", "[I", true)
  | 4 => ("SnapshotPieces$Givers", "namedRow", "[I", true)
  | 5 => ("SnapshotPieces$Givers", "size", "I", false)
  | 6 => ("SnapshotPieces$Givers", "namedSize", "I", false)
  | _ => ("SnapshotPieces$Givers", "allAsks", "I", false)
def tyX0 : Nat → FieldType := fun k => match k with
  | 0 => .array .int
  | 1 => .array .int
  | 2 => .array .int
  | 3 => .array .int
  | 4 => .array .int
  | 5 => .int
  | 6 => .int
  | _ => .int
abbrev wsX00 : List Cond := u_ws RX0 TX0 8
theorem nmX0 : ∀ a, a < 8 → ∀ b, b < 8 → a ≠ b → (TX0 a).2.1 ≠ (TX0 b).2.1 := by decide +kernel
theorem tyX0_ok : ∀ k, k < 8 → parseFieldDescriptor (TX0 k).2.2.1 = some (tyX0 k) := by decide +kernel
abbrev cX0_init : ByteArray := prog_2_method_1_code
def yX0_init : MethodName := ⟨RX0, "<init>", "()V"⟩
abbrev cX0_has : ByteArray := prog_2_method_2_code
def yX0_has : MethodName := ⟨RX0, "has", "(I)Z"⟩
abbrev cX0_append : ByteArray := prog_2_method_3_code
def yX0_append : MethodName := ⟨RX0, "append", "(II)Z"⟩
abbrev cX0_answers : ByteArray := prog_2_method_4_code
def yX0_answers : MethodName := ⟨RX0, "answers", "(II)Z"⟩
abbrev cX0_blame : ByteArray := prog_2_method_5_code
def yX0_blame : MethodName := ⟨RX0, "blame", "(I)V"⟩
def RX1 : String := "SnapshotPieces$Joiner"
def TX1 : u_T := fun k => match k with
  | 0 => ("SnapshotPieces$Joiner", "own", "LSnapshotPieces$Tree;", true)
  | 1 => ("SnapshotPieces$Joiner", "now", "LSnapshotPieces$Tree;", true)
  | 2 => ("SnapshotPieces$Joiner", "before", "LSnapshotPieces$Tree;", true)
  | 3 => ("SnapshotPieces$Joiner", "known", "[Z", true)
  | 4 => ("SnapshotPieces$Joiner", "due", "[J", true)
  | 5 => ("SnapshotPieces$Joiner", "lackRow", "[I", true)
  | 6 => ("SnapshotPieces$Joiner", "lackSize", "I", false)
  | _ => ("SnapshotPieces$Joiner", "goal", "I", false)
def tyX1 : Nat → FieldType := fun k => match k with
  | 0 => .object "SnapshotPieces$Tree"
  | 1 => .object "SnapshotPieces$Tree"
  | 2 => .object "SnapshotPieces$Tree"
  | 3 => .array .boolean
  | 4 => .array .long
  | 5 => .array .int
  | 6 => .int
  | _ => .int
abbrev wsX10 : List Cond := u_ws RX1 TX1 8
theorem nmX1 : ∀ a, a < 8 → ∀ b, b < 8 → a ≠ b → (TX1 a).2.1 ≠ (TX1 b).2.1 := by decide +kernel
theorem tyX1_ok : ∀ k, k < 8 → parseFieldDescriptor (TX1 k).2.2.1 = some (tyX1 k) := by decide +kernel
abbrev cX1_init : ByteArray := prog_3_method_1_code
def yX1_init : MethodName := ⟨RX1, "<init>", "()V"⟩
abbrev cX1_hasGoal : ByteArray := prog_3_method_2_code
def yX1_hasGoal : MethodName := ⟨RX1, "hasGoal", "()Z"⟩
abbrev cX1_isWhole : ByteArray := prog_3_method_3_code
def yX1_isWhole : MethodName := ⟨RX1, "isWhole", "()Z"⟩
abbrev cX1_lacks : ByteArray := prog_3_method_4_code
def yX1_lacks : MethodName := ⟨RX1, "lacks", "(I)Z"⟩
abbrev cX1_lackAt : ByteArray := prog_3_method_5_code
def yX1_lackAt : MethodName := ⟨RX1, "lackAt", "(I)I"⟩
abbrev cX1_knownSize : ByteArray := prog_3_method_6_code
def yX1_knownSize : MethodName := ⟨RX1, "knownSize", "()I"⟩
abbrev cX1_aim : ByteArray := prog_3_method_7_code
def yX1_aim : MethodName := ⟨RX1, "aim", "(ILSnapshotPieces$Source;)V"⟩
abbrev cX1_forgetBelowRoot : ByteArray := prog_3_method_8_code
def yX1_forgetBelowRoot : MethodName := ⟨RX1, "forgetBelowRoot", "()V"⟩
abbrev cX1_spoil : ByteArray := prog_3_method_9_code
def yX1_spoil : MethodName := ⟨RX1, "spoil", "(IJ)V"⟩
abbrev cX1_judge : ByteArray := prog_3_method_10_code
def yX1_judge : MethodName := ⟨RX1, "judge", "(LSnapshotPieces$Piece;)Z"⟩
abbrev cX1_take : ByteArray := prog_3_method_11_code
def yX1_take : MethodName := ⟨RX1, "take", "(LSnapshotPieces$Piece;)V"⟩
abbrev cX1_forget : ByteArray := prog_3_method_12_code
def yX1_forget : MethodName := ⟨RX1, "forget", "(I)V"⟩
abbrev cX1_learn : ByteArray := prog_3_method_13_code
def yX1_learn : MethodName := ⟨RX1, "learn", "(IJ)V"⟩
abbrev cX1_findLacks : ByteArray := prog_3_method_14_code
def yX1_findLacks : MethodName := ⟨RX1, "findLacks", "()V"⟩
def RX2 : String := "SnapshotPieces$Piece"
def TX2 : u_T := fun k => match k with
  | 0 => ("SnapshotPieces$Piece", "leaves", "LSnapshotPieces$Tree;", true)
  | 1 => ("SnapshotPieces$Piece", "node", "I", false)
  | 2 => ("SnapshotPieces$Piece", "pair", "Z", false)
  | 3 => ("SnapshotPieces$Piece", "left", "J", false)
  | 4 => ("SnapshotPieces$Piece", "right", "J", false)
  | _ => ("SnapshotPieces$Piece", "bytes", "I", false)
def tyX2 : Nat → FieldType := fun k => match k with
  | 0 => .object "SnapshotPieces$Tree"
  | 1 => .int
  | 2 => .boolean
  | 3 => .long
  | 4 => .long
  | _ => .int
abbrev wsX20 : List Cond := u_ws RX2 TX2 6
theorem nmX2 : ∀ a, a < 6 → ∀ b, b < 6 → a ≠ b → (TX2 a).2.1 ≠ (TX2 b).2.1 := by decide +kernel
theorem tyX2_ok : ∀ k, k < 6 → parseFieldDescriptor (TX2 k).2.2.1 = some (tyX2 k) := by decide +kernel
abbrev cX2_init : ByteArray := prog_4_method_1_code
def yX2_init : MethodName := ⟨RX2, "<init>", "()V"⟩
abbrev cX2_fillPair : ByteArray := prog_4_method_2_code
def yX2_fillPair : MethodName := ⟨RX2, "fillPair", "(ILSnapshotPieces$Tree;I)V"⟩
abbrev cX2_fillLeaves : ByteArray := prog_4_method_3_code
def yX2_fillLeaves : MethodName := ⟨RX2, "fillLeaves", "(ILSnapshotPieces$Tree;I)V"⟩
abbrev cX2_ownDigest : ByteArray := prog_4_method_4_code
def yX2_ownDigest : MethodName := ⟨RX2, "ownDigest", "()J"⟩
abbrev cX2_turnFirst : ByteArray := prog_4_method_5_code
def yX2_turnFirst : MethodName := ⟨RX2, "turnFirst", "()V"⟩
def RX3 : String := "SnapshotPieces$Source"
def TX3 : u_T := fun k => match k with
  | 0 => ("SnapshotPieces$Source", "paths", "[I", true)
  | 1 => ("SnapshotPieces$Source", "told", "[J", true)
  | _ => ("SnapshotPieces$Source", "top", "I", false)
def tyX3 : Nat → FieldType := fun k => match k with
  | 0 => .array .int
  | 1 => .array .long
  | _ => .int
abbrev wsX30 : List Cond := u_ws RX3 TX3 3
theorem nmX3 : ∀ a, a < 3 → ∀ b, b < 3 → a ≠ b → (TX3 a).2.1 ≠ (TX3 b).2.1 := by decide +kernel
theorem tyX3_ok : ∀ k, k < 3 → parseFieldDescriptor (TX3 k).2.2.1 = some (tyX3 k) := by decide +kernel
abbrev cX3_init : ByteArray := prog_5_method_1_code
def yX3_init : MethodName := ⟨RX3, "<init>", "()V"⟩
abbrev cX3_hasHeight : ByteArray := prog_5_method_2_code
def yX3_hasHeight : MethodName := ⟨RX3, "hasHeight", "(I)Z"⟩
abbrev cX3_append : ByteArray := prog_5_method_3_code
def yX3_append : MethodName := ⟨RX3, "append", "(IJ)Z"⟩
abbrev cX3_valueAt : ByteArray := prog_5_method_4_code
def yX3_valueAt : MethodName := ⟨RX3, "valueAt", "(II)J"⟩
abbrev cX3_copyState : ByteArray := prog_5_method_5_code
def yX3_copyState : MethodName := ⟨RX3, "copyState", "(ILSnapshotPieces$Tree;)V"⟩
def RX4 : String := "SnapshotPieces$Tree"
def TX4 : u_T := fun k => match k with
  | 0 => ("SnapshotPieces$Tree", "values", "[J", true)
  | _ => ("SnapshotPieces$Tree", "digests", "[J", true)
def tyX4 : Nat → FieldType := fun k => match k with
  | 0 => .array .long
  | _ => .array .long
abbrev wsX40 : List Cond := u_ws RX4 TX4 2
theorem nmX4 : ∀ a, a < 2 → ∀ b, b < 2 → a ≠ b → (TX4 a).2.1 ≠ (TX4 b).2.1 := by decide +kernel
theorem tyX4_ok : ∀ k, k < 2 → parseFieldDescriptor (TX4 k).2.2.1 = some (tyX4 k) := by decide +kernel
abbrev cX4_init : ByteArray := prog_6_method_1_code
def yX4_init : MethodName := ⟨RX4, "<init>", "()V"⟩
abbrev cX4_isPath : ByteArray := prog_6_method_2_code
def yX4_isPath : MethodName := ⟨RX4, "isPath", "(I)Z"⟩
abbrev cX4_isNode : ByteArray := prog_6_method_3_code
def yX4_isNode : MethodName := ⟨RX4, "isNode", "(I)Z"⟩
abbrev cX4_isLeaf : ByteArray := prog_6_method_4_code
def yX4_isLeaf : MethodName := ⟨RX4, "isLeaf", "(I)Z"⟩
abbrev cX4_mix : ByteArray := prog_6_method_5_code
def yX4_mix : MethodName := ⟨RX4, "mix", "(JJ)J"⟩
abbrev cX4_firstPath : ByteArray := prog_6_method_6_code
def yX4_firstPath : MethodName := ⟨RX4, "firstPath", "(I)I"⟩
abbrev cX4_lastPath : ByteArray := prog_6_method_7_code
def yX4_lastPath : MethodName := ⟨RX4, "lastPath", "(I)I"⟩
abbrev cX4_valueOf : ByteArray := prog_6_method_8_code
def yX4_valueOf : MethodName := ⟨RX4, "valueOf", "(I)J"⟩
abbrev cX4_digestOf : ByteArray := prog_6_method_9_code
def yX4_digestOf : MethodName := ⟨RX4, "digestOf", "(I)J"⟩
abbrev cX4_put : ByteArray := prog_6_method_10_code
def yX4_put : MethodName := ⟨RX4, "put", "(IJ)V"⟩
abbrev cX4_emptyBelow : ByteArray := prog_6_method_11_code
def yX4_emptyBelow : MethodName := ⟨RX4, "emptyBelow", "(I)V"⟩
abbrev cX4_copyBelow : ByteArray := prog_6_method_12_code
def yX4_copyBelow : MethodName := ⟨RX4, "copyBelow", "(ILSnapshotPieces$Tree;)V"⟩
abbrev cX4_filledBelow : ByteArray := prog_6_method_13_code
def yX4_filledBelow : MethodName := ⟨RX4, "filledBelow", "(I)I"⟩
abbrev cX4_firstFilled : ByteArray := prog_6_method_14_code
def yX4_firstFilled : MethodName := ⟨RX4, "firstFilled", "(I)I"⟩
abbrev cX4_lastFilled : ByteArray := prog_6_method_15_code
def yX4_lastFilled : MethodName := ⟨RX4, "lastFilled", "(I)I"⟩
abbrev cX4_renew : ByteArray := prog_6_method_16_code
def yX4_renew : MethodName := ⟨RX4, "renew", "(I)V"⟩
def RX5 : String := "SnapshotPieces"
def TX5 : u_T := fun k => match k with
  | 0 => ("SnapshotPieces", "source", "LSnapshotPieces$Source;", true)
  | 1 => ("SnapshotPieces", "givers", "LSnapshotPieces$Givers;", true)
  | 2 => ("SnapshotPieces", "joiner", "LSnapshotPieces$Joiner;", true)
  | 3 => ("SnapshotPieces", "piece", "LSnapshotPieces$Piece;", true)
  | 4 => ("SnapshotPieces", "look", "LSnapshotPieces$Tree;", true)
  | _ => ("SnapshotPieces", "bytes", "I", false)
def tyX5 : Nat → FieldType := fun k => match k with
  | 0 => .object "SnapshotPieces$Source"
  | 1 => .object "SnapshotPieces$Givers"
  | 2 => .object "SnapshotPieces$Joiner"
  | 3 => .object "SnapshotPieces$Piece"
  | 4 => .object "SnapshotPieces$Tree"
  | _ => .int
abbrev wsX50 : List Cond := u_ws RX5 TX5 6
theorem nmX5 : ∀ a, a < 6 → ∀ b, b < 6 → a ≠ b → (TX5 a).2.1 ≠ (TX5 b).2.1 := by decide +kernel
theorem tyX5_ok : ∀ k, k < 6 → parseFieldDescriptor (TX5 k).2.2.1 = some (tyX5 k) := by decide +kernel
abbrev cX5_init : ByteArray := prog_1_method_1_code
def yX5_init : MethodName := ⟨RX5, "<init>", "()V"⟩
abbrev cX5_leaf : ByteArray := prog_1_method_2_code
def yX5_leaf : MethodName := ⟨RX5, "leaf", "(IJ)I"⟩
abbrev cX5_value : ByteArray := prog_1_method_3_code
def yX5_value : MethodName := ⟨RX5, "value", "(II)J"⟩
abbrev cX5_digest : ByteArray := prog_1_method_4_code
def yX5_digest : MethodName := ⟨RX5, "digest", "(II)J"⟩
abbrev cX5_giver : ByteArray := prog_1_method_5_code
def yX5_giver : MethodName := ⟨RX5, "giver", "(II)I"⟩
abbrev cX5_faults : ByteArray := prog_1_method_6_code
def yX5_faults : MethodName := ⟨RX5, "faults", "(I)I"⟩
abbrev cX5_named : ByteArray := prog_1_method_7_code
def yX5_named : MethodName := ⟨RX5, "named", "(I)I"⟩
abbrev cX5_target : ByteArray := prog_1_method_8_code
def yX5_target : MethodName := ⟨RX5, "target", "(I)I"⟩
abbrev cX5_ask : ByteArray := prog_1_method_9_code
def yX5_ask : MethodName := ⟨RX5, "ask", "(IIZ)I"⟩
abbrev cX5_play : ByteArray := prog_1_method_10_code
def yX5_play : MethodName := ⟨RX5, "play", "(JI)I"⟩
abbrev cX5_missing : ByteArray := prog_1_method_11_code
def yX5_missing : MethodName := ⟨RX5, "missing", "(I)I"⟩
abbrev cX5_joined : ByteArray := prog_1_method_12_code
def yX5_joined : MethodName := ⟨RX5, "joined", "()I"⟩
abbrev cX5_held : ByteArray := prog_1_method_13_code
def yX5_held : MethodName := ⟨RX5, "held", "(I)J"⟩
abbrev cX5_mine : ByteArray := prog_1_method_14_code
def yX5_mine : MethodName := ⟨RX5, "mine", "(I)J"⟩
abbrev cX5_rot : ByteArray := prog_1_method_15_code
def yX5_rot : MethodName := ⟨RX5, "rot", "(IJ)I"⟩
abbrev cX5_cut : ByteArray := prog_1_method_16_code
def yX5_cut : MethodName := ⟨RX5, "cut", "()I"⟩
abbrev cX5_count : ByteArray := prog_1_method_17_code
def yX5_count : MethodName := ⟨RX5, "count", "(I)I"⟩
abbrev cX5_exchange : ByteArray := prog_1_method_18_code
def yX5_exchange : MethodName := ⟨RX5, "exchange", "(IIZ)I"⟩
def RX6 : String := "SnapshotPiecesModel"
def TX6 : u_T := fun k => match k with
  | 0 => ("SnapshotPiecesModel", "paths", "[I", true)
  | 1 => ("SnapshotPiecesModel", "vals", "[J", true)
  | 2 => ("SnapshotPiecesModel", "height", "I", false)
  | 3 => ("SnapshotPiecesModel", "kinds", "[I", true)
  | 4 => ("SnapshotPiecesModel", "heads", "[I", true)
  | 5 => ("SnapshotPiecesModel", "asked", "[I", true)
  | 6 => ("SnapshotPiecesModel", "wrong", "[I", true)
  | 7 => ("SnapshotPiecesModel", "order", "[I", true)
  | 8 => ("SnapshotPiecesModel", "givers", "I", false)
  | 9 => ("SnapshotPiecesModel", "names", "I", false)
  | 10 => ("SnapshotPiecesModel", "goal", "I", false)
  | 11 => ("SnapshotPiecesModel", "held", "[J", true)
  | 12 => ("SnapshotPiecesModel", "known", "[Z", true)
  | 13 => ("SnapshotPiecesModel", "due", "[J", true)
  | 14 => ("SnapshotPiecesModel", "bytes", "I", false)
  | 15 => ("SnapshotPiecesModel", "asks", "I", false)
  | 16 => ("SnapshotPiecesModel", "state", "[J", true)
  | 17 => ("SnapshotPiecesModel", "given", "[J", true)
  | 18 => ("SnapshotPiecesModel", "tree", "[J", true)
  | _ => ("SnapshotPiecesModel", "empty", "[Z", true)
def tyX6 : Nat → FieldType := fun k => match k with
  | 0 => .array .int
  | 1 => .array .long
  | 2 => .int
  | 3 => .array .int
  | 4 => .array .int
  | 5 => .array .int
  | 6 => .array .int
  | 7 => .array .int
  | 8 => .int
  | 9 => .int
  | 10 => .int
  | 11 => .array .long
  | 12 => .array .boolean
  | 13 => .array .long
  | 14 => .int
  | 15 => .int
  | 16 => .array .long
  | 17 => .array .long
  | 18 => .array .long
  | _ => .array .boolean
abbrev wsX60 : List Cond := u_ws RX6 TX6 20
theorem nmX6 : ∀ a, a < 20 → ∀ b, b < 20 → a ≠ b → (TX6 a).2.1 ≠ (TX6 b).2.1 := by decide +kernel
theorem tyX6_ok : ∀ k, k < 20 → parseFieldDescriptor (TX6 k).2.2.1 = some (tyX6 k) := by decide +kernel
abbrev cX6_init : ByteArray := prog_8_method_1_code
def yX6_init : MethodName := ⟨RX6, "<init>", "()V"⟩
abbrev cX6_in : ByteArray := prog_8_method_2_code
def yX6_in : MethodName := ⟨RX6, "in", "(III)Z"⟩
abbrev cX6_mixed : ByteArray := prog_8_method_3_code
def yX6_mixed : MethodName := ⟨RX6, "mixed", "(JJ)J"⟩
abbrev cX6_build : ByteArray := prog_8_method_4_code
def yX6_build : MethodName := ⟨RX6, "build", "([J)V"⟩
abbrev cX6_stateAt : ByteArray := prog_8_method_5_code
def yX6_stateAt : MethodName := ⟨RX6, "stateAt", "(I)V"⟩
abbrev cX6_leaf : ByteArray := prog_8_method_6_code
def yX6_leaf : MethodName := ⟨RX6, "leaf", "(IJ)I"⟩
abbrev cX6_value : ByteArray := prog_8_method_7_code
def yX6_value : MethodName := ⟨RX6, "value", "(II)J"⟩
abbrev cX6_digest : ByteArray := prog_8_method_8_code
def yX6_digest : MethodName := ⟨RX6, "digest", "(II)J"⟩
abbrev cX6_giver : ByteArray := prog_8_method_9_code
def yX6_giver : MethodName := ⟨RX6, "giver", "(II)I"⟩
abbrev cX6_faults : ByteArray := prog_8_method_10_code
def yX6_faults : MethodName := ⟨RX6, "faults", "(I)I"⟩
abbrev cX6_named : ByteArray := prog_8_method_11_code
def yX6_named : MethodName := ⟨RX6, "named", "(I)I"⟩
abbrev cX6_firstOf : ByteArray := prog_8_method_12_code
def yX6_firstOf : MethodName := ⟨RX6, "firstOf", "(I)I"⟩
abbrev cX6_lastOf : ByteArray := prog_8_method_13_code
def yX6_lastOf : MethodName := ⟨RX6, "lastOf", "(I)I"⟩
abbrev cX6_know : ByteArray := prog_8_method_14_code
def yX6_know : MethodName := ⟨RX6, "know", "(IJ)V"⟩
abbrev cX6_lacks : ByteArray := prog_8_method_15_code
def yX6_lacks : MethodName := ⟨RX6, "lacks", "(I)Z"⟩
abbrev cX6_lacking : ByteArray := prog_8_method_16_code
def yX6_lacking : MethodName := ⟨RX6, "lacking", "()I"⟩
abbrev cX6_missing : ByteArray := prog_8_method_17_code
def yX6_missing : MethodName := ⟨RX6, "missing", "(I)I"⟩
abbrev cX6_target : ByteArray := prog_8_method_18_code
def yX6_target : MethodName := ⟨RX6, "target", "(I)I"⟩
abbrev cX6_ask : ByteArray := prog_8_method_19_code
def yX6_ask : MethodName := ⟨RX6, "ask", "(IIZ)I"⟩
abbrev cX6_asking : ByteArray := prog_8_method_20_code
def yX6_asking : MethodName := ⟨RX6, "asking", "(IIZ)I"⟩
abbrev cX6_leafComes : ByteArray := prog_8_method_21_code
def yX6_leafComes : MethodName := ⟨RX6, "leafComes", "(II)Z"⟩
abbrev cX6_pairComes : ByteArray := prog_8_method_22_code
def yX6_pairComes : MethodName := ⟨RX6, "pairComes", "(II)Z"⟩
abbrev cX6_rowComes : ByteArray := prog_8_method_23_code
def yX6_rowComes : MethodName := ⟨RX6, "rowComes", "(II)Z"⟩
abbrev cX6_play : ByteArray := prog_8_method_24_code
def yX6_play : MethodName := ⟨RX6, "play", "(JI)I"⟩
abbrev cX6_joined : ByteArray := prog_8_method_25_code
def yX6_joined : MethodName := ⟨RX6, "joined", "()I"⟩
abbrev cX6_held : ByteArray := prog_8_method_26_code
def yX6_held : MethodName := ⟨RX6, "held", "(I)J"⟩
abbrev cX6_mine : ByteArray := prog_8_method_27_code
def yX6_mine : MethodName := ⟨RX6, "mine", "(I)J"⟩
abbrev cX6_rot : ByteArray := prog_8_method_28_code
def yX6_rot : MethodName := ⟨RX6, "rot", "(IJ)I"⟩
abbrev cX6_cut : ByteArray := prog_8_method_29_code
def yX6_cut : MethodName := ⟨RX6, "cut", "()I"⟩
abbrev cX6_count : ByteArray := prog_8_method_30_code
def yX6_count : MethodName := ⟨RX6, "count", "(I)I"⟩
def RJ9 : String := "java/lang/Math"
def TJ9 : u_T := fun k => match k with
  | _ => ("", "", "", false)
def tyJ9 : Nat → FieldType := fun k => match k with
  | _ => .int
abbrev wsJ90 : List Cond := u_ws RJ9 TJ9 0
theorem nmJ9 : ∀ a, a < 0 → ∀ b, b < 0 → a ≠ b → (TJ9 a).2.1 ≠ (TJ9 b).2.1 := by decide +kernel
theorem tyJ9_ok : ∀ k, k < 0 → parseFieldDescriptor (TJ9 k).2.2.1 = some (tyJ9 k) := by decide +kernel
abbrev cJ9_max_7cf53 : ByteArray := prog_9_method_65_code
def yJ9_max_7cf53 : MethodName := ⟨RJ9, "max", "(II)I"⟩
abbrev cJ9_min_7cf53 : ByteArray := prog_9_method_69_code
def yJ9_min_7cf53 : MethodName := ⟨RJ9, "min", "(II)I"⟩
def RL : String := "SnapshotPiecesLaw"
abbrev cL_law : ByteArray := code
def yL_law : MethodName := ⟨RL, "law", "([I)Z"⟩
def wsX0_init : List Cond := .code yX0_init cX0_init 1 none :: ([.methodLink RX0 1 objectInit, .instanceMethod objectInit, .code objectInit ⟨#[0xb1]⟩ 1 none, .arrayClass .int, .fieldLink RX0 9 "SnapshotPieces$Givers" "kindOf" "[I", .fieldLink RX0 13 "SnapshotPieces$Givers" "headOf" "[I", .fieldLink RX0 16 "SnapshotPieces$Givers" "asksOf" "[I", .fieldLink RX0 19 "SnapshotPieces$Givers" "faultsOf" "[I", .fieldLink RX0 22 "SnapshotPieces$Givers" "namedRow" "[I", .fieldLink RX0 25 "SnapshotPieces$Givers" "size" "I", .fieldLink RX0 29 "SnapshotPieces$Givers" "namedSize" "I", .fieldLink RX0 32 "SnapshotPieces$Givers" "allAsks" "I"] ++ wsX00)
def wsX0_has : List Cond := .code yX0_has cX0_has 2 (some .boolean) :: ([.fieldLink RX0 25 "SnapshotPieces$Givers" "size" "I"] ++ wsX00)
def wsX0_append : List Cond := .code yX0_append cX0_append 3 (some .boolean) :: ([.fieldLink RX0 25 "SnapshotPieces$Givers" "size" "I", .fieldLink RX0 9 "SnapshotPieces$Givers" "kindOf" "[I", .fieldLink RX0 13 "SnapshotPieces$Givers" "headOf" "[I"] ++ wsX00)
def wsX0_answers : List Cond := .code yX0_answers cX0_answers 5 (some .boolean) :: ([.fieldLink RX0 16 "SnapshotPieces$Givers" "asksOf" "[I", .fieldLink RX0 32 "SnapshotPieces$Givers" "allAsks" "I", .fieldLink RX0 13 "SnapshotPieces$Givers" "headOf" "[I", .fieldLink RX0 9 "SnapshotPieces$Givers" "kindOf" "[I", .methodLink RX0 35 yX0_has, .instanceMethod yX0_has, .selects RX0 yX0_has yX0_has, .initialized RX0, .code yX0_has cX0_has 2 (some .boolean), .fieldLink RX0 25 "SnapshotPieces$Givers" "size" "I"] ++ wsX00)
def wsX0_blame : List Cond := .code yX0_blame cX0_blame 2 none :: ([.fieldLink RX0 19 "SnapshotPieces$Givers" "faultsOf" "[I", .fieldLink RX0 29 "SnapshotPieces$Givers" "namedSize" "I", .fieldLink RX0 22 "SnapshotPieces$Givers" "namedRow" "[I", .methodLink RX0 35 yX0_has, .instanceMethod yX0_has, .selects RX0 yX0_has yX0_has, .initialized RX0, .code yX0_has cX0_has 2 (some .boolean), .fieldLink RX0 25 "SnapshotPieces$Givers" "size" "I"] ++ wsX00)
def wsX4_init : List Cond := .code yX4_init cX4_init 1 none :: ([.methodLink RX4 1 objectInit, .instanceMethod objectInit, .code objectInit ⟨#[0xb1]⟩ 1 none, .arrayClass .long, .fieldLink RX4 9 "SnapshotPieces$Tree" "values" "[J", .fieldLink RX4 13 "SnapshotPieces$Tree" "digests" "[J"] ++ wsX40)
def wsX1_init : List Cond := .code yX1_init cX1_init 1 none :: ([.methodLink RX1 3 objectInit, .instanceMethod objectInit, .code objectInit ⟨#[0xb1]⟩ 1 none, .classLink RX1 9 RX4, .instantiable RX4 2, .initialized RX4, .fieldLink RX1 12 "SnapshotPieces$Joiner" "own" "LSnapshotPieces$Tree;", .fieldLink RX1 18 "SnapshotPieces$Joiner" "now" "LSnapshotPieces$Tree;", .fieldLink RX1 21 "SnapshotPieces$Joiner" "before" "LSnapshotPieces$Tree;", .arrayClass .boolean, .fieldLink RX1 24 "SnapshotPieces$Joiner" "known" "[Z", .arrayClass .long, .fieldLink RX1 28 "SnapshotPieces$Joiner" "due" "[J", .arrayClass .int, .fieldLink RX1 32 "SnapshotPieces$Joiner" "lackRow" "[I", .fieldLink RX1 36 "SnapshotPieces$Joiner" "lackSize" "I", .fieldLink RX1 40 "SnapshotPieces$Joiner" "goal" "I", .instanceMethod yX4_init, .code yX4_init cX4_init 1 none, .methodLink RX4 1 objectInit, .fieldLink RX4 9 "SnapshotPieces$Tree" "values" "[J", .fieldLink RX4 13 "SnapshotPieces$Tree" "digests" "[J"] ++ wsX40 ++ wsX10)
def wsX1_hasGoal : List Cond := .code yX1_hasGoal cX1_hasGoal 1 (some .boolean) :: ([.fieldLink RX1 40 "SnapshotPieces$Joiner" "goal" "I"] ++ wsX10)
def wsX4_isNode : List Cond := .code yX4_isNode cX4_isNode 1 (some .boolean) :: ([])
def wsX4_digestOf : List Cond := .code yX4_digestOf cX4_digestOf 2 (some .long) :: ([.fieldLink RX4 13 "SnapshotPieces$Tree" "digests" "[J", .methodLink RX4 24 yX4_isNode, .static yX4_isNode, .initialized RX4, .code yX4_isNode cX4_isNode 1 (some .boolean)] ++ wsX40)
def wsX1_isWhole : List Cond := .code yX1_isWhole cX1_isWhole 1 (some .boolean) :: ([.fieldLink RX1 28 "SnapshotPieces$Joiner" "due" "[J", .fieldLink RX1 12 "SnapshotPieces$Joiner" "own" "LSnapshotPieces$Tree;", .methodLink RX1 43 yX1_hasGoal, .instanceMethod yX1_hasGoal, .selects RX1 yX1_hasGoal yX1_hasGoal, .initialized RX1, .code yX1_hasGoal cX1_hasGoal 1 (some .boolean), .fieldLink RX1 40 "SnapshotPieces$Joiner" "goal" "I", .methodLink RX1 47 yX4_digestOf, .instanceMethod yX4_digestOf, .selects RX4 yX4_digestOf yX4_digestOf, .initialized RX4, .code yX4_digestOf cX4_digestOf 2 (some .long), .fieldLink RX4 13 "SnapshotPieces$Tree" "digests" "[J", .methodLink RX4 24 yX4_isNode, .static yX4_isNode, .code yX4_isNode cX4_isNode 1 (some .boolean)] ++ wsX10 ++ wsX40)
def wsX4_isLeaf : List Cond := .code yX4_isLeaf cX4_isLeaf 1 (some .boolean) :: ([])
def wsX1_lacks : List Cond := .code yX1_lacks cX1_lacks 2 (some .boolean) :: ([.fieldLink RX1 24 "SnapshotPieces$Joiner" "known" "[Z", .fieldLink RX1 28 "SnapshotPieces$Joiner" "due" "[J", .fieldLink RX1 12 "SnapshotPieces$Joiner" "own" "LSnapshotPieces$Tree;", .methodLink RX1 51 yX4_isNode, .static yX4_isNode, .initialized RX4, .code yX4_isNode cX4_isNode 1 (some .boolean), .methodLink RX1 47 yX4_digestOf, .instanceMethod yX4_digestOf, .selects RX4 yX4_digestOf yX4_digestOf, .code yX4_digestOf cX4_digestOf 2 (some .long), .fieldLink RX4 13 "SnapshotPieces$Tree" "digests" "[J", .methodLink RX4 24 yX4_isNode, .methodLink RX1 55 yX4_isLeaf, .static yX4_isLeaf, .code yX4_isLeaf cX4_isLeaf 1 (some .boolean)] ++ wsX10 ++ wsX40)
def wsX1_lackAt : List Cond := .code yX1_lackAt cX1_lackAt 2 (some .int) :: ([.fieldLink RX1 36 "SnapshotPieces$Joiner" "lackSize" "I", .fieldLink RX1 32 "SnapshotPieces$Joiner" "lackRow" "[I"] ++ wsX10)
def wsX1_knownSize : List Cond := .code yX1_knownSize cX1_knownSize 3 (some .int) :: ([.fieldLink RX1 24 "SnapshotPieces$Joiner" "known" "[Z"] ++ wsX10)
def wsX4_isPath : List Cond := .code yX4_isPath cX4_isPath 1 (some .boolean) :: ([])
def wsX4_firstPath : List Cond := .code yX4_firstPath cX4_firstPath 3 (some .int) :: ([])
def wsX4_lastPath : List Cond := .code yX4_lastPath cX4_lastPath 3 (some .int) :: ([])
def wsX4_mix : List Cond := .code yX4_mix cX4_mix 6 (some .long) :: ([.constantLong RX4 16 (-7046029254386353131), .constantLong RX4 18 (-4658895280553007687)])
def wsX4_renew : List Cond := .code yX4_renew cX4_renew 8 none :: ([.fieldLink RX4 13 "SnapshotPieces$Tree" "digests" "[J", .fieldLink RX4 9 "SnapshotPieces$Tree" "values" "[J", .methodLink RX4 35 yX4_firstPath, .static yX4_firstPath, .initialized RX4, .code yX4_firstPath cX4_firstPath 3 (some .int), .methodLink RX4 31 yX4_lastPath, .static yX4_lastPath, .code yX4_lastPath cX4_lastPath 3 (some .int), .methodLink RX4 38 yX4_mix, .static yX4_mix, .code yX4_mix cX4_mix 6 (some .long), .constantLong RX4 16 (-7046029254386353131), .constantLong RX4 18 (-4658895280553007687)] ++ wsX40)
def wsX3_copyState_r1 : List Cond := [Cond.fieldLink RX3 31 "SnapshotPieces$Tree" "values" "[J", Cond.fieldLink RX3 19 "SnapshotPieces$Source" "top" "I", Cond.methodLink RX3 23 Lib.Math.min.name, Cond.static Lib.Math.min.name, Cond.initialized "java/lang/Math", Cond.code Lib.Math.min.name Lib.Math.min.code 2 (some .int), Cond.fieldLink RX3 9 "SnapshotPieces$Source" "paths" "[I", Cond.fieldLink RX3 15 "SnapshotPieces$Source" "told" "[J", Cond.methodLink RX3 34 yX4_isPath, Cond.static yX4_isPath, Cond.initialized RX4, Cond.code yX4_isPath cX4_isPath 1 (some .boolean), Cond.methodLink RX3 38 yX4_renew, Cond.instanceMethod yX4_renew, Cond.selects RX4 yX4_renew yX4_renew, Cond.code yX4_renew cX4_renew 8 none, Cond.fieldLink RX4 13 "SnapshotPieces$Tree" "digests" "[J", Cond.fieldLink RX4 9 "SnapshotPieces$Tree" "values" "[J", Cond.methodLink RX4 35 yX4_firstPath, Cond.static yX4_firstPath, Cond.code yX4_firstPath cX4_firstPath 3 (some .int), Cond.methodLink RX4 31 yX4_lastPath, Cond.static yX4_lastPath, Cond.code yX4_lastPath cX4_lastPath 3 (some .int)]
def wsX3_copyState_r2 : List Cond := [Cond.methodLink RX4 38 yX4_mix, Cond.static yX4_mix, Cond.code yX4_mix cX4_mix 6 (some .long), Cond.constantLong RX4 16 (-7046029254386353131), Cond.constantLong RX4 18 (-4658895280553007687)]
def wsX3_copyState : List Cond := .code yX3_copyState cX3_copyState 6 none :: ((wsX3_copyState_r1 ++ wsX3_copyState_r2) ++ wsX40 ++ wsX30)
def wsX1_forget : List Cond := .code yX1_forget cX1_forget 3 none :: ([.fieldLink RX1 24 "SnapshotPieces$Joiner" "known" "[Z"] ++ wsX10)
def wsX4_emptyBelow : List Cond := .code yX4_emptyBelow cX4_emptyBelow 4 none :: ([.fieldLink RX4 9 "SnapshotPieces$Tree" "values" "[J", .methodLink RX4 24 yX4_isNode, .static yX4_isNode, .initialized RX4, .code yX4_isNode cX4_isNode 1 (some .boolean), .methodLink RX4 31 yX4_lastPath, .static yX4_lastPath, .code yX4_lastPath cX4_lastPath 3 (some .int), .methodLink RX4 35 yX4_firstPath, .static yX4_firstPath, .code yX4_firstPath cX4_firstPath 3 (some .int), .methodLink RX4 27 yX4_renew, .instanceMethod yX4_renew, .selects RX4 yX4_renew yX4_renew, .code yX4_renew cX4_renew 8 none, .fieldLink RX4 13 "SnapshotPieces$Tree" "digests" "[J", .methodLink RX4 38 yX4_mix, .static yX4_mix, .code yX4_mix cX4_mix 6 (some .long), .constantLong RX4 16 (-7046029254386353131), .constantLong RX4 18 (-4658895280553007687)] ++ wsX40)
def wsX1_learn_r1 : List Cond := [Cond.fieldLink RX1 24 "SnapshotPieces$Joiner" "known" "[Z", Cond.fieldLink RX1 28 "SnapshotPieces$Joiner" "due" "[J", Cond.fieldLink RX1 12 "SnapshotPieces$Joiner" "own" "LSnapshotPieces$Tree;", Cond.methodLink RX1 51 yX4_isNode, Cond.static yX4_isNode, Cond.initialized RX4, Cond.code yX4_isNode cX4_isNode 1 (some .boolean), Cond.methodLink RX1 110 yX4_emptyBelow, Cond.instanceMethod yX4_emptyBelow, Cond.selects RX4 yX4_emptyBelow yX4_emptyBelow, Cond.code yX4_emptyBelow cX4_emptyBelow 4 none, Cond.fieldLink RX4 9 "SnapshotPieces$Tree" "values" "[J", Cond.methodLink RX4 24 yX4_isNode, Cond.methodLink RX4 31 yX4_lastPath, Cond.static yX4_lastPath, Cond.code yX4_lastPath cX4_lastPath 3 (some .int), Cond.methodLink RX4 35 yX4_firstPath, Cond.static yX4_firstPath, Cond.code yX4_firstPath cX4_firstPath 3 (some .int), Cond.methodLink RX4 27 yX4_renew, Cond.instanceMethod yX4_renew, Cond.selects RX4 yX4_renew yX4_renew, Cond.code yX4_renew cX4_renew 8 none, Cond.fieldLink RX4 13 "SnapshotPieces$Tree" "digests" "[J"]
def wsX1_learn_r2 : List Cond := [Cond.methodLink RX4 38 yX4_mix, Cond.static yX4_mix, Cond.code yX4_mix cX4_mix 6 (some .long), Cond.constantLong RX4 16 (-7046029254386353131), Cond.constantLong RX4 18 (-4658895280553007687)]
def wsX1_learn : List Cond := .code yX1_learn cX1_learn 4 none :: ((wsX1_learn_r1 ++ wsX1_learn_r2) ++ wsX10 ++ wsX40)
def wsX1_findLacks : List Cond := .code yX1_findLacks cX1_findLacks 2 none :: ([.fieldLink RX1 36 "SnapshotPieces$Joiner" "lackSize" "I", .fieldLink RX1 32 "SnapshotPieces$Joiner" "lackRow" "[I", .methodLink RX1 113 yX1_lacks, .instanceMethod yX1_lacks, .selects RX1 yX1_lacks yX1_lacks, .initialized RX1, .code yX1_lacks cX1_lacks 2 (some .boolean), .fieldLink RX1 24 "SnapshotPieces$Joiner" "known" "[Z", .fieldLink RX1 28 "SnapshotPieces$Joiner" "due" "[J", .fieldLink RX1 12 "SnapshotPieces$Joiner" "own" "LSnapshotPieces$Tree;", .methodLink RX1 51 yX4_isNode, .static yX4_isNode, .initialized RX4, .code yX4_isNode cX4_isNode 1 (some .boolean), .methodLink RX1 47 yX4_digestOf, .instanceMethod yX4_digestOf, .selects RX4 yX4_digestOf yX4_digestOf, .code yX4_digestOf cX4_digestOf 2 (some .long), .fieldLink RX4 13 "SnapshotPieces$Tree" "digests" "[J", .methodLink RX4 24 yX4_isNode, .methodLink RX1 55 yX4_isLeaf, .static yX4_isLeaf, .code yX4_isLeaf cX4_isLeaf 1 (some .boolean)] ++ wsX10 ++ wsX40)
def wsX1_aim_r1 : List Cond := [Cond.fieldLink RX1 40 "SnapshotPieces$Joiner" "goal" "I", Cond.fieldLink RX1 18 "SnapshotPieces$Joiner" "now" "LSnapshotPieces$Tree;", Cond.methodLink RX1 64 Lib.Math.max.name, Cond.static Lib.Math.max.name, Cond.initialized "java/lang/Math", Cond.code Lib.Math.max.name Lib.Math.max.code 2 (some .int), Cond.fieldLink RX1 21 "SnapshotPieces$Joiner" "before" "LSnapshotPieces$Tree;", Cond.methodLink RX1 58 yX3_copyState, Cond.instanceMethod yX3_copyState, Cond.selects RX3 yX3_copyState yX3_copyState, Cond.initialized RX3, Cond.code yX3_copyState cX3_copyState 6 none, Cond.fieldLink RX3 31 "SnapshotPieces$Tree" "values" "[J", Cond.fieldLink RX3 19 "SnapshotPieces$Source" "top" "I", Cond.methodLink RX3 23 Lib.Math.min.name, Cond.static Lib.Math.min.name, Cond.code Lib.Math.min.name Lib.Math.min.code 2 (some .int), Cond.fieldLink RX3 9 "SnapshotPieces$Source" "paths" "[I", Cond.fieldLink RX3 15 "SnapshotPieces$Source" "told" "[J", Cond.methodLink RX3 34 yX4_isPath, Cond.static yX4_isPath, Cond.initialized RX4, Cond.code yX4_isPath cX4_isPath 1 (some .boolean), Cond.methodLink RX3 38 yX4_renew]
def wsX1_aim_r2 : List Cond := [Cond.instanceMethod yX4_renew, Cond.selects RX4 yX4_renew yX4_renew, Cond.code yX4_renew cX4_renew 8 none, Cond.fieldLink RX4 13 "SnapshotPieces$Tree" "digests" "[J", Cond.fieldLink RX4 9 "SnapshotPieces$Tree" "values" "[J", Cond.methodLink RX4 35 yX4_firstPath, Cond.static yX4_firstPath, Cond.code yX4_firstPath cX4_firstPath 3 (some .int), Cond.methodLink RX4 31 yX4_lastPath, Cond.static yX4_lastPath, Cond.code yX4_lastPath cX4_lastPath 3 (some .int), Cond.methodLink RX4 38 yX4_mix, Cond.static yX4_mix, Cond.code yX4_mix cX4_mix 6 (some .long), Cond.constantLong RX4 16 (-7046029254386353131), Cond.constantLong RX4 18 (-4658895280553007687), Cond.methodLink RX1 70 yX1_forget, Cond.instanceMethod yX1_forget, Cond.selects RX1 yX1_forget yX1_forget, Cond.initialized RX1, Cond.code yX1_forget cX1_forget 3 none, Cond.fieldLink RX1 24 "SnapshotPieces$Joiner" "known" "[Z", Cond.methodLink RX1 47 yX4_digestOf, Cond.instanceMethod yX4_digestOf]
def wsX1_aim_r3 : List Cond := [Cond.selects RX4 yX4_digestOf yX4_digestOf, Cond.code yX4_digestOf cX4_digestOf 2 (some .long), Cond.methodLink RX4 24 yX4_isNode, Cond.static yX4_isNode, Cond.code yX4_isNode cX4_isNode 1 (some .boolean), Cond.methodLink RX1 74 yX1_learn, Cond.instanceMethod yX1_learn, Cond.selects RX1 yX1_learn yX1_learn, Cond.code yX1_learn cX1_learn 4 none, Cond.fieldLink RX1 28 "SnapshotPieces$Joiner" "due" "[J", Cond.fieldLink RX1 12 "SnapshotPieces$Joiner" "own" "LSnapshotPieces$Tree;", Cond.methodLink RX1 51 yX4_isNode, Cond.methodLink RX1 110 yX4_emptyBelow, Cond.instanceMethod yX4_emptyBelow, Cond.selects RX4 yX4_emptyBelow yX4_emptyBelow, Cond.code yX4_emptyBelow cX4_emptyBelow 4 none, Cond.methodLink RX4 27 yX4_renew, Cond.methodLink RX1 78 yX1_findLacks, Cond.instanceMethod yX1_findLacks, Cond.selects RX1 yX1_findLacks yX1_findLacks, Cond.code yX1_findLacks cX1_findLacks 2 none, Cond.fieldLink RX1 36 "SnapshotPieces$Joiner" "lackSize" "I", Cond.fieldLink RX1 32 "SnapshotPieces$Joiner" "lackRow" "[I", Cond.methodLink RX1 113 yX1_lacks]
def wsX1_aim_r4 : List Cond := [Cond.instanceMethod yX1_lacks, Cond.selects RX1 yX1_lacks yX1_lacks, Cond.code yX1_lacks cX1_lacks 2 (some .boolean), Cond.methodLink RX1 55 yX4_isLeaf, Cond.static yX4_isLeaf, Cond.code yX4_isLeaf cX4_isLeaf 1 (some .boolean)]
def wsX1_aim : List Cond := .code yX1_aim cX1_aim 3 none :: ((wsX1_aim_r1 ++ (wsX1_aim_r2 ++ (wsX1_aim_r3 ++ wsX1_aim_r4))) ++ wsX10 ++ wsX40 ++ wsX30)
def wsX1_forgetBelowRoot_r1 : List Cond := [Cond.methodLink RX1 70 yX1_forget, Cond.instanceMethod yX1_forget, Cond.selects RX1 yX1_forget yX1_forget, Cond.initialized RX1, Cond.code yX1_forget cX1_forget 3 none, Cond.fieldLink RX1 24 "SnapshotPieces$Joiner" "known" "[Z", Cond.methodLink RX1 78 yX1_findLacks, Cond.instanceMethod yX1_findLacks, Cond.selects RX1 yX1_findLacks yX1_findLacks, Cond.code yX1_findLacks cX1_findLacks 2 none, Cond.fieldLink RX1 36 "SnapshotPieces$Joiner" "lackSize" "I", Cond.fieldLink RX1 32 "SnapshotPieces$Joiner" "lackRow" "[I", Cond.methodLink RX1 113 yX1_lacks, Cond.instanceMethod yX1_lacks, Cond.selects RX1 yX1_lacks yX1_lacks, Cond.code yX1_lacks cX1_lacks 2 (some .boolean), Cond.fieldLink RX1 28 "SnapshotPieces$Joiner" "due" "[J", Cond.fieldLink RX1 12 "SnapshotPieces$Joiner" "own" "LSnapshotPieces$Tree;", Cond.methodLink RX1 51 yX4_isNode, Cond.static yX4_isNode, Cond.initialized RX4, Cond.code yX4_isNode cX4_isNode 1 (some .boolean), Cond.methodLink RX1 47 yX4_digestOf, Cond.instanceMethod yX4_digestOf]
def wsX1_forgetBelowRoot_r2 : List Cond := [Cond.selects RX4 yX4_digestOf yX4_digestOf, Cond.code yX4_digestOf cX4_digestOf 2 (some .long), Cond.fieldLink RX4 13 "SnapshotPieces$Tree" "digests" "[J", Cond.methodLink RX4 24 yX4_isNode, Cond.methodLink RX1 55 yX4_isLeaf, Cond.static yX4_isLeaf, Cond.code yX4_isLeaf cX4_isLeaf 1 (some .boolean)]
def wsX1_forgetBelowRoot : List Cond := .code yX1_forgetBelowRoot cX1_forgetBelowRoot 1 none :: ((wsX1_forgetBelowRoot_r1 ++ wsX1_forgetBelowRoot_r2) ++ wsX10 ++ wsX40)
def wsX4_put : List Cond := .code yX4_put cX4_put 4 none :: ([.fieldLink RX4 9 "SnapshotPieces$Tree" "values" "[J", .methodLink RX4 20 yX4_isPath, .static yX4_isPath, .initialized RX4, .code yX4_isPath cX4_isPath 1 (some .boolean), .methodLink RX4 27 yX4_renew, .instanceMethod yX4_renew, .selects RX4 yX4_renew yX4_renew, .code yX4_renew cX4_renew 8 none, .fieldLink RX4 13 "SnapshotPieces$Tree" "digests" "[J", .methodLink RX4 35 yX4_firstPath, .static yX4_firstPath, .code yX4_firstPath cX4_firstPath 3 (some .int), .methodLink RX4 31 yX4_lastPath, .static yX4_lastPath, .code yX4_lastPath cX4_lastPath 3 (some .int), .methodLink RX4 38 yX4_mix, .static yX4_mix, .code yX4_mix cX4_mix 6 (some .long), .constantLong RX4 16 (-7046029254386353131), .constantLong RX4 18 (-4658895280553007687)] ++ wsX40)
def wsX1_spoil_r1 : List Cond := [Cond.fieldLink RX1 12 "SnapshotPieces$Joiner" "own" "LSnapshotPieces$Tree;", Cond.methodLink RX1 81 yX4_put, Cond.instanceMethod yX4_put, Cond.selects RX4 yX4_put yX4_put, Cond.initialized RX4, Cond.code yX4_put cX4_put 4 none, Cond.fieldLink RX4 9 "SnapshotPieces$Tree" "values" "[J", Cond.methodLink RX4 20 yX4_isPath, Cond.static yX4_isPath, Cond.code yX4_isPath cX4_isPath 1 (some .boolean), Cond.methodLink RX4 27 yX4_renew, Cond.instanceMethod yX4_renew, Cond.selects RX4 yX4_renew yX4_renew, Cond.code yX4_renew cX4_renew 8 none, Cond.fieldLink RX4 13 "SnapshotPieces$Tree" "digests" "[J", Cond.methodLink RX4 35 yX4_firstPath, Cond.static yX4_firstPath, Cond.code yX4_firstPath cX4_firstPath 3 (some .int), Cond.methodLink RX4 31 yX4_lastPath, Cond.static yX4_lastPath, Cond.code yX4_lastPath cX4_lastPath 3 (some .int), Cond.methodLink RX4 38 yX4_mix, Cond.static yX4_mix, Cond.code yX4_mix cX4_mix 6 (some .long)]
def wsX1_spoil_r2 : List Cond := [Cond.constantLong RX4 16 (-7046029254386353131), Cond.constantLong RX4 18 (-4658895280553007687), Cond.methodLink RX1 78 yX1_findLacks, Cond.instanceMethod yX1_findLacks, Cond.selects RX1 yX1_findLacks yX1_findLacks, Cond.initialized RX1, Cond.code yX1_findLacks cX1_findLacks 2 none, Cond.fieldLink RX1 36 "SnapshotPieces$Joiner" "lackSize" "I", Cond.fieldLink RX1 32 "SnapshotPieces$Joiner" "lackRow" "[I", Cond.methodLink RX1 113 yX1_lacks, Cond.instanceMethod yX1_lacks, Cond.selects RX1 yX1_lacks yX1_lacks, Cond.code yX1_lacks cX1_lacks 2 (some .boolean), Cond.fieldLink RX1 24 "SnapshotPieces$Joiner" "known" "[Z", Cond.fieldLink RX1 28 "SnapshotPieces$Joiner" "due" "[J", Cond.methodLink RX1 51 yX4_isNode, Cond.static yX4_isNode, Cond.code yX4_isNode cX4_isNode 1 (some .boolean), Cond.methodLink RX1 47 yX4_digestOf, Cond.instanceMethod yX4_digestOf, Cond.selects RX4 yX4_digestOf yX4_digestOf, Cond.code yX4_digestOf cX4_digestOf 2 (some .long), Cond.methodLink RX4 24 yX4_isNode, Cond.methodLink RX1 55 yX4_isLeaf]
def wsX1_spoil_r3 : List Cond := [Cond.static yX4_isLeaf, Cond.code yX4_isLeaf cX4_isLeaf 1 (some .boolean)]
def wsX1_spoil : List Cond := .code yX1_spoil cX1_spoil 4 none :: ((wsX1_spoil_r1 ++ (wsX1_spoil_r2 ++ wsX1_spoil_r3)) ++ wsX10 ++ wsX40)
def wsX2_ownDigest : List Cond := .code yX2_ownDigest cX2_ownDigest 1 (some .long) :: ([.fieldLink RX2 20 "SnapshotPieces$Piece" "pair" "Z", .fieldLink RX2 24 "SnapshotPieces$Piece" "left" "J", .fieldLink RX2 28 "SnapshotPieces$Piece" "right" "J", .fieldLink RX2 10 "SnapshotPieces$Piece" "leaves" "LSnapshotPieces$Tree;", .fieldLink RX2 16 "SnapshotPieces$Piece" "node" "I", .methodLink RX2 62 yX4_mix, .static yX4_mix, .initialized RX4, .code yX4_mix cX4_mix 6 (some .long), .constantLong RX4 16 (-7046029254386353131), .constantLong RX4 18 (-4658895280553007687), .methodLink RX2 34 yX4_digestOf, .instanceMethod yX4_digestOf, .selects RX4 yX4_digestOf yX4_digestOf, .code yX4_digestOf cX4_digestOf 2 (some .long), .fieldLink RX4 13 "SnapshotPieces$Tree" "digests" "[J", .methodLink RX4 24 yX4_isNode, .static yX4_isNode, .code yX4_isNode cX4_isNode 1 (some .boolean)] ++ wsX20 ++ wsX40)
def wsX1_judge_r1 : List Cond := [Cond.fieldLink RX1 84 "SnapshotPieces$Piece" "node" "I", Cond.fieldLink RX1 28 "SnapshotPieces$Joiner" "due" "[J", Cond.methodLink RX1 51 yX4_isNode, Cond.static yX4_isNode, Cond.initialized RX4, Cond.code yX4_isNode cX4_isNode 1 (some .boolean), Cond.methodLink RX1 89 yX2_ownDigest, Cond.instanceMethod yX2_ownDigest, Cond.selects RX2 yX2_ownDigest yX2_ownDigest, Cond.initialized RX2, Cond.code yX2_ownDigest cX2_ownDigest 1 (some .long), Cond.fieldLink RX2 20 "SnapshotPieces$Piece" "pair" "Z", Cond.fieldLink RX2 24 "SnapshotPieces$Piece" "left" "J", Cond.fieldLink RX2 28 "SnapshotPieces$Piece" "right" "J", Cond.fieldLink RX2 10 "SnapshotPieces$Piece" "leaves" "LSnapshotPieces$Tree;", Cond.fieldLink RX2 16 "SnapshotPieces$Piece" "node" "I", Cond.methodLink RX2 62 yX4_mix, Cond.static yX4_mix, Cond.code yX4_mix cX4_mix 6 (some .long), Cond.constantLong RX4 16 (-7046029254386353131), Cond.constantLong RX4 18 (-4658895280553007687), Cond.methodLink RX2 34 yX4_digestOf, Cond.instanceMethod yX4_digestOf, Cond.selects RX4 yX4_digestOf yX4_digestOf]
def wsX1_judge_r2 : List Cond := [Cond.code yX4_digestOf cX4_digestOf 2 (some .long), Cond.fieldLink RX4 13 "SnapshotPieces$Tree" "digests" "[J", Cond.methodLink RX4 24 yX4_isNode]
def wsX1_judge : List Cond := .code yX1_judge cX1_judge 2 (some .boolean) :: ((wsX1_judge_r1 ++ wsX1_judge_r2) ++ wsX20 ++ wsX10 ++ wsX40)
def wsX4_copyBelow : List Cond := .code yX4_copyBelow cX4_copyBelow 5 none :: ([.fieldLink RX4 9 "SnapshotPieces$Tree" "values" "[J", .methodLink RX4 24 yX4_isNode, .static yX4_isNode, .initialized RX4, .code yX4_isNode cX4_isNode 1 (some .boolean), .methodLink RX4 31 yX4_lastPath, .static yX4_lastPath, .code yX4_lastPath cX4_lastPath 3 (some .int), .methodLink RX4 35 yX4_firstPath, .static yX4_firstPath, .code yX4_firstPath cX4_firstPath 3 (some .int), .methodLink RX4 27 yX4_renew, .instanceMethod yX4_renew, .selects RX4 yX4_renew yX4_renew, .code yX4_renew cX4_renew 8 none, .fieldLink RX4 13 "SnapshotPieces$Tree" "digests" "[J", .methodLink RX4 38 yX4_mix, .static yX4_mix, .code yX4_mix cX4_mix 6 (some .long), .constantLong RX4 16 (-7046029254386353131), .constantLong RX4 18 (-4658895280553007687)] ++ wsX40)
def wsX1_take_r1 : List Cond := [Cond.fieldLink RX1 93 "SnapshotPieces$Piece" "pair" "Z", Cond.fieldLink RX1 84 "SnapshotPieces$Piece" "node" "I", Cond.fieldLink RX1 97 "SnapshotPieces$Piece" "left" "J", Cond.fieldLink RX1 101 "SnapshotPieces$Piece" "right" "J", Cond.fieldLink RX1 12 "SnapshotPieces$Joiner" "own" "LSnapshotPieces$Tree;", Cond.fieldLink RX1 104 "SnapshotPieces$Piece" "leaves" "LSnapshotPieces$Tree;", Cond.methodLink RX1 74 yX1_learn, Cond.instanceMethod yX1_learn, Cond.selects RX1 yX1_learn yX1_learn, Cond.initialized RX1, Cond.code yX1_learn cX1_learn 4 none, Cond.fieldLink RX1 24 "SnapshotPieces$Joiner" "known" "[Z", Cond.fieldLink RX1 28 "SnapshotPieces$Joiner" "due" "[J", Cond.methodLink RX1 51 yX4_isNode, Cond.static yX4_isNode, Cond.initialized RX4, Cond.code yX4_isNode cX4_isNode 1 (some .boolean), Cond.methodLink RX1 110 yX4_emptyBelow, Cond.instanceMethod yX4_emptyBelow, Cond.selects RX4 yX4_emptyBelow yX4_emptyBelow, Cond.code yX4_emptyBelow cX4_emptyBelow 4 none, Cond.fieldLink RX4 9 "SnapshotPieces$Tree" "values" "[J", Cond.methodLink RX4 24 yX4_isNode, Cond.methodLink RX4 31 yX4_lastPath]
def wsX1_take_r2 : List Cond := [Cond.static yX4_lastPath, Cond.code yX4_lastPath cX4_lastPath 3 (some .int), Cond.methodLink RX4 35 yX4_firstPath, Cond.static yX4_firstPath, Cond.code yX4_firstPath cX4_firstPath 3 (some .int), Cond.methodLink RX4 27 yX4_renew, Cond.instanceMethod yX4_renew, Cond.selects RX4 yX4_renew yX4_renew, Cond.code yX4_renew cX4_renew 8 none, Cond.fieldLink RX4 13 "SnapshotPieces$Tree" "digests" "[J", Cond.methodLink RX4 38 yX4_mix, Cond.static yX4_mix, Cond.code yX4_mix cX4_mix 6 (some .long), Cond.constantLong RX4 16 (-7046029254386353131), Cond.constantLong RX4 18 (-4658895280553007687), Cond.methodLink RX1 107 yX4_copyBelow, Cond.instanceMethod yX4_copyBelow, Cond.selects RX4 yX4_copyBelow yX4_copyBelow, Cond.code yX4_copyBelow cX4_copyBelow 5 none, Cond.methodLink RX1 78 yX1_findLacks, Cond.instanceMethod yX1_findLacks, Cond.selects RX1 yX1_findLacks yX1_findLacks, Cond.code yX1_findLacks cX1_findLacks 2 none, Cond.fieldLink RX1 36 "SnapshotPieces$Joiner" "lackSize" "I"]
def wsX1_take_r3 : List Cond := [Cond.fieldLink RX1 32 "SnapshotPieces$Joiner" "lackRow" "[I", Cond.methodLink RX1 113 yX1_lacks, Cond.instanceMethod yX1_lacks, Cond.selects RX1 yX1_lacks yX1_lacks, Cond.code yX1_lacks cX1_lacks 2 (some .boolean), Cond.methodLink RX1 47 yX4_digestOf, Cond.instanceMethod yX4_digestOf, Cond.selects RX4 yX4_digestOf yX4_digestOf, Cond.code yX4_digestOf cX4_digestOf 2 (some .long), Cond.methodLink RX1 55 yX4_isLeaf, Cond.static yX4_isLeaf, Cond.code yX4_isLeaf cX4_isLeaf 1 (some .boolean)]
def wsX1_take : List Cond := .code yX1_take cX1_take 2 none :: ((wsX1_take_r1 ++ (wsX1_take_r2 ++ wsX1_take_r3)) ++ wsX20 ++ wsX10 ++ wsX40)
def wsX2_init : List Cond := .code yX2_init cX2_init 1 none :: ([.methodLink RX2 1 objectInit, .instanceMethod objectInit, .code objectInit ⟨#[0xb1]⟩ 1 none, .classLink RX2 7 RX4, .instantiable RX4 2, .initialized RX4, .fieldLink RX2 10 "SnapshotPieces$Piece" "leaves" "LSnapshotPieces$Tree;", .fieldLink RX2 16 "SnapshotPieces$Piece" "node" "I", .fieldLink RX2 20 "SnapshotPieces$Piece" "pair" "Z", .fieldLink RX2 24 "SnapshotPieces$Piece" "left" "J", .fieldLink RX2 28 "SnapshotPieces$Piece" "right" "J", .fieldLink RX2 31 "SnapshotPieces$Piece" "bytes" "I", .instanceMethod yX4_init, .code yX4_init cX4_init 1 none, .methodLink RX4 1 objectInit, .arrayClass .long, .fieldLink RX4 9 "SnapshotPieces$Tree" "values" "[J", .fieldLink RX4 13 "SnapshotPieces$Tree" "digests" "[J"] ++ wsX40 ++ wsX20)
def wsX2_fillPair : List Cond := .code yX2_fillPair cX2_fillPair 9 none :: ([.fieldLink RX2 16 "SnapshotPieces$Piece" "node" "I", .fieldLink RX2 20 "SnapshotPieces$Piece" "pair" "Z", .fieldLink RX2 24 "SnapshotPieces$Piece" "left" "J", .fieldLink RX2 28 "SnapshotPieces$Piece" "right" "J", .fieldLink RX2 31 "SnapshotPieces$Piece" "bytes" "I", .methodLink RX2 34 yX4_digestOf, .instanceMethod yX4_digestOf, .selects RX4 yX4_digestOf yX4_digestOf, .initialized RX4, .code yX4_digestOf cX4_digestOf 2 (some .long), .fieldLink RX4 13 "SnapshotPieces$Tree" "digests" "[J", .methodLink RX4 24 yX4_isNode, .static yX4_isNode, .code yX4_isNode cX4_isNode 1 (some .boolean)] ++ wsX20 ++ wsX40)
def wsX4_firstFilled : List Cond := .code yX4_firstFilled cX4_firstFilled 4 (some .int) :: ([.fieldLink RX4 9 "SnapshotPieces$Tree" "values" "[J", .methodLink RX4 24 yX4_isNode, .static yX4_isNode, .initialized RX4, .code yX4_isNode cX4_isNode 1 (some .boolean), .methodLink RX4 31 yX4_lastPath, .static yX4_lastPath, .code yX4_lastPath cX4_lastPath 3 (some .int), .methodLink RX4 35 yX4_firstPath, .static yX4_firstPath, .code yX4_firstPath cX4_firstPath 3 (some .int)] ++ wsX40)
def wsX4_valueOf : List Cond := .code yX4_valueOf cX4_valueOf 2 (some .long) :: ([.fieldLink RX4 9 "SnapshotPieces$Tree" "values" "[J", .methodLink RX4 20 yX4_isPath, .static yX4_isPath, .initialized RX4, .code yX4_isPath cX4_isPath 1 (some .boolean)] ++ wsX40)
def wsX2_turnFirst_r1 : List Cond := [Cond.fieldLink RX2 10 "SnapshotPieces$Piece" "leaves" "LSnapshotPieces$Tree;", Cond.fieldLink RX2 16 "SnapshotPieces$Piece" "node" "I", Cond.methodLink RX2 66 yX4_firstFilled, Cond.instanceMethod yX4_firstFilled, Cond.selects RX4 yX4_firstFilled yX4_firstFilled, Cond.initialized RX4, Cond.code yX4_firstFilled cX4_firstFilled 4 (some .int), Cond.fieldLink RX4 9 "SnapshotPieces$Tree" "values" "[J", Cond.methodLink RX4 24 yX4_isNode, Cond.static yX4_isNode, Cond.code yX4_isNode cX4_isNode 1 (some .boolean), Cond.methodLink RX4 31 yX4_lastPath, Cond.static yX4_lastPath, Cond.code yX4_lastPath cX4_lastPath 3 (some .int), Cond.methodLink RX4 35 yX4_firstPath, Cond.static yX4_firstPath, Cond.code yX4_firstPath cX4_firstPath 3 (some .int), Cond.methodLink RX2 69 yX4_firstPath, Cond.methodLink RX2 72 yX4_valueOf, Cond.instanceMethod yX4_valueOf, Cond.selects RX4 yX4_valueOf yX4_valueOf, Cond.code yX4_valueOf cX4_valueOf 2 (some .long), Cond.methodLink RX4 20 yX4_isPath, Cond.static yX4_isPath]
def wsX2_turnFirst_r2 : List Cond := [Cond.code yX4_isPath cX4_isPath 1 (some .boolean), Cond.methodLink RX2 51 yX4_put, Cond.instanceMethod yX4_put, Cond.selects RX4 yX4_put yX4_put, Cond.code yX4_put cX4_put 4 none, Cond.methodLink RX4 27 yX4_renew, Cond.instanceMethod yX4_renew, Cond.selects RX4 yX4_renew yX4_renew, Cond.code yX4_renew cX4_renew 8 none, Cond.fieldLink RX4 13 "SnapshotPieces$Tree" "digests" "[J", Cond.methodLink RX4 38 yX4_mix, Cond.static yX4_mix, Cond.code yX4_mix cX4_mix 6 (some .long), Cond.constantLong RX4 16 (-7046029254386353131), Cond.constantLong RX4 18 (-4658895280553007687)]
def wsX2_turnFirst : List Cond := .code yX2_turnFirst cX2_turnFirst 3 none :: ((wsX2_turnFirst_r1 ++ wsX2_turnFirst_r2) ++ wsX20 ++ wsX40)
def wsX4_lastFilled : List Cond := .code yX4_lastFilled cX4_lastFilled 4 (some .int) :: ([.fieldLink RX4 9 "SnapshotPieces$Tree" "values" "[J", .methodLink RX4 24 yX4_isNode, .static yX4_isNode, .initialized RX4, .code yX4_isNode cX4_isNode 1 (some .boolean), .methodLink RX4 35 yX4_firstPath, .static yX4_firstPath, .code yX4_firstPath cX4_firstPath 3 (some .int), .methodLink RX4 31 yX4_lastPath, .static yX4_lastPath, .code yX4_lastPath cX4_lastPath 3 (some .int)] ++ wsX40)
def wsX4_filledBelow : List Cond := .code yX4_filledBelow cX4_filledBelow 5 (some .int) :: ([.fieldLink RX4 9 "SnapshotPieces$Tree" "values" "[J", .methodLink RX4 24 yX4_isNode, .static yX4_isNode, .initialized RX4, .code yX4_isNode cX4_isNode 1 (some .boolean), .methodLink RX4 31 yX4_lastPath, .static yX4_lastPath, .code yX4_lastPath cX4_lastPath 3 (some .int), .methodLink RX4 35 yX4_firstPath, .static yX4_firstPath, .code yX4_firstPath cX4_firstPath 3 (some .int)] ++ wsX40)
def wsX2_fillLeaves_r1 : List Cond := [Cond.fieldLink RX2 16 "SnapshotPieces$Piece" "node" "I", Cond.fieldLink RX2 20 "SnapshotPieces$Piece" "pair" "Z", Cond.fieldLink RX2 10 "SnapshotPieces$Piece" "leaves" "LSnapshotPieces$Tree;", Cond.fieldLink RX2 31 "SnapshotPieces$Piece" "bytes" "I", Cond.methodLink RX2 40 yX4_copyBelow, Cond.instanceMethod yX4_copyBelow, Cond.selects RX4 yX4_copyBelow yX4_copyBelow, Cond.initialized RX4, Cond.code yX4_copyBelow cX4_copyBelow 5 none, Cond.fieldLink RX4 9 "SnapshotPieces$Tree" "values" "[J", Cond.methodLink RX4 24 yX4_isNode, Cond.static yX4_isNode, Cond.code yX4_isNode cX4_isNode 1 (some .boolean), Cond.methodLink RX4 31 yX4_lastPath, Cond.static yX4_lastPath, Cond.code yX4_lastPath cX4_lastPath 3 (some .int), Cond.methodLink RX4 35 yX4_firstPath, Cond.static yX4_firstPath, Cond.code yX4_firstPath cX4_firstPath 3 (some .int), Cond.methodLink RX4 27 yX4_renew, Cond.instanceMethod yX4_renew, Cond.selects RX4 yX4_renew yX4_renew, Cond.code yX4_renew cX4_renew 8 none, Cond.fieldLink RX4 13 "SnapshotPieces$Tree" "digests" "[J"]
def wsX2_fillLeaves_r2 : List Cond := [Cond.methodLink RX4 38 yX4_mix, Cond.static yX4_mix, Cond.code yX4_mix cX4_mix 6 (some .long), Cond.constantLong RX4 16 (-7046029254386353131), Cond.constantLong RX4 18 (-4658895280553007687), Cond.methodLink RX2 44 yX2_turnFirst, Cond.instanceMethod yX2_turnFirst, Cond.selects RX2 yX2_turnFirst yX2_turnFirst, Cond.initialized RX2, Cond.code yX2_turnFirst cX2_turnFirst 3 none, Cond.methodLink RX2 66 yX4_firstFilled, Cond.instanceMethod yX4_firstFilled, Cond.selects RX4 yX4_firstFilled yX4_firstFilled, Cond.code yX4_firstFilled cX4_firstFilled 4 (some .int), Cond.methodLink RX2 69 yX4_firstPath, Cond.methodLink RX2 72 yX4_valueOf, Cond.instanceMethod yX4_valueOf, Cond.selects RX4 yX4_valueOf yX4_valueOf, Cond.code yX4_valueOf cX4_valueOf 2 (some .long), Cond.methodLink RX4 20 yX4_isPath, Cond.static yX4_isPath, Cond.code yX4_isPath cX4_isPath 1 (some .boolean), Cond.methodLink RX2 51 yX4_put, Cond.instanceMethod yX4_put]
def wsX2_fillLeaves_r3 : List Cond := [Cond.selects RX4 yX4_put yX4_put, Cond.code yX4_put cX4_put 4 none, Cond.methodLink RX2 47 yX4_lastFilled, Cond.instanceMethod yX4_lastFilled, Cond.selects RX4 yX4_lastFilled yX4_lastFilled, Cond.code yX4_lastFilled cX4_lastFilled 4 (some .int), Cond.methodLink RX2 55 yX4_isLeaf, Cond.static yX4_isLeaf, Cond.code yX4_isLeaf cX4_isLeaf 1 (some .boolean), Cond.methodLink RX2 59 yX4_filledBelow, Cond.instanceMethod yX4_filledBelow, Cond.selects RX4 yX4_filledBelow yX4_filledBelow, Cond.code yX4_filledBelow cX4_filledBelow 5 (some .int)]
def wsX2_fillLeaves : List Cond := .code yX2_fillLeaves cX2_fillLeaves 4 none :: ((wsX2_fillLeaves_r1 ++ (wsX2_fillLeaves_r2 ++ wsX2_fillLeaves_r3)) ++ wsX20 ++ wsX40)
def wsX3_init : List Cond := .code yX3_init cX3_init 1 none :: ([.methodLink RX3 3 objectInit, .instanceMethod objectInit, .code objectInit ⟨#[0xb1]⟩ 1 none, .arrayClass .int, .fieldLink RX3 9 "SnapshotPieces$Source" "paths" "[I", .arrayClass .long, .fieldLink RX3 15 "SnapshotPieces$Source" "told" "[J", .fieldLink RX3 19 "SnapshotPieces$Source" "top" "I"] ++ wsX30)
def wsX3_hasHeight : List Cond := .code yX3_hasHeight cX3_hasHeight 2 (some .boolean) :: ([.fieldLink RX3 19 "SnapshotPieces$Source" "top" "I"] ++ wsX30)
def wsX3_append : List Cond := .code yX3_append cX3_append 4 (some .boolean) :: ([.fieldLink RX3 19 "SnapshotPieces$Source" "top" "I", .fieldLink RX3 9 "SnapshotPieces$Source" "paths" "[I", .fieldLink RX3 15 "SnapshotPieces$Source" "told" "[J"] ++ wsX30)
def wsX3_valueAt : List Cond := .code yX3_valueAt cX3_valueAt 4 (some .long) :: ([.fieldLink RX3 19 "SnapshotPieces$Source" "top" "I", .methodLink RX3 23 Lib.Math.min.name, .static Lib.Math.min.name, .initialized "java/lang/Math", .code Lib.Math.min.name Lib.Math.min.code 2 (some .int), .fieldLink RX3 9 "SnapshotPieces$Source" "paths" "[I", .fieldLink RX3 15 "SnapshotPieces$Source" "told" "[J"] ++ wsX30)
def wsX5_init_r1 : List Cond := [Cond.methodLink RX5 1 objectInit, Cond.instanceMethod objectInit, Cond.code objectInit ⟨#[0xb1]⟩ 1 none, Cond.classLink RX5 7 RX3, Cond.instantiable RX3 3, Cond.initialized RX3, Cond.fieldLink RX5 10 "SnapshotPieces" "source" "LSnapshotPieces$Source;", Cond.classLink RX5 16 RX0, Cond.instantiable RX0 8, Cond.initialized RX0, Cond.fieldLink RX5 19 "SnapshotPieces" "givers" "LSnapshotPieces$Givers;", Cond.classLink RX5 23 RX1, Cond.instantiable RX1 8, Cond.initialized RX1, Cond.fieldLink RX5 26 "SnapshotPieces" "joiner" "LSnapshotPieces$Joiner;", Cond.classLink RX5 30 RX2, Cond.instantiable RX2 6, Cond.initialized RX2, Cond.fieldLink RX5 33 "SnapshotPieces" "piece" "LSnapshotPieces$Piece;", Cond.classLink RX5 37 RX4, Cond.instantiable RX4 2, Cond.initialized RX4, Cond.fieldLink RX5 40 "SnapshotPieces" "look" "LSnapshotPieces$Tree;", Cond.fieldLink RX5 44 "SnapshotPieces" "bytes" "I"]
def wsX5_init_r2 : List Cond := [Cond.instanceMethod yX3_init, Cond.code yX3_init cX3_init 1 none, Cond.methodLink RX3 3 objectInit, Cond.arrayClass .int, Cond.fieldLink RX3 9 "SnapshotPieces$Source" "paths" "[I", Cond.arrayClass .long, Cond.fieldLink RX3 15 "SnapshotPieces$Source" "told" "[J", Cond.fieldLink RX3 19 "SnapshotPieces$Source" "top" "I", Cond.instanceMethod yX0_init, Cond.code yX0_init cX0_init 1 none, Cond.methodLink RX0 1 objectInit, Cond.fieldLink RX0 9 "SnapshotPieces$Givers" "kindOf" "[I", Cond.fieldLink RX0 13 "SnapshotPieces$Givers" "headOf" "[I", Cond.fieldLink RX0 16 "SnapshotPieces$Givers" "asksOf" "[I", Cond.fieldLink RX0 19 "SnapshotPieces$Givers" "faultsOf" "[I", Cond.fieldLink RX0 22 "SnapshotPieces$Givers" "namedRow" "[I", Cond.fieldLink RX0 25 "SnapshotPieces$Givers" "size" "I", Cond.fieldLink RX0 29 "SnapshotPieces$Givers" "namedSize" "I", Cond.fieldLink RX0 32 "SnapshotPieces$Givers" "allAsks" "I", Cond.instanceMethod yX1_init, Cond.code yX1_init cX1_init 1 none, Cond.methodLink RX1 3 objectInit, Cond.classLink RX1 9 RX4, Cond.fieldLink RX1 12 "SnapshotPieces$Joiner" "own" "LSnapshotPieces$Tree;"]
def wsX5_init_r3 : List Cond := [Cond.fieldLink RX1 18 "SnapshotPieces$Joiner" "now" "LSnapshotPieces$Tree;", Cond.fieldLink RX1 21 "SnapshotPieces$Joiner" "before" "LSnapshotPieces$Tree;", Cond.arrayClass .boolean, Cond.fieldLink RX1 24 "SnapshotPieces$Joiner" "known" "[Z", Cond.fieldLink RX1 28 "SnapshotPieces$Joiner" "due" "[J", Cond.fieldLink RX1 32 "SnapshotPieces$Joiner" "lackRow" "[I", Cond.fieldLink RX1 36 "SnapshotPieces$Joiner" "lackSize" "I", Cond.fieldLink RX1 40 "SnapshotPieces$Joiner" "goal" "I", Cond.instanceMethod yX4_init, Cond.code yX4_init cX4_init 1 none, Cond.methodLink RX4 1 objectInit, Cond.fieldLink RX4 9 "SnapshotPieces$Tree" "values" "[J", Cond.fieldLink RX4 13 "SnapshotPieces$Tree" "digests" "[J", Cond.instanceMethod yX2_init, Cond.code yX2_init cX2_init 1 none, Cond.methodLink RX2 1 objectInit, Cond.classLink RX2 7 RX4, Cond.fieldLink RX2 10 "SnapshotPieces$Piece" "leaves" "LSnapshotPieces$Tree;", Cond.fieldLink RX2 16 "SnapshotPieces$Piece" "node" "I", Cond.fieldLink RX2 20 "SnapshotPieces$Piece" "pair" "Z", Cond.fieldLink RX2 24 "SnapshotPieces$Piece" "left" "J", Cond.fieldLink RX2 28 "SnapshotPieces$Piece" "right" "J", Cond.fieldLink RX2 31 "SnapshotPieces$Piece" "bytes" "I"]
def wsX5_init : List Cond := .code yX5_init cX5_init 1 none :: ((wsX5_init_r1 ++ (wsX5_init_r2 ++ wsX5_init_r3)) ++ wsX30 ++ wsX50 ++ wsX00 ++ wsX10 ++ wsX20 ++ wsX40)
def wsX5_leaf : List Cond := .code yX5_leaf cX5_leaf 4 (some .int) :: ([.fieldLink RX5 10 "SnapshotPieces" "source" "LSnapshotPieces$Source;", .fieldLink RX5 56 "SnapshotPieces$Source" "top" "I", .methodLink RX5 48 yX4_isPath, .static yX4_isPath, .initialized RX4, .code yX4_isPath cX4_isPath 1 (some .boolean), .methodLink RX5 52 yX3_append, .instanceMethod yX3_append, .selects RX3 yX3_append yX3_append, .initialized RX3, .code yX3_append cX3_append 4 (some .boolean), .fieldLink RX3 19 "SnapshotPieces$Source" "top" "I", .fieldLink RX3 9 "SnapshotPieces$Source" "paths" "[I", .fieldLink RX3 15 "SnapshotPieces$Source" "told" "[J"] ++ wsX50 ++ wsX30)
def wsX5_value : List Cond := .code yX5_value cX5_value 3 (some .long) :: ([.fieldLink RX5 10 "SnapshotPieces" "source" "LSnapshotPieces$Source;", .methodLink RX5 59 yX3_hasHeight, .instanceMethod yX3_hasHeight, .selects RX3 yX3_hasHeight yX3_hasHeight, .initialized RX3, .code yX3_hasHeight cX3_hasHeight 2 (some .boolean), .fieldLink RX3 19 "SnapshotPieces$Source" "top" "I", .methodLink RX5 62 yX3_valueAt, .instanceMethod yX3_valueAt, .selects RX3 yX3_valueAt yX3_valueAt, .code yX3_valueAt cX3_valueAt 4 (some .long), .methodLink RX3 23 Lib.Math.min.name, .static Lib.Math.min.name, .initialized "java/lang/Math", .code Lib.Math.min.name Lib.Math.min.code 2 (some .int), .fieldLink RX3 9 "SnapshotPieces$Source" "paths" "[I", .fieldLink RX3 15 "SnapshotPieces$Source" "told" "[J"] ++ wsX50 ++ wsX30)
def wsX5_digest_r1 : List Cond := [Cond.fieldLink RX5 10 "SnapshotPieces" "source" "LSnapshotPieces$Source;", Cond.fieldLink RX5 40 "SnapshotPieces" "look" "LSnapshotPieces$Tree;", Cond.methodLink RX5 59 yX3_hasHeight, Cond.instanceMethod yX3_hasHeight, Cond.selects RX3 yX3_hasHeight yX3_hasHeight, Cond.initialized RX3, Cond.code yX3_hasHeight cX3_hasHeight 2 (some .boolean), Cond.fieldLink RX3 19 "SnapshotPieces$Source" "top" "I", Cond.methodLink RX5 66 yX4_isNode, Cond.static yX4_isNode, Cond.initialized RX4, Cond.code yX4_isNode cX4_isNode 1 (some .boolean), Cond.methodLink RX5 69 yX3_copyState, Cond.instanceMethod yX3_copyState, Cond.selects RX3 yX3_copyState yX3_copyState, Cond.code yX3_copyState cX3_copyState 6 none, Cond.fieldLink RX3 31 "SnapshotPieces$Tree" "values" "[J", Cond.methodLink RX3 23 Lib.Math.min.name, Cond.static Lib.Math.min.name, Cond.initialized "java/lang/Math", Cond.code Lib.Math.min.name Lib.Math.min.code 2 (some .int), Cond.fieldLink RX3 9 "SnapshotPieces$Source" "paths" "[I", Cond.fieldLink RX3 15 "SnapshotPieces$Source" "told" "[J", Cond.methodLink RX3 34 yX4_isPath]
def wsX5_digest_r2 : List Cond := [Cond.static yX4_isPath, Cond.code yX4_isPath cX4_isPath 1 (some .boolean), Cond.methodLink RX3 38 yX4_renew, Cond.instanceMethod yX4_renew, Cond.selects RX4 yX4_renew yX4_renew, Cond.code yX4_renew cX4_renew 8 none, Cond.fieldLink RX4 13 "SnapshotPieces$Tree" "digests" "[J", Cond.fieldLink RX4 9 "SnapshotPieces$Tree" "values" "[J", Cond.methodLink RX4 35 yX4_firstPath, Cond.static yX4_firstPath, Cond.code yX4_firstPath cX4_firstPath 3 (some .int), Cond.methodLink RX4 31 yX4_lastPath, Cond.static yX4_lastPath, Cond.code yX4_lastPath cX4_lastPath 3 (some .int), Cond.methodLink RX4 38 yX4_mix, Cond.static yX4_mix, Cond.code yX4_mix cX4_mix 6 (some .long), Cond.constantLong RX4 16 (-7046029254386353131), Cond.constantLong RX4 18 (-4658895280553007687), Cond.methodLink RX5 73 yX4_digestOf, Cond.instanceMethod yX4_digestOf, Cond.selects RX4 yX4_digestOf yX4_digestOf, Cond.code yX4_digestOf cX4_digestOf 2 (some .long), Cond.methodLink RX4 24 yX4_isNode]
def wsX5_digest : List Cond := .code yX5_digest cX5_digest 3 (some .long) :: ((wsX5_digest_r1 ++ wsX5_digest_r2) ++ wsX50 ++ wsX30 ++ wsX40)
def wsX5_giver : List Cond := .code yX5_giver cX5_giver 3 (some .int) :: ([.fieldLink RX5 19 "SnapshotPieces" "givers" "LSnapshotPieces$Givers;", .fieldLink RX5 80 "SnapshotPieces$Givers" "size" "I", .methodLink RX5 77 yX0_append, .instanceMethod yX0_append, .selects RX0 yX0_append yX0_append, .initialized RX0, .code yX0_append cX0_append 3 (some .boolean), .fieldLink RX0 25 "SnapshotPieces$Givers" "size" "I", .fieldLink RX0 9 "SnapshotPieces$Givers" "kindOf" "[I", .fieldLink RX0 13 "SnapshotPieces$Givers" "headOf" "[I"] ++ wsX50 ++ wsX00)
def wsX5_faults : List Cond := .code yX5_faults cX5_faults 2 (some .int) :: ([.fieldLink RX5 19 "SnapshotPieces" "givers" "LSnapshotPieces$Givers;", .fieldLink RX5 86 "SnapshotPieces$Givers" "faultsOf" "[I", .methodLink RX5 83 yX0_has, .instanceMethod yX0_has, .selects RX0 yX0_has yX0_has, .initialized RX0, .code yX0_has cX0_has 2 (some .boolean), .fieldLink RX0 25 "SnapshotPieces$Givers" "size" "I"] ++ wsX50 ++ wsX00)
def wsX5_named : List Cond := .code yX5_named cX5_named 2 (some .int) :: ([.fieldLink RX5 19 "SnapshotPieces" "givers" "LSnapshotPieces$Givers;", .fieldLink RX5 90 "SnapshotPieces$Givers" "namedSize" "I", .fieldLink RX5 93 "SnapshotPieces$Givers" "namedRow" "[I"] ++ wsX50 ++ wsX00)
def wsX5_target_r1 : List Cond := [Cond.fieldLink RX5 10 "SnapshotPieces" "source" "LSnapshotPieces$Source;", Cond.fieldLink RX5 26 "SnapshotPieces" "joiner" "LSnapshotPieces$Joiner;", Cond.fieldLink RX5 100 "SnapshotPieces$Joiner" "lackSize" "I", Cond.methodLink RX5 59 yX3_hasHeight, Cond.instanceMethod yX3_hasHeight, Cond.selects RX3 yX3_hasHeight yX3_hasHeight, Cond.initialized RX3, Cond.code yX3_hasHeight cX3_hasHeight 2 (some .boolean), Cond.fieldLink RX3 19 "SnapshotPieces$Source" "top" "I", Cond.methodLink RX5 96 yX1_aim, Cond.instanceMethod yX1_aim, Cond.selects RX1 yX1_aim yX1_aim, Cond.initialized RX1, Cond.code yX1_aim cX1_aim 3 none, Cond.fieldLink RX1 40 "SnapshotPieces$Joiner" "goal" "I", Cond.fieldLink RX1 18 "SnapshotPieces$Joiner" "now" "LSnapshotPieces$Tree;", Cond.methodLink RX1 64 Lib.Math.max.name, Cond.static Lib.Math.max.name, Cond.initialized "java/lang/Math", Cond.code Lib.Math.max.name Lib.Math.max.code 2 (some .int), Cond.fieldLink RX1 21 "SnapshotPieces$Joiner" "before" "LSnapshotPieces$Tree;", Cond.methodLink RX1 58 yX3_copyState, Cond.instanceMethod yX3_copyState, Cond.selects RX3 yX3_copyState yX3_copyState]
def wsX5_target_r2 : List Cond := [Cond.code yX3_copyState cX3_copyState 6 none, Cond.fieldLink RX3 31 "SnapshotPieces$Tree" "values" "[J", Cond.methodLink RX3 23 Lib.Math.min.name, Cond.static Lib.Math.min.name, Cond.code Lib.Math.min.name Lib.Math.min.code 2 (some .int), Cond.fieldLink RX3 9 "SnapshotPieces$Source" "paths" "[I", Cond.fieldLink RX3 15 "SnapshotPieces$Source" "told" "[J", Cond.methodLink RX3 34 yX4_isPath, Cond.static yX4_isPath, Cond.initialized RX4, Cond.code yX4_isPath cX4_isPath 1 (some .boolean), Cond.methodLink RX3 38 yX4_renew, Cond.instanceMethod yX4_renew, Cond.selects RX4 yX4_renew yX4_renew, Cond.code yX4_renew cX4_renew 8 none, Cond.fieldLink RX4 13 "SnapshotPieces$Tree" "digests" "[J", Cond.fieldLink RX4 9 "SnapshotPieces$Tree" "values" "[J", Cond.methodLink RX4 35 yX4_firstPath, Cond.static yX4_firstPath, Cond.code yX4_firstPath cX4_firstPath 3 (some .int), Cond.methodLink RX4 31 yX4_lastPath, Cond.static yX4_lastPath, Cond.code yX4_lastPath cX4_lastPath 3 (some .int), Cond.methodLink RX4 38 yX4_mix]
def wsX5_target_r3 : List Cond := [Cond.static yX4_mix, Cond.code yX4_mix cX4_mix 6 (some .long), Cond.constantLong RX4 16 (-7046029254386353131), Cond.constantLong RX4 18 (-4658895280553007687), Cond.methodLink RX1 70 yX1_forget, Cond.instanceMethod yX1_forget, Cond.selects RX1 yX1_forget yX1_forget, Cond.code yX1_forget cX1_forget 3 none, Cond.fieldLink RX1 24 "SnapshotPieces$Joiner" "known" "[Z", Cond.methodLink RX1 47 yX4_digestOf, Cond.instanceMethod yX4_digestOf, Cond.selects RX4 yX4_digestOf yX4_digestOf, Cond.code yX4_digestOf cX4_digestOf 2 (some .long), Cond.methodLink RX4 24 yX4_isNode, Cond.static yX4_isNode, Cond.code yX4_isNode cX4_isNode 1 (some .boolean), Cond.methodLink RX1 74 yX1_learn, Cond.instanceMethod yX1_learn, Cond.selects RX1 yX1_learn yX1_learn, Cond.code yX1_learn cX1_learn 4 none, Cond.fieldLink RX1 28 "SnapshotPieces$Joiner" "due" "[J", Cond.fieldLink RX1 12 "SnapshotPieces$Joiner" "own" "LSnapshotPieces$Tree;", Cond.methodLink RX1 51 yX4_isNode, Cond.methodLink RX1 110 yX4_emptyBelow]
def wsX5_target_r4 : List Cond := [Cond.instanceMethod yX4_emptyBelow, Cond.selects RX4 yX4_emptyBelow yX4_emptyBelow, Cond.code yX4_emptyBelow cX4_emptyBelow 4 none, Cond.methodLink RX4 27 yX4_renew, Cond.methodLink RX1 78 yX1_findLacks, Cond.instanceMethod yX1_findLacks, Cond.selects RX1 yX1_findLacks yX1_findLacks, Cond.code yX1_findLacks cX1_findLacks 2 none, Cond.fieldLink RX1 36 "SnapshotPieces$Joiner" "lackSize" "I", Cond.fieldLink RX1 32 "SnapshotPieces$Joiner" "lackRow" "[I", Cond.methodLink RX1 113 yX1_lacks, Cond.instanceMethod yX1_lacks, Cond.selects RX1 yX1_lacks yX1_lacks, Cond.code yX1_lacks cX1_lacks 2 (some .boolean), Cond.methodLink RX1 55 yX4_isLeaf, Cond.static yX4_isLeaf, Cond.code yX4_isLeaf cX4_isLeaf 1 (some .boolean)]
def wsX5_target : List Cond := .code yX5_target cX5_target 2 (some .int) :: ((wsX5_target_r1 ++ (wsX5_target_r2 ++ (wsX5_target_r3 ++ wsX5_target_r4))) ++ wsX50 ++ wsX10 ++ wsX30 ++ wsX40)
def wsX5_exchange_r1 : List Cond := [Cond.fieldLink RX5 19 "SnapshotPieces" "givers" "LSnapshotPieces$Givers;", Cond.fieldLink RX5 26 "SnapshotPieces" "joiner" "LSnapshotPieces$Joiner;", Cond.fieldLink RX5 139 "SnapshotPieces$Joiner" "goal" "I", Cond.fieldLink RX5 155 "SnapshotPieces$Givers" "kindOf" "[I", Cond.fieldLink RX5 158 "SnapshotPieces$Joiner" "before" "LSnapshotPieces$Tree;", Cond.fieldLink RX5 161 "SnapshotPieces$Joiner" "now" "LSnapshotPieces$Tree;", Cond.fieldLink RX5 33 "SnapshotPieces" "piece" "LSnapshotPieces$Piece;", Cond.fieldLink RX5 44 "SnapshotPieces" "bytes" "I", Cond.fieldLink RX5 174 "SnapshotPieces$Piece" "bytes" "I", Cond.methodLink RX5 83 yX0_has, Cond.instanceMethod yX0_has, Cond.selects RX0 yX0_has yX0_has, Cond.initialized RX0, Cond.code yX0_has cX0_has 2 (some .boolean), Cond.fieldLink RX0 25 "SnapshotPieces$Givers" "size" "I", Cond.methodLink RX5 152 yX0_answers, Cond.instanceMethod yX0_answers, Cond.selects RX0 yX0_answers yX0_answers, Cond.code yX0_answers cX0_answers 5 (some .boolean), Cond.fieldLink RX0 16 "SnapshotPieces$Givers" "asksOf" "[I", Cond.fieldLink RX0 32 "SnapshotPieces$Givers" "allAsks" "I", Cond.fieldLink RX0 13 "SnapshotPieces$Givers" "headOf" "[I", Cond.fieldLink RX0 9 "SnapshotPieces$Givers" "kindOf" "[I", Cond.methodLink RX0 35 yX0_has]
def wsX5_exchange_r2 : List Cond := [Cond.methodLink RX5 164 yX4_isLeaf, Cond.static yX4_isLeaf, Cond.initialized RX4, Cond.code yX4_isLeaf cX4_isLeaf 1 (some .boolean), Cond.methodLink RX5 167 yX2_fillLeaves, Cond.instanceMethod yX2_fillLeaves, Cond.selects RX2 yX2_fillLeaves yX2_fillLeaves, Cond.initialized RX2, Cond.code yX2_fillLeaves cX2_fillLeaves 4 none, Cond.fieldLink RX2 16 "SnapshotPieces$Piece" "node" "I", Cond.fieldLink RX2 20 "SnapshotPieces$Piece" "pair" "Z", Cond.fieldLink RX2 10 "SnapshotPieces$Piece" "leaves" "LSnapshotPieces$Tree;", Cond.fieldLink RX2 31 "SnapshotPieces$Piece" "bytes" "I", Cond.methodLink RX2 40 yX4_copyBelow, Cond.instanceMethod yX4_copyBelow, Cond.selects RX4 yX4_copyBelow yX4_copyBelow, Cond.code yX4_copyBelow cX4_copyBelow 5 none, Cond.fieldLink RX4 9 "SnapshotPieces$Tree" "values" "[J", Cond.methodLink RX4 24 yX4_isNode, Cond.static yX4_isNode, Cond.code yX4_isNode cX4_isNode 1 (some .boolean), Cond.methodLink RX4 31 yX4_lastPath, Cond.static yX4_lastPath, Cond.code yX4_lastPath cX4_lastPath 3 (some .int)]
def wsX5_exchange_r3 : List Cond := [Cond.methodLink RX4 35 yX4_firstPath, Cond.static yX4_firstPath, Cond.code yX4_firstPath cX4_firstPath 3 (some .int), Cond.methodLink RX4 27 yX4_renew, Cond.instanceMethod yX4_renew, Cond.selects RX4 yX4_renew yX4_renew, Cond.code yX4_renew cX4_renew 8 none, Cond.fieldLink RX4 13 "SnapshotPieces$Tree" "digests" "[J", Cond.methodLink RX4 38 yX4_mix, Cond.static yX4_mix, Cond.code yX4_mix cX4_mix 6 (some .long), Cond.constantLong RX4 16 (-7046029254386353131), Cond.constantLong RX4 18 (-4658895280553007687), Cond.methodLink RX2 44 yX2_turnFirst, Cond.instanceMethod yX2_turnFirst, Cond.selects RX2 yX2_turnFirst yX2_turnFirst, Cond.code yX2_turnFirst cX2_turnFirst 3 none, Cond.methodLink RX2 66 yX4_firstFilled, Cond.instanceMethod yX4_firstFilled, Cond.selects RX4 yX4_firstFilled yX4_firstFilled, Cond.code yX4_firstFilled cX4_firstFilled 4 (some .int), Cond.methodLink RX2 69 yX4_firstPath, Cond.methodLink RX2 72 yX4_valueOf, Cond.instanceMethod yX4_valueOf]
def wsX5_exchange_r4 : List Cond := [Cond.selects RX4 yX4_valueOf yX4_valueOf, Cond.code yX4_valueOf cX4_valueOf 2 (some .long), Cond.methodLink RX4 20 yX4_isPath, Cond.static yX4_isPath, Cond.code yX4_isPath cX4_isPath 1 (some .boolean), Cond.methodLink RX2 51 yX4_put, Cond.instanceMethod yX4_put, Cond.selects RX4 yX4_put yX4_put, Cond.code yX4_put cX4_put 4 none, Cond.methodLink RX2 47 yX4_lastFilled, Cond.instanceMethod yX4_lastFilled, Cond.selects RX4 yX4_lastFilled yX4_lastFilled, Cond.code yX4_lastFilled cX4_lastFilled 4 (some .int), Cond.methodLink RX2 55 yX4_isLeaf, Cond.methodLink RX2 59 yX4_filledBelow, Cond.instanceMethod yX4_filledBelow, Cond.selects RX4 yX4_filledBelow yX4_filledBelow, Cond.code yX4_filledBelow cX4_filledBelow 5 (some .int), Cond.methodLink RX5 171 yX2_fillPair, Cond.instanceMethod yX2_fillPair, Cond.selects RX2 yX2_fillPair yX2_fillPair, Cond.code yX2_fillPair cX2_fillPair 9 none, Cond.fieldLink RX2 24 "SnapshotPieces$Piece" "left" "J", Cond.fieldLink RX2 28 "SnapshotPieces$Piece" "right" "J"]
def wsX5_exchange_r5 : List Cond := [Cond.methodLink RX2 34 yX4_digestOf, Cond.instanceMethod yX4_digestOf, Cond.selects RX4 yX4_digestOf yX4_digestOf, Cond.code yX4_digestOf cX4_digestOf 2 (some .long), Cond.methodLink RX5 175 yX1_judge, Cond.instanceMethod yX1_judge, Cond.selects RX1 yX1_judge yX1_judge, Cond.initialized RX1, Cond.code yX1_judge cX1_judge 2 (some .boolean), Cond.fieldLink RX1 84 "SnapshotPieces$Piece" "node" "I", Cond.fieldLink RX1 28 "SnapshotPieces$Joiner" "due" "[J", Cond.methodLink RX1 51 yX4_isNode, Cond.methodLink RX1 89 yX2_ownDigest, Cond.instanceMethod yX2_ownDigest, Cond.selects RX2 yX2_ownDigest yX2_ownDigest, Cond.code yX2_ownDigest cX2_ownDigest 1 (some .long), Cond.methodLink RX2 62 yX4_mix, Cond.methodLink RX5 179 yX1_take, Cond.instanceMethod yX1_take, Cond.selects RX1 yX1_take yX1_take, Cond.code yX1_take cX1_take 2 none, Cond.fieldLink RX1 93 "SnapshotPieces$Piece" "pair" "Z", Cond.fieldLink RX1 97 "SnapshotPieces$Piece" "left" "J", Cond.fieldLink RX1 101 "SnapshotPieces$Piece" "right" "J"]
def wsX5_exchange_r6 : List Cond := [Cond.fieldLink RX1 12 "SnapshotPieces$Joiner" "own" "LSnapshotPieces$Tree;", Cond.fieldLink RX1 104 "SnapshotPieces$Piece" "leaves" "LSnapshotPieces$Tree;", Cond.methodLink RX1 74 yX1_learn, Cond.instanceMethod yX1_learn, Cond.selects RX1 yX1_learn yX1_learn, Cond.code yX1_learn cX1_learn 4 none, Cond.fieldLink RX1 24 "SnapshotPieces$Joiner" "known" "[Z", Cond.methodLink RX1 110 yX4_emptyBelow, Cond.instanceMethod yX4_emptyBelow, Cond.selects RX4 yX4_emptyBelow yX4_emptyBelow, Cond.code yX4_emptyBelow cX4_emptyBelow 4 none, Cond.methodLink RX1 107 yX4_copyBelow, Cond.methodLink RX1 78 yX1_findLacks, Cond.instanceMethod yX1_findLacks, Cond.selects RX1 yX1_findLacks yX1_findLacks, Cond.code yX1_findLacks cX1_findLacks 2 none, Cond.fieldLink RX1 36 "SnapshotPieces$Joiner" "lackSize" "I", Cond.fieldLink RX1 32 "SnapshotPieces$Joiner" "lackRow" "[I", Cond.methodLink RX1 113 yX1_lacks, Cond.instanceMethod yX1_lacks, Cond.selects RX1 yX1_lacks yX1_lacks, Cond.code yX1_lacks cX1_lacks 2 (some .boolean), Cond.methodLink RX1 47 yX4_digestOf, Cond.methodLink RX1 55 yX4_isLeaf]
def wsX5_exchange_r7 : List Cond := [Cond.methodLink RX5 183 yX0_blame, Cond.instanceMethod yX0_blame, Cond.selects RX0 yX0_blame yX0_blame, Cond.code yX0_blame cX0_blame 2 none, Cond.fieldLink RX0 19 "SnapshotPieces$Givers" "faultsOf" "[I", Cond.fieldLink RX0 29 "SnapshotPieces$Givers" "namedSize" "I", Cond.fieldLink RX0 22 "SnapshotPieces$Givers" "namedRow" "[I"]
def wsX5_exchange : List Cond := .code yX5_exchange cX5_exchange 6 (some .int) :: ((wsX5_exchange_r1 ++ (wsX5_exchange_r2 ++ (wsX5_exchange_r3 ++ (wsX5_exchange_r4 ++ (wsX5_exchange_r5 ++ (wsX5_exchange_r6 ++ wsX5_exchange_r7)))))) ++ wsX50 ++ wsX10 ++ wsX00 ++ wsX20 ++ wsX40)
def wsX5_ask_r1 : List Cond := [Cond.fieldLink RX5 19 "SnapshotPieces" "givers" "LSnapshotPieces$Givers;", Cond.fieldLink RX5 26 "SnapshotPieces" "joiner" "LSnapshotPieces$Joiner;", Cond.methodLink RX5 83 yX0_has, Cond.instanceMethod yX0_has, Cond.selects RX0 yX0_has yX0_has, Cond.initialized RX0, Cond.code yX0_has cX0_has 2 (some .boolean), Cond.fieldLink RX0 25 "SnapshotPieces$Givers" "size" "I", Cond.methodLink RX5 66 yX4_isNode, Cond.static yX4_isNode, Cond.initialized RX4, Cond.code yX4_isNode cX4_isNode 1 (some .boolean), Cond.methodLink RX5 103 yX1_lacks, Cond.instanceMethod yX1_lacks, Cond.selects RX1 yX1_lacks yX1_lacks, Cond.initialized RX1, Cond.code yX1_lacks cX1_lacks 2 (some .boolean), Cond.fieldLink RX1 24 "SnapshotPieces$Joiner" "known" "[Z", Cond.fieldLink RX1 28 "SnapshotPieces$Joiner" "due" "[J", Cond.fieldLink RX1 12 "SnapshotPieces$Joiner" "own" "LSnapshotPieces$Tree;", Cond.methodLink RX1 51 yX4_isNode, Cond.methodLink RX1 47 yX4_digestOf, Cond.instanceMethod yX4_digestOf, Cond.selects RX4 yX4_digestOf yX4_digestOf]
def wsX5_ask_r2 : List Cond := [Cond.code yX4_digestOf cX4_digestOf 2 (some .long), Cond.fieldLink RX4 13 "SnapshotPieces$Tree" "digests" "[J", Cond.methodLink RX4 24 yX4_isNode, Cond.methodLink RX1 55 yX4_isLeaf, Cond.static yX4_isLeaf, Cond.code yX4_isLeaf cX4_isLeaf 1 (some .boolean), Cond.methodLink RX5 106 yX5_exchange, Cond.instanceMethod yX5_exchange, Cond.selects RX5 yX5_exchange yX5_exchange, Cond.initialized RX5, Cond.code yX5_exchange cX5_exchange 6 (some .int), Cond.fieldLink RX5 139 "SnapshotPieces$Joiner" "goal" "I", Cond.fieldLink RX5 155 "SnapshotPieces$Givers" "kindOf" "[I", Cond.fieldLink RX5 158 "SnapshotPieces$Joiner" "before" "LSnapshotPieces$Tree;", Cond.fieldLink RX5 161 "SnapshotPieces$Joiner" "now" "LSnapshotPieces$Tree;", Cond.fieldLink RX5 33 "SnapshotPieces" "piece" "LSnapshotPieces$Piece;", Cond.fieldLink RX5 44 "SnapshotPieces" "bytes" "I", Cond.fieldLink RX5 174 "SnapshotPieces$Piece" "bytes" "I", Cond.methodLink RX5 152 yX0_answers, Cond.instanceMethod yX0_answers, Cond.selects RX0 yX0_answers yX0_answers, Cond.code yX0_answers cX0_answers 5 (some .boolean), Cond.fieldLink RX0 16 "SnapshotPieces$Givers" "asksOf" "[I", Cond.fieldLink RX0 32 "SnapshotPieces$Givers" "allAsks" "I"]
def wsX5_ask_r3 : List Cond := [Cond.fieldLink RX0 13 "SnapshotPieces$Givers" "headOf" "[I", Cond.fieldLink RX0 9 "SnapshotPieces$Givers" "kindOf" "[I", Cond.methodLink RX0 35 yX0_has, Cond.methodLink RX5 164 yX4_isLeaf, Cond.methodLink RX5 167 yX2_fillLeaves, Cond.instanceMethod yX2_fillLeaves, Cond.selects RX2 yX2_fillLeaves yX2_fillLeaves, Cond.initialized RX2, Cond.code yX2_fillLeaves cX2_fillLeaves 4 none, Cond.fieldLink RX2 16 "SnapshotPieces$Piece" "node" "I", Cond.fieldLink RX2 20 "SnapshotPieces$Piece" "pair" "Z", Cond.fieldLink RX2 10 "SnapshotPieces$Piece" "leaves" "LSnapshotPieces$Tree;", Cond.fieldLink RX2 31 "SnapshotPieces$Piece" "bytes" "I", Cond.methodLink RX2 40 yX4_copyBelow, Cond.instanceMethod yX4_copyBelow, Cond.selects RX4 yX4_copyBelow yX4_copyBelow, Cond.code yX4_copyBelow cX4_copyBelow 5 none, Cond.fieldLink RX4 9 "SnapshotPieces$Tree" "values" "[J", Cond.methodLink RX4 31 yX4_lastPath, Cond.static yX4_lastPath, Cond.code yX4_lastPath cX4_lastPath 3 (some .int), Cond.methodLink RX4 35 yX4_firstPath, Cond.static yX4_firstPath, Cond.code yX4_firstPath cX4_firstPath 3 (some .int)]
def wsX5_ask_r4 : List Cond := [Cond.methodLink RX4 27 yX4_renew, Cond.instanceMethod yX4_renew, Cond.selects RX4 yX4_renew yX4_renew, Cond.code yX4_renew cX4_renew 8 none, Cond.methodLink RX4 38 yX4_mix, Cond.static yX4_mix, Cond.code yX4_mix cX4_mix 6 (some .long), Cond.constantLong RX4 16 (-7046029254386353131), Cond.constantLong RX4 18 (-4658895280553007687), Cond.methodLink RX2 44 yX2_turnFirst, Cond.instanceMethod yX2_turnFirst, Cond.selects RX2 yX2_turnFirst yX2_turnFirst, Cond.code yX2_turnFirst cX2_turnFirst 3 none, Cond.methodLink RX2 66 yX4_firstFilled, Cond.instanceMethod yX4_firstFilled, Cond.selects RX4 yX4_firstFilled yX4_firstFilled, Cond.code yX4_firstFilled cX4_firstFilled 4 (some .int), Cond.methodLink RX2 69 yX4_firstPath, Cond.methodLink RX2 72 yX4_valueOf, Cond.instanceMethod yX4_valueOf, Cond.selects RX4 yX4_valueOf yX4_valueOf, Cond.code yX4_valueOf cX4_valueOf 2 (some .long), Cond.methodLink RX4 20 yX4_isPath, Cond.static yX4_isPath]
def wsX5_ask_r5 : List Cond := [Cond.code yX4_isPath cX4_isPath 1 (some .boolean), Cond.methodLink RX2 51 yX4_put, Cond.instanceMethod yX4_put, Cond.selects RX4 yX4_put yX4_put, Cond.code yX4_put cX4_put 4 none, Cond.methodLink RX2 47 yX4_lastFilled, Cond.instanceMethod yX4_lastFilled, Cond.selects RX4 yX4_lastFilled yX4_lastFilled, Cond.code yX4_lastFilled cX4_lastFilled 4 (some .int), Cond.methodLink RX2 55 yX4_isLeaf, Cond.methodLink RX2 59 yX4_filledBelow, Cond.instanceMethod yX4_filledBelow, Cond.selects RX4 yX4_filledBelow yX4_filledBelow, Cond.code yX4_filledBelow cX4_filledBelow 5 (some .int), Cond.methodLink RX5 171 yX2_fillPair, Cond.instanceMethod yX2_fillPair, Cond.selects RX2 yX2_fillPair yX2_fillPair, Cond.code yX2_fillPair cX2_fillPair 9 none, Cond.fieldLink RX2 24 "SnapshotPieces$Piece" "left" "J", Cond.fieldLink RX2 28 "SnapshotPieces$Piece" "right" "J", Cond.methodLink RX2 34 yX4_digestOf, Cond.methodLink RX5 175 yX1_judge, Cond.instanceMethod yX1_judge, Cond.selects RX1 yX1_judge yX1_judge]
def wsX5_ask_r6 : List Cond := [Cond.code yX1_judge cX1_judge 2 (some .boolean), Cond.fieldLink RX1 84 "SnapshotPieces$Piece" "node" "I", Cond.methodLink RX1 89 yX2_ownDigest, Cond.instanceMethod yX2_ownDigest, Cond.selects RX2 yX2_ownDigest yX2_ownDigest, Cond.code yX2_ownDigest cX2_ownDigest 1 (some .long), Cond.methodLink RX2 62 yX4_mix, Cond.methodLink RX5 179 yX1_take, Cond.instanceMethod yX1_take, Cond.selects RX1 yX1_take yX1_take, Cond.code yX1_take cX1_take 2 none, Cond.fieldLink RX1 93 "SnapshotPieces$Piece" "pair" "Z", Cond.fieldLink RX1 97 "SnapshotPieces$Piece" "left" "J", Cond.fieldLink RX1 101 "SnapshotPieces$Piece" "right" "J", Cond.fieldLink RX1 104 "SnapshotPieces$Piece" "leaves" "LSnapshotPieces$Tree;", Cond.methodLink RX1 74 yX1_learn, Cond.instanceMethod yX1_learn, Cond.selects RX1 yX1_learn yX1_learn, Cond.code yX1_learn cX1_learn 4 none, Cond.methodLink RX1 110 yX4_emptyBelow, Cond.instanceMethod yX4_emptyBelow, Cond.selects RX4 yX4_emptyBelow yX4_emptyBelow, Cond.code yX4_emptyBelow cX4_emptyBelow 4 none, Cond.methodLink RX1 107 yX4_copyBelow]
def wsX5_ask_r7 : List Cond := [Cond.methodLink RX1 78 yX1_findLacks, Cond.instanceMethod yX1_findLacks, Cond.selects RX1 yX1_findLacks yX1_findLacks, Cond.code yX1_findLacks cX1_findLacks 2 none, Cond.fieldLink RX1 36 "SnapshotPieces$Joiner" "lackSize" "I", Cond.fieldLink RX1 32 "SnapshotPieces$Joiner" "lackRow" "[I", Cond.methodLink RX1 113 yX1_lacks, Cond.methodLink RX5 183 yX0_blame, Cond.instanceMethod yX0_blame, Cond.selects RX0 yX0_blame yX0_blame, Cond.code yX0_blame cX0_blame 2 none, Cond.fieldLink RX0 19 "SnapshotPieces$Givers" "faultsOf" "[I", Cond.fieldLink RX0 29 "SnapshotPieces$Givers" "namedSize" "I", Cond.fieldLink RX0 22 "SnapshotPieces$Givers" "namedRow" "[I"]
def wsX5_ask : List Cond := .code yX5_ask cX5_ask 4 (some .int) :: ((wsX5_ask_r1 ++ (wsX5_ask_r2 ++ (wsX5_ask_r3 ++ (wsX5_ask_r4 ++ (wsX5_ask_r5 ++ (wsX5_ask_r6 ++ wsX5_ask_r7)))))) ++ wsX50 ++ wsX00 ++ wsX10 ++ wsX40 ++ wsX20)
def wsX5_play_r1 : List Cond := [Cond.fieldLink RX5 26 "SnapshotPieces" "joiner" "LSnapshotPieces$Joiner;", Cond.fieldLink RX5 19 "SnapshotPieces" "givers" "LSnapshotPieces$Givers;", Cond.fieldLink RX5 80 "SnapshotPieces$Givers" "size" "I", Cond.fieldLink RX5 100 "SnapshotPieces$Joiner" "lackSize" "I", Cond.constantLong RX5 114 (6364136223846793005), Cond.constantLong RX5 116 (1442695040888963407), Cond.constant RX5 118 (2147483647), Cond.methodLink RX5 110 yX1_hasGoal, Cond.instanceMethod yX1_hasGoal, Cond.selects RX1 yX1_hasGoal yX1_hasGoal, Cond.initialized RX1, Cond.code yX1_hasGoal cX1_hasGoal 1 (some .boolean), Cond.fieldLink RX1 40 "SnapshotPieces$Joiner" "goal" "I", Cond.methodLink RX5 119 yX1_lackAt, Cond.instanceMethod yX1_lackAt, Cond.selects RX1 yX1_lackAt yX1_lackAt, Cond.code yX1_lackAt cX1_lackAt 2 (some .int), Cond.fieldLink RX1 36 "SnapshotPieces$Joiner" "lackSize" "I", Cond.fieldLink RX1 32 "SnapshotPieces$Joiner" "lackRow" "[I", Cond.methodLink RX5 106 yX5_exchange, Cond.instanceMethod yX5_exchange, Cond.selects RX5 yX5_exchange yX5_exchange, Cond.initialized RX5, Cond.code yX5_exchange cX5_exchange 6 (some .int)]
def wsX5_play_r2 : List Cond := [Cond.fieldLink RX5 139 "SnapshotPieces$Joiner" "goal" "I", Cond.fieldLink RX5 155 "SnapshotPieces$Givers" "kindOf" "[I", Cond.fieldLink RX5 158 "SnapshotPieces$Joiner" "before" "LSnapshotPieces$Tree;", Cond.fieldLink RX5 161 "SnapshotPieces$Joiner" "now" "LSnapshotPieces$Tree;", Cond.fieldLink RX5 33 "SnapshotPieces" "piece" "LSnapshotPieces$Piece;", Cond.fieldLink RX5 44 "SnapshotPieces" "bytes" "I", Cond.fieldLink RX5 174 "SnapshotPieces$Piece" "bytes" "I", Cond.methodLink RX5 83 yX0_has, Cond.instanceMethod yX0_has, Cond.selects RX0 yX0_has yX0_has, Cond.initialized RX0, Cond.code yX0_has cX0_has 2 (some .boolean), Cond.fieldLink RX0 25 "SnapshotPieces$Givers" "size" "I", Cond.methodLink RX5 152 yX0_answers, Cond.instanceMethod yX0_answers, Cond.selects RX0 yX0_answers yX0_answers, Cond.code yX0_answers cX0_answers 5 (some .boolean), Cond.fieldLink RX0 16 "SnapshotPieces$Givers" "asksOf" "[I", Cond.fieldLink RX0 32 "SnapshotPieces$Givers" "allAsks" "I", Cond.fieldLink RX0 13 "SnapshotPieces$Givers" "headOf" "[I", Cond.fieldLink RX0 9 "SnapshotPieces$Givers" "kindOf" "[I", Cond.methodLink RX0 35 yX0_has, Cond.methodLink RX5 164 yX4_isLeaf, Cond.static yX4_isLeaf]
def wsX5_play_r3 : List Cond := [Cond.initialized RX4, Cond.code yX4_isLeaf cX4_isLeaf 1 (some .boolean), Cond.methodLink RX5 167 yX2_fillLeaves, Cond.instanceMethod yX2_fillLeaves, Cond.selects RX2 yX2_fillLeaves yX2_fillLeaves, Cond.initialized RX2, Cond.code yX2_fillLeaves cX2_fillLeaves 4 none, Cond.fieldLink RX2 16 "SnapshotPieces$Piece" "node" "I", Cond.fieldLink RX2 20 "SnapshotPieces$Piece" "pair" "Z", Cond.fieldLink RX2 10 "SnapshotPieces$Piece" "leaves" "LSnapshotPieces$Tree;", Cond.fieldLink RX2 31 "SnapshotPieces$Piece" "bytes" "I", Cond.methodLink RX2 40 yX4_copyBelow, Cond.instanceMethod yX4_copyBelow, Cond.selects RX4 yX4_copyBelow yX4_copyBelow, Cond.code yX4_copyBelow cX4_copyBelow 5 none, Cond.fieldLink RX4 9 "SnapshotPieces$Tree" "values" "[J", Cond.methodLink RX4 24 yX4_isNode, Cond.static yX4_isNode, Cond.code yX4_isNode cX4_isNode 1 (some .boolean), Cond.methodLink RX4 31 yX4_lastPath, Cond.static yX4_lastPath, Cond.code yX4_lastPath cX4_lastPath 3 (some .int), Cond.methodLink RX4 35 yX4_firstPath, Cond.static yX4_firstPath]
def wsX5_play_r4 : List Cond := [Cond.code yX4_firstPath cX4_firstPath 3 (some .int), Cond.methodLink RX4 27 yX4_renew, Cond.instanceMethod yX4_renew, Cond.selects RX4 yX4_renew yX4_renew, Cond.code yX4_renew cX4_renew 8 none, Cond.fieldLink RX4 13 "SnapshotPieces$Tree" "digests" "[J", Cond.methodLink RX4 38 yX4_mix, Cond.static yX4_mix, Cond.code yX4_mix cX4_mix 6 (some .long), Cond.constantLong RX4 16 (-7046029254386353131), Cond.constantLong RX4 18 (-4658895280553007687), Cond.methodLink RX2 44 yX2_turnFirst, Cond.instanceMethod yX2_turnFirst, Cond.selects RX2 yX2_turnFirst yX2_turnFirst, Cond.code yX2_turnFirst cX2_turnFirst 3 none, Cond.methodLink RX2 66 yX4_firstFilled, Cond.instanceMethod yX4_firstFilled, Cond.selects RX4 yX4_firstFilled yX4_firstFilled, Cond.code yX4_firstFilled cX4_firstFilled 4 (some .int), Cond.methodLink RX2 69 yX4_firstPath, Cond.methodLink RX2 72 yX4_valueOf, Cond.instanceMethod yX4_valueOf, Cond.selects RX4 yX4_valueOf yX4_valueOf, Cond.code yX4_valueOf cX4_valueOf 2 (some .long)]
def wsX5_play_r5 : List Cond := [Cond.methodLink RX4 20 yX4_isPath, Cond.static yX4_isPath, Cond.code yX4_isPath cX4_isPath 1 (some .boolean), Cond.methodLink RX2 51 yX4_put, Cond.instanceMethod yX4_put, Cond.selects RX4 yX4_put yX4_put, Cond.code yX4_put cX4_put 4 none, Cond.methodLink RX2 47 yX4_lastFilled, Cond.instanceMethod yX4_lastFilled, Cond.selects RX4 yX4_lastFilled yX4_lastFilled, Cond.code yX4_lastFilled cX4_lastFilled 4 (some .int), Cond.methodLink RX2 55 yX4_isLeaf, Cond.methodLink RX2 59 yX4_filledBelow, Cond.instanceMethod yX4_filledBelow, Cond.selects RX4 yX4_filledBelow yX4_filledBelow, Cond.code yX4_filledBelow cX4_filledBelow 5 (some .int), Cond.methodLink RX5 171 yX2_fillPair, Cond.instanceMethod yX2_fillPair, Cond.selects RX2 yX2_fillPair yX2_fillPair, Cond.code yX2_fillPair cX2_fillPair 9 none, Cond.fieldLink RX2 24 "SnapshotPieces$Piece" "left" "J", Cond.fieldLink RX2 28 "SnapshotPieces$Piece" "right" "J", Cond.methodLink RX2 34 yX4_digestOf, Cond.instanceMethod yX4_digestOf]
def wsX5_play_r6 : List Cond := [Cond.selects RX4 yX4_digestOf yX4_digestOf, Cond.code yX4_digestOf cX4_digestOf 2 (some .long), Cond.methodLink RX5 175 yX1_judge, Cond.instanceMethod yX1_judge, Cond.selects RX1 yX1_judge yX1_judge, Cond.code yX1_judge cX1_judge 2 (some .boolean), Cond.fieldLink RX1 84 "SnapshotPieces$Piece" "node" "I", Cond.fieldLink RX1 28 "SnapshotPieces$Joiner" "due" "[J", Cond.methodLink RX1 51 yX4_isNode, Cond.methodLink RX1 89 yX2_ownDigest, Cond.instanceMethod yX2_ownDigest, Cond.selects RX2 yX2_ownDigest yX2_ownDigest, Cond.code yX2_ownDigest cX2_ownDigest 1 (some .long), Cond.methodLink RX2 62 yX4_mix, Cond.methodLink RX5 179 yX1_take, Cond.instanceMethod yX1_take, Cond.selects RX1 yX1_take yX1_take, Cond.code yX1_take cX1_take 2 none, Cond.fieldLink RX1 93 "SnapshotPieces$Piece" "pair" "Z", Cond.fieldLink RX1 97 "SnapshotPieces$Piece" "left" "J", Cond.fieldLink RX1 101 "SnapshotPieces$Piece" "right" "J", Cond.fieldLink RX1 12 "SnapshotPieces$Joiner" "own" "LSnapshotPieces$Tree;", Cond.fieldLink RX1 104 "SnapshotPieces$Piece" "leaves" "LSnapshotPieces$Tree;", Cond.methodLink RX1 74 yX1_learn]
def wsX5_play_r7 : List Cond := [Cond.instanceMethod yX1_learn, Cond.selects RX1 yX1_learn yX1_learn, Cond.code yX1_learn cX1_learn 4 none, Cond.fieldLink RX1 24 "SnapshotPieces$Joiner" "known" "[Z", Cond.methodLink RX1 110 yX4_emptyBelow, Cond.instanceMethod yX4_emptyBelow, Cond.selects RX4 yX4_emptyBelow yX4_emptyBelow, Cond.code yX4_emptyBelow cX4_emptyBelow 4 none, Cond.methodLink RX1 107 yX4_copyBelow, Cond.methodLink RX1 78 yX1_findLacks, Cond.instanceMethod yX1_findLacks, Cond.selects RX1 yX1_findLacks yX1_findLacks, Cond.code yX1_findLacks cX1_findLacks 2 none, Cond.methodLink RX1 113 yX1_lacks, Cond.instanceMethod yX1_lacks, Cond.selects RX1 yX1_lacks yX1_lacks, Cond.code yX1_lacks cX1_lacks 2 (some .boolean), Cond.methodLink RX1 47 yX4_digestOf, Cond.methodLink RX1 55 yX4_isLeaf, Cond.methodLink RX5 183 yX0_blame, Cond.instanceMethod yX0_blame, Cond.selects RX0 yX0_blame yX0_blame, Cond.code yX0_blame cX0_blame 2 none, Cond.fieldLink RX0 19 "SnapshotPieces$Givers" "faultsOf" "[I"]
def wsX5_play_r8 : List Cond := [Cond.fieldLink RX0 29 "SnapshotPieces$Givers" "namedSize" "I", Cond.fieldLink RX0 22 "SnapshotPieces$Givers" "namedRow" "[I"]
def wsX5_play : List Cond := .code yX5_play cX5_play 11 (some .int) :: ((wsX5_play_r1 ++ (wsX5_play_r2 ++ (wsX5_play_r3 ++ (wsX5_play_r4 ++ (wsX5_play_r5 ++ (wsX5_play_r6 ++ (wsX5_play_r7 ++ wsX5_play_r8))))))) ++ wsX50 ++ wsX00 ++ wsX10 ++ wsX20 ++ wsX40)
def wsX5_missing : List Cond := .code yX5_missing cX5_missing 2 (some .int) :: ([.fieldLink RX5 26 "SnapshotPieces" "joiner" "LSnapshotPieces$Joiner;", .methodLink RX5 119 yX1_lackAt, .instanceMethod yX1_lackAt, .selects RX1 yX1_lackAt yX1_lackAt, .initialized RX1, .code yX1_lackAt cX1_lackAt 2 (some .int), .fieldLink RX1 36 "SnapshotPieces$Joiner" "lackSize" "I", .fieldLink RX1 32 "SnapshotPieces$Joiner" "lackRow" "[I"] ++ wsX50 ++ wsX10)
def wsX5_joined : List Cond := .code yX5_joined cX5_joined 1 (some .int) :: ([.fieldLink RX5 26 "SnapshotPieces" "joiner" "LSnapshotPieces$Joiner;", .methodLink RX5 123 yX1_isWhole, .instanceMethod yX1_isWhole, .selects RX1 yX1_isWhole yX1_isWhole, .initialized RX1, .code yX1_isWhole cX1_isWhole 1 (some .boolean), .fieldLink RX1 28 "SnapshotPieces$Joiner" "due" "[J", .fieldLink RX1 12 "SnapshotPieces$Joiner" "own" "LSnapshotPieces$Tree;", .methodLink RX1 43 yX1_hasGoal, .instanceMethod yX1_hasGoal, .selects RX1 yX1_hasGoal yX1_hasGoal, .code yX1_hasGoal cX1_hasGoal 1 (some .boolean), .fieldLink RX1 40 "SnapshotPieces$Joiner" "goal" "I", .methodLink RX1 47 yX4_digestOf, .instanceMethod yX4_digestOf, .selects RX4 yX4_digestOf yX4_digestOf, .initialized RX4, .code yX4_digestOf cX4_digestOf 2 (some .long), .fieldLink RX4 13 "SnapshotPieces$Tree" "digests" "[J", .methodLink RX4 24 yX4_isNode, .static yX4_isNode, .code yX4_isNode cX4_isNode 1 (some .boolean)] ++ wsX50 ++ wsX10 ++ wsX40)
def wsX5_held : List Cond := .code yX5_held cX5_held 2 (some .long) :: ([.fieldLink RX5 26 "SnapshotPieces" "joiner" "LSnapshotPieces$Joiner;", .fieldLink RX5 126 "SnapshotPieces$Joiner" "own" "LSnapshotPieces$Tree;", .methodLink RX5 129 yX4_valueOf, .instanceMethod yX4_valueOf, .selects RX4 yX4_valueOf yX4_valueOf, .initialized RX4, .code yX4_valueOf cX4_valueOf 2 (some .long), .fieldLink RX4 9 "SnapshotPieces$Tree" "values" "[J", .methodLink RX4 20 yX4_isPath, .static yX4_isPath, .code yX4_isPath cX4_isPath 1 (some .boolean)] ++ wsX50 ++ wsX10 ++ wsX40)
def wsX5_mine : List Cond := .code yX5_mine cX5_mine 2 (some .long) :: ([.fieldLink RX5 26 "SnapshotPieces" "joiner" "LSnapshotPieces$Joiner;", .fieldLink RX5 126 "SnapshotPieces$Joiner" "own" "LSnapshotPieces$Tree;", .methodLink RX5 73 yX4_digestOf, .instanceMethod yX4_digestOf, .selects RX4 yX4_digestOf yX4_digestOf, .initialized RX4, .code yX4_digestOf cX4_digestOf 2 (some .long), .fieldLink RX4 13 "SnapshotPieces$Tree" "digests" "[J", .methodLink RX4 24 yX4_isNode, .static yX4_isNode, .code yX4_isNode cX4_isNode 1 (some .boolean)] ++ wsX50 ++ wsX10 ++ wsX40)
def wsX5_rot_r1 : List Cond := [Cond.fieldLink RX5 26 "SnapshotPieces" "joiner" "LSnapshotPieces$Joiner;", Cond.fieldLink RX5 100 "SnapshotPieces$Joiner" "lackSize" "I", Cond.methodLink RX5 48 yX4_isPath, Cond.static yX4_isPath, Cond.initialized RX4, Cond.code yX4_isPath cX4_isPath 1 (some .boolean), Cond.methodLink RX5 132 yX1_spoil, Cond.instanceMethod yX1_spoil, Cond.selects RX1 yX1_spoil yX1_spoil, Cond.initialized RX1, Cond.code yX1_spoil cX1_spoil 4 none, Cond.fieldLink RX1 12 "SnapshotPieces$Joiner" "own" "LSnapshotPieces$Tree;", Cond.methodLink RX1 81 yX4_put, Cond.instanceMethod yX4_put, Cond.selects RX4 yX4_put yX4_put, Cond.code yX4_put cX4_put 4 none, Cond.fieldLink RX4 9 "SnapshotPieces$Tree" "values" "[J", Cond.methodLink RX4 20 yX4_isPath, Cond.methodLink RX4 27 yX4_renew, Cond.instanceMethod yX4_renew, Cond.selects RX4 yX4_renew yX4_renew, Cond.code yX4_renew cX4_renew 8 none, Cond.fieldLink RX4 13 "SnapshotPieces$Tree" "digests" "[J", Cond.methodLink RX4 35 yX4_firstPath]
def wsX5_rot_r2 : List Cond := [Cond.static yX4_firstPath, Cond.code yX4_firstPath cX4_firstPath 3 (some .int), Cond.methodLink RX4 31 yX4_lastPath, Cond.static yX4_lastPath, Cond.code yX4_lastPath cX4_lastPath 3 (some .int), Cond.methodLink RX4 38 yX4_mix, Cond.static yX4_mix, Cond.code yX4_mix cX4_mix 6 (some .long), Cond.constantLong RX4 16 (-7046029254386353131), Cond.constantLong RX4 18 (-4658895280553007687), Cond.methodLink RX1 78 yX1_findLacks, Cond.instanceMethod yX1_findLacks, Cond.selects RX1 yX1_findLacks yX1_findLacks, Cond.code yX1_findLacks cX1_findLacks 2 none, Cond.fieldLink RX1 36 "SnapshotPieces$Joiner" "lackSize" "I", Cond.fieldLink RX1 32 "SnapshotPieces$Joiner" "lackRow" "[I", Cond.methodLink RX1 113 yX1_lacks, Cond.instanceMethod yX1_lacks, Cond.selects RX1 yX1_lacks yX1_lacks, Cond.code yX1_lacks cX1_lacks 2 (some .boolean), Cond.fieldLink RX1 24 "SnapshotPieces$Joiner" "known" "[Z", Cond.fieldLink RX1 28 "SnapshotPieces$Joiner" "due" "[J", Cond.methodLink RX1 51 yX4_isNode, Cond.static yX4_isNode]
def wsX5_rot_r3 : List Cond := [Cond.code yX4_isNode cX4_isNode 1 (some .boolean), Cond.methodLink RX1 47 yX4_digestOf, Cond.instanceMethod yX4_digestOf, Cond.selects RX4 yX4_digestOf yX4_digestOf, Cond.code yX4_digestOf cX4_digestOf 2 (some .long), Cond.methodLink RX4 24 yX4_isNode, Cond.methodLink RX1 55 yX4_isLeaf, Cond.static yX4_isLeaf, Cond.code yX4_isLeaf cX4_isLeaf 1 (some .boolean)]
def wsX5_rot : List Cond := .code yX5_rot cX5_rot 4 (some .int) :: ((wsX5_rot_r1 ++ (wsX5_rot_r2 ++ wsX5_rot_r3)) ++ wsX50 ++ wsX10 ++ wsX40)
def wsX5_cut_r1 : List Cond := [Cond.fieldLink RX5 26 "SnapshotPieces" "joiner" "LSnapshotPieces$Joiner;", Cond.fieldLink RX5 100 "SnapshotPieces$Joiner" "lackSize" "I", Cond.methodLink RX5 110 yX1_hasGoal, Cond.instanceMethod yX1_hasGoal, Cond.selects RX1 yX1_hasGoal yX1_hasGoal, Cond.initialized RX1, Cond.code yX1_hasGoal cX1_hasGoal 1 (some .boolean), Cond.fieldLink RX1 40 "SnapshotPieces$Joiner" "goal" "I", Cond.methodLink RX5 136 yX1_forgetBelowRoot, Cond.instanceMethod yX1_forgetBelowRoot, Cond.selects RX1 yX1_forgetBelowRoot yX1_forgetBelowRoot, Cond.code yX1_forgetBelowRoot cX1_forgetBelowRoot 1 none, Cond.methodLink RX1 70 yX1_forget, Cond.instanceMethod yX1_forget, Cond.selects RX1 yX1_forget yX1_forget, Cond.code yX1_forget cX1_forget 3 none, Cond.fieldLink RX1 24 "SnapshotPieces$Joiner" "known" "[Z", Cond.methodLink RX1 78 yX1_findLacks, Cond.instanceMethod yX1_findLacks, Cond.selects RX1 yX1_findLacks yX1_findLacks, Cond.code yX1_findLacks cX1_findLacks 2 none, Cond.fieldLink RX1 36 "SnapshotPieces$Joiner" "lackSize" "I", Cond.fieldLink RX1 32 "SnapshotPieces$Joiner" "lackRow" "[I", Cond.methodLink RX1 113 yX1_lacks]
def wsX5_cut_r2 : List Cond := [Cond.instanceMethod yX1_lacks, Cond.selects RX1 yX1_lacks yX1_lacks, Cond.code yX1_lacks cX1_lacks 2 (some .boolean), Cond.fieldLink RX1 28 "SnapshotPieces$Joiner" "due" "[J", Cond.fieldLink RX1 12 "SnapshotPieces$Joiner" "own" "LSnapshotPieces$Tree;", Cond.methodLink RX1 51 yX4_isNode, Cond.static yX4_isNode, Cond.initialized RX4, Cond.code yX4_isNode cX4_isNode 1 (some .boolean), Cond.methodLink RX1 47 yX4_digestOf, Cond.instanceMethod yX4_digestOf, Cond.selects RX4 yX4_digestOf yX4_digestOf, Cond.code yX4_digestOf cX4_digestOf 2 (some .long), Cond.fieldLink RX4 13 "SnapshotPieces$Tree" "digests" "[J", Cond.methodLink RX4 24 yX4_isNode, Cond.methodLink RX1 55 yX4_isLeaf, Cond.static yX4_isLeaf, Cond.code yX4_isLeaf cX4_isLeaf 1 (some .boolean)]
def wsX5_cut : List Cond := .code yX5_cut cX5_cut 1 (some .int) :: ((wsX5_cut_r1 ++ wsX5_cut_r2) ++ wsX50 ++ wsX10 ++ wsX40)
def wsX5_count_r1 : List Cond := [Cond.fieldLink RX5 10 "SnapshotPieces" "source" "LSnapshotPieces$Source;", Cond.fieldLink RX5 56 "SnapshotPieces$Source" "top" "I", Cond.fieldLink RX5 19 "SnapshotPieces" "givers" "LSnapshotPieces$Givers;", Cond.fieldLink RX5 80 "SnapshotPieces$Givers" "size" "I", Cond.fieldLink RX5 26 "SnapshotPieces" "joiner" "LSnapshotPieces$Joiner;", Cond.fieldLink RX5 139 "SnapshotPieces$Joiner" "goal" "I", Cond.fieldLink RX5 100 "SnapshotPieces$Joiner" "lackSize" "I", Cond.fieldLink RX5 44 "SnapshotPieces" "bytes" "I", Cond.fieldLink RX5 142 "SnapshotPieces$Givers" "allAsks" "I", Cond.fieldLink RX5 90 "SnapshotPieces$Givers" "namedSize" "I", Cond.fieldLink RX5 126 "SnapshotPieces$Joiner" "own" "LSnapshotPieces$Tree;", Cond.methodLink RX5 110 yX1_hasGoal, Cond.instanceMethod yX1_hasGoal, Cond.selects RX1 yX1_hasGoal yX1_hasGoal, Cond.initialized RX1, Cond.code yX1_hasGoal cX1_hasGoal 1 (some .boolean), Cond.fieldLink RX1 40 "SnapshotPieces$Joiner" "goal" "I", Cond.methodLink RX5 145 yX4_filledBelow, Cond.instanceMethod yX4_filledBelow, Cond.selects RX4 yX4_filledBelow yX4_filledBelow, Cond.initialized RX4, Cond.code yX4_filledBelow cX4_filledBelow 5 (some .int), Cond.fieldLink RX4 9 "SnapshotPieces$Tree" "values" "[J", Cond.methodLink RX4 24 yX4_isNode]
def wsX5_count_r2 : List Cond := [Cond.static yX4_isNode, Cond.code yX4_isNode cX4_isNode 1 (some .boolean), Cond.methodLink RX4 31 yX4_lastPath, Cond.static yX4_lastPath, Cond.code yX4_lastPath cX4_lastPath 3 (some .int), Cond.methodLink RX4 35 yX4_firstPath, Cond.static yX4_firstPath, Cond.code yX4_firstPath cX4_firstPath 3 (some .int), Cond.methodLink RX5 148 yX1_knownSize, Cond.instanceMethod yX1_knownSize, Cond.selects RX1 yX1_knownSize yX1_knownSize, Cond.code yX1_knownSize cX1_knownSize 3 (some .int), Cond.fieldLink RX1 24 "SnapshotPieces$Joiner" "known" "[Z"]
def wsX5_count : List Cond := .code yX5_count cX5_count 2 (some .int) :: ((wsX5_count_r1 ++ wsX5_count_r2) ++ wsX50 ++ wsX30 ++ wsX00 ++ wsX10 ++ wsX40)
def wsX6_init : List Cond := .code yX6_init cX6_init 1 none :: ([.methodLink RX6 1 objectInit, .instanceMethod objectInit, .code objectInit ⟨#[0xb1]⟩ 1 none, .arrayClass .int, .fieldLink RX6 7 "SnapshotPiecesModel" "paths" "[I", .arrayClass .long, .fieldLink RX6 13 "SnapshotPiecesModel" "vals" "[J", .fieldLink RX6 17 "SnapshotPiecesModel" "kinds" "[I", .fieldLink RX6 20 "SnapshotPiecesModel" "heads" "[I", .fieldLink RX6 23 "SnapshotPiecesModel" "asked" "[I", .fieldLink RX6 26 "SnapshotPiecesModel" "wrong" "[I", .fieldLink RX6 29 "SnapshotPiecesModel" "order" "[I", .fieldLink RX6 32 "SnapshotPiecesModel" "goal" "I", .fieldLink RX6 36 "SnapshotPiecesModel" "held" "[J", .arrayClass .boolean, .fieldLink RX6 39 "SnapshotPiecesModel" "known" "[Z", .fieldLink RX6 43 "SnapshotPiecesModel" "due" "[J", .fieldLink RX6 46 "SnapshotPiecesModel" "state" "[J", .fieldLink RX6 49 "SnapshotPiecesModel" "given" "[J", .fieldLink RX6 52 "SnapshotPiecesModel" "tree" "[J", .fieldLink RX6 55 "SnapshotPiecesModel" "empty" "[Z"] ++ wsX60)
def wsX6_in : List Cond := .code yX6_in cX6_in 3 (some .boolean) :: ([])
def wsX6_mixed : List Cond := .code yX6_mixed cX6_mixed 6 (some .long) :: ([.constantLong RX6 58 (-7046029254386353131), .constantLong RX6 60 (-4658895280553007687)])
def wsX6_build : List Cond := .code yX6_build cX6_build 3 none :: ([.fieldLink RX6 55 "SnapshotPiecesModel" "empty" "[Z", .fieldLink RX6 52 "SnapshotPiecesModel" "tree" "[J", .methodLink RX6 62 yX6_mixed, .static yX6_mixed, .initialized RX6, .code yX6_mixed cX6_mixed 6 (some .long), .constantLong RX6 58 (-7046029254386353131), .constantLong RX6 60 (-4658895280553007687)] ++ wsX60)
def wsX6_stateAt : List Cond := .code yX6_stateAt cX6_stateAt 3 none :: ([.fieldLink RX6 46 "SnapshotPiecesModel" "state" "[J", .fieldLink RX6 7 "SnapshotPiecesModel" "paths" "[I", .fieldLink RX6 13 "SnapshotPiecesModel" "vals" "[J"] ++ wsX60)
def wsX6_leaf : List Cond := .code yX6_leaf cX6_leaf 4 (some .int) :: ([.fieldLink RX6 70 "SnapshotPiecesModel" "height" "I", .fieldLink RX6 7 "SnapshotPiecesModel" "paths" "[I", .fieldLink RX6 13 "SnapshotPiecesModel" "vals" "[J", .methodLink RX6 66 yX6_in, .static yX6_in, .initialized RX6, .code yX6_in cX6_in 3 (some .boolean)] ++ wsX60)
def wsX6_value : List Cond := .code yX6_value cX6_value 3 (some .long) :: ([.fieldLink RX6 70 "SnapshotPiecesModel" "height" "I", .fieldLink RX6 46 "SnapshotPiecesModel" "state" "[J", .methodLink RX6 66 yX6_in, .static yX6_in, .initialized RX6, .code yX6_in cX6_in 3 (some .boolean), .methodLink RX6 73 yX6_stateAt, .instanceMethod yX6_stateAt, .selects RX6 yX6_stateAt yX6_stateAt, .code yX6_stateAt cX6_stateAt 3 none, .fieldLink RX6 7 "SnapshotPiecesModel" "paths" "[I", .fieldLink RX6 13 "SnapshotPiecesModel" "vals" "[J"] ++ wsX60)
def wsX6_digest : List Cond := .code yX6_digest cX6_digest 3 (some .long) :: ([.fieldLink RX6 70 "SnapshotPiecesModel" "height" "I", .fieldLink RX6 46 "SnapshotPiecesModel" "state" "[J", .fieldLink RX6 52 "SnapshotPiecesModel" "tree" "[J", .methodLink RX6 66 yX6_in, .static yX6_in, .initialized RX6, .code yX6_in cX6_in 3 (some .boolean), .methodLink RX6 73 yX6_stateAt, .instanceMethod yX6_stateAt, .selects RX6 yX6_stateAt yX6_stateAt, .code yX6_stateAt cX6_stateAt 3 none, .fieldLink RX6 7 "SnapshotPiecesModel" "paths" "[I", .fieldLink RX6 13 "SnapshotPiecesModel" "vals" "[J", .methodLink RX6 77 yX6_build, .instanceMethod yX6_build, .selects RX6 yX6_build yX6_build, .code yX6_build cX6_build 3 none, .fieldLink RX6 55 "SnapshotPiecesModel" "empty" "[Z", .methodLink RX6 62 yX6_mixed, .static yX6_mixed, .code yX6_mixed cX6_mixed 6 (some .long), .constantLong RX6 58 (-7046029254386353131), .constantLong RX6 60 (-4658895280553007687)] ++ wsX60)
def wsX6_giver : List Cond := .code yX6_giver cX6_giver 3 (some .int) :: ([.fieldLink RX6 81 "SnapshotPiecesModel" "givers" "I", .fieldLink RX6 17 "SnapshotPiecesModel" "kinds" "[I", .fieldLink RX6 20 "SnapshotPiecesModel" "heads" "[I", .methodLink RX6 66 yX6_in, .static yX6_in, .initialized RX6, .code yX6_in cX6_in 3 (some .boolean)] ++ wsX60)
def wsX6_faults : List Cond := .code yX6_faults cX6_faults 2 (some .int) :: ([.fieldLink RX6 81 "SnapshotPiecesModel" "givers" "I", .fieldLink RX6 26 "SnapshotPiecesModel" "wrong" "[I", .methodLink RX6 66 yX6_in, .static yX6_in, .initialized RX6, .code yX6_in cX6_in 3 (some .boolean)] ++ wsX60)
def wsX6_named : List Cond := .code yX6_named cX6_named 2 (some .int) :: ([.fieldLink RX6 84 "SnapshotPiecesModel" "names" "I", .fieldLink RX6 29 "SnapshotPiecesModel" "order" "[I", .methodLink RX6 66 yX6_in, .static yX6_in, .initialized RX6, .code yX6_in cX6_in 3 (some .boolean)] ++ wsX60)
def wsX6_firstOf : List Cond := .code yX6_firstOf cX6_firstOf 2 (some .int) :: ([])
def wsX6_lastOf : List Cond := .code yX6_lastOf cX6_lastOf 2 (some .int) :: ([])
def wsX6_know : List Cond := .code yX6_know cX6_know 5 none :: ([.fieldLink RX6 39 "SnapshotPiecesModel" "known" "[Z", .fieldLink RX6 43 "SnapshotPiecesModel" "due" "[J", .fieldLink RX6 36 "SnapshotPiecesModel" "held" "[J", .methodLink RX6 87 yX6_firstOf, .static yX6_firstOf, .initialized RX6, .code yX6_firstOf cX6_firstOf 2 (some .int), .methodLink RX6 91 yX6_lastOf, .static yX6_lastOf, .code yX6_lastOf cX6_lastOf 2 (some .int)] ++ wsX60)
def wsX6_lacks : List Cond := .code yX6_lacks cX6_lacks 2 (some .boolean) :: ([.fieldLink RX6 39 "SnapshotPiecesModel" "known" "[Z", .fieldLink RX6 52 "SnapshotPiecesModel" "tree" "[J", .fieldLink RX6 43 "SnapshotPiecesModel" "due" "[J"] ++ wsX60)
def wsX6_lacking : List Cond := .code yX6_lacking cX6_lacking 3 (some .int) :: ([.fieldLink RX6 36 "SnapshotPiecesModel" "held" "[J", .methodLink RX6 77 yX6_build, .instanceMethod yX6_build, .selects RX6 yX6_build yX6_build, .initialized RX6, .code yX6_build cX6_build 3 none, .fieldLink RX6 55 "SnapshotPiecesModel" "empty" "[Z", .fieldLink RX6 52 "SnapshotPiecesModel" "tree" "[J", .methodLink RX6 62 yX6_mixed, .static yX6_mixed, .code yX6_mixed cX6_mixed 6 (some .long), .constantLong RX6 58 (-7046029254386353131), .constantLong RX6 60 (-4658895280553007687), .methodLink RX6 94 yX6_lacks, .instanceMethod yX6_lacks, .selects RX6 yX6_lacks yX6_lacks, .code yX6_lacks cX6_lacks 2 (some .boolean), .fieldLink RX6 39 "SnapshotPiecesModel" "known" "[Z", .fieldLink RX6 43 "SnapshotPiecesModel" "due" "[J"] ++ wsX60)
def wsX6_missing : List Cond := .code yX6_missing cX6_missing 4 (some .int) :: ([.fieldLink RX6 36 "SnapshotPiecesModel" "held" "[J", .methodLink RX6 77 yX6_build, .instanceMethod yX6_build, .selects RX6 yX6_build yX6_build, .initialized RX6, .code yX6_build cX6_build 3 none, .fieldLink RX6 55 "SnapshotPiecesModel" "empty" "[Z", .fieldLink RX6 52 "SnapshotPiecesModel" "tree" "[J", .methodLink RX6 62 yX6_mixed, .static yX6_mixed, .code yX6_mixed cX6_mixed 6 (some .long), .constantLong RX6 58 (-7046029254386353131), .constantLong RX6 60 (-4658895280553007687), .methodLink RX6 94 yX6_lacks, .instanceMethod yX6_lacks, .selects RX6 yX6_lacks yX6_lacks, .code yX6_lacks cX6_lacks 2 (some .boolean), .fieldLink RX6 39 "SnapshotPiecesModel" "known" "[Z", .fieldLink RX6 43 "SnapshotPiecesModel" "due" "[J"] ++ wsX60)
def wsX6_target_r1 : List Cond := [Cond.fieldLink RX6 70 "SnapshotPiecesModel" "height" "I", Cond.fieldLink RX6 32 "SnapshotPiecesModel" "goal" "I", Cond.fieldLink RX6 39 "SnapshotPiecesModel" "known" "[Z", Cond.methodLink RX6 66 yX6_in, Cond.static yX6_in, Cond.initialized RX6, Cond.code yX6_in cX6_in 3 (some .boolean), Cond.methodLink RX6 98 yX6_digest, Cond.instanceMethod yX6_digest, Cond.selects RX6 yX6_digest yX6_digest, Cond.code yX6_digest cX6_digest 3 (some .long), Cond.fieldLink RX6 46 "SnapshotPiecesModel" "state" "[J", Cond.fieldLink RX6 52 "SnapshotPiecesModel" "tree" "[J", Cond.methodLink RX6 73 yX6_stateAt, Cond.instanceMethod yX6_stateAt, Cond.selects RX6 yX6_stateAt yX6_stateAt, Cond.code yX6_stateAt cX6_stateAt 3 none, Cond.fieldLink RX6 7 "SnapshotPiecesModel" "paths" "[I", Cond.fieldLink RX6 13 "SnapshotPiecesModel" "vals" "[J", Cond.methodLink RX6 77 yX6_build, Cond.instanceMethod yX6_build, Cond.selects RX6 yX6_build yX6_build, Cond.code yX6_build cX6_build 3 none, Cond.fieldLink RX6 55 "SnapshotPiecesModel" "empty" "[Z"]
def wsX6_target_r2 : List Cond := [Cond.methodLink RX6 62 yX6_mixed, Cond.static yX6_mixed, Cond.code yX6_mixed cX6_mixed 6 (some .long), Cond.constantLong RX6 58 (-7046029254386353131), Cond.constantLong RX6 60 (-4658895280553007687), Cond.methodLink RX6 102 yX6_know, Cond.instanceMethod yX6_know, Cond.selects RX6 yX6_know yX6_know, Cond.code yX6_know cX6_know 5 none, Cond.fieldLink RX6 43 "SnapshotPiecesModel" "due" "[J", Cond.fieldLink RX6 36 "SnapshotPiecesModel" "held" "[J", Cond.methodLink RX6 87 yX6_firstOf, Cond.static yX6_firstOf, Cond.code yX6_firstOf cX6_firstOf 2 (some .int), Cond.methodLink RX6 91 yX6_lastOf, Cond.static yX6_lastOf, Cond.code yX6_lastOf cX6_lastOf 2 (some .int), Cond.methodLink RX6 106 yX6_lacking, Cond.instanceMethod yX6_lacking, Cond.selects RX6 yX6_lacking yX6_lacking, Cond.code yX6_lacking cX6_lacking 3 (some .int), Cond.methodLink RX6 94 yX6_lacks, Cond.instanceMethod yX6_lacks, Cond.selects RX6 yX6_lacks yX6_lacks]
def wsX6_target_r3 : List Cond := [Cond.code yX6_lacks cX6_lacks 2 (some .boolean)]
def wsX6_target : List Cond := .code yX6_target cX6_target 3 (some .int) :: ((wsX6_target_r1 ++ (wsX6_target_r2 ++ wsX6_target_r3)) ++ wsX60)
def wsX6_leafComes : List Cond := .code yX6_leafComes cX6_leafComes 6 (some .boolean) :: ([.fieldLink RX6 46 "SnapshotPiecesModel" "state" "[J", .fieldLink RX6 127 "SnapshotPiecesModel" "bytes" "I", .fieldLink RX6 43 "SnapshotPiecesModel" "due" "[J", .fieldLink RX6 36 "SnapshotPiecesModel" "held" "[J", .methodLink RX6 62 yX6_mixed, .static yX6_mixed, .initialized RX6, .code yX6_mixed cX6_mixed 6 (some .long), .constantLong RX6 58 (-7046029254386353131), .constantLong RX6 60 (-4658895280553007687)] ++ wsX60)
def wsX6_rowComes_r1 : List Cond := [Cond.fieldLink RX6 49 "SnapshotPiecesModel" "given" "[J", Cond.fieldLink RX6 46 "SnapshotPiecesModel" "state" "[J", Cond.fieldLink RX6 127 "SnapshotPiecesModel" "bytes" "I", Cond.fieldLink RX6 52 "SnapshotPiecesModel" "tree" "[J", Cond.fieldLink RX6 43 "SnapshotPiecesModel" "due" "[J", Cond.fieldLink RX6 36 "SnapshotPiecesModel" "held" "[J", Cond.methodLink RX6 87 yX6_firstOf, Cond.static yX6_firstOf, Cond.initialized RX6, Cond.code yX6_firstOf cX6_firstOf 2 (some .int), Cond.methodLink RX6 91 yX6_lastOf, Cond.static yX6_lastOf, Cond.code yX6_lastOf cX6_lastOf 2 (some .int), Cond.methodLink RX6 66 yX6_in, Cond.static yX6_in, Cond.code yX6_in cX6_in 3 (some .boolean), Cond.methodLink RX6 77 yX6_build, Cond.instanceMethod yX6_build, Cond.selects RX6 yX6_build yX6_build, Cond.code yX6_build cX6_build 3 none, Cond.fieldLink RX6 55 "SnapshotPiecesModel" "empty" "[Z", Cond.methodLink RX6 62 yX6_mixed, Cond.static yX6_mixed, Cond.code yX6_mixed cX6_mixed 6 (some .long)]
def wsX6_rowComes_r2 : List Cond := [Cond.constantLong RX6 58 (-7046029254386353131), Cond.constantLong RX6 60 (-4658895280553007687)]
def wsX6_rowComes : List Cond := .code yX6_rowComes cX6_rowComes 8 (some .boolean) :: ((wsX6_rowComes_r1 ++ wsX6_rowComes_r2) ++ wsX60)
def wsX6_pairComes_r1 : List Cond := [Cond.fieldLink RX6 46 "SnapshotPiecesModel" "state" "[J", Cond.fieldLink RX6 52 "SnapshotPiecesModel" "tree" "[J", Cond.fieldLink RX6 127 "SnapshotPiecesModel" "bytes" "I", Cond.fieldLink RX6 43 "SnapshotPiecesModel" "due" "[J", Cond.methodLink RX6 77 yX6_build, Cond.instanceMethod yX6_build, Cond.selects RX6 yX6_build yX6_build, Cond.initialized RX6, Cond.code yX6_build cX6_build 3 none, Cond.fieldLink RX6 55 "SnapshotPiecesModel" "empty" "[Z", Cond.methodLink RX6 62 yX6_mixed, Cond.static yX6_mixed, Cond.code yX6_mixed cX6_mixed 6 (some .long), Cond.constantLong RX6 58 (-7046029254386353131), Cond.constantLong RX6 60 (-4658895280553007687), Cond.methodLink RX6 102 yX6_know, Cond.instanceMethod yX6_know, Cond.selects RX6 yX6_know yX6_know, Cond.code yX6_know cX6_know 5 none, Cond.fieldLink RX6 39 "SnapshotPiecesModel" "known" "[Z", Cond.fieldLink RX6 36 "SnapshotPiecesModel" "held" "[J", Cond.methodLink RX6 87 yX6_firstOf, Cond.static yX6_firstOf, Cond.code yX6_firstOf cX6_firstOf 2 (some .int)]
def wsX6_pairComes_r2 : List Cond := [Cond.methodLink RX6 91 yX6_lastOf, Cond.static yX6_lastOf, Cond.code yX6_lastOf cX6_lastOf 2 (some .int)]
def wsX6_pairComes : List Cond := .code yX6_pairComes cX6_pairComes 9 (some .boolean) :: ((wsX6_pairComes_r1 ++ wsX6_pairComes_r2) ++ wsX60)
def wsX6_asking_r1 : List Cond := [Cond.fieldLink RX6 114 "SnapshotPiecesModel" "asks" "I", Cond.fieldLink RX6 23 "SnapshotPiecesModel" "asked" "[I", Cond.fieldLink RX6 17 "SnapshotPiecesModel" "kinds" "[I", Cond.fieldLink RX6 20 "SnapshotPiecesModel" "heads" "[I", Cond.fieldLink RX6 32 "SnapshotPiecesModel" "goal" "I", Cond.fieldLink RX6 26 "SnapshotPiecesModel" "wrong" "[I", Cond.fieldLink RX6 29 "SnapshotPiecesModel" "order" "[I", Cond.fieldLink RX6 84 "SnapshotPiecesModel" "names" "I", Cond.methodLink RX6 73 yX6_stateAt, Cond.instanceMethod yX6_stateAt, Cond.selects RX6 yX6_stateAt yX6_stateAt, Cond.initialized RX6, Cond.code yX6_stateAt cX6_stateAt 3 none, Cond.fieldLink RX6 46 "SnapshotPiecesModel" "state" "[J", Cond.fieldLink RX6 7 "SnapshotPiecesModel" "paths" "[I", Cond.fieldLink RX6 13 "SnapshotPiecesModel" "vals" "[J", Cond.methodLink RX6 117 yX6_leafComes, Cond.instanceMethod yX6_leafComes, Cond.selects RX6 yX6_leafComes yX6_leafComes, Cond.code yX6_leafComes cX6_leafComes 6 (some .boolean), Cond.fieldLink RX6 127 "SnapshotPiecesModel" "bytes" "I", Cond.fieldLink RX6 43 "SnapshotPiecesModel" "due" "[J", Cond.fieldLink RX6 36 "SnapshotPiecesModel" "held" "[J", Cond.methodLink RX6 62 yX6_mixed]
def wsX6_asking_r2 : List Cond := [Cond.static yX6_mixed, Cond.code yX6_mixed cX6_mixed 6 (some .long), Cond.constantLong RX6 58 (-7046029254386353131), Cond.constantLong RX6 60 (-4658895280553007687), Cond.methodLink RX6 121 yX6_rowComes, Cond.instanceMethod yX6_rowComes, Cond.selects RX6 yX6_rowComes yX6_rowComes, Cond.code yX6_rowComes cX6_rowComes 8 (some .boolean), Cond.fieldLink RX6 49 "SnapshotPiecesModel" "given" "[J", Cond.fieldLink RX6 52 "SnapshotPiecesModel" "tree" "[J", Cond.methodLink RX6 87 yX6_firstOf, Cond.static yX6_firstOf, Cond.code yX6_firstOf cX6_firstOf 2 (some .int), Cond.methodLink RX6 91 yX6_lastOf, Cond.static yX6_lastOf, Cond.code yX6_lastOf cX6_lastOf 2 (some .int), Cond.methodLink RX6 66 yX6_in, Cond.static yX6_in, Cond.code yX6_in cX6_in 3 (some .boolean), Cond.methodLink RX6 77 yX6_build, Cond.instanceMethod yX6_build, Cond.selects RX6 yX6_build yX6_build, Cond.code yX6_build cX6_build 3 none, Cond.fieldLink RX6 55 "SnapshotPiecesModel" "empty" "[Z"]
def wsX6_asking_r3 : List Cond := [Cond.methodLink RX6 124 yX6_pairComes, Cond.instanceMethod yX6_pairComes, Cond.selects RX6 yX6_pairComes yX6_pairComes, Cond.code yX6_pairComes cX6_pairComes 9 (some .boolean), Cond.methodLink RX6 102 yX6_know, Cond.instanceMethod yX6_know, Cond.selects RX6 yX6_know yX6_know, Cond.code yX6_know cX6_know 5 none, Cond.fieldLink RX6 39 "SnapshotPiecesModel" "known" "[Z"]
def wsX6_asking : List Cond := .code yX6_asking cX6_asking 6 (some .int) :: ((wsX6_asking_r1 ++ (wsX6_asking_r2 ++ wsX6_asking_r3)) ++ wsX60)
def wsX6_ask_r1 : List Cond := [Cond.fieldLink RX6 81 "SnapshotPiecesModel" "givers" "I", Cond.fieldLink RX6 36 "SnapshotPiecesModel" "held" "[J", Cond.fieldLink RX6 32 "SnapshotPiecesModel" "goal" "I", Cond.methodLink RX6 66 yX6_in, Cond.static yX6_in, Cond.initialized RX6, Cond.code yX6_in cX6_in 3 (some .boolean), Cond.methodLink RX6 77 yX6_build, Cond.instanceMethod yX6_build, Cond.selects RX6 yX6_build yX6_build, Cond.code yX6_build cX6_build 3 none, Cond.fieldLink RX6 55 "SnapshotPiecesModel" "empty" "[Z", Cond.fieldLink RX6 52 "SnapshotPiecesModel" "tree" "[J", Cond.methodLink RX6 62 yX6_mixed, Cond.static yX6_mixed, Cond.code yX6_mixed cX6_mixed 6 (some .long), Cond.constantLong RX6 58 (-7046029254386353131), Cond.constantLong RX6 60 (-4658895280553007687), Cond.methodLink RX6 94 yX6_lacks, Cond.instanceMethod yX6_lacks, Cond.selects RX6 yX6_lacks yX6_lacks, Cond.code yX6_lacks cX6_lacks 2 (some .boolean), Cond.fieldLink RX6 39 "SnapshotPiecesModel" "known" "[Z", Cond.fieldLink RX6 43 "SnapshotPiecesModel" "due" "[J"]
def wsX6_ask_r2 : List Cond := [Cond.methodLink RX6 110 yX6_asking, Cond.instanceMethod yX6_asking, Cond.selects RX6 yX6_asking yX6_asking, Cond.code yX6_asking cX6_asking 6 (some .int), Cond.fieldLink RX6 114 "SnapshotPiecesModel" "asks" "I", Cond.fieldLink RX6 23 "SnapshotPiecesModel" "asked" "[I", Cond.fieldLink RX6 17 "SnapshotPiecesModel" "kinds" "[I", Cond.fieldLink RX6 20 "SnapshotPiecesModel" "heads" "[I", Cond.fieldLink RX6 26 "SnapshotPiecesModel" "wrong" "[I", Cond.fieldLink RX6 29 "SnapshotPiecesModel" "order" "[I", Cond.fieldLink RX6 84 "SnapshotPiecesModel" "names" "I", Cond.methodLink RX6 73 yX6_stateAt, Cond.instanceMethod yX6_stateAt, Cond.selects RX6 yX6_stateAt yX6_stateAt, Cond.code yX6_stateAt cX6_stateAt 3 none, Cond.fieldLink RX6 46 "SnapshotPiecesModel" "state" "[J", Cond.fieldLink RX6 7 "SnapshotPiecesModel" "paths" "[I", Cond.fieldLink RX6 13 "SnapshotPiecesModel" "vals" "[J", Cond.methodLink RX6 117 yX6_leafComes, Cond.instanceMethod yX6_leafComes, Cond.selects RX6 yX6_leafComes yX6_leafComes, Cond.code yX6_leafComes cX6_leafComes 6 (some .boolean), Cond.fieldLink RX6 127 "SnapshotPiecesModel" "bytes" "I", Cond.methodLink RX6 121 yX6_rowComes]
def wsX6_ask_r3 : List Cond := [Cond.instanceMethod yX6_rowComes, Cond.selects RX6 yX6_rowComes yX6_rowComes, Cond.code yX6_rowComes cX6_rowComes 8 (some .boolean), Cond.fieldLink RX6 49 "SnapshotPiecesModel" "given" "[J", Cond.methodLink RX6 87 yX6_firstOf, Cond.static yX6_firstOf, Cond.code yX6_firstOf cX6_firstOf 2 (some .int), Cond.methodLink RX6 91 yX6_lastOf, Cond.static yX6_lastOf, Cond.code yX6_lastOf cX6_lastOf 2 (some .int), Cond.methodLink RX6 124 yX6_pairComes, Cond.instanceMethod yX6_pairComes, Cond.selects RX6 yX6_pairComes yX6_pairComes, Cond.code yX6_pairComes cX6_pairComes 9 (some .boolean), Cond.methodLink RX6 102 yX6_know, Cond.instanceMethod yX6_know, Cond.selects RX6 yX6_know yX6_know, Cond.code yX6_know cX6_know 5 none]
def wsX6_ask : List Cond := .code yX6_ask cX6_ask 4 (some .int) :: ((wsX6_ask_r1 ++ (wsX6_ask_r2 ++ wsX6_ask_r3)) ++ wsX60)
def wsX6_play_r1 : List Cond := [Cond.fieldLink RX6 32 "SnapshotPiecesModel" "goal" "I", Cond.fieldLink RX6 81 "SnapshotPiecesModel" "givers" "I", Cond.constantLong RX6 130 (6364136223846793005), Cond.constantLong RX6 132 (1442695040888963407), Cond.constant RX6 134 (2147483647), Cond.methodLink RX6 66 yX6_in, Cond.static yX6_in, Cond.initialized RX6, Cond.code yX6_in cX6_in 3 (some .boolean), Cond.methodLink RX6 106 yX6_lacking, Cond.instanceMethod yX6_lacking, Cond.selects RX6 yX6_lacking yX6_lacking, Cond.code yX6_lacking cX6_lacking 3 (some .int), Cond.fieldLink RX6 36 "SnapshotPiecesModel" "held" "[J", Cond.methodLink RX6 77 yX6_build, Cond.instanceMethod yX6_build, Cond.selects RX6 yX6_build yX6_build, Cond.code yX6_build cX6_build 3 none, Cond.fieldLink RX6 55 "SnapshotPiecesModel" "empty" "[Z", Cond.fieldLink RX6 52 "SnapshotPiecesModel" "tree" "[J", Cond.methodLink RX6 62 yX6_mixed, Cond.static yX6_mixed, Cond.code yX6_mixed cX6_mixed 6 (some .long), Cond.constantLong RX6 58 (-7046029254386353131)]
def wsX6_play_r2 : List Cond := [Cond.constantLong RX6 60 (-4658895280553007687), Cond.methodLink RX6 94 yX6_lacks, Cond.instanceMethod yX6_lacks, Cond.selects RX6 yX6_lacks yX6_lacks, Cond.code yX6_lacks cX6_lacks 2 (some .boolean), Cond.fieldLink RX6 39 "SnapshotPiecesModel" "known" "[Z", Cond.fieldLink RX6 43 "SnapshotPiecesModel" "due" "[J", Cond.methodLink RX6 135 yX6_missing, Cond.instanceMethod yX6_missing, Cond.selects RX6 yX6_missing yX6_missing, Cond.code yX6_missing cX6_missing 4 (some .int), Cond.methodLink RX6 110 yX6_asking, Cond.instanceMethod yX6_asking, Cond.selects RX6 yX6_asking yX6_asking, Cond.code yX6_asking cX6_asking 6 (some .int), Cond.fieldLink RX6 114 "SnapshotPiecesModel" "asks" "I", Cond.fieldLink RX6 23 "SnapshotPiecesModel" "asked" "[I", Cond.fieldLink RX6 17 "SnapshotPiecesModel" "kinds" "[I", Cond.fieldLink RX6 20 "SnapshotPiecesModel" "heads" "[I", Cond.fieldLink RX6 26 "SnapshotPiecesModel" "wrong" "[I", Cond.fieldLink RX6 29 "SnapshotPiecesModel" "order" "[I", Cond.fieldLink RX6 84 "SnapshotPiecesModel" "names" "I", Cond.methodLink RX6 73 yX6_stateAt, Cond.instanceMethod yX6_stateAt]
def wsX6_play_r3 : List Cond := [Cond.selects RX6 yX6_stateAt yX6_stateAt, Cond.code yX6_stateAt cX6_stateAt 3 none, Cond.fieldLink RX6 46 "SnapshotPiecesModel" "state" "[J", Cond.fieldLink RX6 7 "SnapshotPiecesModel" "paths" "[I", Cond.fieldLink RX6 13 "SnapshotPiecesModel" "vals" "[J", Cond.methodLink RX6 117 yX6_leafComes, Cond.instanceMethod yX6_leafComes, Cond.selects RX6 yX6_leafComes yX6_leafComes, Cond.code yX6_leafComes cX6_leafComes 6 (some .boolean), Cond.fieldLink RX6 127 "SnapshotPiecesModel" "bytes" "I", Cond.methodLink RX6 121 yX6_rowComes, Cond.instanceMethod yX6_rowComes, Cond.selects RX6 yX6_rowComes yX6_rowComes, Cond.code yX6_rowComes cX6_rowComes 8 (some .boolean), Cond.fieldLink RX6 49 "SnapshotPiecesModel" "given" "[J", Cond.methodLink RX6 87 yX6_firstOf, Cond.static yX6_firstOf, Cond.code yX6_firstOf cX6_firstOf 2 (some .int), Cond.methodLink RX6 91 yX6_lastOf, Cond.static yX6_lastOf, Cond.code yX6_lastOf cX6_lastOf 2 (some .int), Cond.methodLink RX6 124 yX6_pairComes, Cond.instanceMethod yX6_pairComes, Cond.selects RX6 yX6_pairComes yX6_pairComes]
def wsX6_play_r4 : List Cond := [Cond.code yX6_pairComes cX6_pairComes 9 (some .boolean), Cond.methodLink RX6 102 yX6_know, Cond.instanceMethod yX6_know, Cond.selects RX6 yX6_know yX6_know, Cond.code yX6_know cX6_know 5 none]
def wsX6_play : List Cond := .code yX6_play cX6_play 12 (some .int) :: ((wsX6_play_r1 ++ (wsX6_play_r2 ++ (wsX6_play_r3 ++ wsX6_play_r4))) ++ wsX60)
def wsX6_joined : List Cond := .code yX6_joined cX6_joined 1 (some .int) :: ([.fieldLink RX6 36 "SnapshotPiecesModel" "held" "[J", .fieldLink RX6 32 "SnapshotPiecesModel" "goal" "I", .fieldLink RX6 52 "SnapshotPiecesModel" "tree" "[J", .fieldLink RX6 43 "SnapshotPiecesModel" "due" "[J", .methodLink RX6 77 yX6_build, .instanceMethod yX6_build, .selects RX6 yX6_build yX6_build, .initialized RX6, .code yX6_build cX6_build 3 none, .fieldLink RX6 55 "SnapshotPiecesModel" "empty" "[Z", .methodLink RX6 62 yX6_mixed, .static yX6_mixed, .code yX6_mixed cX6_mixed 6 (some .long), .constantLong RX6 58 (-7046029254386353131), .constantLong RX6 60 (-4658895280553007687)] ++ wsX60)
def wsX6_held : List Cond := .code yX6_held cX6_held 2 (some .long) :: ([.fieldLink RX6 36 "SnapshotPiecesModel" "held" "[J", .methodLink RX6 66 yX6_in, .static yX6_in, .initialized RX6, .code yX6_in cX6_in 3 (some .boolean)] ++ wsX60)
def wsX6_mine : List Cond := .code yX6_mine cX6_mine 2 (some .long) :: ([.fieldLink RX6 36 "SnapshotPiecesModel" "held" "[J", .fieldLink RX6 52 "SnapshotPiecesModel" "tree" "[J", .methodLink RX6 66 yX6_in, .static yX6_in, .initialized RX6, .code yX6_in cX6_in 3 (some .boolean), .methodLink RX6 77 yX6_build, .instanceMethod yX6_build, .selects RX6 yX6_build yX6_build, .code yX6_build cX6_build 3 none, .fieldLink RX6 55 "SnapshotPiecesModel" "empty" "[Z", .methodLink RX6 62 yX6_mixed, .static yX6_mixed, .code yX6_mixed cX6_mixed 6 (some .long), .constantLong RX6 58 (-7046029254386353131), .constantLong RX6 60 (-4658895280553007687)] ++ wsX60)
def wsX6_rot_r1 : List Cond := [Cond.fieldLink RX6 36 "SnapshotPiecesModel" "held" "[J", Cond.methodLink RX6 66 yX6_in, Cond.static yX6_in, Cond.initialized RX6, Cond.code yX6_in cX6_in 3 (some .boolean), Cond.methodLink RX6 106 yX6_lacking, Cond.instanceMethod yX6_lacking, Cond.selects RX6 yX6_lacking yX6_lacking, Cond.code yX6_lacking cX6_lacking 3 (some .int), Cond.methodLink RX6 77 yX6_build, Cond.instanceMethod yX6_build, Cond.selects RX6 yX6_build yX6_build, Cond.code yX6_build cX6_build 3 none, Cond.fieldLink RX6 55 "SnapshotPiecesModel" "empty" "[Z", Cond.fieldLink RX6 52 "SnapshotPiecesModel" "tree" "[J", Cond.methodLink RX6 62 yX6_mixed, Cond.static yX6_mixed, Cond.code yX6_mixed cX6_mixed 6 (some .long), Cond.constantLong RX6 58 (-7046029254386353131), Cond.constantLong RX6 60 (-4658895280553007687), Cond.methodLink RX6 94 yX6_lacks, Cond.instanceMethod yX6_lacks, Cond.selects RX6 yX6_lacks yX6_lacks, Cond.code yX6_lacks cX6_lacks 2 (some .boolean)]
def wsX6_rot_r2 : List Cond := [Cond.fieldLink RX6 39 "SnapshotPiecesModel" "known" "[Z", Cond.fieldLink RX6 43 "SnapshotPiecesModel" "due" "[J"]
def wsX6_rot : List Cond := .code yX6_rot cX6_rot 4 (some .int) :: ((wsX6_rot_r1 ++ wsX6_rot_r2) ++ wsX60)
def wsX6_cut : List Cond := .code yX6_cut cX6_cut 2 (some .int) :: ([.fieldLink RX6 32 "SnapshotPiecesModel" "goal" "I", .fieldLink RX6 39 "SnapshotPiecesModel" "known" "[Z", .methodLink RX6 106 yX6_lacking, .instanceMethod yX6_lacking, .selects RX6 yX6_lacking yX6_lacking, .initialized RX6, .code yX6_lacking cX6_lacking 3 (some .int), .fieldLink RX6 36 "SnapshotPiecesModel" "held" "[J", .methodLink RX6 77 yX6_build, .instanceMethod yX6_build, .selects RX6 yX6_build yX6_build, .code yX6_build cX6_build 3 none, .fieldLink RX6 55 "SnapshotPiecesModel" "empty" "[Z", .fieldLink RX6 52 "SnapshotPiecesModel" "tree" "[J", .methodLink RX6 62 yX6_mixed, .static yX6_mixed, .code yX6_mixed cX6_mixed 6 (some .long), .constantLong RX6 58 (-7046029254386353131), .constantLong RX6 60 (-4658895280553007687), .methodLink RX6 94 yX6_lacks, .instanceMethod yX6_lacks, .selects RX6 yX6_lacks yX6_lacks, .code yX6_lacks cX6_lacks 2 (some .boolean), .fieldLink RX6 43 "SnapshotPiecesModel" "due" "[J"] ++ wsX60)
def wsX6_count_r1 : List Cond := [Cond.fieldLink RX6 70 "SnapshotPiecesModel" "height" "I", Cond.fieldLink RX6 81 "SnapshotPiecesModel" "givers" "I", Cond.fieldLink RX6 32 "SnapshotPiecesModel" "goal" "I", Cond.fieldLink RX6 127 "SnapshotPiecesModel" "bytes" "I", Cond.fieldLink RX6 114 "SnapshotPiecesModel" "asks" "I", Cond.fieldLink RX6 84 "SnapshotPiecesModel" "names" "I", Cond.fieldLink RX6 36 "SnapshotPiecesModel" "held" "[J", Cond.fieldLink RX6 39 "SnapshotPiecesModel" "known" "[Z", Cond.methodLink RX6 106 yX6_lacking, Cond.instanceMethod yX6_lacking, Cond.selects RX6 yX6_lacking yX6_lacking, Cond.initialized RX6, Cond.code yX6_lacking cX6_lacking 3 (some .int), Cond.methodLink RX6 77 yX6_build, Cond.instanceMethod yX6_build, Cond.selects RX6 yX6_build yX6_build, Cond.code yX6_build cX6_build 3 none, Cond.fieldLink RX6 55 "SnapshotPiecesModel" "empty" "[Z", Cond.fieldLink RX6 52 "SnapshotPiecesModel" "tree" "[J", Cond.methodLink RX6 62 yX6_mixed, Cond.static yX6_mixed, Cond.code yX6_mixed cX6_mixed 6 (some .long), Cond.constantLong RX6 58 (-7046029254386353131), Cond.constantLong RX6 60 (-4658895280553007687)]
def wsX6_count_r2 : List Cond := [Cond.methodLink RX6 94 yX6_lacks, Cond.instanceMethod yX6_lacks, Cond.selects RX6 yX6_lacks yX6_lacks, Cond.code yX6_lacks cX6_lacks 2 (some .boolean), Cond.fieldLink RX6 43 "SnapshotPiecesModel" "due" "[J"]
def wsX6_count : List Cond := .code yX6_count cX6_count 4 (some .int) :: ((wsX6_count_r1 ++ wsX6_count_r2) ++ wsX60)
def wsJ9_max_7cf53 : List Cond := .code yJ9_max_7cf53 cJ9_max_7cf53 2 (some .int) :: ([])
def wsJ9_min_7cf53 : List Cond := .code yJ9_min_7cf53 cJ9_min_7cf53 2 (some .int) :: ([])
abbrev vwCl : List vw_C := [(RX0, TX0, 8), (RX1, TX1, 8), (RX2, TX2, 6), (RX3, TX3, 3), (RX4, TX4, 2), (RX5, TX5, 6), (RX6, TX6, 20)]
end
section
theorem dX0_init_0 : decode cX0_init 0 = .ok (.aload_n 0, 1) := by decide +kernel
theorem dX0_init_1 : decode cX0_init 1 = .ok (.invokespecial 1, 3) := by decide +kernel
theorem dX0_init_4 : decode cX0_init 4 = .ok (.aload_n 0, 1) := by decide +kernel
theorem dX0_init_5 : decode cX0_init 5 = .ok (.bipush 12, 2) := by decide +kernel
theorem dX0_init_7 : decode cX0_init 7 = .ok (.newarray .int, 2) := by decide +kernel
theorem dX0_init_9 : decode cX0_init 9 = .ok (.putfield 9, 3) := by decide +kernel
theorem dX0_init_12 : decode cX0_init 12 = .ok (.aload_n 0, 1) := by decide +kernel
theorem dX0_init_13 : decode cX0_init 13 = .ok (.bipush 12, 2) := by decide +kernel
theorem dX0_init_15 : decode cX0_init 15 = .ok (.newarray .int, 2) := by decide +kernel
theorem dX0_init_17 : decode cX0_init 17 = .ok (.putfield 13, 3) := by decide +kernel
theorem dX0_init_20 : decode cX0_init 20 = .ok (.aload_n 0, 1) := by decide +kernel
theorem dX0_init_21 : decode cX0_init 21 = .ok (.bipush 12, 2) := by decide +kernel
theorem dX0_init_23 : decode cX0_init 23 = .ok (.newarray .int, 2) := by decide +kernel
theorem dX0_init_25 : decode cX0_init 25 = .ok (.putfield 16, 3) := by decide +kernel
theorem dX0_init_28 : decode cX0_init 28 = .ok (.aload_n 0, 1) := by decide +kernel
theorem dX0_init_29 : decode cX0_init 29 = .ok (.bipush 12, 2) := by decide +kernel
theorem dX0_init_31 : decode cX0_init 31 = .ok (.newarray .int, 2) := by decide +kernel
theorem dX0_init_33 : decode cX0_init 33 = .ok (.putfield 19, 3) := by decide +kernel
theorem dX0_init_36 : decode cX0_init 36 = .ok (.aload_n 0, 1) := by decide +kernel
theorem dX0_init_37 : decode cX0_init 37 = .ok (.bipush 12, 2) := by decide +kernel
theorem dX0_init_39 : decode cX0_init 39 = .ok (.newarray .int, 2) := by decide +kernel
theorem dX0_init_41 : decode cX0_init 41 = .ok (.putfield 22, 3) := by decide +kernel
theorem dX0_init_44 : decode cX0_init 44 = .ok (.aload_n 0, 1) := by decide +kernel
theorem dX0_init_45 : decode cX0_init 45 = .ok (.iconst 0, 1) := by decide +kernel
theorem dX0_init_46 : decode cX0_init 46 = .ok (.putfield 25, 3) := by decide +kernel
theorem dX0_init_49 : decode cX0_init 49 = .ok (.aload_n 0, 1) := by decide +kernel
theorem dX0_init_50 : decode cX0_init 50 = .ok (.iconst 0, 1) := by decide +kernel
theorem dX0_init_51 : decode cX0_init 51 = .ok (.putfield 29, 3) := by decide +kernel
theorem dX0_init_54 : decode cX0_init 54 = .ok (.aload_n 0, 1) := by decide +kernel
theorem dX0_init_55 : decode cX0_init 55 = .ok (.iconst 0, 1) := by decide +kernel
theorem dX0_init_56 : decode cX0_init 56 = .ok (.putfield 32, 3) := by decide +kernel
theorem dX0_init_59 : decode cX0_init 59 = .ok (.return_, 1) := by decide +kernel
theorem dX0_has_0 : decode cX0_has 0 = .ok (.iload_n 1, 1) := by decide +kernel
theorem dX0_has_1 : decode cX0_has 1 = .ok (.ifCond .lt 15, 3) := by decide +kernel
theorem dX0_has_4 : decode cX0_has 4 = .ok (.iload_n 1, 1) := by decide +kernel
theorem dX0_has_5 : decode cX0_has 5 = .ok (.aload_n 0, 1) := by decide +kernel
theorem dX0_has_6 : decode cX0_has 6 = .ok (.getfield 25, 3) := by decide +kernel
theorem dX0_has_9 : decode cX0_has 9 = .ok (.if_icmp .ge 7, 3) := by decide +kernel
theorem dX0_has_12 : decode cX0_has 12 = .ok (.iconst 1, 1) := by decide +kernel
theorem dX0_has_13 : decode cX0_has 13 = .ok (.goto 4, 3) := by decide +kernel
theorem dX0_has_16 : decode cX0_has 16 = .ok (.iconst 0, 1) := by decide +kernel
theorem dX0_has_17 : decode cX0_has 17 = .ok (.ireturn, 1) := by decide +kernel
theorem dX0_append_0 : decode cX0_append 0 = .ok (.aload_n 0, 1) := by decide +kernel
theorem dX0_append_1 : decode cX0_append 1 = .ok (.getfield 25, 3) := by decide +kernel
theorem dX0_append_4 : decode cX0_append 4 = .ok (.bipush 12, 2) := by decide +kernel
theorem dX0_append_6 : decode cX0_append 6 = .ok (.if_icmp .lt 5, 3) := by decide +kernel
theorem dX0_append_9 : decode cX0_append 9 = .ok (.iconst 0, 1) := by decide +kernel
theorem dX0_append_10 : decode cX0_append 10 = .ok (.ireturn, 1) := by decide +kernel
theorem dX0_append_11 : decode cX0_append 11 = .ok (.aload_n 0, 1) := by decide +kernel
theorem dX0_append_12 : decode cX0_append 12 = .ok (.getfield 9, 3) := by decide +kernel
theorem dX0_append_15 : decode cX0_append 15 = .ok (.aload_n 0, 1) := by decide +kernel
theorem dX0_append_16 : decode cX0_append 16 = .ok (.getfield 25, 3) := by decide +kernel
theorem dX0_append_19 : decode cX0_append 19 = .ok (.iload_n 1, 1) := by decide +kernel
theorem dX0_append_20 : decode cX0_append 20 = .ok (.iastore, 1) := by decide +kernel
theorem dX0_append_21 : decode cX0_append 21 = .ok (.aload_n 0, 1) := by decide +kernel
theorem dX0_append_22 : decode cX0_append 22 = .ok (.getfield 13, 3) := by decide +kernel
theorem dX0_append_25 : decode cX0_append 25 = .ok (.aload_n 0, 1) := by decide +kernel
theorem dX0_append_26 : decode cX0_append 26 = .ok (.getfield 25, 3) := by decide +kernel
theorem dX0_append_29 : decode cX0_append 29 = .ok (.iload_n 2, 1) := by decide +kernel
theorem dX0_append_30 : decode cX0_append 30 = .ok (.iastore, 1) := by decide +kernel
theorem dX0_append_31 : decode cX0_append 31 = .ok (.aload_n 0, 1) := by decide +kernel
theorem dX0_append_32 : decode cX0_append 32 = .ok (.dup, 1) := by decide +kernel
theorem dX0_append_33 : decode cX0_append 33 = .ok (.getfield 25, 3) := by decide +kernel
theorem dX0_append_36 : decode cX0_append 36 = .ok (.iconst 1, 1) := by decide +kernel
theorem dX0_append_37 : decode cX0_append 37 = .ok (.iadd, 1) := by decide +kernel
theorem dX0_append_38 : decode cX0_append 38 = .ok (.putfield 25, 3) := by decide +kernel
theorem dX0_append_41 : decode cX0_append 41 = .ok (.iconst 1, 1) := by decide +kernel
theorem dX0_append_42 : decode cX0_append 42 = .ok (.ireturn, 1) := by decide +kernel
set_option maxRecDepth 20000 in
theorem ggX0_answers_X0_has : GoodIn wsX0_answers wsX0_has := goodIn_r _ [9, 10, 11, 12, 13, 14, 15, 16, 17, 18] (by decide +kernel) (by decide +kernel)
set_option maxRecDepth 20000 in
theorem gX0_answers_X0_has : GoodIn wsX0_answers (wsV RX0 35 RX0 yX0_has wsX0_has) := goodIn_app (goodIn_of _ (by decide +kernel)) ggX0_answers_X0_has
theorem dX0_answers_0 : decode cX0_answers 0 = .ok (.aload_n 0, 1) := by decide +kernel
theorem dX0_answers_1 : decode cX0_answers 1 = .ok (.iload_n 1, 1) := by decide +kernel
theorem dX0_answers_2 : decode cX0_answers 2 = .ok (.invokevirtual 35, 3) := by decide +kernel
theorem dX0_answers_5 : decode cX0_answers 5 = .ok (.ifCond .ne 5, 3) := by decide +kernel
theorem dX0_answers_8 : decode cX0_answers 8 = .ok (.iconst 0, 1) := by decide +kernel
theorem dX0_answers_9 : decode cX0_answers 9 = .ok (.ireturn, 1) := by decide +kernel
theorem dX0_answers_10 : decode cX0_answers 10 = .ok (.aload_n 0, 1) := by decide +kernel
theorem dX0_answers_11 : decode cX0_answers 11 = .ok (.getfield 16, 3) := by decide +kernel
theorem dX0_answers_14 : decode cX0_answers 14 = .ok (.iload_n 1, 1) := by decide +kernel
theorem dX0_answers_15 : decode cX0_answers 15 = .ok (.dup2, 1) := by decide +kernel
theorem dX0_answers_16 : decode cX0_answers 16 = .ok (.iaload, 1) := by decide +kernel
theorem dX0_answers_17 : decode cX0_answers 17 = .ok (.iconst 1, 1) := by decide +kernel
theorem dX0_answers_18 : decode cX0_answers 18 = .ok (.iadd, 1) := by decide +kernel
theorem dX0_answers_19 : decode cX0_answers 19 = .ok (.iastore, 1) := by decide +kernel
theorem dX0_answers_20 : decode cX0_answers 20 = .ok (.aload_n 0, 1) := by decide +kernel
theorem dX0_answers_21 : decode cX0_answers 21 = .ok (.dup, 1) := by decide +kernel
theorem dX0_answers_22 : decode cX0_answers 22 = .ok (.getfield 32, 3) := by decide +kernel
theorem dX0_answers_25 : decode cX0_answers 25 = .ok (.iconst 1, 1) := by decide +kernel
theorem dX0_answers_26 : decode cX0_answers 26 = .ok (.iadd, 1) := by decide +kernel
theorem dX0_answers_27 : decode cX0_answers 27 = .ok (.putfield 32, 3) := by decide +kernel
theorem dX0_answers_30 : decode cX0_answers 30 = .ok (.aload_n 0, 1) := by decide +kernel
theorem dX0_answers_31 : decode cX0_answers 31 = .ok (.getfield 13, 3) := by decide +kernel
theorem dX0_answers_34 : decode cX0_answers 34 = .ok (.iload_n 1, 1) := by decide +kernel
theorem dX0_answers_35 : decode cX0_answers 35 = .ok (.iaload, 1) := by decide +kernel
theorem dX0_answers_36 : decode cX0_answers 36 = .ok (.iconst (-1), 1) := by decide +kernel
theorem dX0_answers_37 : decode cX0_answers 37 = .ok (.if_icmp .eq 17, 3) := by decide +kernel
theorem dX0_answers_40 : decode cX0_answers 40 = .ok (.aload_n 0, 1) := by decide +kernel
theorem dX0_answers_41 : decode cX0_answers 41 = .ok (.getfield 13, 3) := by decide +kernel
theorem dX0_answers_44 : decode cX0_answers 44 = .ok (.iload_n 1, 1) := by decide +kernel
theorem dX0_answers_45 : decode cX0_answers 45 = .ok (.iaload, 1) := by decide +kernel
theorem dX0_answers_46 : decode cX0_answers 46 = .ok (.iload_n 2, 1) := by decide +kernel
theorem dX0_answers_47 : decode cX0_answers 47 = .ok (.if_icmp .ge 7, 3) := by decide +kernel
theorem dX0_answers_50 : decode cX0_answers 50 = .ok (.iconst 1, 1) := by decide +kernel
theorem dX0_answers_51 : decode cX0_answers 51 = .ok (.goto 4, 3) := by decide +kernel
theorem dX0_answers_54 : decode cX0_answers 54 = .ok (.iconst 0, 1) := by decide +kernel
theorem dX0_answers_55 : decode cX0_answers 55 = .ok (.istore_n 3, 1) := by decide +kernel
theorem dX0_answers_56 : decode cX0_answers 56 = .ok (.aload_n 0, 1) := by decide +kernel
theorem dX0_answers_57 : decode cX0_answers 57 = .ok (.getfield 9, 3) := by decide +kernel
theorem dX0_answers_60 : decode cX0_answers 60 = .ok (.iload_n 1, 1) := by decide +kernel
theorem dX0_answers_61 : decode cX0_answers 61 = .ok (.iaload, 1) := by decide +kernel
theorem dX0_answers_62 : decode cX0_answers 62 = .ok (.iconst 4, 1) := by decide +kernel
theorem dX0_answers_63 : decode cX0_answers 63 = .ok (.if_icmp .ne 18, 3) := by decide +kernel
theorem dX0_answers_66 : decode cX0_answers 66 = .ok (.aload_n 0, 1) := by decide +kernel
theorem dX0_answers_67 : decode cX0_answers 67 = .ok (.getfield 16, 3) := by decide +kernel
theorem dX0_answers_70 : decode cX0_answers 70 = .ok (.iload_n 1, 1) := by decide +kernel
theorem dX0_answers_71 : decode cX0_answers 71 = .ok (.iaload, 1) := by decide +kernel
theorem dX0_answers_72 : decode cX0_answers 72 = .ok (.iconst 2, 1) := by decide +kernel
theorem dX0_answers_73 : decode cX0_answers 73 = .ok (.irem, 1) := by decide +kernel
theorem dX0_answers_74 : decode cX0_answers 74 = .ok (.ifCond .ne 7, 3) := by decide +kernel
theorem dX0_answers_77 : decode cX0_answers 77 = .ok (.iconst 1, 1) := by decide +kernel
theorem dX0_answers_78 : decode cX0_answers 78 = .ok (.goto 4, 3) := by decide +kernel
theorem dX0_answers_81 : decode cX0_answers 81 = .ok (.iconst 0, 1) := by decide +kernel
theorem dX0_answers_82 : decode cX0_answers 82 = .ok (.istore 4, 2) := by decide +kernel
theorem dX0_answers_84 : decode cX0_answers 84 = .ok (.iload_n 3, 1) := by decide +kernel
theorem dX0_answers_85 : decode cX0_answers 85 = .ok (.ifCond .ne 12, 3) := by decide +kernel
theorem dX0_answers_88 : decode cX0_answers 88 = .ok (.iload 4, 2) := by decide +kernel
theorem dX0_answers_90 : decode cX0_answers 90 = .ok (.ifCond .ne 7, 3) := by decide +kernel
theorem dX0_answers_93 : decode cX0_answers 93 = .ok (.iconst 1, 1) := by decide +kernel
theorem dX0_answers_94 : decode cX0_answers 94 = .ok (.goto 4, 3) := by decide +kernel
theorem dX0_answers_97 : decode cX0_answers 97 = .ok (.iconst 0, 1) := by decide +kernel
theorem dX0_answers_98 : decode cX0_answers 98 = .ok (.ireturn, 1) := by decide +kernel
set_option maxRecDepth 20000 in
theorem ggX0_blame_X0_has : GoodIn wsX0_blame wsX0_has := goodIn_r _ [8, 9, 10, 11, 12, 13, 14, 15, 16, 17] (by decide +kernel) (by decide +kernel)
set_option maxRecDepth 20000 in
theorem gX0_blame_X0_has : GoodIn wsX0_blame (wsV RX0 35 RX0 yX0_has wsX0_has) := goodIn_app (goodIn_of _ (by decide +kernel)) ggX0_blame_X0_has
theorem dX0_blame_0 : decode cX0_blame 0 = .ok (.aload_n 0, 1) := by decide +kernel
theorem dX0_blame_1 : decode cX0_blame 1 = .ok (.iload_n 1, 1) := by decide +kernel
theorem dX0_blame_2 : decode cX0_blame 2 = .ok (.invokevirtual 35, 3) := by decide +kernel
theorem dX0_blame_5 : decode cX0_blame 5 = .ok (.ifCond .ne 4, 3) := by decide +kernel
theorem dX0_blame_8 : decode cX0_blame 8 = .ok (.return_, 1) := by decide +kernel
theorem dX0_blame_9 : decode cX0_blame 9 = .ok (.aload_n 0, 1) := by decide +kernel
theorem dX0_blame_10 : decode cX0_blame 10 = .ok (.getfield 19, 3) := by decide +kernel
theorem dX0_blame_13 : decode cX0_blame 13 = .ok (.iload_n 1, 1) := by decide +kernel
theorem dX0_blame_14 : decode cX0_blame 14 = .ok (.iaload, 1) := by decide +kernel
theorem dX0_blame_15 : decode cX0_blame 15 = .ok (.ifCond .ne 32, 3) := by decide +kernel
theorem dX0_blame_18 : decode cX0_blame 18 = .ok (.aload_n 0, 1) := by decide +kernel
theorem dX0_blame_19 : decode cX0_blame 19 = .ok (.getfield 29, 3) := by decide +kernel
theorem dX0_blame_22 : decode cX0_blame 22 = .ok (.bipush 12, 2) := by decide +kernel
theorem dX0_blame_24 : decode cX0_blame 24 = .ok (.if_icmp .ge 23, 3) := by decide +kernel
theorem dX0_blame_27 : decode cX0_blame 27 = .ok (.aload_n 0, 1) := by decide +kernel
theorem dX0_blame_28 : decode cX0_blame 28 = .ok (.getfield 22, 3) := by decide +kernel
theorem dX0_blame_31 : decode cX0_blame 31 = .ok (.aload_n 0, 1) := by decide +kernel
theorem dX0_blame_32 : decode cX0_blame 32 = .ok (.getfield 29, 3) := by decide +kernel
theorem dX0_blame_35 : decode cX0_blame 35 = .ok (.iload_n 1, 1) := by decide +kernel
theorem dX0_blame_36 : decode cX0_blame 36 = .ok (.iastore, 1) := by decide +kernel
theorem dX0_blame_37 : decode cX0_blame 37 = .ok (.aload_n 0, 1) := by decide +kernel
theorem dX0_blame_38 : decode cX0_blame 38 = .ok (.dup, 1) := by decide +kernel
theorem dX0_blame_39 : decode cX0_blame 39 = .ok (.getfield 29, 3) := by decide +kernel
theorem dX0_blame_42 : decode cX0_blame 42 = .ok (.iconst 1, 1) := by decide +kernel
theorem dX0_blame_43 : decode cX0_blame 43 = .ok (.iadd, 1) := by decide +kernel
theorem dX0_blame_44 : decode cX0_blame 44 = .ok (.putfield 29, 3) := by decide +kernel
theorem dX0_blame_47 : decode cX0_blame 47 = .ok (.aload_n 0, 1) := by decide +kernel
theorem dX0_blame_48 : decode cX0_blame 48 = .ok (.getfield 19, 3) := by decide +kernel
theorem dX0_blame_51 : decode cX0_blame 51 = .ok (.iload_n 1, 1) := by decide +kernel
theorem dX0_blame_52 : decode cX0_blame 52 = .ok (.dup2, 1) := by decide +kernel
theorem dX0_blame_53 : decode cX0_blame 53 = .ok (.iaload, 1) := by decide +kernel
theorem dX0_blame_54 : decode cX0_blame 54 = .ok (.iconst 1, 1) := by decide +kernel
theorem dX0_blame_55 : decode cX0_blame 55 = .ok (.iadd, 1) := by decide +kernel
theorem dX0_blame_56 : decode cX0_blame 56 = .ok (.iastore, 1) := by decide +kernel
theorem dX0_blame_57 : decode cX0_blame 57 = .ok (.return_, 1) := by decide +kernel
set_option maxRecDepth 20000 in
theorem ggX1_init_X4_init : GoodIn wsX1_init wsX4_init := goodIn_r _ [19, 20, 2, 3, 12, 21, 22, 23, 24] (by decide +kernel) (by decide +kernel)
set_option maxRecDepth 20000 in
theorem gX1_init_X4_init_n11 : GoodIn wsX1_init (wsX4_init) := ggX1_init_X4_init
theorem dX1_init_0 : decode cX1_init 0 = .ok (.aload_n 0, 1) := by decide +kernel
theorem dX1_init_1 : decode cX1_init 1 = .ok (.invokespecial 3, 3) := by decide +kernel
theorem dX1_init_4 : decode cX1_init 4 = .ok (.aload_n 0, 1) := by decide +kernel
theorem dX1_init_5 : decode cX1_init 5 = .ok (.new 9, 3) := by decide +kernel
theorem dX1_init_8 : decode cX1_init 8 = .ok (.dup, 1) := by decide +kernel
theorem dX1_init_9 : decode cX1_init 9 = .ok (.invokespecial 11, 3) := by decide +kernel
theorem dX1_init_12 : decode cX1_init 12 = .ok (.putfield 12, 3) := by decide +kernel
theorem dX1_init_15 : decode cX1_init 15 = .ok (.aload_n 0, 1) := by decide +kernel
theorem dX1_init_16 : decode cX1_init 16 = .ok (.new 9, 3) := by decide +kernel
theorem dX1_init_19 : decode cX1_init 19 = .ok (.dup, 1) := by decide +kernel
theorem dX1_init_20 : decode cX1_init 20 = .ok (.invokespecial 11, 3) := by decide +kernel
theorem dX1_init_23 : decode cX1_init 23 = .ok (.putfield 18, 3) := by decide +kernel
theorem dX1_init_26 : decode cX1_init 26 = .ok (.aload_n 0, 1) := by decide +kernel
theorem dX1_init_27 : decode cX1_init 27 = .ok (.new 9, 3) := by decide +kernel
theorem dX1_init_30 : decode cX1_init 30 = .ok (.dup, 1) := by decide +kernel
theorem dX1_init_31 : decode cX1_init 31 = .ok (.invokespecial 11, 3) := by decide +kernel
theorem dX1_init_34 : decode cX1_init 34 = .ok (.putfield 21, 3) := by decide +kernel
theorem dX1_init_37 : decode cX1_init 37 = .ok (.aload_n 0, 1) := by decide +kernel
theorem dX1_init_38 : decode cX1_init 38 = .ok (.sipush 128, 3) := by decide +kernel
theorem dX1_init_41 : decode cX1_init 41 = .ok (.newarray .boolean, 2) := by decide +kernel
theorem dX1_init_43 : decode cX1_init 43 = .ok (.putfield 24, 3) := by decide +kernel
theorem dX1_init_46 : decode cX1_init 46 = .ok (.aload_n 0, 1) := by decide +kernel
theorem dX1_init_47 : decode cX1_init 47 = .ok (.sipush 128, 3) := by decide +kernel
theorem dX1_init_50 : decode cX1_init 50 = .ok (.newarray .long, 2) := by decide +kernel
theorem dX1_init_52 : decode cX1_init 52 = .ok (.putfield 28, 3) := by decide +kernel
theorem dX1_init_55 : decode cX1_init 55 = .ok (.aload_n 0, 1) := by decide +kernel
theorem dX1_init_56 : decode cX1_init 56 = .ok (.sipush 128, 3) := by decide +kernel
theorem dX1_init_59 : decode cX1_init 59 = .ok (.newarray .int, 2) := by decide +kernel
theorem dX1_init_61 : decode cX1_init 61 = .ok (.putfield 32, 3) := by decide +kernel
theorem dX1_init_64 : decode cX1_init 64 = .ok (.aload_n 0, 1) := by decide +kernel
theorem dX1_init_65 : decode cX1_init 65 = .ok (.iconst 0, 1) := by decide +kernel
theorem dX1_init_66 : decode cX1_init 66 = .ok (.putfield 36, 3) := by decide +kernel
theorem dX1_init_69 : decode cX1_init 69 = .ok (.aload_n 0, 1) := by decide +kernel
theorem dX1_init_70 : decode cX1_init 70 = .ok (.iconst (-1), 1) := by decide +kernel
theorem dX1_init_71 : decode cX1_init 71 = .ok (.putfield 40, 3) := by decide +kernel
theorem dX1_init_74 : decode cX1_init 74 = .ok (.return_, 1) := by decide +kernel
theorem dX1_hasGoal_0 : decode cX1_hasGoal 0 = .ok (.aload_n 0, 1) := by decide +kernel
theorem dX1_hasGoal_1 : decode cX1_hasGoal 1 = .ok (.getfield 40, 3) := by decide +kernel
theorem dX1_hasGoal_4 : decode cX1_hasGoal 4 = .ok (.iconst (-1), 1) := by decide +kernel
theorem dX1_hasGoal_5 : decode cX1_hasGoal 5 = .ok (.if_icmp .eq 7, 3) := by decide +kernel
theorem dX1_hasGoal_8 : decode cX1_hasGoal 8 = .ok (.iconst 1, 1) := by decide +kernel
theorem dX1_hasGoal_9 : decode cX1_hasGoal 9 = .ok (.goto 4, 3) := by decide +kernel
theorem dX1_hasGoal_12 : decode cX1_hasGoal 12 = .ok (.iconst 0, 1) := by decide +kernel
theorem dX1_hasGoal_13 : decode cX1_hasGoal 13 = .ok (.ireturn, 1) := by decide +kernel
set_option maxRecDepth 20000 in
theorem ggX1_isWhole_X1_hasGoal : GoodIn wsX1_isWhole wsX1_hasGoal := goodIn_r _ [7, 8, 18, 19, 20, 21, 22, 23, 24, 25] (by decide +kernel) (by decide +kernel)
set_option maxRecDepth 20000 in
theorem gX1_isWhole_X1_hasGoal : GoodIn wsX1_isWhole (wsV RX1 43 RX1 yX1_hasGoal wsX1_hasGoal) := goodIn_app (goodIn_of _ (by decide +kernel)) ggX1_isWhole_X1_hasGoal
set_option maxRecDepth 20000 in
theorem ggX1_isWhole_X4_digestOf : GoodIn wsX1_isWhole wsX4_digestOf := goodIn_r _ [13, 14, 15, 16, 12, 17, 26, 27] (by decide +kernel) (by decide +kernel)
set_option maxRecDepth 20000 in
theorem gX1_isWhole_X4_digestOf : GoodIn wsX1_isWhole (wsV RX1 47 RX4 yX4_digestOf wsX4_digestOf) := goodIn_app (goodIn_of _ (by decide +kernel)) ggX1_isWhole_X4_digestOf
theorem dX1_isWhole_0 : decode cX1_isWhole 0 = .ok (.aload_n 0, 1) := by decide +kernel
theorem dX1_isWhole_1 : decode cX1_isWhole 1 = .ok (.invokevirtual 43, 3) := by decide +kernel
theorem dX1_isWhole_4 : decode cX1_isWhole 4 = .ok (.ifCond .eq 25, 3) := by decide +kernel
theorem dX1_isWhole_7 : decode cX1_isWhole 7 = .ok (.aload_n 0, 1) := by decide +kernel
theorem dX1_isWhole_8 : decode cX1_isWhole 8 = .ok (.getfield 28, 3) := by decide +kernel
theorem dX1_isWhole_11 : decode cX1_isWhole 11 = .ok (.iconst 1, 1) := by decide +kernel
theorem dX1_isWhole_12 : decode cX1_isWhole 12 = .ok (.laload, 1) := by decide +kernel
theorem dX1_isWhole_13 : decode cX1_isWhole 13 = .ok (.aload_n 0, 1) := by decide +kernel
theorem dX1_isWhole_14 : decode cX1_isWhole 14 = .ok (.getfield 12, 3) := by decide +kernel
theorem dX1_isWhole_17 : decode cX1_isWhole 17 = .ok (.iconst 1, 1) := by decide +kernel
theorem dX1_isWhole_18 : decode cX1_isWhole 18 = .ok (.invokevirtual 47, 3) := by decide +kernel
theorem dX1_isWhole_21 : decode cX1_isWhole 21 = .ok (.lcmp, 1) := by decide +kernel
theorem dX1_isWhole_22 : decode cX1_isWhole 22 = .ok (.ifCond .ne 7, 3) := by decide +kernel
theorem dX1_isWhole_25 : decode cX1_isWhole 25 = .ok (.iconst 1, 1) := by decide +kernel
theorem dX1_isWhole_26 : decode cX1_isWhole 26 = .ok (.goto 4, 3) := by decide +kernel
theorem dX1_isWhole_29 : decode cX1_isWhole 29 = .ok (.iconst 0, 1) := by decide +kernel
theorem dX1_isWhole_30 : decode cX1_isWhole 30 = .ok (.ireturn, 1) := by decide +kernel
set_option maxRecDepth 20000 in
theorem ggX1_lacks_X4_isNode : GoodIn wsX1_lacks wsX4_isNode := goodIn_r _ [7] (by decide +kernel) (by decide +kernel)
set_option maxRecDepth 20000 in
theorem gX1_lacks_X4_isNode : GoodIn wsX1_lacks (va_wsS RX1 51 yX4_isNode wsX4_isNode) := goodIn_app (goodIn_of _ (by decide +kernel)) ggX1_lacks_X4_isNode
set_option maxRecDepth 20000 in
theorem ggX1_lacks_X4_digestOf : GoodIn wsX1_lacks wsX4_digestOf := goodIn_r _ [11, 12, 13, 5, 6, 7, 25, 26] (by decide +kernel) (by decide +kernel)
set_option maxRecDepth 20000 in
theorem gX1_lacks_X4_digestOf : GoodIn wsX1_lacks (wsV RX1 47 RX4 yX4_digestOf wsX4_digestOf) := goodIn_app (goodIn_of _ (by decide +kernel)) ggX1_lacks_X4_digestOf
set_option maxRecDepth 20000 in
theorem ggX1_lacks_X4_isLeaf : GoodIn wsX1_lacks wsX4_isLeaf := goodIn_r _ [16] (by decide +kernel) (by decide +kernel)
set_option maxRecDepth 20000 in
theorem gX1_lacks_X4_isLeaf : GoodIn wsX1_lacks (va_wsS RX1 55 yX4_isLeaf wsX4_isLeaf) := goodIn_app (goodIn_of _ (by decide +kernel)) ggX1_lacks_X4_isLeaf
theorem dX1_lacks_0 : decode cX1_lacks 0 = .ok (.iload_n 1, 1) := by decide +kernel
theorem dX1_lacks_1 : decode cX1_lacks 1 = .ok (.invokestatic 51, 3) := by decide +kernel
theorem dX1_lacks_4 : decode cX1_lacks 4 = .ok (.ifCond .eq 30, 3) := by decide +kernel
theorem dX1_lacks_7 : decode cX1_lacks 7 = .ok (.aload_n 0, 1) := by decide +kernel
theorem dX1_lacks_8 : decode cX1_lacks 8 = .ok (.getfield 24, 3) := by decide +kernel
theorem dX1_lacks_11 : decode cX1_lacks 11 = .ok (.iload_n 1, 1) := by decide +kernel
theorem dX1_lacks_12 : decode cX1_lacks 12 = .ok (.baload, 1) := by decide +kernel
theorem dX1_lacks_13 : decode cX1_lacks 13 = .ok (.ifCond .eq 21, 3) := by decide +kernel
theorem dX1_lacks_16 : decode cX1_lacks 16 = .ok (.aload_n 0, 1) := by decide +kernel
theorem dX1_lacks_17 : decode cX1_lacks 17 = .ok (.getfield 28, 3) := by decide +kernel
theorem dX1_lacks_20 : decode cX1_lacks 20 = .ok (.iload_n 1, 1) := by decide +kernel
theorem dX1_lacks_21 : decode cX1_lacks 21 = .ok (.laload, 1) := by decide +kernel
theorem dX1_lacks_22 : decode cX1_lacks 22 = .ok (.aload_n 0, 1) := by decide +kernel
theorem dX1_lacks_23 : decode cX1_lacks 23 = .ok (.getfield 12, 3) := by decide +kernel
theorem dX1_lacks_26 : decode cX1_lacks 26 = .ok (.iload_n 1, 1) := by decide +kernel
theorem dX1_lacks_27 : decode cX1_lacks 27 = .ok (.invokevirtual 47, 3) := by decide +kernel
theorem dX1_lacks_30 : decode cX1_lacks 30 = .ok (.lcmp, 1) := by decide +kernel
theorem dX1_lacks_31 : decode cX1_lacks 31 = .ok (.ifCond .ne 5, 3) := by decide +kernel
theorem dX1_lacks_34 : decode cX1_lacks 34 = .ok (.iconst 0, 1) := by decide +kernel
theorem dX1_lacks_35 : decode cX1_lacks 35 = .ok (.ireturn, 1) := by decide +kernel
theorem dX1_lacks_36 : decode cX1_lacks 36 = .ok (.iload_n 1, 1) := by decide +kernel
theorem dX1_lacks_37 : decode cX1_lacks 37 = .ok (.invokestatic 55, 3) := by decide +kernel
theorem dX1_lacks_40 : decode cX1_lacks 40 = .ok (.ifCond .ne 14, 3) := by decide +kernel
theorem dX1_lacks_43 : decode cX1_lacks 43 = .ok (.aload_n 0, 1) := by decide +kernel
theorem dX1_lacks_44 : decode cX1_lacks 44 = .ok (.getfield 24, 3) := by decide +kernel
theorem dX1_lacks_47 : decode cX1_lacks 47 = .ok (.iconst 2, 1) := by decide +kernel
theorem dX1_lacks_48 : decode cX1_lacks 48 = .ok (.iload_n 1, 1) := by decide +kernel
theorem dX1_lacks_49 : decode cX1_lacks 49 = .ok (.imul, 1) := by decide +kernel
theorem dX1_lacks_50 : decode cX1_lacks 50 = .ok (.baload, 1) := by decide +kernel
theorem dX1_lacks_51 : decode cX1_lacks 51 = .ok (.ifCond .ne 7, 3) := by decide +kernel
theorem dX1_lacks_54 : decode cX1_lacks 54 = .ok (.iconst 1, 1) := by decide +kernel
theorem dX1_lacks_55 : decode cX1_lacks 55 = .ok (.goto 4, 3) := by decide +kernel
theorem dX1_lacks_58 : decode cX1_lacks 58 = .ok (.iconst 0, 1) := by decide +kernel
theorem dX1_lacks_59 : decode cX1_lacks 59 = .ok (.ireturn, 1) := by decide +kernel
theorem dX1_lackAt_0 : decode cX1_lackAt 0 = .ok (.iload_n 1, 1) := by decide +kernel
theorem dX1_lackAt_1 : decode cX1_lackAt 1 = .ok (.ifCond .lt 20, 3) := by decide +kernel
theorem dX1_lackAt_4 : decode cX1_lackAt 4 = .ok (.iload_n 1, 1) := by decide +kernel
theorem dX1_lackAt_5 : decode cX1_lackAt 5 = .ok (.aload_n 0, 1) := by decide +kernel
theorem dX1_lackAt_6 : decode cX1_lackAt 6 = .ok (.getfield 36, 3) := by decide +kernel
theorem dX1_lackAt_9 : decode cX1_lackAt 9 = .ok (.if_icmp .ge 12, 3) := by decide +kernel
theorem dX1_lackAt_12 : decode cX1_lackAt 12 = .ok (.aload_n 0, 1) := by decide +kernel
theorem dX1_lackAt_13 : decode cX1_lackAt 13 = .ok (.getfield 32, 3) := by decide +kernel
theorem dX1_lackAt_16 : decode cX1_lackAt 16 = .ok (.iload_n 1, 1) := by decide +kernel
theorem dX1_lackAt_17 : decode cX1_lackAt 17 = .ok (.iaload, 1) := by decide +kernel
theorem dX1_lackAt_18 : decode cX1_lackAt 18 = .ok (.goto 4, 3) := by decide +kernel
theorem dX1_lackAt_21 : decode cX1_lackAt 21 = .ok (.iconst (-1), 1) := by decide +kernel
theorem dX1_lackAt_22 : decode cX1_lackAt 22 = .ok (.ireturn, 1) := by decide +kernel
theorem dX1_knownSize_0 : decode cX1_knownSize 0 = .ok (.iconst 0, 1) := by decide +kernel
theorem dX1_knownSize_1 : decode cX1_knownSize 1 = .ok (.istore_n 1, 1) := by decide +kernel
theorem dX1_knownSize_2 : decode cX1_knownSize 2 = .ok (.iconst 1, 1) := by decide +kernel
theorem dX1_knownSize_3 : decode cX1_knownSize 3 = .ok (.istore_n 2, 1) := by decide +kernel
theorem dX1_knownSize_4 : decode cX1_knownSize 4 = .ok (.iload_n 2, 1) := by decide +kernel
theorem dX1_knownSize_5 : decode cX1_knownSize 5 = .ok (.sipush 128, 3) := by decide +kernel
theorem dX1_knownSize_8 : decode cX1_knownSize 8 = .ok (.if_icmp .ge 21, 3) := by decide +kernel
theorem dX1_knownSize_11 : decode cX1_knownSize 11 = .ok (.aload_n 0, 1) := by decide +kernel
theorem dX1_knownSize_12 : decode cX1_knownSize 12 = .ok (.getfield 24, 3) := by decide +kernel
theorem dX1_knownSize_15 : decode cX1_knownSize 15 = .ok (.iload_n 2, 1) := by decide +kernel
theorem dX1_knownSize_16 : decode cX1_knownSize 16 = .ok (.baload, 1) := by decide +kernel
theorem dX1_knownSize_17 : decode cX1_knownSize 17 = .ok (.ifCond .eq 6, 3) := by decide +kernel
theorem dX1_knownSize_20 : decode cX1_knownSize 20 = .ok (.iinc 1 1, 3) := by decide +kernel
theorem dX1_knownSize_23 : decode cX1_knownSize 23 = .ok (.iinc 2 1, 3) := by decide +kernel
theorem dX1_knownSize_26 : decode cX1_knownSize 26 = .ok (.goto (-22), 3) := by decide +kernel
theorem dX1_knownSize_29 : decode cX1_knownSize 29 = .ok (.iload_n 1, 1) := by decide +kernel
theorem dX1_knownSize_30 : decode cX1_knownSize 30 = .ok (.ireturn, 1) := by decide +kernel
set_option maxRecDepth 20000 in
theorem ggX1_aim_X3_copyState : GoodIn wsX1_aim wsX3_copyState := goodIn_r _ [12, 13, 14, 15, 16, 5, 17, 18, 19, 20, 21, 22, 23, 24, 25, 26, 27, 28, 29, 30, 31, 32, 33, 34, 35, 36, 37, 38, 39, 40, 87, 88, 89, 90, 91] (by decide +kernel) (by decide +kernel)
set_option maxRecDepth 20000 in
theorem gX1_aim_X3_copyState : GoodIn wsX1_aim (wsV RX1 58 RX3 yX3_copyState wsX3_copyState) := goodIn_app (goodIn_of _ (by decide +kernel)) ggX1_aim_X3_copyState
set_option maxRecDepth 20000 in
theorem ggX1_aim_X1_forget : GoodIn wsX1_aim wsX1_forget := goodIn_r _ [45, 46, 79, 80, 81, 82, 83, 84, 85, 86] (by decide +kernel) (by decide +kernel)
set_option maxRecDepth 20000 in
theorem gX1_aim_X1_forget : GoodIn wsX1_aim (wsV RX1 70 RX1 yX1_forget wsX1_forget) := goodIn_app (goodIn_of _ (by decide +kernel)) ggX1_aim_X1_forget
set_option maxRecDepth 20000 in
theorem ggX1_aim_X4_digestOf : GoodIn wsX1_aim wsX4_digestOf := goodIn_r _ [50, 28, 51, 52, 22, 53, 87, 88] (by decide +kernel) (by decide +kernel)
set_option maxRecDepth 20000 in
theorem gX1_aim_X4_digestOf : GoodIn wsX1_aim (wsV RX1 47 RX4 yX4_digestOf wsX4_digestOf) := goodIn_app (goodIn_of _ (by decide +kernel)) ggX1_aim_X4_digestOf
set_option maxRecDepth 20000 in
theorem ggX1_aim_X1_learn : GoodIn wsX1_aim wsX1_learn := goodIn_r _ [57, 46, 58, 59, 60, 52, 22, 53, 61, 62, 63, 64, 29, 51, 33, 34, 35, 30, 31, 32, 65, 25, 26, 27, 28, 36, 37, 38, 39, 40, 79, 80, 81, 82, 83, 84, 85, 86, 87, 88] (by decide +kernel) (by decide +kernel)
set_option maxRecDepth 20000 in
theorem gX1_aim_X1_learn : GoodIn wsX1_aim (wsV RX1 74 RX1 yX1_learn wsX1_learn) := goodIn_app (goodIn_of _ (by decide +kernel)) ggX1_aim_X1_learn
set_option maxRecDepth 20000 in
theorem ggX1_aim_X1_findLacks : GoodIn wsX1_aim wsX1_findLacks := goodIn_r _ [69, 70, 71, 72, 73, 74, 44, 75, 46, 58, 59, 60, 52, 22, 53, 47, 48, 49, 50, 28, 51, 76, 77, 78, 79, 80, 81, 82, 83, 84, 85, 86, 87, 88] (by decide +kernel) (by decide +kernel)
set_option maxRecDepth 20000 in
theorem gX1_aim_X1_findLacks : GoodIn wsX1_aim (wsV RX1 78 RX1 yX1_findLacks wsX1_findLacks) := goodIn_app (goodIn_of _ (by decide +kernel)) ggX1_aim_X1_findLacks
theorem dX1_aim_0 : decode cX1_aim 0 = .ok (.aload_n 0, 1) := by decide +kernel
theorem dX1_aim_1 : decode cX1_aim 1 = .ok (.iload_n 1, 1) := by decide +kernel
theorem dX1_aim_2 : decode cX1_aim 2 = .ok (.putfield 40, 3) := by decide +kernel
theorem dX1_aim_5 : decode cX1_aim 5 = .ok (.aload_n 2, 1) := by decide +kernel
theorem dX1_aim_6 : decode cX1_aim 6 = .ok (.iload_n 1, 1) := by decide +kernel
theorem dX1_aim_7 : decode cX1_aim 7 = .ok (.aload_n 0, 1) := by decide +kernel
theorem dX1_aim_8 : decode cX1_aim 8 = .ok (.getfield 18, 3) := by decide +kernel
theorem dX1_aim_11 : decode cX1_aim 11 = .ok (.invokevirtual 58, 3) := by decide +kernel
theorem dX1_aim_14 : decode cX1_aim 14 = .ok (.aload_n 2, 1) := by decide +kernel
theorem dX1_aim_15 : decode cX1_aim 15 = .ok (.iload_n 1, 1) := by decide +kernel
theorem dX1_aim_16 : decode cX1_aim 16 = .ok (.iconst 1, 1) := by decide +kernel
theorem dX1_aim_17 : decode cX1_aim 17 = .ok (.isub, 1) := by decide +kernel
theorem dX1_aim_18 : decode cX1_aim 18 = .ok (.iconst 0, 1) := by decide +kernel
theorem dX1_aim_19 : decode cX1_aim 19 = .ok (.invokestatic 64, 3) := by decide +kernel
theorem dX1_aim_22 : decode cX1_aim 22 = .ok (.aload_n 0, 1) := by decide +kernel
theorem dX1_aim_23 : decode cX1_aim 23 = .ok (.getfield 21, 3) := by decide +kernel
theorem dX1_aim_26 : decode cX1_aim 26 = .ok (.invokevirtual 58, 3) := by decide +kernel
theorem dX1_aim_29 : decode cX1_aim 29 = .ok (.aload_n 0, 1) := by decide +kernel
theorem dX1_aim_30 : decode cX1_aim 30 = .ok (.iconst 1, 1) := by decide +kernel
theorem dX1_aim_31 : decode cX1_aim 31 = .ok (.invokevirtual 70, 3) := by decide +kernel
theorem dX1_aim_34 : decode cX1_aim 34 = .ok (.aload_n 0, 1) := by decide +kernel
theorem dX1_aim_35 : decode cX1_aim 35 = .ok (.iconst 1, 1) := by decide +kernel
theorem dX1_aim_36 : decode cX1_aim 36 = .ok (.aload_n 0, 1) := by decide +kernel
theorem dX1_aim_37 : decode cX1_aim 37 = .ok (.getfield 18, 3) := by decide +kernel
theorem dX1_aim_40 : decode cX1_aim 40 = .ok (.iconst 1, 1) := by decide +kernel
theorem dX1_aim_41 : decode cX1_aim 41 = .ok (.invokevirtual 47, 3) := by decide +kernel
theorem dX1_aim_44 : decode cX1_aim 44 = .ok (.invokevirtual 74, 3) := by decide +kernel
theorem dX1_aim_47 : decode cX1_aim 47 = .ok (.aload_n 0, 1) := by decide +kernel
theorem dX1_aim_48 : decode cX1_aim 48 = .ok (.invokevirtual 78, 3) := by decide +kernel
theorem dX1_aim_51 : decode cX1_aim 51 = .ok (.return_, 1) := by decide +kernel
set_option maxRecDepth 20000 in
theorem ggX1_forgetBelowRoot_X1_forget : GoodIn wsX1_forgetBelowRoot wsX1_forget := goodIn_r _ [5, 6, 32, 33, 34, 35, 36, 37, 38, 39] (by decide +kernel) (by decide +kernel)
set_option maxRecDepth 20000 in
theorem gX1_forgetBelowRoot_X1_forget : GoodIn wsX1_forgetBelowRoot (wsV RX1 70 RX1 yX1_forget wsX1_forget) := goodIn_app (goodIn_of _ (by decide +kernel)) ggX1_forgetBelowRoot_X1_forget
set_option maxRecDepth 20000 in
theorem ggX1_forgetBelowRoot_X1_findLacks : GoodIn wsX1_forgetBelowRoot wsX1_findLacks := goodIn_r _ [10, 11, 12, 13, 14, 15, 4, 16, 6, 17, 18, 19, 20, 21, 22, 23, 24, 25, 26, 27, 28, 29, 30, 31, 32, 33, 34, 35, 36, 37, 38, 39, 40, 41] (by decide +kernel) (by decide +kernel)
set_option maxRecDepth 20000 in
theorem gX1_forgetBelowRoot_X1_findLacks : GoodIn wsX1_forgetBelowRoot (wsV RX1 78 RX1 yX1_findLacks wsX1_findLacks) := goodIn_app (goodIn_of _ (by decide +kernel)) ggX1_forgetBelowRoot_X1_findLacks
theorem dX1_forgetBelowRoot_0 : decode cX1_forgetBelowRoot 0 = .ok (.aload_n 0, 1) := by decide +kernel
theorem dX1_forgetBelowRoot_1 : decode cX1_forgetBelowRoot 1 = .ok (.iconst 2, 1) := by decide +kernel
theorem dX1_forgetBelowRoot_2 : decode cX1_forgetBelowRoot 2 = .ok (.invokevirtual 70, 3) := by decide +kernel
theorem dX1_forgetBelowRoot_5 : decode cX1_forgetBelowRoot 5 = .ok (.aload_n 0, 1) := by decide +kernel
theorem dX1_forgetBelowRoot_6 : decode cX1_forgetBelowRoot 6 = .ok (.invokevirtual 78, 3) := by decide +kernel
theorem dX1_forgetBelowRoot_9 : decode cX1_forgetBelowRoot 9 = .ok (.return_, 1) := by decide +kernel
set_option maxRecDepth 20000 in
theorem ggX1_spoil_X4_put : GoodIn wsX1_spoil wsX4_put := goodIn_r _ [6, 7, 8, 9, 5, 10, 11, 12, 13, 14, 15, 16, 17, 18, 19, 20, 21, 22, 23, 24, 25, 26, 59, 60] (by decide +kernel) (by decide +kernel)
set_option maxRecDepth 20000 in
theorem gX1_spoil_X4_put : GoodIn wsX1_spoil (wsV RX1 81 RX4 yX4_put wsX4_put) := goodIn_app (goodIn_of _ (by decide +kernel)) ggX1_spoil_X4_put
set_option maxRecDepth 20000 in
theorem ggX1_spoil_X1_findLacks : GoodIn wsX1_spoil wsX1_findLacks := goodIn_r _ [31, 32, 33, 34, 35, 36, 30, 37, 38, 39, 1, 40, 41, 5, 42, 43, 44, 45, 46, 15, 47, 48, 49, 50, 51, 52, 53, 54, 55, 56, 57, 58, 59, 60] (by decide +kernel) (by decide +kernel)
set_option maxRecDepth 20000 in
theorem gX1_spoil_X1_findLacks : GoodIn wsX1_spoil (wsV RX1 78 RX1 yX1_findLacks wsX1_findLacks) := goodIn_app (goodIn_of _ (by decide +kernel)) ggX1_spoil_X1_findLacks
theorem dX1_spoil_0 : decode cX1_spoil 0 = .ok (.aload_n 0, 1) := by decide +kernel
theorem dX1_spoil_1 : decode cX1_spoil 1 = .ok (.getfield 12, 3) := by decide +kernel
theorem dX1_spoil_4 : decode cX1_spoil 4 = .ok (.iload_n 1, 1) := by decide +kernel
theorem dX1_spoil_5 : decode cX1_spoil 5 = .ok (.lload_n 2, 1) := by decide +kernel
theorem dX1_spoil_6 : decode cX1_spoil 6 = .ok (.invokevirtual 81, 3) := by decide +kernel
theorem dX1_spoil_9 : decode cX1_spoil 9 = .ok (.aload_n 0, 1) := by decide +kernel
theorem dX1_spoil_10 : decode cX1_spoil 10 = .ok (.invokevirtual 78, 3) := by decide +kernel
theorem dX1_spoil_13 : decode cX1_spoil 13 = .ok (.return_, 1) := by decide +kernel
set_option maxRecDepth 20000 in
theorem ggX1_judge_X4_isNode : GoodIn wsX1_judge wsX4_isNode := goodIn_r _ [6] (by decide +kernel) (by decide +kernel)
set_option maxRecDepth 20000 in
theorem gX1_judge_X4_isNode : GoodIn wsX1_judge (va_wsS RX1 51 yX4_isNode wsX4_isNode) := goodIn_app (goodIn_of _ (by decide +kernel)) ggX1_judge_X4_isNode
set_option maxRecDepth 20000 in
theorem ggX1_judge_X2_ownDigest : GoodIn wsX1_judge wsX2_ownDigest := goodIn_r _ [11, 12, 13, 14, 15, 16, 17, 18, 5, 19, 20, 21, 22, 23, 24, 25, 26, 27, 4, 6, 28, 29, 30, 31, 32, 33, 42, 43] (by decide +kernel) (by decide +kernel)
set_option maxRecDepth 20000 in
theorem gX1_judge_X2_ownDigest : GoodIn wsX1_judge (wsV RX1 89 RX2 yX2_ownDigest wsX2_ownDigest) := goodIn_app (goodIn_of _ (by decide +kernel)) ggX1_judge_X2_ownDigest
theorem dX1_judge_0 : decode cX1_judge 0 = .ok (.aload_n 1, 1) := by decide +kernel
theorem dX1_judge_1 : decode cX1_judge 1 = .ok (.getfield 84, 3) := by decide +kernel
theorem dX1_judge_4 : decode cX1_judge 4 = .ok (.invokestatic 51, 3) := by decide +kernel
theorem dX1_judge_7 : decode cX1_judge 7 = .ok (.ifCond .eq 24, 3) := by decide +kernel
theorem dX1_judge_10 : decode cX1_judge 10 = .ok (.aload_n 0, 1) := by decide +kernel
theorem dX1_judge_11 : decode cX1_judge 11 = .ok (.getfield 28, 3) := by decide +kernel
theorem dX1_judge_14 : decode cX1_judge 14 = .ok (.aload_n 1, 1) := by decide +kernel
theorem dX1_judge_15 : decode cX1_judge 15 = .ok (.getfield 84, 3) := by decide +kernel
theorem dX1_judge_18 : decode cX1_judge 18 = .ok (.laload, 1) := by decide +kernel
theorem dX1_judge_19 : decode cX1_judge 19 = .ok (.aload_n 1, 1) := by decide +kernel
theorem dX1_judge_20 : decode cX1_judge 20 = .ok (.invokevirtual 89, 3) := by decide +kernel
theorem dX1_judge_23 : decode cX1_judge 23 = .ok (.lcmp, 1) := by decide +kernel
theorem dX1_judge_24 : decode cX1_judge 24 = .ok (.ifCond .ne 7, 3) := by decide +kernel
theorem dX1_judge_27 : decode cX1_judge 27 = .ok (.iconst 1, 1) := by decide +kernel
theorem dX1_judge_28 : decode cX1_judge 28 = .ok (.goto 4, 3) := by decide +kernel
theorem dX1_judge_31 : decode cX1_judge 31 = .ok (.iconst 0, 1) := by decide +kernel
theorem dX1_judge_32 : decode cX1_judge 32 = .ok (.ireturn, 1) := by decide +kernel
set_option maxRecDepth 20000 in
theorem ggX1_take_X1_learn : GoodIn wsX1_take wsX1_learn := goodIn_r _ [11, 12, 13, 5, 14, 15, 16, 17, 18, 19, 20, 21, 22, 23, 24, 25, 26, 27, 28, 29, 30, 31, 32, 33, 34, 35, 36, 37, 38, 39, 67, 68, 69, 70, 71, 72, 73, 74, 75, 76] (by decide +kernel) (by decide +kernel)
set_option maxRecDepth 20000 in
theorem gX1_take_X1_learn : GoodIn wsX1_take (wsV RX1 74 RX1 yX1_learn wsX1_learn) := goodIn_app (goodIn_of _ (by decide +kernel)) ggX1_take_X1_learn
set_option maxRecDepth 20000 in
theorem ggX1_take_X4_copyBelow : GoodIn wsX1_take wsX4_copyBelow := goodIn_r _ [43, 22, 23, 15, 16, 17, 24, 25, 26, 27, 28, 29, 30, 31, 32, 33, 34, 35, 36, 37, 38, 39, 75, 76] (by decide +kernel) (by decide +kernel)
set_option maxRecDepth 20000 in
theorem gX1_take_X4_copyBelow : GoodIn wsX1_take (wsV RX1 107 RX4 yX4_copyBelow wsX4_copyBelow) := goodIn_app (goodIn_of _ (by decide +kernel)) ggX1_take_X4_copyBelow
set_option maxRecDepth 20000 in
theorem ggX1_take_X1_findLacks : GoodIn wsX1_take wsX1_findLacks := goodIn_r _ [47, 48, 49, 50, 51, 52, 10, 53, 12, 13, 5, 14, 15, 16, 17, 54, 55, 56, 57, 34, 23, 58, 59, 60, 67, 68, 69, 70, 71, 72, 73, 74, 75, 76] (by decide +kernel) (by decide +kernel)
set_option maxRecDepth 20000 in
theorem gX1_take_X1_findLacks : GoodIn wsX1_take (wsV RX1 78 RX1 yX1_findLacks wsX1_findLacks) := goodIn_app (goodIn_of _ (by decide +kernel)) ggX1_take_X1_findLacks
theorem dX1_take_0 : decode cX1_take 0 = .ok (.aload_n 1, 1) := by decide +kernel
theorem dX1_take_1 : decode cX1_take 1 = .ok (.getfield 93, 3) := by decide +kernel
theorem dX1_take_4 : decode cX1_take 4 = .ok (.ifCond .eq 36, 3) := by decide +kernel
theorem dX1_take_7 : decode cX1_take 7 = .ok (.aload_n 0, 1) := by decide +kernel
theorem dX1_take_8 : decode cX1_take 8 = .ok (.iconst 2, 1) := by decide +kernel
theorem dX1_take_9 : decode cX1_take 9 = .ok (.aload_n 1, 1) := by decide +kernel
theorem dX1_take_10 : decode cX1_take 10 = .ok (.getfield 84, 3) := by decide +kernel
theorem dX1_take_13 : decode cX1_take 13 = .ok (.imul, 1) := by decide +kernel
theorem dX1_take_14 : decode cX1_take 14 = .ok (.aload_n 1, 1) := by decide +kernel
theorem dX1_take_15 : decode cX1_take 15 = .ok (.getfield 97, 3) := by decide +kernel
theorem dX1_take_18 : decode cX1_take 18 = .ok (.invokevirtual 74, 3) := by decide +kernel
theorem dX1_take_21 : decode cX1_take 21 = .ok (.aload_n 0, 1) := by decide +kernel
theorem dX1_take_22 : decode cX1_take 22 = .ok (.iconst 2, 1) := by decide +kernel
theorem dX1_take_23 : decode cX1_take 23 = .ok (.aload_n 1, 1) := by decide +kernel
theorem dX1_take_24 : decode cX1_take 24 = .ok (.getfield 84, 3) := by decide +kernel
theorem dX1_take_27 : decode cX1_take 27 = .ok (.imul, 1) := by decide +kernel
theorem dX1_take_28 : decode cX1_take 28 = .ok (.iconst 1, 1) := by decide +kernel
theorem dX1_take_29 : decode cX1_take 29 = .ok (.iadd, 1) := by decide +kernel
theorem dX1_take_30 : decode cX1_take 30 = .ok (.aload_n 1, 1) := by decide +kernel
theorem dX1_take_31 : decode cX1_take 31 = .ok (.getfield 101, 3) := by decide +kernel
theorem dX1_take_34 : decode cX1_take 34 = .ok (.invokevirtual 74, 3) := by decide +kernel
theorem dX1_take_37 : decode cX1_take 37 = .ok (.goto 18, 3) := by decide +kernel
theorem dX1_take_40 : decode cX1_take 40 = .ok (.aload_n 0, 1) := by decide +kernel
theorem dX1_take_41 : decode cX1_take 41 = .ok (.getfield 12, 3) := by decide +kernel
theorem dX1_take_44 : decode cX1_take 44 = .ok (.aload_n 1, 1) := by decide +kernel
theorem dX1_take_45 : decode cX1_take 45 = .ok (.getfield 84, 3) := by decide +kernel
theorem dX1_take_48 : decode cX1_take 48 = .ok (.aload_n 1, 1) := by decide +kernel
theorem dX1_take_49 : decode cX1_take 49 = .ok (.getfield 104, 3) := by decide +kernel
theorem dX1_take_52 : decode cX1_take 52 = .ok (.invokevirtual 107, 3) := by decide +kernel
theorem dX1_take_55 : decode cX1_take 55 = .ok (.aload_n 0, 1) := by decide +kernel
theorem dX1_take_56 : decode cX1_take 56 = .ok (.invokevirtual 78, 3) := by decide +kernel
theorem dX1_take_59 : decode cX1_take 59 = .ok (.return_, 1) := by decide +kernel
theorem dX1_forget_0 : decode cX1_forget 0 = .ok (.iload_n 1, 1) := by decide +kernel
theorem dX1_forget_1 : decode cX1_forget 1 = .ok (.istore_n 2, 1) := by decide +kernel
theorem dX1_forget_2 : decode cX1_forget 2 = .ok (.iload_n 2, 1) := by decide +kernel
theorem dX1_forget_3 : decode cX1_forget 3 = .ok (.sipush 128, 3) := by decide +kernel
theorem dX1_forget_6 : decode cX1_forget 6 = .ok (.if_icmp .ge 16, 3) := by decide +kernel
theorem dX1_forget_9 : decode cX1_forget 9 = .ok (.aload_n 0, 1) := by decide +kernel
theorem dX1_forget_10 : decode cX1_forget 10 = .ok (.getfield 24, 3) := by decide +kernel
theorem dX1_forget_13 : decode cX1_forget 13 = .ok (.iload_n 2, 1) := by decide +kernel
theorem dX1_forget_14 : decode cX1_forget 14 = .ok (.iconst 0, 1) := by decide +kernel
theorem dX1_forget_15 : decode cX1_forget 15 = .ok (.bastore, 1) := by decide +kernel
theorem dX1_forget_16 : decode cX1_forget 16 = .ok (.iinc 2 1, 3) := by decide +kernel
theorem dX1_forget_19 : decode cX1_forget 19 = .ok (.goto (-17), 3) := by decide +kernel
theorem dX1_forget_22 : decode cX1_forget 22 = .ok (.return_, 1) := by decide +kernel
set_option maxRecDepth 20000 in
theorem ggX1_learn_X4_isNode : GoodIn wsX1_learn wsX4_isNode := goodIn_r _ [7] (by decide +kernel) (by decide +kernel)
set_option maxRecDepth 20000 in
theorem gX1_learn_X4_isNode : GoodIn wsX1_learn (va_wsS RX1 51 yX4_isNode wsX4_isNode) := goodIn_app (goodIn_of _ (by decide +kernel)) ggX1_learn_X4_isNode
set_option maxRecDepth 20000 in
theorem ggX1_learn_X4_emptyBelow : GoodIn wsX1_learn wsX4_emptyBelow := goodIn_r _ [11, 12, 13, 5, 6, 7, 14, 15, 16, 17, 18, 19, 20, 21, 22, 23, 24, 25, 26, 27, 28, 29, 38, 39] (by decide +kernel) (by decide +kernel)
set_option maxRecDepth 20000 in
theorem gX1_learn_X4_emptyBelow : GoodIn wsX1_learn (wsV RX1 110 RX4 yX4_emptyBelow wsX4_emptyBelow) := goodIn_app (goodIn_of _ (by decide +kernel)) ggX1_learn_X4_emptyBelow
theorem dX1_learn_0 : decode cX1_learn 0 = .ok (.iload_n 1, 1) := by decide +kernel
theorem dX1_learn_1 : decode cX1_learn 1 = .ok (.invokestatic 51, 3) := by decide +kernel
theorem dX1_learn_4 : decode cX1_learn 4 = .ok (.ifCond .ne 4, 3) := by decide +kernel
theorem dX1_learn_7 : decode cX1_learn 7 = .ok (.return_, 1) := by decide +kernel
theorem dX1_learn_8 : decode cX1_learn 8 = .ok (.aload_n 0, 1) := by decide +kernel
theorem dX1_learn_9 : decode cX1_learn 9 = .ok (.getfield 24, 3) := by decide +kernel
theorem dX1_learn_12 : decode cX1_learn 12 = .ok (.iload_n 1, 1) := by decide +kernel
theorem dX1_learn_13 : decode cX1_learn 13 = .ok (.iconst 1, 1) := by decide +kernel
theorem dX1_learn_14 : decode cX1_learn 14 = .ok (.bastore, 1) := by decide +kernel
theorem dX1_learn_15 : decode cX1_learn 15 = .ok (.aload_n 0, 1) := by decide +kernel
theorem dX1_learn_16 : decode cX1_learn 16 = .ok (.getfield 28, 3) := by decide +kernel
theorem dX1_learn_19 : decode cX1_learn 19 = .ok (.iload_n 1, 1) := by decide +kernel
theorem dX1_learn_20 : decode cX1_learn 20 = .ok (.lload_n 2, 1) := by decide +kernel
theorem dX1_learn_21 : decode cX1_learn 21 = .ok (.lastore, 1) := by decide +kernel
theorem dX1_learn_22 : decode cX1_learn 22 = .ok (.lload_n 2, 1) := by decide +kernel
theorem dX1_learn_23 : decode cX1_learn 23 = .ok (.lconst 0, 1) := by decide +kernel
theorem dX1_learn_24 : decode cX1_learn 24 = .ok (.lcmp, 1) := by decide +kernel
theorem dX1_learn_25 : decode cX1_learn 25 = .ok (.ifCond .ne 11, 3) := by decide +kernel
theorem dX1_learn_28 : decode cX1_learn 28 = .ok (.aload_n 0, 1) := by decide +kernel
theorem dX1_learn_29 : decode cX1_learn 29 = .ok (.getfield 12, 3) := by decide +kernel
theorem dX1_learn_32 : decode cX1_learn 32 = .ok (.iload_n 1, 1) := by decide +kernel
theorem dX1_learn_33 : decode cX1_learn 33 = .ok (.invokevirtual 110, 3) := by decide +kernel
theorem dX1_learn_36 : decode cX1_learn 36 = .ok (.return_, 1) := by decide +kernel
set_option maxRecDepth 20000 in
theorem ggX1_findLacks_X1_lacks : GoodIn wsX1_findLacks wsX1_lacks := goodIn_r _ [7, 8, 9, 10, 11, 12, 13, 14, 15, 16, 17, 18, 19, 20, 21, 22, 23, 24, 25, 26, 27, 28, 29, 30, 31, 32, 33] (by decide +kernel) (by decide +kernel)
set_option maxRecDepth 20000 in
theorem gX1_findLacks_X1_lacks : GoodIn wsX1_findLacks (wsV RX1 113 RX1 yX1_lacks wsX1_lacks) := goodIn_app (goodIn_of _ (by decide +kernel)) ggX1_findLacks_X1_lacks
theorem dX1_findLacks_0 : decode cX1_findLacks 0 = .ok (.aload_n 0, 1) := by decide +kernel
theorem dX1_findLacks_1 : decode cX1_findLacks 1 = .ok (.iconst 0, 1) := by decide +kernel
theorem dX1_findLacks_2 : decode cX1_findLacks 2 = .ok (.putfield 36, 3) := by decide +kernel
theorem dX1_findLacks_5 : decode cX1_findLacks 5 = .ok (.iconst 1, 1) := by decide +kernel
theorem dX1_findLacks_6 : decode cX1_findLacks 6 = .ok (.istore_n 1, 1) := by decide +kernel
theorem dX1_findLacks_7 : decode cX1_findLacks 7 = .ok (.iload_n 1, 1) := by decide +kernel
theorem dX1_findLacks_8 : decode cX1_findLacks 8 = .ok (.sipush 128, 3) := by decide +kernel
theorem dX1_findLacks_11 : decode cX1_findLacks 11 = .ok (.if_icmp .ge 37, 3) := by decide +kernel
theorem dX1_findLacks_14 : decode cX1_findLacks 14 = .ok (.aload_n 0, 1) := by decide +kernel
theorem dX1_findLacks_15 : decode cX1_findLacks 15 = .ok (.iload_n 1, 1) := by decide +kernel
theorem dX1_findLacks_16 : decode cX1_findLacks 16 = .ok (.invokevirtual 113, 3) := by decide +kernel
theorem dX1_findLacks_19 : decode cX1_findLacks 19 = .ok (.ifCond .eq 23, 3) := by decide +kernel
theorem dX1_findLacks_22 : decode cX1_findLacks 22 = .ok (.aload_n 0, 1) := by decide +kernel
theorem dX1_findLacks_23 : decode cX1_findLacks 23 = .ok (.getfield 32, 3) := by decide +kernel
theorem dX1_findLacks_26 : decode cX1_findLacks 26 = .ok (.aload_n 0, 1) := by decide +kernel
theorem dX1_findLacks_27 : decode cX1_findLacks 27 = .ok (.getfield 36, 3) := by decide +kernel
theorem dX1_findLacks_30 : decode cX1_findLacks 30 = .ok (.iload_n 1, 1) := by decide +kernel
theorem dX1_findLacks_31 : decode cX1_findLacks 31 = .ok (.iastore, 1) := by decide +kernel
theorem dX1_findLacks_32 : decode cX1_findLacks 32 = .ok (.aload_n 0, 1) := by decide +kernel
theorem dX1_findLacks_33 : decode cX1_findLacks 33 = .ok (.dup, 1) := by decide +kernel
theorem dX1_findLacks_34 : decode cX1_findLacks 34 = .ok (.getfield 36, 3) := by decide +kernel
theorem dX1_findLacks_37 : decode cX1_findLacks 37 = .ok (.iconst 1, 1) := by decide +kernel
theorem dX1_findLacks_38 : decode cX1_findLacks 38 = .ok (.iadd, 1) := by decide +kernel
theorem dX1_findLacks_39 : decode cX1_findLacks 39 = .ok (.putfield 36, 3) := by decide +kernel
theorem dX1_findLacks_42 : decode cX1_findLacks 42 = .ok (.iinc 1 1, 3) := by decide +kernel
theorem dX1_findLacks_45 : decode cX1_findLacks 45 = .ok (.goto (-38), 3) := by decide +kernel
theorem dX1_findLacks_48 : decode cX1_findLacks 48 = .ok (.return_, 1) := by decide +kernel
set_option maxRecDepth 20000 in
theorem ggX2_init_X4_init : GoodIn wsX2_init wsX4_init := goodIn_r _ [14, 15, 2, 3, 16, 17, 18, 19, 20] (by decide +kernel) (by decide +kernel)
set_option maxRecDepth 20000 in
theorem gX2_init_X4_init_n9 : GoodIn wsX2_init (wsX4_init) := ggX2_init_X4_init
theorem dX2_init_0 : decode cX2_init 0 = .ok (.aload_n 0, 1) := by decide +kernel
theorem dX2_init_1 : decode cX2_init 1 = .ok (.invokespecial 1, 3) := by decide +kernel
theorem dX2_init_4 : decode cX2_init 4 = .ok (.aload_n 0, 1) := by decide +kernel
theorem dX2_init_5 : decode cX2_init 5 = .ok (.new 7, 3) := by decide +kernel
theorem dX2_init_8 : decode cX2_init 8 = .ok (.dup, 1) := by decide +kernel
theorem dX2_init_9 : decode cX2_init 9 = .ok (.invokespecial 9, 3) := by decide +kernel
theorem dX2_init_12 : decode cX2_init 12 = .ok (.putfield 10, 3) := by decide +kernel
theorem dX2_init_15 : decode cX2_init 15 = .ok (.aload_n 0, 1) := by decide +kernel
theorem dX2_init_16 : decode cX2_init 16 = .ok (.iconst 1, 1) := by decide +kernel
theorem dX2_init_17 : decode cX2_init 17 = .ok (.putfield 16, 3) := by decide +kernel
theorem dX2_init_20 : decode cX2_init 20 = .ok (.aload_n 0, 1) := by decide +kernel
theorem dX2_init_21 : decode cX2_init 21 = .ok (.iconst 0, 1) := by decide +kernel
theorem dX2_init_22 : decode cX2_init 22 = .ok (.putfield 20, 3) := by decide +kernel
theorem dX2_init_25 : decode cX2_init 25 = .ok (.aload_n 0, 1) := by decide +kernel
theorem dX2_init_26 : decode cX2_init 26 = .ok (.lconst 0, 1) := by decide +kernel
theorem dX2_init_27 : decode cX2_init 27 = .ok (.putfield 24, 3) := by decide +kernel
theorem dX2_init_30 : decode cX2_init 30 = .ok (.aload_n 0, 1) := by decide +kernel
theorem dX2_init_31 : decode cX2_init 31 = .ok (.lconst 0, 1) := by decide +kernel
theorem dX2_init_32 : decode cX2_init 32 = .ok (.putfield 28, 3) := by decide +kernel
theorem dX2_init_35 : decode cX2_init 35 = .ok (.aload_n 0, 1) := by decide +kernel
theorem dX2_init_36 : decode cX2_init 36 = .ok (.iconst 0, 1) := by decide +kernel
theorem dX2_init_37 : decode cX2_init 37 = .ok (.putfield 31, 3) := by decide +kernel
theorem dX2_init_40 : decode cX2_init 40 = .ok (.return_, 1) := by decide +kernel
set_option maxRecDepth 20000 in
theorem ggX2_fillPair_X4_digestOf : GoodIn wsX2_fillPair wsX4_digestOf := goodIn_r _ [10, 11, 12, 13, 9, 14, 21, 22] (by decide +kernel) (by decide +kernel)
set_option maxRecDepth 20000 in
theorem gX2_fillPair_X4_digestOf : GoodIn wsX2_fillPair (wsV RX2 34 RX4 yX4_digestOf wsX4_digestOf) := goodIn_app (goodIn_of _ (by decide +kernel)) ggX2_fillPair_X4_digestOf
theorem dX2_fillPair_0 : decode cX2_fillPair 0 = .ok (.aload_n 0, 1) := by decide +kernel
theorem dX2_fillPair_1 : decode cX2_fillPair 1 = .ok (.iload_n 3, 1) := by decide +kernel
theorem dX2_fillPair_2 : decode cX2_fillPair 2 = .ok (.putfield 16, 3) := by decide +kernel
theorem dX2_fillPair_5 : decode cX2_fillPair 5 = .ok (.aload_n 0, 1) := by decide +kernel
theorem dX2_fillPair_6 : decode cX2_fillPair 6 = .ok (.iconst 1, 1) := by decide +kernel
theorem dX2_fillPair_7 : decode cX2_fillPair 7 = .ok (.putfield 20, 3) := by decide +kernel
theorem dX2_fillPair_10 : decode cX2_fillPair 10 = .ok (.aload_n 2, 1) := by decide +kernel
theorem dX2_fillPair_11 : decode cX2_fillPair 11 = .ok (.iconst 2, 1) := by decide +kernel
theorem dX2_fillPair_12 : decode cX2_fillPair 12 = .ok (.aload_n 0, 1) := by decide +kernel
theorem dX2_fillPair_13 : decode cX2_fillPair 13 = .ok (.getfield 16, 3) := by decide +kernel
theorem dX2_fillPair_16 : decode cX2_fillPair 16 = .ok (.imul, 1) := by decide +kernel
theorem dX2_fillPair_17 : decode cX2_fillPair 17 = .ok (.invokevirtual 34, 3) := by decide +kernel
theorem dX2_fillPair_20 : decode cX2_fillPair 20 = .ok (.lstore 4, 2) := by decide +kernel
theorem dX2_fillPair_22 : decode cX2_fillPair 22 = .ok (.aload_n 2, 1) := by decide +kernel
theorem dX2_fillPair_23 : decode cX2_fillPair 23 = .ok (.iconst 2, 1) := by decide +kernel
theorem dX2_fillPair_24 : decode cX2_fillPair 24 = .ok (.aload_n 0, 1) := by decide +kernel
theorem dX2_fillPair_25 : decode cX2_fillPair 25 = .ok (.getfield 16, 3) := by decide +kernel
theorem dX2_fillPair_28 : decode cX2_fillPair 28 = .ok (.imul, 1) := by decide +kernel
theorem dX2_fillPair_29 : decode cX2_fillPair 29 = .ok (.iconst 1, 1) := by decide +kernel
theorem dX2_fillPair_30 : decode cX2_fillPair 30 = .ok (.iadd, 1) := by decide +kernel
theorem dX2_fillPair_31 : decode cX2_fillPair 31 = .ok (.invokevirtual 34, 3) := by decide +kernel
theorem dX2_fillPair_34 : decode cX2_fillPair 34 = .ok (.lstore 6, 2) := by decide +kernel
theorem dX2_fillPair_36 : decode cX2_fillPair 36 = .ok (.iload_n 1, 1) := by decide +kernel
theorem dX2_fillPair_37 : decode cX2_fillPair 37 = .ok (.iconst 2, 1) := by decide +kernel
theorem dX2_fillPair_38 : decode cX2_fillPair 38 = .ok (.if_icmp .ne 7, 3) := by decide +kernel
theorem dX2_fillPair_41 : decode cX2_fillPair 41 = .ok (.iconst 1, 1) := by decide +kernel
theorem dX2_fillPair_42 : decode cX2_fillPair 42 = .ok (.goto 4, 3) := by decide +kernel
theorem dX2_fillPair_45 : decode cX2_fillPair 45 = .ok (.iconst 0, 1) := by decide +kernel
theorem dX2_fillPair_46 : decode cX2_fillPair 46 = .ok (.istore 8, 2) := by decide +kernel
theorem dX2_fillPair_48 : decode cX2_fillPair 48 = .ok (.aload_n 0, 1) := by decide +kernel
theorem dX2_fillPair_49 : decode cX2_fillPair 49 = .ok (.iload 8, 2) := by decide +kernel
theorem dX2_fillPair_51 : decode cX2_fillPair 51 = .ok (.ifCond .eq 8, 3) := by decide +kernel
theorem dX2_fillPair_54 : decode cX2_fillPair 54 = .ok (.lload 6, 2) := by decide +kernel
theorem dX2_fillPair_56 : decode cX2_fillPair 56 = .ok (.goto 5, 3) := by decide +kernel
theorem dX2_fillPair_59 : decode cX2_fillPair 59 = .ok (.lload 4, 2) := by decide +kernel
theorem dX2_fillPair_61 : decode cX2_fillPair 61 = .ok (.putfield 24, 3) := by decide +kernel
theorem dX2_fillPair_64 : decode cX2_fillPair 64 = .ok (.aload_n 0, 1) := by decide +kernel
theorem dX2_fillPair_65 : decode cX2_fillPair 65 = .ok (.iload 8, 2) := by decide +kernel
theorem dX2_fillPair_67 : decode cX2_fillPair 67 = .ok (.ifCond .eq 8, 3) := by decide +kernel
theorem dX2_fillPair_70 : decode cX2_fillPair 70 = .ok (.lload 4, 2) := by decide +kernel
theorem dX2_fillPair_72 : decode cX2_fillPair 72 = .ok (.goto 5, 3) := by decide +kernel
theorem dX2_fillPair_75 : decode cX2_fillPair 75 = .ok (.lload 6, 2) := by decide +kernel
theorem dX2_fillPair_77 : decode cX2_fillPair 77 = .ok (.putfield 28, 3) := by decide +kernel
theorem dX2_fillPair_80 : decode cX2_fillPair 80 = .ok (.iload_n 1, 1) := by decide +kernel
theorem dX2_fillPair_81 : decode cX2_fillPair 81 = .ok (.iconst 1, 1) := by decide +kernel
theorem dX2_fillPair_82 : decode cX2_fillPair 82 = .ok (.if_icmp .ne 13, 3) := by decide +kernel
theorem dX2_fillPair_85 : decode cX2_fillPair 85 = .ok (.aload_n 0, 1) := by decide +kernel
theorem dX2_fillPair_86 : decode cX2_fillPair 86 = .ok (.dup, 1) := by decide +kernel
theorem dX2_fillPair_87 : decode cX2_fillPair 87 = .ok (.getfield 24, 3) := by decide +kernel
theorem dX2_fillPair_90 : decode cX2_fillPair 90 = .ok (.lconst 1, 1) := by decide +kernel
theorem dX2_fillPair_91 : decode cX2_fillPair 91 = .ok (.lxor, 1) := by decide +kernel
theorem dX2_fillPair_92 : decode cX2_fillPair 92 = .ok (.putfield 24, 3) := by decide +kernel
theorem dX2_fillPair_95 : decode cX2_fillPair 95 = .ok (.aload_n 0, 1) := by decide +kernel
theorem dX2_fillPair_96 : decode cX2_fillPair 96 = .ok (.bipush 16, 2) := by decide +kernel
theorem dX2_fillPair_98 : decode cX2_fillPair 98 = .ok (.putfield 31, 3) := by decide +kernel
theorem dX2_fillPair_101 : decode cX2_fillPair 101 = .ok (.return_, 1) := by decide +kernel
set_option maxRecDepth 20000 in
theorem ggX2_fillLeaves_X4_copyBelow : GoodIn wsX2_fillLeaves wsX4_copyBelow := goodIn_r _ [9, 10, 11, 12, 8, 13, 14, 15, 16, 17, 18, 19, 20, 21, 22, 23, 24, 25, 26, 27, 28, 29, 68, 69] (by decide +kernel) (by decide +kernel)
set_option maxRecDepth 20000 in
theorem gX2_fillLeaves_X4_copyBelow : GoodIn wsX2_fillLeaves (wsV RX2 40 RX4 yX4_copyBelow wsX4_copyBelow) := goodIn_app (goodIn_of _ (by decide +kernel)) ggX2_fillLeaves_X4_copyBelow
set_option maxRecDepth 20000 in
theorem ggX2_fillLeaves_X2_turnFirst : GoodIn wsX2_fillLeaves wsX2_turnFirst := goodIn_r _ [34, 3, 1, 35, 36, 37, 8, 38, 10, 11, 12, 13, 14, 15, 16, 17, 18, 19, 39, 40, 41, 42, 43, 44, 45, 46, 47, 48, 49, 50, 20, 21, 22, 23, 24, 25, 26, 27, 28, 29, 62, 63, 64, 65, 66, 67, 68, 69] (by decide +kernel) (by decide +kernel)
set_option maxRecDepth 20000 in
theorem gX2_fillLeaves_X2_turnFirst : GoodIn wsX2_fillLeaves (wsV RX2 44 RX2 yX2_turnFirst wsX2_turnFirst) := goodIn_app (goodIn_of _ (by decide +kernel)) ggX2_fillLeaves_X2_turnFirst
set_option maxRecDepth 20000 in
theorem ggX2_fillLeaves_X4_lastFilled : GoodIn wsX2_fillLeaves wsX4_lastFilled := goodIn_r _ [54, 10, 11, 12, 8, 13, 17, 18, 19, 14, 15, 16, 68, 69] (by decide +kernel) (by decide +kernel)
set_option maxRecDepth 20000 in
theorem gX2_fillLeaves_X4_lastFilled : GoodIn wsX2_fillLeaves (wsV RX2 47 RX4 yX4_lastFilled wsX4_lastFilled) := goodIn_app (goodIn_of _ (by decide +kernel)) ggX2_fillLeaves_X4_lastFilled
set_option maxRecDepth 20000 in
theorem ggX2_fillLeaves_X4_put : GoodIn wsX2_fillLeaves wsX4_put := goodIn_r _ [50, 10, 44, 45, 8, 46, 20, 21, 22, 23, 24, 17, 18, 19, 14, 15, 16, 25, 26, 27, 28, 29, 68, 69] (by decide +kernel) (by decide +kernel)
set_option maxRecDepth 20000 in
theorem gX2_fillLeaves_X4_put : GoodIn wsX2_fillLeaves (wsV RX2 51 RX4 yX4_put wsX4_put) := goodIn_app (goodIn_of _ (by decide +kernel)) ggX2_fillLeaves_X4_put
set_option maxRecDepth 20000 in
theorem ggX2_fillLeaves_X4_isLeaf : GoodIn wsX2_fillLeaves wsX4_isLeaf := goodIn_r _ [57] (by decide +kernel) (by decide +kernel)
set_option maxRecDepth 20000 in
theorem gX2_fillLeaves_X4_isLeaf : GoodIn wsX2_fillLeaves (va_wsS RX2 55 yX4_isLeaf wsX4_isLeaf) := goodIn_app (goodIn_of _ (by decide +kernel)) ggX2_fillLeaves_X4_isLeaf
set_option maxRecDepth 20000 in
theorem ggX2_fillLeaves_X4_filledBelow : GoodIn wsX2_fillLeaves wsX4_filledBelow := goodIn_r _ [61, 10, 11, 12, 8, 13, 14, 15, 16, 17, 18, 19, 68, 69] (by decide +kernel) (by decide +kernel)
set_option maxRecDepth 20000 in
theorem gX2_fillLeaves_X4_filledBelow : GoodIn wsX2_fillLeaves (wsV RX2 59 RX4 yX4_filledBelow wsX4_filledBelow) := goodIn_app (goodIn_of _ (by decide +kernel)) ggX2_fillLeaves_X4_filledBelow
theorem dX2_fillLeaves_0 : decode cX2_fillLeaves 0 = .ok (.aload_n 0, 1) := by decide +kernel
theorem dX2_fillLeaves_1 : decode cX2_fillLeaves 1 = .ok (.iload_n 3, 1) := by decide +kernel
theorem dX2_fillLeaves_2 : decode cX2_fillLeaves 2 = .ok (.putfield 16, 3) := by decide +kernel
theorem dX2_fillLeaves_5 : decode cX2_fillLeaves 5 = .ok (.aload_n 0, 1) := by decide +kernel
theorem dX2_fillLeaves_6 : decode cX2_fillLeaves 6 = .ok (.iconst 0, 1) := by decide +kernel
theorem dX2_fillLeaves_7 : decode cX2_fillLeaves 7 = .ok (.putfield 20, 3) := by decide +kernel
theorem dX2_fillLeaves_10 : decode cX2_fillLeaves 10 = .ok (.aload_n 0, 1) := by decide +kernel
theorem dX2_fillLeaves_11 : decode cX2_fillLeaves 11 = .ok (.getfield 10, 3) := by decide +kernel
theorem dX2_fillLeaves_14 : decode cX2_fillLeaves 14 = .ok (.aload_n 0, 1) := by decide +kernel
theorem dX2_fillLeaves_15 : decode cX2_fillLeaves 15 = .ok (.getfield 16, 3) := by decide +kernel
theorem dX2_fillLeaves_18 : decode cX2_fillLeaves 18 = .ok (.aload_n 2, 1) := by decide +kernel
theorem dX2_fillLeaves_19 : decode cX2_fillLeaves 19 = .ok (.invokevirtual 40, 3) := by decide +kernel
theorem dX2_fillLeaves_22 : decode cX2_fillLeaves 22 = .ok (.iload_n 1, 1) := by decide +kernel
theorem dX2_fillLeaves_23 : decode cX2_fillLeaves 23 = .ok (.iconst 1, 1) := by decide +kernel
theorem dX2_fillLeaves_24 : decode cX2_fillLeaves 24 = .ok (.if_icmp .ne 10, 3) := by decide +kernel
theorem dX2_fillLeaves_27 : decode cX2_fillLeaves 27 = .ok (.aload_n 0, 1) := by decide +kernel
theorem dX2_fillLeaves_28 : decode cX2_fillLeaves 28 = .ok (.invokevirtual 44, 3) := by decide +kernel
theorem dX2_fillLeaves_31 : decode cX2_fillLeaves 31 = .ok (.goto 27, 3) := by decide +kernel
theorem dX2_fillLeaves_34 : decode cX2_fillLeaves 34 = .ok (.iload_n 1, 1) := by decide +kernel
theorem dX2_fillLeaves_35 : decode cX2_fillLeaves 35 = .ok (.iconst 2, 1) := by decide +kernel
theorem dX2_fillLeaves_36 : decode cX2_fillLeaves 36 = .ok (.if_icmp .ne 22, 3) := by decide +kernel
theorem dX2_fillLeaves_39 : decode cX2_fillLeaves 39 = .ok (.aload_n 0, 1) := by decide +kernel
theorem dX2_fillLeaves_40 : decode cX2_fillLeaves 40 = .ok (.getfield 10, 3) := by decide +kernel
theorem dX2_fillLeaves_43 : decode cX2_fillLeaves 43 = .ok (.aload_n 0, 1) := by decide +kernel
theorem dX2_fillLeaves_44 : decode cX2_fillLeaves 44 = .ok (.getfield 10, 3) := by decide +kernel
theorem dX2_fillLeaves_47 : decode cX2_fillLeaves 47 = .ok (.aload_n 0, 1) := by decide +kernel
theorem dX2_fillLeaves_48 : decode cX2_fillLeaves 48 = .ok (.getfield 16, 3) := by decide +kernel
theorem dX2_fillLeaves_51 : decode cX2_fillLeaves 51 = .ok (.invokevirtual 47, 3) := by decide +kernel
theorem dX2_fillLeaves_54 : decode cX2_fillLeaves 54 = .ok (.lconst 0, 1) := by decide +kernel
theorem dX2_fillLeaves_55 : decode cX2_fillLeaves 55 = .ok (.invokevirtual 51, 3) := by decide +kernel
theorem dX2_fillLeaves_58 : decode cX2_fillLeaves 58 = .ok (.aload_n 0, 1) := by decide +kernel
theorem dX2_fillLeaves_59 : decode cX2_fillLeaves 59 = .ok (.aload_n 0, 1) := by decide +kernel
theorem dX2_fillLeaves_60 : decode cX2_fillLeaves 60 = .ok (.getfield 16, 3) := by decide +kernel
theorem dX2_fillLeaves_63 : decode cX2_fillLeaves 63 = .ok (.invokestatic 55, 3) := by decide +kernel
theorem dX2_fillLeaves_66 : decode cX2_fillLeaves 66 = .ok (.ifCond .eq 8, 3) := by decide +kernel
theorem dX2_fillLeaves_69 : decode cX2_fillLeaves 69 = .ok (.bipush 8, 2) := by decide +kernel
theorem dX2_fillLeaves_71 : decode cX2_fillLeaves 71 = .ok (.goto 19, 3) := by decide +kernel
theorem dX2_fillLeaves_74 : decode cX2_fillLeaves 74 = .ok (.iconst 4, 1) := by decide +kernel
theorem dX2_fillLeaves_75 : decode cX2_fillLeaves 75 = .ok (.bipush 12, 2) := by decide +kernel
theorem dX2_fillLeaves_77 : decode cX2_fillLeaves 77 = .ok (.aload_n 0, 1) := by decide +kernel
theorem dX2_fillLeaves_78 : decode cX2_fillLeaves 78 = .ok (.getfield 10, 3) := by decide +kernel
theorem dX2_fillLeaves_81 : decode cX2_fillLeaves 81 = .ok (.aload_n 0, 1) := by decide +kernel
theorem dX2_fillLeaves_82 : decode cX2_fillLeaves 82 = .ok (.getfield 16, 3) := by decide +kernel
theorem dX2_fillLeaves_85 : decode cX2_fillLeaves 85 = .ok (.invokevirtual 59, 3) := by decide +kernel
theorem dX2_fillLeaves_88 : decode cX2_fillLeaves 88 = .ok (.imul, 1) := by decide +kernel
theorem dX2_fillLeaves_89 : decode cX2_fillLeaves 89 = .ok (.iadd, 1) := by decide +kernel
theorem dX2_fillLeaves_90 : decode cX2_fillLeaves 90 = .ok (.putfield 31, 3) := by decide +kernel
theorem dX2_fillLeaves_93 : decode cX2_fillLeaves 93 = .ok (.return_, 1) := by decide +kernel
set_option maxRecDepth 20000 in
theorem ggX2_ownDigest_X4_mix : GoodIn wsX2_ownDigest wsX4_mix := goodIn_r _ [9, 10, 11] (by decide +kernel) (by decide +kernel)
set_option maxRecDepth 20000 in
theorem gX2_ownDigest_X4_mix : GoodIn wsX2_ownDigest (va_wsS RX2 62 yX4_mix wsX4_mix) := goodIn_app (goodIn_of _ (by decide +kernel)) ggX2_ownDigest_X4_mix
set_option maxRecDepth 20000 in
theorem ggX2_ownDigest_X4_digestOf : GoodIn wsX2_ownDigest wsX4_digestOf := goodIn_r _ [15, 16, 17, 18, 8, 19, 26, 27] (by decide +kernel) (by decide +kernel)
set_option maxRecDepth 20000 in
theorem gX2_ownDigest_X4_digestOf : GoodIn wsX2_ownDigest (wsV RX2 34 RX4 yX4_digestOf wsX4_digestOf) := goodIn_app (goodIn_of _ (by decide +kernel)) ggX2_ownDigest_X4_digestOf
theorem dX2_ownDigest_0 : decode cX2_ownDigest 0 = .ok (.aload_n 0, 1) := by decide +kernel
theorem dX2_ownDigest_1 : decode cX2_ownDigest 1 = .ok (.getfield 20, 3) := by decide +kernel
theorem dX2_ownDigest_4 : decode cX2_ownDigest 4 = .ok (.ifCond .eq 17, 3) := by decide +kernel
theorem dX2_ownDigest_7 : decode cX2_ownDigest 7 = .ok (.aload_n 0, 1) := by decide +kernel
theorem dX2_ownDigest_8 : decode cX2_ownDigest 8 = .ok (.getfield 24, 3) := by decide +kernel
theorem dX2_ownDigest_11 : decode cX2_ownDigest 11 = .ok (.aload_n 0, 1) := by decide +kernel
theorem dX2_ownDigest_12 : decode cX2_ownDigest 12 = .ok (.getfield 28, 3) := by decide +kernel
theorem dX2_ownDigest_15 : decode cX2_ownDigest 15 = .ok (.invokestatic 62, 3) := by decide +kernel
theorem dX2_ownDigest_18 : decode cX2_ownDigest 18 = .ok (.goto 14, 3) := by decide +kernel
theorem dX2_ownDigest_21 : decode cX2_ownDigest 21 = .ok (.aload_n 0, 1) := by decide +kernel
theorem dX2_ownDigest_22 : decode cX2_ownDigest 22 = .ok (.getfield 10, 3) := by decide +kernel
theorem dX2_ownDigest_25 : decode cX2_ownDigest 25 = .ok (.aload_n 0, 1) := by decide +kernel
theorem dX2_ownDigest_26 : decode cX2_ownDigest 26 = .ok (.getfield 16, 3) := by decide +kernel
theorem dX2_ownDigest_29 : decode cX2_ownDigest 29 = .ok (.invokevirtual 34, 3) := by decide +kernel
theorem dX2_ownDigest_32 : decode cX2_ownDigest 32 = .ok (.lreturn, 1) := by decide +kernel
set_option maxRecDepth 20000 in
theorem ggX2_turnFirst_X4_firstFilled : GoodIn wsX2_turnFirst wsX4_firstFilled := goodIn_r _ [7, 8, 9, 10, 6, 11, 12, 13, 14, 15, 16, 17, 46, 47] (by decide +kernel) (by decide +kernel)
set_option maxRecDepth 20000 in
theorem gX2_turnFirst_X4_firstFilled : GoodIn wsX2_turnFirst (wsV RX2 66 RX4 yX4_firstFilled wsX4_firstFilled) := goodIn_app (goodIn_of _ (by decide +kernel)) ggX2_turnFirst_X4_firstFilled
set_option maxRecDepth 20000 in
theorem ggX2_turnFirst_X4_firstPath : GoodIn wsX2_turnFirst wsX4_firstPath := goodIn_r _ [17] (by decide +kernel) (by decide +kernel)
set_option maxRecDepth 20000 in
theorem gX2_turnFirst_X4_firstPath : GoodIn wsX2_turnFirst (va_wsS RX2 69 yX4_firstPath wsX4_firstPath) := goodIn_app (goodIn_of _ (by decide +kernel)) ggX2_turnFirst_X4_firstPath
set_option maxRecDepth 20000 in
theorem ggX2_turnFirst_X4_valueOf : GoodIn wsX2_turnFirst wsX4_valueOf := goodIn_r _ [22, 8, 23, 24, 6, 25, 46, 47] (by decide +kernel) (by decide +kernel)
set_option maxRecDepth 20000 in
theorem gX2_turnFirst_X4_valueOf : GoodIn wsX2_turnFirst (wsV RX2 72 RX4 yX4_valueOf wsX4_valueOf) := goodIn_app (goodIn_of _ (by decide +kernel)) ggX2_turnFirst_X4_valueOf
set_option maxRecDepth 20000 in
theorem ggX2_turnFirst_X4_put : GoodIn wsX2_turnFirst wsX4_put := goodIn_r _ [29, 8, 23, 24, 6, 25, 30, 31, 32, 33, 34, 15, 16, 17, 12, 13, 14, 35, 36, 37, 38, 39, 46, 47] (by decide +kernel) (by decide +kernel)
set_option maxRecDepth 20000 in
theorem gX2_turnFirst_X4_put : GoodIn wsX2_turnFirst (wsV RX2 51 RX4 yX4_put wsX4_put) := goodIn_app (goodIn_of _ (by decide +kernel)) ggX2_turnFirst_X4_put
theorem dX2_turnFirst_0 : decode cX2_turnFirst 0 = .ok (.aload_n 0, 1) := by decide +kernel
theorem dX2_turnFirst_1 : decode cX2_turnFirst 1 = .ok (.getfield 10, 3) := by decide +kernel
theorem dX2_turnFirst_4 : decode cX2_turnFirst 4 = .ok (.aload_n 0, 1) := by decide +kernel
theorem dX2_turnFirst_5 : decode cX2_turnFirst 5 = .ok (.getfield 16, 3) := by decide +kernel
theorem dX2_turnFirst_8 : decode cX2_turnFirst 8 = .ok (.invokevirtual 66, 3) := by decide +kernel
theorem dX2_turnFirst_11 : decode cX2_turnFirst 11 = .ok (.istore_n 1, 1) := by decide +kernel
theorem dX2_turnFirst_12 : decode cX2_turnFirst 12 = .ok (.iload_n 1, 1) := by decide +kernel
theorem dX2_turnFirst_13 : decode cX2_turnFirst 13 = .ok (.iconst (-1), 1) := by decide +kernel
theorem dX2_turnFirst_14 : decode cX2_turnFirst 14 = .ok (.if_icmp .ne 13, 3) := by decide +kernel
theorem dX2_turnFirst_17 : decode cX2_turnFirst 17 = .ok (.aload_n 0, 1) := by decide +kernel
theorem dX2_turnFirst_18 : decode cX2_turnFirst 18 = .ok (.getfield 16, 3) := by decide +kernel
theorem dX2_turnFirst_21 : decode cX2_turnFirst 21 = .ok (.invokestatic 69, 3) := by decide +kernel
theorem dX2_turnFirst_24 : decode cX2_turnFirst 24 = .ok (.goto 4, 3) := by decide +kernel
theorem dX2_turnFirst_27 : decode cX2_turnFirst 27 = .ok (.iload_n 1, 1) := by decide +kernel
theorem dX2_turnFirst_28 : decode cX2_turnFirst 28 = .ok (.istore_n 2, 1) := by decide +kernel
theorem dX2_turnFirst_29 : decode cX2_turnFirst 29 = .ok (.aload_n 0, 1) := by decide +kernel
theorem dX2_turnFirst_30 : decode cX2_turnFirst 30 = .ok (.getfield 10, 3) := by decide +kernel
theorem dX2_turnFirst_33 : decode cX2_turnFirst 33 = .ok (.iload_n 2, 1) := by decide +kernel
theorem dX2_turnFirst_34 : decode cX2_turnFirst 34 = .ok (.aload_n 0, 1) := by decide +kernel
theorem dX2_turnFirst_35 : decode cX2_turnFirst 35 = .ok (.getfield 10, 3) := by decide +kernel
theorem dX2_turnFirst_38 : decode cX2_turnFirst 38 = .ok (.iload_n 2, 1) := by decide +kernel
theorem dX2_turnFirst_39 : decode cX2_turnFirst 39 = .ok (.invokevirtual 72, 3) := by decide +kernel
theorem dX2_turnFirst_42 : decode cX2_turnFirst 42 = .ok (.lconst 1, 1) := by decide +kernel
theorem dX2_turnFirst_43 : decode cX2_turnFirst 43 = .ok (.lxor, 1) := by decide +kernel
theorem dX2_turnFirst_44 : decode cX2_turnFirst 44 = .ok (.invokevirtual 51, 3) := by decide +kernel
theorem dX2_turnFirst_47 : decode cX2_turnFirst 47 = .ok (.return_, 1) := by decide +kernel
theorem dX3_init_0 : decode cX3_init 0 = .ok (.aload_n 0, 1) := by decide +kernel
theorem dX3_init_1 : decode cX3_init 1 = .ok (.invokespecial 3, 3) := by decide +kernel
theorem dX3_init_4 : decode cX3_init 4 = .ok (.aload_n 0, 1) := by decide +kernel
theorem dX3_init_5 : decode cX3_init 5 = .ok (.sipush 201, 3) := by decide +kernel
theorem dX3_init_8 : decode cX3_init 8 = .ok (.newarray .int, 2) := by decide +kernel
theorem dX3_init_10 : decode cX3_init 10 = .ok (.putfield 9, 3) := by decide +kernel
theorem dX3_init_13 : decode cX3_init 13 = .ok (.aload_n 0, 1) := by decide +kernel
theorem dX3_init_14 : decode cX3_init 14 = .ok (.sipush 201, 3) := by decide +kernel
theorem dX3_init_17 : decode cX3_init 17 = .ok (.newarray .long, 2) := by decide +kernel
end
section
theorem dX3_init_19 : decode cX3_init 19 = .ok (.putfield 15, 3) := by decide +kernel
theorem dX3_init_22 : decode cX3_init 22 = .ok (.aload_n 0, 1) := by decide +kernel
theorem dX3_init_23 : decode cX3_init 23 = .ok (.iconst 0, 1) := by decide +kernel
theorem dX3_init_24 : decode cX3_init 24 = .ok (.putfield 19, 3) := by decide +kernel
theorem dX3_init_27 : decode cX3_init 27 = .ok (.return_, 1) := by decide +kernel
theorem dX3_hasHeight_0 : decode cX3_hasHeight 0 = .ok (.iload_n 1, 1) := by decide +kernel
theorem dX3_hasHeight_1 : decode cX3_hasHeight 1 = .ok (.ifCond .lt 15, 3) := by decide +kernel
theorem dX3_hasHeight_4 : decode cX3_hasHeight 4 = .ok (.iload_n 1, 1) := by decide +kernel
theorem dX3_hasHeight_5 : decode cX3_hasHeight 5 = .ok (.aload_n 0, 1) := by decide +kernel
theorem dX3_hasHeight_6 : decode cX3_hasHeight 6 = .ok (.getfield 19, 3) := by decide +kernel
theorem dX3_hasHeight_9 : decode cX3_hasHeight 9 = .ok (.if_icmp .gt 7, 3) := by decide +kernel
theorem dX3_hasHeight_12 : decode cX3_hasHeight 12 = .ok (.iconst 1, 1) := by decide +kernel
theorem dX3_hasHeight_13 : decode cX3_hasHeight 13 = .ok (.goto 4, 3) := by decide +kernel
theorem dX3_hasHeight_16 : decode cX3_hasHeight 16 = .ok (.iconst 0, 1) := by decide +kernel
theorem dX3_hasHeight_17 : decode cX3_hasHeight 17 = .ok (.ireturn, 1) := by decide +kernel
theorem dX3_append_0 : decode cX3_append 0 = .ok (.aload_n 0, 1) := by decide +kernel
theorem dX3_append_1 : decode cX3_append 1 = .ok (.getfield 19, 3) := by decide +kernel
theorem dX3_append_4 : decode cX3_append 4 = .ok (.sipush 200, 3) := by decide +kernel
theorem dX3_append_7 : decode cX3_append 7 = .ok (.if_icmp .lt 5, 3) := by decide +kernel
theorem dX3_append_10 : decode cX3_append 10 = .ok (.iconst 0, 1) := by decide +kernel
theorem dX3_append_11 : decode cX3_append 11 = .ok (.ireturn, 1) := by decide +kernel
theorem dX3_append_12 : decode cX3_append 12 = .ok (.aload_n 0, 1) := by decide +kernel
theorem dX3_append_13 : decode cX3_append 13 = .ok (.dup, 1) := by decide +kernel
theorem dX3_append_14 : decode cX3_append 14 = .ok (.getfield 19, 3) := by decide +kernel
theorem dX3_append_17 : decode cX3_append 17 = .ok (.iconst 1, 1) := by decide +kernel
theorem dX3_append_18 : decode cX3_append 18 = .ok (.iadd, 1) := by decide +kernel
theorem dX3_append_19 : decode cX3_append 19 = .ok (.putfield 19, 3) := by decide +kernel
theorem dX3_append_22 : decode cX3_append 22 = .ok (.aload_n 0, 1) := by decide +kernel
theorem dX3_append_23 : decode cX3_append 23 = .ok (.getfield 9, 3) := by decide +kernel
theorem dX3_append_26 : decode cX3_append 26 = .ok (.aload_n 0, 1) := by decide +kernel
theorem dX3_append_27 : decode cX3_append 27 = .ok (.getfield 19, 3) := by decide +kernel
theorem dX3_append_30 : decode cX3_append 30 = .ok (.iload_n 1, 1) := by decide +kernel
theorem dX3_append_31 : decode cX3_append 31 = .ok (.iastore, 1) := by decide +kernel
theorem dX3_append_32 : decode cX3_append 32 = .ok (.aload_n 0, 1) := by decide +kernel
theorem dX3_append_33 : decode cX3_append 33 = .ok (.getfield 15, 3) := by decide +kernel
theorem dX3_append_36 : decode cX3_append 36 = .ok (.aload_n 0, 1) := by decide +kernel
theorem dX3_append_37 : decode cX3_append 37 = .ok (.getfield 19, 3) := by decide +kernel
theorem dX3_append_40 : decode cX3_append 40 = .ok (.lload_n 2, 1) := by decide +kernel
theorem dX3_append_41 : decode cX3_append 41 = .ok (.lastore, 1) := by decide +kernel
theorem dX3_append_42 : decode cX3_append 42 = .ok (.iconst 1, 1) := by decide +kernel
theorem dX3_append_43 : decode cX3_append 43 = .ok (.ireturn, 1) := by decide +kernel
theorem dX3_valueAt_0 : decode cX3_valueAt 0 = .ok (.iload_n 1, 1) := by decide +kernel
theorem dX3_valueAt_1 : decode cX3_valueAt 1 = .ok (.aload_n 0, 1) := by decide +kernel
theorem dX3_valueAt_2 : decode cX3_valueAt 2 = .ok (.getfield 19, 3) := by decide +kernel
theorem dX3_valueAt_5 : decode cX3_valueAt 5 = .ok (.invokestatic 23, 3) := by decide +kernel
theorem dX3_valueAt_8 : decode cX3_valueAt 8 = .ok (.istore_n 3, 1) := by decide +kernel
theorem dX3_valueAt_9 : decode cX3_valueAt 9 = .ok (.iload_n 3, 1) := by decide +kernel
theorem dX3_valueAt_10 : decode cX3_valueAt 10 = .ok (.iconst 1, 1) := by decide +kernel
theorem dX3_valueAt_11 : decode cX3_valueAt 11 = .ok (.if_icmp .lt 26, 3) := by decide +kernel
theorem dX3_valueAt_14 : decode cX3_valueAt 14 = .ok (.aload_n 0, 1) := by decide +kernel
theorem dX3_valueAt_15 : decode cX3_valueAt 15 = .ok (.getfield 9, 3) := by decide +kernel
theorem dX3_valueAt_18 : decode cX3_valueAt 18 = .ok (.iload_n 3, 1) := by decide +kernel
theorem dX3_valueAt_19 : decode cX3_valueAt 19 = .ok (.iaload, 1) := by decide +kernel
theorem dX3_valueAt_20 : decode cX3_valueAt 20 = .ok (.iload_n 2, 1) := by decide +kernel
theorem dX3_valueAt_21 : decode cX3_valueAt 21 = .ok (.if_icmp .ne 10, 3) := by decide +kernel
theorem dX3_valueAt_24 : decode cX3_valueAt 24 = .ok (.aload_n 0, 1) := by decide +kernel
theorem dX3_valueAt_25 : decode cX3_valueAt 25 = .ok (.getfield 15, 3) := by decide +kernel
theorem dX3_valueAt_28 : decode cX3_valueAt 28 = .ok (.iload_n 3, 1) := by decide +kernel
theorem dX3_valueAt_29 : decode cX3_valueAt 29 = .ok (.laload, 1) := by decide +kernel
theorem dX3_valueAt_30 : decode cX3_valueAt 30 = .ok (.lreturn, 1) := by decide +kernel
theorem dX3_valueAt_31 : decode cX3_valueAt 31 = .ok (.iinc 3 (-1), 3) := by decide +kernel
theorem dX3_valueAt_34 : decode cX3_valueAt 34 = .ok (.goto (-25), 3) := by decide +kernel
theorem dX3_valueAt_37 : decode cX3_valueAt 37 = .ok (.lconst 0, 1) := by decide +kernel
theorem dX3_valueAt_38 : decode cX3_valueAt 38 = .ok (.lreturn, 1) := by decide +kernel
set_option maxRecDepth 20000 in
theorem ggX3_copyState_X4_isPath : GoodIn wsX3_copyState wsX4_isPath := goodIn_r _ [12] (by decide +kernel) (by decide +kernel)
set_option maxRecDepth 20000 in
theorem gX3_copyState_X4_isPath : GoodIn wsX3_copyState (va_wsS RX3 34 yX4_isPath wsX4_isPath) := goodIn_app (goodIn_of _ (by decide +kernel)) ggX3_copyState_X4_isPath
set_option maxRecDepth 20000 in
theorem ggX3_copyState_X4_renew : GoodIn wsX3_copyState wsX4_renew := goodIn_r _ [16, 17, 18, 19, 20, 11, 21, 22, 23, 24, 25, 26, 27, 28, 29, 30, 31] (by decide +kernel) (by decide +kernel)
set_option maxRecDepth 20000 in
theorem gX3_copyState_X4_renew : GoodIn wsX3_copyState (wsV RX3 38 RX4 yX4_renew wsX4_renew) := goodIn_app (goodIn_of _ (by decide +kernel)) ggX3_copyState_X4_renew
theorem dX3_copyState_0 : decode cX3_copyState 0 = .ok (.iconst 0, 1) := by decide +kernel
theorem dX3_copyState_1 : decode cX3_copyState 1 = .ok (.istore_n 3, 1) := by decide +kernel
theorem dX3_copyState_2 : decode cX3_copyState 2 = .ok (.iload_n 3, 1) := by decide +kernel
theorem dX3_copyState_3 : decode cX3_copyState 3 = .ok (.bipush 64, 2) := by decide +kernel
theorem dX3_copyState_5 : decode cX3_copyState 5 = .ok (.if_icmp .ge 16, 3) := by decide +kernel
theorem dX3_copyState_8 : decode cX3_copyState 8 = .ok (.aload_n 2, 1) := by decide +kernel
theorem dX3_copyState_9 : decode cX3_copyState 9 = .ok (.getfield 31, 3) := by decide +kernel
theorem dX3_copyState_12 : decode cX3_copyState 12 = .ok (.iload_n 3, 1) := by decide +kernel
theorem dX3_copyState_13 : decode cX3_copyState 13 = .ok (.lconst 0, 1) := by decide +kernel
theorem dX3_copyState_14 : decode cX3_copyState 14 = .ok (.lastore, 1) := by decide +kernel
theorem dX3_copyState_15 : decode cX3_copyState 15 = .ok (.iinc 3 1, 3) := by decide +kernel
theorem dX3_copyState_18 : decode cX3_copyState 18 = .ok (.goto (-16), 3) := by decide +kernel
theorem dX3_copyState_21 : decode cX3_copyState 21 = .ok (.iload_n 1, 1) := by decide +kernel
theorem dX3_copyState_22 : decode cX3_copyState 22 = .ok (.aload_n 0, 1) := by decide +kernel
theorem dX3_copyState_23 : decode cX3_copyState 23 = .ok (.getfield 19, 3) := by decide +kernel
theorem dX3_copyState_26 : decode cX3_copyState 26 = .ok (.invokestatic 23, 3) := by decide +kernel
theorem dX3_copyState_29 : decode cX3_copyState 29 = .ok (.istore_n 3, 1) := by decide +kernel
theorem dX3_copyState_30 : decode cX3_copyState 30 = .ok (.iconst 1, 1) := by decide +kernel
theorem dX3_copyState_31 : decode cX3_copyState 31 = .ok (.istore 4, 2) := by decide +kernel
theorem dX3_copyState_33 : decode cX3_copyState 33 = .ok (.iload 4, 2) := by decide +kernel
theorem dX3_copyState_35 : decode cX3_copyState 35 = .ok (.iload_n 3, 1) := by decide +kernel
theorem dX3_copyState_36 : decode cX3_copyState 36 = .ok (.if_icmp .gt 40, 3) := by decide +kernel
theorem dX3_copyState_39 : decode cX3_copyState 39 = .ok (.aload_n 0, 1) := by decide +kernel
theorem dX3_copyState_40 : decode cX3_copyState 40 = .ok (.getfield 9, 3) := by decide +kernel
theorem dX3_copyState_43 : decode cX3_copyState 43 = .ok (.iload 4, 2) := by decide +kernel
theorem dX3_copyState_45 : decode cX3_copyState 45 = .ok (.iaload, 1) := by decide +kernel
theorem dX3_copyState_46 : decode cX3_copyState 46 = .ok (.istore 5, 2) := by decide +kernel
theorem dX3_copyState_48 : decode cX3_copyState 48 = .ok (.iload 5, 2) := by decide +kernel
theorem dX3_copyState_50 : decode cX3_copyState 50 = .ok (.invokestatic 34, 3) := by decide +kernel
theorem dX3_copyState_53 : decode cX3_copyState 53 = .ok (.ifCond .eq 17, 3) := by decide +kernel
theorem dX3_copyState_56 : decode cX3_copyState 56 = .ok (.aload_n 2, 1) := by decide +kernel
theorem dX3_copyState_57 : decode cX3_copyState 57 = .ok (.getfield 31, 3) := by decide +kernel
theorem dX3_copyState_60 : decode cX3_copyState 60 = .ok (.iload 5, 2) := by decide +kernel
theorem dX3_copyState_62 : decode cX3_copyState 62 = .ok (.aload_n 0, 1) := by decide +kernel
theorem dX3_copyState_63 : decode cX3_copyState 63 = .ok (.getfield 15, 3) := by decide +kernel
theorem dX3_copyState_66 : decode cX3_copyState 66 = .ok (.iload 4, 2) := by decide +kernel
theorem dX3_copyState_68 : decode cX3_copyState 68 = .ok (.laload, 1) := by decide +kernel
theorem dX3_copyState_69 : decode cX3_copyState 69 = .ok (.lastore, 1) := by decide +kernel
theorem dX3_copyState_70 : decode cX3_copyState 70 = .ok (.iinc 4 1, 3) := by decide +kernel
theorem dX3_copyState_73 : decode cX3_copyState 73 = .ok (.goto (-40), 3) := by decide +kernel
theorem dX3_copyState_76 : decode cX3_copyState 76 = .ok (.aload_n 2, 1) := by decide +kernel
theorem dX3_copyState_77 : decode cX3_copyState 77 = .ok (.iconst 1, 1) := by decide +kernel
theorem dX3_copyState_78 : decode cX3_copyState 78 = .ok (.invokevirtual 38, 3) := by decide +kernel
theorem dX3_copyState_81 : decode cX3_copyState 81 = .ok (.return_, 1) := by decide +kernel
theorem dX4_init_0 : decode cX4_init 0 = .ok (.aload_n 0, 1) := by decide +kernel
theorem dX4_init_1 : decode cX4_init 1 = .ok (.invokespecial 1, 3) := by decide +kernel
theorem dX4_init_4 : decode cX4_init 4 = .ok (.aload_n 0, 1) := by decide +kernel
theorem dX4_init_5 : decode cX4_init 5 = .ok (.bipush 64, 2) := by decide +kernel
theorem dX4_init_7 : decode cX4_init 7 = .ok (.newarray .long, 2) := by decide +kernel
theorem dX4_init_9 : decode cX4_init 9 = .ok (.putfield 9, 3) := by decide +kernel
theorem dX4_init_12 : decode cX4_init 12 = .ok (.aload_n 0, 1) := by decide +kernel
theorem dX4_init_13 : decode cX4_init 13 = .ok (.sipush 128, 3) := by decide +kernel
theorem dX4_init_16 : decode cX4_init 16 = .ok (.newarray .long, 2) := by decide +kernel
theorem dX4_init_18 : decode cX4_init 18 = .ok (.putfield 13, 3) := by decide +kernel
theorem dX4_init_21 : decode cX4_init 21 = .ok (.return_, 1) := by decide +kernel
theorem dX4_isPath_0 : decode cX4_isPath 0 = .ok (.iload_n 0, 1) := by decide +kernel
theorem dX4_isPath_1 : decode cX4_isPath 1 = .ok (.ifCond .lt 13, 3) := by decide +kernel
theorem dX4_isPath_4 : decode cX4_isPath 4 = .ok (.iload_n 0, 1) := by decide +kernel
theorem dX4_isPath_5 : decode cX4_isPath 5 = .ok (.bipush 64, 2) := by decide +kernel
theorem dX4_isPath_7 : decode cX4_isPath 7 = .ok (.if_icmp .ge 7, 3) := by decide +kernel
theorem dX4_isPath_10 : decode cX4_isPath 10 = .ok (.iconst 1, 1) := by decide +kernel
theorem dX4_isPath_11 : decode cX4_isPath 11 = .ok (.goto 4, 3) := by decide +kernel
theorem dX4_isPath_14 : decode cX4_isPath 14 = .ok (.iconst 0, 1) := by decide +kernel
theorem dX4_isPath_15 : decode cX4_isPath 15 = .ok (.ireturn, 1) := by decide +kernel
theorem dX4_isNode_0 : decode cX4_isNode 0 = .ok (.iload_n 0, 1) := by decide +kernel
theorem dX4_isNode_1 : decode cX4_isNode 1 = .ok (.iconst 1, 1) := by decide +kernel
theorem dX4_isNode_2 : decode cX4_isNode 2 = .ok (.if_icmp .lt 14, 3) := by decide +kernel
theorem dX4_isNode_5 : decode cX4_isNode 5 = .ok (.iload_n 0, 1) := by decide +kernel
theorem dX4_isNode_6 : decode cX4_isNode 6 = .ok (.sipush 128, 3) := by decide +kernel
theorem dX4_isNode_9 : decode cX4_isNode 9 = .ok (.if_icmp .ge 7, 3) := by decide +kernel
theorem dX4_isNode_12 : decode cX4_isNode 12 = .ok (.iconst 1, 1) := by decide +kernel
theorem dX4_isNode_13 : decode cX4_isNode 13 = .ok (.goto 4, 3) := by decide +kernel
theorem dX4_isNode_16 : decode cX4_isNode 16 = .ok (.iconst 0, 1) := by decide +kernel
theorem dX4_isNode_17 : decode cX4_isNode 17 = .ok (.ireturn, 1) := by decide +kernel
theorem dX4_isLeaf_0 : decode cX4_isLeaf 0 = .ok (.iload_n 0, 1) := by decide +kernel
theorem dX4_isLeaf_1 : decode cX4_isLeaf 1 = .ok (.bipush 64, 2) := by decide +kernel
theorem dX4_isLeaf_3 : decode cX4_isLeaf 3 = .ok (.if_icmp .lt 14, 3) := by decide +kernel
theorem dX4_isLeaf_6 : decode cX4_isLeaf 6 = .ok (.iload_n 0, 1) := by decide +kernel
theorem dX4_isLeaf_7 : decode cX4_isLeaf 7 = .ok (.sipush 128, 3) := by decide +kernel
theorem dX4_isLeaf_10 : decode cX4_isLeaf 10 = .ok (.if_icmp .ge 7, 3) := by decide +kernel
theorem dX4_isLeaf_13 : decode cX4_isLeaf 13 = .ok (.iconst 1, 1) := by decide +kernel
theorem dX4_isLeaf_14 : decode cX4_isLeaf 14 = .ok (.goto 4, 3) := by decide +kernel
theorem dX4_isLeaf_17 : decode cX4_isLeaf 17 = .ok (.iconst 0, 1) := by decide +kernel
theorem dX4_isLeaf_18 : decode cX4_isLeaf 18 = .ok (.ireturn, 1) := by decide +kernel
theorem dX4_mix_0 : decode cX4_mix 0 = .ok (.lload_n 0, 1) := by decide +kernel
theorem dX4_mix_1 : decode cX4_mix 1 = .ok (.ldc2_w 16, 3) := by decide +kernel
theorem dX4_mix_4 : decode cX4_mix 4 = .ok (.lmul, 1) := by decide +kernel
theorem dX4_mix_5 : decode cX4_mix 5 = .ok (.lload_n 2, 1) := by decide +kernel
theorem dX4_mix_6 : decode cX4_mix 6 = .ok (.bipush 23, 2) := by decide +kernel
theorem dX4_mix_8 : decode cX4_mix 8 = .ok (.lshl, 1) := by decide +kernel
theorem dX4_mix_9 : decode cX4_mix 9 = .ok (.lload_n 2, 1) := by decide +kernel
theorem dX4_mix_10 : decode cX4_mix 10 = .ok (.bipush 41, 2) := by decide +kernel
theorem dX4_mix_12 : decode cX4_mix 12 = .ok (.lushr, 1) := by decide +kernel
theorem dX4_mix_13 : decode cX4_mix 13 = .ok (.lor, 1) := by decide +kernel
theorem dX4_mix_14 : decode cX4_mix 14 = .ok (.ladd, 1) := by decide +kernel
theorem dX4_mix_15 : decode cX4_mix 15 = .ok (.lstore 4, 2) := by decide +kernel
theorem dX4_mix_17 : decode cX4_mix 17 = .ok (.lload 4, 2) := by decide +kernel
theorem dX4_mix_19 : decode cX4_mix 19 = .ok (.lload 4, 2) := by decide +kernel
theorem dX4_mix_21 : decode cX4_mix 21 = .ok (.bipush 29, 2) := by decide +kernel
theorem dX4_mix_23 : decode cX4_mix 23 = .ok (.lushr, 1) := by decide +kernel
theorem dX4_mix_24 : decode cX4_mix 24 = .ok (.lxor, 1) := by decide +kernel
theorem dX4_mix_25 : decode cX4_mix 25 = .ok (.lstore 4, 2) := by decide +kernel
theorem dX4_mix_27 : decode cX4_mix 27 = .ok (.lload 4, 2) := by decide +kernel
theorem dX4_mix_29 : decode cX4_mix 29 = .ok (.ldc2_w 18, 3) := by decide +kernel
theorem dX4_mix_32 : decode cX4_mix 32 = .ok (.lmul, 1) := by decide +kernel
theorem dX4_mix_33 : decode cX4_mix 33 = .ok (.lstore 4, 2) := by decide +kernel
theorem dX4_mix_35 : decode cX4_mix 35 = .ok (.lload 4, 2) := by decide +kernel
theorem dX4_mix_37 : decode cX4_mix 37 = .ok (.lload 4, 2) := by decide +kernel
theorem dX4_mix_39 : decode cX4_mix 39 = .ok (.bipush 32, 2) := by decide +kernel
theorem dX4_mix_41 : decode cX4_mix 41 = .ok (.lushr, 1) := by decide +kernel
theorem dX4_mix_42 : decode cX4_mix 42 = .ok (.lxor, 1) := by decide +kernel
theorem dX4_mix_43 : decode cX4_mix 43 = .ok (.lstore 4, 2) := by decide +kernel
theorem dX4_mix_45 : decode cX4_mix 45 = .ok (.lload 4, 2) := by decide +kernel
theorem dX4_mix_47 : decode cX4_mix 47 = .ok (.lreturn, 1) := by decide +kernel
theorem dX4_firstPath_0 : decode cX4_firstPath 0 = .ok (.iload_n 0, 1) := by decide +kernel
theorem dX4_firstPath_1 : decode cX4_firstPath 1 = .ok (.istore_n 1, 1) := by decide +kernel
theorem dX4_firstPath_2 : decode cX4_firstPath 2 = .ok (.iconst 0, 1) := by decide +kernel
theorem dX4_firstPath_3 : decode cX4_firstPath 3 = .ok (.istore_n 2, 1) := by decide +kernel
theorem dX4_firstPath_4 : decode cX4_firstPath 4 = .ok (.iload_n 2, 1) := by decide +kernel
theorem dX4_firstPath_5 : decode cX4_firstPath 5 = .ok (.bipush 6, 2) := by decide +kernel
theorem dX4_firstPath_7 : decode cX4_firstPath 7 = .ok (.if_icmp .ge 19, 3) := by decide +kernel
theorem dX4_firstPath_10 : decode cX4_firstPath 10 = .ok (.iload_n 1, 1) := by decide +kernel
theorem dX4_firstPath_11 : decode cX4_firstPath 11 = .ok (.bipush 64, 2) := by decide +kernel
theorem dX4_firstPath_13 : decode cX4_firstPath 13 = .ok (.if_icmp .ge 13, 3) := by decide +kernel
theorem dX4_firstPath_16 : decode cX4_firstPath 16 = .ok (.iconst 2, 1) := by decide +kernel
theorem dX4_firstPath_17 : decode cX4_firstPath 17 = .ok (.iload_n 1, 1) := by decide +kernel
theorem dX4_firstPath_18 : decode cX4_firstPath 18 = .ok (.imul, 1) := by decide +kernel
theorem dX4_firstPath_19 : decode cX4_firstPath 19 = .ok (.istore_n 1, 1) := by decide +kernel
theorem dX4_firstPath_20 : decode cX4_firstPath 20 = .ok (.iinc 2 1, 3) := by decide +kernel
theorem dX4_firstPath_23 : decode cX4_firstPath 23 = .ok (.goto (-19), 3) := by decide +kernel
theorem dX4_firstPath_26 : decode cX4_firstPath 26 = .ok (.iload_n 1, 1) := by decide +kernel
theorem dX4_firstPath_27 : decode cX4_firstPath 27 = .ok (.bipush 64, 2) := by decide +kernel
theorem dX4_firstPath_29 : decode cX4_firstPath 29 = .ok (.isub, 1) := by decide +kernel
theorem dX4_firstPath_30 : decode cX4_firstPath 30 = .ok (.ireturn, 1) := by decide +kernel
theorem dX4_lastPath_0 : decode cX4_lastPath 0 = .ok (.iload_n 0, 1) := by decide +kernel
theorem dX4_lastPath_1 : decode cX4_lastPath 1 = .ok (.istore_n 1, 1) := by decide +kernel
theorem dX4_lastPath_2 : decode cX4_lastPath 2 = .ok (.iconst 0, 1) := by decide +kernel
theorem dX4_lastPath_3 : decode cX4_lastPath 3 = .ok (.istore_n 2, 1) := by decide +kernel
theorem dX4_lastPath_4 : decode cX4_lastPath 4 = .ok (.iload_n 2, 1) := by decide +kernel
theorem dX4_lastPath_5 : decode cX4_lastPath 5 = .ok (.bipush 6, 2) := by decide +kernel
theorem dX4_lastPath_7 : decode cX4_lastPath 7 = .ok (.if_icmp .ge 21, 3) := by decide +kernel
theorem dX4_lastPath_10 : decode cX4_lastPath 10 = .ok (.iload_n 1, 1) := by decide +kernel
theorem dX4_lastPath_11 : decode cX4_lastPath 11 = .ok (.bipush 64, 2) := by decide +kernel
theorem dX4_lastPath_13 : decode cX4_lastPath 13 = .ok (.if_icmp .ge 15, 3) := by decide +kernel
theorem dX4_lastPath_16 : decode cX4_lastPath 16 = .ok (.iconst 2, 1) := by decide +kernel
theorem dX4_lastPath_17 : decode cX4_lastPath 17 = .ok (.iload_n 1, 1) := by decide +kernel
theorem dX4_lastPath_18 : decode cX4_lastPath 18 = .ok (.imul, 1) := by decide +kernel
theorem dX4_lastPath_19 : decode cX4_lastPath 19 = .ok (.iconst 1, 1) := by decide +kernel
theorem dX4_lastPath_20 : decode cX4_lastPath 20 = .ok (.iadd, 1) := by decide +kernel
theorem dX4_lastPath_21 : decode cX4_lastPath 21 = .ok (.istore_n 1, 1) := by decide +kernel
theorem dX4_lastPath_22 : decode cX4_lastPath 22 = .ok (.iinc 2 1, 3) := by decide +kernel
theorem dX4_lastPath_25 : decode cX4_lastPath 25 = .ok (.goto (-21), 3) := by decide +kernel
theorem dX4_lastPath_28 : decode cX4_lastPath 28 = .ok (.iload_n 1, 1) := by decide +kernel
theorem dX4_lastPath_29 : decode cX4_lastPath 29 = .ok (.bipush 64, 2) := by decide +kernel
theorem dX4_lastPath_31 : decode cX4_lastPath 31 = .ok (.isub, 1) := by decide +kernel
theorem dX4_lastPath_32 : decode cX4_lastPath 32 = .ok (.ireturn, 1) := by decide +kernel
set_option maxRecDepth 20000 in
theorem ggX4_valueOf_X4_isPath : GoodIn wsX4_valueOf wsX4_isPath := goodIn_r _ [5] (by decide +kernel) (by decide +kernel)
set_option maxRecDepth 20000 in
theorem gX4_valueOf_X4_isPath : GoodIn wsX4_valueOf (va_wsS RX4 20 yX4_isPath wsX4_isPath) := goodIn_app (goodIn_of _ (by decide +kernel)) ggX4_valueOf_X4_isPath
theorem dX4_valueOf_0 : decode cX4_valueOf 0 = .ok (.iload_n 1, 1) := by decide +kernel
theorem dX4_valueOf_1 : decode cX4_valueOf 1 = .ok (.invokestatic 20, 3) := by decide +kernel
theorem dX4_valueOf_4 : decode cX4_valueOf 4 = .ok (.ifCond .eq 12, 3) := by decide +kernel
theorem dX4_valueOf_7 : decode cX4_valueOf 7 = .ok (.aload_n 0, 1) := by decide +kernel
theorem dX4_valueOf_8 : decode cX4_valueOf 8 = .ok (.getfield 9, 3) := by decide +kernel
theorem dX4_valueOf_11 : decode cX4_valueOf 11 = .ok (.iload_n 1, 1) := by decide +kernel
theorem dX4_valueOf_12 : decode cX4_valueOf 12 = .ok (.laload, 1) := by decide +kernel
theorem dX4_valueOf_13 : decode cX4_valueOf 13 = .ok (.goto 4, 3) := by decide +kernel
theorem dX4_valueOf_16 : decode cX4_valueOf 16 = .ok (.lconst 0, 1) := by decide +kernel
theorem dX4_valueOf_17 : decode cX4_valueOf 17 = .ok (.lreturn, 1) := by decide +kernel
set_option maxRecDepth 20000 in
theorem ggX4_digestOf_X4_isNode : GoodIn wsX4_digestOf wsX4_isNode := goodIn_r _ [5] (by decide +kernel) (by decide +kernel)
set_option maxRecDepth 20000 in
theorem gX4_digestOf_X4_isNode : GoodIn wsX4_digestOf (va_wsS RX4 24 yX4_isNode wsX4_isNode) := goodIn_app (goodIn_of _ (by decide +kernel)) ggX4_digestOf_X4_isNode
theorem dX4_digestOf_0 : decode cX4_digestOf 0 = .ok (.iload_n 1, 1) := by decide +kernel
theorem dX4_digestOf_1 : decode cX4_digestOf 1 = .ok (.invokestatic 24, 3) := by decide +kernel
theorem dX4_digestOf_4 : decode cX4_digestOf 4 = .ok (.ifCond .eq 12, 3) := by decide +kernel
theorem dX4_digestOf_7 : decode cX4_digestOf 7 = .ok (.aload_n 0, 1) := by decide +kernel
theorem dX4_digestOf_8 : decode cX4_digestOf 8 = .ok (.getfield 13, 3) := by decide +kernel
theorem dX4_digestOf_11 : decode cX4_digestOf 11 = .ok (.iload_n 1, 1) := by decide +kernel
theorem dX4_digestOf_12 : decode cX4_digestOf 12 = .ok (.laload, 1) := by decide +kernel
theorem dX4_digestOf_13 : decode cX4_digestOf 13 = .ok (.goto 4, 3) := by decide +kernel
theorem dX4_digestOf_16 : decode cX4_digestOf 16 = .ok (.lconst 0, 1) := by decide +kernel
theorem dX4_digestOf_17 : decode cX4_digestOf 17 = .ok (.lreturn, 1) := by decide +kernel
set_option maxRecDepth 20000 in
theorem ggX4_put_X4_isPath : GoodIn wsX4_put wsX4_isPath := goodIn_r _ [5] (by decide +kernel) (by decide +kernel)
set_option maxRecDepth 20000 in
theorem gX4_put_X4_isPath : GoodIn wsX4_put (va_wsS RX4 20 yX4_isPath wsX4_isPath) := goodIn_app (goodIn_of _ (by decide +kernel)) ggX4_put_X4_isPath
set_option maxRecDepth 20000 in
theorem ggX4_put_X4_renew : GoodIn wsX4_put wsX4_renew := goodIn_r _ [9, 10, 1, 11, 12, 4, 13, 14, 15, 16, 17, 18, 19, 20, 21, 22, 23] (by decide +kernel) (by decide +kernel)
set_option maxRecDepth 20000 in
theorem gX4_put_X4_renew : GoodIn wsX4_put (wsV RX4 27 RX4 yX4_renew wsX4_renew) := goodIn_app (goodIn_of _ (by decide +kernel)) ggX4_put_X4_renew
theorem dX4_put_0 : decode cX4_put 0 = .ok (.iload_n 1, 1) := by decide +kernel
theorem dX4_put_1 : decode cX4_put 1 = .ok (.invokestatic 20, 3) := by decide +kernel
theorem dX4_put_4 : decode cX4_put 4 = .ok (.ifCond .eq 18, 3) := by decide +kernel
theorem dX4_put_7 : decode cX4_put 7 = .ok (.aload_n 0, 1) := by decide +kernel
theorem dX4_put_8 : decode cX4_put 8 = .ok (.getfield 9, 3) := by decide +kernel
theorem dX4_put_11 : decode cX4_put 11 = .ok (.iload_n 1, 1) := by decide +kernel
theorem dX4_put_12 : decode cX4_put 12 = .ok (.lload_n 2, 1) := by decide +kernel
theorem dX4_put_13 : decode cX4_put 13 = .ok (.lastore, 1) := by decide +kernel
theorem dX4_put_14 : decode cX4_put 14 = .ok (.aload_n 0, 1) := by decide +kernel
theorem dX4_put_15 : decode cX4_put 15 = .ok (.bipush 64, 2) := by decide +kernel
theorem dX4_put_17 : decode cX4_put 17 = .ok (.iload_n 1, 1) := by decide +kernel
theorem dX4_put_18 : decode cX4_put 18 = .ok (.iadd, 1) := by decide +kernel
theorem dX4_put_19 : decode cX4_put 19 = .ok (.invokevirtual 27, 3) := by decide +kernel
theorem dX4_put_22 : decode cX4_put 22 = .ok (.return_, 1) := by decide +kernel
set_option maxRecDepth 20000 in
theorem ggX4_emptyBelow_X4_isNode : GoodIn wsX4_emptyBelow wsX4_isNode := goodIn_r _ [5] (by decide +kernel) (by decide +kernel)
set_option maxRecDepth 20000 in
theorem gX4_emptyBelow_X4_isNode : GoodIn wsX4_emptyBelow (va_wsS RX4 24 yX4_isNode wsX4_isNode) := goodIn_app (goodIn_of _ (by decide +kernel)) ggX4_emptyBelow_X4_isNode
set_option maxRecDepth 20000 in
theorem ggX4_emptyBelow_X4_lastPath : GoodIn wsX4_emptyBelow wsX4_lastPath := goodIn_r _ [8] (by decide +kernel) (by decide +kernel)
set_option maxRecDepth 20000 in
theorem gX4_emptyBelow_X4_lastPath : GoodIn wsX4_emptyBelow (va_wsS RX4 31 yX4_lastPath wsX4_lastPath) := goodIn_app (goodIn_of _ (by decide +kernel)) ggX4_emptyBelow_X4_lastPath
set_option maxRecDepth 20000 in
theorem ggX4_emptyBelow_X4_firstPath : GoodIn wsX4_emptyBelow wsX4_firstPath := goodIn_r _ [11] (by decide +kernel) (by decide +kernel)
set_option maxRecDepth 20000 in
theorem gX4_emptyBelow_X4_firstPath : GoodIn wsX4_emptyBelow (va_wsS RX4 35 yX4_firstPath wsX4_firstPath) := goodIn_app (goodIn_of _ (by decide +kernel)) ggX4_emptyBelow_X4_firstPath
set_option maxRecDepth 20000 in
theorem ggX4_emptyBelow_X4_renew : GoodIn wsX4_emptyBelow wsX4_renew := goodIn_r _ [15, 16, 1, 9, 10, 4, 11, 6, 7, 8, 17, 18, 19, 20, 21, 22, 23] (by decide +kernel) (by decide +kernel)
set_option maxRecDepth 20000 in
theorem gX4_emptyBelow_X4_renew : GoodIn wsX4_emptyBelow (wsV RX4 27 RX4 yX4_renew wsX4_renew) := goodIn_app (goodIn_of _ (by decide +kernel)) ggX4_emptyBelow_X4_renew
theorem dX4_emptyBelow_0 : decode cX4_emptyBelow 0 = .ok (.iload_n 1, 1) := by decide +kernel
theorem dX4_emptyBelow_1 : decode cX4_emptyBelow 1 = .ok (.invokestatic 24, 3) := by decide +kernel
theorem dX4_emptyBelow_4 : decode cX4_emptyBelow 4 = .ok (.ifCond .ne 4, 3) := by decide +kernel
theorem dX4_emptyBelow_7 : decode cX4_emptyBelow 7 = .ok (.return_, 1) := by decide +kernel
theorem dX4_emptyBelow_8 : decode cX4_emptyBelow 8 = .ok (.iload_n 1, 1) := by decide +kernel
theorem dX4_emptyBelow_9 : decode cX4_emptyBelow 9 = .ok (.invokestatic 31, 3) := by decide +kernel
theorem dX4_emptyBelow_12 : decode cX4_emptyBelow 12 = .ok (.istore_n 2, 1) := by decide +kernel
theorem dX4_emptyBelow_13 : decode cX4_emptyBelow 13 = .ok (.iload_n 1, 1) := by decide +kernel
theorem dX4_emptyBelow_14 : decode cX4_emptyBelow 14 = .ok (.invokestatic 35, 3) := by decide +kernel
theorem dX4_emptyBelow_17 : decode cX4_emptyBelow 17 = .ok (.istore_n 3, 1) := by decide +kernel
theorem dX4_emptyBelow_18 : decode cX4_emptyBelow 18 = .ok (.iload_n 3, 1) := by decide +kernel
theorem dX4_emptyBelow_19 : decode cX4_emptyBelow 19 = .ok (.iload_n 2, 1) := by decide +kernel
theorem dX4_emptyBelow_20 : decode cX4_emptyBelow 20 = .ok (.if_icmp .gt 16, 3) := by decide +kernel
theorem dX4_emptyBelow_23 : decode cX4_emptyBelow 23 = .ok (.aload_n 0, 1) := by decide +kernel
theorem dX4_emptyBelow_24 : decode cX4_emptyBelow 24 = .ok (.getfield 9, 3) := by decide +kernel
theorem dX4_emptyBelow_27 : decode cX4_emptyBelow 27 = .ok (.iload_n 3, 1) := by decide +kernel
theorem dX4_emptyBelow_28 : decode cX4_emptyBelow 28 = .ok (.lconst 0, 1) := by decide +kernel
theorem dX4_emptyBelow_29 : decode cX4_emptyBelow 29 = .ok (.lastore, 1) := by decide +kernel
theorem dX4_emptyBelow_30 : decode cX4_emptyBelow 30 = .ok (.iinc 3 1, 3) := by decide +kernel
theorem dX4_emptyBelow_33 : decode cX4_emptyBelow 33 = .ok (.goto (-15), 3) := by decide +kernel
theorem dX4_emptyBelow_36 : decode cX4_emptyBelow 36 = .ok (.aload_n 0, 1) := by decide +kernel
theorem dX4_emptyBelow_37 : decode cX4_emptyBelow 37 = .ok (.iload_n 1, 1) := by decide +kernel
theorem dX4_emptyBelow_38 : decode cX4_emptyBelow 38 = .ok (.invokevirtual 27, 3) := by decide +kernel
theorem dX4_emptyBelow_41 : decode cX4_emptyBelow 41 = .ok (.return_, 1) := by decide +kernel
set_option maxRecDepth 20000 in
theorem ggX4_copyBelow_X4_isNode : GoodIn wsX4_copyBelow wsX4_isNode := goodIn_r _ [5] (by decide +kernel) (by decide +kernel)
set_option maxRecDepth 20000 in
theorem gX4_copyBelow_X4_isNode : GoodIn wsX4_copyBelow (va_wsS RX4 24 yX4_isNode wsX4_isNode) := goodIn_app (goodIn_of _ (by decide +kernel)) ggX4_copyBelow_X4_isNode
set_option maxRecDepth 20000 in
theorem ggX4_copyBelow_X4_lastPath : GoodIn wsX4_copyBelow wsX4_lastPath := goodIn_r _ [8] (by decide +kernel) (by decide +kernel)
set_option maxRecDepth 20000 in
theorem gX4_copyBelow_X4_lastPath : GoodIn wsX4_copyBelow (va_wsS RX4 31 yX4_lastPath wsX4_lastPath) := goodIn_app (goodIn_of _ (by decide +kernel)) ggX4_copyBelow_X4_lastPath
set_option maxRecDepth 20000 in
theorem ggX4_copyBelow_X4_firstPath : GoodIn wsX4_copyBelow wsX4_firstPath := goodIn_r _ [11] (by decide +kernel) (by decide +kernel)
set_option maxRecDepth 20000 in
theorem gX4_copyBelow_X4_firstPath : GoodIn wsX4_copyBelow (va_wsS RX4 35 yX4_firstPath wsX4_firstPath) := goodIn_app (goodIn_of _ (by decide +kernel)) ggX4_copyBelow_X4_firstPath
set_option maxRecDepth 20000 in
theorem ggX4_copyBelow_X4_renew : GoodIn wsX4_copyBelow wsX4_renew := goodIn_r _ [15, 16, 1, 9, 10, 4, 11, 6, 7, 8, 17, 18, 19, 20, 21, 22, 23] (by decide +kernel) (by decide +kernel)
set_option maxRecDepth 20000 in
theorem gX4_copyBelow_X4_renew : GoodIn wsX4_copyBelow (wsV RX4 27 RX4 yX4_renew wsX4_renew) := goodIn_app (goodIn_of _ (by decide +kernel)) ggX4_copyBelow_X4_renew
theorem dX4_copyBelow_0 : decode cX4_copyBelow 0 = .ok (.iload_n 1, 1) := by decide +kernel
theorem dX4_copyBelow_1 : decode cX4_copyBelow 1 = .ok (.invokestatic 24, 3) := by decide +kernel
theorem dX4_copyBelow_4 : decode cX4_copyBelow 4 = .ok (.ifCond .ne 4, 3) := by decide +kernel
theorem dX4_copyBelow_7 : decode cX4_copyBelow 7 = .ok (.return_, 1) := by decide +kernel
theorem dX4_copyBelow_8 : decode cX4_copyBelow 8 = .ok (.iload_n 1, 1) := by decide +kernel
theorem dX4_copyBelow_9 : decode cX4_copyBelow 9 = .ok (.invokestatic 31, 3) := by decide +kernel
theorem dX4_copyBelow_12 : decode cX4_copyBelow 12 = .ok (.istore_n 3, 1) := by decide +kernel
theorem dX4_copyBelow_13 : decode cX4_copyBelow 13 = .ok (.iload_n 1, 1) := by decide +kernel
theorem dX4_copyBelow_14 : decode cX4_copyBelow 14 = .ok (.invokestatic 35, 3) := by decide +kernel
theorem dX4_copyBelow_17 : decode cX4_copyBelow 17 = .ok (.istore 4, 2) := by decide +kernel
theorem dX4_copyBelow_19 : decode cX4_copyBelow 19 = .ok (.iload 4, 2) := by decide +kernel
theorem dX4_copyBelow_21 : decode cX4_copyBelow 21 = .ok (.iload_n 3, 1) := by decide +kernel
theorem dX4_copyBelow_22 : decode cX4_copyBelow 22 = .ok (.if_icmp .gt 23, 3) := by decide +kernel
theorem dX4_copyBelow_25 : decode cX4_copyBelow 25 = .ok (.aload_n 0, 1) := by decide +kernel
theorem dX4_copyBelow_26 : decode cX4_copyBelow 26 = .ok (.getfield 9, 3) := by decide +kernel
theorem dX4_copyBelow_29 : decode cX4_copyBelow 29 = .ok (.iload 4, 2) := by decide +kernel
theorem dX4_copyBelow_31 : decode cX4_copyBelow 31 = .ok (.aload_n 2, 1) := by decide +kernel
theorem dX4_copyBelow_32 : decode cX4_copyBelow 32 = .ok (.getfield 9, 3) := by decide +kernel
theorem dX4_copyBelow_35 : decode cX4_copyBelow 35 = .ok (.iload 4, 2) := by decide +kernel
theorem dX4_copyBelow_37 : decode cX4_copyBelow 37 = .ok (.laload, 1) := by decide +kernel
theorem dX4_copyBelow_38 : decode cX4_copyBelow 38 = .ok (.lastore, 1) := by decide +kernel
theorem dX4_copyBelow_39 : decode cX4_copyBelow 39 = .ok (.iinc 4 1, 3) := by decide +kernel
theorem dX4_copyBelow_42 : decode cX4_copyBelow 42 = .ok (.goto (-23), 3) := by decide +kernel
theorem dX4_copyBelow_45 : decode cX4_copyBelow 45 = .ok (.aload_n 0, 1) := by decide +kernel
theorem dX4_copyBelow_46 : decode cX4_copyBelow 46 = .ok (.iload_n 1, 1) := by decide +kernel
theorem dX4_copyBelow_47 : decode cX4_copyBelow 47 = .ok (.invokevirtual 27, 3) := by decide +kernel
theorem dX4_copyBelow_50 : decode cX4_copyBelow 50 = .ok (.return_, 1) := by decide +kernel
set_option maxRecDepth 20000 in
theorem ggX4_filledBelow_X4_isNode : GoodIn wsX4_filledBelow wsX4_isNode := goodIn_r _ [5] (by decide +kernel) (by decide +kernel)
set_option maxRecDepth 20000 in
theorem gX4_filledBelow_X4_isNode : GoodIn wsX4_filledBelow (va_wsS RX4 24 yX4_isNode wsX4_isNode) := goodIn_app (goodIn_of _ (by decide +kernel)) ggX4_filledBelow_X4_isNode
set_option maxRecDepth 20000 in
theorem ggX4_filledBelow_X4_lastPath : GoodIn wsX4_filledBelow wsX4_lastPath := goodIn_r _ [8] (by decide +kernel) (by decide +kernel)
set_option maxRecDepth 20000 in
theorem gX4_filledBelow_X4_lastPath : GoodIn wsX4_filledBelow (va_wsS RX4 31 yX4_lastPath wsX4_lastPath) := goodIn_app (goodIn_of _ (by decide +kernel)) ggX4_filledBelow_X4_lastPath
set_option maxRecDepth 20000 in
theorem ggX4_filledBelow_X4_firstPath : GoodIn wsX4_filledBelow wsX4_firstPath := goodIn_r _ [11] (by decide +kernel) (by decide +kernel)
set_option maxRecDepth 20000 in
theorem gX4_filledBelow_X4_firstPath : GoodIn wsX4_filledBelow (va_wsS RX4 35 yX4_firstPath wsX4_firstPath) := goodIn_app (goodIn_of _ (by decide +kernel)) ggX4_filledBelow_X4_firstPath
theorem dX4_filledBelow_0 : decode cX4_filledBelow 0 = .ok (.iload_n 1, 1) := by decide +kernel
theorem dX4_filledBelow_1 : decode cX4_filledBelow 1 = .ok (.invokestatic 24, 3) := by decide +kernel
theorem dX4_filledBelow_4 : decode cX4_filledBelow 4 = .ok (.ifCond .ne 5, 3) := by decide +kernel
theorem dX4_filledBelow_7 : decode cX4_filledBelow 7 = .ok (.iconst 0, 1) := by decide +kernel
theorem dX4_filledBelow_8 : decode cX4_filledBelow 8 = .ok (.ireturn, 1) := by decide +kernel
theorem dX4_filledBelow_9 : decode cX4_filledBelow 9 = .ok (.iconst 0, 1) := by decide +kernel
theorem dX4_filledBelow_10 : decode cX4_filledBelow 10 = .ok (.istore_n 2, 1) := by decide +kernel
theorem dX4_filledBelow_11 : decode cX4_filledBelow 11 = .ok (.iload_n 1, 1) := by decide +kernel
theorem dX4_filledBelow_12 : decode cX4_filledBelow 12 = .ok (.invokestatic 31, 3) := by decide +kernel
theorem dX4_filledBelow_15 : decode cX4_filledBelow 15 = .ok (.istore_n 3, 1) := by decide +kernel
theorem dX4_filledBelow_16 : decode cX4_filledBelow 16 = .ok (.iload_n 1, 1) := by decide +kernel
theorem dX4_filledBelow_17 : decode cX4_filledBelow 17 = .ok (.invokestatic 35, 3) := by decide +kernel
theorem dX4_filledBelow_20 : decode cX4_filledBelow 20 = .ok (.istore 4, 2) := by decide +kernel
theorem dX4_filledBelow_22 : decode cX4_filledBelow 22 = .ok (.iload 4, 2) := by decide +kernel
theorem dX4_filledBelow_24 : decode cX4_filledBelow 24 = .ok (.iload_n 3, 1) := by decide +kernel
theorem dX4_filledBelow_25 : decode cX4_filledBelow 25 = .ok (.if_icmp .gt 24, 3) := by decide +kernel
theorem dX4_filledBelow_28 : decode cX4_filledBelow 28 = .ok (.aload_n 0, 1) := by decide +kernel
theorem dX4_filledBelow_29 : decode cX4_filledBelow 29 = .ok (.getfield 9, 3) := by decide +kernel
theorem dX4_filledBelow_32 : decode cX4_filledBelow 32 = .ok (.iload 4, 2) := by decide +kernel
theorem dX4_filledBelow_34 : decode cX4_filledBelow 34 = .ok (.laload, 1) := by decide +kernel
theorem dX4_filledBelow_35 : decode cX4_filledBelow 35 = .ok (.lconst 0, 1) := by decide +kernel
theorem dX4_filledBelow_36 : decode cX4_filledBelow 36 = .ok (.lcmp, 1) := by decide +kernel
theorem dX4_filledBelow_37 : decode cX4_filledBelow 37 = .ok (.ifCond .eq 6, 3) := by decide +kernel
theorem dX4_filledBelow_40 : decode cX4_filledBelow 40 = .ok (.iinc 2 1, 3) := by decide +kernel
theorem dX4_filledBelow_43 : decode cX4_filledBelow 43 = .ok (.iinc 4 1, 3) := by decide +kernel
theorem dX4_filledBelow_46 : decode cX4_filledBelow 46 = .ok (.goto (-24), 3) := by decide +kernel
theorem dX4_filledBelow_49 : decode cX4_filledBelow 49 = .ok (.iload_n 2, 1) := by decide +kernel
theorem dX4_filledBelow_50 : decode cX4_filledBelow 50 = .ok (.ireturn, 1) := by decide +kernel
set_option maxRecDepth 20000 in
theorem ggX4_firstFilled_X4_isNode : GoodIn wsX4_firstFilled wsX4_isNode := goodIn_r _ [5] (by decide +kernel) (by decide +kernel)
set_option maxRecDepth 20000 in
theorem gX4_firstFilled_X4_isNode : GoodIn wsX4_firstFilled (va_wsS RX4 24 yX4_isNode wsX4_isNode) := goodIn_app (goodIn_of _ (by decide +kernel)) ggX4_firstFilled_X4_isNode
set_option maxRecDepth 20000 in
theorem ggX4_firstFilled_X4_lastPath : GoodIn wsX4_firstFilled wsX4_lastPath := goodIn_r _ [8] (by decide +kernel) (by decide +kernel)
set_option maxRecDepth 20000 in
theorem gX4_firstFilled_X4_lastPath : GoodIn wsX4_firstFilled (va_wsS RX4 31 yX4_lastPath wsX4_lastPath) := goodIn_app (goodIn_of _ (by decide +kernel)) ggX4_firstFilled_X4_lastPath
set_option maxRecDepth 20000 in
theorem ggX4_firstFilled_X4_firstPath : GoodIn wsX4_firstFilled wsX4_firstPath := goodIn_r _ [11] (by decide +kernel) (by decide +kernel)
set_option maxRecDepth 20000 in
theorem gX4_firstFilled_X4_firstPath : GoodIn wsX4_firstFilled (va_wsS RX4 35 yX4_firstPath wsX4_firstPath) := goodIn_app (goodIn_of _ (by decide +kernel)) ggX4_firstFilled_X4_firstPath
theorem dX4_firstFilled_0 : decode cX4_firstFilled 0 = .ok (.iload_n 1, 1) := by decide +kernel
theorem dX4_firstFilled_1 : decode cX4_firstFilled 1 = .ok (.invokestatic 24, 3) := by decide +kernel
theorem dX4_firstFilled_4 : decode cX4_firstFilled 4 = .ok (.ifCond .ne 5, 3) := by decide +kernel
theorem dX4_firstFilled_7 : decode cX4_firstFilled 7 = .ok (.iconst (-1), 1) := by decide +kernel
theorem dX4_firstFilled_8 : decode cX4_firstFilled 8 = .ok (.ireturn, 1) := by decide +kernel
theorem dX4_firstFilled_9 : decode cX4_firstFilled 9 = .ok (.iload_n 1, 1) := by decide +kernel
theorem dX4_firstFilled_10 : decode cX4_firstFilled 10 = .ok (.invokestatic 31, 3) := by decide +kernel
theorem dX4_firstFilled_13 : decode cX4_firstFilled 13 = .ok (.istore_n 2, 1) := by decide +kernel
theorem dX4_firstFilled_14 : decode cX4_firstFilled 14 = .ok (.iload_n 1, 1) := by decide +kernel
theorem dX4_firstFilled_15 : decode cX4_firstFilled 15 = .ok (.invokestatic 35, 3) := by decide +kernel
theorem dX4_firstFilled_18 : decode cX4_firstFilled 18 = .ok (.istore_n 3, 1) := by decide +kernel
theorem dX4_firstFilled_19 : decode cX4_firstFilled 19 = .ok (.iload_n 3, 1) := by decide +kernel
theorem dX4_firstFilled_20 : decode cX4_firstFilled 20 = .ok (.iload_n 2, 1) := by decide +kernel
theorem dX4_firstFilled_21 : decode cX4_firstFilled 21 = .ok (.if_icmp .gt 22, 3) := by decide +kernel
theorem dX4_firstFilled_24 : decode cX4_firstFilled 24 = .ok (.aload_n 0, 1) := by decide +kernel
theorem dX4_firstFilled_25 : decode cX4_firstFilled 25 = .ok (.getfield 9, 3) := by decide +kernel
theorem dX4_firstFilled_28 : decode cX4_firstFilled 28 = .ok (.iload_n 3, 1) := by decide +kernel
theorem dX4_firstFilled_29 : decode cX4_firstFilled 29 = .ok (.laload, 1) := by decide +kernel
theorem dX4_firstFilled_30 : decode cX4_firstFilled 30 = .ok (.lconst 0, 1) := by decide +kernel
theorem dX4_firstFilled_31 : decode cX4_firstFilled 31 = .ok (.lcmp, 1) := by decide +kernel
theorem dX4_firstFilled_32 : decode cX4_firstFilled 32 = .ok (.ifCond .eq 5, 3) := by decide +kernel
theorem dX4_firstFilled_35 : decode cX4_firstFilled 35 = .ok (.iload_n 3, 1) := by decide +kernel
theorem dX4_firstFilled_36 : decode cX4_firstFilled 36 = .ok (.ireturn, 1) := by decide +kernel
theorem dX4_firstFilled_37 : decode cX4_firstFilled 37 = .ok (.iinc 3 1, 3) := by decide +kernel
theorem dX4_firstFilled_40 : decode cX4_firstFilled 40 = .ok (.goto (-21), 3) := by decide +kernel
theorem dX4_firstFilled_43 : decode cX4_firstFilled 43 = .ok (.iconst (-1), 1) := by decide +kernel
theorem dX4_firstFilled_44 : decode cX4_firstFilled 44 = .ok (.ireturn, 1) := by decide +kernel
set_option maxRecDepth 20000 in
theorem ggX4_lastFilled_X4_isNode : GoodIn wsX4_lastFilled wsX4_isNode := goodIn_r _ [5] (by decide +kernel) (by decide +kernel)
set_option maxRecDepth 20000 in
theorem gX4_lastFilled_X4_isNode : GoodIn wsX4_lastFilled (va_wsS RX4 24 yX4_isNode wsX4_isNode) := goodIn_app (goodIn_of _ (by decide +kernel)) ggX4_lastFilled_X4_isNode
set_option maxRecDepth 20000 in
theorem ggX4_lastFilled_X4_firstPath : GoodIn wsX4_lastFilled wsX4_firstPath := goodIn_r _ [8] (by decide +kernel) (by decide +kernel)
set_option maxRecDepth 20000 in
theorem gX4_lastFilled_X4_firstPath : GoodIn wsX4_lastFilled (va_wsS RX4 35 yX4_firstPath wsX4_firstPath) := goodIn_app (goodIn_of _ (by decide +kernel)) ggX4_lastFilled_X4_firstPath
set_option maxRecDepth 20000 in
theorem ggX4_lastFilled_X4_lastPath : GoodIn wsX4_lastFilled wsX4_lastPath := goodIn_r _ [11] (by decide +kernel) (by decide +kernel)
set_option maxRecDepth 20000 in
theorem gX4_lastFilled_X4_lastPath : GoodIn wsX4_lastFilled (va_wsS RX4 31 yX4_lastPath wsX4_lastPath) := goodIn_app (goodIn_of _ (by decide +kernel)) ggX4_lastFilled_X4_lastPath
theorem dX4_lastFilled_0 : decode cX4_lastFilled 0 = .ok (.iload_n 1, 1) := by decide +kernel
theorem dX4_lastFilled_1 : decode cX4_lastFilled 1 = .ok (.invokestatic 24, 3) := by decide +kernel
theorem dX4_lastFilled_4 : decode cX4_lastFilled 4 = .ok (.ifCond .ne 5, 3) := by decide +kernel
theorem dX4_lastFilled_7 : decode cX4_lastFilled 7 = .ok (.iconst (-1), 1) := by decide +kernel
theorem dX4_lastFilled_8 : decode cX4_lastFilled 8 = .ok (.ireturn, 1) := by decide +kernel
theorem dX4_lastFilled_9 : decode cX4_lastFilled 9 = .ok (.iload_n 1, 1) := by decide +kernel
theorem dX4_lastFilled_10 : decode cX4_lastFilled 10 = .ok (.invokestatic 35, 3) := by decide +kernel
theorem dX4_lastFilled_13 : decode cX4_lastFilled 13 = .ok (.istore_n 2, 1) := by decide +kernel
theorem dX4_lastFilled_14 : decode cX4_lastFilled 14 = .ok (.iload_n 1, 1) := by decide +kernel
theorem dX4_lastFilled_15 : decode cX4_lastFilled 15 = .ok (.invokestatic 31, 3) := by decide +kernel
theorem dX4_lastFilled_18 : decode cX4_lastFilled 18 = .ok (.istore_n 3, 1) := by decide +kernel
theorem dX4_lastFilled_19 : decode cX4_lastFilled 19 = .ok (.iload_n 3, 1) := by decide +kernel
theorem dX4_lastFilled_20 : decode cX4_lastFilled 20 = .ok (.iload_n 2, 1) := by decide +kernel
theorem dX4_lastFilled_21 : decode cX4_lastFilled 21 = .ok (.if_icmp .lt 22, 3) := by decide +kernel
theorem dX4_lastFilled_24 : decode cX4_lastFilled 24 = .ok (.aload_n 0, 1) := by decide +kernel
theorem dX4_lastFilled_25 : decode cX4_lastFilled 25 = .ok (.getfield 9, 3) := by decide +kernel
theorem dX4_lastFilled_28 : decode cX4_lastFilled 28 = .ok (.iload_n 3, 1) := by decide +kernel
theorem dX4_lastFilled_29 : decode cX4_lastFilled 29 = .ok (.laload, 1) := by decide +kernel
theorem dX4_lastFilled_30 : decode cX4_lastFilled 30 = .ok (.lconst 0, 1) := by decide +kernel
theorem dX4_lastFilled_31 : decode cX4_lastFilled 31 = .ok (.lcmp, 1) := by decide +kernel
theorem dX4_lastFilled_32 : decode cX4_lastFilled 32 = .ok (.ifCond .eq 5, 3) := by decide +kernel
theorem dX4_lastFilled_35 : decode cX4_lastFilled 35 = .ok (.iload_n 3, 1) := by decide +kernel
theorem dX4_lastFilled_36 : decode cX4_lastFilled 36 = .ok (.ireturn, 1) := by decide +kernel
theorem dX4_lastFilled_37 : decode cX4_lastFilled 37 = .ok (.iinc 3 (-1), 3) := by decide +kernel
theorem dX4_lastFilled_40 : decode cX4_lastFilled 40 = .ok (.goto (-21), 3) := by decide +kernel
theorem dX4_lastFilled_43 : decode cX4_lastFilled 43 = .ok (.iconst (-1), 1) := by decide +kernel
theorem dX4_lastFilled_44 : decode cX4_lastFilled 44 = .ok (.ireturn, 1) := by decide +kernel
set_option maxRecDepth 20000 in
theorem ggX4_renew_X4_firstPath : GoodIn wsX4_renew wsX4_firstPath := goodIn_r _ [6] (by decide +kernel) (by decide +kernel)
set_option maxRecDepth 20000 in
theorem gX4_renew_X4_firstPath : GoodIn wsX4_renew (va_wsS RX4 35 yX4_firstPath wsX4_firstPath) := goodIn_app (goodIn_of _ (by decide +kernel)) ggX4_renew_X4_firstPath
set_option maxRecDepth 20000 in
theorem ggX4_renew_X4_lastPath : GoodIn wsX4_renew wsX4_lastPath := goodIn_r _ [9] (by decide +kernel) (by decide +kernel)
set_option maxRecDepth 20000 in
theorem gX4_renew_X4_lastPath : GoodIn wsX4_renew (va_wsS RX4 31 yX4_lastPath wsX4_lastPath) := goodIn_app (goodIn_of _ (by decide +kernel)) ggX4_renew_X4_lastPath
set_option maxRecDepth 20000 in
theorem ggX4_renew_X4_mix : GoodIn wsX4_renew wsX4_mix := goodIn_r _ [12, 13, 14] (by decide +kernel) (by decide +kernel)
set_option maxRecDepth 20000 in
theorem gX4_renew_X4_mix : GoodIn wsX4_renew (va_wsS RX4 38 yX4_mix wsX4_mix) := goodIn_app (goodIn_of _ (by decide +kernel)) ggX4_renew_X4_mix
theorem dX4_renew_0 : decode cX4_renew 0 = .ok (.iload_n 1, 1) := by decide +kernel
theorem dX4_renew_1 : decode cX4_renew 1 = .ok (.invokestatic 35, 3) := by decide +kernel
theorem dX4_renew_4 : decode cX4_renew 4 = .ok (.istore_n 2, 1) := by decide +kernel
theorem dX4_renew_5 : decode cX4_renew 5 = .ok (.iload_n 1, 1) := by decide +kernel
theorem dX4_renew_6 : decode cX4_renew 6 = .ok (.invokestatic 31, 3) := by decide +kernel
theorem dX4_renew_9 : decode cX4_renew 9 = .ok (.istore_n 3, 1) := by decide +kernel
theorem dX4_renew_10 : decode cX4_renew 10 = .ok (.iload_n 2, 1) := by decide +kernel
theorem dX4_renew_11 : decode cX4_renew 11 = .ok (.istore 4, 2) := by decide +kernel
theorem dX4_renew_13 : decode cX4_renew 13 = .ok (.iload 4, 2) := by decide +kernel
theorem dX4_renew_15 : decode cX4_renew 15 = .ok (.iload_n 3, 1) := by decide +kernel
theorem dX4_renew_16 : decode cX4_renew 16 = .ok (.if_icmp .gt 50, 3) := by decide +kernel
theorem dX4_renew_19 : decode cX4_renew 19 = .ok (.aload_n 0, 1) := by decide +kernel
theorem dX4_renew_20 : decode cX4_renew 20 = .ok (.getfield 13, 3) := by decide +kernel
theorem dX4_renew_23 : decode cX4_renew 23 = .ok (.bipush 64, 2) := by decide +kernel
theorem dX4_renew_25 : decode cX4_renew 25 = .ok (.iload 4, 2) := by decide +kernel
theorem dX4_renew_27 : decode cX4_renew 27 = .ok (.iadd, 1) := by decide +kernel
theorem dX4_renew_28 : decode cX4_renew 28 = .ok (.aload_n 0, 1) := by decide +kernel
theorem dX4_renew_29 : decode cX4_renew 29 = .ok (.getfield 9, 3) := by decide +kernel
theorem dX4_renew_32 : decode cX4_renew 32 = .ok (.iload 4, 2) := by decide +kernel
theorem dX4_renew_34 : decode cX4_renew 34 = .ok (.laload, 1) := by decide +kernel
theorem dX4_renew_35 : decode cX4_renew 35 = .ok (.lconst 0, 1) := by decide +kernel
theorem dX4_renew_36 : decode cX4_renew 36 = .ok (.lcmp, 1) := by decide +kernel
theorem dX4_renew_37 : decode cX4_renew 37 = .ok (.ifCond .ne 7, 3) := by decide +kernel
theorem dX4_renew_40 : decode cX4_renew 40 = .ok (.lconst 0, 1) := by decide +kernel
theorem dX4_renew_41 : decode cX4_renew 41 = .ok (.goto 18, 3) := by decide +kernel
theorem dX4_renew_44 : decode cX4_renew 44 = .ok (.iload 4, 2) := by decide +kernel
theorem dX4_renew_46 : decode cX4_renew 46 = .ok (.i2l, 1) := by decide +kernel
theorem dX4_renew_47 : decode cX4_renew 47 = .ok (.lconst 1, 1) := by decide +kernel
theorem dX4_renew_48 : decode cX4_renew 48 = .ok (.ladd, 1) := by decide +kernel
theorem dX4_renew_49 : decode cX4_renew 49 = .ok (.aload_n 0, 1) := by decide +kernel
theorem dX4_renew_50 : decode cX4_renew 50 = .ok (.getfield 9, 3) := by decide +kernel
theorem dX4_renew_53 : decode cX4_renew 53 = .ok (.iload 4, 2) := by decide +kernel
theorem dX4_renew_55 : decode cX4_renew 55 = .ok (.laload, 1) := by decide +kernel
theorem dX4_renew_56 : decode cX4_renew 56 = .ok (.invokestatic 38, 3) := by decide +kernel
theorem dX4_renew_59 : decode cX4_renew 59 = .ok (.lastore, 1) := by decide +kernel
theorem dX4_renew_60 : decode cX4_renew 60 = .ok (.iinc 4 1, 3) := by decide +kernel
theorem dX4_renew_63 : decode cX4_renew 63 = .ok (.goto (-50), 3) := by decide +kernel
theorem dX4_renew_66 : decode cX4_renew 66 = .ok (.bipush 64, 2) := by decide +kernel
theorem dX4_renew_68 : decode cX4_renew 68 = .ok (.iload_n 2, 1) := by decide +kernel
theorem dX4_renew_69 : decode cX4_renew 69 = .ok (.iadd, 1) := by decide +kernel
theorem dX4_renew_70 : decode cX4_renew 70 = .ok (.istore 4, 2) := by decide +kernel
theorem dX4_renew_72 : decode cX4_renew 72 = .ok (.bipush 64, 2) := by decide +kernel
theorem dX4_renew_74 : decode cX4_renew 74 = .ok (.iload_n 3, 1) := by decide +kernel
theorem dX4_renew_75 : decode cX4_renew 75 = .ok (.iadd, 1) := by decide +kernel
theorem dX4_renew_76 : decode cX4_renew 76 = .ok (.istore 5, 2) := by decide +kernel
theorem dX4_renew_78 : decode cX4_renew 78 = .ok (.iconst 0, 1) := by decide +kernel
theorem dX4_renew_79 : decode cX4_renew 79 = .ok (.istore 6, 2) := by decide +kernel
theorem dX4_renew_81 : decode cX4_renew 81 = .ok (.iload 6, 2) := by decide +kernel
theorem dX4_renew_83 : decode cX4_renew 83 = .ok (.bipush 6, 2) := by decide +kernel
theorem dX4_renew_85 : decode cX4_renew 85 = .ok (.if_icmp .ge 68, 3) := by decide +kernel
theorem dX4_renew_88 : decode cX4_renew 88 = .ok (.iload 4, 2) := by decide +kernel
theorem dX4_renew_90 : decode cX4_renew 90 = .ok (.iconst 2, 1) := by decide +kernel
theorem dX4_renew_91 : decode cX4_renew 91 = .ok (.idiv, 1) := by decide +kernel
theorem dX4_renew_92 : decode cX4_renew 92 = .ok (.istore 4, 2) := by decide +kernel
theorem dX4_renew_94 : decode cX4_renew 94 = .ok (.iload 5, 2) := by decide +kernel
theorem dX4_renew_96 : decode cX4_renew 96 = .ok (.iconst 2, 1) := by decide +kernel
theorem dX4_renew_97 : decode cX4_renew 97 = .ok (.idiv, 1) := by decide +kernel
theorem dX4_renew_98 : decode cX4_renew 98 = .ok (.istore 5, 2) := by decide +kernel
theorem dX4_renew_100 : decode cX4_renew 100 = .ok (.iload 4, 2) := by decide +kernel
theorem dX4_renew_102 : decode cX4_renew 102 = .ok (.istore 7, 2) := by decide +kernel
theorem dX4_renew_104 : decode cX4_renew 104 = .ok (.iload 7, 2) := by decide +kernel
theorem dX4_renew_106 : decode cX4_renew 106 = .ok (.iload 5, 2) := by decide +kernel
theorem dX4_renew_108 : decode cX4_renew 108 = .ok (.if_icmp .gt 39, 3) := by decide +kernel
theorem dX4_renew_111 : decode cX4_renew 111 = .ok (.aload_n 0, 1) := by decide +kernel
theorem dX4_renew_112 : decode cX4_renew 112 = .ok (.getfield 13, 3) := by decide +kernel
theorem dX4_renew_115 : decode cX4_renew 115 = .ok (.iload 7, 2) := by decide +kernel
theorem dX4_renew_117 : decode cX4_renew 117 = .ok (.aload_n 0, 1) := by decide +kernel
theorem dX4_renew_118 : decode cX4_renew 118 = .ok (.getfield 13, 3) := by decide +kernel
theorem dX4_renew_121 : decode cX4_renew 121 = .ok (.iconst 2, 1) := by decide +kernel
theorem dX4_renew_122 : decode cX4_renew 122 = .ok (.iload 7, 2) := by decide +kernel
theorem dX4_renew_124 : decode cX4_renew 124 = .ok (.imul, 1) := by decide +kernel
theorem dX4_renew_125 : decode cX4_renew 125 = .ok (.laload, 1) := by decide +kernel
theorem dX4_renew_126 : decode cX4_renew 126 = .ok (.aload_n 0, 1) := by decide +kernel
theorem dX4_renew_127 : decode cX4_renew 127 = .ok (.getfield 13, 3) := by decide +kernel
theorem dX4_renew_130 : decode cX4_renew 130 = .ok (.iconst 2, 1) := by decide +kernel
theorem dX4_renew_131 : decode cX4_renew 131 = .ok (.iload 7, 2) := by decide +kernel
theorem dX4_renew_133 : decode cX4_renew 133 = .ok (.imul, 1) := by decide +kernel
theorem dX4_renew_134 : decode cX4_renew 134 = .ok (.iconst 1, 1) := by decide +kernel
theorem dX4_renew_135 : decode cX4_renew 135 = .ok (.iadd, 1) := by decide +kernel
theorem dX4_renew_136 : decode cX4_renew 136 = .ok (.laload, 1) := by decide +kernel
theorem dX4_renew_137 : decode cX4_renew 137 = .ok (.invokestatic 38, 3) := by decide +kernel
theorem dX4_renew_140 : decode cX4_renew 140 = .ok (.lastore, 1) := by decide +kernel
theorem dX4_renew_141 : decode cX4_renew 141 = .ok (.iinc 7 1, 3) := by decide +kernel
theorem dX4_renew_144 : decode cX4_renew 144 = .ok (.goto (-40), 3) := by decide +kernel
theorem dX4_renew_147 : decode cX4_renew 147 = .ok (.iinc 6 1, 3) := by decide +kernel
theorem dX4_renew_150 : decode cX4_renew 150 = .ok (.goto (-69), 3) := by decide +kernel
theorem dX4_renew_153 : decode cX4_renew 153 = .ok (.return_, 1) := by decide +kernel
set_option maxRecDepth 20000 in
theorem ggX5_init_X3_init : GoodIn wsX5_init wsX3_init := goodIn_r _ [26, 27, 2, 3, 28, 29, 30, 31, 32, 72, 73, 74] (by decide +kernel) (by decide +kernel)
set_option maxRecDepth 20000 in
theorem gX5_init_X3_init_n9 : GoodIn wsX5_init (wsX3_init) := ggX5_init_X3_init
set_option maxRecDepth 20000 in
theorem ggX5_init_X0_init : GoodIn wsX5_init wsX0_init := goodIn_r _ [34, 35, 2, 3, 28, 36, 37, 38, 39, 40, 41, 42, 43, 81, 82, 83, 84, 85, 86, 87, 88] (by decide +kernel) (by decide +kernel)
set_option maxRecDepth 20000 in
theorem gX5_init_X0_init_n18 : GoodIn wsX5_init (wsX0_init) := ggX5_init_X0_init
set_option maxRecDepth 20000 in
theorem ggX5_init_X1_init : GoodIn wsX5_init wsX1_init := goodIn_r _ [45, 46, 2, 3, 47, 21, 22, 48, 49, 50, 51, 52, 30, 53, 28, 54, 55, 56, 57, 58, 59, 60, 61, 103, 104, 89, 90, 91, 92, 93, 94, 95, 96] (by decide +kernel) (by decide +kernel)
set_option maxRecDepth 20000 in
theorem gX5_init_X1_init_n25 : GoodIn wsX5_init (wsX1_init) := ggX5_init_X1_init
set_option maxRecDepth 20000 in
theorem ggX5_init_X2_init : GoodIn wsX5_init wsX2_init := goodIn_r _ [63, 64, 2, 3, 65, 21, 22, 66, 67, 68, 69, 70, 71, 57, 58, 59, 30, 60, 61, 103, 104, 97, 98, 99, 100, 101, 102] (by decide +kernel) (by decide +kernel)
set_option maxRecDepth 20000 in
theorem gX5_init_X2_init_n32 : GoodIn wsX5_init (wsX2_init) := ggX5_init_X2_init
set_option maxRecDepth 20000 in
theorem ggX5_init_X4_init : GoodIn wsX5_init wsX4_init := goodIn_r _ [58, 59, 2, 3, 30, 60, 61, 103, 104] (by decide +kernel) (by decide +kernel)
set_option maxRecDepth 20000 in
theorem gX5_init_X4_init_n39 : GoodIn wsX5_init (wsX4_init) := ggX5_init_X4_init
theorem dX5_init_0 : decode cX5_init 0 = .ok (.aload_n 0, 1) := by decide +kernel
theorem dX5_init_1 : decode cX5_init 1 = .ok (.invokespecial 1, 3) := by decide +kernel
theorem dX5_init_4 : decode cX5_init 4 = .ok (.aload_n 0, 1) := by decide +kernel
theorem dX5_init_5 : decode cX5_init 5 = .ok (.new 7, 3) := by decide +kernel
theorem dX5_init_8 : decode cX5_init 8 = .ok (.dup, 1) := by decide +kernel
theorem dX5_init_9 : decode cX5_init 9 = .ok (.invokespecial 9, 3) := by decide +kernel
theorem dX5_init_12 : decode cX5_init 12 = .ok (.putfield 10, 3) := by decide +kernel
theorem dX5_init_15 : decode cX5_init 15 = .ok (.aload_n 0, 1) := by decide +kernel
theorem dX5_init_16 : decode cX5_init 16 = .ok (.new 16, 3) := by decide +kernel
theorem dX5_init_19 : decode cX5_init 19 = .ok (.dup, 1) := by decide +kernel
theorem dX5_init_20 : decode cX5_init 20 = .ok (.invokespecial 18, 3) := by decide +kernel
theorem dX5_init_23 : decode cX5_init 23 = .ok (.putfield 19, 3) := by decide +kernel
theorem dX5_init_26 : decode cX5_init 26 = .ok (.aload_n 0, 1) := by decide +kernel
theorem dX5_init_27 : decode cX5_init 27 = .ok (.new 23, 3) := by decide +kernel
theorem dX5_init_30 : decode cX5_init 30 = .ok (.dup, 1) := by decide +kernel
theorem dX5_init_31 : decode cX5_init 31 = .ok (.invokespecial 25, 3) := by decide +kernel
theorem dX5_init_34 : decode cX5_init 34 = .ok (.putfield 26, 3) := by decide +kernel
theorem dX5_init_37 : decode cX5_init 37 = .ok (.aload_n 0, 1) := by decide +kernel
theorem dX5_init_38 : decode cX5_init 38 = .ok (.new 30, 3) := by decide +kernel
theorem dX5_init_41 : decode cX5_init 41 = .ok (.dup, 1) := by decide +kernel
theorem dX5_init_42 : decode cX5_init 42 = .ok (.invokespecial 32, 3) := by decide +kernel
theorem dX5_init_45 : decode cX5_init 45 = .ok (.putfield 33, 3) := by decide +kernel
theorem dX5_init_48 : decode cX5_init 48 = .ok (.aload_n 0, 1) := by decide +kernel
theorem dX5_init_49 : decode cX5_init 49 = .ok (.new 37, 3) := by decide +kernel
theorem dX5_init_52 : decode cX5_init 52 = .ok (.dup, 1) := by decide +kernel
theorem dX5_init_53 : decode cX5_init 53 = .ok (.invokespecial 39, 3) := by decide +kernel
theorem dX5_init_56 : decode cX5_init 56 = .ok (.putfield 40, 3) := by decide +kernel
theorem dX5_init_59 : decode cX5_init 59 = .ok (.aload_n 0, 1) := by decide +kernel
theorem dX5_init_60 : decode cX5_init 60 = .ok (.iconst 0, 1) := by decide +kernel
theorem dX5_init_61 : decode cX5_init 61 = .ok (.putfield 44, 3) := by decide +kernel
theorem dX5_init_64 : decode cX5_init 64 = .ok (.return_, 1) := by decide +kernel
set_option maxRecDepth 20000 in
theorem ggX5_leaf_X4_isPath : GoodIn wsX5_leaf wsX4_isPath := goodIn_r _ [6] (by decide +kernel) (by decide +kernel)
set_option maxRecDepth 20000 in
theorem gX5_leaf_X4_isPath : GoodIn wsX5_leaf (va_wsS RX5 48 yX4_isPath wsX4_isPath) := goodIn_app (goodIn_of _ (by decide +kernel)) ggX5_leaf_X4_isPath
set_option maxRecDepth 20000 in
theorem ggX5_leaf_X3_append : GoodIn wsX5_leaf wsX3_append := goodIn_r _ [11, 12, 13, 14, 21, 22, 23] (by decide +kernel) (by decide +kernel)
set_option maxRecDepth 20000 in
theorem gX5_leaf_X3_append : GoodIn wsX5_leaf (wsV RX5 52 RX3 yX3_append wsX3_append) := goodIn_app (goodIn_of _ (by decide +kernel)) ggX5_leaf_X3_append
theorem dX5_leaf_0 : decode cX5_leaf 0 = .ok (.iload_n 1, 1) := by decide +kernel
theorem dX5_leaf_1 : decode cX5_leaf 1 = .ok (.invokestatic 48, 3) := by decide +kernel
theorem dX5_leaf_4 : decode cX5_leaf 4 = .ok (.ifCond .ne 5, 3) := by decide +kernel
theorem dX5_leaf_7 : decode cX5_leaf 7 = .ok (.iconst (-1), 1) := by decide +kernel
theorem dX5_leaf_8 : decode cX5_leaf 8 = .ok (.ireturn, 1) := by decide +kernel
theorem dX5_leaf_9 : decode cX5_leaf 9 = .ok (.aload_n 0, 1) := by decide +kernel
theorem dX5_leaf_10 : decode cX5_leaf 10 = .ok (.getfield 10, 3) := by decide +kernel
theorem dX5_leaf_13 : decode cX5_leaf 13 = .ok (.iload_n 1, 1) := by decide +kernel
theorem dX5_leaf_14 : decode cX5_leaf 14 = .ok (.lload_n 2, 1) := by decide +kernel
theorem dX5_leaf_15 : decode cX5_leaf 15 = .ok (.invokevirtual 52, 3) := by decide +kernel
theorem dX5_leaf_18 : decode cX5_leaf 18 = .ok (.ifCond .eq 13, 3) := by decide +kernel
theorem dX5_leaf_21 : decode cX5_leaf 21 = .ok (.aload_n 0, 1) := by decide +kernel
theorem dX5_leaf_22 : decode cX5_leaf 22 = .ok (.getfield 10, 3) := by decide +kernel
theorem dX5_leaf_25 : decode cX5_leaf 25 = .ok (.getfield 56, 3) := by decide +kernel
theorem dX5_leaf_28 : decode cX5_leaf 28 = .ok (.goto 5, 3) := by decide +kernel
theorem dX5_leaf_31 : decode cX5_leaf 31 = .ok (.bipush (-2), 2) := by decide +kernel
theorem dX5_leaf_33 : decode cX5_leaf 33 = .ok (.ireturn, 1) := by decide +kernel
set_option maxRecDepth 20000 in
theorem ggX5_value_X3_hasHeight : GoodIn wsX5_value wsX3_hasHeight := goodIn_r _ [6, 7, 24, 25, 26] (by decide +kernel) (by decide +kernel)
set_option maxRecDepth 20000 in
theorem gX5_value_X3_hasHeight : GoodIn wsX5_value (wsV RX5 59 RX3 yX3_hasHeight wsX3_hasHeight) := goodIn_app (goodIn_of _ (by decide +kernel)) ggX5_value_X3_hasHeight
set_option maxRecDepth 20000 in
theorem ggX5_value_X3_valueAt : GoodIn wsX5_value wsX3_valueAt := goodIn_r _ [11, 7, 12, 13, 14, 15, 16, 17, 24, 25, 26] (by decide +kernel) (by decide +kernel)
set_option maxRecDepth 20000 in
theorem gX5_value_X3_valueAt : GoodIn wsX5_value (wsV RX5 62 RX3 yX3_valueAt wsX3_valueAt) := goodIn_app (goodIn_of _ (by decide +kernel)) ggX5_value_X3_valueAt
theorem dX5_value_0 : decode cX5_value 0 = .ok (.aload_n 0, 1) := by decide +kernel
theorem dX5_value_1 : decode cX5_value 1 = .ok (.getfield 10, 3) := by decide +kernel
theorem dX5_value_4 : decode cX5_value 4 = .ok (.iload_n 1, 1) := by decide +kernel
theorem dX5_value_5 : decode cX5_value 5 = .ok (.invokevirtual 59, 3) := by decide +kernel
theorem dX5_value_8 : decode cX5_value 8 = .ok (.ifCond .eq 15, 3) := by decide +kernel
theorem dX5_value_11 : decode cX5_value 11 = .ok (.aload_n 0, 1) := by decide +kernel
theorem dX5_value_12 : decode cX5_value 12 = .ok (.getfield 10, 3) := by decide +kernel
theorem dX5_value_15 : decode cX5_value 15 = .ok (.iload_n 1, 1) := by decide +kernel
theorem dX5_value_16 : decode cX5_value 16 = .ok (.iload_n 2, 1) := by decide +kernel
theorem dX5_value_17 : decode cX5_value 17 = .ok (.invokevirtual 62, 3) := by decide +kernel
theorem dX5_value_20 : decode cX5_value 20 = .ok (.goto 4, 3) := by decide +kernel
theorem dX5_value_23 : decode cX5_value 23 = .ok (.lconst 0, 1) := by decide +kernel
theorem dX5_value_24 : decode cX5_value 24 = .ok (.lreturn, 1) := by decide +kernel
set_option maxRecDepth 20000 in
theorem ggX5_digest_X3_hasHeight : GoodIn wsX5_digest wsX3_hasHeight := goodIn_r _ [7, 8, 55, 56, 57] (by decide +kernel) (by decide +kernel)
set_option maxRecDepth 20000 in
theorem gX5_digest_X3_hasHeight : GoodIn wsX5_digest (wsV RX5 59 RX3 yX3_hasHeight wsX3_hasHeight) := goodIn_app (goodIn_of _ (by decide +kernel)) ggX5_digest_X3_hasHeight
set_option maxRecDepth 20000 in
theorem ggX5_digest_X4_isNode : GoodIn wsX5_digest wsX4_isNode := goodIn_r _ [12] (by decide +kernel) (by decide +kernel)
set_option maxRecDepth 20000 in
theorem gX5_digest_X4_isNode : GoodIn wsX5_digest (va_wsS RX5 66 yX4_isNode wsX4_isNode) := goodIn_app (goodIn_of _ (by decide +kernel)) ggX5_digest_X4_isNode
set_option maxRecDepth 20000 in
theorem ggX5_digest_X3_copyState : GoodIn wsX5_digest wsX3_copyState := goodIn_r _ [16, 17, 8, 18, 19, 20, 21, 22, 23, 24, 25, 11, 26, 27, 28, 29, 30, 31, 32, 33, 34, 35, 36, 37, 38, 39, 40, 41, 42, 43, 58, 59, 55, 56, 57] (by decide +kernel) (by decide +kernel)
set_option maxRecDepth 20000 in
theorem gX5_digest_X3_copyState : GoodIn wsX5_digest (wsV RX5 69 RX3 yX3_copyState wsX3_copyState) := goodIn_app (goodIn_of _ (by decide +kernel)) ggX5_digest_X3_copyState
set_option maxRecDepth 20000 in
theorem ggX5_digest_X4_digestOf : GoodIn wsX5_digest wsX4_digestOf := goodIn_r _ [47, 31, 48, 10, 11, 12, 58, 59] (by decide +kernel) (by decide +kernel)
set_option maxRecDepth 20000 in
theorem gX5_digest_X4_digestOf : GoodIn wsX5_digest (wsV RX5 73 RX4 yX4_digestOf wsX4_digestOf) := goodIn_app (goodIn_of _ (by decide +kernel)) ggX5_digest_X4_digestOf
theorem dX5_digest_0 : decode cX5_digest 0 = .ok (.aload_n 0, 1) := by decide +kernel
theorem dX5_digest_1 : decode cX5_digest 1 = .ok (.getfield 10, 3) := by decide +kernel
theorem dX5_digest_4 : decode cX5_digest 4 = .ok (.iload_n 1, 1) := by decide +kernel
theorem dX5_digest_5 : decode cX5_digest 5 = .ok (.invokevirtual 59, 3) := by decide +kernel
theorem dX5_digest_8 : decode cX5_digest 8 = .ok (.ifCond .eq 10, 3) := by decide +kernel
theorem dX5_digest_11 : decode cX5_digest 11 = .ok (.iload_n 2, 1) := by decide +kernel
theorem dX5_digest_12 : decode cX5_digest 12 = .ok (.invokestatic 66, 3) := by decide +kernel
theorem dX5_digest_15 : decode cX5_digest 15 = .ok (.ifCond .ne 5, 3) := by decide +kernel
theorem dX5_digest_18 : decode cX5_digest 18 = .ok (.lconst 0, 1) := by decide +kernel
theorem dX5_digest_19 : decode cX5_digest 19 = .ok (.lreturn, 1) := by decide +kernel
theorem dX5_digest_20 : decode cX5_digest 20 = .ok (.aload_n 0, 1) := by decide +kernel
theorem dX5_digest_21 : decode cX5_digest 21 = .ok (.getfield 10, 3) := by decide +kernel
theorem dX5_digest_24 : decode cX5_digest 24 = .ok (.iload_n 1, 1) := by decide +kernel
theorem dX5_digest_25 : decode cX5_digest 25 = .ok (.aload_n 0, 1) := by decide +kernel
theorem dX5_digest_26 : decode cX5_digest 26 = .ok (.getfield 40, 3) := by decide +kernel
theorem dX5_digest_29 : decode cX5_digest 29 = .ok (.invokevirtual 69, 3) := by decide +kernel
theorem dX5_digest_32 : decode cX5_digest 32 = .ok (.aload_n 0, 1) := by decide +kernel
theorem dX5_digest_33 : decode cX5_digest 33 = .ok (.getfield 40, 3) := by decide +kernel
theorem dX5_digest_36 : decode cX5_digest 36 = .ok (.iload_n 2, 1) := by decide +kernel
theorem dX5_digest_37 : decode cX5_digest 37 = .ok (.invokevirtual 73, 3) := by decide +kernel
theorem dX5_digest_40 : decode cX5_digest 40 = .ok (.lreturn, 1) := by decide +kernel
set_option maxRecDepth 20000 in
theorem ggX5_giver_X0_append : GoodIn wsX5_giver wsX0_append := goodIn_r _ [7, 8, 9, 10, 17, 18, 19, 20, 21, 22, 23, 24] (by decide +kernel) (by decide +kernel)
set_option maxRecDepth 20000 in
theorem gX5_giver_X0_append : GoodIn wsX5_giver (wsV RX5 77 RX0 yX0_append wsX0_append) := goodIn_app (goodIn_of _ (by decide +kernel)) ggX5_giver_X0_append
theorem dX5_giver_0 : decode cX5_giver 0 = .ok (.iload_n 1, 1) := by decide +kernel
theorem dX5_giver_1 : decode cX5_giver 1 = .ok (.ifCond .lt 20, 3) := by decide +kernel
theorem dX5_giver_4 : decode cX5_giver 4 = .ok (.iload_n 1, 1) := by decide +kernel
theorem dX5_giver_5 : decode cX5_giver 5 = .ok (.iconst 4, 1) := by decide +kernel
theorem dX5_giver_6 : decode cX5_giver 6 = .ok (.if_icmp .gt 15, 3) := by decide +kernel
theorem dX5_giver_9 : decode cX5_giver 9 = .ok (.iload_n 2, 1) := by decide +kernel
theorem dX5_giver_10 : decode cX5_giver 10 = .ok (.iconst (-1), 1) := by decide +kernel
theorem dX5_giver_11 : decode cX5_giver 11 = .ok (.if_icmp .lt 10, 3) := by decide +kernel
theorem dX5_giver_14 : decode cX5_giver 14 = .ok (.iload_n 2, 1) := by decide +kernel
theorem dX5_giver_15 : decode cX5_giver 15 = .ok (.sipush 200, 3) := by decide +kernel
theorem dX5_giver_18 : decode cX5_giver 18 = .ok (.if_icmp .le 5, 3) := by decide +kernel
theorem dX5_giver_21 : decode cX5_giver 21 = .ok (.iconst (-1), 1) := by decide +kernel
theorem dX5_giver_22 : decode cX5_giver 22 = .ok (.ireturn, 1) := by decide +kernel
theorem dX5_giver_23 : decode cX5_giver 23 = .ok (.aload_n 0, 1) := by decide +kernel
theorem dX5_giver_24 : decode cX5_giver 24 = .ok (.getfield 19, 3) := by decide +kernel
theorem dX5_giver_27 : decode cX5_giver 27 = .ok (.iload_n 1, 1) := by decide +kernel
theorem dX5_giver_28 : decode cX5_giver 28 = .ok (.iload_n 2, 1) := by decide +kernel
theorem dX5_giver_29 : decode cX5_giver 29 = .ok (.invokevirtual 77, 3) := by decide +kernel
theorem dX5_giver_32 : decode cX5_giver 32 = .ok (.ifCond .eq 15, 3) := by decide +kernel
theorem dX5_giver_35 : decode cX5_giver 35 = .ok (.aload_n 0, 1) := by decide +kernel
theorem dX5_giver_36 : decode cX5_giver 36 = .ok (.getfield 19, 3) := by decide +kernel
theorem dX5_giver_39 : decode cX5_giver 39 = .ok (.getfield 80, 3) := by decide +kernel
theorem dX5_giver_42 : decode cX5_giver 42 = .ok (.iconst 1, 1) := by decide +kernel
theorem dX5_giver_43 : decode cX5_giver 43 = .ok (.isub, 1) := by decide +kernel
theorem dX5_giver_44 : decode cX5_giver 44 = .ok (.goto 5, 3) := by decide +kernel
theorem dX5_giver_47 : decode cX5_giver 47 = .ok (.bipush (-2), 2) := by decide +kernel
theorem dX5_giver_49 : decode cX5_giver 49 = .ok (.ireturn, 1) := by decide +kernel
set_option maxRecDepth 20000 in
theorem ggX5_faults_X0_has : GoodIn wsX5_faults wsX0_has := goodIn_r _ [7, 8, 15, 16, 17, 18, 19, 20, 21, 22] (by decide +kernel) (by decide +kernel)
set_option maxRecDepth 20000 in
theorem gX5_faults_X0_has : GoodIn wsX5_faults (wsV RX5 83 RX0 yX0_has wsX0_has) := goodIn_app (goodIn_of _ (by decide +kernel)) ggX5_faults_X0_has
theorem dX5_faults_0 : decode cX5_faults 0 = .ok (.aload_n 0, 1) := by decide +kernel
theorem dX5_faults_1 : decode cX5_faults 1 = .ok (.getfield 19, 3) := by decide +kernel
theorem dX5_faults_4 : decode cX5_faults 4 = .ok (.iload_n 1, 1) := by decide +kernel
theorem dX5_faults_5 : decode cX5_faults 5 = .ok (.invokevirtual 83, 3) := by decide +kernel
theorem dX5_faults_8 : decode cX5_faults 8 = .ok (.ifCond .eq 15, 3) := by decide +kernel
theorem dX5_faults_11 : decode cX5_faults 11 = .ok (.aload_n 0, 1) := by decide +kernel
theorem dX5_faults_12 : decode cX5_faults 12 = .ok (.getfield 19, 3) := by decide +kernel
theorem dX5_faults_15 : decode cX5_faults 15 = .ok (.getfield 86, 3) := by decide +kernel
theorem dX5_faults_18 : decode cX5_faults 18 = .ok (.iload_n 1, 1) := by decide +kernel
theorem dX5_faults_19 : decode cX5_faults 19 = .ok (.iaload, 1) := by decide +kernel
theorem dX5_faults_20 : decode cX5_faults 20 = .ok (.goto 4, 3) := by decide +kernel
theorem dX5_faults_23 : decode cX5_faults 23 = .ok (.iconst (-1), 1) := by decide +kernel
theorem dX5_faults_24 : decode cX5_faults 24 = .ok (.ireturn, 1) := by decide +kernel
theorem dX5_named_0 : decode cX5_named 0 = .ok (.iload_n 1, 1) := by decide +kernel
theorem dX5_named_1 : decode cX5_named 1 = .ok (.ifCond .lt 26, 3) := by decide +kernel
theorem dX5_named_4 : decode cX5_named 4 = .ok (.iload_n 1, 1) := by decide +kernel
theorem dX5_named_5 : decode cX5_named 5 = .ok (.aload_n 0, 1) := by decide +kernel
theorem dX5_named_6 : decode cX5_named 6 = .ok (.getfield 19, 3) := by decide +kernel
theorem dX5_named_9 : decode cX5_named 9 = .ok (.getfield 90, 3) := by decide +kernel
theorem dX5_named_12 : decode cX5_named 12 = .ok (.if_icmp .ge 15, 3) := by decide +kernel
theorem dX5_named_15 : decode cX5_named 15 = .ok (.aload_n 0, 1) := by decide +kernel
theorem dX5_named_16 : decode cX5_named 16 = .ok (.getfield 19, 3) := by decide +kernel
theorem dX5_named_19 : decode cX5_named 19 = .ok (.getfield 93, 3) := by decide +kernel
theorem dX5_named_22 : decode cX5_named 22 = .ok (.iload_n 1, 1) := by decide +kernel
theorem dX5_named_23 : decode cX5_named 23 = .ok (.iaload, 1) := by decide +kernel
theorem dX5_named_24 : decode cX5_named 24 = .ok (.goto 4, 3) := by decide +kernel
theorem dX5_named_27 : decode cX5_named 27 = .ok (.iconst (-1), 1) := by decide +kernel
theorem dX5_named_28 : decode cX5_named 28 = .ok (.ireturn, 1) := by decide +kernel
set_option maxRecDepth 20000 in
theorem ggX5_target_X3_hasHeight : GoodIn wsX5_target wsX3_hasHeight := goodIn_r _ [8, 9, 104, 105, 106] (by decide +kernel) (by decide +kernel)
set_option maxRecDepth 20000 in
theorem gX5_target_X3_hasHeight : GoodIn wsX5_target (wsV RX5 59 RX3 yX3_hasHeight wsX3_hasHeight) := goodIn_app (goodIn_of _ (by decide +kernel)) ggX5_target_X3_hasHeight
set_option maxRecDepth 20000 in
theorem ggX5_target_X1_aim : GoodIn wsX5_target wsX1_aim := goodIn_r _ [14, 15, 16, 17, 18, 19, 20, 21, 22, 23, 24, 7, 25, 26, 9, 27, 28, 29, 30, 31, 32, 33, 34, 35, 36, 37, 38, 39, 40, 41, 42, 43, 44, 45, 46, 47, 48, 49, 50, 51, 52, 53, 54, 55, 13, 56, 57, 58, 59, 60, 61, 62, 63, 64, 65, 66, 67, 68, 69, 70, 71, 72, 73, 74, 75, 76, 77, 78, 79, 80, 81, 82, 83, 84, 85, 86, 87, 88, 89, 96, 97, 98, 99, 100, 101, 102, 103, 107, 108, 104, 105, 106] (by decide +kernel) (by decide +kernel)
set_option maxRecDepth 20000 in
theorem gX5_target_X1_aim : GoodIn wsX5_target (wsV RX5 96 RX1 yX1_aim wsX1_aim) := goodIn_app (goodIn_of _ (by decide +kernel)) ggX5_target_X1_aim
theorem dX5_target_0 : decode cX5_target 0 = .ok (.aload_n 0, 1) := by decide +kernel
theorem dX5_target_1 : decode cX5_target 1 = .ok (.getfield 10, 3) := by decide +kernel
theorem dX5_target_4 : decode cX5_target 4 = .ok (.iload_n 1, 1) := by decide +kernel
end
section
theorem dX5_target_5 : decode cX5_target 5 = .ok (.invokevirtual 59, 3) := by decide +kernel
theorem dX5_target_8 : decode cX5_target 8 = .ok (.ifCond .ne 5, 3) := by decide +kernel
theorem dX5_target_11 : decode cX5_target 11 = .ok (.iconst (-1), 1) := by decide +kernel
theorem dX5_target_12 : decode cX5_target 12 = .ok (.ireturn, 1) := by decide +kernel
theorem dX5_target_13 : decode cX5_target 13 = .ok (.aload_n 0, 1) := by decide +kernel
theorem dX5_target_14 : decode cX5_target 14 = .ok (.getfield 26, 3) := by decide +kernel
theorem dX5_target_17 : decode cX5_target 17 = .ok (.iload_n 1, 1) := by decide +kernel
theorem dX5_target_18 : decode cX5_target 18 = .ok (.aload_n 0, 1) := by decide +kernel
theorem dX5_target_19 : decode cX5_target 19 = .ok (.getfield 10, 3) := by decide +kernel
theorem dX5_target_22 : decode cX5_target 22 = .ok (.invokevirtual 96, 3) := by decide +kernel
theorem dX5_target_25 : decode cX5_target 25 = .ok (.aload_n 0, 1) := by decide +kernel
theorem dX5_target_26 : decode cX5_target 26 = .ok (.getfield 26, 3) := by decide +kernel
theorem dX5_target_29 : decode cX5_target 29 = .ok (.getfield 100, 3) := by decide +kernel
theorem dX5_target_32 : decode cX5_target 32 = .ok (.ireturn, 1) := by decide +kernel
set_option maxRecDepth 20000 in
theorem ggX5_ask_X0_has : GoodIn wsX5_ask wsX0_has := goodIn_r _ [7, 8, 165, 166, 167, 168, 169, 170, 171, 172] (by decide +kernel) (by decide +kernel)
set_option maxRecDepth 20000 in
theorem gX5_ask_X0_has : GoodIn wsX5_ask (wsV RX5 83 RX0 yX0_has wsX0_has) := goodIn_app (goodIn_of _ (by decide +kernel)) ggX5_ask_X0_has
set_option maxRecDepth 20000 in
theorem ggX5_ask_X4_isNode : GoodIn wsX5_ask wsX4_isNode := goodIn_r _ [12] (by decide +kernel) (by decide +kernel)
set_option maxRecDepth 20000 in
theorem gX5_ask_X4_isNode : GoodIn wsX5_ask (va_wsS RX5 66 yX4_isNode wsX4_isNode) := goodIn_app (goodIn_of _ (by decide +kernel)) ggX5_ask_X4_isNode
set_option maxRecDepth 20000 in
theorem ggX5_ask_X1_lacks : GoodIn wsX5_ask wsX1_lacks := goodIn_r _ [17, 18, 19, 20, 21, 10, 11, 12, 22, 23, 24, 25, 26, 27, 28, 29, 30, 173, 174, 175, 176, 177, 178, 179, 180, 181, 182] (by decide +kernel) (by decide +kernel)
set_option maxRecDepth 20000 in
theorem gX5_ask_X1_lacks : GoodIn wsX5_ask (wsV RX5 103 RX1 yX1_lacks wsX1_lacks) := goodIn_app (goodIn_of _ (by decide +kernel)) ggX5_ask_X1_lacks
set_option maxRecDepth 20000 in
theorem ggX5_ask_X5_exchange : GoodIn wsX5_ask wsX5_exchange := goodIn_r _ [35, 1, 2, 36, 37, 38, 39, 40, 41, 42, 3, 4, 5, 6, 7, 8, 43, 44, 45, 46, 47, 48, 49, 50, 51, 52, 29, 11, 30, 53, 54, 55, 56, 57, 58, 59, 60, 61, 62, 63, 64, 65, 66, 27, 10, 12, 67, 68, 69, 70, 71, 72, 73, 74, 75, 76, 26, 77, 78, 79, 80, 81, 82, 83, 84, 85, 86, 87, 88, 89, 90, 91, 92, 93, 94, 95, 96, 97, 98, 99, 100, 101, 102, 103, 104, 105, 106, 107, 108, 109, 110, 111, 112, 113, 114, 115, 116, 117, 23, 24, 25, 118, 119, 120, 16, 121, 122, 19, 21, 123, 124, 125, 126, 127, 128, 129, 130, 131, 132, 133, 134, 20, 135, 136, 137, 138, 139, 18, 140, 141, 142, 143, 144, 145, 146, 147, 148, 149, 150, 151, 14, 15, 17, 22, 28, 152, 153, 154, 155, 156, 157, 158, 159, 160, 161, 162, 163, 164, 173, 174, 175, 176, 177, 178, 179, 180, 165, 166, 167, 168, 169, 170, 171, 172, 183, 184, 185, 186, 187, 188, 181, 182] (by decide +kernel) (by decide +kernel)
set_option maxRecDepth 20000 in
theorem gX5_ask_X5_exchange : GoodIn wsX5_ask (wsV RX5 106 RX5 yX5_exchange wsX5_exchange) := goodIn_app (goodIn_of _ (by decide +kernel)) ggX5_ask_X5_exchange
theorem dX5_ask_0 : decode cX5_ask 0 = .ok (.aload_n 0, 1) := by decide +kernel
theorem dX5_ask_1 : decode cX5_ask 1 = .ok (.getfield 19, 3) := by decide +kernel
theorem dX5_ask_4 : decode cX5_ask 4 = .ok (.iload_n 1, 1) := by decide +kernel
theorem dX5_ask_5 : decode cX5_ask 5 = .ok (.invokevirtual 83, 3) := by decide +kernel
theorem dX5_ask_8 : decode cX5_ask 8 = .ok (.ifCond .eq 19, 3) := by decide +kernel
theorem dX5_ask_11 : decode cX5_ask 11 = .ok (.iload_n 2, 1) := by decide +kernel
theorem dX5_ask_12 : decode cX5_ask 12 = .ok (.invokestatic 66, 3) := by decide +kernel
theorem dX5_ask_15 : decode cX5_ask 15 = .ok (.ifCond .eq 12, 3) := by decide +kernel
theorem dX5_ask_18 : decode cX5_ask 18 = .ok (.iload_n 3, 1) := by decide +kernel
theorem dX5_ask_19 : decode cX5_ask 19 = .ok (.ifCond .eq 10, 3) := by decide +kernel
theorem dX5_ask_22 : decode cX5_ask 22 = .ok (.iload_n 2, 1) := by decide +kernel
theorem dX5_ask_23 : decode cX5_ask 23 = .ok (.iconst 4, 1) := by decide +kernel
theorem dX5_ask_24 : decode cX5_ask 24 = .ok (.if_icmp .ge 5, 3) := by decide +kernel
theorem dX5_ask_27 : decode cX5_ask 27 = .ok (.iconst (-1), 1) := by decide +kernel
theorem dX5_ask_28 : decode cX5_ask 28 = .ok (.ireturn, 1) := by decide +kernel
theorem dX5_ask_29 : decode cX5_ask 29 = .ok (.aload_n 0, 1) := by decide +kernel
theorem dX5_ask_30 : decode cX5_ask 30 = .ok (.getfield 26, 3) := by decide +kernel
theorem dX5_ask_33 : decode cX5_ask 33 = .ok (.iload_n 2, 1) := by decide +kernel
theorem dX5_ask_34 : decode cX5_ask 34 = .ok (.invokevirtual 103, 3) := by decide +kernel
theorem dX5_ask_37 : decode cX5_ask 37 = .ok (.ifCond .eq 13, 3) := by decide +kernel
theorem dX5_ask_40 : decode cX5_ask 40 = .ok (.aload_n 0, 1) := by decide +kernel
theorem dX5_ask_41 : decode cX5_ask 41 = .ok (.iload_n 1, 1) := by decide +kernel
theorem dX5_ask_42 : decode cX5_ask 42 = .ok (.iload_n 2, 1) := by decide +kernel
theorem dX5_ask_43 : decode cX5_ask 43 = .ok (.iload_n 3, 1) := by decide +kernel
theorem dX5_ask_44 : decode cX5_ask 44 = .ok (.invokevirtual 106, 3) := by decide +kernel
theorem dX5_ask_47 : decode cX5_ask 47 = .ok (.goto 5, 3) := by decide +kernel
theorem dX5_ask_50 : decode cX5_ask 50 = .ok (.bipush (-3), 2) := by decide +kernel
theorem dX5_ask_52 : decode cX5_ask 52 = .ok (.ireturn, 1) := by decide +kernel
set_option maxRecDepth 20000 in
theorem ggX5_play_X1_hasGoal : GoodIn wsX5_play wsX1_hasGoal := goodIn_r _ [12, 13, 185, 186, 187, 188, 189, 190, 191, 192] (by decide +kernel) (by decide +kernel)
set_option maxRecDepth 20000 in
theorem gX5_play_X1_hasGoal : GoodIn wsX5_play (wsV RX5 110 RX1 yX1_hasGoal wsX1_hasGoal) := goodIn_app (goodIn_of _ (by decide +kernel)) ggX5_play_X1_hasGoal
set_option maxRecDepth 20000 in
theorem ggX5_play_X1_lackAt : GoodIn wsX5_play wsX1_lackAt := goodIn_r _ [17, 18, 19, 185, 186, 187, 188, 189, 190, 191, 192] (by decide +kernel) (by decide +kernel)
set_option maxRecDepth 20000 in
theorem gX5_play_X1_lackAt : GoodIn wsX5_play (wsV RX5 119 RX1 yX1_lackAt wsX1_lackAt) := goodIn_app (goodIn_of _ (by decide +kernel)) ggX5_play_X1_lackAt
set_option maxRecDepth 20000 in
theorem ggX5_play_X5_exchange : GoodIn wsX5_play wsX5_exchange := goodIn_r _ [24, 2, 1, 25, 26, 27, 28, 29, 30, 31, 32, 33, 34, 35, 36, 37, 38, 39, 40, 41, 42, 43, 44, 45, 46, 47, 48, 49, 50, 51, 52, 53, 54, 55, 56, 57, 58, 59, 60, 61, 62, 63, 64, 65, 66, 67, 68, 69, 70, 71, 72, 73, 74, 75, 76, 77, 78, 79, 80, 81, 82, 83, 84, 85, 86, 87, 88, 89, 90, 91, 92, 93, 94, 95, 96, 97, 98, 99, 100, 101, 102, 103, 104, 105, 106, 107, 108, 109, 110, 111, 112, 113, 114, 115, 116, 117, 118, 119, 120, 121, 122, 123, 124, 125, 11, 126, 127, 128, 129, 130, 131, 132, 133, 134, 135, 136, 137, 138, 139, 140, 141, 142, 143, 144, 145, 146, 147, 148, 149, 150, 151, 152, 153, 154, 155, 156, 157, 18, 19, 158, 159, 160, 161, 162, 163, 164, 165, 166, 167, 168, 169, 170, 171, 172, 173, 174, 175, 176, 185, 186, 187, 188, 189, 190, 191, 192, 177, 178, 179, 180, 181, 182, 183, 184, 193, 194, 195, 196, 197, 198, 199, 200] (by decide +kernel) (by decide +kernel)
set_option maxRecDepth 20000 in
theorem gX5_play_X5_exchange : GoodIn wsX5_play (wsV RX5 106 RX5 yX5_exchange wsX5_exchange) := goodIn_app (goodIn_of _ (by decide +kernel)) ggX5_play_X5_exchange
theorem dX5_play_0 : decode cX5_play 0 = .ok (.iload_n 3, 1) := by decide +kernel
theorem dX5_play_1 : decode cX5_play 1 = .ok (.iconst 1, 1) := by decide +kernel
theorem dX5_play_2 : decode cX5_play 2 = .ok (.if_icmp .lt 10, 3) := by decide +kernel
theorem dX5_play_5 : decode cX5_play 5 = .ok (.iload_n 3, 1) := by decide +kernel
theorem dX5_play_6 : decode cX5_play 6 = .ok (.sipush 300, 3) := by decide +kernel
theorem dX5_play_9 : decode cX5_play 9 = .ok (.if_icmp .le 5, 3) := by decide +kernel
theorem dX5_play_12 : decode cX5_play 12 = .ok (.iconst (-1), 1) := by decide +kernel
theorem dX5_play_13 : decode cX5_play 13 = .ok (.ireturn, 1) := by decide +kernel
theorem dX5_play_14 : decode cX5_play 14 = .ok (.aload_n 0, 1) := by decide +kernel
theorem dX5_play_15 : decode cX5_play 15 = .ok (.getfield 26, 3) := by decide +kernel
theorem dX5_play_18 : decode cX5_play 18 = .ok (.invokevirtual 110, 3) := by decide +kernel
theorem dX5_play_21 : decode cX5_play 21 = .ok (.ifCond .ne 6, 3) := by decide +kernel
theorem dX5_play_24 : decode cX5_play 24 = .ok (.bipush (-3), 2) := by decide +kernel
theorem dX5_play_26 : decode cX5_play 26 = .ok (.ireturn, 1) := by decide +kernel
theorem dX5_play_27 : decode cX5_play 27 = .ok (.lload_n 1, 1) := by decide +kernel
theorem dX5_play_28 : decode cX5_play 28 = .ok (.lstore 4, 2) := by decide +kernel
theorem dX5_play_30 : decode cX5_play 30 = .ok (.iconst 0, 1) := by decide +kernel
theorem dX5_play_31 : decode cX5_play 31 = .ok (.istore 6, 2) := by decide +kernel
theorem dX5_play_33 : decode cX5_play 33 = .ok (.iconst 0, 1) := by decide +kernel
theorem dX5_play_34 : decode cX5_play 34 = .ok (.istore 7, 2) := by decide +kernel
theorem dX5_play_36 : decode cX5_play 36 = .ok (.iload 7, 2) := by decide +kernel
theorem dX5_play_38 : decode cX5_play 38 = .ok (.iload_n 3, 1) := by decide +kernel
theorem dX5_play_39 : decode cX5_play 39 = .ok (.if_icmp .ge 124, 3) := by decide +kernel
theorem dX5_play_42 : decode cX5_play 42 = .ok (.aload_n 0, 1) := by decide +kernel
theorem dX5_play_43 : decode cX5_play 43 = .ok (.getfield 19, 3) := by decide +kernel
theorem dX5_play_46 : decode cX5_play 46 = .ok (.getfield 80, 3) := by decide +kernel
theorem dX5_play_49 : decode cX5_play 49 = .ok (.ifCond .le 114, 3) := by decide +kernel
theorem dX5_play_52 : decode cX5_play 52 = .ok (.aload_n 0, 1) := by decide +kernel
theorem dX5_play_53 : decode cX5_play 53 = .ok (.getfield 26, 3) := by decide +kernel
theorem dX5_play_56 : decode cX5_play 56 = .ok (.getfield 100, 3) := by decide +kernel
theorem dX5_play_59 : decode cX5_play 59 = .ok (.ifCond .le 104, 3) := by decide +kernel
theorem dX5_play_62 : decode cX5_play 62 = .ok (.lload 4, 2) := by decide +kernel
theorem dX5_play_64 : decode cX5_play 64 = .ok (.ldc2_w 114, 3) := by decide +kernel
theorem dX5_play_67 : decode cX5_play 67 = .ok (.lmul, 1) := by decide +kernel
theorem dX5_play_68 : decode cX5_play 68 = .ok (.ldc2_w 116, 3) := by decide +kernel
theorem dX5_play_71 : decode cX5_play 71 = .ok (.ladd, 1) := by decide +kernel
theorem dX5_play_72 : decode cX5_play 72 = .ok (.lstore 4, 2) := by decide +kernel
theorem dX5_play_74 : decode cX5_play 74 = .ok (.lload 4, 2) := by decide +kernel
theorem dX5_play_76 : decode cX5_play 76 = .ok (.bipush 32, 2) := by decide +kernel
theorem dX5_play_78 : decode cX5_play 78 = .ok (.lushr, 1) := by decide +kernel
theorem dX5_play_79 : decode cX5_play 79 = .ok (.l2i, 1) := by decide +kernel
theorem dX5_play_80 : decode cX5_play 80 = .ok (.ldc 118, 2) := by decide +kernel
theorem dX5_play_82 : decode cX5_play 82 = .ok (.iand, 1) := by decide +kernel
theorem dX5_play_83 : decode cX5_play 83 = .ok (.istore 8, 2) := by decide +kernel
theorem dX5_play_85 : decode cX5_play 85 = .ok (.aload_n 0, 1) := by decide +kernel
theorem dX5_play_86 : decode cX5_play 86 = .ok (.getfield 26, 3) := by decide +kernel
theorem dX5_play_89 : decode cX5_play 89 = .ok (.iload 8, 2) := by decide +kernel
theorem dX5_play_91 : decode cX5_play 91 = .ok (.bipush 16, 2) := by decide +kernel
theorem dX5_play_93 : decode cX5_play 93 = .ok (.idiv, 1) := by decide +kernel
theorem dX5_play_94 : decode cX5_play 94 = .ok (.aload_n 0, 1) := by decide +kernel
theorem dX5_play_95 : decode cX5_play 95 = .ok (.getfield 26, 3) := by decide +kernel
theorem dX5_play_98 : decode cX5_play 98 = .ok (.getfield 100, 3) := by decide +kernel
theorem dX5_play_101 : decode cX5_play 101 = .ok (.irem, 1) := by decide +kernel
theorem dX5_play_102 : decode cX5_play 102 = .ok (.invokevirtual 119, 3) := by decide +kernel
theorem dX5_play_105 : decode cX5_play 105 = .ok (.istore 9, 2) := by decide +kernel
theorem dX5_play_107 : decode cX5_play 107 = .ok (.iload 8, 2) := by decide +kernel
theorem dX5_play_109 : decode cX5_play 109 = .ok (.sipush 4096, 3) := by decide +kernel
theorem dX5_play_112 : decode cX5_play 112 = .ok (.idiv, 1) := by decide +kernel
theorem dX5_play_113 : decode cX5_play 113 = .ok (.iconst 2, 1) := by decide +kernel
theorem dX5_play_114 : decode cX5_play 114 = .ok (.irem, 1) := by decide +kernel
theorem dX5_play_115 : decode cX5_play 115 = .ok (.iconst 1, 1) := by decide +kernel
theorem dX5_play_116 : decode cX5_play 116 = .ok (.if_icmp .ne 13, 3) := by decide +kernel
theorem dX5_play_119 : decode cX5_play 119 = .ok (.iload 9, 2) := by decide +kernel
theorem dX5_play_121 : decode cX5_play 121 = .ok (.iconst 4, 1) := by decide +kernel
theorem dX5_play_122 : decode cX5_play 122 = .ok (.if_icmp .lt 7, 3) := by decide +kernel
theorem dX5_play_125 : decode cX5_play 125 = .ok (.iconst 1, 1) := by decide +kernel
theorem dX5_play_126 : decode cX5_play 126 = .ok (.goto 4, 3) := by decide +kernel
theorem dX5_play_129 : decode cX5_play 129 = .ok (.iconst 0, 1) := by decide +kernel
theorem dX5_play_130 : decode cX5_play 130 = .ok (.istore 10, 2) := by decide +kernel
theorem dX5_play_132 : decode cX5_play 132 = .ok (.aload_n 0, 1) := by decide +kernel
theorem dX5_play_133 : decode cX5_play 133 = .ok (.iload 8, 2) := by decide +kernel
theorem dX5_play_135 : decode cX5_play 135 = .ok (.aload_n 0, 1) := by decide +kernel
theorem dX5_play_136 : decode cX5_play 136 = .ok (.getfield 19, 3) := by decide +kernel
theorem dX5_play_139 : decode cX5_play 139 = .ok (.getfield 80, 3) := by decide +kernel
theorem dX5_play_142 : decode cX5_play 142 = .ok (.irem, 1) := by decide +kernel
theorem dX5_play_143 : decode cX5_play 143 = .ok (.iload 9, 2) := by decide +kernel
theorem dX5_play_145 : decode cX5_play 145 = .ok (.iload 10, 2) := by decide +kernel
theorem dX5_play_147 : decode cX5_play 147 = .ok (.invokevirtual 106, 3) := by decide +kernel
theorem dX5_play_150 : decode cX5_play 150 = .ok (.iconst 1, 1) := by decide +kernel
theorem dX5_play_151 : decode cX5_play 151 = .ok (.if_icmp .ne 6, 3) := by decide +kernel
theorem dX5_play_154 : decode cX5_play 154 = .ok (.iinc 6 1, 3) := by decide +kernel
theorem dX5_play_157 : decode cX5_play 157 = .ok (.iinc 7 1, 3) := by decide +kernel
theorem dX5_play_160 : decode cX5_play 160 = .ok (.goto (-124), 3) := by decide +kernel
theorem dX5_play_163 : decode cX5_play 163 = .ok (.iload 6, 2) := by decide +kernel
theorem dX5_play_165 : decode cX5_play 165 = .ok (.ireturn, 1) := by decide +kernel
set_option maxRecDepth 20000 in
theorem ggX5_missing_X1_lackAt : GoodIn wsX5_missing wsX1_lackAt := goodIn_r _ [6, 7, 8, 15, 16, 17, 18, 19, 20, 21, 22] (by decide +kernel) (by decide +kernel)
set_option maxRecDepth 20000 in
theorem gX5_missing_X1_lackAt : GoodIn wsX5_missing (wsV RX5 119 RX1 yX1_lackAt wsX1_lackAt) := goodIn_app (goodIn_of _ (by decide +kernel)) ggX5_missing_X1_lackAt
theorem dX5_missing_0 : decode cX5_missing 0 = .ok (.aload_n 0, 1) := by decide +kernel
theorem dX5_missing_1 : decode cX5_missing 1 = .ok (.getfield 26, 3) := by decide +kernel
theorem dX5_missing_4 : decode cX5_missing 4 = .ok (.iload_n 1, 1) := by decide +kernel
theorem dX5_missing_5 : decode cX5_missing 5 = .ok (.invokevirtual 119, 3) := by decide +kernel
theorem dX5_missing_8 : decode cX5_missing 8 = .ok (.ireturn, 1) := by decide +kernel
set_option maxRecDepth 20000 in
theorem ggX5_joined_X1_isWhole : GoodIn wsX5_joined wsX1_isWhole := goodIn_r _ [6, 7, 8, 9, 10, 11, 5, 12, 13, 14, 15, 16, 17, 18, 19, 20, 21, 22, 29, 30, 31, 32, 33, 34, 35, 36, 37, 38] (by decide +kernel) (by decide +kernel)
set_option maxRecDepth 20000 in
theorem gX5_joined_X1_isWhole : GoodIn wsX5_joined (wsV RX5 123 RX1 yX1_isWhole wsX1_isWhole) := goodIn_app (goodIn_of _ (by decide +kernel)) ggX5_joined_X1_isWhole
theorem dX5_joined_0 : decode cX5_joined 0 = .ok (.aload_n 0, 1) := by decide +kernel
theorem dX5_joined_1 : decode cX5_joined 1 = .ok (.getfield 26, 3) := by decide +kernel
theorem dX5_joined_4 : decode cX5_joined 4 = .ok (.invokevirtual 123, 3) := by decide +kernel
theorem dX5_joined_7 : decode cX5_joined 7 = .ok (.ifCond .eq 7, 3) := by decide +kernel
theorem dX5_joined_10 : decode cX5_joined 10 = .ok (.iconst 1, 1) := by decide +kernel
theorem dX5_joined_11 : decode cX5_joined 11 = .ok (.goto 4, 3) := by decide +kernel
theorem dX5_joined_14 : decode cX5_joined 14 = .ok (.iconst 0, 1) := by decide +kernel
theorem dX5_joined_15 : decode cX5_joined 15 = .ok (.ireturn, 1) := by decide +kernel
set_option maxRecDepth 20000 in
theorem ggX5_held_X4_valueOf : GoodIn wsX5_held wsX4_valueOf := goodIn_r _ [7, 8, 9, 10, 6, 11, 26, 27] (by decide +kernel) (by decide +kernel)
set_option maxRecDepth 20000 in
theorem gX5_held_X4_valueOf : GoodIn wsX5_held (wsV RX5 129 RX4 yX4_valueOf wsX4_valueOf) := goodIn_app (goodIn_of _ (by decide +kernel)) ggX5_held_X4_valueOf
theorem dX5_held_0 : decode cX5_held 0 = .ok (.aload_n 0, 1) := by decide +kernel
theorem dX5_held_1 : decode cX5_held 1 = .ok (.getfield 26, 3) := by decide +kernel
theorem dX5_held_4 : decode cX5_held 4 = .ok (.getfield 126, 3) := by decide +kernel
theorem dX5_held_7 : decode cX5_held 7 = .ok (.iload_n 1, 1) := by decide +kernel
theorem dX5_held_8 : decode cX5_held 8 = .ok (.invokevirtual 129, 3) := by decide +kernel
theorem dX5_held_11 : decode cX5_held 11 = .ok (.lreturn, 1) := by decide +kernel
set_option maxRecDepth 20000 in
theorem ggX5_mine_X4_digestOf : GoodIn wsX5_mine wsX4_digestOf := goodIn_r _ [7, 8, 9, 10, 6, 11, 26, 27] (by decide +kernel) (by decide +kernel)
set_option maxRecDepth 20000 in
theorem gX5_mine_X4_digestOf : GoodIn wsX5_mine (wsV RX5 73 RX4 yX4_digestOf wsX4_digestOf) := goodIn_app (goodIn_of _ (by decide +kernel)) ggX5_mine_X4_digestOf
theorem dX5_mine_0 : decode cX5_mine 0 = .ok (.aload_n 0, 1) := by decide +kernel
theorem dX5_mine_1 : decode cX5_mine 1 = .ok (.getfield 26, 3) := by decide +kernel
theorem dX5_mine_4 : decode cX5_mine 4 = .ok (.getfield 126, 3) := by decide +kernel
theorem dX5_mine_7 : decode cX5_mine 7 = .ok (.iload_n 1, 1) := by decide +kernel
theorem dX5_mine_8 : decode cX5_mine 8 = .ok (.invokevirtual 73, 3) := by decide +kernel
theorem dX5_mine_11 : decode cX5_mine 11 = .ok (.lreturn, 1) := by decide +kernel
set_option maxRecDepth 20000 in
theorem ggX5_rot_X4_isPath : GoodIn wsX5_rot wsX4_isPath := goodIn_r _ [6] (by decide +kernel) (by decide +kernel)
set_option maxRecDepth 20000 in
theorem gX5_rot_X4_isPath : GoodIn wsX5_rot (va_wsS RX5 48 yX4_isPath wsX4_isPath) := goodIn_app (goodIn_of _ (by decide +kernel)) ggX5_rot_X4_isPath
set_option maxRecDepth 20000 in
theorem ggX5_rot_X1_spoil : GoodIn wsX5_rot wsX1_spoil := goodIn_r _ [11, 12, 13, 14, 15, 5, 16, 17, 18, 4, 6, 19, 20, 21, 22, 23, 24, 25, 26, 27, 28, 29, 30, 31, 32, 33, 34, 35, 36, 37, 10, 38, 39, 40, 41, 42, 43, 44, 45, 46, 47, 48, 49, 50, 51, 52, 53, 54, 55, 56, 57, 64, 65, 66, 67, 68, 69, 70, 71, 72, 73] (by decide +kernel) (by decide +kernel)
set_option maxRecDepth 20000 in
theorem gX5_rot_X1_spoil : GoodIn wsX5_rot (wsV RX5 132 RX1 yX1_spoil wsX1_spoil) := goodIn_app (goodIn_of _ (by decide +kernel)) ggX5_rot_X1_spoil
theorem dX5_rot_0 : decode cX5_rot 0 = .ok (.iload_n 1, 1) := by decide +kernel
theorem dX5_rot_1 : decode cX5_rot 1 = .ok (.invokestatic 48, 3) := by decide +kernel
theorem dX5_rot_4 : decode cX5_rot 4 = .ok (.ifCond .ne 5, 3) := by decide +kernel
theorem dX5_rot_7 : decode cX5_rot 7 = .ok (.iconst (-1), 1) := by decide +kernel
theorem dX5_rot_8 : decode cX5_rot 8 = .ok (.ireturn, 1) := by decide +kernel
theorem dX5_rot_9 : decode cX5_rot 9 = .ok (.aload_n 0, 1) := by decide +kernel
theorem dX5_rot_10 : decode cX5_rot 10 = .ok (.getfield 26, 3) := by decide +kernel
theorem dX5_rot_13 : decode cX5_rot 13 = .ok (.iload_n 1, 1) := by decide +kernel
theorem dX5_rot_14 : decode cX5_rot 14 = .ok (.lload_n 2, 1) := by decide +kernel
theorem dX5_rot_15 : decode cX5_rot 15 = .ok (.invokevirtual 132, 3) := by decide +kernel
theorem dX5_rot_18 : decode cX5_rot 18 = .ok (.aload_n 0, 1) := by decide +kernel
theorem dX5_rot_19 : decode cX5_rot 19 = .ok (.getfield 26, 3) := by decide +kernel
theorem dX5_rot_22 : decode cX5_rot 22 = .ok (.getfield 100, 3) := by decide +kernel
theorem dX5_rot_25 : decode cX5_rot 25 = .ok (.ireturn, 1) := by decide +kernel
set_option maxRecDepth 20000 in
theorem ggX5_cut_X1_hasGoal : GoodIn wsX5_cut wsX1_hasGoal := goodIn_r _ [7, 8, 49, 50, 51, 52, 53, 54, 55, 56] (by decide +kernel) (by decide +kernel)
set_option maxRecDepth 20000 in
theorem gX5_cut_X1_hasGoal : GoodIn wsX5_cut (wsV RX5 110 RX1 yX1_hasGoal wsX1_hasGoal) := goodIn_app (goodIn_of _ (by decide +kernel)) ggX5_cut_X1_hasGoal
set_option maxRecDepth 20000 in
theorem ggX5_cut_X1_forgetBelowRoot : GoodIn wsX5_cut wsX1_forgetBelowRoot := goodIn_r _ [12, 13, 14, 15, 6, 16, 17, 18, 19, 20, 21, 22, 23, 24, 25, 26, 27, 28, 29, 30, 31, 32, 33, 34, 35, 36, 37, 38, 39, 40, 41, 42, 49, 50, 51, 52, 53, 54, 55, 56, 57, 58] (by decide +kernel) (by decide +kernel)
set_option maxRecDepth 20000 in
theorem gX5_cut_X1_forgetBelowRoot : GoodIn wsX5_cut (wsV RX5 136 RX1 yX1_forgetBelowRoot wsX1_forgetBelowRoot) := goodIn_app (goodIn_of _ (by decide +kernel)) ggX5_cut_X1_forgetBelowRoot
theorem dX5_cut_0 : decode cX5_cut 0 = .ok (.aload_n 0, 1) := by decide +kernel
theorem dX5_cut_1 : decode cX5_cut 1 = .ok (.getfield 26, 3) := by decide +kernel
theorem dX5_cut_4 : decode cX5_cut 4 = .ok (.invokevirtual 110, 3) := by decide +kernel
theorem dX5_cut_7 : decode cX5_cut 7 = .ok (.ifCond .ne 6, 3) := by decide +kernel
theorem dX5_cut_10 : decode cX5_cut 10 = .ok (.bipush (-3), 2) := by decide +kernel
theorem dX5_cut_12 : decode cX5_cut 12 = .ok (.ireturn, 1) := by decide +kernel
theorem dX5_cut_13 : decode cX5_cut 13 = .ok (.aload_n 0, 1) := by decide +kernel
theorem dX5_cut_14 : decode cX5_cut 14 = .ok (.getfield 26, 3) := by decide +kernel
theorem dX5_cut_17 : decode cX5_cut 17 = .ok (.invokevirtual 136, 3) := by decide +kernel
theorem dX5_cut_20 : decode cX5_cut 20 = .ok (.aload_n 0, 1) := by decide +kernel
theorem dX5_cut_21 : decode cX5_cut 21 = .ok (.getfield 26, 3) := by decide +kernel
theorem dX5_cut_24 : decode cX5_cut 24 = .ok (.getfield 100, 3) := by decide +kernel
theorem dX5_cut_27 : decode cX5_cut 27 = .ok (.ireturn, 1) := by decide +kernel
set_option maxRecDepth 20000 in
theorem ggX5_count_X1_hasGoal : GoodIn wsX5_count wsX1_hasGoal := goodIn_r _ [16, 17, 55, 56, 57, 58, 59, 60, 61, 62] (by decide +kernel) (by decide +kernel)
set_option maxRecDepth 20000 in
theorem gX5_count_X1_hasGoal : GoodIn wsX5_count (wsV RX5 110 RX1 yX1_hasGoal wsX1_hasGoal) := goodIn_app (goodIn_of _ (by decide +kernel)) ggX5_count_X1_hasGoal
set_option maxRecDepth 20000 in
theorem ggX5_count_X4_filledBelow : GoodIn wsX5_count wsX4_filledBelow := goodIn_r _ [22, 23, 24, 25, 21, 26, 27, 28, 29, 30, 31, 32, 63, 64] (by decide +kernel) (by decide +kernel)
set_option maxRecDepth 20000 in
theorem gX5_count_X4_filledBelow : GoodIn wsX5_count (wsV RX5 145 RX4 yX4_filledBelow wsX4_filledBelow) := goodIn_app (goodIn_of _ (by decide +kernel)) ggX5_count_X4_filledBelow
set_option maxRecDepth 20000 in
theorem ggX5_count_X1_knownSize : GoodIn wsX5_count wsX1_knownSize := goodIn_r _ [36, 37, 55, 56, 57, 58, 59, 60, 61, 62] (by decide +kernel) (by decide +kernel)
set_option maxRecDepth 20000 in
theorem gX5_count_X1_knownSize : GoodIn wsX5_count (wsV RX5 148 RX1 yX1_knownSize wsX1_knownSize) := goodIn_app (goodIn_of _ (by decide +kernel)) ggX5_count_X1_knownSize
theorem dX5_count_0 : decode cX5_count 0 = .ok (.iload_n 1, 1) := by decide +kernel
theorem dX5_count_1 : decode cX5_count 1 = .ok (.tableswitch 138 0 8 #[51, 59, 67, 89, 97, 102, 110, 118, 130], 51) := by decide +kernel
theorem dX5_count_52 : decode cX5_count 52 = .ok (.aload_n 0, 1) := by decide +kernel
theorem dX5_count_53 : decode cX5_count 53 = .ok (.getfield 10, 3) := by decide +kernel
theorem dX5_count_56 : decode cX5_count 56 = .ok (.getfield 56, 3) := by decide +kernel
theorem dX5_count_59 : decode cX5_count 59 = .ok (.ireturn, 1) := by decide +kernel
theorem dX5_count_60 : decode cX5_count 60 = .ok (.aload_n 0, 1) := by decide +kernel
theorem dX5_count_61 : decode cX5_count 61 = .ok (.getfield 19, 3) := by decide +kernel
theorem dX5_count_64 : decode cX5_count 64 = .ok (.getfield 80, 3) := by decide +kernel
theorem dX5_count_67 : decode cX5_count 67 = .ok (.ireturn, 1) := by decide +kernel
theorem dX5_count_68 : decode cX5_count 68 = .ok (.aload_n 0, 1) := by decide +kernel
theorem dX5_count_69 : decode cX5_count 69 = .ok (.getfield 26, 3) := by decide +kernel
theorem dX5_count_72 : decode cX5_count 72 = .ok (.invokevirtual 110, 3) := by decide +kernel
theorem dX5_count_75 : decode cX5_count 75 = .ok (.ifCond .eq 13, 3) := by decide +kernel
theorem dX5_count_78 : decode cX5_count 78 = .ok (.aload_n 0, 1) := by decide +kernel
theorem dX5_count_79 : decode cX5_count 79 = .ok (.getfield 26, 3) := by decide +kernel
theorem dX5_count_82 : decode cX5_count 82 = .ok (.getfield 139, 3) := by decide +kernel
theorem dX5_count_85 : decode cX5_count 85 = .ok (.goto 4, 3) := by decide +kernel
theorem dX5_count_88 : decode cX5_count 88 = .ok (.iconst (-1), 1) := by decide +kernel
theorem dX5_count_89 : decode cX5_count 89 = .ok (.ireturn, 1) := by decide +kernel
theorem dX5_count_90 : decode cX5_count 90 = .ok (.aload_n 0, 1) := by decide +kernel
theorem dX5_count_91 : decode cX5_count 91 = .ok (.getfield 26, 3) := by decide +kernel
theorem dX5_count_94 : decode cX5_count 94 = .ok (.getfield 100, 3) := by decide +kernel
theorem dX5_count_97 : decode cX5_count 97 = .ok (.ireturn, 1) := by decide +kernel
theorem dX5_count_98 : decode cX5_count 98 = .ok (.aload_n 0, 1) := by decide +kernel
theorem dX5_count_99 : decode cX5_count 99 = .ok (.getfield 44, 3) := by decide +kernel
theorem dX5_count_102 : decode cX5_count 102 = .ok (.ireturn, 1) := by decide +kernel
theorem dX5_count_103 : decode cX5_count 103 = .ok (.aload_n 0, 1) := by decide +kernel
theorem dX5_count_104 : decode cX5_count 104 = .ok (.getfield 19, 3) := by decide +kernel
theorem dX5_count_107 : decode cX5_count 107 = .ok (.getfield 142, 3) := by decide +kernel
theorem dX5_count_110 : decode cX5_count 110 = .ok (.ireturn, 1) := by decide +kernel
theorem dX5_count_111 : decode cX5_count 111 = .ok (.aload_n 0, 1) := by decide +kernel
theorem dX5_count_112 : decode cX5_count 112 = .ok (.getfield 19, 3) := by decide +kernel
theorem dX5_count_115 : decode cX5_count 115 = .ok (.getfield 90, 3) := by decide +kernel
theorem dX5_count_118 : decode cX5_count 118 = .ok (.ireturn, 1) := by decide +kernel
theorem dX5_count_119 : decode cX5_count 119 = .ok (.aload_n 0, 1) := by decide +kernel
theorem dX5_count_120 : decode cX5_count 120 = .ok (.getfield 26, 3) := by decide +kernel
theorem dX5_count_123 : decode cX5_count 123 = .ok (.getfield 126, 3) := by decide +kernel
theorem dX5_count_126 : decode cX5_count 126 = .ok (.iconst 1, 1) := by decide +kernel
theorem dX5_count_127 : decode cX5_count 127 = .ok (.invokevirtual 145, 3) := by decide +kernel
theorem dX5_count_130 : decode cX5_count 130 = .ok (.ireturn, 1) := by decide +kernel
theorem dX5_count_131 : decode cX5_count 131 = .ok (.aload_n 0, 1) := by decide +kernel
theorem dX5_count_132 : decode cX5_count 132 = .ok (.getfield 26, 3) := by decide +kernel
theorem dX5_count_135 : decode cX5_count 135 = .ok (.invokevirtual 148, 3) := by decide +kernel
theorem dX5_count_138 : decode cX5_count 138 = .ok (.ireturn, 1) := by decide +kernel
theorem dX5_count_139 : decode cX5_count 139 = .ok (.iconst (-1), 1) := by decide +kernel
theorem dX5_count_140 : decode cX5_count 140 = .ok (.ireturn, 1) := by decide +kernel
set_option maxRecDepth 20000 in
theorem ggX5_exchange_X0_has : GoodIn wsX5_exchange wsX0_has := goodIn_r _ [14, 15, 166, 167, 168, 169, 170, 171, 172, 173] (by decide +kernel) (by decide +kernel)
set_option maxRecDepth 20000 in
theorem gX5_exchange_X0_has : GoodIn wsX5_exchange (wsV RX5 83 RX0 yX0_has wsX0_has) := goodIn_app (goodIn_of _ (by decide +kernel)) ggX5_exchange_X0_has
set_option maxRecDepth 20000 in
theorem ggX5_exchange_X0_answers : GoodIn wsX5_exchange wsX0_answers := goodIn_r _ [19, 20, 21, 22, 23, 24, 11, 12, 13, 14, 15, 166, 167, 168, 169, 170, 171, 172, 173] (by decide +kernel) (by decide +kernel)
set_option maxRecDepth 20000 in
theorem gX5_exchange_X0_answers : GoodIn wsX5_exchange (wsV RX5 152 RX0 yX0_answers wsX0_answers) := goodIn_app (goodIn_of _ (by decide +kernel)) ggX5_exchange_X0_answers
set_option maxRecDepth 20000 in
theorem ggX5_exchange_X4_isLeaf : GoodIn wsX5_exchange wsX4_isLeaf := goodIn_r _ [28] (by decide +kernel) (by decide +kernel)
set_option maxRecDepth 20000 in
theorem gX5_exchange_X4_isLeaf : GoodIn wsX5_exchange (va_wsS RX5 164 yX4_isLeaf wsX4_isLeaf) := goodIn_app (goodIn_of _ (by decide +kernel)) ggX5_exchange_X4_isLeaf
set_option maxRecDepth 20000 in
theorem ggX5_exchange_X2_fillLeaves : GoodIn wsX5_exchange wsX2_fillLeaves := goodIn_r _ [33, 34, 35, 36, 37, 38, 39, 40, 27, 41, 42, 43, 44, 45, 46, 47, 48, 49, 50, 51, 52, 53, 54, 55, 56, 57, 58, 59, 60, 61, 62, 63, 64, 32, 65, 66, 67, 68, 69, 70, 71, 72, 73, 74, 75, 76, 77, 78, 79, 80, 81, 82, 83, 84, 85, 86, 26, 28, 87, 88, 89, 90, 174, 175, 176, 177, 178, 179, 180, 181] (by decide +kernel) (by decide +kernel)
set_option maxRecDepth 20000 in
theorem gX5_exchange_X2_fillLeaves : GoodIn wsX5_exchange (wsV RX5 167 RX2 yX2_fillLeaves wsX2_fillLeaves) := goodIn_app (goodIn_of _ (by decide +kernel)) ggX5_exchange_X2_fillLeaves
set_option maxRecDepth 20000 in
theorem ggX5_exchange_X2_fillPair : GoodIn wsX5_exchange wsX2_fillPair := goodIn_r _ [94, 34, 35, 95, 96, 37, 97, 98, 99, 27, 100, 56, 43, 44, 45, 174, 175, 176, 177, 178, 179, 180, 181] (by decide +kernel) (by decide +kernel)
set_option maxRecDepth 20000 in
theorem gX5_exchange_X2_fillPair : GoodIn wsX5_exchange (wsV RX5 171 RX2 yX2_fillPair wsX2_fillPair) := goodIn_app (goodIn_of _ (by decide +kernel)) ggX5_exchange_X2_fillPair
set_option maxRecDepth 20000 in
theorem ggX5_exchange_X1_judge : GoodIn wsX5_exchange wsX1_judge := goodIn_r _ [105, 106, 107, 108, 44, 27, 45, 109, 110, 111, 32, 112, 35, 95, 96, 36, 34, 113, 58, 59, 60, 61, 97, 98, 99, 100, 56, 43, 174, 175, 176, 177, 178, 179, 158, 159, 160, 161, 162, 163, 164, 165, 180, 181] (by decide +kernel) (by decide +kernel)
set_option maxRecDepth 20000 in
theorem gX5_exchange_X1_judge : GoodIn wsX5_exchange (wsV RX5 175 RX1 yX1_judge wsX1_judge) := goodIn_app (goodIn_of _ (by decide +kernel)) ggX5_exchange_X1_judge
set_option maxRecDepth 20000 in
theorem ggX5_exchange_X1_take : GoodIn wsX5_exchange wsX1_take := goodIn_r _ [117, 118, 106, 119, 120, 121, 122, 123, 124, 125, 104, 126, 127, 107, 108, 44, 27, 45, 128, 129, 130, 131, 42, 43, 46, 47, 48, 49, 50, 51, 52, 53, 54, 55, 56, 57, 58, 59, 60, 61, 132, 39, 40, 41, 133, 134, 135, 136, 137, 138, 139, 140, 141, 142, 143, 98, 99, 100, 144, 26, 28, 174, 175, 176, 177, 178, 179, 158, 159, 160, 161, 162, 163, 164, 165, 180, 181] (by decide +kernel) (by decide +kernel)
set_option maxRecDepth 20000 in
theorem gX5_exchange_X1_take : GoodIn wsX5_exchange (wsV RX5 179 RX1 yX1_take wsX1_take) := goodIn_app (goodIn_of _ (by decide +kernel)) ggX5_exchange_X1_take
set_option maxRecDepth 20000 in
theorem ggX5_exchange_X0_blame : GoodIn wsX5_exchange wsX0_blame := goodIn_r _ [148, 149, 150, 151, 24, 11, 12, 13, 14, 15, 166, 167, 168, 169, 170, 171, 172, 173] (by decide +kernel) (by decide +kernel)
set_option maxRecDepth 20000 in
theorem gX5_exchange_X0_blame : GoodIn wsX5_exchange (wsV RX5 183 RX0 yX0_blame wsX0_blame) := goodIn_app (goodIn_of _ (by decide +kernel)) ggX5_exchange_X0_blame
theorem dX5_exchange_0 : decode cX5_exchange 0 = .ok (.aload_n 0, 1) := by decide +kernel
theorem dX5_exchange_1 : decode cX5_exchange 1 = .ok (.getfield 19, 3) := by decide +kernel
theorem dX5_exchange_4 : decode cX5_exchange 4 = .ok (.iload_n 1, 1) := by decide +kernel
theorem dX5_exchange_5 : decode cX5_exchange 5 = .ok (.invokevirtual 83, 3) := by decide +kernel
theorem dX5_exchange_8 : decode cX5_exchange 8 = .ok (.ifCond .eq 21, 3) := by decide +kernel
theorem dX5_exchange_11 : decode cX5_exchange 11 = .ok (.aload_n 0, 1) := by decide +kernel
theorem dX5_exchange_12 : decode cX5_exchange 12 = .ok (.getfield 19, 3) := by decide +kernel
theorem dX5_exchange_15 : decode cX5_exchange 15 = .ok (.iload_n 1, 1) := by decide +kernel
theorem dX5_exchange_16 : decode cX5_exchange 16 = .ok (.aload_n 0, 1) := by decide +kernel
theorem dX5_exchange_17 : decode cX5_exchange 17 = .ok (.getfield 26, 3) := by decide +kernel
theorem dX5_exchange_20 : decode cX5_exchange 20 = .ok (.getfield 139, 3) := by decide +kernel
theorem dX5_exchange_23 : decode cX5_exchange 23 = .ok (.invokevirtual 152, 3) := by decide +kernel
theorem dX5_exchange_26 : decode cX5_exchange 26 = .ok (.ifCond .ne 5, 3) := by decide +kernel
theorem dX5_exchange_29 : decode cX5_exchange 29 = .ok (.iconst 2, 1) := by decide +kernel
theorem dX5_exchange_30 : decode cX5_exchange 30 = .ok (.ireturn, 1) := by decide +kernel
theorem dX5_exchange_31 : decode cX5_exchange 31 = .ok (.aload_n 0, 1) := by decide +kernel
theorem dX5_exchange_32 : decode cX5_exchange 32 = .ok (.getfield 19, 3) := by decide +kernel
theorem dX5_exchange_35 : decode cX5_exchange 35 = .ok (.getfield 155, 3) := by decide +kernel
theorem dX5_exchange_38 : decode cX5_exchange 38 = .ok (.iload_n 1, 1) := by decide +kernel
theorem dX5_exchange_39 : decode cX5_exchange 39 = .ok (.iaload, 1) := by decide +kernel
theorem dX5_exchange_40 : decode cX5_exchange 40 = .ok (.istore 4, 2) := by decide +kernel
theorem dX5_exchange_42 : decode cX5_exchange 42 = .ok (.iload 4, 2) := by decide +kernel
theorem dX5_exchange_44 : decode cX5_exchange 44 = .ok (.iconst 3, 1) := by decide +kernel
theorem dX5_exchange_45 : decode cX5_exchange 45 = .ok (.if_icmp .ne 13, 3) := by decide +kernel
theorem dX5_exchange_48 : decode cX5_exchange 48 = .ok (.aload_n 0, 1) := by decide +kernel
theorem dX5_exchange_49 : decode cX5_exchange 49 = .ok (.getfield 26, 3) := by decide +kernel
theorem dX5_exchange_52 : decode cX5_exchange 52 = .ok (.getfield 158, 3) := by decide +kernel
theorem dX5_exchange_55 : decode cX5_exchange 55 = .ok (.goto 10, 3) := by decide +kernel
theorem dX5_exchange_58 : decode cX5_exchange 58 = .ok (.aload_n 0, 1) := by decide +kernel
theorem dX5_exchange_59 : decode cX5_exchange 59 = .ok (.getfield 26, 3) := by decide +kernel
theorem dX5_exchange_62 : decode cX5_exchange 62 = .ok (.getfield 161, 3) := by decide +kernel
theorem dX5_exchange_65 : decode cX5_exchange 65 = .ok (.astore 5, 2) := by decide +kernel
theorem dX5_exchange_67 : decode cX5_exchange 67 = .ok (.iload_n 3, 1) := by decide +kernel
theorem dX5_exchange_68 : decode cX5_exchange 68 = .ok (.ifCond .ne 10, 3) := by decide +kernel
theorem dX5_exchange_71 : decode cX5_exchange 71 = .ok (.iload_n 2, 1) := by decide +kernel
theorem dX5_exchange_72 : decode cX5_exchange 72 = .ok (.invokestatic 164, 3) := by decide +kernel
theorem dX5_exchange_75 : decode cX5_exchange 75 = .ok (.ifCond .eq 18, 3) := by decide +kernel
theorem dX5_exchange_78 : decode cX5_exchange 78 = .ok (.aload_n 0, 1) := by decide +kernel
theorem dX5_exchange_79 : decode cX5_exchange 79 = .ok (.getfield 33, 3) := by decide +kernel
theorem dX5_exchange_82 : decode cX5_exchange 82 = .ok (.iload 4, 2) := by decide +kernel
theorem dX5_exchange_84 : decode cX5_exchange 84 = .ok (.aload 5, 2) := by decide +kernel
theorem dX5_exchange_86 : decode cX5_exchange 86 = .ok (.iload_n 2, 1) := by decide +kernel
theorem dX5_exchange_87 : decode cX5_exchange 87 = .ok (.invokevirtual 167, 3) := by decide +kernel
theorem dX5_exchange_90 : decode cX5_exchange 90 = .ok (.goto 15, 3) := by decide +kernel
theorem dX5_exchange_93 : decode cX5_exchange 93 = .ok (.aload_n 0, 1) := by decide +kernel
theorem dX5_exchange_94 : decode cX5_exchange 94 = .ok (.getfield 33, 3) := by decide +kernel
theorem dX5_exchange_97 : decode cX5_exchange 97 = .ok (.iload 4, 2) := by decide +kernel
theorem dX5_exchange_99 : decode cX5_exchange 99 = .ok (.aload 5, 2) := by decide +kernel
theorem dX5_exchange_101 : decode cX5_exchange 101 = .ok (.iload_n 2, 1) := by decide +kernel
theorem dX5_exchange_102 : decode cX5_exchange 102 = .ok (.invokevirtual 171, 3) := by decide +kernel
theorem dX5_exchange_105 : decode cX5_exchange 105 = .ok (.aload_n 0, 1) := by decide +kernel
theorem dX5_exchange_106 : decode cX5_exchange 106 = .ok (.dup, 1) := by decide +kernel
theorem dX5_exchange_107 : decode cX5_exchange 107 = .ok (.getfield 44, 3) := by decide +kernel
theorem dX5_exchange_110 : decode cX5_exchange 110 = .ok (.aload_n 0, 1) := by decide +kernel
theorem dX5_exchange_111 : decode cX5_exchange 111 = .ok (.getfield 33, 3) := by decide +kernel
theorem dX5_exchange_114 : decode cX5_exchange 114 = .ok (.getfield 174, 3) := by decide +kernel
theorem dX5_exchange_117 : decode cX5_exchange 117 = .ok (.iadd, 1) := by decide +kernel
theorem dX5_exchange_118 : decode cX5_exchange 118 = .ok (.putfield 44, 3) := by decide +kernel
theorem dX5_exchange_121 : decode cX5_exchange 121 = .ok (.aload_n 0, 1) := by decide +kernel
theorem dX5_exchange_122 : decode cX5_exchange 122 = .ok (.getfield 26, 3) := by decide +kernel
theorem dX5_exchange_125 : decode cX5_exchange 125 = .ok (.aload_n 0, 1) := by decide +kernel
theorem dX5_exchange_126 : decode cX5_exchange 126 = .ok (.getfield 33, 3) := by decide +kernel
theorem dX5_exchange_129 : decode cX5_exchange 129 = .ok (.invokevirtual 175, 3) := by decide +kernel
theorem dX5_exchange_132 : decode cX5_exchange 132 = .ok (.ifCond .eq 16, 3) := by decide +kernel
theorem dX5_exchange_135 : decode cX5_exchange 135 = .ok (.aload_n 0, 1) := by decide +kernel
theorem dX5_exchange_136 : decode cX5_exchange 136 = .ok (.getfield 26, 3) := by decide +kernel
theorem dX5_exchange_139 : decode cX5_exchange 139 = .ok (.aload_n 0, 1) := by decide +kernel
theorem dX5_exchange_140 : decode cX5_exchange 140 = .ok (.getfield 33, 3) := by decide +kernel
theorem dX5_exchange_143 : decode cX5_exchange 143 = .ok (.invokevirtual 179, 3) := by decide +kernel
theorem dX5_exchange_146 : decode cX5_exchange 146 = .ok (.iconst 1, 1) := by decide +kernel
theorem dX5_exchange_147 : decode cX5_exchange 147 = .ok (.ireturn, 1) := by decide +kernel
theorem dX5_exchange_148 : decode cX5_exchange 148 = .ok (.aload_n 0, 1) := by decide +kernel
theorem dX5_exchange_149 : decode cX5_exchange 149 = .ok (.getfield 19, 3) := by decide +kernel
theorem dX5_exchange_152 : decode cX5_exchange 152 = .ok (.iload_n 1, 1) := by decide +kernel
theorem dX5_exchange_153 : decode cX5_exchange 153 = .ok (.invokevirtual 183, 3) := by decide +kernel
theorem dX5_exchange_156 : decode cX5_exchange 156 = .ok (.iconst 0, 1) := by decide +kernel
theorem dX5_exchange_157 : decode cX5_exchange 157 = .ok (.ireturn, 1) := by decide +kernel
theorem dX6_init_0 : decode cX6_init 0 = .ok (.aload_n 0, 1) := by decide +kernel
theorem dX6_init_1 : decode cX6_init 1 = .ok (.invokespecial 1, 3) := by decide +kernel
theorem dX6_init_4 : decode cX6_init 4 = .ok (.aload_n 0, 1) := by decide +kernel
theorem dX6_init_5 : decode cX6_init 5 = .ok (.sipush 201, 3) := by decide +kernel
theorem dX6_init_8 : decode cX6_init 8 = .ok (.newarray .int, 2) := by decide +kernel
theorem dX6_init_10 : decode cX6_init 10 = .ok (.putfield 7, 3) := by decide +kernel
theorem dX6_init_13 : decode cX6_init 13 = .ok (.aload_n 0, 1) := by decide +kernel
theorem dX6_init_14 : decode cX6_init 14 = .ok (.sipush 201, 3) := by decide +kernel
theorem dX6_init_17 : decode cX6_init 17 = .ok (.newarray .long, 2) := by decide +kernel
theorem dX6_init_19 : decode cX6_init 19 = .ok (.putfield 13, 3) := by decide +kernel
theorem dX6_init_22 : decode cX6_init 22 = .ok (.aload_n 0, 1) := by decide +kernel
theorem dX6_init_23 : decode cX6_init 23 = .ok (.bipush 12, 2) := by decide +kernel
theorem dX6_init_25 : decode cX6_init 25 = .ok (.newarray .int, 2) := by decide +kernel
theorem dX6_init_27 : decode cX6_init 27 = .ok (.putfield 17, 3) := by decide +kernel
theorem dX6_init_30 : decode cX6_init 30 = .ok (.aload_n 0, 1) := by decide +kernel
theorem dX6_init_31 : decode cX6_init 31 = .ok (.bipush 12, 2) := by decide +kernel
theorem dX6_init_33 : decode cX6_init 33 = .ok (.newarray .int, 2) := by decide +kernel
theorem dX6_init_35 : decode cX6_init 35 = .ok (.putfield 20, 3) := by decide +kernel
theorem dX6_init_38 : decode cX6_init 38 = .ok (.aload_n 0, 1) := by decide +kernel
theorem dX6_init_39 : decode cX6_init 39 = .ok (.bipush 12, 2) := by decide +kernel
theorem dX6_init_41 : decode cX6_init 41 = .ok (.newarray .int, 2) := by decide +kernel
theorem dX6_init_43 : decode cX6_init 43 = .ok (.putfield 23, 3) := by decide +kernel
theorem dX6_init_46 : decode cX6_init 46 = .ok (.aload_n 0, 1) := by decide +kernel
theorem dX6_init_47 : decode cX6_init 47 = .ok (.bipush 12, 2) := by decide +kernel
theorem dX6_init_49 : decode cX6_init 49 = .ok (.newarray .int, 2) := by decide +kernel
theorem dX6_init_51 : decode cX6_init 51 = .ok (.putfield 26, 3) := by decide +kernel
theorem dX6_init_54 : decode cX6_init 54 = .ok (.aload_n 0, 1) := by decide +kernel
theorem dX6_init_55 : decode cX6_init 55 = .ok (.bipush 12, 2) := by decide +kernel
theorem dX6_init_57 : decode cX6_init 57 = .ok (.newarray .int, 2) := by decide +kernel
theorem dX6_init_59 : decode cX6_init 59 = .ok (.putfield 29, 3) := by decide +kernel
theorem dX6_init_62 : decode cX6_init 62 = .ok (.aload_n 0, 1) := by decide +kernel
theorem dX6_init_63 : decode cX6_init 63 = .ok (.iconst (-1), 1) := by decide +kernel
theorem dX6_init_64 : decode cX6_init 64 = .ok (.putfield 32, 3) := by decide +kernel
theorem dX6_init_67 : decode cX6_init 67 = .ok (.aload_n 0, 1) := by decide +kernel
theorem dX6_init_68 : decode cX6_init 68 = .ok (.bipush 64, 2) := by decide +kernel
theorem dX6_init_70 : decode cX6_init 70 = .ok (.newarray .long, 2) := by decide +kernel
theorem dX6_init_72 : decode cX6_init 72 = .ok (.putfield 36, 3) := by decide +kernel
theorem dX6_init_75 : decode cX6_init 75 = .ok (.aload_n 0, 1) := by decide +kernel
theorem dX6_init_76 : decode cX6_init 76 = .ok (.sipush 128, 3) := by decide +kernel
theorem dX6_init_79 : decode cX6_init 79 = .ok (.newarray .boolean, 2) := by decide +kernel
theorem dX6_init_81 : decode cX6_init 81 = .ok (.putfield 39, 3) := by decide +kernel
theorem dX6_init_84 : decode cX6_init 84 = .ok (.aload_n 0, 1) := by decide +kernel
theorem dX6_init_85 : decode cX6_init 85 = .ok (.sipush 128, 3) := by decide +kernel
theorem dX6_init_88 : decode cX6_init 88 = .ok (.newarray .long, 2) := by decide +kernel
theorem dX6_init_90 : decode cX6_init 90 = .ok (.putfield 43, 3) := by decide +kernel
theorem dX6_init_93 : decode cX6_init 93 = .ok (.aload_n 0, 1) := by decide +kernel
theorem dX6_init_94 : decode cX6_init 94 = .ok (.bipush 64, 2) := by decide +kernel
theorem dX6_init_96 : decode cX6_init 96 = .ok (.newarray .long, 2) := by decide +kernel
theorem dX6_init_98 : decode cX6_init 98 = .ok (.putfield 46, 3) := by decide +kernel
theorem dX6_init_101 : decode cX6_init 101 = .ok (.aload_n 0, 1) := by decide +kernel
theorem dX6_init_102 : decode cX6_init 102 = .ok (.bipush 64, 2) := by decide +kernel
theorem dX6_init_104 : decode cX6_init 104 = .ok (.newarray .long, 2) := by decide +kernel
theorem dX6_init_106 : decode cX6_init 106 = .ok (.putfield 49, 3) := by decide +kernel
theorem dX6_init_109 : decode cX6_init 109 = .ok (.aload_n 0, 1) := by decide +kernel
theorem dX6_init_110 : decode cX6_init 110 = .ok (.sipush 128, 3) := by decide +kernel
theorem dX6_init_113 : decode cX6_init 113 = .ok (.newarray .long, 2) := by decide +kernel
theorem dX6_init_115 : decode cX6_init 115 = .ok (.putfield 52, 3) := by decide +kernel
theorem dX6_init_118 : decode cX6_init 118 = .ok (.aload_n 0, 1) := by decide +kernel
theorem dX6_init_119 : decode cX6_init 119 = .ok (.sipush 128, 3) := by decide +kernel
theorem dX6_init_122 : decode cX6_init 122 = .ok (.newarray .boolean, 2) := by decide +kernel
theorem dX6_init_124 : decode cX6_init 124 = .ok (.putfield 55, 3) := by decide +kernel
theorem dX6_init_127 : decode cX6_init 127 = .ok (.return_, 1) := by decide +kernel
theorem dX6_in_0 : decode cX6_in 0 = .ok (.iload_n 0, 1) := by decide +kernel
theorem dX6_in_1 : decode cX6_in 1 = .ok (.iload_n 1, 1) := by decide +kernel
theorem dX6_in_2 : decode cX6_in 2 = .ok (.if_icmp .lt 12, 3) := by decide +kernel
theorem dX6_in_5 : decode cX6_in 5 = .ok (.iload_n 0, 1) := by decide +kernel
theorem dX6_in_6 : decode cX6_in 6 = .ok (.iload_n 2, 1) := by decide +kernel
theorem dX6_in_7 : decode cX6_in 7 = .ok (.if_icmp .gt 7, 3) := by decide +kernel
theorem dX6_in_10 : decode cX6_in 10 = .ok (.iconst 1, 1) := by decide +kernel
theorem dX6_in_11 : decode cX6_in 11 = .ok (.goto 4, 3) := by decide +kernel
theorem dX6_in_14 : decode cX6_in 14 = .ok (.iconst 0, 1) := by decide +kernel
theorem dX6_in_15 : decode cX6_in 15 = .ok (.ireturn, 1) := by decide +kernel
theorem dX6_mixed_0 : decode cX6_mixed 0 = .ok (.lload_n 0, 1) := by decide +kernel
theorem dX6_mixed_1 : decode cX6_mixed 1 = .ok (.ldc2_w 58, 3) := by decide +kernel
theorem dX6_mixed_4 : decode cX6_mixed 4 = .ok (.lmul, 1) := by decide +kernel
theorem dX6_mixed_5 : decode cX6_mixed 5 = .ok (.lload_n 2, 1) := by decide +kernel
theorem dX6_mixed_6 : decode cX6_mixed 6 = .ok (.bipush 23, 2) := by decide +kernel
theorem dX6_mixed_8 : decode cX6_mixed 8 = .ok (.lshl, 1) := by decide +kernel
theorem dX6_mixed_9 : decode cX6_mixed 9 = .ok (.lload_n 2, 1) := by decide +kernel
theorem dX6_mixed_10 : decode cX6_mixed 10 = .ok (.bipush 41, 2) := by decide +kernel
theorem dX6_mixed_12 : decode cX6_mixed 12 = .ok (.lushr, 1) := by decide +kernel
theorem dX6_mixed_13 : decode cX6_mixed 13 = .ok (.lor, 1) := by decide +kernel
theorem dX6_mixed_14 : decode cX6_mixed 14 = .ok (.ladd, 1) := by decide +kernel
theorem dX6_mixed_15 : decode cX6_mixed 15 = .ok (.lstore 4, 2) := by decide +kernel
theorem dX6_mixed_17 : decode cX6_mixed 17 = .ok (.lload 4, 2) := by decide +kernel
theorem dX6_mixed_19 : decode cX6_mixed 19 = .ok (.lload 4, 2) := by decide +kernel
theorem dX6_mixed_21 : decode cX6_mixed 21 = .ok (.bipush 29, 2) := by decide +kernel
theorem dX6_mixed_23 : decode cX6_mixed 23 = .ok (.lushr, 1) := by decide +kernel
theorem dX6_mixed_24 : decode cX6_mixed 24 = .ok (.lxor, 1) := by decide +kernel
theorem dX6_mixed_25 : decode cX6_mixed 25 = .ok (.lstore 4, 2) := by decide +kernel
theorem dX6_mixed_27 : decode cX6_mixed 27 = .ok (.lload 4, 2) := by decide +kernel
theorem dX6_mixed_29 : decode cX6_mixed 29 = .ok (.ldc2_w 60, 3) := by decide +kernel
theorem dX6_mixed_32 : decode cX6_mixed 32 = .ok (.lmul, 1) := by decide +kernel
theorem dX6_mixed_33 : decode cX6_mixed 33 = .ok (.lstore 4, 2) := by decide +kernel
theorem dX6_mixed_35 : decode cX6_mixed 35 = .ok (.lload 4, 2) := by decide +kernel
theorem dX6_mixed_37 : decode cX6_mixed 37 = .ok (.lload 4, 2) := by decide +kernel
theorem dX6_mixed_39 : decode cX6_mixed 39 = .ok (.bipush 32, 2) := by decide +kernel
theorem dX6_mixed_41 : decode cX6_mixed 41 = .ok (.lushr, 1) := by decide +kernel
theorem dX6_mixed_42 : decode cX6_mixed 42 = .ok (.lxor, 1) := by decide +kernel
theorem dX6_mixed_43 : decode cX6_mixed 43 = .ok (.lreturn, 1) := by decide +kernel
set_option maxRecDepth 20000 in
theorem ggX6_build_X6_mixed : GoodIn wsX6_build wsX6_mixed := goodIn_r _ [6, 7, 8] (by decide +kernel) (by decide +kernel)
set_option maxRecDepth 20000 in
theorem gX6_build_X6_mixed : GoodIn wsX6_build (va_wsS RX6 62 yX6_mixed wsX6_mixed) := goodIn_app (goodIn_of _ (by decide +kernel)) ggX6_build_X6_mixed
theorem dX6_build_0 : decode cX6_build 0 = .ok (.iconst 0, 1) := by decide +kernel
theorem dX6_build_1 : decode cX6_build 1 = .ok (.istore_n 2, 1) := by decide +kernel
theorem dX6_build_2 : decode cX6_build 2 = .ok (.iload_n 2, 1) := by decide +kernel
theorem dX6_build_3 : decode cX6_build 3 = .ok (.bipush 64, 2) := by decide +kernel
theorem dX6_build_5 : decode cX6_build 5 = .ok (.if_icmp .ge 62, 3) := by decide +kernel
theorem dX6_build_8 : decode cX6_build 8 = .ok (.aload_n 0, 1) := by decide +kernel
theorem dX6_build_9 : decode cX6_build 9 = .ok (.getfield 55, 3) := by decide +kernel
theorem dX6_build_12 : decode cX6_build 12 = .ok (.bipush 64, 2) := by decide +kernel
theorem dX6_build_14 : decode cX6_build 14 = .ok (.iload_n 2, 1) := by decide +kernel
theorem dX6_build_15 : decode cX6_build 15 = .ok (.iadd, 1) := by decide +kernel
theorem dX6_build_16 : decode cX6_build 16 = .ok (.aload_n 1, 1) := by decide +kernel
theorem dX6_build_17 : decode cX6_build 17 = .ok (.iload_n 2, 1) := by decide +kernel
theorem dX6_build_18 : decode cX6_build 18 = .ok (.laload, 1) := by decide +kernel
theorem dX6_build_19 : decode cX6_build 19 = .ok (.lconst 0, 1) := by decide +kernel
theorem dX6_build_20 : decode cX6_build 20 = .ok (.lcmp, 1) := by decide +kernel
theorem dX6_build_21 : decode cX6_build 21 = .ok (.ifCond .ne 7, 3) := by decide +kernel
theorem dX6_build_24 : decode cX6_build 24 = .ok (.iconst 1, 1) := by decide +kernel
theorem dX6_build_25 : decode cX6_build 25 = .ok (.goto 4, 3) := by decide +kernel
theorem dX6_build_28 : decode cX6_build 28 = .ok (.iconst 0, 1) := by decide +kernel
theorem dX6_build_29 : decode cX6_build 29 = .ok (.bastore, 1) := by decide +kernel
theorem dX6_build_30 : decode cX6_build 30 = .ok (.aload_n 0, 1) := by decide +kernel
theorem dX6_build_31 : decode cX6_build 31 = .ok (.getfield 52, 3) := by decide +kernel
theorem dX6_build_34 : decode cX6_build 34 = .ok (.bipush 64, 2) := by decide +kernel
theorem dX6_build_36 : decode cX6_build 36 = .ok (.iload_n 2, 1) := by decide +kernel
theorem dX6_build_37 : decode cX6_build 37 = .ok (.iadd, 1) := by decide +kernel
theorem dX6_build_38 : decode cX6_build 38 = .ok (.aload_n 1, 1) := by decide +kernel
theorem dX6_build_39 : decode cX6_build 39 = .ok (.iload_n 2, 1) := by decide +kernel
theorem dX6_build_40 : decode cX6_build 40 = .ok (.laload, 1) := by decide +kernel
theorem dX6_build_41 : decode cX6_build 41 = .ok (.lconst 0, 1) := by decide +kernel
theorem dX6_build_42 : decode cX6_build 42 = .ok (.lcmp, 1) := by decide +kernel
theorem dX6_build_43 : decode cX6_build 43 = .ok (.ifCond .ne 7, 3) := by decide +kernel
theorem dX6_build_46 : decode cX6_build 46 = .ok (.lconst 0, 1) := by decide +kernel
theorem dX6_build_47 : decode cX6_build 47 = .ok (.goto 13, 3) := by decide +kernel
theorem dX6_build_50 : decode cX6_build 50 = .ok (.iload_n 2, 1) := by decide +kernel
theorem dX6_build_51 : decode cX6_build 51 = .ok (.i2l, 1) := by decide +kernel
theorem dX6_build_52 : decode cX6_build 52 = .ok (.lconst 1, 1) := by decide +kernel
theorem dX6_build_53 : decode cX6_build 53 = .ok (.ladd, 1) := by decide +kernel
theorem dX6_build_54 : decode cX6_build 54 = .ok (.aload_n 1, 1) := by decide +kernel
theorem dX6_build_55 : decode cX6_build 55 = .ok (.iload_n 2, 1) := by decide +kernel
theorem dX6_build_56 : decode cX6_build 56 = .ok (.laload, 1) := by decide +kernel
theorem dX6_build_57 : decode cX6_build 57 = .ok (.invokestatic 62, 3) := by decide +kernel
theorem dX6_build_60 : decode cX6_build 60 = .ok (.lastore, 1) := by decide +kernel
theorem dX6_build_61 : decode cX6_build 61 = .ok (.iinc 2 1, 3) := by decide +kernel
theorem dX6_build_64 : decode cX6_build 64 = .ok (.goto (-62), 3) := by decide +kernel
theorem dX6_build_67 : decode cX6_build 67 = .ok (.bipush 63, 2) := by decide +kernel
theorem dX6_build_69 : decode cX6_build 69 = .ok (.istore_n 2, 1) := by decide +kernel
theorem dX6_build_70 : decode cX6_build 70 = .ok (.iload_n 2, 1) := by decide +kernel
theorem dX6_build_71 : decode cX6_build 71 = .ok (.ifCond .le 84, 3) := by decide +kernel
theorem dX6_build_74 : decode cX6_build 74 = .ok (.aload_n 0, 1) := by decide +kernel
theorem dX6_build_75 : decode cX6_build 75 = .ok (.getfield 55, 3) := by decide +kernel
theorem dX6_build_78 : decode cX6_build 78 = .ok (.iload_n 2, 1) := by decide +kernel
theorem dX6_build_79 : decode cX6_build 79 = .ok (.aload_n 0, 1) := by decide +kernel
theorem dX6_build_80 : decode cX6_build 80 = .ok (.getfield 55, 3) := by decide +kernel
theorem dX6_build_83 : decode cX6_build 83 = .ok (.iconst 2, 1) := by decide +kernel
theorem dX6_build_84 : decode cX6_build 84 = .ok (.iload_n 2, 1) := by decide +kernel
theorem dX6_build_85 : decode cX6_build 85 = .ok (.imul, 1) := by decide +kernel
theorem dX6_build_86 : decode cX6_build 86 = .ok (.baload, 1) := by decide +kernel
theorem dX6_build_87 : decode cX6_build 87 = .ok (.ifCond .eq 20, 3) := by decide +kernel
theorem dX6_build_90 : decode cX6_build 90 = .ok (.aload_n 0, 1) := by decide +kernel
theorem dX6_build_91 : decode cX6_build 91 = .ok (.getfield 55, 3) := by decide +kernel
theorem dX6_build_94 : decode cX6_build 94 = .ok (.iconst 2, 1) := by decide +kernel
theorem dX6_build_95 : decode cX6_build 95 = .ok (.iload_n 2, 1) := by decide +kernel
theorem dX6_build_96 : decode cX6_build 96 = .ok (.imul, 1) := by decide +kernel
theorem dX6_build_97 : decode cX6_build 97 = .ok (.iconst 1, 1) := by decide +kernel
theorem dX6_build_98 : decode cX6_build 98 = .ok (.iadd, 1) := by decide +kernel
theorem dX6_build_99 : decode cX6_build 99 = .ok (.baload, 1) := by decide +kernel
theorem dX6_build_100 : decode cX6_build 100 = .ok (.ifCond .eq 7, 3) := by decide +kernel
theorem dX6_build_103 : decode cX6_build 103 = .ok (.iconst 1, 1) := by decide +kernel
theorem dX6_build_104 : decode cX6_build 104 = .ok (.goto 4, 3) := by decide +kernel
theorem dX6_build_107 : decode cX6_build 107 = .ok (.iconst 0, 1) := by decide +kernel
theorem dX6_build_108 : decode cX6_build 108 = .ok (.bastore, 1) := by decide +kernel
theorem dX6_build_109 : decode cX6_build 109 = .ok (.aload_n 0, 1) := by decide +kernel
theorem dX6_build_110 : decode cX6_build 110 = .ok (.getfield 52, 3) := by decide +kernel
theorem dX6_build_113 : decode cX6_build 113 = .ok (.iload_n 2, 1) := by decide +kernel
theorem dX6_build_114 : decode cX6_build 114 = .ok (.aload_n 0, 1) := by decide +kernel
theorem dX6_build_115 : decode cX6_build 115 = .ok (.getfield 55, 3) := by decide +kernel
theorem dX6_build_118 : decode cX6_build 118 = .ok (.iload_n 2, 1) := by decide +kernel
theorem dX6_build_119 : decode cX6_build 119 = .ok (.baload, 1) := by decide +kernel
theorem dX6_build_120 : decode cX6_build 120 = .ok (.ifCond .eq 7, 3) := by decide +kernel
theorem dX6_build_123 : decode cX6_build 123 = .ok (.lconst 0, 1) := by decide +kernel
theorem dX6_build_124 : decode cX6_build 124 = .ok (.goto 24, 3) := by decide +kernel
theorem dX6_build_127 : decode cX6_build 127 = .ok (.aload_n 0, 1) := by decide +kernel
theorem dX6_build_128 : decode cX6_build 128 = .ok (.getfield 52, 3) := by decide +kernel
theorem dX6_build_131 : decode cX6_build 131 = .ok (.iconst 2, 1) := by decide +kernel
theorem dX6_build_132 : decode cX6_build 132 = .ok (.iload_n 2, 1) := by decide +kernel
theorem dX6_build_133 : decode cX6_build 133 = .ok (.imul, 1) := by decide +kernel
theorem dX6_build_134 : decode cX6_build 134 = .ok (.laload, 1) := by decide +kernel
theorem dX6_build_135 : decode cX6_build 135 = .ok (.aload_n 0, 1) := by decide +kernel
theorem dX6_build_136 : decode cX6_build 136 = .ok (.getfield 52, 3) := by decide +kernel
theorem dX6_build_139 : decode cX6_build 139 = .ok (.iconst 2, 1) := by decide +kernel
theorem dX6_build_140 : decode cX6_build 140 = .ok (.iload_n 2, 1) := by decide +kernel
theorem dX6_build_141 : decode cX6_build 141 = .ok (.imul, 1) := by decide +kernel
theorem dX6_build_142 : decode cX6_build 142 = .ok (.iconst 1, 1) := by decide +kernel
theorem dX6_build_143 : decode cX6_build 143 = .ok (.iadd, 1) := by decide +kernel
theorem dX6_build_144 : decode cX6_build 144 = .ok (.laload, 1) := by decide +kernel
theorem dX6_build_145 : decode cX6_build 145 = .ok (.invokestatic 62, 3) := by decide +kernel
theorem dX6_build_148 : decode cX6_build 148 = .ok (.lastore, 1) := by decide +kernel
theorem dX6_build_149 : decode cX6_build 149 = .ok (.iinc 2 (-1), 3) := by decide +kernel
theorem dX6_build_152 : decode cX6_build 152 = .ok (.goto (-82), 3) := by decide +kernel
theorem dX6_build_155 : decode cX6_build 155 = .ok (.return_, 1) := by decide +kernel
theorem dX6_stateAt_0 : decode cX6_stateAt 0 = .ok (.iconst 0, 1) := by decide +kernel
theorem dX6_stateAt_1 : decode cX6_stateAt 1 = .ok (.istore_n 2, 1) := by decide +kernel
theorem dX6_stateAt_2 : decode cX6_stateAt 2 = .ok (.iload_n 2, 1) := by decide +kernel
theorem dX6_stateAt_3 : decode cX6_stateAt 3 = .ok (.bipush 64, 2) := by decide +kernel
theorem dX6_stateAt_5 : decode cX6_stateAt 5 = .ok (.if_icmp .ge 16, 3) := by decide +kernel
theorem dX6_stateAt_8 : decode cX6_stateAt 8 = .ok (.aload_n 0, 1) := by decide +kernel
theorem dX6_stateAt_9 : decode cX6_stateAt 9 = .ok (.getfield 46, 3) := by decide +kernel
theorem dX6_stateAt_12 : decode cX6_stateAt 12 = .ok (.iload_n 2, 1) := by decide +kernel
theorem dX6_stateAt_13 : decode cX6_stateAt 13 = .ok (.lconst 0, 1) := by decide +kernel
theorem dX6_stateAt_14 : decode cX6_stateAt 14 = .ok (.lastore, 1) := by decide +kernel
theorem dX6_stateAt_15 : decode cX6_stateAt 15 = .ok (.iinc 2 1, 3) := by decide +kernel
theorem dX6_stateAt_18 : decode cX6_stateAt 18 = .ok (.goto (-16), 3) := by decide +kernel
theorem dX6_stateAt_21 : decode cX6_stateAt 21 = .ok (.iconst 1, 1) := by decide +kernel
theorem dX6_stateAt_22 : decode cX6_stateAt 22 = .ok (.istore_n 2, 1) := by decide +kernel
theorem dX6_stateAt_23 : decode cX6_stateAt 23 = .ok (.iload_n 2, 1) := by decide +kernel
theorem dX6_stateAt_24 : decode cX6_stateAt 24 = .ok (.iload_n 1, 1) := by decide +kernel
theorem dX6_stateAt_25 : decode cX6_stateAt 25 = .ok (.if_icmp .gt 26, 3) := by decide +kernel
theorem dX6_stateAt_28 : decode cX6_stateAt 28 = .ok (.aload_n 0, 1) := by decide +kernel
theorem dX6_stateAt_29 : decode cX6_stateAt 29 = .ok (.getfield 46, 3) := by decide +kernel
theorem dX6_stateAt_32 : decode cX6_stateAt 32 = .ok (.aload_n 0, 1) := by decide +kernel
theorem dX6_stateAt_33 : decode cX6_stateAt 33 = .ok (.getfield 7, 3) := by decide +kernel
theorem dX6_stateAt_36 : decode cX6_stateAt 36 = .ok (.iload_n 2, 1) := by decide +kernel
theorem dX6_stateAt_37 : decode cX6_stateAt 37 = .ok (.iaload, 1) := by decide +kernel
theorem dX6_stateAt_38 : decode cX6_stateAt 38 = .ok (.aload_n 0, 1) := by decide +kernel
theorem dX6_stateAt_39 : decode cX6_stateAt 39 = .ok (.getfield 13, 3) := by decide +kernel
theorem dX6_stateAt_42 : decode cX6_stateAt 42 = .ok (.iload_n 2, 1) := by decide +kernel
theorem dX6_stateAt_43 : decode cX6_stateAt 43 = .ok (.laload, 1) := by decide +kernel
theorem dX6_stateAt_44 : decode cX6_stateAt 44 = .ok (.lastore, 1) := by decide +kernel
theorem dX6_stateAt_45 : decode cX6_stateAt 45 = .ok (.iinc 2 1, 3) := by decide +kernel
theorem dX6_stateAt_48 : decode cX6_stateAt 48 = .ok (.goto (-25), 3) := by decide +kernel
theorem dX6_stateAt_51 : decode cX6_stateAt 51 = .ok (.return_, 1) := by decide +kernel
set_option maxRecDepth 20000 in
theorem ggX6_leaf_X6_in : GoodIn wsX6_leaf wsX6_in := goodIn_r _ [7] (by decide +kernel) (by decide +kernel)
set_option maxRecDepth 20000 in
theorem gX6_leaf_X6_in : GoodIn wsX6_leaf (va_wsS RX6 66 yX6_in wsX6_in) := goodIn_app (goodIn_of _ (by decide +kernel)) ggX6_leaf_X6_in
theorem dX6_leaf_0 : decode cX6_leaf 0 = .ok (.iload_n 1, 1) := by decide +kernel
theorem dX6_leaf_1 : decode cX6_leaf 1 = .ok (.iconst 0, 1) := by decide +kernel
theorem dX6_leaf_2 : decode cX6_leaf 2 = .ok (.bipush 63, 2) := by decide +kernel
theorem dX6_leaf_4 : decode cX6_leaf 4 = .ok (.invokestatic 66, 3) := by decide +kernel
theorem dX6_leaf_7 : decode cX6_leaf 7 = .ok (.ifCond .ne 5, 3) := by decide +kernel
theorem dX6_leaf_10 : decode cX6_leaf 10 = .ok (.iconst (-1), 1) := by decide +kernel
theorem dX6_leaf_11 : decode cX6_leaf 11 = .ok (.ireturn, 1) := by decide +kernel
theorem dX6_leaf_12 : decode cX6_leaf 12 = .ok (.aload_n 0, 1) := by decide +kernel
theorem dX6_leaf_13 : decode cX6_leaf 13 = .ok (.getfield 70, 3) := by decide +kernel
theorem dX6_leaf_16 : decode cX6_leaf 16 = .ok (.sipush 200, 3) := by decide +kernel
theorem dX6_leaf_19 : decode cX6_leaf 19 = .ok (.if_icmp .ne 6, 3) := by decide +kernel
theorem dX6_leaf_22 : decode cX6_leaf 22 = .ok (.bipush (-2), 2) := by decide +kernel
theorem dX6_leaf_24 : decode cX6_leaf 24 = .ok (.ireturn, 1) := by decide +kernel
theorem dX6_leaf_25 : decode cX6_leaf 25 = .ok (.aload_n 0, 1) := by decide +kernel
theorem dX6_leaf_26 : decode cX6_leaf 26 = .ok (.dup, 1) := by decide +kernel
theorem dX6_leaf_27 : decode cX6_leaf 27 = .ok (.getfield 70, 3) := by decide +kernel
theorem dX6_leaf_30 : decode cX6_leaf 30 = .ok (.iconst 1, 1) := by decide +kernel
theorem dX6_leaf_31 : decode cX6_leaf 31 = .ok (.iadd, 1) := by decide +kernel
theorem dX6_leaf_32 : decode cX6_leaf 32 = .ok (.putfield 70, 3) := by decide +kernel
theorem dX6_leaf_35 : decode cX6_leaf 35 = .ok (.aload_n 0, 1) := by decide +kernel
theorem dX6_leaf_36 : decode cX6_leaf 36 = .ok (.getfield 7, 3) := by decide +kernel
theorem dX6_leaf_39 : decode cX6_leaf 39 = .ok (.aload_n 0, 1) := by decide +kernel
theorem dX6_leaf_40 : decode cX6_leaf 40 = .ok (.getfield 70, 3) := by decide +kernel
theorem dX6_leaf_43 : decode cX6_leaf 43 = .ok (.iload_n 1, 1) := by decide +kernel
theorem dX6_leaf_44 : decode cX6_leaf 44 = .ok (.iastore, 1) := by decide +kernel
theorem dX6_leaf_45 : decode cX6_leaf 45 = .ok (.aload_n 0, 1) := by decide +kernel
theorem dX6_leaf_46 : decode cX6_leaf 46 = .ok (.getfield 13, 3) := by decide +kernel
theorem dX6_leaf_49 : decode cX6_leaf 49 = .ok (.aload_n 0, 1) := by decide +kernel
theorem dX6_leaf_50 : decode cX6_leaf 50 = .ok (.getfield 70, 3) := by decide +kernel
theorem dX6_leaf_53 : decode cX6_leaf 53 = .ok (.lload_n 2, 1) := by decide +kernel
theorem dX6_leaf_54 : decode cX6_leaf 54 = .ok (.lastore, 1) := by decide +kernel
theorem dX6_leaf_55 : decode cX6_leaf 55 = .ok (.aload_n 0, 1) := by decide +kernel
theorem dX6_leaf_56 : decode cX6_leaf 56 = .ok (.getfield 70, 3) := by decide +kernel
theorem dX6_leaf_59 : decode cX6_leaf 59 = .ok (.ireturn, 1) := by decide +kernel
set_option maxRecDepth 20000 in
theorem ggX6_value_X6_in : GoodIn wsX6_value wsX6_in := goodIn_r _ [6] (by decide +kernel) (by decide +kernel)
set_option maxRecDepth 20000 in
theorem gX6_value_X6_in : GoodIn wsX6_value (va_wsS RX6 66 yX6_in wsX6_in) := goodIn_app (goodIn_of _ (by decide +kernel)) ggX6_value_X6_in
set_option maxRecDepth 20000 in
theorem ggX6_value_X6_stateAt : GoodIn wsX6_value wsX6_stateAt := goodIn_r _ [10, 2, 11, 12, 13, 14, 15, 16, 17, 18, 19, 20, 21, 22, 23, 24, 25, 26, 27, 28, 29, 30, 31, 32] (by decide +kernel) (by decide +kernel)
set_option maxRecDepth 20000 in
theorem gX6_value_X6_stateAt : GoodIn wsX6_value (wsV RX6 73 RX6 yX6_stateAt wsX6_stateAt) := goodIn_app (goodIn_of _ (by decide +kernel)) ggX6_value_X6_stateAt
theorem dX6_value_0 : decode cX6_value 0 = .ok (.iload_n 1, 1) := by decide +kernel
theorem dX6_value_1 : decode cX6_value 1 = .ok (.iconst 0, 1) := by decide +kernel
theorem dX6_value_2 : decode cX6_value 2 = .ok (.aload_n 0, 1) := by decide +kernel
theorem dX6_value_3 : decode cX6_value 3 = .ok (.getfield 70, 3) := by decide +kernel
theorem dX6_value_6 : decode cX6_value 6 = .ok (.invokestatic 66, 3) := by decide +kernel
theorem dX6_value_9 : decode cX6_value 9 = .ok (.ifCond .eq 13, 3) := by decide +kernel
theorem dX6_value_12 : decode cX6_value 12 = .ok (.iload_n 2, 1) := by decide +kernel
theorem dX6_value_13 : decode cX6_value 13 = .ok (.iconst 0, 1) := by decide +kernel
theorem dX6_value_14 : decode cX6_value 14 = .ok (.bipush 63, 2) := by decide +kernel
theorem dX6_value_16 : decode cX6_value 16 = .ok (.invokestatic 66, 3) := by decide +kernel
theorem dX6_value_19 : decode cX6_value 19 = .ok (.ifCond .ne 5, 3) := by decide +kernel
theorem dX6_value_22 : decode cX6_value 22 = .ok (.lconst 0, 1) := by decide +kernel
theorem dX6_value_23 : decode cX6_value 23 = .ok (.lreturn, 1) := by decide +kernel
theorem dX6_value_24 : decode cX6_value 24 = .ok (.aload_n 0, 1) := by decide +kernel
theorem dX6_value_25 : decode cX6_value 25 = .ok (.iload_n 1, 1) := by decide +kernel
theorem dX6_value_26 : decode cX6_value 26 = .ok (.invokevirtual 73, 3) := by decide +kernel
theorem dX6_value_29 : decode cX6_value 29 = .ok (.aload_n 0, 1) := by decide +kernel
theorem dX6_value_30 : decode cX6_value 30 = .ok (.getfield 46, 3) := by decide +kernel
theorem dX6_value_33 : decode cX6_value 33 = .ok (.iload_n 2, 1) := by decide +kernel
theorem dX6_value_34 : decode cX6_value 34 = .ok (.laload, 1) := by decide +kernel
theorem dX6_value_35 : decode cX6_value 35 = .ok (.lreturn, 1) := by decide +kernel
set_option maxRecDepth 20000 in
theorem ggX6_digest_X6_in : GoodIn wsX6_digest wsX6_in := goodIn_r _ [7] (by decide +kernel) (by decide +kernel)
set_option maxRecDepth 20000 in
theorem gX6_digest_X6_in : GoodIn wsX6_digest (va_wsS RX6 66 yX6_in wsX6_in) := goodIn_app (goodIn_of _ (by decide +kernel)) ggX6_digest_X6_in
set_option maxRecDepth 20000 in
theorem ggX6_digest_X6_stateAt : GoodIn wsX6_digest wsX6_stateAt := goodIn_r _ [11, 2, 12, 13, 24, 25, 26, 27, 28, 29, 30, 31, 32, 33, 34, 35, 36, 37, 38, 39, 40, 41, 42, 43] (by decide +kernel) (by decide +kernel)
set_option maxRecDepth 20000 in
theorem gX6_digest_X6_stateAt : GoodIn wsX6_digest (wsV RX6 73 RX6 yX6_stateAt wsX6_stateAt) := goodIn_app (goodIn_of _ (by decide +kernel)) ggX6_digest_X6_stateAt
set_option maxRecDepth 20000 in
theorem ggX6_digest_X6_build : GoodIn wsX6_digest wsX6_build := goodIn_r _ [17, 18, 3, 19, 20, 6, 21, 22, 23, 24, 25, 26, 27, 28, 29, 30, 31, 32, 33, 34, 35, 36, 37, 38, 39, 40, 41, 42, 43] (by decide +kernel) (by decide +kernel)
set_option maxRecDepth 20000 in
theorem gX6_digest_X6_build : GoodIn wsX6_digest (wsV RX6 77 RX6 yX6_build wsX6_build) := goodIn_app (goodIn_of _ (by decide +kernel)) ggX6_digest_X6_build
theorem dX6_digest_0 : decode cX6_digest 0 = .ok (.iload_n 1, 1) := by decide +kernel
theorem dX6_digest_1 : decode cX6_digest 1 = .ok (.iconst 0, 1) := by decide +kernel
theorem dX6_digest_2 : decode cX6_digest 2 = .ok (.aload_n 0, 1) := by decide +kernel
theorem dX6_digest_3 : decode cX6_digest 3 = .ok (.getfield 70, 3) := by decide +kernel
theorem dX6_digest_6 : decode cX6_digest 6 = .ok (.invokestatic 66, 3) := by decide +kernel
theorem dX6_digest_9 : decode cX6_digest 9 = .ok (.ifCond .eq 13, 3) := by decide +kernel
theorem dX6_digest_12 : decode cX6_digest 12 = .ok (.iload_n 2, 1) := by decide +kernel
theorem dX6_digest_13 : decode cX6_digest 13 = .ok (.iconst 1, 1) := by decide +kernel
theorem dX6_digest_14 : decode cX6_digest 14 = .ok (.bipush 127, 2) := by decide +kernel
theorem dX6_digest_16 : decode cX6_digest 16 = .ok (.invokestatic 66, 3) := by decide +kernel
theorem dX6_digest_19 : decode cX6_digest 19 = .ok (.ifCond .ne 5, 3) := by decide +kernel
theorem dX6_digest_22 : decode cX6_digest 22 = .ok (.lconst 0, 1) := by decide +kernel
theorem dX6_digest_23 : decode cX6_digest 23 = .ok (.lreturn, 1) := by decide +kernel
theorem dX6_digest_24 : decode cX6_digest 24 = .ok (.aload_n 0, 1) := by decide +kernel
theorem dX6_digest_25 : decode cX6_digest 25 = .ok (.iload_n 1, 1) := by decide +kernel
theorem dX6_digest_26 : decode cX6_digest 26 = .ok (.invokevirtual 73, 3) := by decide +kernel
theorem dX6_digest_29 : decode cX6_digest 29 = .ok (.aload_n 0, 1) := by decide +kernel
theorem dX6_digest_30 : decode cX6_digest 30 = .ok (.aload_n 0, 1) := by decide +kernel
theorem dX6_digest_31 : decode cX6_digest 31 = .ok (.getfield 46, 3) := by decide +kernel
theorem dX6_digest_34 : decode cX6_digest 34 = .ok (.invokevirtual 77, 3) := by decide +kernel
theorem dX6_digest_37 : decode cX6_digest 37 = .ok (.aload_n 0, 1) := by decide +kernel
theorem dX6_digest_38 : decode cX6_digest 38 = .ok (.getfield 52, 3) := by decide +kernel
theorem dX6_digest_41 : decode cX6_digest 41 = .ok (.iload_n 2, 1) := by decide +kernel
theorem dX6_digest_42 : decode cX6_digest 42 = .ok (.laload, 1) := by decide +kernel
theorem dX6_digest_43 : decode cX6_digest 43 = .ok (.lreturn, 1) := by decide +kernel
set_option maxRecDepth 20000 in
theorem ggX6_giver_X6_in : GoodIn wsX6_giver wsX6_in := goodIn_r _ [7] (by decide +kernel) (by decide +kernel)
set_option maxRecDepth 20000 in
theorem gX6_giver_X6_in : GoodIn wsX6_giver (va_wsS RX6 66 yX6_in wsX6_in) := goodIn_app (goodIn_of _ (by decide +kernel)) ggX6_giver_X6_in
theorem dX6_giver_0 : decode cX6_giver 0 = .ok (.iload_n 1, 1) := by decide +kernel
theorem dX6_giver_1 : decode cX6_giver 1 = .ok (.iconst 0, 1) := by decide +kernel
theorem dX6_giver_2 : decode cX6_giver 2 = .ok (.iconst 4, 1) := by decide +kernel
theorem dX6_giver_3 : decode cX6_giver 3 = .ok (.invokestatic 66, 3) := by decide +kernel
theorem dX6_giver_6 : decode cX6_giver 6 = .ok (.ifCond .eq 14, 3) := by decide +kernel
theorem dX6_giver_9 : decode cX6_giver 9 = .ok (.iload_n 2, 1) := by decide +kernel
theorem dX6_giver_10 : decode cX6_giver 10 = .ok (.iconst (-1), 1) := by decide +kernel
theorem dX6_giver_11 : decode cX6_giver 11 = .ok (.sipush 200, 3) := by decide +kernel
theorem dX6_giver_14 : decode cX6_giver 14 = .ok (.invokestatic 66, 3) := by decide +kernel
theorem dX6_giver_17 : decode cX6_giver 17 = .ok (.ifCond .ne 5, 3) := by decide +kernel
theorem dX6_giver_20 : decode cX6_giver 20 = .ok (.iconst (-1), 1) := by decide +kernel
theorem dX6_giver_21 : decode cX6_giver 21 = .ok (.ireturn, 1) := by decide +kernel
theorem dX6_giver_22 : decode cX6_giver 22 = .ok (.aload_n 0, 1) := by decide +kernel
theorem dX6_giver_23 : decode cX6_giver 23 = .ok (.getfield 81, 3) := by decide +kernel
theorem dX6_giver_26 : decode cX6_giver 26 = .ok (.bipush 12, 2) := by decide +kernel
theorem dX6_giver_28 : decode cX6_giver 28 = .ok (.if_icmp .ne 6, 3) := by decide +kernel
theorem dX6_giver_31 : decode cX6_giver 31 = .ok (.bipush (-2), 2) := by decide +kernel
theorem dX6_giver_33 : decode cX6_giver 33 = .ok (.ireturn, 1) := by decide +kernel
end
section
theorem dX6_giver_34 : decode cX6_giver 34 = .ok (.aload_n 0, 1) := by decide +kernel
theorem dX6_giver_35 : decode cX6_giver 35 = .ok (.getfield 17, 3) := by decide +kernel
theorem dX6_giver_38 : decode cX6_giver 38 = .ok (.aload_n 0, 1) := by decide +kernel
theorem dX6_giver_39 : decode cX6_giver 39 = .ok (.getfield 81, 3) := by decide +kernel
theorem dX6_giver_42 : decode cX6_giver 42 = .ok (.iload_n 1, 1) := by decide +kernel
theorem dX6_giver_43 : decode cX6_giver 43 = .ok (.iastore, 1) := by decide +kernel
theorem dX6_giver_44 : decode cX6_giver 44 = .ok (.aload_n 0, 1) := by decide +kernel
theorem dX6_giver_45 : decode cX6_giver 45 = .ok (.getfield 20, 3) := by decide +kernel
theorem dX6_giver_48 : decode cX6_giver 48 = .ok (.aload_n 0, 1) := by decide +kernel
theorem dX6_giver_49 : decode cX6_giver 49 = .ok (.getfield 81, 3) := by decide +kernel
theorem dX6_giver_52 : decode cX6_giver 52 = .ok (.iload_n 2, 1) := by decide +kernel
theorem dX6_giver_53 : decode cX6_giver 53 = .ok (.iastore, 1) := by decide +kernel
theorem dX6_giver_54 : decode cX6_giver 54 = .ok (.aload_n 0, 1) := by decide +kernel
theorem dX6_giver_55 : decode cX6_giver 55 = .ok (.dup, 1) := by decide +kernel
theorem dX6_giver_56 : decode cX6_giver 56 = .ok (.getfield 81, 3) := by decide +kernel
theorem dX6_giver_59 : decode cX6_giver 59 = .ok (.iconst 1, 1) := by decide +kernel
theorem dX6_giver_60 : decode cX6_giver 60 = .ok (.iadd, 1) := by decide +kernel
theorem dX6_giver_61 : decode cX6_giver 61 = .ok (.putfield 81, 3) := by decide +kernel
theorem dX6_giver_64 : decode cX6_giver 64 = .ok (.aload_n 0, 1) := by decide +kernel
theorem dX6_giver_65 : decode cX6_giver 65 = .ok (.getfield 81, 3) := by decide +kernel
theorem dX6_giver_68 : decode cX6_giver 68 = .ok (.iconst 1, 1) := by decide +kernel
theorem dX6_giver_69 : decode cX6_giver 69 = .ok (.isub, 1) := by decide +kernel
theorem dX6_giver_70 : decode cX6_giver 70 = .ok (.ireturn, 1) := by decide +kernel
set_option maxRecDepth 20000 in
theorem ggX6_faults_X6_in : GoodIn wsX6_faults wsX6_in := goodIn_r _ [6] (by decide +kernel) (by decide +kernel)
set_option maxRecDepth 20000 in
theorem gX6_faults_X6_in : GoodIn wsX6_faults (va_wsS RX6 66 yX6_in wsX6_in) := goodIn_app (goodIn_of _ (by decide +kernel)) ggX6_faults_X6_in
theorem dX6_faults_0 : decode cX6_faults 0 = .ok (.iload_n 1, 1) := by decide +kernel
theorem dX6_faults_1 : decode cX6_faults 1 = .ok (.iconst 0, 1) := by decide +kernel
theorem dX6_faults_2 : decode cX6_faults 2 = .ok (.aload_n 0, 1) := by decide +kernel
theorem dX6_faults_3 : decode cX6_faults 3 = .ok (.getfield 81, 3) := by decide +kernel
theorem dX6_faults_6 : decode cX6_faults 6 = .ok (.iconst 1, 1) := by decide +kernel
theorem dX6_faults_7 : decode cX6_faults 7 = .ok (.isub, 1) := by decide +kernel
theorem dX6_faults_8 : decode cX6_faults 8 = .ok (.invokestatic 66, 3) := by decide +kernel
theorem dX6_faults_11 : decode cX6_faults 11 = .ok (.ifCond .eq 12, 3) := by decide +kernel
theorem dX6_faults_14 : decode cX6_faults 14 = .ok (.aload_n 0, 1) := by decide +kernel
theorem dX6_faults_15 : decode cX6_faults 15 = .ok (.getfield 26, 3) := by decide +kernel
theorem dX6_faults_18 : decode cX6_faults 18 = .ok (.iload_n 1, 1) := by decide +kernel
theorem dX6_faults_19 : decode cX6_faults 19 = .ok (.iaload, 1) := by decide +kernel
theorem dX6_faults_20 : decode cX6_faults 20 = .ok (.goto 4, 3) := by decide +kernel
theorem dX6_faults_23 : decode cX6_faults 23 = .ok (.iconst (-1), 1) := by decide +kernel
theorem dX6_faults_24 : decode cX6_faults 24 = .ok (.ireturn, 1) := by decide +kernel
set_option maxRecDepth 20000 in
theorem ggX6_named_X6_in : GoodIn wsX6_named wsX6_in := goodIn_r _ [6] (by decide +kernel) (by decide +kernel)
set_option maxRecDepth 20000 in
theorem gX6_named_X6_in : GoodIn wsX6_named (va_wsS RX6 66 yX6_in wsX6_in) := goodIn_app (goodIn_of _ (by decide +kernel)) ggX6_named_X6_in
theorem dX6_named_0 : decode cX6_named 0 = .ok (.iload_n 1, 1) := by decide +kernel
theorem dX6_named_1 : decode cX6_named 1 = .ok (.iconst 0, 1) := by decide +kernel
theorem dX6_named_2 : decode cX6_named 2 = .ok (.aload_n 0, 1) := by decide +kernel
theorem dX6_named_3 : decode cX6_named 3 = .ok (.getfield 84, 3) := by decide +kernel
theorem dX6_named_6 : decode cX6_named 6 = .ok (.iconst 1, 1) := by decide +kernel
theorem dX6_named_7 : decode cX6_named 7 = .ok (.isub, 1) := by decide +kernel
theorem dX6_named_8 : decode cX6_named 8 = .ok (.invokestatic 66, 3) := by decide +kernel
theorem dX6_named_11 : decode cX6_named 11 = .ok (.ifCond .eq 12, 3) := by decide +kernel
theorem dX6_named_14 : decode cX6_named 14 = .ok (.aload_n 0, 1) := by decide +kernel
theorem dX6_named_15 : decode cX6_named 15 = .ok (.getfield 29, 3) := by decide +kernel
theorem dX6_named_18 : decode cX6_named 18 = .ok (.iload_n 1, 1) := by decide +kernel
theorem dX6_named_19 : decode cX6_named 19 = .ok (.iaload, 1) := by decide +kernel
theorem dX6_named_20 : decode cX6_named 20 = .ok (.goto 4, 3) := by decide +kernel
theorem dX6_named_23 : decode cX6_named 23 = .ok (.iconst (-1), 1) := by decide +kernel
theorem dX6_named_24 : decode cX6_named 24 = .ok (.ireturn, 1) := by decide +kernel
theorem dX6_firstOf_0 : decode cX6_firstOf 0 = .ok (.iload_n 0, 1) := by decide +kernel
theorem dX6_firstOf_1 : decode cX6_firstOf 1 = .ok (.istore_n 1, 1) := by decide +kernel
theorem dX6_firstOf_2 : decode cX6_firstOf 2 = .ok (.iload_n 1, 1) := by decide +kernel
theorem dX6_firstOf_3 : decode cX6_firstOf 3 = .ok (.bipush 64, 2) := by decide +kernel
theorem dX6_firstOf_5 : decode cX6_firstOf 5 = .ok (.if_icmp .ge 10, 3) := by decide +kernel
theorem dX6_firstOf_8 : decode cX6_firstOf 8 = .ok (.iconst 2, 1) := by decide +kernel
theorem dX6_firstOf_9 : decode cX6_firstOf 9 = .ok (.iload_n 1, 1) := by decide +kernel
theorem dX6_firstOf_10 : decode cX6_firstOf 10 = .ok (.imul, 1) := by decide +kernel
theorem dX6_firstOf_11 : decode cX6_firstOf 11 = .ok (.istore_n 1, 1) := by decide +kernel
theorem dX6_firstOf_12 : decode cX6_firstOf 12 = .ok (.goto (-10), 3) := by decide +kernel
theorem dX6_firstOf_15 : decode cX6_firstOf 15 = .ok (.iload_n 1, 1) := by decide +kernel
theorem dX6_firstOf_16 : decode cX6_firstOf 16 = .ok (.bipush 64, 2) := by decide +kernel
theorem dX6_firstOf_18 : decode cX6_firstOf 18 = .ok (.isub, 1) := by decide +kernel
theorem dX6_firstOf_19 : decode cX6_firstOf 19 = .ok (.ireturn, 1) := by decide +kernel
theorem dX6_lastOf_0 : decode cX6_lastOf 0 = .ok (.iload_n 0, 1) := by decide +kernel
theorem dX6_lastOf_1 : decode cX6_lastOf 1 = .ok (.istore_n 1, 1) := by decide +kernel
theorem dX6_lastOf_2 : decode cX6_lastOf 2 = .ok (.iload_n 1, 1) := by decide +kernel
theorem dX6_lastOf_3 : decode cX6_lastOf 3 = .ok (.bipush 64, 2) := by decide +kernel
theorem dX6_lastOf_5 : decode cX6_lastOf 5 = .ok (.if_icmp .ge 12, 3) := by decide +kernel
theorem dX6_lastOf_8 : decode cX6_lastOf 8 = .ok (.iconst 2, 1) := by decide +kernel
theorem dX6_lastOf_9 : decode cX6_lastOf 9 = .ok (.iload_n 1, 1) := by decide +kernel
theorem dX6_lastOf_10 : decode cX6_lastOf 10 = .ok (.imul, 1) := by decide +kernel
theorem dX6_lastOf_11 : decode cX6_lastOf 11 = .ok (.iconst 1, 1) := by decide +kernel
theorem dX6_lastOf_12 : decode cX6_lastOf 12 = .ok (.iadd, 1) := by decide +kernel
theorem dX6_lastOf_13 : decode cX6_lastOf 13 = .ok (.istore_n 1, 1) := by decide +kernel
theorem dX6_lastOf_14 : decode cX6_lastOf 14 = .ok (.goto (-12), 3) := by decide +kernel
theorem dX6_lastOf_17 : decode cX6_lastOf 17 = .ok (.iload_n 1, 1) := by decide +kernel
theorem dX6_lastOf_18 : decode cX6_lastOf 18 = .ok (.bipush 64, 2) := by decide +kernel
theorem dX6_lastOf_20 : decode cX6_lastOf 20 = .ok (.isub, 1) := by decide +kernel
theorem dX6_lastOf_21 : decode cX6_lastOf 21 = .ok (.ireturn, 1) := by decide +kernel
set_option maxRecDepth 20000 in
theorem ggX6_know_X6_firstOf : GoodIn wsX6_know wsX6_firstOf := goodIn_r _ [7] (by decide +kernel) (by decide +kernel)
set_option maxRecDepth 20000 in
theorem gX6_know_X6_firstOf : GoodIn wsX6_know (va_wsS RX6 87 yX6_firstOf wsX6_firstOf) := goodIn_app (goodIn_of _ (by decide +kernel)) ggX6_know_X6_firstOf
set_option maxRecDepth 20000 in
theorem ggX6_know_X6_lastOf : GoodIn wsX6_know wsX6_lastOf := goodIn_r _ [10] (by decide +kernel) (by decide +kernel)
set_option maxRecDepth 20000 in
theorem gX6_know_X6_lastOf : GoodIn wsX6_know (va_wsS RX6 91 yX6_lastOf wsX6_lastOf) := goodIn_app (goodIn_of _ (by decide +kernel)) ggX6_know_X6_lastOf
theorem dX6_know_0 : decode cX6_know 0 = .ok (.aload_n 0, 1) := by decide +kernel
theorem dX6_know_1 : decode cX6_know 1 = .ok (.getfield 39, 3) := by decide +kernel
theorem dX6_know_4 : decode cX6_know 4 = .ok (.iload_n 1, 1) := by decide +kernel
theorem dX6_know_5 : decode cX6_know 5 = .ok (.iconst 1, 1) := by decide +kernel
theorem dX6_know_6 : decode cX6_know 6 = .ok (.bastore, 1) := by decide +kernel
theorem dX6_know_7 : decode cX6_know 7 = .ok (.aload_n 0, 1) := by decide +kernel
theorem dX6_know_8 : decode cX6_know 8 = .ok (.getfield 43, 3) := by decide +kernel
theorem dX6_know_11 : decode cX6_know 11 = .ok (.iload_n 1, 1) := by decide +kernel
theorem dX6_know_12 : decode cX6_know 12 = .ok (.lload_n 2, 1) := by decide +kernel
theorem dX6_know_13 : decode cX6_know 13 = .ok (.lastore, 1) := by decide +kernel
theorem dX6_know_14 : decode cX6_know 14 = .ok (.lload_n 2, 1) := by decide +kernel
theorem dX6_know_15 : decode cX6_know 15 = .ok (.lconst 0, 1) := by decide +kernel
theorem dX6_know_16 : decode cX6_know 16 = .ok (.lcmp, 1) := by decide +kernel
theorem dX6_know_17 : decode cX6_know 17 = .ok (.ifCond .ne 32, 3) := by decide +kernel
theorem dX6_know_20 : decode cX6_know 20 = .ok (.iload_n 1, 1) := by decide +kernel
theorem dX6_know_21 : decode cX6_know 21 = .ok (.invokestatic 87, 3) := by decide +kernel
theorem dX6_know_24 : decode cX6_know 24 = .ok (.istore 4, 2) := by decide +kernel
theorem dX6_know_26 : decode cX6_know 26 = .ok (.iload 4, 2) := by decide +kernel
theorem dX6_know_28 : decode cX6_know 28 = .ok (.iload_n 1, 1) := by decide +kernel
theorem dX6_know_29 : decode cX6_know 29 = .ok (.invokestatic 91, 3) := by decide +kernel
theorem dX6_know_32 : decode cX6_know 32 = .ok (.if_icmp .gt 17, 3) := by decide +kernel
theorem dX6_know_35 : decode cX6_know 35 = .ok (.aload_n 0, 1) := by decide +kernel
theorem dX6_know_36 : decode cX6_know 36 = .ok (.getfield 36, 3) := by decide +kernel
theorem dX6_know_39 : decode cX6_know 39 = .ok (.iload 4, 2) := by decide +kernel
theorem dX6_know_41 : decode cX6_know 41 = .ok (.lconst 0, 1) := by decide +kernel
theorem dX6_know_42 : decode cX6_know 42 = .ok (.lastore, 1) := by decide +kernel
theorem dX6_know_43 : decode cX6_know 43 = .ok (.iinc 4 1, 3) := by decide +kernel
theorem dX6_know_46 : decode cX6_know 46 = .ok (.goto (-20), 3) := by decide +kernel
theorem dX6_know_49 : decode cX6_know 49 = .ok (.return_, 1) := by decide +kernel
theorem dX6_lacks_0 : decode cX6_lacks 0 = .ok (.aload_n 0, 1) := by decide +kernel
theorem dX6_lacks_1 : decode cX6_lacks 1 = .ok (.getfield 39, 3) := by decide +kernel
theorem dX6_lacks_4 : decode cX6_lacks 4 = .ok (.iload_n 1, 1) := by decide +kernel
theorem dX6_lacks_5 : decode cX6_lacks 5 = .ok (.baload, 1) := by decide +kernel
theorem dX6_lacks_6 : decode cX6_lacks 6 = .ok (.ifCond .eq 53, 3) := by decide +kernel
theorem dX6_lacks_9 : decode cX6_lacks 9 = .ok (.aload_n 0, 1) := by decide +kernel
theorem dX6_lacks_10 : decode cX6_lacks 10 = .ok (.getfield 52, 3) := by decide +kernel
theorem dX6_lacks_13 : decode cX6_lacks 13 = .ok (.iload_n 1, 1) := by decide +kernel
theorem dX6_lacks_14 : decode cX6_lacks 14 = .ok (.laload, 1) := by decide +kernel
theorem dX6_lacks_15 : decode cX6_lacks 15 = .ok (.aload_n 0, 1) := by decide +kernel
theorem dX6_lacks_16 : decode cX6_lacks 16 = .ok (.getfield 43, 3) := by decide +kernel
theorem dX6_lacks_19 : decode cX6_lacks 19 = .ok (.iload_n 1, 1) := by decide +kernel
theorem dX6_lacks_20 : decode cX6_lacks 20 = .ok (.laload, 1) := by decide +kernel
theorem dX6_lacks_21 : decode cX6_lacks 21 = .ok (.lcmp, 1) := by decide +kernel
theorem dX6_lacks_22 : decode cX6_lacks 22 = .ok (.ifCond .eq 37, 3) := by decide +kernel
theorem dX6_lacks_25 : decode cX6_lacks 25 = .ok (.iload_n 1, 1) := by decide +kernel
theorem dX6_lacks_26 : decode cX6_lacks 26 = .ok (.bipush 63, 2) := by decide +kernel
theorem dX6_lacks_28 : decode cX6_lacks 28 = .ok (.if_icmp .gt 27, 3) := by decide +kernel
theorem dX6_lacks_31 : decode cX6_lacks 31 = .ok (.aload_n 0, 1) := by decide +kernel
theorem dX6_lacks_32 : decode cX6_lacks 32 = .ok (.getfield 39, 3) := by decide +kernel
theorem dX6_lacks_35 : decode cX6_lacks 35 = .ok (.iconst 2, 1) := by decide +kernel
theorem dX6_lacks_36 : decode cX6_lacks 36 = .ok (.iload_n 1, 1) := by decide +kernel
theorem dX6_lacks_37 : decode cX6_lacks 37 = .ok (.imul, 1) := by decide +kernel
theorem dX6_lacks_38 : decode cX6_lacks 38 = .ok (.baload, 1) := by decide +kernel
theorem dX6_lacks_39 : decode cX6_lacks 39 = .ok (.ifCond .ne 20, 3) := by decide +kernel
theorem dX6_lacks_42 : decode cX6_lacks 42 = .ok (.aload_n 0, 1) := by decide +kernel
theorem dX6_lacks_43 : decode cX6_lacks 43 = .ok (.getfield 39, 3) := by decide +kernel
theorem dX6_lacks_46 : decode cX6_lacks 46 = .ok (.iconst 2, 1) := by decide +kernel
theorem dX6_lacks_47 : decode cX6_lacks 47 = .ok (.iload_n 1, 1) := by decide +kernel
theorem dX6_lacks_48 : decode cX6_lacks 48 = .ok (.imul, 1) := by decide +kernel
theorem dX6_lacks_49 : decode cX6_lacks 49 = .ok (.iconst 1, 1) := by decide +kernel
theorem dX6_lacks_50 : decode cX6_lacks 50 = .ok (.iadd, 1) := by decide +kernel
theorem dX6_lacks_51 : decode cX6_lacks 51 = .ok (.baload, 1) := by decide +kernel
theorem dX6_lacks_52 : decode cX6_lacks 52 = .ok (.ifCond .ne 7, 3) := by decide +kernel
theorem dX6_lacks_55 : decode cX6_lacks 55 = .ok (.iconst 1, 1) := by decide +kernel
theorem dX6_lacks_56 : decode cX6_lacks 56 = .ok (.goto 4, 3) := by decide +kernel
theorem dX6_lacks_59 : decode cX6_lacks 59 = .ok (.iconst 0, 1) := by decide +kernel
theorem dX6_lacks_60 : decode cX6_lacks 60 = .ok (.ireturn, 1) := by decide +kernel
set_option maxRecDepth 20000 in
theorem ggX6_lacking_X6_build : GoodIn wsX6_lacking wsX6_build := goodIn_r _ [6, 7, 8, 9, 10, 5, 11, 12, 13, 20, 21, 22, 23, 24, 25, 26, 27, 28, 29, 30, 31, 32, 33, 34, 35, 36, 37, 38, 39] (by decide +kernel) (by decide +kernel)
set_option maxRecDepth 20000 in
theorem gX6_lacking_X6_build : GoodIn wsX6_lacking (wsV RX6 77 RX6 yX6_build wsX6_build) := goodIn_app (goodIn_of _ (by decide +kernel)) ggX6_lacking_X6_build
set_option maxRecDepth 20000 in
theorem ggX6_lacking_X6_lacks : GoodIn wsX6_lacking wsX6_lacks := goodIn_r _ [17, 18, 8, 19, 20, 21, 22, 23, 24, 25, 26, 27, 28, 29, 30, 31, 32, 33, 34, 35, 36, 37, 38, 39] (by decide +kernel) (by decide +kernel)
set_option maxRecDepth 20000 in
theorem gX6_lacking_X6_lacks : GoodIn wsX6_lacking (wsV RX6 94 RX6 yX6_lacks wsX6_lacks) := goodIn_app (goodIn_of _ (by decide +kernel)) ggX6_lacking_X6_lacks
theorem dX6_lacking_0 : decode cX6_lacking 0 = .ok (.aload_n 0, 1) := by decide +kernel
theorem dX6_lacking_1 : decode cX6_lacking 1 = .ok (.aload_n 0, 1) := by decide +kernel
theorem dX6_lacking_2 : decode cX6_lacking 2 = .ok (.getfield 36, 3) := by decide +kernel
theorem dX6_lacking_5 : decode cX6_lacking 5 = .ok (.invokevirtual 77, 3) := by decide +kernel
theorem dX6_lacking_8 : decode cX6_lacking 8 = .ok (.iconst 0, 1) := by decide +kernel
theorem dX6_lacking_9 : decode cX6_lacking 9 = .ok (.istore_n 1, 1) := by decide +kernel
theorem dX6_lacking_10 : decode cX6_lacking 10 = .ok (.iconst 1, 1) := by decide +kernel
theorem dX6_lacking_11 : decode cX6_lacking 11 = .ok (.istore_n 2, 1) := by decide +kernel
theorem dX6_lacking_12 : decode cX6_lacking 12 = .ok (.iload_n 2, 1) := by decide +kernel
theorem dX6_lacking_13 : decode cX6_lacking 13 = .ok (.sipush 128, 3) := by decide +kernel
theorem dX6_lacking_16 : decode cX6_lacking 16 = .ok (.if_icmp .ge 25, 3) := by decide +kernel
theorem dX6_lacking_19 : decode cX6_lacking 19 = .ok (.aload_n 0, 1) := by decide +kernel
theorem dX6_lacking_20 : decode cX6_lacking 20 = .ok (.iload_n 2, 1) := by decide +kernel
theorem dX6_lacking_21 : decode cX6_lacking 21 = .ok (.invokevirtual 94, 3) := by decide +kernel
theorem dX6_lacking_24 : decode cX6_lacking 24 = .ok (.ifCond .eq 9, 3) := by decide +kernel
theorem dX6_lacking_27 : decode cX6_lacking 27 = .ok (.iload_n 1, 1) := by decide +kernel
theorem dX6_lacking_28 : decode cX6_lacking 28 = .ok (.iconst 1, 1) := by decide +kernel
theorem dX6_lacking_29 : decode cX6_lacking 29 = .ok (.iadd, 1) := by decide +kernel
theorem dX6_lacking_30 : decode cX6_lacking 30 = .ok (.goto 4, 3) := by decide +kernel
theorem dX6_lacking_33 : decode cX6_lacking 33 = .ok (.iload_n 1, 1) := by decide +kernel
theorem dX6_lacking_34 : decode cX6_lacking 34 = .ok (.istore_n 1, 1) := by decide +kernel
theorem dX6_lacking_35 : decode cX6_lacking 35 = .ok (.iinc 2 1, 3) := by decide +kernel
theorem dX6_lacking_38 : decode cX6_lacking 38 = .ok (.goto (-26), 3) := by decide +kernel
theorem dX6_lacking_41 : decode cX6_lacking 41 = .ok (.iload_n 1, 1) := by decide +kernel
theorem dX6_lacking_42 : decode cX6_lacking 42 = .ok (.ireturn, 1) := by decide +kernel
set_option maxRecDepth 20000 in
theorem ggX6_missing_X6_build : GoodIn wsX6_missing wsX6_build := goodIn_r _ [6, 7, 8, 9, 10, 5, 11, 12, 13, 20, 21, 22, 23, 24, 25, 26, 27, 28, 29, 30, 31, 32, 33, 34, 35, 36, 37, 38, 39] (by decide +kernel) (by decide +kernel)
set_option maxRecDepth 20000 in
theorem gX6_missing_X6_build : GoodIn wsX6_missing (wsV RX6 77 RX6 yX6_build wsX6_build) := goodIn_app (goodIn_of _ (by decide +kernel)) ggX6_missing_X6_build
set_option maxRecDepth 20000 in
theorem ggX6_missing_X6_lacks : GoodIn wsX6_missing wsX6_lacks := goodIn_r _ [17, 18, 8, 19, 20, 21, 22, 23, 24, 25, 26, 27, 28, 29, 30, 31, 32, 33, 34, 35, 36, 37, 38, 39] (by decide +kernel) (by decide +kernel)
set_option maxRecDepth 20000 in
theorem gX6_missing_X6_lacks : GoodIn wsX6_missing (wsV RX6 94 RX6 yX6_lacks wsX6_lacks) := goodIn_app (goodIn_of _ (by decide +kernel)) ggX6_missing_X6_lacks
theorem dX6_missing_0 : decode cX6_missing 0 = .ok (.aload_n 0, 1) := by decide +kernel
theorem dX6_missing_1 : decode cX6_missing 1 = .ok (.aload_n 0, 1) := by decide +kernel
theorem dX6_missing_2 : decode cX6_missing 2 = .ok (.getfield 36, 3) := by decide +kernel
theorem dX6_missing_5 : decode cX6_missing 5 = .ok (.invokevirtual 77, 3) := by decide +kernel
theorem dX6_missing_8 : decode cX6_missing 8 = .ok (.iload_n 1, 1) := by decide +kernel
theorem dX6_missing_9 : decode cX6_missing 9 = .ok (.istore_n 2, 1) := by decide +kernel
theorem dX6_missing_10 : decode cX6_missing 10 = .ok (.iconst 1, 1) := by decide +kernel
theorem dX6_missing_11 : decode cX6_missing 11 = .ok (.istore_n 3, 1) := by decide +kernel
theorem dX6_missing_12 : decode cX6_missing 12 = .ok (.iload_n 3, 1) := by decide +kernel
theorem dX6_missing_13 : decode cX6_missing 13 = .ok (.sipush 128, 3) := by decide +kernel
theorem dX6_missing_16 : decode cX6_missing 16 = .ok (.if_icmp .ge 30, 3) := by decide +kernel
theorem dX6_missing_19 : decode cX6_missing 19 = .ok (.iload_n 2, 1) := by decide +kernel
theorem dX6_missing_20 : decode cX6_missing 20 = .ok (.ifCond .lt 26, 3) := by decide +kernel
theorem dX6_missing_23 : decode cX6_missing 23 = .ok (.aload_n 0, 1) := by decide +kernel
theorem dX6_missing_24 : decode cX6_missing 24 = .ok (.iload_n 3, 1) := by decide +kernel
theorem dX6_missing_25 : decode cX6_missing 25 = .ok (.invokevirtual 94, 3) := by decide +kernel
theorem dX6_missing_28 : decode cX6_missing 28 = .ok (.ifCond .eq 12, 3) := by decide +kernel
theorem dX6_missing_31 : decode cX6_missing 31 = .ok (.iload_n 2, 1) := by decide +kernel
theorem dX6_missing_32 : decode cX6_missing 32 = .ok (.ifCond .ne 5, 3) := by decide +kernel
theorem dX6_missing_35 : decode cX6_missing 35 = .ok (.iload_n 3, 1) := by decide +kernel
theorem dX6_missing_36 : decode cX6_missing 36 = .ok (.ireturn, 1) := by decide +kernel
theorem dX6_missing_37 : decode cX6_missing 37 = .ok (.iinc 2 (-1), 3) := by decide +kernel
theorem dX6_missing_40 : decode cX6_missing 40 = .ok (.iinc 3 1, 3) := by decide +kernel
theorem dX6_missing_43 : decode cX6_missing 43 = .ok (.goto (-31), 3) := by decide +kernel
theorem dX6_missing_46 : decode cX6_missing 46 = .ok (.iconst (-1), 1) := by decide +kernel
theorem dX6_missing_47 : decode cX6_missing 47 = .ok (.ireturn, 1) := by decide +kernel
set_option maxRecDepth 20000 in
theorem ggX6_target_X6_in : GoodIn wsX6_target wsX6_in := goodIn_r _ [7] (by decide +kernel) (by decide +kernel)
set_option maxRecDepth 20000 in
theorem gX6_target_X6_in : GoodIn wsX6_target (va_wsS RX6 66 yX6_in wsX6_in) := goodIn_app (goodIn_of _ (by decide +kernel)) ggX6_target_X6_in
set_option maxRecDepth 20000 in
theorem ggX6_target_X6_digest : GoodIn wsX6_target wsX6_digest := goodIn_r _ [11, 1, 12, 13, 4, 5, 6, 7, 14, 15, 16, 17, 18, 19, 20, 21, 22, 23, 24, 25, 26, 27, 28, 29, 50, 51, 52, 53, 54, 55, 56, 57, 58, 59, 60, 61, 62, 63, 64, 65, 66, 67, 68, 69] (by decide +kernel) (by decide +kernel)
set_option maxRecDepth 20000 in
theorem gX6_target_X6_digest : GoodIn wsX6_target (wsV RX6 98 RX6 yX6_digest wsX6_digest) := goodIn_app (goodIn_of _ (by decide +kernel)) ggX6_target_X6_digest
set_option maxRecDepth 20000 in
theorem ggX6_target_X6_know : GoodIn wsX6_target wsX6_know := goodIn_r _ [33, 3, 34, 35, 36, 37, 6, 38, 39, 40, 41, 50, 51, 52, 53, 54, 55, 56, 57, 58, 59, 60, 61, 62, 63, 64, 65, 66, 67, 68, 69] (by decide +kernel) (by decide +kernel)
set_option maxRecDepth 20000 in
theorem gX6_target_X6_know : GoodIn wsX6_target (wsV RX6 102 RX6 yX6_know wsX6_know) := goodIn_app (goodIn_of _ (by decide +kernel)) ggX6_target_X6_know
set_option maxRecDepth 20000 in
theorem ggX6_target_X6_lacking : GoodIn wsX6_target wsX6_lacking := goodIn_r _ [45, 35, 20, 21, 22, 6, 23, 24, 13, 25, 26, 27, 28, 29, 46, 47, 48, 49, 3, 34, 50, 51, 52, 53, 54, 55, 56, 57, 58, 59, 60, 61, 62, 63, 64, 65, 66, 67, 68, 69] (by decide +kernel) (by decide +kernel)
set_option maxRecDepth 20000 in
theorem gX6_target_X6_lacking : GoodIn wsX6_target (wsV RX6 106 RX6 yX6_lacking wsX6_lacking) := goodIn_app (goodIn_of _ (by decide +kernel)) ggX6_target_X6_lacking
theorem dX6_target_0 : decode cX6_target 0 = .ok (.iload_n 1, 1) := by decide +kernel
theorem dX6_target_1 : decode cX6_target 1 = .ok (.iconst 0, 1) := by decide +kernel
theorem dX6_target_2 : decode cX6_target 2 = .ok (.aload_n 0, 1) := by decide +kernel
theorem dX6_target_3 : decode cX6_target 3 = .ok (.getfield 70, 3) := by decide +kernel
theorem dX6_target_6 : decode cX6_target 6 = .ok (.invokestatic 66, 3) := by decide +kernel
theorem dX6_target_9 : decode cX6_target 9 = .ok (.ifCond .ne 5, 3) := by decide +kernel
theorem dX6_target_12 : decode cX6_target 12 = .ok (.iconst (-1), 1) := by decide +kernel
theorem dX6_target_13 : decode cX6_target 13 = .ok (.ireturn, 1) := by decide +kernel
theorem dX6_target_14 : decode cX6_target 14 = .ok (.aload_n 0, 1) := by decide +kernel
theorem dX6_target_15 : decode cX6_target 15 = .ok (.iload_n 1, 1) := by decide +kernel
theorem dX6_target_16 : decode cX6_target 16 = .ok (.putfield 32, 3) := by decide +kernel
theorem dX6_target_19 : decode cX6_target 19 = .ok (.iconst 0, 1) := by decide +kernel
theorem dX6_target_20 : decode cX6_target 20 = .ok (.istore_n 2, 1) := by decide +kernel
theorem dX6_target_21 : decode cX6_target 21 = .ok (.iload_n 2, 1) := by decide +kernel
theorem dX6_target_22 : decode cX6_target 22 = .ok (.sipush 128, 3) := by decide +kernel
theorem dX6_target_25 : decode cX6_target 25 = .ok (.if_icmp .ge 16, 3) := by decide +kernel
theorem dX6_target_28 : decode cX6_target 28 = .ok (.aload_n 0, 1) := by decide +kernel
theorem dX6_target_29 : decode cX6_target 29 = .ok (.getfield 39, 3) := by decide +kernel
theorem dX6_target_32 : decode cX6_target 32 = .ok (.iload_n 2, 1) := by decide +kernel
theorem dX6_target_33 : decode cX6_target 33 = .ok (.iconst 0, 1) := by decide +kernel
theorem dX6_target_34 : decode cX6_target 34 = .ok (.bastore, 1) := by decide +kernel
theorem dX6_target_35 : decode cX6_target 35 = .ok (.iinc 2 1, 3) := by decide +kernel
theorem dX6_target_38 : decode cX6_target 38 = .ok (.goto (-17), 3) := by decide +kernel
theorem dX6_target_41 : decode cX6_target 41 = .ok (.aload_n 0, 1) := by decide +kernel
theorem dX6_target_42 : decode cX6_target 42 = .ok (.iconst 1, 1) := by decide +kernel
theorem dX6_target_43 : decode cX6_target 43 = .ok (.aload_n 0, 1) := by decide +kernel
theorem dX6_target_44 : decode cX6_target 44 = .ok (.iload_n 1, 1) := by decide +kernel
theorem dX6_target_45 : decode cX6_target 45 = .ok (.iconst 1, 1) := by decide +kernel
theorem dX6_target_46 : decode cX6_target 46 = .ok (.invokevirtual 98, 3) := by decide +kernel
theorem dX6_target_49 : decode cX6_target 49 = .ok (.invokevirtual 102, 3) := by decide +kernel
theorem dX6_target_52 : decode cX6_target 52 = .ok (.aload_n 0, 1) := by decide +kernel
theorem dX6_target_53 : decode cX6_target 53 = .ok (.invokevirtual 106, 3) := by decide +kernel
theorem dX6_target_56 : decode cX6_target 56 = .ok (.ireturn, 1) := by decide +kernel
set_option maxRecDepth 20000 in
theorem ggX6_ask_X6_in : GoodIn wsX6_ask wsX6_in := goodIn_r _ [7] (by decide +kernel) (by decide +kernel)
set_option maxRecDepth 20000 in
theorem gX6_ask_X6_in : GoodIn wsX6_ask (va_wsS RX6 66 yX6_in wsX6_in) := goodIn_app (goodIn_of _ (by decide +kernel)) ggX6_ask_X6_in
set_option maxRecDepth 20000 in
theorem ggX6_ask_X6_build : GoodIn wsX6_ask wsX6_build := goodIn_r _ [11, 12, 13, 14, 15, 6, 16, 17, 18, 67, 68, 69, 70, 71, 72, 73, 74, 75, 76, 77, 78, 79, 80, 81, 82, 83, 84, 85, 86] (by decide +kernel) (by decide +kernel)
set_option maxRecDepth 20000 in
theorem gX6_ask_X6_build : GoodIn wsX6_ask (wsV RX6 77 RX6 yX6_build wsX6_build) := goodIn_app (goodIn_of _ (by decide +kernel)) ggX6_ask_X6_build
set_option maxRecDepth 20000 in
theorem ggX6_ask_X6_lacks : GoodIn wsX6_ask wsX6_lacks := goodIn_r _ [22, 23, 13, 24, 67, 68, 69, 70, 71, 72, 73, 74, 75, 76, 77, 78, 79, 80, 81, 82, 83, 84, 85, 86] (by decide +kernel) (by decide +kernel)
set_option maxRecDepth 20000 in
theorem gX6_ask_X6_lacks : GoodIn wsX6_ask (wsV RX6 94 RX6 yX6_lacks wsX6_lacks) := goodIn_app (goodIn_of _ (by decide +kernel)) ggX6_ask_X6_lacks
set_option maxRecDepth 20000 in
theorem ggX6_ask_X6_asking : GoodIn wsX6_ask wsX6_asking := goodIn_r _ [28, 29, 30, 31, 32, 3, 33, 34, 35, 36, 37, 38, 6, 39, 40, 41, 42, 43, 44, 45, 46, 47, 24, 2, 14, 15, 16, 17, 18, 48, 49, 50, 51, 52, 13, 53, 54, 55, 56, 57, 58, 4, 5, 7, 8, 9, 10, 11, 12, 59, 60, 61, 62, 63, 64, 65, 66, 23, 67, 68, 69, 70, 71, 72, 73, 74, 75, 76, 77, 78, 79, 80, 81, 82, 83, 84, 85, 86] (by decide +kernel) (by decide +kernel)
set_option maxRecDepth 20000 in
theorem gX6_ask_X6_asking : GoodIn wsX6_ask (wsV RX6 110 RX6 yX6_asking wsX6_asking) := goodIn_app (goodIn_of _ (by decide +kernel)) ggX6_ask_X6_asking
theorem dX6_ask_0 : decode cX6_ask 0 = .ok (.iload_n 1, 1) := by decide +kernel
theorem dX6_ask_1 : decode cX6_ask 1 = .ok (.iconst 0, 1) := by decide +kernel
theorem dX6_ask_2 : decode cX6_ask 2 = .ok (.aload_n 0, 1) := by decide +kernel
theorem dX6_ask_3 : decode cX6_ask 3 = .ok (.getfield 81, 3) := by decide +kernel
theorem dX6_ask_6 : decode cX6_ask 6 = .ok (.iconst 1, 1) := by decide +kernel
theorem dX6_ask_7 : decode cX6_ask 7 = .ok (.isub, 1) := by decide +kernel
theorem dX6_ask_8 : decode cX6_ask 8 = .ok (.invokestatic 66, 3) := by decide +kernel
theorem dX6_ask_11 : decode cX6_ask 11 = .ok (.ifCond .eq 22, 3) := by decide +kernel
theorem dX6_ask_14 : decode cX6_ask 14 = .ok (.iload_n 2, 1) := by decide +kernel
theorem dX6_ask_15 : decode cX6_ask 15 = .ok (.iconst 1, 1) := by decide +kernel
theorem dX6_ask_16 : decode cX6_ask 16 = .ok (.bipush 127, 2) := by decide +kernel
theorem dX6_ask_18 : decode cX6_ask 18 = .ok (.invokestatic 66, 3) := by decide +kernel
theorem dX6_ask_21 : decode cX6_ask 21 = .ok (.ifCond .eq 12, 3) := by decide +kernel
theorem dX6_ask_24 : decode cX6_ask 24 = .ok (.iload_n 3, 1) := by decide +kernel
theorem dX6_ask_25 : decode cX6_ask 25 = .ok (.ifCond .eq 10, 3) := by decide +kernel
theorem dX6_ask_28 : decode cX6_ask 28 = .ok (.iload_n 2, 1) := by decide +kernel
theorem dX6_ask_29 : decode cX6_ask 29 = .ok (.iconst 4, 1) := by decide +kernel
theorem dX6_ask_30 : decode cX6_ask 30 = .ok (.if_icmp .ge 5, 3) := by decide +kernel
theorem dX6_ask_33 : decode cX6_ask 33 = .ok (.iconst (-1), 1) := by decide +kernel
theorem dX6_ask_34 : decode cX6_ask 34 = .ok (.ireturn, 1) := by decide +kernel
theorem dX6_ask_35 : decode cX6_ask 35 = .ok (.aload_n 0, 1) := by decide +kernel
theorem dX6_ask_36 : decode cX6_ask 36 = .ok (.aload_n 0, 1) := by decide +kernel
theorem dX6_ask_37 : decode cX6_ask 37 = .ok (.getfield 36, 3) := by decide +kernel
theorem dX6_ask_40 : decode cX6_ask 40 = .ok (.invokevirtual 77, 3) := by decide +kernel
theorem dX6_ask_43 : decode cX6_ask 43 = .ok (.aload_n 0, 1) := by decide +kernel
theorem dX6_ask_44 : decode cX6_ask 44 = .ok (.getfield 32, 3) := by decide +kernel
theorem dX6_ask_47 : decode cX6_ask 47 = .ok (.ifCond .lt 11, 3) := by decide +kernel
theorem dX6_ask_50 : decode cX6_ask 50 = .ok (.aload_n 0, 1) := by decide +kernel
theorem dX6_ask_51 : decode cX6_ask 51 = .ok (.iload_n 2, 1) := by decide +kernel
theorem dX6_ask_52 : decode cX6_ask 52 = .ok (.invokevirtual 94, 3) := by decide +kernel
theorem dX6_ask_55 : decode cX6_ask 55 = .ok (.ifCond .ne 6, 3) := by decide +kernel
theorem dX6_ask_58 : decode cX6_ask 58 = .ok (.bipush (-3), 2) := by decide +kernel
theorem dX6_ask_60 : decode cX6_ask 60 = .ok (.ireturn, 1) := by decide +kernel
theorem dX6_ask_61 : decode cX6_ask 61 = .ok (.aload_n 0, 1) := by decide +kernel
theorem dX6_ask_62 : decode cX6_ask 62 = .ok (.iload_n 1, 1) := by decide +kernel
theorem dX6_ask_63 : decode cX6_ask 63 = .ok (.iload_n 2, 1) := by decide +kernel
theorem dX6_ask_64 : decode cX6_ask 64 = .ok (.iload_n 3, 1) := by decide +kernel
theorem dX6_ask_65 : decode cX6_ask 65 = .ok (.invokevirtual 110, 3) := by decide +kernel
theorem dX6_ask_68 : decode cX6_ask 68 = .ok (.ireturn, 1) := by decide +kernel
set_option maxRecDepth 20000 in
theorem ggX6_asking_X6_stateAt : GoodIn wsX6_asking wsX6_stateAt := goodIn_r _ [13, 14, 15, 16, 58, 59, 60, 61, 62, 63, 64, 65, 66, 67, 68, 69, 70, 71, 72, 73, 74, 75, 76, 77] (by decide +kernel) (by decide +kernel)
set_option maxRecDepth 20000 in
theorem gX6_asking_X6_stateAt : GoodIn wsX6_asking (wsV RX6 73 RX6 yX6_stateAt wsX6_stateAt) := goodIn_app (goodIn_of _ (by decide +kernel)) ggX6_asking_X6_stateAt
set_option maxRecDepth 20000 in
theorem ggX6_asking_X6_leafComes : GoodIn wsX6_asking wsX6_leafComes := goodIn_r _ [20, 14, 21, 22, 23, 24, 25, 12, 26, 27, 28, 58, 59, 60, 61, 62, 63, 64, 65, 66, 67, 68, 69, 70, 71, 72, 73, 74, 75, 76, 77] (by decide +kernel) (by decide +kernel)
set_option maxRecDepth 20000 in
theorem gX6_asking_X6_leafComes : GoodIn wsX6_asking (wsV RX6 117 RX6 yX6_leafComes wsX6_leafComes) := goodIn_app (goodIn_of _ (by decide +kernel)) ggX6_asking_X6_leafComes
set_option maxRecDepth 20000 in
theorem ggX6_asking_X6_rowComes : GoodIn wsX6_asking wsX6_rowComes := goodIn_r _ [32, 33, 14, 21, 34, 22, 23, 35, 36, 12, 37, 38, 39, 40, 41, 42, 43, 44, 45, 46, 47, 48, 24, 25, 26, 27, 28, 58, 59, 60, 61, 62, 63, 64, 65, 66, 67, 68, 69, 70, 71, 72, 73, 74, 75, 76, 77] (by decide +kernel) (by decide +kernel)
set_option maxRecDepth 20000 in
theorem gX6_asking_X6_rowComes : GoodIn wsX6_asking (wsV RX6 121 RX6 yX6_rowComes wsX6_rowComes) := goodIn_app (goodIn_of _ (by decide +kernel)) ggX6_asking_X6_rowComes
set_option maxRecDepth 20000 in
theorem ggX6_asking_X6_pairComes : GoodIn wsX6_asking wsX6_pairComes := goodIn_r _ [52, 14, 34, 21, 22, 44, 45, 46, 12, 47, 48, 24, 25, 26, 27, 28, 53, 54, 55, 56, 57, 23, 35, 36, 37, 38, 39, 40, 58, 59, 60, 61, 62, 63, 64, 65, 66, 67, 68, 69, 70, 71, 72, 73, 74, 75, 76, 77] (by decide +kernel) (by decide +kernel)
set_option maxRecDepth 20000 in
theorem gX6_asking_X6_pairComes : GoodIn wsX6_asking (wsV RX6 124 RX6 yX6_pairComes wsX6_pairComes) := goodIn_app (goodIn_of _ (by decide +kernel)) ggX6_asking_X6_pairComes
theorem dX6_asking_0 : decode cX6_asking 0 = .ok (.aload_n 0, 1) := by decide +kernel
theorem dX6_asking_1 : decode cX6_asking 1 = .ok (.dup, 1) := by decide +kernel
theorem dX6_asking_2 : decode cX6_asking 2 = .ok (.getfield 114, 3) := by decide +kernel
theorem dX6_asking_5 : decode cX6_asking 5 = .ok (.iconst 1, 1) := by decide +kernel
theorem dX6_asking_6 : decode cX6_asking 6 = .ok (.iadd, 1) := by decide +kernel
theorem dX6_asking_7 : decode cX6_asking 7 = .ok (.putfield 114, 3) := by decide +kernel
theorem dX6_asking_10 : decode cX6_asking 10 = .ok (.aload_n 0, 1) := by decide +kernel
theorem dX6_asking_11 : decode cX6_asking 11 = .ok (.getfield 23, 3) := by decide +kernel
theorem dX6_asking_14 : decode cX6_asking 14 = .ok (.iload_n 1, 1) := by decide +kernel
theorem dX6_asking_15 : decode cX6_asking 15 = .ok (.dup2, 1) := by decide +kernel
theorem dX6_asking_16 : decode cX6_asking 16 = .ok (.iaload, 1) := by decide +kernel
theorem dX6_asking_17 : decode cX6_asking 17 = .ok (.iconst 1, 1) := by decide +kernel
theorem dX6_asking_18 : decode cX6_asking 18 = .ok (.iadd, 1) := by decide +kernel
theorem dX6_asking_19 : decode cX6_asking 19 = .ok (.iastore, 1) := by decide +kernel
theorem dX6_asking_20 : decode cX6_asking 20 = .ok (.aload_n 0, 1) := by decide +kernel
theorem dX6_asking_21 : decode cX6_asking 21 = .ok (.getfield 17, 3) := by decide +kernel
theorem dX6_asking_24 : decode cX6_asking 24 = .ok (.iload_n 1, 1) := by decide +kernel
theorem dX6_asking_25 : decode cX6_asking 25 = .ok (.iaload, 1) := by decide +kernel
theorem dX6_asking_26 : decode cX6_asking 26 = .ok (.istore 4, 2) := by decide +kernel
theorem dX6_asking_28 : decode cX6_asking 28 = .ok (.aload_n 0, 1) := by decide +kernel
theorem dX6_asking_29 : decode cX6_asking 29 = .ok (.getfield 20, 3) := by decide +kernel
theorem dX6_asking_32 : decode cX6_asking 32 = .ok (.iload_n 1, 1) := by decide +kernel
theorem dX6_asking_33 : decode cX6_asking 33 = .ok (.iaload, 1) := by decide +kernel
theorem dX6_asking_34 : decode cX6_asking 34 = .ok (.ifCond .lt 16, 3) := by decide +kernel
theorem dX6_asking_37 : decode cX6_asking 37 = .ok (.aload_n 0, 1) := by decide +kernel
theorem dX6_asking_38 : decode cX6_asking 38 = .ok (.getfield 20, 3) := by decide +kernel
theorem dX6_asking_41 : decode cX6_asking 41 = .ok (.iload_n 1, 1) := by decide +kernel
theorem dX6_asking_42 : decode cX6_asking 42 = .ok (.iaload, 1) := by decide +kernel
theorem dX6_asking_43 : decode cX6_asking 43 = .ok (.aload_n 0, 1) := by decide +kernel
theorem dX6_asking_44 : decode cX6_asking 44 = .ok (.getfield 32, 3) := by decide +kernel
theorem dX6_asking_47 : decode cX6_asking 47 = .ok (.if_icmp .lt 20, 3) := by decide +kernel
theorem dX6_asking_50 : decode cX6_asking 50 = .ok (.iload 4, 2) := by decide +kernel
theorem dX6_asking_52 : decode cX6_asking 52 = .ok (.iconst 4, 1) := by decide +kernel
theorem dX6_asking_53 : decode cX6_asking 53 = .ok (.if_icmp .ne 16, 3) := by decide +kernel
theorem dX6_asking_56 : decode cX6_asking 56 = .ok (.aload_n 0, 1) := by decide +kernel
theorem dX6_asking_57 : decode cX6_asking 57 = .ok (.getfield 23, 3) := by decide +kernel
theorem dX6_asking_60 : decode cX6_asking 60 = .ok (.iload_n 1, 1) := by decide +kernel
theorem dX6_asking_61 : decode cX6_asking 61 = .ok (.iaload, 1) := by decide +kernel
theorem dX6_asking_62 : decode cX6_asking 62 = .ok (.iconst 2, 1) := by decide +kernel
theorem dX6_asking_63 : decode cX6_asking 63 = .ok (.irem, 1) := by decide +kernel
theorem dX6_asking_64 : decode cX6_asking 64 = .ok (.ifCond .ne 5, 3) := by decide +kernel
theorem dX6_asking_67 : decode cX6_asking 67 = .ok (.iconst 2, 1) := by decide +kernel
theorem dX6_asking_68 : decode cX6_asking 68 = .ok (.ireturn, 1) := by decide +kernel
theorem dX6_asking_69 : decode cX6_asking 69 = .ok (.aload_n 0, 1) := by decide +kernel
theorem dX6_asking_70 : decode cX6_asking 70 = .ok (.iload 4, 2) := by decide +kernel
theorem dX6_asking_72 : decode cX6_asking 72 = .ok (.iconst 3, 1) := by decide +kernel
theorem dX6_asking_73 : decode cX6_asking 73 = .ok (.if_icmp .ne 19, 3) := by decide +kernel
theorem dX6_asking_76 : decode cX6_asking 76 = .ok (.aload_n 0, 1) := by decide +kernel
theorem dX6_asking_77 : decode cX6_asking 77 = .ok (.getfield 32, 3) := by decide +kernel
theorem dX6_asking_80 : decode cX6_asking 80 = .ok (.ifCond .le 12, 3) := by decide +kernel
theorem dX6_asking_83 : decode cX6_asking 83 = .ok (.aload_n 0, 1) := by decide +kernel
theorem dX6_asking_84 : decode cX6_asking 84 = .ok (.getfield 32, 3) := by decide +kernel
theorem dX6_asking_87 : decode cX6_asking 87 = .ok (.iconst 1, 1) := by decide +kernel
theorem dX6_asking_88 : decode cX6_asking 88 = .ok (.isub, 1) := by decide +kernel
theorem dX6_asking_89 : decode cX6_asking 89 = .ok (.goto 7, 3) := by decide +kernel
theorem dX6_asking_92 : decode cX6_asking 92 = .ok (.aload_n 0, 1) := by decide +kernel
theorem dX6_asking_93 : decode cX6_asking 93 = .ok (.getfield 32, 3) := by decide +kernel
theorem dX6_asking_96 : decode cX6_asking 96 = .ok (.invokevirtual 73, 3) := by decide +kernel
theorem dX6_asking_99 : decode cX6_asking 99 = .ok (.iload_n 2, 1) := by decide +kernel
theorem dX6_asking_100 : decode cX6_asking 100 = .ok (.bipush 63, 2) := by decide +kernel
theorem dX6_asking_102 : decode cX6_asking 102 = .ok (.if_icmp .le 13, 3) := by decide +kernel
theorem dX6_asking_105 : decode cX6_asking 105 = .ok (.aload_n 0, 1) := by decide +kernel
theorem dX6_asking_106 : decode cX6_asking 106 = .ok (.iload_n 2, 1) := by decide +kernel
theorem dX6_asking_107 : decode cX6_asking 107 = .ok (.iload 4, 2) := by decide +kernel
theorem dX6_asking_109 : decode cX6_asking 109 = .ok (.invokevirtual 117, 3) := by decide +kernel
theorem dX6_asking_112 : decode cX6_asking 112 = .ok (.goto 24, 3) := by decide +kernel
theorem dX6_asking_115 : decode cX6_asking 115 = .ok (.iload_n 3, 1) := by decide +kernel
theorem dX6_asking_116 : decode cX6_asking 116 = .ok (.ifCond .eq 13, 3) := by decide +kernel
theorem dX6_asking_119 : decode cX6_asking 119 = .ok (.aload_n 0, 1) := by decide +kernel
theorem dX6_asking_120 : decode cX6_asking 120 = .ok (.iload_n 2, 1) := by decide +kernel
theorem dX6_asking_121 : decode cX6_asking 121 = .ok (.iload 4, 2) := by decide +kernel
theorem dX6_asking_123 : decode cX6_asking 123 = .ok (.invokevirtual 121, 3) := by decide +kernel
theorem dX6_asking_126 : decode cX6_asking 126 = .ok (.goto 10, 3) := by decide +kernel
theorem dX6_asking_129 : decode cX6_asking 129 = .ok (.aload_n 0, 1) := by decide +kernel
theorem dX6_asking_130 : decode cX6_asking 130 = .ok (.iload_n 2, 1) := by decide +kernel
theorem dX6_asking_131 : decode cX6_asking 131 = .ok (.iload 4, 2) := by decide +kernel
theorem dX6_asking_133 : decode cX6_asking 133 = .ok (.invokevirtual 124, 3) := by decide +kernel
theorem dX6_asking_136 : decode cX6_asking 136 = .ok (.istore 5, 2) := by decide +kernel
theorem dX6_asking_138 : decode cX6_asking 138 = .ok (.iload 5, 2) := by decide +kernel
theorem dX6_asking_140 : decode cX6_asking 140 = .ok (.ifCond .eq 5, 3) := by decide +kernel
theorem dX6_asking_143 : decode cX6_asking 143 = .ok (.iconst 1, 1) := by decide +kernel
theorem dX6_asking_144 : decode cX6_asking 144 = .ok (.ireturn, 1) := by decide +kernel
theorem dX6_asking_145 : decode cX6_asking 145 = .ok (.aload_n 0, 1) := by decide +kernel
theorem dX6_asking_146 : decode cX6_asking 146 = .ok (.getfield 26, 3) := by decide +kernel
theorem dX6_asking_149 : decode cX6_asking 149 = .ok (.iload_n 1, 1) := by decide +kernel
theorem dX6_asking_150 : decode cX6_asking 150 = .ok (.iaload, 1) := by decide +kernel
theorem dX6_asking_151 : decode cX6_asking 151 = .ok (.ifCond .ne 23, 3) := by decide +kernel
theorem dX6_asking_154 : decode cX6_asking 154 = .ok (.aload_n 0, 1) := by decide +kernel
theorem dX6_asking_155 : decode cX6_asking 155 = .ok (.getfield 29, 3) := by decide +kernel
theorem dX6_asking_158 : decode cX6_asking 158 = .ok (.aload_n 0, 1) := by decide +kernel
theorem dX6_asking_159 : decode cX6_asking 159 = .ok (.getfield 84, 3) := by decide +kernel
theorem dX6_asking_162 : decode cX6_asking 162 = .ok (.iload_n 1, 1) := by decide +kernel
theorem dX6_asking_163 : decode cX6_asking 163 = .ok (.iastore, 1) := by decide +kernel
theorem dX6_asking_164 : decode cX6_asking 164 = .ok (.aload_n 0, 1) := by decide +kernel
theorem dX6_asking_165 : decode cX6_asking 165 = .ok (.dup, 1) := by decide +kernel
theorem dX6_asking_166 : decode cX6_asking 166 = .ok (.getfield 84, 3) := by decide +kernel
theorem dX6_asking_169 : decode cX6_asking 169 = .ok (.iconst 1, 1) := by decide +kernel
theorem dX6_asking_170 : decode cX6_asking 170 = .ok (.iadd, 1) := by decide +kernel
theorem dX6_asking_171 : decode cX6_asking 171 = .ok (.putfield 84, 3) := by decide +kernel
theorem dX6_asking_174 : decode cX6_asking 174 = .ok (.aload_n 0, 1) := by decide +kernel
theorem dX6_asking_175 : decode cX6_asking 175 = .ok (.getfield 26, 3) := by decide +kernel
theorem dX6_asking_178 : decode cX6_asking 178 = .ok (.iload_n 1, 1) := by decide +kernel
theorem dX6_asking_179 : decode cX6_asking 179 = .ok (.dup2, 1) := by decide +kernel
theorem dX6_asking_180 : decode cX6_asking 180 = .ok (.iaload, 1) := by decide +kernel
theorem dX6_asking_181 : decode cX6_asking 181 = .ok (.iconst 1, 1) := by decide +kernel
theorem dX6_asking_182 : decode cX6_asking 182 = .ok (.iadd, 1) := by decide +kernel
theorem dX6_asking_183 : decode cX6_asking 183 = .ok (.iastore, 1) := by decide +kernel
theorem dX6_asking_184 : decode cX6_asking 184 = .ok (.iconst 0, 1) := by decide +kernel
theorem dX6_asking_185 : decode cX6_asking 185 = .ok (.ireturn, 1) := by decide +kernel
set_option maxRecDepth 20000 in
theorem ggX6_leafComes_X6_mixed : GoodIn wsX6_leafComes wsX6_mixed := goodIn_r _ [8, 9, 10] (by decide +kernel) (by decide +kernel)
set_option maxRecDepth 20000 in
theorem gX6_leafComes_X6_mixed : GoodIn wsX6_leafComes (va_wsS RX6 62 yX6_mixed wsX6_mixed) := goodIn_app (goodIn_of _ (by decide +kernel)) ggX6_leafComes_X6_mixed
theorem dX6_leafComes_0 : decode cX6_leafComes 0 = .ok (.iload_n 1, 1) := by decide +kernel
theorem dX6_leafComes_1 : decode cX6_leafComes 1 = .ok (.bipush 64, 2) := by decide +kernel
theorem dX6_leafComes_3 : decode cX6_leafComes 3 = .ok (.isub, 1) := by decide +kernel
theorem dX6_leafComes_4 : decode cX6_leafComes 4 = .ok (.istore_n 3, 1) := by decide +kernel
theorem dX6_leafComes_5 : decode cX6_leafComes 5 = .ok (.iload_n 2, 1) := by decide +kernel
theorem dX6_leafComes_6 : decode cX6_leafComes 6 = .ok (.iconst 1, 1) := by decide +kernel
theorem dX6_leafComes_7 : decode cX6_leafComes 7 = .ok (.if_icmp .ne 14, 3) := by decide +kernel
theorem dX6_leafComes_10 : decode cX6_leafComes 10 = .ok (.aload_n 0, 1) := by decide +kernel
theorem dX6_leafComes_11 : decode cX6_leafComes 11 = .ok (.getfield 46, 3) := by decide +kernel
theorem dX6_leafComes_14 : decode cX6_leafComes 14 = .ok (.iload_n 3, 1) := by decide +kernel
theorem dX6_leafComes_15 : decode cX6_leafComes 15 = .ok (.laload, 1) := by decide +kernel
theorem dX6_leafComes_16 : decode cX6_leafComes 16 = .ok (.lconst 1, 1) := by decide +kernel
theorem dX6_leafComes_17 : decode cX6_leafComes 17 = .ok (.lxor, 1) := by decide +kernel
theorem dX6_leafComes_18 : decode cX6_leafComes 18 = .ok (.goto 18, 3) := by decide +kernel
theorem dX6_leafComes_21 : decode cX6_leafComes 21 = .ok (.iload_n 2, 1) := by decide +kernel
theorem dX6_leafComes_22 : decode cX6_leafComes 22 = .ok (.iconst 2, 1) := by decide +kernel
theorem dX6_leafComes_23 : decode cX6_leafComes 23 = .ok (.if_icmp .ne 7, 3) := by decide +kernel
theorem dX6_leafComes_26 : decode cX6_leafComes 26 = .ok (.lconst 0, 1) := by decide +kernel
theorem dX6_leafComes_27 : decode cX6_leafComes 27 = .ok (.goto 9, 3) := by decide +kernel
theorem dX6_leafComes_30 : decode cX6_leafComes 30 = .ok (.aload_n 0, 1) := by decide +kernel
theorem dX6_leafComes_31 : decode cX6_leafComes 31 = .ok (.getfield 46, 3) := by decide +kernel
theorem dX6_leafComes_34 : decode cX6_leafComes 34 = .ok (.iload_n 3, 1) := by decide +kernel
theorem dX6_leafComes_35 : decode cX6_leafComes 35 = .ok (.laload, 1) := by decide +kernel
theorem dX6_leafComes_36 : decode cX6_leafComes 36 = .ok (.lstore 4, 2) := by decide +kernel
theorem dX6_leafComes_38 : decode cX6_leafComes 38 = .ok (.aload_n 0, 1) := by decide +kernel
theorem dX6_leafComes_39 : decode cX6_leafComes 39 = .ok (.aload_n 0, 1) := by decide +kernel
theorem dX6_leafComes_40 : decode cX6_leafComes 40 = .ok (.getfield 127, 3) := by decide +kernel
theorem dX6_leafComes_43 : decode cX6_leafComes 43 = .ok (.bipush 8, 2) := by decide +kernel
theorem dX6_leafComes_45 : decode cX6_leafComes 45 = .ok (.iadd, 1) := by decide +kernel
theorem dX6_leafComes_46 : decode cX6_leafComes 46 = .ok (.putfield 127, 3) := by decide +kernel
theorem dX6_leafComes_49 : decode cX6_leafComes 49 = .ok (.lload 4, 2) := by decide +kernel
theorem dX6_leafComes_51 : decode cX6_leafComes 51 = .ok (.lconst 0, 1) := by decide +kernel
theorem dX6_leafComes_52 : decode cX6_leafComes 52 = .ok (.lcmp, 1) := by decide +kernel
theorem dX6_leafComes_53 : decode cX6_leafComes 53 = .ok (.ifCond .ne 7, 3) := by decide +kernel
theorem dX6_leafComes_56 : decode cX6_leafComes 56 = .ok (.lconst 0, 1) := by decide +kernel
theorem dX6_leafComes_57 : decode cX6_leafComes 57 = .ok (.goto 12, 3) := by decide +kernel
theorem dX6_leafComes_60 : decode cX6_leafComes 60 = .ok (.iload_n 3, 1) := by decide +kernel
theorem dX6_leafComes_61 : decode cX6_leafComes 61 = .ok (.i2l, 1) := by decide +kernel
theorem dX6_leafComes_62 : decode cX6_leafComes 62 = .ok (.lconst 1, 1) := by decide +kernel
theorem dX6_leafComes_63 : decode cX6_leafComes 63 = .ok (.ladd, 1) := by decide +kernel
theorem dX6_leafComes_64 : decode cX6_leafComes 64 = .ok (.lload 4, 2) := by decide +kernel
theorem dX6_leafComes_66 : decode cX6_leafComes 66 = .ok (.invokestatic 62, 3) := by decide +kernel
theorem dX6_leafComes_69 : decode cX6_leafComes 69 = .ok (.aload_n 0, 1) := by decide +kernel
theorem dX6_leafComes_70 : decode cX6_leafComes 70 = .ok (.getfield 43, 3) := by decide +kernel
theorem dX6_leafComes_73 : decode cX6_leafComes 73 = .ok (.iload_n 1, 1) := by decide +kernel
theorem dX6_leafComes_74 : decode cX6_leafComes 74 = .ok (.laload, 1) := by decide +kernel
theorem dX6_leafComes_75 : decode cX6_leafComes 75 = .ok (.lcmp, 1) := by decide +kernel
theorem dX6_leafComes_76 : decode cX6_leafComes 76 = .ok (.ifCond .eq 5, 3) := by decide +kernel
theorem dX6_leafComes_79 : decode cX6_leafComes 79 = .ok (.iconst 0, 1) := by decide +kernel
theorem dX6_leafComes_80 : decode cX6_leafComes 80 = .ok (.ireturn, 1) := by decide +kernel
theorem dX6_leafComes_81 : decode cX6_leafComes 81 = .ok (.aload_n 0, 1) := by decide +kernel
theorem dX6_leafComes_82 : decode cX6_leafComes 82 = .ok (.getfield 36, 3) := by decide +kernel
theorem dX6_leafComes_85 : decode cX6_leafComes 85 = .ok (.iload_n 3, 1) := by decide +kernel
theorem dX6_leafComes_86 : decode cX6_leafComes 86 = .ok (.lload 4, 2) := by decide +kernel
theorem dX6_leafComes_88 : decode cX6_leafComes 88 = .ok (.lastore, 1) := by decide +kernel
theorem dX6_leafComes_89 : decode cX6_leafComes 89 = .ok (.iconst 1, 1) := by decide +kernel
theorem dX6_leafComes_90 : decode cX6_leafComes 90 = .ok (.ireturn, 1) := by decide +kernel
set_option maxRecDepth 20000 in
theorem ggX6_pairComes_X6_build : GoodIn wsX6_pairComes wsX6_build := goodIn_r _ [9, 10, 2, 11, 12, 8, 13, 14, 15, 28, 29, 30, 31, 32, 33, 34, 35, 36, 37, 38, 39, 40, 41, 42, 43, 44, 45, 46, 47] (by decide +kernel) (by decide +kernel)
set_option maxRecDepth 20000 in
theorem gX6_pairComes_X6_build : GoodIn wsX6_pairComes (wsV RX6 77 RX6 yX6_build wsX6_build) := goodIn_app (goodIn_of _ (by decide +kernel)) ggX6_pairComes_X6_build
set_option maxRecDepth 20000 in
theorem ggX6_pairComes_X6_mixed : GoodIn wsX6_pairComes wsX6_mixed := goodIn_r _ [13, 14, 15] (by decide +kernel) (by decide +kernel)
set_option maxRecDepth 20000 in
theorem gX6_pairComes_X6_mixed : GoodIn wsX6_pairComes (va_wsS RX6 62 yX6_mixed wsX6_mixed) := goodIn_app (goodIn_of _ (by decide +kernel)) ggX6_pairComes_X6_mixed
set_option maxRecDepth 20000 in
theorem ggX6_pairComes_X6_know : GoodIn wsX6_pairComes wsX6_know := goodIn_r _ [19, 20, 4, 21, 22, 23, 8, 24, 25, 26, 27, 28, 29, 30, 31, 32, 33, 34, 35, 36, 37, 38, 39, 40, 41, 42, 43, 44, 45, 46, 47] (by decide +kernel) (by decide +kernel)
set_option maxRecDepth 20000 in
theorem gX6_pairComes_X6_know : GoodIn wsX6_pairComes (wsV RX6 102 RX6 yX6_know wsX6_know) := goodIn_app (goodIn_of _ (by decide +kernel)) ggX6_pairComes_X6_know
theorem dX6_pairComes_0 : decode cX6_pairComes 0 = .ok (.aload_n 0, 1) := by decide +kernel
theorem dX6_pairComes_1 : decode cX6_pairComes 1 = .ok (.aload_n 0, 1) := by decide +kernel
theorem dX6_pairComes_2 : decode cX6_pairComes 2 = .ok (.getfield 46, 3) := by decide +kernel
theorem dX6_pairComes_5 : decode cX6_pairComes 5 = .ok (.invokevirtual 77, 3) := by decide +kernel
theorem dX6_pairComes_8 : decode cX6_pairComes 8 = .ok (.aload_n 0, 1) := by decide +kernel
theorem dX6_pairComes_9 : decode cX6_pairComes 9 = .ok (.getfield 52, 3) := by decide +kernel
theorem dX6_pairComes_12 : decode cX6_pairComes 12 = .ok (.iconst 2, 1) := by decide +kernel
theorem dX6_pairComes_13 : decode cX6_pairComes 13 = .ok (.iload_n 1, 1) := by decide +kernel
theorem dX6_pairComes_14 : decode cX6_pairComes 14 = .ok (.imul, 1) := by decide +kernel
theorem dX6_pairComes_15 : decode cX6_pairComes 15 = .ok (.laload, 1) := by decide +kernel
theorem dX6_pairComes_16 : decode cX6_pairComes 16 = .ok (.lstore_n 3, 1) := by decide +kernel
theorem dX6_pairComes_17 : decode cX6_pairComes 17 = .ok (.aload_n 0, 1) := by decide +kernel
theorem dX6_pairComes_18 : decode cX6_pairComes 18 = .ok (.getfield 52, 3) := by decide +kernel
theorem dX6_pairComes_21 : decode cX6_pairComes 21 = .ok (.iconst 2, 1) := by decide +kernel
theorem dX6_pairComes_22 : decode cX6_pairComes 22 = .ok (.iload_n 1, 1) := by decide +kernel
theorem dX6_pairComes_23 : decode cX6_pairComes 23 = .ok (.imul, 1) := by decide +kernel
theorem dX6_pairComes_24 : decode cX6_pairComes 24 = .ok (.iconst 1, 1) := by decide +kernel
theorem dX6_pairComes_25 : decode cX6_pairComes 25 = .ok (.iadd, 1) := by decide +kernel
theorem dX6_pairComes_26 : decode cX6_pairComes 26 = .ok (.laload, 1) := by decide +kernel
theorem dX6_pairComes_27 : decode cX6_pairComes 27 = .ok (.lstore 5, 2) := by decide +kernel
theorem dX6_pairComes_29 : decode cX6_pairComes 29 = .ok (.iload_n 2, 1) := by decide +kernel
theorem dX6_pairComes_30 : decode cX6_pairComes 30 = .ok (.iconst 1, 1) := by decide +kernel
theorem dX6_pairComes_31 : decode cX6_pairComes 31 = .ok (.if_icmp .ne 7, 3) := by decide +kernel
theorem dX6_pairComes_34 : decode cX6_pairComes 34 = .ok (.lload_n 3, 1) := by decide +kernel
theorem dX6_pairComes_35 : decode cX6_pairComes 35 = .ok (.lconst 1, 1) := by decide +kernel
theorem dX6_pairComes_36 : decode cX6_pairComes 36 = .ok (.lxor, 1) := by decide +kernel
theorem dX6_pairComes_37 : decode cX6_pairComes 37 = .ok (.lstore_n 3, 1) := by decide +kernel
theorem dX6_pairComes_38 : decode cX6_pairComes 38 = .ok (.iload_n 2, 1) := by decide +kernel
theorem dX6_pairComes_39 : decode cX6_pairComes 39 = .ok (.iconst 2, 1) := by decide +kernel
theorem dX6_pairComes_40 : decode cX6_pairComes 40 = .ok (.if_icmp .ne 13, 3) := by decide +kernel
theorem dX6_pairComes_43 : decode cX6_pairComes 43 = .ok (.lload_n 3, 1) := by decide +kernel
theorem dX6_pairComes_44 : decode cX6_pairComes 44 = .ok (.lstore 7, 2) := by decide +kernel
theorem dX6_pairComes_46 : decode cX6_pairComes 46 = .ok (.lload 5, 2) := by decide +kernel
theorem dX6_pairComes_48 : decode cX6_pairComes 48 = .ok (.lstore_n 3, 1) := by decide +kernel
theorem dX6_pairComes_49 : decode cX6_pairComes 49 = .ok (.lload 7, 2) := by decide +kernel
theorem dX6_pairComes_51 : decode cX6_pairComes 51 = .ok (.lstore 5, 2) := by decide +kernel
theorem dX6_pairComes_53 : decode cX6_pairComes 53 = .ok (.aload_n 0, 1) := by decide +kernel
theorem dX6_pairComes_54 : decode cX6_pairComes 54 = .ok (.aload_n 0, 1) := by decide +kernel
theorem dX6_pairComes_55 : decode cX6_pairComes 55 = .ok (.getfield 127, 3) := by decide +kernel
theorem dX6_pairComes_58 : decode cX6_pairComes 58 = .ok (.bipush 16, 2) := by decide +kernel
theorem dX6_pairComes_60 : decode cX6_pairComes 60 = .ok (.iadd, 1) := by decide +kernel
theorem dX6_pairComes_61 : decode cX6_pairComes 61 = .ok (.putfield 127, 3) := by decide +kernel
theorem dX6_pairComes_64 : decode cX6_pairComes 64 = .ok (.lload_n 3, 1) := by decide +kernel
theorem dX6_pairComes_65 : decode cX6_pairComes 65 = .ok (.lconst 0, 1) := by decide +kernel
theorem dX6_pairComes_66 : decode cX6_pairComes 66 = .ok (.lcmp, 1) := by decide +kernel
theorem dX6_pairComes_67 : decode cX6_pairComes 67 = .ok (.ifCond .ne 14, 3) := by decide +kernel
theorem dX6_pairComes_70 : decode cX6_pairComes 70 = .ok (.lload 5, 2) := by decide +kernel
theorem dX6_pairComes_72 : decode cX6_pairComes 72 = .ok (.lconst 0, 1) := by decide +kernel
theorem dX6_pairComes_73 : decode cX6_pairComes 73 = .ok (.lcmp, 1) := by decide +kernel
theorem dX6_pairComes_74 : decode cX6_pairComes 74 = .ok (.ifCond .ne 7, 3) := by decide +kernel
theorem dX6_pairComes_77 : decode cX6_pairComes 77 = .ok (.lconst 0, 1) := by decide +kernel
theorem dX6_pairComes_78 : decode cX6_pairComes 78 = .ok (.goto 9, 3) := by decide +kernel
theorem dX6_pairComes_81 : decode cX6_pairComes 81 = .ok (.lload_n 3, 1) := by decide +kernel
theorem dX6_pairComes_82 : decode cX6_pairComes 82 = .ok (.lload 5, 2) := by decide +kernel
theorem dX6_pairComes_84 : decode cX6_pairComes 84 = .ok (.invokestatic 62, 3) := by decide +kernel
theorem dX6_pairComes_87 : decode cX6_pairComes 87 = .ok (.aload_n 0, 1) := by decide +kernel
theorem dX6_pairComes_88 : decode cX6_pairComes 88 = .ok (.getfield 43, 3) := by decide +kernel
theorem dX6_pairComes_91 : decode cX6_pairComes 91 = .ok (.iload_n 1, 1) := by decide +kernel
theorem dX6_pairComes_92 : decode cX6_pairComes 92 = .ok (.laload, 1) := by decide +kernel
theorem dX6_pairComes_93 : decode cX6_pairComes 93 = .ok (.lcmp, 1) := by decide +kernel
theorem dX6_pairComes_94 : decode cX6_pairComes 94 = .ok (.ifCond .eq 5, 3) := by decide +kernel
theorem dX6_pairComes_97 : decode cX6_pairComes 97 = .ok (.iconst 0, 1) := by decide +kernel
theorem dX6_pairComes_98 : decode cX6_pairComes 98 = .ok (.ireturn, 1) := by decide +kernel
theorem dX6_pairComes_99 : decode cX6_pairComes 99 = .ok (.aload_n 0, 1) := by decide +kernel
theorem dX6_pairComes_100 : decode cX6_pairComes 100 = .ok (.iconst 2, 1) := by decide +kernel
theorem dX6_pairComes_101 : decode cX6_pairComes 101 = .ok (.iload_n 1, 1) := by decide +kernel
theorem dX6_pairComes_102 : decode cX6_pairComes 102 = .ok (.imul, 1) := by decide +kernel
theorem dX6_pairComes_103 : decode cX6_pairComes 103 = .ok (.lload_n 3, 1) := by decide +kernel
theorem dX6_pairComes_104 : decode cX6_pairComes 104 = .ok (.invokevirtual 102, 3) := by decide +kernel
theorem dX6_pairComes_107 : decode cX6_pairComes 107 = .ok (.aload_n 0, 1) := by decide +kernel
theorem dX6_pairComes_108 : decode cX6_pairComes 108 = .ok (.iconst 2, 1) := by decide +kernel
theorem dX6_pairComes_109 : decode cX6_pairComes 109 = .ok (.iload_n 1, 1) := by decide +kernel
theorem dX6_pairComes_110 : decode cX6_pairComes 110 = .ok (.imul, 1) := by decide +kernel
theorem dX6_pairComes_111 : decode cX6_pairComes 111 = .ok (.iconst 1, 1) := by decide +kernel
theorem dX6_pairComes_112 : decode cX6_pairComes 112 = .ok (.iadd, 1) := by decide +kernel
theorem dX6_pairComes_113 : decode cX6_pairComes 113 = .ok (.lload 5, 2) := by decide +kernel
theorem dX6_pairComes_115 : decode cX6_pairComes 115 = .ok (.invokevirtual 102, 3) := by decide +kernel
theorem dX6_pairComes_118 : decode cX6_pairComes 118 = .ok (.iconst 1, 1) := by decide +kernel
theorem dX6_pairComes_119 : decode cX6_pairComes 119 = .ok (.ireturn, 1) := by decide +kernel
set_option maxRecDepth 20000 in
theorem ggX6_rowComes_X6_firstOf : GoodIn wsX6_rowComes wsX6_firstOf := goodIn_r _ [10] (by decide +kernel) (by decide +kernel)
set_option maxRecDepth 20000 in
theorem gX6_rowComes_X6_firstOf : GoodIn wsX6_rowComes (va_wsS RX6 87 yX6_firstOf wsX6_firstOf) := goodIn_app (goodIn_of _ (by decide +kernel)) ggX6_rowComes_X6_firstOf
set_option maxRecDepth 20000 in
theorem ggX6_rowComes_X6_lastOf : GoodIn wsX6_rowComes wsX6_lastOf := goodIn_r _ [13] (by decide +kernel) (by decide +kernel)
set_option maxRecDepth 20000 in
theorem gX6_rowComes_X6_lastOf : GoodIn wsX6_rowComes (va_wsS RX6 91 yX6_lastOf wsX6_lastOf) := goodIn_app (goodIn_of _ (by decide +kernel)) ggX6_rowComes_X6_lastOf
set_option maxRecDepth 20000 in
theorem ggX6_rowComes_X6_in : GoodIn wsX6_rowComes wsX6_in := goodIn_r _ [16] (by decide +kernel) (by decide +kernel)
set_option maxRecDepth 20000 in
theorem gX6_rowComes_X6_in : GoodIn wsX6_rowComes (va_wsS RX6 66 yX6_in wsX6_in) := goodIn_app (goodIn_of _ (by decide +kernel)) ggX6_rowComes_X6_in
set_option maxRecDepth 20000 in
theorem ggX6_rowComes_X6_build : GoodIn wsX6_rowComes wsX6_build := goodIn_r _ [20, 21, 4, 22, 23, 9, 24, 25, 26, 27, 28, 29, 30, 31, 32, 33, 34, 35, 36, 37, 38, 39, 40, 41, 42, 43, 44, 45, 46] (by decide +kernel) (by decide +kernel)
set_option maxRecDepth 20000 in
theorem gX6_rowComes_X6_build : GoodIn wsX6_rowComes (wsV RX6 77 RX6 yX6_build wsX6_build) := goodIn_app (goodIn_of _ (by decide +kernel)) ggX6_rowComes_X6_build
theorem dX6_rowComes_0 : decode cX6_rowComes 0 = .ok (.iload_n 1, 1) := by decide +kernel
theorem dX6_rowComes_1 : decode cX6_rowComes 1 = .ok (.invokestatic 87, 3) := by decide +kernel
theorem dX6_rowComes_4 : decode cX6_rowComes 4 = .ok (.istore_n 3, 1) := by decide +kernel
theorem dX6_rowComes_5 : decode cX6_rowComes 5 = .ok (.iload_n 1, 1) := by decide +kernel
theorem dX6_rowComes_6 : decode cX6_rowComes 6 = .ok (.invokestatic 91, 3) := by decide +kernel
theorem dX6_rowComes_9 : decode cX6_rowComes 9 = .ok (.istore 4, 2) := by decide +kernel
theorem dX6_rowComes_11 : decode cX6_rowComes 11 = .ok (.bipush (-3), 2) := by decide +kernel
theorem dX6_rowComes_13 : decode cX6_rowComes 13 = .ok (.istore 5, 2) := by decide +kernel
theorem dX6_rowComes_15 : decode cX6_rowComes 15 = .ok (.bipush (-3), 2) := by decide +kernel
theorem dX6_rowComes_17 : decode cX6_rowComes 17 = .ok (.istore 6, 2) := by decide +kernel
theorem dX6_rowComes_19 : decode cX6_rowComes 19 = .ok (.iconst 0, 1) := by decide +kernel
theorem dX6_rowComes_20 : decode cX6_rowComes 20 = .ok (.istore 7, 2) := by decide +kernel
theorem dX6_rowComes_22 : decode cX6_rowComes 22 = .ok (.iload 7, 2) := by decide +kernel
theorem dX6_rowComes_24 : decode cX6_rowComes 24 = .ok (.bipush 64, 2) := by decide +kernel
theorem dX6_rowComes_26 : decode cX6_rowComes 26 = .ok (.if_icmp .ge 87, 3) := by decide +kernel
theorem dX6_rowComes_29 : decode cX6_rowComes 29 = .ok (.aload_n 0, 1) := by decide +kernel
theorem dX6_rowComes_30 : decode cX6_rowComes 30 = .ok (.getfield 49, 3) := by decide +kernel
theorem dX6_rowComes_33 : decode cX6_rowComes 33 = .ok (.iload 7, 2) := by decide +kernel
theorem dX6_rowComes_35 : decode cX6_rowComes 35 = .ok (.iload 7, 2) := by decide +kernel
theorem dX6_rowComes_37 : decode cX6_rowComes 37 = .ok (.iload_n 3, 1) := by decide +kernel
theorem dX6_rowComes_38 : decode cX6_rowComes 38 = .ok (.iload 4, 2) := by decide +kernel
theorem dX6_rowComes_40 : decode cX6_rowComes 40 = .ok (.invokestatic 66, 3) := by decide +kernel
theorem dX6_rowComes_43 : decode cX6_rowComes 43 = .ok (.ifCond .eq 13, 3) := by decide +kernel
theorem dX6_rowComes_46 : decode cX6_rowComes 46 = .ok (.aload_n 0, 1) := by decide +kernel
theorem dX6_rowComes_47 : decode cX6_rowComes 47 = .ok (.getfield 46, 3) := by decide +kernel
theorem dX6_rowComes_50 : decode cX6_rowComes 50 = .ok (.iload 7, 2) := by decide +kernel
theorem dX6_rowComes_52 : decode cX6_rowComes 52 = .ok (.laload, 1) := by decide +kernel
theorem dX6_rowComes_53 : decode cX6_rowComes 53 = .ok (.goto 4, 3) := by decide +kernel
theorem dX6_rowComes_56 : decode cX6_rowComes 56 = .ok (.lconst 0, 1) := by decide +kernel
theorem dX6_rowComes_57 : decode cX6_rowComes 57 = .ok (.lastore, 1) := by decide +kernel
theorem dX6_rowComes_58 : decode cX6_rowComes 58 = .ok (.iload 5, 2) := by decide +kernel
theorem dX6_rowComes_60 : decode cX6_rowComes 60 = .ok (.bipush (-3), 2) := by decide +kernel
theorem dX6_rowComes_62 : decode cX6_rowComes 62 = .ok (.if_icmp .ne 20, 3) := by decide +kernel
theorem dX6_rowComes_65 : decode cX6_rowComes 65 = .ok (.aload_n 0, 1) := by decide +kernel
theorem dX6_rowComes_66 : decode cX6_rowComes 66 = .ok (.getfield 49, 3) := by decide +kernel
theorem dX6_rowComes_69 : decode cX6_rowComes 69 = .ok (.iload 7, 2) := by decide +kernel
theorem dX6_rowComes_71 : decode cX6_rowComes 71 = .ok (.laload, 1) := by decide +kernel
theorem dX6_rowComes_72 : decode cX6_rowComes 72 = .ok (.lconst 0, 1) := by decide +kernel
theorem dX6_rowComes_73 : decode cX6_rowComes 73 = .ok (.lcmp, 1) := by decide +kernel
theorem dX6_rowComes_74 : decode cX6_rowComes 74 = .ok (.ifCond .eq 8, 3) := by decide +kernel
theorem dX6_rowComes_77 : decode cX6_rowComes 77 = .ok (.iload 7, 2) := by decide +kernel
theorem dX6_rowComes_79 : decode cX6_rowComes 79 = .ok (.goto 5, 3) := by decide +kernel
theorem dX6_rowComes_82 : decode cX6_rowComes 82 = .ok (.iload 5, 2) := by decide +kernel
theorem dX6_rowComes_84 : decode cX6_rowComes 84 = .ok (.istore 5, 2) := by decide +kernel
theorem dX6_rowComes_86 : decode cX6_rowComes 86 = .ok (.aload_n 0, 1) := by decide +kernel
theorem dX6_rowComes_87 : decode cX6_rowComes 87 = .ok (.getfield 49, 3) := by decide +kernel
theorem dX6_rowComes_90 : decode cX6_rowComes 90 = .ok (.iload 7, 2) := by decide +kernel
theorem dX6_rowComes_92 : decode cX6_rowComes 92 = .ok (.laload, 1) := by decide +kernel
theorem dX6_rowComes_93 : decode cX6_rowComes 93 = .ok (.lconst 0, 1) := by decide +kernel
theorem dX6_rowComes_94 : decode cX6_rowComes 94 = .ok (.lcmp, 1) := by decide +kernel
theorem dX6_rowComes_95 : decode cX6_rowComes 95 = .ok (.ifCond .eq 8, 3) := by decide +kernel
theorem dX6_rowComes_98 : decode cX6_rowComes 98 = .ok (.iload 7, 2) := by decide +kernel
theorem dX6_rowComes_100 : decode cX6_rowComes 100 = .ok (.goto 5, 3) := by decide +kernel
theorem dX6_rowComes_103 : decode cX6_rowComes 103 = .ok (.iload 6, 2) := by decide +kernel
theorem dX6_rowComes_105 : decode cX6_rowComes 105 = .ok (.istore 6, 2) := by decide +kernel
theorem dX6_rowComes_107 : decode cX6_rowComes 107 = .ok (.iinc 7 1, 3) := by decide +kernel
theorem dX6_rowComes_110 : decode cX6_rowComes 110 = .ok (.goto (-88), 3) := by decide +kernel
theorem dX6_rowComes_113 : decode cX6_rowComes 113 = .ok (.iload_n 2, 1) := by decide +kernel
theorem dX6_rowComes_114 : decode cX6_rowComes 114 = .ok (.iconst 1, 1) := by decide +kernel
theorem dX6_rowComes_115 : decode cX6_rowComes 115 = .ok (.if_icmp .ne 36, 3) := by decide +kernel
theorem dX6_rowComes_118 : decode cX6_rowComes 118 = .ok (.iload 5, 2) := by decide +kernel
theorem dX6_rowComes_120 : decode cX6_rowComes 120 = .ok (.bipush (-3), 2) := by decide +kernel
theorem dX6_rowComes_122 : decode cX6_rowComes 122 = .ok (.if_icmp .ne 13, 3) := by decide +kernel
theorem dX6_rowComes_125 : decode cX6_rowComes 125 = .ok (.aload_n 0, 1) := by decide +kernel
theorem dX6_rowComes_126 : decode cX6_rowComes 126 = .ok (.getfield 49, 3) := by decide +kernel
theorem dX6_rowComes_129 : decode cX6_rowComes 129 = .ok (.iload_n 3, 1) := by decide +kernel
theorem dX6_rowComes_130 : decode cX6_rowComes 130 = .ok (.lconst 1, 1) := by decide +kernel
theorem dX6_rowComes_131 : decode cX6_rowComes 131 = .ok (.lastore, 1) := by decide +kernel
theorem dX6_rowComes_132 : decode cX6_rowComes 132 = .ok (.goto 19, 3) := by decide +kernel
theorem dX6_rowComes_135 : decode cX6_rowComes 135 = .ok (.aload_n 0, 1) := by decide +kernel
theorem dX6_rowComes_136 : decode cX6_rowComes 136 = .ok (.getfield 49, 3) := by decide +kernel
theorem dX6_rowComes_139 : decode cX6_rowComes 139 = .ok (.iload 5, 2) := by decide +kernel
theorem dX6_rowComes_141 : decode cX6_rowComes 141 = .ok (.aload_n 0, 1) := by decide +kernel
theorem dX6_rowComes_142 : decode cX6_rowComes 142 = .ok (.getfield 49, 3) := by decide +kernel
theorem dX6_rowComes_145 : decode cX6_rowComes 145 = .ok (.iload 5, 2) := by decide +kernel
theorem dX6_rowComes_147 : decode cX6_rowComes 147 = .ok (.laload, 1) := by decide +kernel
theorem dX6_rowComes_148 : decode cX6_rowComes 148 = .ok (.lconst 1, 1) := by decide +kernel
theorem dX6_rowComes_149 : decode cX6_rowComes 149 = .ok (.lxor, 1) := by decide +kernel
theorem dX6_rowComes_150 : decode cX6_rowComes 150 = .ok (.lastore, 1) := by decide +kernel
theorem dX6_rowComes_151 : decode cX6_rowComes 151 = .ok (.iload_n 2, 1) := by decide +kernel
theorem dX6_rowComes_152 : decode cX6_rowComes 152 = .ok (.iconst 2, 1) := by decide +kernel
theorem dX6_rowComes_153 : decode cX6_rowComes 153 = .ok (.if_icmp .ne 18, 3) := by decide +kernel
theorem dX6_rowComes_156 : decode cX6_rowComes 156 = .ok (.iload 6, 2) := by decide +kernel
theorem dX6_rowComes_158 : decode cX6_rowComes 158 = .ok (.bipush (-3), 2) := by decide +kernel
theorem dX6_rowComes_160 : decode cX6_rowComes 160 = .ok (.if_icmp .eq 11, 3) := by decide +kernel
theorem dX6_rowComes_163 : decode cX6_rowComes 163 = .ok (.aload_n 0, 1) := by decide +kernel
theorem dX6_rowComes_164 : decode cX6_rowComes 164 = .ok (.getfield 49, 3) := by decide +kernel
theorem dX6_rowComes_167 : decode cX6_rowComes 167 = .ok (.iload 6, 2) := by decide +kernel
theorem dX6_rowComes_169 : decode cX6_rowComes 169 = .ok (.lconst 0, 1) := by decide +kernel
theorem dX6_rowComes_170 : decode cX6_rowComes 170 = .ok (.lastore, 1) := by decide +kernel
theorem dX6_rowComes_171 : decode cX6_rowComes 171 = .ok (.aload_n 0, 1) := by decide +kernel
theorem dX6_rowComes_172 : decode cX6_rowComes 172 = .ok (.aload_n 0, 1) := by decide +kernel
theorem dX6_rowComes_173 : decode cX6_rowComes 173 = .ok (.getfield 127, 3) := by decide +kernel
theorem dX6_rowComes_176 : decode cX6_rowComes 176 = .ok (.iconst 4, 1) := by decide +kernel
theorem dX6_rowComes_177 : decode cX6_rowComes 177 = .ok (.iadd, 1) := by decide +kernel
theorem dX6_rowComes_178 : decode cX6_rowComes 178 = .ok (.putfield 127, 3) := by decide +kernel
theorem dX6_rowComes_181 : decode cX6_rowComes 181 = .ok (.iload_n 3, 1) := by decide +kernel
theorem dX6_rowComes_182 : decode cX6_rowComes 182 = .ok (.istore 7, 2) := by decide +kernel
theorem dX6_rowComes_184 : decode cX6_rowComes 184 = .ok (.iload 7, 2) := by decide +kernel
theorem dX6_rowComes_186 : decode cX6_rowComes 186 = .ok (.iload 4, 2) := by decide +kernel
theorem dX6_rowComes_188 : decode cX6_rowComes 188 = .ok (.if_icmp .gt 39, 3) := by decide +kernel
theorem dX6_rowComes_191 : decode cX6_rowComes 191 = .ok (.aload_n 0, 1) := by decide +kernel
theorem dX6_rowComes_192 : decode cX6_rowComes 192 = .ok (.aload_n 0, 1) := by decide +kernel
theorem dX6_rowComes_193 : decode cX6_rowComes 193 = .ok (.getfield 49, 3) := by decide +kernel
theorem dX6_rowComes_196 : decode cX6_rowComes 196 = .ok (.iload 7, 2) := by decide +kernel
theorem dX6_rowComes_198 : decode cX6_rowComes 198 = .ok (.laload, 1) := by decide +kernel
theorem dX6_rowComes_199 : decode cX6_rowComes 199 = .ok (.lconst 0, 1) := by decide +kernel
theorem dX6_rowComes_200 : decode cX6_rowComes 200 = .ok (.lcmp, 1) := by decide +kernel
theorem dX6_rowComes_201 : decode cX6_rowComes 201 = .ok (.ifCond .eq 13, 3) := by decide +kernel
theorem dX6_rowComes_204 : decode cX6_rowComes 204 = .ok (.aload_n 0, 1) := by decide +kernel
theorem dX6_rowComes_205 : decode cX6_rowComes 205 = .ok (.getfield 127, 3) := by decide +kernel
theorem dX6_rowComes_208 : decode cX6_rowComes 208 = .ok (.bipush 12, 2) := by decide +kernel
theorem dX6_rowComes_210 : decode cX6_rowComes 210 = .ok (.iadd, 1) := by decide +kernel
theorem dX6_rowComes_211 : decode cX6_rowComes 211 = .ok (.goto 7, 3) := by decide +kernel
theorem dX6_rowComes_214 : decode cX6_rowComes 214 = .ok (.aload_n 0, 1) := by decide +kernel
theorem dX6_rowComes_215 : decode cX6_rowComes 215 = .ok (.getfield 127, 3) := by decide +kernel
theorem dX6_rowComes_218 : decode cX6_rowComes 218 = .ok (.putfield 127, 3) := by decide +kernel
theorem dX6_rowComes_221 : decode cX6_rowComes 221 = .ok (.iinc 7 1, 3) := by decide +kernel
theorem dX6_rowComes_224 : decode cX6_rowComes 224 = .ok (.goto (-40), 3) := by decide +kernel
theorem dX6_rowComes_227 : decode cX6_rowComes 227 = .ok (.aload_n 0, 1) := by decide +kernel
theorem dX6_rowComes_228 : decode cX6_rowComes 228 = .ok (.aload_n 0, 1) := by decide +kernel
theorem dX6_rowComes_229 : decode cX6_rowComes 229 = .ok (.getfield 49, 3) := by decide +kernel
theorem dX6_rowComes_232 : decode cX6_rowComes 232 = .ok (.invokevirtual 77, 3) := by decide +kernel
theorem dX6_rowComes_235 : decode cX6_rowComes 235 = .ok (.aload_n 0, 1) := by decide +kernel
theorem dX6_rowComes_236 : decode cX6_rowComes 236 = .ok (.getfield 52, 3) := by decide +kernel
theorem dX6_rowComes_239 : decode cX6_rowComes 239 = .ok (.iload_n 1, 1) := by decide +kernel
end
section
theorem dX6_rowComes_240 : decode cX6_rowComes 240 = .ok (.laload, 1) := by decide +kernel
theorem dX6_rowComes_241 : decode cX6_rowComes 241 = .ok (.aload_n 0, 1) := by decide +kernel
theorem dX6_rowComes_242 : decode cX6_rowComes 242 = .ok (.getfield 43, 3) := by decide +kernel
theorem dX6_rowComes_245 : decode cX6_rowComes 245 = .ok (.iload_n 1, 1) := by decide +kernel
theorem dX6_rowComes_246 : decode cX6_rowComes 246 = .ok (.laload, 1) := by decide +kernel
theorem dX6_rowComes_247 : decode cX6_rowComes 247 = .ok (.lcmp, 1) := by decide +kernel
theorem dX6_rowComes_248 : decode cX6_rowComes 248 = .ok (.ifCond .eq 5, 3) := by decide +kernel
theorem dX6_rowComes_251 : decode cX6_rowComes 251 = .ok (.iconst 0, 1) := by decide +kernel
theorem dX6_rowComes_252 : decode cX6_rowComes 252 = .ok (.ireturn, 1) := by decide +kernel
theorem dX6_rowComes_253 : decode cX6_rowComes 253 = .ok (.iload_n 3, 1) := by decide +kernel
theorem dX6_rowComes_254 : decode cX6_rowComes 254 = .ok (.istore 7, 2) := by decide +kernel
theorem dX6_rowComes_256 : decode cX6_rowComes 256 = .ok (.iload 7, 2) := by decide +kernel
theorem dX6_rowComes_258 : decode cX6_rowComes 258 = .ok (.iload 4, 2) := by decide +kernel
theorem dX6_rowComes_260 : decode cX6_rowComes 260 = .ok (.if_icmp .gt 23, 3) := by decide +kernel
theorem dX6_rowComes_263 : decode cX6_rowComes 263 = .ok (.aload_n 0, 1) := by decide +kernel
theorem dX6_rowComes_264 : decode cX6_rowComes 264 = .ok (.getfield 36, 3) := by decide +kernel
theorem dX6_rowComes_267 : decode cX6_rowComes 267 = .ok (.iload 7, 2) := by decide +kernel
theorem dX6_rowComes_269 : decode cX6_rowComes 269 = .ok (.aload_n 0, 1) := by decide +kernel
theorem dX6_rowComes_270 : decode cX6_rowComes 270 = .ok (.getfield 49, 3) := by decide +kernel
theorem dX6_rowComes_273 : decode cX6_rowComes 273 = .ok (.iload 7, 2) := by decide +kernel
theorem dX6_rowComes_275 : decode cX6_rowComes 275 = .ok (.laload, 1) := by decide +kernel
theorem dX6_rowComes_276 : decode cX6_rowComes 276 = .ok (.lastore, 1) := by decide +kernel
theorem dX6_rowComes_277 : decode cX6_rowComes 277 = .ok (.iinc 7 1, 3) := by decide +kernel
theorem dX6_rowComes_280 : decode cX6_rowComes 280 = .ok (.goto (-24), 3) := by decide +kernel
theorem dX6_rowComes_283 : decode cX6_rowComes 283 = .ok (.iconst 1, 1) := by decide +kernel
theorem dX6_rowComes_284 : decode cX6_rowComes 284 = .ok (.ireturn, 1) := by decide +kernel
set_option maxRecDepth 20000 in
theorem ggX6_play_X6_in : GoodIn wsX6_play wsX6_in := goodIn_r _ [9] (by decide +kernel) (by decide +kernel)
set_option maxRecDepth 20000 in
theorem gX6_play_X6_in : GoodIn wsX6_play (va_wsS RX6 66 yX6_in wsX6_in) := goodIn_app (goodIn_of _ (by decide +kernel)) ggX6_play_X6_in
set_option maxRecDepth 20000 in
theorem ggX6_play_X6_lacking : GoodIn wsX6_play wsX6_lacking := goodIn_r _ [13, 14, 15, 16, 17, 8, 18, 19, 20, 21, 22, 23, 24, 25, 26, 27, 28, 29, 30, 31, 78, 79, 80, 81, 82, 83, 84, 85, 86, 87, 88, 89, 90, 91, 92, 93, 94, 95, 96, 97] (by decide +kernel) (by decide +kernel)
set_option maxRecDepth 20000 in
theorem gX6_play_X6_lacking : GoodIn wsX6_play (wsV RX6 106 RX6 yX6_lacking wsX6_lacking) := goodIn_app (goodIn_of _ (by decide +kernel)) ggX6_play_X6_lacking
set_option maxRecDepth 20000 in
theorem ggX6_play_X6_missing : GoodIn wsX6_play wsX6_missing := goodIn_r _ [35, 14, 15, 16, 17, 8, 18, 19, 20, 21, 22, 23, 24, 25, 26, 27, 28, 29, 30, 31, 78, 79, 80, 81, 82, 83, 84, 85, 86, 87, 88, 89, 90, 91, 92, 93, 94, 95, 96, 97] (by decide +kernel) (by decide +kernel)
set_option maxRecDepth 20000 in
theorem gX6_play_X6_missing : GoodIn wsX6_play (wsV RX6 135 RX6 yX6_missing wsX6_missing) := goodIn_app (goodIn_of _ (by decide +kernel)) ggX6_play_X6_missing
set_option maxRecDepth 20000 in
theorem ggX6_play_X6_asking : GoodIn wsX6_play wsX6_asking := goodIn_r _ [39, 40, 41, 42, 43, 1, 44, 45, 46, 47, 48, 49, 8, 50, 51, 52, 53, 54, 55, 56, 57, 58, 31, 14, 21, 22, 23, 24, 25, 59, 60, 61, 62, 63, 20, 64, 65, 66, 67, 68, 69, 6, 7, 9, 15, 16, 17, 18, 19, 70, 71, 72, 73, 74, 75, 76, 77, 30, 78, 79, 80, 81, 82, 83, 84, 85, 86, 87, 88, 89, 90, 91, 92, 93, 94, 95, 96, 97] (by decide +kernel) (by decide +kernel)
set_option maxRecDepth 20000 in
theorem gX6_play_X6_asking : GoodIn wsX6_play (wsV RX6 110 RX6 yX6_asking wsX6_asking) := goodIn_app (goodIn_of _ (by decide +kernel)) ggX6_play_X6_asking
theorem dX6_play_0 : decode cX6_play 0 = .ok (.iload_n 3, 1) := by decide +kernel
theorem dX6_play_1 : decode cX6_play 1 = .ok (.iconst 1, 1) := by decide +kernel
theorem dX6_play_2 : decode cX6_play 2 = .ok (.sipush 300, 3) := by decide +kernel
theorem dX6_play_5 : decode cX6_play 5 = .ok (.invokestatic 66, 3) := by decide +kernel
theorem dX6_play_8 : decode cX6_play 8 = .ok (.ifCond .ne 5, 3) := by decide +kernel
theorem dX6_play_11 : decode cX6_play 11 = .ok (.iconst (-1), 1) := by decide +kernel
theorem dX6_play_12 : decode cX6_play 12 = .ok (.ireturn, 1) := by decide +kernel
theorem dX6_play_13 : decode cX6_play 13 = .ok (.aload_n 0, 1) := by decide +kernel
theorem dX6_play_14 : decode cX6_play 14 = .ok (.getfield 32, 3) := by decide +kernel
theorem dX6_play_17 : decode cX6_play 17 = .ok (.ifCond .ge 6, 3) := by decide +kernel
theorem dX6_play_20 : decode cX6_play 20 = .ok (.bipush (-3), 2) := by decide +kernel
theorem dX6_play_22 : decode cX6_play 22 = .ok (.ireturn, 1) := by decide +kernel
theorem dX6_play_23 : decode cX6_play 23 = .ok (.lload_n 1, 1) := by decide +kernel
theorem dX6_play_24 : decode cX6_play 24 = .ok (.lstore 4, 2) := by decide +kernel
theorem dX6_play_26 : decode cX6_play 26 = .ok (.iconst 0, 1) := by decide +kernel
theorem dX6_play_27 : decode cX6_play 27 = .ok (.istore 6, 2) := by decide +kernel
theorem dX6_play_29 : decode cX6_play 29 = .ok (.iconst 0, 1) := by decide +kernel
theorem dX6_play_30 : decode cX6_play 30 = .ok (.istore 7, 2) := by decide +kernel
theorem dX6_play_32 : decode cX6_play 32 = .ok (.iload 7, 2) := by decide +kernel
theorem dX6_play_34 : decode cX6_play 34 = .ok (.iload_n 3, 1) := by decide +kernel
theorem dX6_play_35 : decode cX6_play 35 = .ok (.if_icmp .ge 114, 3) := by decide +kernel
theorem dX6_play_38 : decode cX6_play 38 = .ok (.aload_n 0, 1) := by decide +kernel
theorem dX6_play_39 : decode cX6_play 39 = .ok (.invokevirtual 106, 3) := by decide +kernel
theorem dX6_play_42 : decode cX6_play 42 = .ok (.istore 8, 2) := by decide +kernel
theorem dX6_play_44 : decode cX6_play 44 = .ok (.aload_n 0, 1) := by decide +kernel
theorem dX6_play_45 : decode cX6_play 45 = .ok (.getfield 81, 3) := by decide +kernel
theorem dX6_play_48 : decode cX6_play 48 = .ok (.ifCond .eq 8, 3) := by decide +kernel
theorem dX6_play_51 : decode cX6_play 51 = .ok (.iload 8, 2) := by decide +kernel
theorem dX6_play_53 : decode cX6_play 53 = .ok (.ifCond .ne 6, 3) := by decide +kernel
theorem dX6_play_56 : decode cX6_play 56 = .ok (.iload 6, 2) := by decide +kernel
theorem dX6_play_58 : decode cX6_play 58 = .ok (.ireturn, 1) := by decide +kernel
theorem dX6_play_59 : decode cX6_play 59 = .ok (.lload 4, 2) := by decide +kernel
theorem dX6_play_61 : decode cX6_play 61 = .ok (.ldc2_w 130, 3) := by decide +kernel
theorem dX6_play_64 : decode cX6_play 64 = .ok (.lmul, 1) := by decide +kernel
theorem dX6_play_65 : decode cX6_play 65 = .ok (.ldc2_w 132, 3) := by decide +kernel
theorem dX6_play_68 : decode cX6_play 68 = .ok (.ladd, 1) := by decide +kernel
theorem dX6_play_69 : decode cX6_play 69 = .ok (.lstore 4, 2) := by decide +kernel
theorem dX6_play_71 : decode cX6_play 71 = .ok (.lload 4, 2) := by decide +kernel
theorem dX6_play_73 : decode cX6_play 73 = .ok (.bipush 32, 2) := by decide +kernel
theorem dX6_play_75 : decode cX6_play 75 = .ok (.lushr, 1) := by decide +kernel
theorem dX6_play_76 : decode cX6_play 76 = .ok (.l2i, 1) := by decide +kernel
theorem dX6_play_77 : decode cX6_play 77 = .ok (.ldc 134, 2) := by decide +kernel
theorem dX6_play_79 : decode cX6_play 79 = .ok (.iand, 1) := by decide +kernel
theorem dX6_play_80 : decode cX6_play 80 = .ok (.istore 9, 2) := by decide +kernel
theorem dX6_play_82 : decode cX6_play 82 = .ok (.aload_n 0, 1) := by decide +kernel
theorem dX6_play_83 : decode cX6_play 83 = .ok (.iload 9, 2) := by decide +kernel
theorem dX6_play_85 : decode cX6_play 85 = .ok (.bipush 16, 2) := by decide +kernel
theorem dX6_play_87 : decode cX6_play 87 = .ok (.idiv, 1) := by decide +kernel
theorem dX6_play_88 : decode cX6_play 88 = .ok (.iload 8, 2) := by decide +kernel
theorem dX6_play_90 : decode cX6_play 90 = .ok (.irem, 1) := by decide +kernel
theorem dX6_play_91 : decode cX6_play 91 = .ok (.invokevirtual 135, 3) := by decide +kernel
theorem dX6_play_94 : decode cX6_play 94 = .ok (.istore 10, 2) := by decide +kernel
theorem dX6_play_96 : decode cX6_play 96 = .ok (.iload 9, 2) := by decide +kernel
theorem dX6_play_98 : decode cX6_play 98 = .ok (.sipush 4096, 3) := by decide +kernel
theorem dX6_play_101 : decode cX6_play 101 = .ok (.idiv, 1) := by decide +kernel
theorem dX6_play_102 : decode cX6_play 102 = .ok (.iconst 2, 1) := by decide +kernel
theorem dX6_play_103 : decode cX6_play 103 = .ok (.irem, 1) := by decide +kernel
theorem dX6_play_104 : decode cX6_play 104 = .ok (.iconst 1, 1) := by decide +kernel
theorem dX6_play_105 : decode cX6_play 105 = .ok (.if_icmp .ne 13, 3) := by decide +kernel
theorem dX6_play_108 : decode cX6_play 108 = .ok (.iload 10, 2) := by decide +kernel
theorem dX6_play_110 : decode cX6_play 110 = .ok (.iconst 3, 1) := by decide +kernel
theorem dX6_play_111 : decode cX6_play 111 = .ok (.if_icmp .le 7, 3) := by decide +kernel
theorem dX6_play_114 : decode cX6_play 114 = .ok (.iconst 1, 1) := by decide +kernel
theorem dX6_play_115 : decode cX6_play 115 = .ok (.goto 4, 3) := by decide +kernel
theorem dX6_play_118 : decode cX6_play 118 = .ok (.iconst 0, 1) := by decide +kernel
theorem dX6_play_119 : decode cX6_play 119 = .ok (.istore 11, 2) := by decide +kernel
theorem dX6_play_121 : decode cX6_play 121 = .ok (.aload_n 0, 1) := by decide +kernel
theorem dX6_play_122 : decode cX6_play 122 = .ok (.iload 9, 2) := by decide +kernel
theorem dX6_play_124 : decode cX6_play 124 = .ok (.aload_n 0, 1) := by decide +kernel
theorem dX6_play_125 : decode cX6_play 125 = .ok (.getfield 81, 3) := by decide +kernel
theorem dX6_play_128 : decode cX6_play 128 = .ok (.irem, 1) := by decide +kernel
theorem dX6_play_129 : decode cX6_play 129 = .ok (.iload 10, 2) := by decide +kernel
theorem dX6_play_131 : decode cX6_play 131 = .ok (.iload 11, 2) := by decide +kernel
theorem dX6_play_133 : decode cX6_play 133 = .ok (.invokevirtual 110, 3) := by decide +kernel
theorem dX6_play_136 : decode cX6_play 136 = .ok (.iconst 1, 1) := by decide +kernel
theorem dX6_play_137 : decode cX6_play 137 = .ok (.if_icmp .ne 6, 3) := by decide +kernel
theorem dX6_play_140 : decode cX6_play 140 = .ok (.iinc 6 1, 3) := by decide +kernel
theorem dX6_play_143 : decode cX6_play 143 = .ok (.iinc 7 1, 3) := by decide +kernel
theorem dX6_play_146 : decode cX6_play 146 = .ok (.goto (-114), 3) := by decide +kernel
theorem dX6_play_149 : decode cX6_play 149 = .ok (.iload 6, 2) := by decide +kernel
theorem dX6_play_151 : decode cX6_play 151 = .ok (.ireturn, 1) := by decide +kernel
set_option maxRecDepth 20000 in
theorem ggX6_joined_X6_build : GoodIn wsX6_joined wsX6_build := goodIn_r _ [9, 10, 3, 11, 12, 8, 13, 14, 15, 16, 17, 18, 19, 20, 21, 22, 23, 24, 25, 26, 27, 28, 29, 30, 31, 32, 33, 34, 35] (by decide +kernel) (by decide +kernel)
set_option maxRecDepth 20000 in
theorem gX6_joined_X6_build : GoodIn wsX6_joined (wsV RX6 77 RX6 yX6_build wsX6_build) := goodIn_app (goodIn_of _ (by decide +kernel)) ggX6_joined_X6_build
theorem dX6_joined_0 : decode cX6_joined 0 = .ok (.aload_n 0, 1) := by decide +kernel
theorem dX6_joined_1 : decode cX6_joined 1 = .ok (.aload_n 0, 1) := by decide +kernel
theorem dX6_joined_2 : decode cX6_joined 2 = .ok (.getfield 36, 3) := by decide +kernel
theorem dX6_joined_5 : decode cX6_joined 5 = .ok (.invokevirtual 77, 3) := by decide +kernel
theorem dX6_joined_8 : decode cX6_joined 8 = .ok (.aload_n 0, 1) := by decide +kernel
theorem dX6_joined_9 : decode cX6_joined 9 = .ok (.getfield 32, 3) := by decide +kernel
theorem dX6_joined_12 : decode cX6_joined 12 = .ok (.ifCond .lt 23, 3) := by decide +kernel
theorem dX6_joined_15 : decode cX6_joined 15 = .ok (.aload_n 0, 1) := by decide +kernel
theorem dX6_joined_16 : decode cX6_joined 16 = .ok (.getfield 52, 3) := by decide +kernel
theorem dX6_joined_19 : decode cX6_joined 19 = .ok (.iconst 1, 1) := by decide +kernel
theorem dX6_joined_20 : decode cX6_joined 20 = .ok (.laload, 1) := by decide +kernel
theorem dX6_joined_21 : decode cX6_joined 21 = .ok (.aload_n 0, 1) := by decide +kernel
theorem dX6_joined_22 : decode cX6_joined 22 = .ok (.getfield 43, 3) := by decide +kernel
theorem dX6_joined_25 : decode cX6_joined 25 = .ok (.iconst 1, 1) := by decide +kernel
theorem dX6_joined_26 : decode cX6_joined 26 = .ok (.laload, 1) := by decide +kernel
theorem dX6_joined_27 : decode cX6_joined 27 = .ok (.lcmp, 1) := by decide +kernel
theorem dX6_joined_28 : decode cX6_joined 28 = .ok (.ifCond .ne 7, 3) := by decide +kernel
theorem dX6_joined_31 : decode cX6_joined 31 = .ok (.iconst 1, 1) := by decide +kernel
theorem dX6_joined_32 : decode cX6_joined 32 = .ok (.goto 4, 3) := by decide +kernel
theorem dX6_joined_35 : decode cX6_joined 35 = .ok (.iconst 0, 1) := by decide +kernel
theorem dX6_joined_36 : decode cX6_joined 36 = .ok (.ireturn, 1) := by decide +kernel
set_option maxRecDepth 20000 in
theorem ggX6_held_X6_in : GoodIn wsX6_held wsX6_in := goodIn_r _ [5] (by decide +kernel) (by decide +kernel)
set_option maxRecDepth 20000 in
theorem gX6_held_X6_in : GoodIn wsX6_held (va_wsS RX6 66 yX6_in wsX6_in) := goodIn_app (goodIn_of _ (by decide +kernel)) ggX6_held_X6_in
theorem dX6_held_0 : decode cX6_held 0 = .ok (.iload_n 1, 1) := by decide +kernel
theorem dX6_held_1 : decode cX6_held 1 = .ok (.iconst 0, 1) := by decide +kernel
theorem dX6_held_2 : decode cX6_held 2 = .ok (.bipush 63, 2) := by decide +kernel
theorem dX6_held_4 : decode cX6_held 4 = .ok (.invokestatic 66, 3) := by decide +kernel
theorem dX6_held_7 : decode cX6_held 7 = .ok (.ifCond .eq 12, 3) := by decide +kernel
theorem dX6_held_10 : decode cX6_held 10 = .ok (.aload_n 0, 1) := by decide +kernel
theorem dX6_held_11 : decode cX6_held 11 = .ok (.getfield 36, 3) := by decide +kernel
theorem dX6_held_14 : decode cX6_held 14 = .ok (.iload_n 1, 1) := by decide +kernel
theorem dX6_held_15 : decode cX6_held 15 = .ok (.laload, 1) := by decide +kernel
theorem dX6_held_16 : decode cX6_held 16 = .ok (.goto 4, 3) := by decide +kernel
theorem dX6_held_19 : decode cX6_held 19 = .ok (.lconst 0, 1) := by decide +kernel
theorem dX6_held_20 : decode cX6_held 20 = .ok (.lreturn, 1) := by decide +kernel
set_option maxRecDepth 20000 in
theorem ggX6_mine_X6_in : GoodIn wsX6_mine wsX6_in := goodIn_r _ [6] (by decide +kernel) (by decide +kernel)
set_option maxRecDepth 20000 in
theorem gX6_mine_X6_in : GoodIn wsX6_mine (va_wsS RX6 66 yX6_in wsX6_in) := goodIn_app (goodIn_of _ (by decide +kernel)) ggX6_mine_X6_in
set_option maxRecDepth 20000 in
theorem ggX6_mine_X6_build : GoodIn wsX6_mine wsX6_build := goodIn_r _ [10, 11, 2, 12, 13, 5, 14, 15, 16, 17, 18, 19, 20, 21, 22, 23, 24, 25, 26, 27, 28, 29, 30, 31, 32, 33, 34, 35, 36] (by decide +kernel) (by decide +kernel)
set_option maxRecDepth 20000 in
theorem gX6_mine_X6_build : GoodIn wsX6_mine (wsV RX6 77 RX6 yX6_build wsX6_build) := goodIn_app (goodIn_of _ (by decide +kernel)) ggX6_mine_X6_build
theorem dX6_mine_0 : decode cX6_mine 0 = .ok (.iload_n 1, 1) := by decide +kernel
theorem dX6_mine_1 : decode cX6_mine 1 = .ok (.iconst 1, 1) := by decide +kernel
theorem dX6_mine_2 : decode cX6_mine 2 = .ok (.bipush 127, 2) := by decide +kernel
theorem dX6_mine_4 : decode cX6_mine 4 = .ok (.invokestatic 66, 3) := by decide +kernel
theorem dX6_mine_7 : decode cX6_mine 7 = .ok (.ifCond .ne 5, 3) := by decide +kernel
theorem dX6_mine_10 : decode cX6_mine 10 = .ok (.lconst 0, 1) := by decide +kernel
theorem dX6_mine_11 : decode cX6_mine 11 = .ok (.lreturn, 1) := by decide +kernel
theorem dX6_mine_12 : decode cX6_mine 12 = .ok (.aload_n 0, 1) := by decide +kernel
theorem dX6_mine_13 : decode cX6_mine 13 = .ok (.aload_n 0, 1) := by decide +kernel
theorem dX6_mine_14 : decode cX6_mine 14 = .ok (.getfield 36, 3) := by decide +kernel
theorem dX6_mine_17 : decode cX6_mine 17 = .ok (.invokevirtual 77, 3) := by decide +kernel
theorem dX6_mine_20 : decode cX6_mine 20 = .ok (.aload_n 0, 1) := by decide +kernel
theorem dX6_mine_21 : decode cX6_mine 21 = .ok (.getfield 52, 3) := by decide +kernel
theorem dX6_mine_24 : decode cX6_mine 24 = .ok (.iload_n 1, 1) := by decide +kernel
theorem dX6_mine_25 : decode cX6_mine 25 = .ok (.laload, 1) := by decide +kernel
theorem dX6_mine_26 : decode cX6_mine 26 = .ok (.lreturn, 1) := by decide +kernel
set_option maxRecDepth 20000 in
theorem ggX6_rot_X6_in : GoodIn wsX6_rot wsX6_in := goodIn_r _ [5] (by decide +kernel) (by decide +kernel)
set_option maxRecDepth 20000 in
theorem gX6_rot_X6_in : GoodIn wsX6_rot (va_wsS RX6 66 yX6_in wsX6_in) := goodIn_app (goodIn_of _ (by decide +kernel)) ggX6_rot_X6_in
set_option maxRecDepth 20000 in
theorem ggX6_rot_X6_lacking : GoodIn wsX6_rot wsX6_lacking := goodIn_r _ [9, 1, 10, 11, 12, 4, 13, 14, 15, 16, 17, 18, 19, 20, 21, 22, 23, 24, 25, 26, 27, 28, 29, 30, 31, 32, 33, 34, 35, 36, 37, 38, 39, 40, 41, 42, 43, 44, 45, 46] (by decide +kernel) (by decide +kernel)
set_option maxRecDepth 20000 in
theorem gX6_rot_X6_lacking : GoodIn wsX6_rot (wsV RX6 106 RX6 yX6_lacking wsX6_lacking) := goodIn_app (goodIn_of _ (by decide +kernel)) ggX6_rot_X6_lacking
theorem dX6_rot_0 : decode cX6_rot 0 = .ok (.iload_n 1, 1) := by decide +kernel
theorem dX6_rot_1 : decode cX6_rot 1 = .ok (.iconst 0, 1) := by decide +kernel
theorem dX6_rot_2 : decode cX6_rot 2 = .ok (.bipush 63, 2) := by decide +kernel
theorem dX6_rot_4 : decode cX6_rot 4 = .ok (.invokestatic 66, 3) := by decide +kernel
theorem dX6_rot_7 : decode cX6_rot 7 = .ok (.ifCond .ne 5, 3) := by decide +kernel
theorem dX6_rot_10 : decode cX6_rot 10 = .ok (.iconst (-1), 1) := by decide +kernel
theorem dX6_rot_11 : decode cX6_rot 11 = .ok (.ireturn, 1) := by decide +kernel
theorem dX6_rot_12 : decode cX6_rot 12 = .ok (.aload_n 0, 1) := by decide +kernel
theorem dX6_rot_13 : decode cX6_rot 13 = .ok (.getfield 36, 3) := by decide +kernel
theorem dX6_rot_16 : decode cX6_rot 16 = .ok (.iload_n 1, 1) := by decide +kernel
theorem dX6_rot_17 : decode cX6_rot 17 = .ok (.lload_n 2, 1) := by decide +kernel
theorem dX6_rot_18 : decode cX6_rot 18 = .ok (.lastore, 1) := by decide +kernel
theorem dX6_rot_19 : decode cX6_rot 19 = .ok (.aload_n 0, 1) := by decide +kernel
theorem dX6_rot_20 : decode cX6_rot 20 = .ok (.invokevirtual 106, 3) := by decide +kernel
theorem dX6_rot_23 : decode cX6_rot 23 = .ok (.ireturn, 1) := by decide +kernel
set_option maxRecDepth 20000 in
theorem ggX6_cut_X6_lacking : GoodIn wsX6_cut wsX6_lacking := goodIn_r _ [7, 8, 9, 10, 11, 6, 12, 13, 14, 15, 16, 17, 18, 19, 20, 21, 22, 23, 2, 24, 25, 26, 27, 28, 29, 30, 31, 32, 33, 34, 35, 36, 37, 38, 39, 40, 41, 42, 43, 44] (by decide +kernel) (by decide +kernel)
set_option maxRecDepth 20000 in
theorem gX6_cut_X6_lacking : GoodIn wsX6_cut (wsV RX6 106 RX6 yX6_lacking wsX6_lacking) := goodIn_app (goodIn_of _ (by decide +kernel)) ggX6_cut_X6_lacking
theorem dX6_cut_0 : decode cX6_cut 0 = .ok (.aload_n 0, 1) := by decide +kernel
theorem dX6_cut_1 : decode cX6_cut 1 = .ok (.getfield 32, 3) := by decide +kernel
theorem dX6_cut_4 : decode cX6_cut 4 = .ok (.ifCond .ge 6, 3) := by decide +kernel
theorem dX6_cut_7 : decode cX6_cut 7 = .ok (.bipush (-3), 2) := by decide +kernel
theorem dX6_cut_9 : decode cX6_cut 9 = .ok (.ireturn, 1) := by decide +kernel
theorem dX6_cut_10 : decode cX6_cut 10 = .ok (.iconst 2, 1) := by decide +kernel
theorem dX6_cut_11 : decode cX6_cut 11 = .ok (.istore_n 1, 1) := by decide +kernel
theorem dX6_cut_12 : decode cX6_cut 12 = .ok (.iload_n 1, 1) := by decide +kernel
theorem dX6_cut_13 : decode cX6_cut 13 = .ok (.sipush 128, 3) := by decide +kernel
theorem dX6_cut_16 : decode cX6_cut 16 = .ok (.if_icmp .ge 16, 3) := by decide +kernel
theorem dX6_cut_19 : decode cX6_cut 19 = .ok (.aload_n 0, 1) := by decide +kernel
theorem dX6_cut_20 : decode cX6_cut 20 = .ok (.getfield 39, 3) := by decide +kernel
theorem dX6_cut_23 : decode cX6_cut 23 = .ok (.iload_n 1, 1) := by decide +kernel
theorem dX6_cut_24 : decode cX6_cut 24 = .ok (.iconst 0, 1) := by decide +kernel
theorem dX6_cut_25 : decode cX6_cut 25 = .ok (.bastore, 1) := by decide +kernel
theorem dX6_cut_26 : decode cX6_cut 26 = .ok (.iinc 1 1, 3) := by decide +kernel
theorem dX6_cut_29 : decode cX6_cut 29 = .ok (.goto (-17), 3) := by decide +kernel
theorem dX6_cut_32 : decode cX6_cut 32 = .ok (.aload_n 0, 1) := by decide +kernel
theorem dX6_cut_33 : decode cX6_cut 33 = .ok (.invokevirtual 106, 3) := by decide +kernel
theorem dX6_cut_36 : decode cX6_cut 36 = .ok (.ireturn, 1) := by decide +kernel
set_option maxRecDepth 20000 in
theorem ggX6_count_X6_lacking : GoodIn wsX6_count wsX6_lacking := goodIn_r _ [13, 7, 14, 15, 16, 12, 17, 18, 19, 20, 21, 22, 23, 24, 25, 26, 27, 28, 8, 29, 30, 31, 32, 33, 34, 35, 36, 37, 38, 39, 40, 41, 42, 43, 44, 45, 46, 47, 48, 49] (by decide +kernel) (by decide +kernel)
set_option maxRecDepth 20000 in
theorem gX6_count_X6_lacking : GoodIn wsX6_count (wsV RX6 106 RX6 yX6_lacking wsX6_lacking) := goodIn_app (goodIn_of _ (by decide +kernel)) ggX6_count_X6_lacking
theorem dX6_count_0 : decode cX6_count 0 = .ok (.iconst 0, 1) := by decide +kernel
theorem dX6_count_1 : decode cX6_count 1 = .ok (.istore_n 2, 1) := by decide +kernel
theorem dX6_count_2 : decode cX6_count 2 = .ok (.iload_n 1, 1) := by decide +kernel
theorem dX6_count_3 : decode cX6_count 3 = .ok (.tableswitch 153 0 8 #[49, 54, 59, 64, 69, 74, 79, 84, 119], 49) := by decide +kernel
theorem dX6_count_52 : decode cX6_count 52 = .ok (.aload_n 0, 1) := by decide +kernel
theorem dX6_count_53 : decode cX6_count 53 = .ok (.getfield 70, 3) := by decide +kernel
theorem dX6_count_56 : decode cX6_count 56 = .ok (.ireturn, 1) := by decide +kernel
theorem dX6_count_57 : decode cX6_count 57 = .ok (.aload_n 0, 1) := by decide +kernel
theorem dX6_count_58 : decode cX6_count 58 = .ok (.getfield 81, 3) := by decide +kernel
theorem dX6_count_61 : decode cX6_count 61 = .ok (.ireturn, 1) := by decide +kernel
theorem dX6_count_62 : decode cX6_count 62 = .ok (.aload_n 0, 1) := by decide +kernel
theorem dX6_count_63 : decode cX6_count 63 = .ok (.getfield 32, 3) := by decide +kernel
theorem dX6_count_66 : decode cX6_count 66 = .ok (.ireturn, 1) := by decide +kernel
theorem dX6_count_67 : decode cX6_count 67 = .ok (.aload_n 0, 1) := by decide +kernel
theorem dX6_count_68 : decode cX6_count 68 = .ok (.invokevirtual 106, 3) := by decide +kernel
theorem dX6_count_71 : decode cX6_count 71 = .ok (.ireturn, 1) := by decide +kernel
theorem dX6_count_72 : decode cX6_count 72 = .ok (.aload_n 0, 1) := by decide +kernel
theorem dX6_count_73 : decode cX6_count 73 = .ok (.getfield 127, 3) := by decide +kernel
theorem dX6_count_76 : decode cX6_count 76 = .ok (.ireturn, 1) := by decide +kernel
theorem dX6_count_77 : decode cX6_count 77 = .ok (.aload_n 0, 1) := by decide +kernel
theorem dX6_count_78 : decode cX6_count 78 = .ok (.getfield 114, 3) := by decide +kernel
theorem dX6_count_81 : decode cX6_count 81 = .ok (.ireturn, 1) := by decide +kernel
theorem dX6_count_82 : decode cX6_count 82 = .ok (.aload_n 0, 1) := by decide +kernel
theorem dX6_count_83 : decode cX6_count 83 = .ok (.getfield 84, 3) := by decide +kernel
theorem dX6_count_86 : decode cX6_count 86 = .ok (.ireturn, 1) := by decide +kernel
theorem dX6_count_87 : decode cX6_count 87 = .ok (.iconst 0, 1) := by decide +kernel
theorem dX6_count_88 : decode cX6_count 88 = .ok (.istore_n 3, 1) := by decide +kernel
theorem dX6_count_89 : decode cX6_count 89 = .ok (.iload_n 3, 1) := by decide +kernel
theorem dX6_count_90 : decode cX6_count 90 = .ok (.bipush 64, 2) := by decide +kernel
theorem dX6_count_92 : decode cX6_count 92 = .ok (.if_icmp .ge 28, 3) := by decide +kernel
theorem dX6_count_95 : decode cX6_count 95 = .ok (.aload_n 0, 1) := by decide +kernel
theorem dX6_count_96 : decode cX6_count 96 = .ok (.getfield 36, 3) := by decide +kernel
theorem dX6_count_99 : decode cX6_count 99 = .ok (.iload_n 3, 1) := by decide +kernel
theorem dX6_count_100 : decode cX6_count 100 = .ok (.laload, 1) := by decide +kernel
theorem dX6_count_101 : decode cX6_count 101 = .ok (.lconst 0, 1) := by decide +kernel
theorem dX6_count_102 : decode cX6_count 102 = .ok (.lcmp, 1) := by decide +kernel
theorem dX6_count_103 : decode cX6_count 103 = .ok (.ifCond .eq 9, 3) := by decide +kernel
theorem dX6_count_106 : decode cX6_count 106 = .ok (.iload_n 2, 1) := by decide +kernel
theorem dX6_count_107 : decode cX6_count 107 = .ok (.iconst 1, 1) := by decide +kernel
theorem dX6_count_108 : decode cX6_count 108 = .ok (.iadd, 1) := by decide +kernel
theorem dX6_count_109 : decode cX6_count 109 = .ok (.goto 4, 3) := by decide +kernel
theorem dX6_count_112 : decode cX6_count 112 = .ok (.iload_n 2, 1) := by decide +kernel
theorem dX6_count_113 : decode cX6_count 113 = .ok (.istore_n 2, 1) := by decide +kernel
theorem dX6_count_114 : decode cX6_count 114 = .ok (.iinc 3 1, 3) := by decide +kernel
theorem dX6_count_117 : decode cX6_count 117 = .ok (.goto (-28), 3) := by decide +kernel
theorem dX6_count_120 : decode cX6_count 120 = .ok (.iload_n 2, 1) := by decide +kernel
theorem dX6_count_121 : decode cX6_count 121 = .ok (.ireturn, 1) := by decide +kernel
theorem dX6_count_122 : decode cX6_count 122 = .ok (.iconst 1, 1) := by decide +kernel
theorem dX6_count_123 : decode cX6_count 123 = .ok (.istore_n 3, 1) := by decide +kernel
theorem dX6_count_124 : decode cX6_count 124 = .ok (.iload_n 3, 1) := by decide +kernel
theorem dX6_count_125 : decode cX6_count 125 = .ok (.sipush 128, 3) := by decide +kernel
theorem dX6_count_128 : decode cX6_count 128 = .ok (.if_icmp .ge 26, 3) := by decide +kernel
theorem dX6_count_131 : decode cX6_count 131 = .ok (.aload_n 0, 1) := by decide +kernel
theorem dX6_count_132 : decode cX6_count 132 = .ok (.getfield 39, 3) := by decide +kernel
theorem dX6_count_135 : decode cX6_count 135 = .ok (.iload_n 3, 1) := by decide +kernel
theorem dX6_count_136 : decode cX6_count 136 = .ok (.baload, 1) := by decide +kernel
theorem dX6_count_137 : decode cX6_count 137 = .ok (.ifCond .eq 9, 3) := by decide +kernel
theorem dX6_count_140 : decode cX6_count 140 = .ok (.iload_n 2, 1) := by decide +kernel
theorem dX6_count_141 : decode cX6_count 141 = .ok (.iconst 1, 1) := by decide +kernel
theorem dX6_count_142 : decode cX6_count 142 = .ok (.iadd, 1) := by decide +kernel
theorem dX6_count_143 : decode cX6_count 143 = .ok (.goto 4, 3) := by decide +kernel
theorem dX6_count_146 : decode cX6_count 146 = .ok (.iload_n 2, 1) := by decide +kernel
theorem dX6_count_147 : decode cX6_count 147 = .ok (.istore_n 2, 1) := by decide +kernel
theorem dX6_count_148 : decode cX6_count 148 = .ok (.iinc 3 1, 3) := by decide +kernel
theorem dX6_count_151 : decode cX6_count 151 = .ok (.goto (-27), 3) := by decide +kernel
theorem dX6_count_154 : decode cX6_count 154 = .ok (.iload_n 2, 1) := by decide +kernel
theorem dX6_count_155 : decode cX6_count 155 = .ok (.ireturn, 1) := by decide +kernel
theorem dX6_count_156 : decode cX6_count 156 = .ok (.iconst (-1), 1) := by decide +kernel
theorem dX6_count_157 : decode cX6_count 157 = .ok (.ireturn, 1) := by decide +kernel
theorem dJ9_max_7cf53_0 : decode cJ9_max_7cf53 0 = .ok (.iload_n 0, 1) := by decide +kernel
theorem dJ9_max_7cf53_1 : decode cJ9_max_7cf53 1 = .ok (.iload_n 1, 1) := by decide +kernel
theorem dJ9_max_7cf53_2 : decode cJ9_max_7cf53 2 = .ok (.if_icmp .lt 7, 3) := by decide +kernel
theorem dJ9_max_7cf53_5 : decode cJ9_max_7cf53 5 = .ok (.iload_n 0, 1) := by decide +kernel
theorem dJ9_max_7cf53_6 : decode cJ9_max_7cf53 6 = .ok (.goto 4, 3) := by decide +kernel
theorem dJ9_max_7cf53_9 : decode cJ9_max_7cf53 9 = .ok (.iload_n 1, 1) := by decide +kernel
theorem dJ9_max_7cf53_10 : decode cJ9_max_7cf53 10 = .ok (.ireturn, 1) := by decide +kernel
theorem dJ9_min_7cf53_0 : decode cJ9_min_7cf53 0 = .ok (.iload_n 0, 1) := by decide +kernel
theorem dJ9_min_7cf53_1 : decode cJ9_min_7cf53 1 = .ok (.iload_n 1, 1) := by decide +kernel
theorem dJ9_min_7cf53_2 : decode cJ9_min_7cf53 2 = .ok (.if_icmp .gt 7, 3) := by decide +kernel
theorem dJ9_min_7cf53_5 : decode cJ9_min_7cf53 5 = .ok (.iload_n 0, 1) := by decide +kernel
theorem dJ9_min_7cf53_6 : decode cJ9_min_7cf53 6 = .ok (.goto 4, 3) := by decide +kernel
theorem dJ9_min_7cf53_9 : decode cJ9_min_7cf53 9 = .ok (.iload_n 1, 1) := by decide +kernel
theorem dJ9_min_7cf53_10 : decode cJ9_min_7cf53 10 = .ok (.ireturn, 1) := by decide +kernel
end
section
/-! BASE: words for functions read off the bytecode, and one row a call. Own work. -/
def FU : Nat := 4096
def kb {α : Type} (b : Bool) (k : Option α) : Option α := if b = true then k else none
theorem kb_e {α : Type} {b : Bool} {k : Option α} {u : α} (h : kb b k = some u) : b = true ∧ k = some u := by
  unfold kb at h
  by_cases hb : b = true
  · rw [if_pos hb] at h
    exact ⟨hb, h⟩
  · rw [if_neg hb] at h
    cases h
theorem kb_t {α : Type} {b : Bool} {k : Option α} (h : b = true) : kb b k = k := by
  unfold kb
  rw [if_pos h]
def ib (i : Int32) (n : Nat) : Bool := decide (0 ≤ i.toInt ∧ i.toInt < (n : Int))
theorem ib_in {i : Int32} {n : Nat} (h : ib i n = true) : vp_in i n := vp_in_iff.mpr (of_decide_eq_true h)
theorem ib_nI {j n : Nat} (h : j < n) (hn : n < 2 ^ 31) : ib (nI j) n = true := by
  unfold ib
  rw [nI_toInt (by omega)]
  exact decide_eq_true (by omega)
def kz (y : Int32) : Bool := decide (¬ y = 0)
theorem kz_e {y : Int32} (h : kz y = true) : ¬ y = 0 := of_decide_eq_true h
theorem ie_t {α : Type} {c : Prop} {i : Decidable c} {A B u : α} (hc : c) (h : @ite α c i A B = u) : A = u := by
  rw [if_pos hc] at h
  exact h
theorem ie_f {α : Type} {c : Prop} {i : Decidable c} {A B u : α} (hc : ¬ c) (h : @ite α c i A B = u) : B = u := by
  rw [if_neg hc] at h
  exact h
theorem bd_e {α β : Type} {x : Option α} {k : α → Option β} {u : β} (h : x.bind k = some u) : ∃ a, x = some a ∧ k a = some u := by
  cases x with
  | none => cases h
  | some a => exact ⟨a, rfl, h⟩
theorem lgz {x y : Int64} : lg_cmp x y = 0 ↔ x = y := by
  unfold lg_cmp
  by_cases h1 : x > y
  · rw [if_pos h1]
    constructor
    · intro h; exact absurd h (by decide)
    · intro h; subst h; exact absurd h1 (by simp)
  · rw [if_neg h1]
    by_cases h2 : x = y
    · rw [if_pos h2]; exact ⟨fun _ => h2, fun _ => rfl⟩
    · rw [if_neg h2]
      constructor
      · intro h; exact absurd h (by decide)
      · intro h; exact absurd h h2
theorem lgz_t {x y : Int64} (h : lg_cmp x y = 0) : x = y := lgz.mp h
theorem lgz_f {x y : Int64} (h : ¬ lg_cmp x y = 0) : ¬ x = y := fun z => h (lgz.mpr z)
abbrev cPre (D : va_G) (cl : List vw_C) (tys : List (ClassId × FieldType)) (av : List Value) (w : va_W) (sz : Nat) : Array Value → State → Prop :=
  va_Pc av (fun U => U.heap.size = sz ∧ va_P D cl w U.heap ∧ va_K D cl tys U ∧ va_D (fun _ => True) w)
abbrev cB (D : va_G) (cl : List vw_C) (tys : List (ClassId × FieldType)) (A : Nat → Prop) (w : va_W) (t : State) : Prop :=
  va_P D cl w t.heap ∧ va_K D cl tys t ∧ va_D A w
theorem cPre_blind {D : va_G} {cl : List vw_C} {tys : List (ClassId × FieldType)} {av : List Value} {w : va_W} {sz : Nat} : FrameBlind (cPre D cl tys av w sz) := by
  intro a U g mk q
  obtain ⟨q0, q1, qP, qK, qD⟩ := q
  exact ⟨q0, q1, qP, va_K.moved (u := U) (U := U.calling g mk a) (Vm.Alike.refl U.vm) qK, qD⟩
theorem cPre_in {D : va_G} {cl : List vw_C} {tys : List (ClassId × FieldType)} {av : List Value} {ws wc : va_W} {s : State} {H : Heap} {A : Nat → Prop} (hP : va_P D cl ws H) (hD : va_D A ws) (hK : va_K D cl tys s) (isC : List Nat) (hf : isC.filterMap (fun i => ws[i]?) = wc) (hn : va_nd isC = true) (hC : isC.map (fun i => ws[i]?) = wc.map some) :
    ∀ U : State, U.heap = H → s.WarmedH U.vm → cPre D cl tys av wc H.size av.toArray U := by
  intro U hU hW
  refine ⟨rfl, by rw [hU], by rw [hU]; exact hP.sub isC hf, va_K.moved hW.alike hK, (hD.sub isC hn hC).weaken (fun _ _ _ _ => trivial)⟩
section CC
variable {p : Program} {l : Launch} {e : Env} {R : Room} {s : State} {m : MethodId} {args : Array Value} {below : List Frame} {meth : Method} {c : Code} {H : Heap} {locs : List Loc} {cells slots : Nat} {Q : State → Prop} {pc : Nat} {ls : Array Slot} {rest st0 : List Value} {a : Array Value} {A0 : Nat → Prop} {H0 : Heap} {mc ms : Nat} {D : va_G} {cl : List vw_C} {tys : List (ClassId × FieldType)} {ws : va_W}
theorem cc_i {v : Int32} (wc wr w1 ws' : va_W) (hP : va_P D cl ws H) (hD : va_D A0 ws) (hS : va_S A0 H0 H locs) (hA : ∀ q, H0.size ≤ q → A0 q) (isC isR pm : List Nat) (hC : isC.map (fun i => ws[i]?) = wc.map some) (hR : isR.map (fun i => ws[i]?) = wr.map some) (hn : va_nd isR = true) (hdis : ∀ i ∈ isR, i ∉ isC) (hpf : pm.filterMap (fun i => (wr ++ w1)[i]?) = ws') (hpn : va_nd pm = true) (hpm : pm.map (fun i => (wr ++ w1)[i]?) = ws'.map some)
    (hr : va_Run p l e R s m args below meth c H locs cells slots mc ms (F0 m pc ls st0) rest (va_Qi (fun (r : Int32) (_ : Unit) => r = v) (fun _ t => cB D cl tys (va_A wc H.size) w1 t) (va_A wc H.size) a) (va_A wc H.size))
    (kk : ∀ (H1 : Heap) (locs1 : List Loc), va_P D cl ws' H1 → va_D A0 ws' → va_S A0 H0 H1 locs1 → W p l e R s m args below meth c H1 locs1 (cells + mc) (slots + ms) Q (F0 m (pc + 3) ls (.int v :: rest))) : W p l e R s m args below meth c H locs cells slots Q (F0 m pc ls st0) := by
  have hFc := va_free (wc := wc) hD hS hA isC hC
  refine va_calli hr hS (fun q _ h => hFc q h) hFc (fun r u t H1 locs1 ht hvm hw hB hz1 hk1 hS1 => ?_)
  subst hw
  obtain ⟨hP1, hK1, hD1⟩ := hB
  rw [ht] at hP1
  obtain ⟨hP2, hD2⟩ := va_join hP hD isC isR hC hR hn hdis hk1 hFc hP1 hD1
  exact kk H1 locs1 (hP2.sub pm hpf) (hD2.sub pm hpn hpm) hS1
theorem cc_l {v : Int64} (wc wr w1 ws' : va_W) (hP : va_P D cl ws H) (hD : va_D A0 ws) (hS : va_S A0 H0 H locs) (hA : ∀ q, H0.size ≤ q → A0 q) (isC isR pm : List Nat) (hC : isC.map (fun i => ws[i]?) = wc.map some) (hR : isR.map (fun i => ws[i]?) = wr.map some) (hn : va_nd isR = true) (hdis : ∀ i ∈ isR, i ∉ isC) (hpf : pm.filterMap (fun i => (wr ++ w1)[i]?) = ws') (hpn : va_nd pm = true) (hpm : pm.map (fun i => (wr ++ w1)[i]?) = ws'.map some)
    (hr : va_Run p l e R s m args below meth c H locs cells slots mc ms (F0 m pc ls st0) rest (va_Ql (fun (r : Int64) (_ : Unit) => r = v) (fun _ t => cB D cl tys (va_A wc H.size) w1 t) (va_A wc H.size) a) (va_A wc H.size))
    (kk : ∀ (H1 : Heap) (locs1 : List Loc), va_P D cl ws' H1 → va_D A0 ws' → va_S A0 H0 H1 locs1 → W p l e R s m args below meth c H1 locs1 (cells + mc) (slots + ms) Q (F0 m (pc + 3) ls (.long v :: rest))) : W p l e R s m args below meth c H locs cells slots Q (F0 m pc ls st0) := by
  have hFc := va_free (wc := wc) hD hS hA isC hC
  refine va_calll hr hS (fun q _ h => hFc q h) hFc (fun r u t H1 locs1 ht hvm hw hB hz1 hk1 hS1 => ?_)
  subst hw
  obtain ⟨hP1, hK1, hD1⟩ := hB
  rw [ht] at hP1
  obtain ⟨hP2, hD2⟩ := va_join hP hD isC isR hC hR hn hdis hk1 hFc hP1 hD1
  exact kk H1 locs1 (hP2.sub pm hpf) (hD2.sub pm hpn hpm) hS1
theorem cc_v (wc wr w1 ws' : va_W) (hP : va_P D cl ws H) (hD : va_D A0 ws) (hS : va_S A0 H0 H locs) (hA : ∀ q, H0.size ≤ q → A0 q) (isC isR pm : List Nat) (hC : isC.map (fun i => ws[i]?) = wc.map some) (hR : isR.map (fun i => ws[i]?) = wr.map some) (hn : va_nd isR = true) (hdis : ∀ i ∈ isR, i ∉ isC) (hpf : pm.filterMap (fun i => (wr ++ w1)[i]?) = ws') (hpn : va_nd pm = true) (hpm : pm.map (fun i => (wr ++ w1)[i]?) = ws'.map some)
    (hr : va_Run p l e R s m args below meth c H locs cells slots mc ms (F0 m pc ls st0) rest (va_Qv (fun (_ : Unit) => True) (fun _ t => cB D cl tys (va_A wc H.size) w1 t) (va_A wc H.size) a) (va_A wc H.size))
    (kk : ∀ (H1 : Heap) (locs1 : List Loc), va_P D cl ws' H1 → va_D A0 ws' → va_S A0 H0 H1 locs1 → W p l e R s m args below meth c H1 locs1 (cells + mc) (slots + ms) Q (F0 m (pc + 3) ls rest)) : W p l e R s m args below meth c H locs cells slots Q (F0 m pc ls st0) := by
  have hFc := va_free (wc := wc) hD hS hA isC hC
  refine va_callv hr hS (fun q _ h => hFc q h) hFc (fun u t H1 locs1 ht hvm hw hB hz1 hk1 hS1 => ?_)
  obtain ⟨hP1, hK1, hD1⟩ := hB
  rw [ht] at hP1
  obtain ⟨hP2, hD2⟩ := va_join hP hD isC isR hC hR hn hdis hk1 hFc hP1 hD1
  exact kk H1 locs1 (hP2.sub pm hpf) (hD2.sub pm hpn hpm) hS1
end CC
abbrev TY (cI cJ cZ : ClassId) : List (ClassId × FieldType) := [(cI, .int), (cJ, .long), (cZ, .boolean)]
end
section
abbrev S_Tree : Type := (Nat → Int64) × (Nat → Int64)
abbrev S_Source : Type := (Nat → Int32) × (Nat → Int64) × Int32
abbrev S_Givers : Type := (Nat → Int32) × (Nat → Int32) × (Nat → Int32) × (Nat → Int32) × (Nat → Int32) × Int32 × Int32 × Int32
abbrev S_Piece : Type := S_Tree × Int32 × Int32 × Int64 × Int64 × Int32
abbrev S_Joiner : Type := S_Tree × S_Tree × S_Tree × (Nat → Int32) × (Nat → Int64) × (Nat → Int32) × Int32 × Int32
abbrev S_SP : Type := S_Source × S_Givers × S_Joiner × S_Piece × S_Tree × Int32
abbrev S_Mod : Type := (Nat → Int32) × (Nat → Int64) × Int32 × (Nat → Int32) × (Nat → Int32) × (Nat → Int32) × (Nat → Int32) × (Nat → Int32) × Int32 × Int32 × Int32 × (Nat → Int64) × (Nat → Int32) × (Nat → Int64) × Int32 × Int32 × (Nat → Int64) × (Nat → Int64) × (Nat → Int64) × (Nat → Int32)
end
section
def f_X4_isPath (x0 : Int32) : Option (Int32) := if x0 < 0 then (some 0) else (if 64 ≤ x0 then (some 0) else (some 1))
set_option maxHeartbeats 4000000 in
set_option maxRecDepth 100000 in
theorem k_X4_isPath (l : Launch) (dC : Nat → ClassId) (dI : Nat → Nat → Nat) (cI cJ cZ : ClassId) (x0 : Int32) (u : Int32) (hf : f_X4_isPath x0 = some u) (sz : Nat) : Met l yX4_isPath wsX4_isPath ({ frames := 0, cells := 0, slots := 0, locals := 0 }) (cPre (dC, dI) vwCl (TY cI cJ cZ) [.int x0] ([] : va_W) sz) (va_Qi (fun (r : Int32) (_ : Unit) => r = u) (fun _ t => cB (dC, dI) vwCl (TY cI cJ cZ) (va_A ([] : va_W) sz) ([] : va_W) t) (va_A ([] : va_W) sz)) 0 0 (va_A ([] : va_W) sz) := by
  refine Met.ofW (cc := cX4_isPath) (maxL := 1) (ret := (some .boolean)) (by decide) rfl ?_
  intro p e s m args below meth c s₁ B hml hv
  obtain ⟨rfl, hsz, hP, hK, hD0⟩ := hv
  have hx := B.exec
  have hb := B.bytes
  have hr := B.returns
  have hts := atoms_spec (ws := wsX4_isPath) B.pre
  have hown : s.vm.findClass RX4 = some m.cls := findClass_of_methodNamed B.named
  have hlocks := B.notSynchronized
  subst hsz
  have hD := hD0.self (sz := s.heap.size)
  generalize hAe : va_A ([] : va_W) s.heap.size = A at hD ⊢
  have hA : ∀ q : Nat, s.heap.size ≤ q → A q := fun q h => by rw [← hAe]; exact Or.inr h
  have hS : va_S A s.heap s.heap [] := va_S.rf
  have hl := lv_entry ([.int x0]) (n := 1) (Nat.le_of_ble_eq_true rfl)
  rw [lg_entry_eq]
  generalize (lg_sl ([.int x0]) ++ List.replicate (1 - (lg_sl ([.int x0])).length) Slot.unset).toArray = ls at hl ⊢
  have hl : lv_has ls 1 [(0, .int x0)] := hl
  have h := hf
  unfold f_X4_isPath at h
  refine lv_iload_n hx hb dX4_isPath_0 rfl (lv_at hl 0 rfl) ?_
  refine lv_if_lt (tgt := 14) hx hb dX4_isPath_1 (by decide) (fun c1 => ?_) (fun c1 => ?_)
  · have h := ie_t c1 h
    refine lv_iconst (v := 0) hx hb dX4_isPath_14 (by decide) ?_
    obtain rfl := Option.some.inj h
    exact W.zret (v := 0) hx hb hr rfl (fun t ht hW => ⟨⟨_, (), rfl, rfl, by rw [ht]; exact hP, va_K.moved hW.alike hK, hD⟩, hS.F ht⟩) hS.2.2 dX4_isPath_15
  · have h := ie_f c1 h
    refine lv_iload_n hx hb dX4_isPath_4 rfl (lv_at hl 0 rfl) ?_
    refine lv_bipush (v := 64) hx hb dX4_isPath_5 (by decide) ?_
    refine lv_icmp_ge (tgt := 14) hx hb dX4_isPath_7 (by decide) (fun c2 => ?_) (fun c2 => ?_)
    · have h := ie_t c2 h
      refine lv_iconst (v := 0) hx hb dX4_isPath_14 (by decide) ?_
      obtain rfl := Option.some.inj h
      exact W.zret (v := 0) hx hb hr rfl (fun t ht hW => ⟨⟨_, (), rfl, rfl, by rw [ht]; exact hP, va_K.moved hW.alike hK, hD⟩, hS.F ht⟩) hS.2.2 dX4_isPath_15
    · have h := ie_f c2 h
      refine lv_iconst (v := 1) hx hb dX4_isPath_10 (by decide) ?_
      refine lv_goto (tgt := 15) hx hb dX4_isPath_11 (by decide) ?_
      obtain rfl := Option.some.inj h
      exact W.zret (v := 1) hx hb hr rfl (fun t ht hW => ⟨⟨_, (), rfl, rfl, by rw [ht]; exact hP, va_K.moved hW.alike hK, hD⟩, hS.F ht⟩) hS.2.2 dX4_isPath_15
def f_X4_isNode (x0 : Int32) : Option (Int32) := if x0 < 1 then (some 0) else (if 128 ≤ x0 then (some 0) else (some 1))
set_option maxHeartbeats 4000000 in
set_option maxRecDepth 100000 in
theorem k_X4_isNode (l : Launch) (dC : Nat → ClassId) (dI : Nat → Nat → Nat) (cI cJ cZ : ClassId) (x0 : Int32) (u : Int32) (hf : f_X4_isNode x0 = some u) (sz : Nat) : Met l yX4_isNode wsX4_isNode ({ frames := 0, cells := 0, slots := 0, locals := 0 }) (cPre (dC, dI) vwCl (TY cI cJ cZ) [.int x0] ([] : va_W) sz) (va_Qi (fun (r : Int32) (_ : Unit) => r = u) (fun _ t => cB (dC, dI) vwCl (TY cI cJ cZ) (va_A ([] : va_W) sz) ([] : va_W) t) (va_A ([] : va_W) sz)) 0 0 (va_A ([] : va_W) sz) := by
  refine Met.ofW (cc := cX4_isNode) (maxL := 1) (ret := (some .boolean)) (by decide) rfl ?_
  intro p e s m args below meth c s₁ B hml hv
  obtain ⟨rfl, hsz, hP, hK, hD0⟩ := hv
  have hx := B.exec
  have hb := B.bytes
  have hr := B.returns
  have hts := atoms_spec (ws := wsX4_isNode) B.pre
  have hown : s.vm.findClass RX4 = some m.cls := findClass_of_methodNamed B.named
  have hlocks := B.notSynchronized
  subst hsz
  have hD := hD0.self (sz := s.heap.size)
  generalize hAe : va_A ([] : va_W) s.heap.size = A at hD ⊢
  have hA : ∀ q : Nat, s.heap.size ≤ q → A q := fun q h => by rw [← hAe]; exact Or.inr h
  have hS : va_S A s.heap s.heap [] := va_S.rf
  have hl := lv_entry ([.int x0]) (n := 1) (Nat.le_of_ble_eq_true rfl)
  rw [lg_entry_eq]
  generalize (lg_sl ([.int x0]) ++ List.replicate (1 - (lg_sl ([.int x0])).length) Slot.unset).toArray = ls at hl ⊢
  have hl : lv_has ls 1 [(0, .int x0)] := hl
  have h := hf
  unfold f_X4_isNode at h
  refine lv_iload_n hx hb dX4_isNode_0 rfl (lv_at hl 0 rfl) ?_
  refine lv_iconst (v := 1) hx hb dX4_isNode_1 (by decide) ?_
  refine lv_icmp_lt (tgt := 16) hx hb dX4_isNode_2 (by decide) (fun c1 => ?_) (fun c1 => ?_)
  · have h := ie_t c1 h
    refine lv_iconst (v := 0) hx hb dX4_isNode_16 (by decide) ?_
    obtain rfl := Option.some.inj h
    exact W.zret (v := 0) hx hb hr rfl (fun t ht hW => ⟨⟨_, (), rfl, rfl, by rw [ht]; exact hP, va_K.moved hW.alike hK, hD⟩, hS.F ht⟩) hS.2.2 dX4_isNode_17
  · have h := ie_f c1 h
    refine lv_iload_n hx hb dX4_isNode_5 rfl (lv_at hl 0 rfl) ?_
    refine lv_sipush (v := 128) hx hb dX4_isNode_6 (by decide) ?_
    refine lv_icmp_ge (tgt := 16) hx hb dX4_isNode_9 (by decide) (fun c2 => ?_) (fun c2 => ?_)
    · have h := ie_t c2 h
      refine lv_iconst (v := 0) hx hb dX4_isNode_16 (by decide) ?_
      obtain rfl := Option.some.inj h
      exact W.zret (v := 0) hx hb hr rfl (fun t ht hW => ⟨⟨_, (), rfl, rfl, by rw [ht]; exact hP, va_K.moved hW.alike hK, hD⟩, hS.F ht⟩) hS.2.2 dX4_isNode_17
    · have h := ie_f c2 h
      refine lv_iconst (v := 1) hx hb dX4_isNode_12 (by decide) ?_
      refine lv_goto (tgt := 17) hx hb dX4_isNode_13 (by decide) ?_
      obtain rfl := Option.some.inj h
      exact W.zret (v := 1) hx hb hr rfl (fun t ht hW => ⟨⟨_, (), rfl, rfl, by rw [ht]; exact hP, va_K.moved hW.alike hK, hD⟩, hS.F ht⟩) hS.2.2 dX4_isNode_17
def f_X4_isLeaf (x0 : Int32) : Option (Int32) := if x0 < 64 then (some 0) else (if 128 ≤ x0 then (some 0) else (some 1))
set_option maxHeartbeats 4000000 in
set_option maxRecDepth 100000 in
theorem k_X4_isLeaf (l : Launch) (dC : Nat → ClassId) (dI : Nat → Nat → Nat) (cI cJ cZ : ClassId) (x0 : Int32) (u : Int32) (hf : f_X4_isLeaf x0 = some u) (sz : Nat) : Met l yX4_isLeaf wsX4_isLeaf ({ frames := 0, cells := 0, slots := 0, locals := 0 }) (cPre (dC, dI) vwCl (TY cI cJ cZ) [.int x0] ([] : va_W) sz) (va_Qi (fun (r : Int32) (_ : Unit) => r = u) (fun _ t => cB (dC, dI) vwCl (TY cI cJ cZ) (va_A ([] : va_W) sz) ([] : va_W) t) (va_A ([] : va_W) sz)) 0 0 (va_A ([] : va_W) sz) := by
  refine Met.ofW (cc := cX4_isLeaf) (maxL := 1) (ret := (some .boolean)) (by decide) rfl ?_
  intro p e s m args below meth c s₁ B hml hv
  obtain ⟨rfl, hsz, hP, hK, hD0⟩ := hv
  have hx := B.exec
  have hb := B.bytes
  have hr := B.returns
  have hts := atoms_spec (ws := wsX4_isLeaf) B.pre
  have hown : s.vm.findClass RX4 = some m.cls := findClass_of_methodNamed B.named
  have hlocks := B.notSynchronized
  subst hsz
  have hD := hD0.self (sz := s.heap.size)
  generalize hAe : va_A ([] : va_W) s.heap.size = A at hD ⊢
  have hA : ∀ q : Nat, s.heap.size ≤ q → A q := fun q h => by rw [← hAe]; exact Or.inr h
  have hS : va_S A s.heap s.heap [] := va_S.rf
  have hl := lv_entry ([.int x0]) (n := 1) (Nat.le_of_ble_eq_true rfl)
  rw [lg_entry_eq]
  generalize (lg_sl ([.int x0]) ++ List.replicate (1 - (lg_sl ([.int x0])).length) Slot.unset).toArray = ls at hl ⊢
  have hl : lv_has ls 1 [(0, .int x0)] := hl
  have h := hf
  unfold f_X4_isLeaf at h
  refine lv_iload_n hx hb dX4_isLeaf_0 rfl (lv_at hl 0 rfl) ?_
  refine lv_bipush (v := 64) hx hb dX4_isLeaf_1 (by decide) ?_
  refine lv_icmp_lt (tgt := 17) hx hb dX4_isLeaf_3 (by decide) (fun c1 => ?_) (fun c1 => ?_)
  · have h := ie_t c1 h
    refine lv_iconst (v := 0) hx hb dX4_isLeaf_17 (by decide) ?_
    obtain rfl := Option.some.inj h
    exact W.zret (v := 0) hx hb hr rfl (fun t ht hW => ⟨⟨_, (), rfl, rfl, by rw [ht]; exact hP, va_K.moved hW.alike hK, hD⟩, hS.F ht⟩) hS.2.2 dX4_isLeaf_18
  · have h := ie_f c1 h
    refine lv_iload_n hx hb dX4_isLeaf_6 rfl (lv_at hl 0 rfl) ?_
    refine lv_sipush (v := 128) hx hb dX4_isLeaf_7 (by decide) ?_
    refine lv_icmp_ge (tgt := 17) hx hb dX4_isLeaf_10 (by decide) (fun c2 => ?_) (fun c2 => ?_)
    · have h := ie_t c2 h
      refine lv_iconst (v := 0) hx hb dX4_isLeaf_17 (by decide) ?_
      obtain rfl := Option.some.inj h
      exact W.zret (v := 0) hx hb hr rfl (fun t ht hW => ⟨⟨_, (), rfl, rfl, by rw [ht]; exact hP, va_K.moved hW.alike hK, hD⟩, hS.F ht⟩) hS.2.2 dX4_isLeaf_18
    · have h := ie_f c2 h
      refine lv_iconst (v := 1) hx hb dX4_isLeaf_13 (by decide) ?_
      refine lv_goto (tgt := 18) hx hb dX4_isLeaf_14 (by decide) ?_
      obtain rfl := Option.some.inj h
      exact W.zret (v := 1) hx hb hr rfl (fun t ht hW => ⟨⟨_, (), rfl, rfl, by rw [ht]; exact hP, va_K.moved hW.alike hK, hD⟩, hS.F ht⟩) hS.2.2 dX4_isLeaf_18
def f_X4_mix (x0 : Int64) (x2 : Int64) : Option (Int64) := some (((((x0 * (-7046029254386353131)) + ((x2 <<< (Int32.toInt64 23 &&& 63)) ||| ((Int64.toUInt64 x2 >>> ((Int32.toInt64 41).toUInt64 &&& Int64.toUInt64 63)).toInt64))) ^^^ ((Int64.toUInt64 ((x0 * (-7046029254386353131)) + ((x2 <<< (Int32.toInt64 23 &&& 63)) ||| ((Int64.toUInt64 x2 >>> ((Int32.toInt64 41).toUInt64 &&& Int64.toUInt64 63)).toInt64))) >>> ((Int32.toInt64 29).toUInt64 &&& Int64.toUInt64 63)).toInt64)) * (-4658895280553007687)) ^^^ ((Int64.toUInt64 ((((x0 * (-7046029254386353131)) + ((x2 <<< (Int32.toInt64 23 &&& 63)) ||| ((Int64.toUInt64 x2 >>> ((Int32.toInt64 41).toUInt64 &&& Int64.toUInt64 63)).toInt64))) ^^^ ((Int64.toUInt64 ((x0 * (-7046029254386353131)) + ((x2 <<< (Int32.toInt64 23 &&& 63)) ||| ((Int64.toUInt64 x2 >>> ((Int32.toInt64 41).toUInt64 &&& Int64.toUInt64 63)).toInt64))) >>> ((Int32.toInt64 29).toUInt64 &&& Int64.toUInt64 63)).toInt64)) * (-4658895280553007687)) >>> ((Int32.toInt64 32).toUInt64 &&& Int64.toUInt64 63)).toInt64))
set_option maxHeartbeats 4000000 in
set_option maxRecDepth 100000 in
theorem k_X4_mix (l : Launch) (dC : Nat → ClassId) (dI : Nat → Nat → Nat) (cI cJ cZ : ClassId) (x0 : Int64) (x2 : Int64) (u : Int64) (hf : f_X4_mix x0 x2 = some u) (sz : Nat) : Met l yX4_mix wsX4_mix ({ frames := 0, cells := 0, slots := 0, locals := 0 }) (cPre (dC, dI) vwCl (TY cI cJ cZ) [.long x0, .long x2] ([] : va_W) sz) (va_Ql (fun (r : Int64) (_ : Unit) => r = u) (fun _ t => cB (dC, dI) vwCl (TY cI cJ cZ) (va_A ([] : va_W) sz) ([] : va_W) t) (va_A ([] : va_W) sz)) 0 0 (va_A ([] : va_W) sz) := by
  refine Met.ofW (cc := cX4_mix) (maxL := 6) (ret := (some .long)) (by decide) rfl ?_
  intro p e s m args below meth c s₁ B hml hv
  obtain ⟨rfl, hsz, hP, hK, hD0⟩ := hv
  have hx := B.exec
  have hb := B.bytes
  have hr := B.returns
  have hts := atoms_spec (ws := wsX4_mix) B.pre
  have hown : s.vm.findClass RX4 = some m.cls := findClass_of_methodNamed B.named
  have hlocks := B.notSynchronized
  subst hsz
  have hD := hD0.self (sz := s.heap.size)
  generalize hAe : va_A ([] : va_W) s.heap.size = A at hD ⊢
  have hA : ∀ q : Nat, s.heap.size ≤ q → A q := fun q h => by rw [← hAe]; exact Or.inr h
  have hS : va_S A s.heap s.heap [] := va_S.rf
  have hl := lv_entry ([.long x0, .long x2]) (n := 6) (Nat.le_of_ble_eq_true rfl)
  rw [lg_entry_eq]
  generalize (lg_sl ([.long x0, .long x2]) ++ List.replicate (6 - (lg_sl ([.long x0, .long x2])).length) Slot.unset).toArray = ls at hl ⊢
  have hl : lv_has ls 6 [(0, .long x0), (2, .long x2)] := hl
  have h := hf
  unfold f_X4_mix at h
  refine lv_lload_n hx hb dX4_mix_0 rfl (lv_at hl 0 rfl) ?_
  refine lv_ldc2 (own := RX4) (v := (-7046029254386353131)) hx hb hown (hts (.constantLong RX4 16 (-7046029254386353131)) (by decide +kernel)) dX4_mix_1 ?_
  refine lv_lmul hx hb dX4_mix_4 ?_
  refine lv_lload_n hx hb dX4_mix_5 rfl (lv_at hl 1 rfl) ?_
  refine lv_bipush (v := 23) hx hb dX4_mix_6 (by decide) ?_
  refine lv_lshl hx hb dX4_mix_8 rfl ?_
  refine lv_lload_n hx hb dX4_mix_9 rfl (lv_at hl 1 rfl) ?_
  refine lv_bipush (v := 41) hx hb dX4_mix_10 (by decide) ?_
  refine lv_lushr hx hb dX4_mix_12 rfl ?_
  refine lv_lor hx hb dX4_mix_13 ?_
  refine lv_ladd hx hb dX4_mix_14 ?_
  refine lv_lstore (lv' := [(4, .long ((x0 * (-7046029254386353131)) + ((x2 <<< (Int32.toInt64 23 &&& 63)) ||| ((Int64.toUInt64 x2 >>> ((Int32.toInt64 41).toUInt64 &&& Int64.toUInt64 63)).toInt64)))), (0, .long x0), (2, .long x2)]) hx hb dX4_mix_15 hl (by decide) rfl (fun ls hl => ?_)
  refine lv_lload hx hb dX4_mix_17 (lv_at hl 0 rfl) ?_
  refine lv_lload hx hb dX4_mix_19 (lv_at hl 0 rfl) ?_
  refine lv_bipush (v := 29) hx hb dX4_mix_21 (by decide) ?_
  refine lv_lushr hx hb dX4_mix_23 rfl ?_
  refine lv_lxor hx hb dX4_mix_24 ?_
  refine lv_lstore (lv' := [(4, .long (((x0 * (-7046029254386353131)) + ((x2 <<< (Int32.toInt64 23 &&& 63)) ||| ((Int64.toUInt64 x2 >>> ((Int32.toInt64 41).toUInt64 &&& Int64.toUInt64 63)).toInt64))) ^^^ ((Int64.toUInt64 ((x0 * (-7046029254386353131)) + ((x2 <<< (Int32.toInt64 23 &&& 63)) ||| ((Int64.toUInt64 x2 >>> ((Int32.toInt64 41).toUInt64 &&& Int64.toUInt64 63)).toInt64))) >>> ((Int32.toInt64 29).toUInt64 &&& Int64.toUInt64 63)).toInt64))), (0, .long x0), (2, .long x2)]) hx hb dX4_mix_25 hl (by decide) rfl (fun ls hl => ?_)
  refine lv_lload hx hb dX4_mix_27 (lv_at hl 0 rfl) ?_
  refine lv_ldc2 (own := RX4) (v := (-4658895280553007687)) hx hb hown (hts (.constantLong RX4 18 (-4658895280553007687)) (by decide +kernel)) dX4_mix_29 ?_
  refine lv_lmul hx hb dX4_mix_32 ?_
  refine lv_lstore (lv' := [(4, .long ((((x0 * (-7046029254386353131)) + ((x2 <<< (Int32.toInt64 23 &&& 63)) ||| ((Int64.toUInt64 x2 >>> ((Int32.toInt64 41).toUInt64 &&& Int64.toUInt64 63)).toInt64))) ^^^ ((Int64.toUInt64 ((x0 * (-7046029254386353131)) + ((x2 <<< (Int32.toInt64 23 &&& 63)) ||| ((Int64.toUInt64 x2 >>> ((Int32.toInt64 41).toUInt64 &&& Int64.toUInt64 63)).toInt64))) >>> ((Int32.toInt64 29).toUInt64 &&& Int64.toUInt64 63)).toInt64)) * (-4658895280553007687))), (0, .long x0), (2, .long x2)]) hx hb dX4_mix_33 hl (by decide) rfl (fun ls hl => ?_)
  refine lv_lload hx hb dX4_mix_35 (lv_at hl 0 rfl) ?_
  refine lv_lload hx hb dX4_mix_37 (lv_at hl 0 rfl) ?_
  refine lv_bipush (v := 32) hx hb dX4_mix_39 (by decide) ?_
  refine lv_lushr hx hb dX4_mix_41 rfl ?_
  refine lv_lxor hx hb dX4_mix_42 ?_
  refine lv_lstore (lv' := [(4, .long (((((x0 * (-7046029254386353131)) + ((x2 <<< (Int32.toInt64 23 &&& 63)) ||| ((Int64.toUInt64 x2 >>> ((Int32.toInt64 41).toUInt64 &&& Int64.toUInt64 63)).toInt64))) ^^^ ((Int64.toUInt64 ((x0 * (-7046029254386353131)) + ((x2 <<< (Int32.toInt64 23 &&& 63)) ||| ((Int64.toUInt64 x2 >>> ((Int32.toInt64 41).toUInt64 &&& Int64.toUInt64 63)).toInt64))) >>> ((Int32.toInt64 29).toUInt64 &&& Int64.toUInt64 63)).toInt64)) * (-4658895280553007687)) ^^^ ((Int64.toUInt64 ((((x0 * (-7046029254386353131)) + ((x2 <<< (Int32.toInt64 23 &&& 63)) ||| ((Int64.toUInt64 x2 >>> ((Int32.toInt64 41).toUInt64 &&& Int64.toUInt64 63)).toInt64))) ^^^ ((Int64.toUInt64 ((x0 * (-7046029254386353131)) + ((x2 <<< (Int32.toInt64 23 &&& 63)) ||| ((Int64.toUInt64 x2 >>> ((Int32.toInt64 41).toUInt64 &&& Int64.toUInt64 63)).toInt64))) >>> ((Int32.toInt64 29).toUInt64 &&& Int64.toUInt64 63)).toInt64)) * (-4658895280553007687)) >>> ((Int32.toInt64 32).toUInt64 &&& Int64.toUInt64 63)).toInt64))), (0, .long x0), (2, .long x2)]) hx hb dX4_mix_43 hl (by decide) rfl (fun ls hl => ?_)
  refine lv_lload hx hb dX4_mix_45 (lv_at hl 0 rfl) ?_
  obtain rfl := Option.some.inj h
  exact W.lret (v := (((((x0 * (-7046029254386353131)) + ((x2 <<< (Int32.toInt64 23 &&& 63)) ||| ((Int64.toUInt64 x2 >>> ((Int32.toInt64 41).toUInt64 &&& Int64.toUInt64 63)).toInt64))) ^^^ ((Int64.toUInt64 ((x0 * (-7046029254386353131)) + ((x2 <<< (Int32.toInt64 23 &&& 63)) ||| ((Int64.toUInt64 x2 >>> ((Int32.toInt64 41).toUInt64 &&& Int64.toUInt64 63)).toInt64))) >>> ((Int32.toInt64 29).toUInt64 &&& Int64.toUInt64 63)).toInt64)) * (-4658895280553007687)) ^^^ ((Int64.toUInt64 ((((x0 * (-7046029254386353131)) + ((x2 <<< (Int32.toInt64 23 &&& 63)) ||| ((Int64.toUInt64 x2 >>> ((Int32.toInt64 41).toUInt64 &&& Int64.toUInt64 63)).toInt64))) ^^^ ((Int64.toUInt64 ((x0 * (-7046029254386353131)) + ((x2 <<< (Int32.toInt64 23 &&& 63)) ||| ((Int64.toUInt64 x2 >>> ((Int32.toInt64 41).toUInt64 &&& Int64.toUInt64 63)).toInt64))) >>> ((Int32.toInt64 29).toUInt64 &&& Int64.toUInt64 63)).toInt64)) * (-4658895280553007687)) >>> ((Int32.toInt64 32).toUInt64 &&& Int64.toUInt64 63)).toInt64))) hx hb hr (fun t ht hW => ⟨⟨_, (), rfl, rfl, by rw [ht]; exact hP, va_K.moved hW.alike hK, hD⟩, hS.F ht⟩) hS.2.2 dX4_mix_47
def f_X4_firstPath_4 : Nat → Int32 → Int32 → Option (Int32)
  | 0, _, _ => none
  | n + 1, y2, y1 => if 6 ≤ y2 then (some y1) else (if 64 ≤ y1 then (some y1) else (f_X4_firstPath_4 n (y2 + 1) (2 * y1)))
def f_X4_firstPath (x0 : Int32) : Option (Int32) := (f_X4_firstPath_4 FU 0 x0).bind fun u3 => some (u3 - 64)
set_option maxHeartbeats 4000000 in
set_option maxRecDepth 100000 in
theorem k_X4_firstPath (l : Launch) (dC : Nat → ClassId) (dI : Nat → Nat → Nat) (cI cJ cZ : ClassId) (x0 : Int32) (u : Int32) (hf : f_X4_firstPath x0 = some u) (sz : Nat) : Met l yX4_firstPath wsX4_firstPath ({ frames := 0, cells := 0, slots := 0, locals := 0 }) (cPre (dC, dI) vwCl (TY cI cJ cZ) [.int x0] ([] : va_W) sz) (va_Qi (fun (r : Int32) (_ : Unit) => r = u) (fun _ t => cB (dC, dI) vwCl (TY cI cJ cZ) (va_A ([] : va_W) sz) ([] : va_W) t) (va_A ([] : va_W) sz)) 0 0 (va_A ([] : va_W) sz) := by
  refine Met.ofW (cc := cX4_firstPath) (maxL := 3) (ret := (some .int)) (by decide) rfl ?_
  intro p e s m args below meth c s₁ B hml hv
  obtain ⟨rfl, hsz, hP, hK, hD0⟩ := hv
  have hx := B.exec
  have hb := B.bytes
  have hr := B.returns
  have hts := atoms_spec (ws := wsX4_firstPath) B.pre
  have hown : s.vm.findClass RX4 = some m.cls := findClass_of_methodNamed B.named
  have hlocks := B.notSynchronized
  subst hsz
  have hD := hD0.self (sz := s.heap.size)
  generalize hAe : va_A ([] : va_W) s.heap.size = A at hD ⊢
  have hA : ∀ q : Nat, s.heap.size ≤ q → A q := fun q h => by rw [← hAe]; exact Or.inr h
  have hS : va_S A s.heap s.heap [] := va_S.rf
  have hl := lv_entry ([.int x0]) (n := 3) (Nat.le_of_ble_eq_true rfl)
  rw [lg_entry_eq]
  generalize (lg_sl ([.int x0]) ++ List.replicate (3 - (lg_sl ([.int x0])).length) Slot.unset).toArray = ls at hl ⊢
  have hl : lv_has ls 3 [(0, .int x0)] := hl
  have h := hf
  unfold f_X4_firstPath at h
  refine lv_iload_n hx hb dX4_firstPath_0 rfl (lv_at hl 0 rfl) ?_
  refine lv_istore_n (lv' := [(1, .int x0), (0, .int x0)]) hx hb dX4_firstPath_1 rfl hl (by decide) rfl (fun ls hl => ?_)
  refine lv_iconst (v := 0) hx hb dX4_firstPath_2 (by decide) ?_
  refine lv_istore_n (lv' := [(2, .int 0), (1, .int x0), (0, .int x0)]) hx hb dX4_firstPath_3 rfl hl (by decide) rfl (fun ls hl => ?_)
  have lp4 : ∀ (Q : State → Prop) (n4 : Nat) (p4_2 : Int32) (p4_1 : Int32) (v4 : Int32), f_X4_firstPath_4 n4 p4_2 p4_1 = some v4 → ∀ (H : Heap) (locs : List Loc) (ls : Array Slot), va_P (dC, dI) vwCl ([] : va_W) H → va_D A ([] : va_W) → va_S A s.heap H locs → lv_has ls 3 [(2, .int p4_2), (1, .int p4_1)] → (∀ (H : Heap) (locs : List Loc) (ls : Array Slot), va_P (dC, dI) vwCl ([] : va_W) H → va_D A ([] : va_W) → va_S A s.heap H locs → lv_has ls 3 [(1, .int v4)] → W p l e (headSpec wsX4_firstPath ({ frames := 0, cells := 0, slots := 0, locals := 0 } : Room)).room s m ([.int x0] : List Value).toArray below meth c H locs 0 0 Q (F0 m 26 ls [])) → W p l e (headSpec wsX4_firstPath ({ frames := 0, cells := 0, slots := 0, locals := 0 } : Room)).room s m ([.int x0] : List Value).toArray below meth c H locs 0 0 Q (F0 m 4 ls []) := by
    intro Q n4
    induction n4 with
    | zero =>
      intro p4_2 p4_1 v4 h
      rw [f_X4_firstPath_4] at h
      cases h
    | succ n4 ih4 =>
      intro p4_2 p4_1 v4 h H locs ls hP hD hS hl kx4
      rw [f_X4_firstPath_4] at h
      refine lv_iload_n hx hb dX4_firstPath_4 rfl (lv_at hl 0 rfl) ?_
      refine lv_bipush (v := 6) hx hb dX4_firstPath_5 (by decide) ?_
      refine lv_icmp_ge (tgt := 26) hx hb dX4_firstPath_7 (by decide) (fun c1 => ?_) (fun c1 => ?_)
      · have h := ie_t c1 h
        obtain rfl := Option.some.inj h
        exact kx4 _ _ _ hP hD hS (lv_sub hl [1] rfl)
      · have h := ie_f c1 h
        refine lv_iload_n hx hb dX4_firstPath_10 rfl (lv_at hl 1 rfl) ?_
        refine lv_bipush (v := 64) hx hb dX4_firstPath_11 (by decide) ?_
        refine lv_icmp_ge (tgt := 26) hx hb dX4_firstPath_13 (by decide) (fun c2 => ?_) (fun c2 => ?_)
        · have h := ie_t c2 h
          obtain rfl := Option.some.inj h
          exact kx4 _ _ _ hP hD hS (lv_sub hl [1] rfl)
        · have h := ie_f c2 h
          refine lv_iconst (v := 2) hx hb dX4_firstPath_16 (by decide) ?_
          refine lv_iload_n hx hb dX4_firstPath_17 rfl (lv_at hl 1 rfl) ?_
          refine lv_imul hx hb dX4_firstPath_18 ?_
          refine lv_istore_n (lv' := [(1, .int (2 * p4_1)), (2, .int p4_2)]) hx hb dX4_firstPath_19 rfl hl (by decide) rfl (fun ls hl => ?_)
          refine lv_iinc (v := (p4_2 + 1)) (lv' := [(2, .int (p4_2 + 1)), (1, .int (2 * p4_1))]) hx hb dX4_firstPath_20 hl (k := 1) rfl rfl (by decide) rfl (fun ls hl => ?_)
          refine lv_goto (tgt := 4) hx hb dX4_firstPath_23 (by decide) ?_
          exact ih4 (p4_2 + 1) (2 * p4_1) v4 h _ _ _ hP hD hS (lv_sub hl [0, 1] rfl) kx4
  obtain ⟨u3, hc3, h⟩ := bd_e h
  refine lp4 _ FU 0 x0 u3 hc3 _ _ _ hP hD hS (lv_sub hl [0, 1] rfl) (fun H locs ls hP hD hS hl => ?_)
  refine lv_iload_n hx hb dX4_firstPath_26 rfl (lv_at hl 0 rfl) ?_
  refine lv_bipush (v := 64) hx hb dX4_firstPath_27 (by decide) ?_
  refine lv_isub hx hb dX4_firstPath_29 ?_
  obtain rfl := Option.some.inj h
  exact W.iret (v := (u3 - 64)) hx hb hr (fun t ht hW => ⟨⟨_, (), rfl, rfl, by rw [ht]; exact hP, va_K.moved hW.alike hK, hD⟩, hS.F ht⟩) hS.2.2 dX4_firstPath_30
def f_X4_lastPath_4 : Nat → Int32 → Int32 → Option (Int32)
  | 0, _, _ => none
  | n + 1, y2, y1 => if 6 ≤ y2 then (some y1) else (if 64 ≤ y1 then (some y1) else (f_X4_lastPath_4 n (y2 + 1) ((2 * y1) + 1)))
def f_X4_lastPath (x0 : Int32) : Option (Int32) := (f_X4_lastPath_4 FU 0 x0).bind fun u3 => some (u3 - 64)
set_option maxHeartbeats 4000000 in
set_option maxRecDepth 100000 in
theorem k_X4_lastPath (l : Launch) (dC : Nat → ClassId) (dI : Nat → Nat → Nat) (cI cJ cZ : ClassId) (x0 : Int32) (u : Int32) (hf : f_X4_lastPath x0 = some u) (sz : Nat) : Met l yX4_lastPath wsX4_lastPath ({ frames := 0, cells := 0, slots := 0, locals := 0 }) (cPre (dC, dI) vwCl (TY cI cJ cZ) [.int x0] ([] : va_W) sz) (va_Qi (fun (r : Int32) (_ : Unit) => r = u) (fun _ t => cB (dC, dI) vwCl (TY cI cJ cZ) (va_A ([] : va_W) sz) ([] : va_W) t) (va_A ([] : va_W) sz)) 0 0 (va_A ([] : va_W) sz) := by
  refine Met.ofW (cc := cX4_lastPath) (maxL := 3) (ret := (some .int)) (by decide) rfl ?_
  intro p e s m args below meth c s₁ B hml hv
  obtain ⟨rfl, hsz, hP, hK, hD0⟩ := hv
  have hx := B.exec
  have hb := B.bytes
  have hr := B.returns
  have hts := atoms_spec (ws := wsX4_lastPath) B.pre
  have hown : s.vm.findClass RX4 = some m.cls := findClass_of_methodNamed B.named
  have hlocks := B.notSynchronized
  subst hsz
  have hD := hD0.self (sz := s.heap.size)
  generalize hAe : va_A ([] : va_W) s.heap.size = A at hD ⊢
  have hA : ∀ q : Nat, s.heap.size ≤ q → A q := fun q h => by rw [← hAe]; exact Or.inr h
  have hS : va_S A s.heap s.heap [] := va_S.rf
  have hl := lv_entry ([.int x0]) (n := 3) (Nat.le_of_ble_eq_true rfl)
  rw [lg_entry_eq]
  generalize (lg_sl ([.int x0]) ++ List.replicate (3 - (lg_sl ([.int x0])).length) Slot.unset).toArray = ls at hl ⊢
  have hl : lv_has ls 3 [(0, .int x0)] := hl
  have h := hf
  unfold f_X4_lastPath at h
  refine lv_iload_n hx hb dX4_lastPath_0 rfl (lv_at hl 0 rfl) ?_
  refine lv_istore_n (lv' := [(1, .int x0), (0, .int x0)]) hx hb dX4_lastPath_1 rfl hl (by decide) rfl (fun ls hl => ?_)
  refine lv_iconst (v := 0) hx hb dX4_lastPath_2 (by decide) ?_
  refine lv_istore_n (lv' := [(2, .int 0), (1, .int x0), (0, .int x0)]) hx hb dX4_lastPath_3 rfl hl (by decide) rfl (fun ls hl => ?_)
  have lp4 : ∀ (Q : State → Prop) (n4 : Nat) (p4_2 : Int32) (p4_1 : Int32) (v4 : Int32), f_X4_lastPath_4 n4 p4_2 p4_1 = some v4 → ∀ (H : Heap) (locs : List Loc) (ls : Array Slot), va_P (dC, dI) vwCl ([] : va_W) H → va_D A ([] : va_W) → va_S A s.heap H locs → lv_has ls 3 [(2, .int p4_2), (1, .int p4_1)] → (∀ (H : Heap) (locs : List Loc) (ls : Array Slot), va_P (dC, dI) vwCl ([] : va_W) H → va_D A ([] : va_W) → va_S A s.heap H locs → lv_has ls 3 [(1, .int v4)] → W p l e (headSpec wsX4_lastPath ({ frames := 0, cells := 0, slots := 0, locals := 0 } : Room)).room s m ([.int x0] : List Value).toArray below meth c H locs 0 0 Q (F0 m 28 ls [])) → W p l e (headSpec wsX4_lastPath ({ frames := 0, cells := 0, slots := 0, locals := 0 } : Room)).room s m ([.int x0] : List Value).toArray below meth c H locs 0 0 Q (F0 m 4 ls []) := by
    intro Q n4
    induction n4 with
    | zero =>
      intro p4_2 p4_1 v4 h
      rw [f_X4_lastPath_4] at h
      cases h
    | succ n4 ih4 =>
      intro p4_2 p4_1 v4 h H locs ls hP hD hS hl kx4
      rw [f_X4_lastPath_4] at h
      refine lv_iload_n hx hb dX4_lastPath_4 rfl (lv_at hl 0 rfl) ?_
      refine lv_bipush (v := 6) hx hb dX4_lastPath_5 (by decide) ?_
      refine lv_icmp_ge (tgt := 28) hx hb dX4_lastPath_7 (by decide) (fun c1 => ?_) (fun c1 => ?_)
      · have h := ie_t c1 h
        obtain rfl := Option.some.inj h
        exact kx4 _ _ _ hP hD hS (lv_sub hl [1] rfl)
      · have h := ie_f c1 h
        refine lv_iload_n hx hb dX4_lastPath_10 rfl (lv_at hl 1 rfl) ?_
        refine lv_bipush (v := 64) hx hb dX4_lastPath_11 (by decide) ?_
        refine lv_icmp_ge (tgt := 28) hx hb dX4_lastPath_13 (by decide) (fun c2 => ?_) (fun c2 => ?_)
        · have h := ie_t c2 h
          obtain rfl := Option.some.inj h
          exact kx4 _ _ _ hP hD hS (lv_sub hl [1] rfl)
        · have h := ie_f c2 h
          refine lv_iconst (v := 2) hx hb dX4_lastPath_16 (by decide) ?_
          refine lv_iload_n hx hb dX4_lastPath_17 rfl (lv_at hl 1 rfl) ?_
          refine lv_imul hx hb dX4_lastPath_18 ?_
          refine lv_iconst (v := 1) hx hb dX4_lastPath_19 (by decide) ?_
          refine lv_iadd hx hb dX4_lastPath_20 ?_
          refine lv_istore_n (lv' := [(1, .int ((2 * p4_1) + 1)), (2, .int p4_2)]) hx hb dX4_lastPath_21 rfl hl (by decide) rfl (fun ls hl => ?_)
          refine lv_iinc (v := (p4_2 + 1)) (lv' := [(2, .int (p4_2 + 1)), (1, .int ((2 * p4_1) + 1))]) hx hb dX4_lastPath_22 hl (k := 1) rfl rfl (by decide) rfl (fun ls hl => ?_)
          refine lv_goto (tgt := 4) hx hb dX4_lastPath_25 (by decide) ?_
          exact ih4 (p4_2 + 1) ((2 * p4_1) + 1) v4 h _ _ _ hP hD hS (lv_sub hl [0, 1] rfl) kx4
  obtain ⟨u3, hc3, h⟩ := bd_e h
  refine lp4 _ FU 0 x0 u3 hc3 _ _ _ hP hD hS (lv_sub hl [0, 1] rfl) (fun H locs ls hP hD hS hl => ?_)
  refine lv_iload_n hx hb dX4_lastPath_28 rfl (lv_at hl 0 rfl) ?_
  refine lv_bipush (v := 64) hx hb dX4_lastPath_29 (by decide) ?_
  refine lv_isub hx hb dX4_lastPath_31 ?_
  obtain rfl := Option.some.inj h
  exact W.iret (v := (u3 - 64)) hx hb hr (fun t ht hW => ⟨⟨_, (), rfl, rfl, by rw [ht]; exact hP, va_K.moved hW.alike hK, hD⟩, hS.F ht⟩) hS.2.2 dX4_lastPath_32
def f_X4_valueOf (s0 : S_Tree) (x1 : Int32) : Option (Int64) := (f_X4_isPath x1).bind fun u1 => if u1 = 0 then (some 0) else (kb (ib x1 64) (some (s0.1 (Int32.toNatClampNeg x1))))
set_option maxHeartbeats 4000000 in
set_option maxRecDepth 100000 in
theorem k_X4_valueOf (l : Launch) (dC : Nat → ClassId) (dI : Nat → Nat → Nat) (cI cJ cZ : ClassId) (h0 h1 h2 : Nat) (s0 : S_Tree) (x1 : Int32) (u : Int64) (hf : f_X4_valueOf s0 x1 = some u) (sz : Nat) : Met l yX4_valueOf wsX4_valueOf ({ frames := 1, cells := 0, slots := 0, locals := 20 }) (cPre (dC, dI) vwCl (TY cI cJ cZ) [.ref h0, .int x1] [(h0, .inr (4, [.ref h1, .ref h2])), (h1, .inl (cJ, 64, .inr (.inl s0.1))), (h2, .inl (cJ, 128, .inr (.inl s0.2)))] sz) (va_Ql (fun (r : Int64) (_ : Unit) => r = u) (fun _ t => cB (dC, dI) vwCl (TY cI cJ cZ) (va_A [(h0, .inr (4, [.ref h1, .ref h2])), (h1, .inl (cJ, 64, .inr (.inl s0.1))), (h2, .inl (cJ, 128, .inr (.inl s0.2)))] sz) [(h0, .inr (4, [.ref h1, .ref h2])), (h1, .inl (cJ, 64, .inr (.inl s0.1))), (h2, .inl (cJ, 128, .inr (.inl s0.2)))] t) (va_A [(h0, .inr (4, [.ref h1, .ref h2])), (h1, .inl (cJ, 64, .inr (.inl s0.1))), (h2, .inl (cJ, 128, .inr (.inl s0.2)))] sz)) 0 0 (va_A [(h0, .inr (4, [.ref h1, .ref h2])), (h1, .inl (cJ, 64, .inr (.inl s0.1))), (h2, .inl (cJ, 128, .inr (.inl s0.2)))] sz) := by
  refine Met.ofW (cc := cX4_valueOf) (maxL := 2) (ret := (some .long)) (by decide) rfl ?_
  intro p e s m args below meth c s₁ B hml hv
  obtain ⟨rfl, hsz, hP, hK, hD0⟩ := hv
  have hx := B.exec
  have hb := B.bytes
  have hr := B.returns
  have hts := atoms_spec (ws := wsX4_valueOf) B.pre
  have hown : s.vm.findClass RX4 = some m.cls := findClass_of_methodNamed B.named
  have hlocks := B.notSynchronized
  subst hsz
  have hD := hD0.self (sz := s.heap.size)
  generalize hAe : va_A [(h0, .inr (4, [.ref h1, .ref h2])), (h1, .inl (cJ, 64, .inr (.inl s0.1))), (h2, .inl (cJ, 128, .inr (.inl s0.2)))] s.heap.size = A at hD ⊢
  have hA : ∀ q : Nat, s.heap.size ≤ q → A q := fun q h => by rw [← hAe]; exact Or.inr h
  have hS : va_S A s.heap s.heap [] := va_S.rf
  have hl := lv_entry ([.ref h0, .int x1]) (n := 2) (Nat.le_of_ble_eq_true rfl)
  rw [lg_entry_eq]
  generalize (lg_sl ([.ref h0, .int x1]) ++ List.replicate (2 - (lg_sl ([.ref h0, .int x1])).length) Slot.unset).toArray = ls at hl ⊢
  have hl : lv_has ls 2 [(0, .ref h0), (1, .int x1)] := hl
  have h := hf
  unfold f_X4_valueOf at h
  refine lv_iload_n hx hb dX4_valueOf_0 rfl (lv_at hl 1 rfl) ?_
  obtain ⟨u1, hc1, h⟩ := bd_e h
  refine cc_i (tys := TY cI cJ cZ) ([] : va_W) [(h0, .inr (4, [.ref h1, .ref h2])), (h1, .inl (cJ, 64, .inr (.inl s0.1))), (h2, .inl (cJ, 128, .inr (.inl s0.2)))] ([] : va_W) [(h0, .inr (4, [.ref h1, .ref h2])), (h1, .inl (cJ, 64, .inr (.inl s0.1))), (h2, .inl (cJ, 128, .inr (.inl s0.2)))] hP hD hS hA [] [0, 1, 2] [0, 1, 2] rfl rfl (by decide) (by decide) rfl (by decide) rfl (va_runS (As := [.int x1]) (rest := []) ⟨hx, hb, hml, hown, hts⟩ (k_X4_isPath l dC dI cI cJ cZ x1 u1 hc1 _) (va_cwS 1 hts gX4_valueOf_X4_isPath rfl rfl rfl (by decide +kernel) ⟨Nat.le_of_ble_eq_true rfl, Nat.le_of_ble_eq_true rfl⟩) ⟨cPre_blind, cPre_in hP hD hK [] rfl (by decide) rfl⟩ rfl rfl hl.1 rfl (lv_room (Nat.le_of_ble_eq_true rfl)) dX4_valueOf_1 ⟨Nat.le_of_ble_eq_true rfl, Nat.le_of_ble_eq_true rfl⟩) (fun H locs hP hD hS => ?_)
  refine lv_if_eq (tgt := 16) hx hb dX4_valueOf_4 (by decide) (fun c2 => ?_) (fun c2 => ?_)
  · have h := ie_t c2 h
    refine lv_lconst (v := 0) hx hb dX4_valueOf_16 (by decide) ?_
    obtain rfl := Option.some.inj h
    exact W.lret (v := 0) hx hb hr (fun t ht hW => ⟨⟨_, (), rfl, rfl, by rw [ht]; exact hP, va_K.moved hW.alike hK, hD⟩, hS.F ht⟩) hS.2.2 dX4_valueOf_17
  · have h := ie_f c2 h
    refine lv_aload_n hx hb dX4_valueOf_7 rfl (lv_at hl 0 rfl) ?_
    refine va_get (D := (dC, dI)) (ci := 4) (v := .ref h1) (C := RX4) (T := TX4) (N := 2) hx hb hts (by decide +kernel) hown hK hP 0 rfl rfl 0 (by decide) (hts (.fieldLink RX4 9 "SnapshotPieces$Tree" "values" "[J") (by decide +kernel)) (fun _ h9 => h9) rfl dX4_valueOf_8 ?_
    refine lv_iload_n hx hb dX4_valueOf_11 rfl (lv_at hl 1 rfl) ?_
    obtain ⟨g3, h⟩ := kb_e h
    refine va_lald hx hb hK hP 1 1 rfl rfl (ib_in g3) dX4_valueOf_12 ?_
    refine lv_goto (tgt := 17) hx hb dX4_valueOf_13 (by decide) ?_
    obtain rfl := Option.some.inj h
    exact W.lret (v := (s0.1 (Int32.toNatClampNeg x1))) hx hb hr (fun t ht hW => ⟨⟨_, (), rfl, rfl, by rw [ht]; exact hP, va_K.moved hW.alike hK, hD⟩, hS.F ht⟩) hS.2.2 dX4_valueOf_17
def f_X4_digestOf (s0 : S_Tree) (x1 : Int32) : Option (Int64) := (f_X4_isNode x1).bind fun u1 => if u1 = 0 then (some 0) else (kb (ib x1 128) (some (s0.2 (Int32.toNatClampNeg x1))))
set_option maxHeartbeats 4000000 in
set_option maxRecDepth 100000 in
theorem k_X4_digestOf (l : Launch) (dC : Nat → ClassId) (dI : Nat → Nat → Nat) (cI cJ cZ : ClassId) (h0 h1 h2 : Nat) (s0 : S_Tree) (x1 : Int32) (u : Int64) (hf : f_X4_digestOf s0 x1 = some u) (sz : Nat) : Met l yX4_digestOf wsX4_digestOf ({ frames := 1, cells := 0, slots := 0, locals := 20 }) (cPre (dC, dI) vwCl (TY cI cJ cZ) [.ref h0, .int x1] [(h0, .inr (4, [.ref h1, .ref h2])), (h1, .inl (cJ, 64, .inr (.inl s0.1))), (h2, .inl (cJ, 128, .inr (.inl s0.2)))] sz) (va_Ql (fun (r : Int64) (_ : Unit) => r = u) (fun _ t => cB (dC, dI) vwCl (TY cI cJ cZ) (va_A [(h0, .inr (4, [.ref h1, .ref h2])), (h1, .inl (cJ, 64, .inr (.inl s0.1))), (h2, .inl (cJ, 128, .inr (.inl s0.2)))] sz) [(h0, .inr (4, [.ref h1, .ref h2])), (h1, .inl (cJ, 64, .inr (.inl s0.1))), (h2, .inl (cJ, 128, .inr (.inl s0.2)))] t) (va_A [(h0, .inr (4, [.ref h1, .ref h2])), (h1, .inl (cJ, 64, .inr (.inl s0.1))), (h2, .inl (cJ, 128, .inr (.inl s0.2)))] sz)) 0 0 (va_A [(h0, .inr (4, [.ref h1, .ref h2])), (h1, .inl (cJ, 64, .inr (.inl s0.1))), (h2, .inl (cJ, 128, .inr (.inl s0.2)))] sz) := by
  refine Met.ofW (cc := cX4_digestOf) (maxL := 2) (ret := (some .long)) (by decide) rfl ?_
  intro p e s m args below meth c s₁ B hml hv
  obtain ⟨rfl, hsz, hP, hK, hD0⟩ := hv
  have hx := B.exec
  have hb := B.bytes
  have hr := B.returns
  have hts := atoms_spec (ws := wsX4_digestOf) B.pre
  have hown : s.vm.findClass RX4 = some m.cls := findClass_of_methodNamed B.named
  have hlocks := B.notSynchronized
  subst hsz
  have hD := hD0.self (sz := s.heap.size)
  generalize hAe : va_A [(h0, .inr (4, [.ref h1, .ref h2])), (h1, .inl (cJ, 64, .inr (.inl s0.1))), (h2, .inl (cJ, 128, .inr (.inl s0.2)))] s.heap.size = A at hD ⊢
  have hA : ∀ q : Nat, s.heap.size ≤ q → A q := fun q h => by rw [← hAe]; exact Or.inr h
  have hS : va_S A s.heap s.heap [] := va_S.rf
  have hl := lv_entry ([.ref h0, .int x1]) (n := 2) (Nat.le_of_ble_eq_true rfl)
  rw [lg_entry_eq]
  generalize (lg_sl ([.ref h0, .int x1]) ++ List.replicate (2 - (lg_sl ([.ref h0, .int x1])).length) Slot.unset).toArray = ls at hl ⊢
  have hl : lv_has ls 2 [(0, .ref h0), (1, .int x1)] := hl
  have h := hf
  unfold f_X4_digestOf at h
  refine lv_iload_n hx hb dX4_digestOf_0 rfl (lv_at hl 1 rfl) ?_
  obtain ⟨u1, hc1, h⟩ := bd_e h
  refine cc_i (tys := TY cI cJ cZ) ([] : va_W) [(h0, .inr (4, [.ref h1, .ref h2])), (h1, .inl (cJ, 64, .inr (.inl s0.1))), (h2, .inl (cJ, 128, .inr (.inl s0.2)))] ([] : va_W) [(h0, .inr (4, [.ref h1, .ref h2])), (h1, .inl (cJ, 64, .inr (.inl s0.1))), (h2, .inl (cJ, 128, .inr (.inl s0.2)))] hP hD hS hA [] [0, 1, 2] [0, 1, 2] rfl rfl (by decide) (by decide) rfl (by decide) rfl (va_runS (As := [.int x1]) (rest := []) ⟨hx, hb, hml, hown, hts⟩ (k_X4_isNode l dC dI cI cJ cZ x1 u1 hc1 _) (va_cwS 1 hts gX4_digestOf_X4_isNode rfl rfl rfl (by decide +kernel) ⟨Nat.le_of_ble_eq_true rfl, Nat.le_of_ble_eq_true rfl⟩) ⟨cPre_blind, cPre_in hP hD hK [] rfl (by decide) rfl⟩ rfl rfl hl.1 rfl (lv_room (Nat.le_of_ble_eq_true rfl)) dX4_digestOf_1 ⟨Nat.le_of_ble_eq_true rfl, Nat.le_of_ble_eq_true rfl⟩) (fun H locs hP hD hS => ?_)
  refine lv_if_eq (tgt := 16) hx hb dX4_digestOf_4 (by decide) (fun c2 => ?_) (fun c2 => ?_)
  · have h := ie_t c2 h
    refine lv_lconst (v := 0) hx hb dX4_digestOf_16 (by decide) ?_
    obtain rfl := Option.some.inj h
    exact W.lret (v := 0) hx hb hr (fun t ht hW => ⟨⟨_, (), rfl, rfl, by rw [ht]; exact hP, va_K.moved hW.alike hK, hD⟩, hS.F ht⟩) hS.2.2 dX4_digestOf_17
  · have h := ie_f c2 h
    refine lv_aload_n hx hb dX4_digestOf_7 rfl (lv_at hl 0 rfl) ?_
    refine va_get (D := (dC, dI)) (ci := 4) (v := .ref h2) (C := RX4) (T := TX4) (N := 2) hx hb hts (by decide +kernel) hown hK hP 0 rfl rfl 1 (by decide) (hts (.fieldLink RX4 13 "SnapshotPieces$Tree" "digests" "[J") (by decide +kernel)) (fun _ h9 => h9) rfl dX4_digestOf_8 ?_
    refine lv_iload_n hx hb dX4_digestOf_11 rfl (lv_at hl 1 rfl) ?_
    obtain ⟨g3, h⟩ := kb_e h
    refine va_lald hx hb hK hP 2 1 rfl rfl (ib_in g3) dX4_digestOf_12 ?_
    refine lv_goto (tgt := 17) hx hb dX4_digestOf_13 (by decide) ?_
    obtain rfl := Option.some.inj h
    exact W.lret (v := (s0.2 (Int32.toNatClampNeg x1))) hx hb hr (fun t ht hW => ⟨⟨_, (), rfl, rfl, by rw [ht]; exact hP, va_K.moved hW.alike hK, hD⟩, hS.F ht⟩) hS.2.2 dX4_digestOf_17
def f_X4_renew_13 (y3 : Int32) (t0 : (Nat → Int64)) : Nat → Int32 → (Nat → Int64) → Option ((Nat → Int64))
  | 0, _, _ => none
  | n + 1, y4, t1 => if y3 < y4 then (some t1) else (kb (ib y4 64) (if (t0 (Int32.toNatClampNeg y4)) = 0 then (kb (ib (64 + y4) 128) (f_X4_renew_13 y3 t0 n (y4 + 1) (vp_updL t1 (Int32.toNatClampNeg (64 + y4)) 0))) else (kb (ib y4 64) ((f_X4_mix ((Int32.toInt64 y4) + 1) (t0 (Int32.toNatClampNeg y4))).bind fun u7 => kb (ib (64 + y4) 128) (f_X4_renew_13 y3 t0 n (y4 + 1) (vp_updL t1 (Int32.toNatClampNeg (64 + y4)) u7))))))
def f_X4_renew_104 (y5 : Int32) : Nat → Int32 → (Nat → Int64) → Option ((Nat → Int64))
  | 0, _, _ => none
  | n + 1, y7, t1 => if y5 < y7 then (some t1) else (kb (ib (2 * y7) 128) (kb (ib ((2 * y7) + 1) 128) ((f_X4_mix (t1 (Int32.toNatClampNeg (2 * y7))) (t1 (Int32.toNatClampNeg ((2 * y7) + 1)))).bind fun u15 => kb (ib y7 128) (f_X4_renew_104 y5 n (y7 + 1) (vp_updL t1 (Int32.toNatClampNeg y7) u15)))))
def f_X4_renew_81 : Nat → Int32 → Int32 → Int32 → (Nat → Int64) → Option ((Nat → Int64))
  | 0, _, _, _, _ => none
  | n + 1, y6, y5, y4, t1 => if 6 ≤ y6 then (some t1) else ((f_X4_renew_104 (y5 / 2) FU (y4 / 2) t1).bind fun u17 => f_X4_renew_81 n (y6 + 1) (y5 / 2) (y4 / 2) u17)
def f_X4_renew (s0 : S_Tree) (x1 : Int32) : Option (S_Tree) := (f_X4_firstPath x1).bind fun u1 => (f_X4_lastPath x1).bind fun u2 => (f_X4_renew_13 u2 s0.1 FU u1 s0.2).bind fun u10 => (f_X4_renew_81 FU 0 (64 + u2) (64 + u1) u10).bind fun u18 => some (s0.1, u18)
set_option maxHeartbeats 4000000 in
set_option maxRecDepth 100000 in
theorem k_X4_renew (l : Launch) (dC : Nat → ClassId) (dI : Nat → Nat → Nat) (cI cJ cZ : ClassId) (h0 h1 h2 : Nat) (s0 : S_Tree) (x1 : Int32) (u : S_Tree) (hf : f_X4_renew s0 x1 = some u) (sz : Nat) : Met l yX4_renew wsX4_renew ({ frames := 1, cells := 0, slots := 0, locals := 25 }) (cPre (dC, dI) vwCl (TY cI cJ cZ) [.ref h0, .int x1] [(h0, .inr (4, [.ref h1, .ref h2])), (h1, .inl (cJ, 64, .inr (.inl s0.1))), (h2, .inl (cJ, 128, .inr (.inl s0.2)))] sz) (va_Qv (fun (_ : Unit) => True) (fun _ t => cB (dC, dI) vwCl (TY cI cJ cZ) (va_A [(h0, .inr (4, [.ref h1, .ref h2])), (h1, .inl (cJ, 64, .inr (.inl s0.1))), (h2, .inl (cJ, 128, .inr (.inl s0.2)))] sz) [(h0, .inr (4, [.ref h1, .ref h2])), (h1, .inl (cJ, 64, .inr (.inl u.1))), (h2, .inl (cJ, 128, .inr (.inl u.2)))] t) (va_A [(h0, .inr (4, [.ref h1, .ref h2])), (h1, .inl (cJ, 64, .inr (.inl s0.1))), (h2, .inl (cJ, 128, .inr (.inl s0.2)))] sz)) 0 0 (va_A [(h0, .inr (4, [.ref h1, .ref h2])), (h1, .inl (cJ, 64, .inr (.inl s0.1))), (h2, .inl (cJ, 128, .inr (.inl s0.2)))] sz) := by
  refine Met.ofW (cc := cX4_renew) (maxL := 8) (ret := none) (by decide) rfl ?_
  intro p e s m args below meth c s₁ B hml hv
  obtain ⟨rfl, hsz, hP, hK, hD0⟩ := hv
  have hx := B.exec
  have hb := B.bytes
  have hr := B.returns
  have hts := atoms_spec (ws := wsX4_renew) B.pre
  have hown : s.vm.findClass RX4 = some m.cls := findClass_of_methodNamed B.named
  have hlocks := B.notSynchronized
  subst hsz
  have hD := hD0.self (sz := s.heap.size)
  generalize hAe : va_A [(h0, .inr (4, [.ref h1, .ref h2])), (h1, .inl (cJ, 64, .inr (.inl s0.1))), (h2, .inl (cJ, 128, .inr (.inl s0.2)))] s.heap.size = A at hD ⊢
  have hA : ∀ q : Nat, s.heap.size ≤ q → A q := fun q h => by rw [← hAe]; exact Or.inr h
  have hS : va_S A s.heap s.heap [] := va_S.rf
  have hl := lv_entry ([.ref h0, .int x1]) (n := 8) (Nat.le_of_ble_eq_true rfl)
  rw [lg_entry_eq]
  generalize (lg_sl ([.ref h0, .int x1]) ++ List.replicate (8 - (lg_sl ([.ref h0, .int x1])).length) Slot.unset).toArray = ls at hl ⊢
  have hl : lv_has ls 8 [(0, .ref h0), (1, .int x1)] := hl
  have h := hf
  unfold f_X4_renew at h
  refine lv_iload_n hx hb dX4_renew_0 rfl (lv_at hl 1 rfl) ?_
  obtain ⟨u1, hc1, h⟩ := bd_e h
  refine cc_i (tys := TY cI cJ cZ) ([] : va_W) [(h0, .inr (4, [.ref h1, .ref h2])), (h1, .inl (cJ, 64, .inr (.inl s0.1))), (h2, .inl (cJ, 128, .inr (.inl s0.2)))] ([] : va_W) [(h0, .inr (4, [.ref h1, .ref h2])), (h1, .inl (cJ, 64, .inr (.inl s0.1))), (h2, .inl (cJ, 128, .inr (.inl s0.2)))] hP hD hS hA [] [0, 1, 2] [0, 1, 2] rfl rfl (by decide) (by decide) rfl (by decide) rfl (va_runS (As := [.int x1]) (rest := []) ⟨hx, hb, hml, hown, hts⟩ (k_X4_firstPath l dC dI cI cJ cZ x1 u1 hc1 _) (va_cwS 1 hts gX4_renew_X4_firstPath rfl rfl rfl (by decide +kernel) ⟨Nat.le_of_ble_eq_true rfl, Nat.le_of_ble_eq_true rfl⟩) ⟨cPre_blind, cPre_in hP hD hK [] rfl (by decide) rfl⟩ rfl rfl hl.1 rfl (lv_room (Nat.le_of_ble_eq_true rfl)) dX4_renew_1 ⟨Nat.le_of_ble_eq_true rfl, Nat.le_of_ble_eq_true rfl⟩) (fun H locs hP hD hS => ?_)
  refine lv_istore_n (lv' := [(2, .int u1), (0, .ref h0), (1, .int x1)]) hx hb dX4_renew_4 rfl hl (by decide) rfl (fun ls hl => ?_)
  refine lv_iload_n hx hb dX4_renew_5 rfl (lv_at hl 2 rfl) ?_
  obtain ⟨u2, hc2, h⟩ := bd_e h
  refine cc_i (tys := TY cI cJ cZ) ([] : va_W) [(h0, .inr (4, [.ref h1, .ref h2])), (h1, .inl (cJ, 64, .inr (.inl s0.1))), (h2, .inl (cJ, 128, .inr (.inl s0.2)))] ([] : va_W) [(h0, .inr (4, [.ref h1, .ref h2])), (h1, .inl (cJ, 64, .inr (.inl s0.1))), (h2, .inl (cJ, 128, .inr (.inl s0.2)))] hP hD hS hA [] [0, 1, 2] [0, 1, 2] rfl rfl (by decide) (by decide) rfl (by decide) rfl (va_runS (As := [.int x1]) (rest := []) ⟨hx, hb, hml, hown, hts⟩ (k_X4_lastPath l dC dI cI cJ cZ x1 u2 hc2 _) (va_cwS 1 hts gX4_renew_X4_lastPath rfl rfl rfl (by decide +kernel) ⟨Nat.le_of_ble_eq_true rfl, Nat.le_of_ble_eq_true rfl⟩) ⟨cPre_blind, cPre_in hP hD hK [] rfl (by decide) rfl⟩ rfl rfl hl.1 rfl (lv_room (Nat.le_of_ble_eq_true rfl)) dX4_renew_6 ⟨Nat.le_of_ble_eq_true rfl, Nat.le_of_ble_eq_true rfl⟩) (fun H locs hP hD hS => ?_)
  refine lv_istore_n (lv' := [(3, .int u2), (2, .int u1), (0, .ref h0), (1, .int x1)]) hx hb dX4_renew_9 rfl hl (by decide) rfl (fun ls hl => ?_)
  refine lv_iload_n hx hb dX4_renew_10 rfl (lv_at hl 1 rfl) ?_
  refine lv_istore (lv' := [(4, .int u1), (3, .int u2), (2, .int u1), (0, .ref h0), (1, .int x1)]) hx hb dX4_renew_11 hl (by decide) rfl (fun ls hl => ?_)
  have lp13 : ∀ (Q : State → Prop) (n13 : Nat) (p13_4 : Int32) (q13_0 : (Nat → Int64)) (v13 : (Nat → Int64)), f_X4_renew_13 u2 s0.1 n13 p13_4 q13_0 = some v13 → ∀ (H : Heap) (locs : List Loc) (ls : Array Slot), va_P (dC, dI) vwCl [(h0, .inr (4, [.ref h1, .ref h2])), (h1, .inl (cJ, 64, .inr (.inl s0.1))), (h2, .inl (cJ, 128, .inr (.inl q13_0)))] H → va_D A [(h0, .inr (4, [.ref h1, .ref h2])), (h1, .inl (cJ, 64, .inr (.inl s0.1))), (h2, .inl (cJ, 128, .inr (.inl q13_0)))] → va_S A s.heap H locs → lv_has ls 8 [(4, .int p13_4), (3, .int u2), (2, .int u1), (0, .ref h0)] → (∀ (H : Heap) (locs : List Loc) (ls : Array Slot), va_P (dC, dI) vwCl [(h0, .inr (4, [.ref h1, .ref h2])), (h1, .inl (cJ, 64, .inr (.inl s0.1))), (h2, .inl (cJ, 128, .inr (.inl v13)))] H → va_D A [(h0, .inr (4, [.ref h1, .ref h2])), (h1, .inl (cJ, 64, .inr (.inl s0.1))), (h2, .inl (cJ, 128, .inr (.inl v13)))] → va_S A s.heap H locs → lv_has ls 8 [(3, .int u2), (2, .int u1), (0, .ref h0)] → W p l e (headSpec wsX4_renew ({ frames := 1, cells := 0, slots := 0, locals := 25 } : Room)).room s m ([.ref h0, .int x1] : List Value).toArray below meth c H locs 0 0 Q (F0 m 66 ls [])) → W p l e (headSpec wsX4_renew ({ frames := 1, cells := 0, slots := 0, locals := 25 } : Room)).room s m ([.ref h0, .int x1] : List Value).toArray below meth c H locs 0 0 Q (F0 m 13 ls []) := by
    intro Q n13
    induction n13 with
    | zero =>
      intro p13_4 q13_0 v13 h
      rw [f_X4_renew_13] at h
      cases h
    | succ n13 ih13 =>
      intro p13_4 q13_0 v13 h H locs ls hP hD hS hl kx13
      rw [f_X4_renew_13] at h
      refine lv_iload hx hb dX4_renew_13 (lv_at hl 0 rfl) ?_
      refine lv_iload_n hx hb dX4_renew_15 rfl (lv_at hl 1 rfl) ?_
      refine lv_icmp_gt (tgt := 66) hx hb dX4_renew_16 (by decide) (fun c3 => ?_) (fun c3 => ?_)
      · have h := ie_t c3 h
        obtain rfl := Option.some.inj h
        exact kx13 _ _ _ hP hD hS (lv_sub hl [1, 2, 3] rfl)
      · have h := ie_f c3 h
        refine lv_aload_n hx hb dX4_renew_19 rfl (lv_at hl 3 rfl) ?_
        refine va_get (D := (dC, dI)) (ci := 4) (v := .ref h2) (C := RX4) (T := TX4) (N := 2) hx hb hts (by decide +kernel) hown hK hP 0 rfl rfl 1 (by decide) (hts (.fieldLink RX4 13 "SnapshotPieces$Tree" "digests" "[J") (by decide +kernel)) (fun _ h9 => h9) rfl dX4_renew_20 ?_
        refine lv_bipush (v := 64) hx hb dX4_renew_23 (by decide) ?_
        refine lv_iload hx hb dX4_renew_25 (lv_at hl 0 rfl) ?_
        refine lv_iadd hx hb dX4_renew_27 ?_
        refine lv_aload_n hx hb dX4_renew_28 rfl (lv_at hl 3 rfl) ?_
        refine va_get (D := (dC, dI)) (ci := 4) (v := .ref h1) (C := RX4) (T := TX4) (N := 2) hx hb hts (by decide +kernel) hown hK hP 0 rfl rfl 0 (by decide) (hts (.fieldLink RX4 9 "SnapshotPieces$Tree" "values" "[J") (by decide +kernel)) (fun _ h9 => h9) rfl dX4_renew_29 ?_
        refine lv_iload hx hb dX4_renew_32 (lv_at hl 0 rfl) ?_
        obtain ⟨g4, h⟩ := kb_e h
        refine va_lald hx hb hK hP 1 1 rfl rfl (ib_in g4) dX4_renew_34 ?_
        refine lv_lconst (v := 0) hx hb dX4_renew_35 (by decide) ?_
        refine W.lcmp hx hb dX4_renew_36 ?_
        refine lv_if_ne (tgt := 44) hx hb dX4_renew_37 (by decide) (fun c5 => ?_) (fun c5 => ?_)
        · have c5 := lgz_f c5
          have h := ie_f c5 h
          refine lv_iload hx hb dX4_renew_44 (lv_at hl 0 rfl) ?_
          refine lv_i2l hx hb dX4_renew_46 rfl ?_
          refine lv_lconst (v := 1) hx hb dX4_renew_47 (by decide) ?_
          refine lv_ladd hx hb dX4_renew_48 ?_
          refine lv_aload_n hx hb dX4_renew_49 rfl (lv_at hl 3 rfl) ?_
          refine va_get (D := (dC, dI)) (ci := 4) (v := .ref h1) (C := RX4) (T := TX4) (N := 2) hx hb hts (by decide +kernel) hown hK hP 0 rfl rfl 0 (by decide) (hts (.fieldLink RX4 9 "SnapshotPieces$Tree" "values" "[J") (by decide +kernel)) (fun _ h9 => h9) rfl dX4_renew_50 ?_
          refine lv_iload hx hb dX4_renew_53 (lv_at hl 0 rfl) ?_
          obtain ⟨g6, h⟩ := kb_e h
          refine va_lald hx hb hK hP 1 1 rfl rfl (ib_in g6) dX4_renew_55 ?_
          obtain ⟨u7, hc7, h⟩ := bd_e h
          refine cc_l (tys := TY cI cJ cZ) ([] : va_W) [(h0, .inr (4, [.ref h1, .ref h2])), (h1, .inl (cJ, 64, .inr (.inl s0.1))), (h2, .inl (cJ, 128, .inr (.inl q13_0)))] ([] : va_W) [(h0, .inr (4, [.ref h1, .ref h2])), (h1, .inl (cJ, 64, .inr (.inl s0.1))), (h2, .inl (cJ, 128, .inr (.inl q13_0)))] hP hD hS hA [] [0, 1, 2] [0, 1, 2] rfl rfl (by decide) (by decide) rfl (by decide) rfl (va_runS (As := [.long ((Int32.toInt64 p13_4) + 1), .long (s0.1 (Int32.toNatClampNeg p13_4))]) (rest := [.int (64 + p13_4), .ref h2]) ⟨hx, hb, hml, hown, hts⟩ (k_X4_mix l dC dI cI cJ cZ ((Int32.toInt64 p13_4) + 1) (s0.1 (Int32.toNatClampNeg p13_4)) u7 hc7 _) (va_cwS 2 hts gX4_renew_X4_mix rfl rfl rfl (by decide +kernel) ⟨Nat.le_of_ble_eq_true rfl, Nat.le_of_ble_eq_true rfl⟩) ⟨cPre_blind, cPre_in hP hD hK [] rfl (by decide) rfl⟩ rfl rfl hl.1 rfl (lv_room (Nat.le_of_ble_eq_true rfl)) dX4_renew_56 ⟨Nat.le_of_ble_eq_true rfl, Nat.le_of_ble_eq_true rfl⟩) (fun H locs hP hD hS => ?_)
          obtain ⟨g8, h⟩ := kb_e h
          refine va_last hx hb hK hP hD hS 2 1 rfl rfl (ib_in g8) dX4_renew_59 (fun H locs hP hD hS => ?_)
          have hP : va_P (dC, dI) vwCl [(h0, .inr (4, [.ref h1, .ref h2])), (h1, .inl (cJ, 64, .inr (.inl s0.1))), (h2, .inl (cJ, 128, .inr (.inl (vp_updL q13_0 (Int32.toNatClampNeg (64 + p13_4)) u7))))] H := hP
          have hD : va_D A [(h0, .inr (4, [.ref h1, .ref h2])), (h1, .inl (cJ, 64, .inr (.inl s0.1))), (h2, .inl (cJ, 128, .inr (.inl (vp_updL q13_0 (Int32.toNatClampNeg (64 + p13_4)) u7))))] := hD
          refine lv_iinc (v := (p13_4 + 1)) (lv' := [(4, .int (p13_4 + 1)), (3, .int u2), (2, .int u1), (0, .ref h0)]) hx hb dX4_renew_60 hl (k := 0) rfl rfl (by decide) rfl (fun ls hl => ?_)
          refine lv_goto (tgt := 13) hx hb dX4_renew_63 (by decide) ?_
          exact ih13 (p13_4 + 1) (vp_updL q13_0 (Int32.toNatClampNeg (64 + p13_4)) u7) v13 h _ _ _ hP hD hS (lv_sub hl [0, 1, 2, 3] rfl) kx13
        · have c5 := lgz_t c5
          have h := ie_t c5 h
          refine lv_lconst (v := 0) hx hb dX4_renew_40 (by decide) ?_
          refine lv_goto (tgt := 59) hx hb dX4_renew_41 (by decide) ?_
          obtain ⟨g9, h⟩ := kb_e h
          refine va_last hx hb hK hP hD hS 2 1 rfl rfl (ib_in g9) dX4_renew_59 (fun H locs hP hD hS => ?_)
          have hP : va_P (dC, dI) vwCl [(h0, .inr (4, [.ref h1, .ref h2])), (h1, .inl (cJ, 64, .inr (.inl s0.1))), (h2, .inl (cJ, 128, .inr (.inl (vp_updL q13_0 (Int32.toNatClampNeg (64 + p13_4)) 0))))] H := hP
          have hD : va_D A [(h0, .inr (4, [.ref h1, .ref h2])), (h1, .inl (cJ, 64, .inr (.inl s0.1))), (h2, .inl (cJ, 128, .inr (.inl (vp_updL q13_0 (Int32.toNatClampNeg (64 + p13_4)) 0))))] := hD
          refine lv_iinc (v := (p13_4 + 1)) (lv' := [(4, .int (p13_4 + 1)), (3, .int u2), (2, .int u1), (0, .ref h0)]) hx hb dX4_renew_60 hl (k := 0) rfl rfl (by decide) rfl (fun ls hl => ?_)
          refine lv_goto (tgt := 13) hx hb dX4_renew_63 (by decide) ?_
          exact ih13 (p13_4 + 1) (vp_updL q13_0 (Int32.toNatClampNeg (64 + p13_4)) 0) v13 h _ _ _ hP hD hS (lv_sub hl [0, 1, 2, 3] rfl) kx13
  obtain ⟨u10, hc10, h⟩ := bd_e h
  refine lp13 _ FU u1 s0.2 u10 hc10 _ _ _ hP hD hS (lv_sub hl [0, 1, 2, 3] rfl) (fun H locs ls hP hD hS hl => ?_)
  refine lv_bipush (v := 64) hx hb dX4_renew_66 (by decide) ?_
  refine lv_iload_n hx hb dX4_renew_68 rfl (lv_at hl 1 rfl) ?_
  refine lv_iadd hx hb dX4_renew_69 ?_
  refine lv_istore (lv' := [(4, .int (64 + u1)), (3, .int u2), (2, .int u1), (0, .ref h0)]) hx hb dX4_renew_70 hl (by decide) rfl (fun ls hl => ?_)
  refine lv_bipush (v := 64) hx hb dX4_renew_72 (by decide) ?_
  refine lv_iload_n hx hb dX4_renew_74 rfl (lv_at hl 1 rfl) ?_
  refine lv_iadd hx hb dX4_renew_75 ?_
  refine lv_istore (lv' := [(5, .int (64 + u2)), (4, .int (64 + u1)), (3, .int u2), (2, .int u1), (0, .ref h0)]) hx hb dX4_renew_76 hl (by decide) rfl (fun ls hl => ?_)
  refine lv_iconst (v := 0) hx hb dX4_renew_78 (by decide) ?_
  refine lv_istore (lv' := [(6, .int 0), (5, .int (64 + u2)), (4, .int (64 + u1)), (3, .int u2), (2, .int u1), (0, .ref h0)]) hx hb dX4_renew_79 hl (by decide) rfl (fun ls hl => ?_)
  have lp81 : ∀ (Q : State → Prop) (n81 : Nat) (p81_6 : Int32) (p81_5 : Int32) (p81_4 : Int32) (q81_0 : (Nat → Int64)) (v81 : (Nat → Int64)), f_X4_renew_81 n81 p81_6 p81_5 p81_4 q81_0 = some v81 → ∀ (H : Heap) (locs : List Loc) (ls : Array Slot), va_P (dC, dI) vwCl [(h0, .inr (4, [.ref h1, .ref h2])), (h1, .inl (cJ, 64, .inr (.inl s0.1))), (h2, .inl (cJ, 128, .inr (.inl q81_0)))] H → va_D A [(h0, .inr (4, [.ref h1, .ref h2])), (h1, .inl (cJ, 64, .inr (.inl s0.1))), (h2, .inl (cJ, 128, .inr (.inl q81_0)))] → va_S A s.heap H locs → lv_has ls 8 [(6, .int p81_6), (5, .int p81_5), (4, .int p81_4), (0, .ref h0)] → (∀ (H : Heap) (locs : List Loc) (ls : Array Slot), va_P (dC, dI) vwCl [(h0, .inr (4, [.ref h1, .ref h2])), (h1, .inl (cJ, 64, .inr (.inl s0.1))), (h2, .inl (cJ, 128, .inr (.inl v81)))] H → va_D A [(h0, .inr (4, [.ref h1, .ref h2])), (h1, .inl (cJ, 64, .inr (.inl s0.1))), (h2, .inl (cJ, 128, .inr (.inl v81)))] → va_S A s.heap H locs → lv_has ls 8 [] → W p l e (headSpec wsX4_renew ({ frames := 1, cells := 0, slots := 0, locals := 25 } : Room)).room s m ([.ref h0, .int x1] : List Value).toArray below meth c H locs 0 0 Q (F0 m 153 ls [])) → W p l e (headSpec wsX4_renew ({ frames := 1, cells := 0, slots := 0, locals := 25 } : Room)).room s m ([.ref h0, .int x1] : List Value).toArray below meth c H locs 0 0 Q (F0 m 81 ls []) := by
    intro Q n81
    induction n81 with
    | zero =>
      intro p81_6 p81_5 p81_4 q81_0 v81 h
      rw [f_X4_renew_81] at h
      cases h
    | succ n81 ih81 =>
      intro p81_6 p81_5 p81_4 q81_0 v81 h H locs ls hP hD hS hl kx81
      rw [f_X4_renew_81] at h
      refine lv_iload hx hb dX4_renew_81 (lv_at hl 0 rfl) ?_
      refine lv_bipush (v := 6) hx hb dX4_renew_83 (by decide) ?_
      refine lv_icmp_ge (tgt := 153) hx hb dX4_renew_85 (by decide) (fun c11 => ?_) (fun c11 => ?_)
      · have h := ie_t c11 h
        obtain rfl := Option.some.inj h
        exact kx81 _ _ _ hP hD hS (lv_sub hl [] rfl)
      · have h := ie_f c11 h
        refine lv_iload hx hb dX4_renew_88 (lv_at hl 2 rfl) ?_
        refine lv_iconst (v := 2) hx hb dX4_renew_90 (by decide) ?_
        refine lv_idiv hx hb dX4_renew_91 (by decide) ?_
        refine lv_istore (lv' := [(4, .int (p81_4 / 2)), (6, .int p81_6), (5, .int p81_5), (0, .ref h0)]) hx hb dX4_renew_92 hl (by decide) rfl (fun ls hl => ?_)
        refine lv_iload hx hb dX4_renew_94 (lv_at hl 2 rfl) ?_
        refine lv_iconst (v := 2) hx hb dX4_renew_96 (by decide) ?_
        refine lv_idiv hx hb dX4_renew_97 (by decide) ?_
        refine lv_istore (lv' := [(5, .int (p81_5 / 2)), (4, .int (p81_4 / 2)), (6, .int p81_6), (0, .ref h0)]) hx hb dX4_renew_98 hl (by decide) rfl (fun ls hl => ?_)
        refine lv_iload hx hb dX4_renew_100 (lv_at hl 1 rfl) ?_
        refine lv_istore (lv' := [(7, .int (p81_4 / 2)), (5, .int (p81_5 / 2)), (4, .int (p81_4 / 2)), (6, .int p81_6), (0, .ref h0)]) hx hb dX4_renew_102 hl (by decide) rfl (fun ls hl => ?_)
        have lp104 : ∀ (Q : State → Prop) (n104 : Nat) (p104_7 : Int32) (q104_0 : (Nat → Int64)) (v104 : (Nat → Int64)), f_X4_renew_104 (p81_5 / 2) n104 p104_7 q104_0 = some v104 → ∀ (H : Heap) (locs : List Loc) (ls : Array Slot), va_P (dC, dI) vwCl [(h0, .inr (4, [.ref h1, .ref h2])), (h1, .inl (cJ, 64, .inr (.inl s0.1))), (h2, .inl (cJ, 128, .inr (.inl q104_0)))] H → va_D A [(h0, .inr (4, [.ref h1, .ref h2])), (h1, .inl (cJ, 64, .inr (.inl s0.1))), (h2, .inl (cJ, 128, .inr (.inl q104_0)))] → va_S A s.heap H locs → lv_has ls 8 [(7, .int p104_7), (5, .int (p81_5 / 2)), (4, .int (p81_4 / 2)), (6, .int p81_6), (0, .ref h0)] → (∀ (H : Heap) (locs : List Loc) (ls : Array Slot), va_P (dC, dI) vwCl [(h0, .inr (4, [.ref h1, .ref h2])), (h1, .inl (cJ, 64, .inr (.inl s0.1))), (h2, .inl (cJ, 128, .inr (.inl v104)))] H → va_D A [(h0, .inr (4, [.ref h1, .ref h2])), (h1, .inl (cJ, 64, .inr (.inl s0.1))), (h2, .inl (cJ, 128, .inr (.inl v104)))] → va_S A s.heap H locs → lv_has ls 8 [(5, .int (p81_5 / 2)), (4, .int (p81_4 / 2)), (6, .int p81_6), (0, .ref h0)] → W p l e (headSpec wsX4_renew ({ frames := 1, cells := 0, slots := 0, locals := 25 } : Room)).room s m ([.ref h0, .int x1] : List Value).toArray below meth c H locs 0 0 Q (F0 m 147 ls [])) → W p l e (headSpec wsX4_renew ({ frames := 1, cells := 0, slots := 0, locals := 25 } : Room)).room s m ([.ref h0, .int x1] : List Value).toArray below meth c H locs 0 0 Q (F0 m 104 ls []) := by
          intro Q n104
          induction n104 with
          | zero =>
            intro p104_7 q104_0 v104 h
            rw [f_X4_renew_104] at h
            cases h
          | succ n104 ih104 =>
            intro p104_7 q104_0 v104 h H locs ls hP hD hS hl kx104
            rw [f_X4_renew_104] at h
            refine lv_iload hx hb dX4_renew_104 (lv_at hl 0 rfl) ?_
            refine lv_iload hx hb dX4_renew_106 (lv_at hl 1 rfl) ?_
            refine lv_icmp_gt (tgt := 147) hx hb dX4_renew_108 (by decide) (fun c12 => ?_) (fun c12 => ?_)
            · have h := ie_t c12 h
              obtain rfl := Option.some.inj h
              exact kx104 _ _ _ hP hD hS (lv_sub hl [1, 2, 3, 4] rfl)
            · have h := ie_f c12 h
              refine lv_aload_n hx hb dX4_renew_111 rfl (lv_at hl 4 rfl) ?_
              refine va_get (D := (dC, dI)) (ci := 4) (v := .ref h2) (C := RX4) (T := TX4) (N := 2) hx hb hts (by decide +kernel) hown hK hP 0 rfl rfl 1 (by decide) (hts (.fieldLink RX4 13 "SnapshotPieces$Tree" "digests" "[J") (by decide +kernel)) (fun _ h9 => h9) rfl dX4_renew_112 ?_
              refine lv_iload hx hb dX4_renew_115 (lv_at hl 0 rfl) ?_
              refine lv_aload_n hx hb dX4_renew_117 rfl (lv_at hl 4 rfl) ?_
              refine va_get (D := (dC, dI)) (ci := 4) (v := .ref h2) (C := RX4) (T := TX4) (N := 2) hx hb hts (by decide +kernel) hown hK hP 0 rfl rfl 1 (by decide) (hts (.fieldLink RX4 13 "SnapshotPieces$Tree" "digests" "[J") (by decide +kernel)) (fun _ h9 => h9) rfl dX4_renew_118 ?_
              refine lv_iconst (v := 2) hx hb dX4_renew_121 (by decide) ?_
              refine lv_iload hx hb dX4_renew_122 (lv_at hl 0 rfl) ?_
              refine lv_imul hx hb dX4_renew_124 ?_
              obtain ⟨g13, h⟩ := kb_e h
              refine va_lald hx hb hK hP 2 1 rfl rfl (ib_in g13) dX4_renew_125 ?_
              refine lv_aload_n hx hb dX4_renew_126 rfl (lv_at hl 4 rfl) ?_
              refine va_get (D := (dC, dI)) (ci := 4) (v := .ref h2) (C := RX4) (T := TX4) (N := 2) hx hb hts (by decide +kernel) hown hK hP 0 rfl rfl 1 (by decide) (hts (.fieldLink RX4 13 "SnapshotPieces$Tree" "digests" "[J") (by decide +kernel)) (fun _ h9 => h9) rfl dX4_renew_127 ?_
              refine lv_iconst (v := 2) hx hb dX4_renew_130 (by decide) ?_
              refine lv_iload hx hb dX4_renew_131 (lv_at hl 0 rfl) ?_
              refine lv_imul hx hb dX4_renew_133 ?_
              refine lv_iconst (v := 1) hx hb dX4_renew_134 (by decide) ?_
              refine lv_iadd hx hb dX4_renew_135 ?_
              obtain ⟨g14, h⟩ := kb_e h
              refine va_lald hx hb hK hP 2 1 rfl rfl (ib_in g14) dX4_renew_136 ?_
              obtain ⟨u15, hc15, h⟩ := bd_e h
              refine cc_l (tys := TY cI cJ cZ) ([] : va_W) [(h0, .inr (4, [.ref h1, .ref h2])), (h1, .inl (cJ, 64, .inr (.inl s0.1))), (h2, .inl (cJ, 128, .inr (.inl q104_0)))] ([] : va_W) [(h0, .inr (4, [.ref h1, .ref h2])), (h1, .inl (cJ, 64, .inr (.inl s0.1))), (h2, .inl (cJ, 128, .inr (.inl q104_0)))] hP hD hS hA [] [0, 1, 2] [0, 1, 2] rfl rfl (by decide) (by decide) rfl (by decide) rfl (va_runS (As := [.long (q104_0 (Int32.toNatClampNeg (2 * p104_7))), .long (q104_0 (Int32.toNatClampNeg ((2 * p104_7) + 1)))]) (rest := [.int p104_7, .ref h2]) ⟨hx, hb, hml, hown, hts⟩ (k_X4_mix l dC dI cI cJ cZ (q104_0 (Int32.toNatClampNeg (2 * p104_7))) (q104_0 (Int32.toNatClampNeg ((2 * p104_7) + 1))) u15 hc15 _) (va_cwS 2 hts gX4_renew_X4_mix rfl rfl rfl (by decide +kernel) ⟨Nat.le_of_ble_eq_true rfl, Nat.le_of_ble_eq_true rfl⟩) ⟨cPre_blind, cPre_in hP hD hK [] rfl (by decide) rfl⟩ rfl rfl hl.1 rfl (lv_room (Nat.le_of_ble_eq_true rfl)) dX4_renew_137 ⟨Nat.le_of_ble_eq_true rfl, Nat.le_of_ble_eq_true rfl⟩) (fun H locs hP hD hS => ?_)
              obtain ⟨g16, h⟩ := kb_e h
              refine va_last hx hb hK hP hD hS 2 1 rfl rfl (ib_in g16) dX4_renew_140 (fun H locs hP hD hS => ?_)
              have hP : va_P (dC, dI) vwCl [(h0, .inr (4, [.ref h1, .ref h2])), (h1, .inl (cJ, 64, .inr (.inl s0.1))), (h2, .inl (cJ, 128, .inr (.inl (vp_updL q104_0 (Int32.toNatClampNeg p104_7) u15))))] H := hP
              have hD : va_D A [(h0, .inr (4, [.ref h1, .ref h2])), (h1, .inl (cJ, 64, .inr (.inl s0.1))), (h2, .inl (cJ, 128, .inr (.inl (vp_updL q104_0 (Int32.toNatClampNeg p104_7) u15))))] := hD
              refine lv_iinc (v := (p104_7 + 1)) (lv' := [(7, .int (p104_7 + 1)), (5, .int (p81_5 / 2)), (4, .int (p81_4 / 2)), (6, .int p81_6), (0, .ref h0)]) hx hb dX4_renew_141 hl (k := 0) rfl rfl (by decide) rfl (fun ls hl => ?_)
              refine lv_goto (tgt := 104) hx hb dX4_renew_144 (by decide) ?_
              exact ih104 (p104_7 + 1) (vp_updL q104_0 (Int32.toNatClampNeg p104_7) u15) v104 h _ _ _ hP hD hS (lv_sub hl [0, 1, 2, 3, 4] rfl) kx104
        obtain ⟨u17, hc17, h⟩ := bd_e h
        refine lp104 _ FU (p81_4 / 2) q81_0 u17 hc17 _ _ _ hP hD hS (lv_sub hl [0, 1, 2, 3, 4] rfl) (fun H locs ls hP hD hS hl => ?_)
        refine lv_iinc (v := (p81_6 + 1)) (lv' := [(6, .int (p81_6 + 1)), (5, .int (p81_5 / 2)), (4, .int (p81_4 / 2)), (0, .ref h0)]) hx hb dX4_renew_147 hl (k := 2) rfl rfl (by decide) rfl (fun ls hl => ?_)
        refine lv_goto (tgt := 81) hx hb dX4_renew_150 (by decide) ?_
        exact ih81 (p81_6 + 1) (p81_5 / 2) (p81_4 / 2) u17 v81 h _ _ _ hP hD hS (lv_sub hl [0, 1, 2, 3] rfl) kx81
  obtain ⟨u18, hc18, h⟩ := bd_e h
  refine lp81 _ FU 0 (64 + u2) (64 + u1) u10 u18 hc18 _ _ _ hP hD hS (lv_sub hl [0, 1, 2, 5] rfl) (fun H locs ls hP hD hS hl => ?_)
  obtain rfl := Option.some.inj h
  exact W.vret hx hb hr (fun t ht hW => ⟨⟨(), rfl, trivial, by rw [ht]; exact hP, va_K.moved hW.alike hK, hD⟩, hS.F ht⟩) hS.2.2 dX4_renew_153
def f_X4_put (s0 : S_Tree) (x1 : Int32) (x2 : Int64) : Option (S_Tree) := (f_X4_isPath x1).bind fun u1 => if u1 = 0 then (some s0) else (kb (ib x1 64) ((f_X4_renew ((vp_updL s0.1 (Int32.toNatClampNeg x1) x2), s0.2) (64 + x1)).bind fun u4 => some u4))
set_option maxHeartbeats 4000000 in
set_option maxRecDepth 100000 in
theorem k_X4_put (l : Launch) (dC : Nat → ClassId) (dI : Nat → Nat → Nat) (cI cJ cZ : ClassId) (h0 h1 h2 : Nat) (s0 : S_Tree) (x1 : Int32) (x2 : Int64) (u : S_Tree) (hf : f_X4_put s0 x1 x2 = some u) (sz : Nat) : Met l yX4_put wsX4_put ({ frames := 2, cells := 0, slots := 0, locals := 52 }) (cPre (dC, dI) vwCl (TY cI cJ cZ) [.ref h0, .int x1, .long x2] [(h0, .inr (4, [.ref h1, .ref h2])), (h1, .inl (cJ, 64, .inr (.inl s0.1))), (h2, .inl (cJ, 128, .inr (.inl s0.2)))] sz) (va_Qv (fun (_ : Unit) => True) (fun _ t => cB (dC, dI) vwCl (TY cI cJ cZ) (va_A [(h0, .inr (4, [.ref h1, .ref h2])), (h1, .inl (cJ, 64, .inr (.inl s0.1))), (h2, .inl (cJ, 128, .inr (.inl s0.2)))] sz) [(h0, .inr (4, [.ref h1, .ref h2])), (h1, .inl (cJ, 64, .inr (.inl u.1))), (h2, .inl (cJ, 128, .inr (.inl u.2)))] t) (va_A [(h0, .inr (4, [.ref h1, .ref h2])), (h1, .inl (cJ, 64, .inr (.inl s0.1))), (h2, .inl (cJ, 128, .inr (.inl s0.2)))] sz)) 0 0 (va_A [(h0, .inr (4, [.ref h1, .ref h2])), (h1, .inl (cJ, 64, .inr (.inl s0.1))), (h2, .inl (cJ, 128, .inr (.inl s0.2)))] sz) := by
  refine Met.ofW (cc := cX4_put) (maxL := 4) (ret := none) (by decide) rfl ?_
  intro p e s m args below meth c s₁ B hml hv
  obtain ⟨rfl, hsz, hP, hK, hD0⟩ := hv
  have hx := B.exec
  have hb := B.bytes
  have hr := B.returns
  have hts := atoms_spec (ws := wsX4_put) B.pre
  have hown : s.vm.findClass RX4 = some m.cls := findClass_of_methodNamed B.named
  have hlocks := B.notSynchronized
  subst hsz
  have hD := hD0.self (sz := s.heap.size)
  generalize hAe : va_A [(h0, .inr (4, [.ref h1, .ref h2])), (h1, .inl (cJ, 64, .inr (.inl s0.1))), (h2, .inl (cJ, 128, .inr (.inl s0.2)))] s.heap.size = A at hD ⊢
  have hA : ∀ q : Nat, s.heap.size ≤ q → A q := fun q h => by rw [← hAe]; exact Or.inr h
  have hS : va_S A s.heap s.heap [] := va_S.rf
  have hl := lv_entry ([.ref h0, .int x1, .long x2]) (n := 4) (Nat.le_of_ble_eq_true rfl)
  rw [lg_entry_eq]
  generalize (lg_sl ([.ref h0, .int x1, .long x2]) ++ List.replicate (4 - (lg_sl ([.ref h0, .int x1, .long x2])).length) Slot.unset).toArray = ls at hl ⊢
  have hl : lv_has ls 4 [(0, .ref h0), (1, .int x1), (2, .long x2)] := hl
  have h := hf
  unfold f_X4_put at h
  refine lv_iload_n hx hb dX4_put_0 rfl (lv_at hl 1 rfl) ?_
  obtain ⟨u1, hc1, h⟩ := bd_e h
  refine cc_i (tys := TY cI cJ cZ) ([] : va_W) [(h0, .inr (4, [.ref h1, .ref h2])), (h1, .inl (cJ, 64, .inr (.inl s0.1))), (h2, .inl (cJ, 128, .inr (.inl s0.2)))] ([] : va_W) [(h0, .inr (4, [.ref h1, .ref h2])), (h1, .inl (cJ, 64, .inr (.inl s0.1))), (h2, .inl (cJ, 128, .inr (.inl s0.2)))] hP hD hS hA [] [0, 1, 2] [0, 1, 2] rfl rfl (by decide) (by decide) rfl (by decide) rfl (va_runS (As := [.int x1]) (rest := []) ⟨hx, hb, hml, hown, hts⟩ (k_X4_isPath l dC dI cI cJ cZ x1 u1 hc1 _) (va_cwS 1 hts gX4_put_X4_isPath rfl rfl rfl (by decide +kernel) ⟨Nat.le_of_ble_eq_true rfl, Nat.le_of_ble_eq_true rfl⟩) ⟨cPre_blind, cPre_in hP hD hK [] rfl (by decide) rfl⟩ rfl rfl hl.1 rfl (lv_room (Nat.le_of_ble_eq_true rfl)) dX4_put_1 ⟨Nat.le_of_ble_eq_true rfl, Nat.le_of_ble_eq_true rfl⟩) (fun H locs hP hD hS => ?_)
  refine lv_if_eq (tgt := 22) hx hb dX4_put_4 (by decide) (fun c2 => ?_) (fun c2 => ?_)
  · have h := ie_t c2 h
    obtain rfl := Option.some.inj h
    exact W.vret hx hb hr (fun t ht hW => ⟨⟨(), rfl, trivial, by rw [ht]; exact hP, va_K.moved hW.alike hK, hD⟩, hS.F ht⟩) hS.2.2 dX4_put_22
  · have h := ie_f c2 h
    refine lv_aload_n hx hb dX4_put_7 rfl (lv_at hl 0 rfl) ?_
    refine va_get (D := (dC, dI)) (ci := 4) (v := .ref h1) (C := RX4) (T := TX4) (N := 2) hx hb hts (by decide +kernel) hown hK hP 0 rfl rfl 0 (by decide) (hts (.fieldLink RX4 9 "SnapshotPieces$Tree" "values" "[J") (by decide +kernel)) (fun _ h9 => h9) rfl dX4_put_8 ?_
    refine lv_iload_n hx hb dX4_put_11 rfl (lv_at hl 1 rfl) ?_
    refine lv_lload_n hx hb dX4_put_12 rfl (lv_at hl 2 rfl) ?_
    obtain ⟨g3, h⟩ := kb_e h
    refine va_last hx hb hK hP hD hS 1 1 rfl rfl (ib_in g3) dX4_put_13 (fun H locs hP hD hS => ?_)
    have hP : va_P (dC, dI) vwCl [(h0, .inr (4, [.ref h1, .ref h2])), (h1, .inl (cJ, 64, .inr (.inl (vp_updL s0.1 (Int32.toNatClampNeg x1) x2)))), (h2, .inl (cJ, 128, .inr (.inl s0.2)))] H := hP
    have hD : va_D A [(h0, .inr (4, [.ref h1, .ref h2])), (h1, .inl (cJ, 64, .inr (.inl (vp_updL s0.1 (Int32.toNatClampNeg x1) x2)))), (h2, .inl (cJ, 128, .inr (.inl s0.2)))] := hD
    refine lv_aload_n hx hb dX4_put_14 rfl (lv_at hl 0 rfl) ?_
    refine lv_bipush (v := 64) hx hb dX4_put_15 (by decide) ?_
    refine lv_iload_n hx hb dX4_put_17 rfl (lv_at hl 1 rfl) ?_
    refine lv_iadd hx hb dX4_put_18 ?_
    obtain ⟨u4, hc4, h⟩ := bd_e h
    refine cc_v (tys := TY cI cJ cZ) [(h0, .inr (4, [.ref h1, .ref h2])), (h1, .inl (cJ, 64, .inr (.inl (vp_updL s0.1 (Int32.toNatClampNeg x1) x2)))), (h2, .inl (cJ, 128, .inr (.inl s0.2)))] ([] : va_W) [(h0, .inr (4, [.ref h1, .ref h2])), (h1, .inl (cJ, 64, .inr (.inl u4.1))), (h2, .inl (cJ, 128, .inr (.inl u4.2)))] [(h0, .inr (4, [.ref h1, .ref h2])), (h1, .inl (cJ, 64, .inr (.inl u4.1))), (h2, .inl (cJ, 128, .inr (.inl u4.2)))] hP hD hS hA [0, 1, 2] [] [0, 1, 2] rfl rfl (by decide) (by decide) rfl (by decide) rfl (va_runV (As := [.int (64 + x1)]) (rest := []) ⟨hx, hb, hml, hown, hts⟩ (k_X4_renew l dC dI cI cJ cZ h0 h1 h2 ((vp_updL s0.1 (Int32.toNatClampNeg x1) x2), s0.2) (64 + x1) u4 hc4 _) (cwV 1 hts gX4_put_X4_renew rfl rfl rfl (by decide +kernel) ⟨Nat.le_of_ble_eq_true rfl, Nat.le_of_ble_eq_true rfl⟩) ⟨cPre_blind, va_recv hK hP (ci := 4) (q0 := 0) rfl rfl, cPre_in hP hD hK [0, 1, 2] rfl (by decide) rfl⟩ rfl rfl hl.1 rfl (lv_room (Nat.le_of_ble_eq_true rfl)) dX4_put_19 ⟨Nat.le_of_ble_eq_true rfl, Nat.le_of_ble_eq_true rfl⟩) (fun H locs hP hD hS => ?_)
    obtain rfl := Option.some.inj h
    exact W.vret hx hb hr (fun t ht hW => ⟨⟨(), rfl, trivial, by rw [ht]; exact hP, va_K.moved hW.alike hK, hD⟩, hS.F ht⟩) hS.2.2 dX4_put_22
def f_X4_emptyBelow_18 (y2 : Int32) : Nat → Int32 → (Nat → Int64) → Option ((Nat → Int64))
  | 0, _, _ => none
  | n + 1, y3, t0 => if y2 < y3 then (some t0) else (kb (ib y3 64) (f_X4_emptyBelow_18 y2 n (y3 + 1) (vp_updL t0 (Int32.toNatClampNeg y3) 0)))
def f_X4_emptyBelow (s0 : S_Tree) (x1 : Int32) : Option (S_Tree) := (f_X4_isNode x1).bind fun u1 => if u1 = 0 then (some s0) else ((f_X4_lastPath x1).bind fun u3 => (f_X4_firstPath x1).bind fun u4 => (f_X4_emptyBelow_18 u3 FU u4 s0.1).bind fun u7 => (f_X4_renew (u7, s0.2) x1).bind fun u8 => some u8)
set_option maxHeartbeats 4000000 in
set_option maxRecDepth 100000 in
theorem k_X4_emptyBelow (l : Launch) (dC : Nat → ClassId) (dI : Nat → Nat → Nat) (cI cJ cZ : ClassId) (h0 h1 h2 : Nat) (s0 : S_Tree) (x1 : Int32) (u : S_Tree) (hf : f_X4_emptyBelow s0 x1 = some u) (sz : Nat) : Met l yX4_emptyBelow wsX4_emptyBelow ({ frames := 2, cells := 0, slots := 0, locals := 52 }) (cPre (dC, dI) vwCl (TY cI cJ cZ) [.ref h0, .int x1] [(h0, .inr (4, [.ref h1, .ref h2])), (h1, .inl (cJ, 64, .inr (.inl s0.1))), (h2, .inl (cJ, 128, .inr (.inl s0.2)))] sz) (va_Qv (fun (_ : Unit) => True) (fun _ t => cB (dC, dI) vwCl (TY cI cJ cZ) (va_A [(h0, .inr (4, [.ref h1, .ref h2])), (h1, .inl (cJ, 64, .inr (.inl s0.1))), (h2, .inl (cJ, 128, .inr (.inl s0.2)))] sz) [(h0, .inr (4, [.ref h1, .ref h2])), (h1, .inl (cJ, 64, .inr (.inl u.1))), (h2, .inl (cJ, 128, .inr (.inl u.2)))] t) (va_A [(h0, .inr (4, [.ref h1, .ref h2])), (h1, .inl (cJ, 64, .inr (.inl s0.1))), (h2, .inl (cJ, 128, .inr (.inl s0.2)))] sz)) 0 0 (va_A [(h0, .inr (4, [.ref h1, .ref h2])), (h1, .inl (cJ, 64, .inr (.inl s0.1))), (h2, .inl (cJ, 128, .inr (.inl s0.2)))] sz) := by
  refine Met.ofW (cc := cX4_emptyBelow) (maxL := 4) (ret := none) (by decide) rfl ?_
  intro p e s m args below meth c s₁ B hml hv
  obtain ⟨rfl, hsz, hP, hK, hD0⟩ := hv
  have hx := B.exec
  have hb := B.bytes
  have hr := B.returns
  have hts := atoms_spec (ws := wsX4_emptyBelow) B.pre
  have hown : s.vm.findClass RX4 = some m.cls := findClass_of_methodNamed B.named
  have hlocks := B.notSynchronized
  subst hsz
  have hD := hD0.self (sz := s.heap.size)
  generalize hAe : va_A [(h0, .inr (4, [.ref h1, .ref h2])), (h1, .inl (cJ, 64, .inr (.inl s0.1))), (h2, .inl (cJ, 128, .inr (.inl s0.2)))] s.heap.size = A at hD ⊢
  have hA : ∀ q : Nat, s.heap.size ≤ q → A q := fun q h => by rw [← hAe]; exact Or.inr h
  have hS : va_S A s.heap s.heap [] := va_S.rf
  have hl := lv_entry ([.ref h0, .int x1]) (n := 4) (Nat.le_of_ble_eq_true rfl)
  rw [lg_entry_eq]
  generalize (lg_sl ([.ref h0, .int x1]) ++ List.replicate (4 - (lg_sl ([.ref h0, .int x1])).length) Slot.unset).toArray = ls at hl ⊢
  have hl : lv_has ls 4 [(0, .ref h0), (1, .int x1)] := hl
  have h := hf
  unfold f_X4_emptyBelow at h
  refine lv_iload_n hx hb dX4_emptyBelow_0 rfl (lv_at hl 1 rfl) ?_
  obtain ⟨u1, hc1, h⟩ := bd_e h
  refine cc_i (tys := TY cI cJ cZ) ([] : va_W) [(h0, .inr (4, [.ref h1, .ref h2])), (h1, .inl (cJ, 64, .inr (.inl s0.1))), (h2, .inl (cJ, 128, .inr (.inl s0.2)))] ([] : va_W) [(h0, .inr (4, [.ref h1, .ref h2])), (h1, .inl (cJ, 64, .inr (.inl s0.1))), (h2, .inl (cJ, 128, .inr (.inl s0.2)))] hP hD hS hA [] [0, 1, 2] [0, 1, 2] rfl rfl (by decide) (by decide) rfl (by decide) rfl (va_runS (As := [.int x1]) (rest := []) ⟨hx, hb, hml, hown, hts⟩ (k_X4_isNode l dC dI cI cJ cZ x1 u1 hc1 _) (va_cwS 1 hts gX4_emptyBelow_X4_isNode rfl rfl rfl (by decide +kernel) ⟨Nat.le_of_ble_eq_true rfl, Nat.le_of_ble_eq_true rfl⟩) ⟨cPre_blind, cPre_in hP hD hK [] rfl (by decide) rfl⟩ rfl rfl hl.1 rfl (lv_room (Nat.le_of_ble_eq_true rfl)) dX4_emptyBelow_1 ⟨Nat.le_of_ble_eq_true rfl, Nat.le_of_ble_eq_true rfl⟩) (fun H locs hP hD hS => ?_)
  refine lv_if_ne (tgt := 8) hx hb dX4_emptyBelow_4 (by decide) (fun c2 => ?_) (fun c2 => ?_)
  · have h := ie_f c2 h
    refine lv_iload_n hx hb dX4_emptyBelow_8 rfl (lv_at hl 1 rfl) ?_
    obtain ⟨u3, hc3, h⟩ := bd_e h
    refine cc_i (tys := TY cI cJ cZ) ([] : va_W) [(h0, .inr (4, [.ref h1, .ref h2])), (h1, .inl (cJ, 64, .inr (.inl s0.1))), (h2, .inl (cJ, 128, .inr (.inl s0.2)))] ([] : va_W) [(h0, .inr (4, [.ref h1, .ref h2])), (h1, .inl (cJ, 64, .inr (.inl s0.1))), (h2, .inl (cJ, 128, .inr (.inl s0.2)))] hP hD hS hA [] [0, 1, 2] [0, 1, 2] rfl rfl (by decide) (by decide) rfl (by decide) rfl (va_runS (As := [.int x1]) (rest := []) ⟨hx, hb, hml, hown, hts⟩ (k_X4_lastPath l dC dI cI cJ cZ x1 u3 hc3 _) (va_cwS 1 hts gX4_emptyBelow_X4_lastPath rfl rfl rfl (by decide +kernel) ⟨Nat.le_of_ble_eq_true rfl, Nat.le_of_ble_eq_true rfl⟩) ⟨cPre_blind, cPre_in hP hD hK [] rfl (by decide) rfl⟩ rfl rfl hl.1 rfl (lv_room (Nat.le_of_ble_eq_true rfl)) dX4_emptyBelow_9 ⟨Nat.le_of_ble_eq_true rfl, Nat.le_of_ble_eq_true rfl⟩) (fun H locs hP hD hS => ?_)
    refine lv_istore_n (lv' := [(2, .int u3), (0, .ref h0), (1, .int x1)]) hx hb dX4_emptyBelow_12 rfl hl (by decide) rfl (fun ls hl => ?_)
    refine lv_iload_n hx hb dX4_emptyBelow_13 rfl (lv_at hl 2 rfl) ?_
    obtain ⟨u4, hc4, h⟩ := bd_e h
    refine cc_i (tys := TY cI cJ cZ) ([] : va_W) [(h0, .inr (4, [.ref h1, .ref h2])), (h1, .inl (cJ, 64, .inr (.inl s0.1))), (h2, .inl (cJ, 128, .inr (.inl s0.2)))] ([] : va_W) [(h0, .inr (4, [.ref h1, .ref h2])), (h1, .inl (cJ, 64, .inr (.inl s0.1))), (h2, .inl (cJ, 128, .inr (.inl s0.2)))] hP hD hS hA [] [0, 1, 2] [0, 1, 2] rfl rfl (by decide) (by decide) rfl (by decide) rfl (va_runS (As := [.int x1]) (rest := []) ⟨hx, hb, hml, hown, hts⟩ (k_X4_firstPath l dC dI cI cJ cZ x1 u4 hc4 _) (va_cwS 1 hts gX4_emptyBelow_X4_firstPath rfl rfl rfl (by decide +kernel) ⟨Nat.le_of_ble_eq_true rfl, Nat.le_of_ble_eq_true rfl⟩) ⟨cPre_blind, cPre_in hP hD hK [] rfl (by decide) rfl⟩ rfl rfl hl.1 rfl (lv_room (Nat.le_of_ble_eq_true rfl)) dX4_emptyBelow_14 ⟨Nat.le_of_ble_eq_true rfl, Nat.le_of_ble_eq_true rfl⟩) (fun H locs hP hD hS => ?_)
    refine lv_istore_n (lv' := [(3, .int u4), (2, .int u3), (0, .ref h0), (1, .int x1)]) hx hb dX4_emptyBelow_17 rfl hl (by decide) rfl (fun ls hl => ?_)
    have lp18 : ∀ (Q : State → Prop) (n18 : Nat) (p18_3 : Int32) (q18_0 : (Nat → Int64)) (v18 : (Nat → Int64)), f_X4_emptyBelow_18 u3 n18 p18_3 q18_0 = some v18 → ∀ (H : Heap) (locs : List Loc) (ls : Array Slot), va_P (dC, dI) vwCl [(h0, .inr (4, [.ref h1, .ref h2])), (h1, .inl (cJ, 64, .inr (.inl q18_0))), (h2, .inl (cJ, 128, .inr (.inl s0.2)))] H → va_D A [(h0, .inr (4, [.ref h1, .ref h2])), (h1, .inl (cJ, 64, .inr (.inl q18_0))), (h2, .inl (cJ, 128, .inr (.inl s0.2)))] → va_S A s.heap H locs → lv_has ls 4 [(3, .int p18_3), (2, .int u3), (0, .ref h0), (1, .int x1)] → (∀ (H : Heap) (locs : List Loc) (ls : Array Slot), va_P (dC, dI) vwCl [(h0, .inr (4, [.ref h1, .ref h2])), (h1, .inl (cJ, 64, .inr (.inl v18))), (h2, .inl (cJ, 128, .inr (.inl s0.2)))] H → va_D A [(h0, .inr (4, [.ref h1, .ref h2])), (h1, .inl (cJ, 64, .inr (.inl v18))), (h2, .inl (cJ, 128, .inr (.inl s0.2)))] → va_S A s.heap H locs → lv_has ls 4 [(0, .ref h0), (1, .int x1)] → W p l e (headSpec wsX4_emptyBelow ({ frames := 2, cells := 0, slots := 0, locals := 52 } : Room)).room s m ([.ref h0, .int x1] : List Value).toArray below meth c H locs 0 0 Q (F0 m 36 ls [])) → W p l e (headSpec wsX4_emptyBelow ({ frames := 2, cells := 0, slots := 0, locals := 52 } : Room)).room s m ([.ref h0, .int x1] : List Value).toArray below meth c H locs 0 0 Q (F0 m 18 ls []) := by
      intro Q n18
      induction n18 with
      | zero =>
        intro p18_3 q18_0 v18 h
        rw [f_X4_emptyBelow_18] at h
        cases h
      | succ n18 ih18 =>
        intro p18_3 q18_0 v18 h H locs ls hP hD hS hl kx18
        rw [f_X4_emptyBelow_18] at h
        refine lv_iload_n hx hb dX4_emptyBelow_18 rfl (lv_at hl 0 rfl) ?_
        refine lv_iload_n hx hb dX4_emptyBelow_19 rfl (lv_at hl 1 rfl) ?_
        refine lv_icmp_gt (tgt := 36) hx hb dX4_emptyBelow_20 (by decide) (fun c5 => ?_) (fun c5 => ?_)
        · have h := ie_t c5 h
          obtain rfl := Option.some.inj h
          exact kx18 _ _ _ hP hD hS (lv_sub hl [2, 3] rfl)
        · have h := ie_f c5 h
          refine lv_aload_n hx hb dX4_emptyBelow_23 rfl (lv_at hl 2 rfl) ?_
          refine va_get (D := (dC, dI)) (ci := 4) (v := .ref h1) (C := RX4) (T := TX4) (N := 2) hx hb hts (by decide +kernel) hown hK hP 0 rfl rfl 0 (by decide) (hts (.fieldLink RX4 9 "SnapshotPieces$Tree" "values" "[J") (by decide +kernel)) (fun _ h9 => h9) rfl dX4_emptyBelow_24 ?_
          refine lv_iload_n hx hb dX4_emptyBelow_27 rfl (lv_at hl 0 rfl) ?_
          refine lv_lconst (v := 0) hx hb dX4_emptyBelow_28 (by decide) ?_
          obtain ⟨g6, h⟩ := kb_e h
          refine va_last hx hb hK hP hD hS 1 1 rfl rfl (ib_in g6) dX4_emptyBelow_29 (fun H locs hP hD hS => ?_)
          have hP : va_P (dC, dI) vwCl [(h0, .inr (4, [.ref h1, .ref h2])), (h1, .inl (cJ, 64, .inr (.inl (vp_updL q18_0 (Int32.toNatClampNeg p18_3) 0)))), (h2, .inl (cJ, 128, .inr (.inl s0.2)))] H := hP
          have hD : va_D A [(h0, .inr (4, [.ref h1, .ref h2])), (h1, .inl (cJ, 64, .inr (.inl (vp_updL q18_0 (Int32.toNatClampNeg p18_3) 0)))), (h2, .inl (cJ, 128, .inr (.inl s0.2)))] := hD
          refine lv_iinc (v := (p18_3 + 1)) (lv' := [(3, .int (p18_3 + 1)), (2, .int u3), (0, .ref h0), (1, .int x1)]) hx hb dX4_emptyBelow_30 hl (k := 0) rfl rfl (by decide) rfl (fun ls hl => ?_)
          refine lv_goto (tgt := 18) hx hb dX4_emptyBelow_33 (by decide) ?_
          exact ih18 (p18_3 + 1) (vp_updL q18_0 (Int32.toNatClampNeg p18_3) 0) v18 h _ _ _ hP hD hS (lv_sub hl [0, 1, 2, 3] rfl) kx18
    obtain ⟨u7, hc7, h⟩ := bd_e h
    refine lp18 _ FU u4 s0.1 u7 hc7 _ _ _ hP hD hS (lv_sub hl [0, 1, 2, 3] rfl) (fun H locs ls hP hD hS hl => ?_)
    refine lv_aload_n hx hb dX4_emptyBelow_36 rfl (lv_at hl 0 rfl) ?_
    refine lv_iload_n hx hb dX4_emptyBelow_37 rfl (lv_at hl 1 rfl) ?_
    obtain ⟨u8, hc8, h⟩ := bd_e h
    refine cc_v (tys := TY cI cJ cZ) [(h0, .inr (4, [.ref h1, .ref h2])), (h1, .inl (cJ, 64, .inr (.inl u7))), (h2, .inl (cJ, 128, .inr (.inl s0.2)))] ([] : va_W) [(h0, .inr (4, [.ref h1, .ref h2])), (h1, .inl (cJ, 64, .inr (.inl u8.1))), (h2, .inl (cJ, 128, .inr (.inl u8.2)))] [(h0, .inr (4, [.ref h1, .ref h2])), (h1, .inl (cJ, 64, .inr (.inl u8.1))), (h2, .inl (cJ, 128, .inr (.inl u8.2)))] hP hD hS hA [0, 1, 2] [] [0, 1, 2] rfl rfl (by decide) (by decide) rfl (by decide) rfl (va_runV (As := [.int x1]) (rest := []) ⟨hx, hb, hml, hown, hts⟩ (k_X4_renew l dC dI cI cJ cZ h0 h1 h2 (u7, s0.2) x1 u8 hc8 _) (cwV 1 hts gX4_emptyBelow_X4_renew rfl rfl rfl (by decide +kernel) ⟨Nat.le_of_ble_eq_true rfl, Nat.le_of_ble_eq_true rfl⟩) ⟨cPre_blind, va_recv hK hP (ci := 4) (q0 := 0) rfl rfl, cPre_in hP hD hK [0, 1, 2] rfl (by decide) rfl⟩ rfl rfl hl.1 rfl (lv_room (Nat.le_of_ble_eq_true rfl)) dX4_emptyBelow_38 ⟨Nat.le_of_ble_eq_true rfl, Nat.le_of_ble_eq_true rfl⟩) (fun H locs hP hD hS => ?_)
    obtain rfl := Option.some.inj h
    exact W.vret hx hb hr (fun t ht hW => ⟨⟨(), rfl, trivial, by rw [ht]; exact hP, va_K.moved hW.alike hK, hD⟩, hS.F ht⟩) hS.2.2 dX4_emptyBelow_41
  · have h := ie_t c2 h
    obtain rfl := Option.some.inj h
    exact W.vret hx hb hr (fun t ht hW => ⟨⟨(), rfl, trivial, by rw [ht]; exact hP, va_K.moved hW.alike hK, hD⟩, hS.F ht⟩) hS.2.2 dX4_emptyBelow_7
def f_X4_copyBelow_19 (y3 : Int32) (t2 : S_Tree) : Nat → Int32 → (Nat → Int64) → Option ((Nat → Int64))
  | 0, _, _ => none
  | n + 1, y4, t0 => if y3 < y4 then (some t0) else (kb (ib y4 64) (kb (ib y4 64) (f_X4_copyBelow_19 y3 t2 n (y4 + 1) (vp_updL t0 (Int32.toNatClampNeg y4) (t2.1 (Int32.toNatClampNeg y4))))))
def f_X4_copyBelow (s0 : S_Tree) (s1 : S_Tree) (x1 : Int32) : Option (S_Tree) := (f_X4_isNode x1).bind fun u1 => if u1 = 0 then (some s0) else ((f_X4_lastPath x1).bind fun u3 => (f_X4_firstPath x1).bind fun u4 => (f_X4_copyBelow_19 u3 s1 FU u4 s0.1).bind fun u8 => (f_X4_renew (u8, s0.2) x1).bind fun u9 => some u9)
set_option maxHeartbeats 4000000 in
set_option maxRecDepth 100000 in
theorem k_X4_copyBelow (l : Launch) (dC : Nat → ClassId) (dI : Nat → Nat → Nat) (cI cJ cZ : ClassId) (h0 h1 h2 h3 h4 h5 : Nat) (s0 : S_Tree) (s1 : S_Tree) (x1 : Int32) (u : S_Tree) (hf : f_X4_copyBelow s0 s1 x1 = some u) (sz : Nat) : Met l yX4_copyBelow wsX4_copyBelow ({ frames := 2, cells := 0, slots := 0, locals := 52 }) (cPre (dC, dI) vwCl (TY cI cJ cZ) [.ref h0, .int x1, .ref h3] [(h0, .inr (4, [.ref h1, .ref h2])), (h1, .inl (cJ, 64, .inr (.inl s0.1))), (h2, .inl (cJ, 128, .inr (.inl s0.2))), (h3, .inr (4, [.ref h4, .ref h5])), (h4, .inl (cJ, 64, .inr (.inl s1.1))), (h5, .inl (cJ, 128, .inr (.inl s1.2)))] sz) (va_Qv (fun (_ : Unit) => True) (fun _ t => cB (dC, dI) vwCl (TY cI cJ cZ) (va_A [(h0, .inr (4, [.ref h1, .ref h2])), (h1, .inl (cJ, 64, .inr (.inl s0.1))), (h2, .inl (cJ, 128, .inr (.inl s0.2))), (h3, .inr (4, [.ref h4, .ref h5])), (h4, .inl (cJ, 64, .inr (.inl s1.1))), (h5, .inl (cJ, 128, .inr (.inl s1.2)))] sz) [(h0, .inr (4, [.ref h1, .ref h2])), (h1, .inl (cJ, 64, .inr (.inl u.1))), (h2, .inl (cJ, 128, .inr (.inl u.2))), (h3, .inr (4, [.ref h4, .ref h5])), (h4, .inl (cJ, 64, .inr (.inl s1.1))), (h5, .inl (cJ, 128, .inr (.inl s1.2)))] t) (va_A [(h0, .inr (4, [.ref h1, .ref h2])), (h1, .inl (cJ, 64, .inr (.inl s0.1))), (h2, .inl (cJ, 128, .inr (.inl s0.2))), (h3, .inr (4, [.ref h4, .ref h5])), (h4, .inl (cJ, 64, .inr (.inl s1.1))), (h5, .inl (cJ, 128, .inr (.inl s1.2)))] sz)) 0 0 (va_A [(h0, .inr (4, [.ref h1, .ref h2])), (h1, .inl (cJ, 64, .inr (.inl s0.1))), (h2, .inl (cJ, 128, .inr (.inl s0.2))), (h3, .inr (4, [.ref h4, .ref h5])), (h4, .inl (cJ, 64, .inr (.inl s1.1))), (h5, .inl (cJ, 128, .inr (.inl s1.2)))] sz) := by
  refine Met.ofW (cc := cX4_copyBelow) (maxL := 5) (ret := none) (by decide) rfl ?_
  intro p e s m args below meth c s₁ B hml hv
  obtain ⟨rfl, hsz, hP, hK, hD0⟩ := hv
  have hx := B.exec
  have hb := B.bytes
  have hr := B.returns
  have hts := atoms_spec (ws := wsX4_copyBelow) B.pre
  have hown : s.vm.findClass RX4 = some m.cls := findClass_of_methodNamed B.named
  have hlocks := B.notSynchronized
  subst hsz
  have hD := hD0.self (sz := s.heap.size)
  generalize hAe : va_A [(h0, .inr (4, [.ref h1, .ref h2])), (h1, .inl (cJ, 64, .inr (.inl s0.1))), (h2, .inl (cJ, 128, .inr (.inl s0.2))), (h3, .inr (4, [.ref h4, .ref h5])), (h4, .inl (cJ, 64, .inr (.inl s1.1))), (h5, .inl (cJ, 128, .inr (.inl s1.2)))] s.heap.size = A at hD ⊢
  have hA : ∀ q : Nat, s.heap.size ≤ q → A q := fun q h => by rw [← hAe]; exact Or.inr h
  have hS : va_S A s.heap s.heap [] := va_S.rf
  have hl := lv_entry ([.ref h0, .int x1, .ref h3]) (n := 5) (Nat.le_of_ble_eq_true rfl)
  rw [lg_entry_eq]
  generalize (lg_sl ([.ref h0, .int x1, .ref h3]) ++ List.replicate (5 - (lg_sl ([.ref h0, .int x1, .ref h3])).length) Slot.unset).toArray = ls at hl ⊢
  have hl : lv_has ls 5 [(0, .ref h0), (1, .int x1), (2, .ref h3)] := hl
  have h := hf
  unfold f_X4_copyBelow at h
  refine lv_iload_n hx hb dX4_copyBelow_0 rfl (lv_at hl 1 rfl) ?_
  obtain ⟨u1, hc1, h⟩ := bd_e h
  refine cc_i (tys := TY cI cJ cZ) ([] : va_W) [(h0, .inr (4, [.ref h1, .ref h2])), (h1, .inl (cJ, 64, .inr (.inl s0.1))), (h2, .inl (cJ, 128, .inr (.inl s0.2))), (h3, .inr (4, [.ref h4, .ref h5])), (h4, .inl (cJ, 64, .inr (.inl s1.1))), (h5, .inl (cJ, 128, .inr (.inl s1.2)))] ([] : va_W) [(h0, .inr (4, [.ref h1, .ref h2])), (h1, .inl (cJ, 64, .inr (.inl s0.1))), (h2, .inl (cJ, 128, .inr (.inl s0.2))), (h3, .inr (4, [.ref h4, .ref h5])), (h4, .inl (cJ, 64, .inr (.inl s1.1))), (h5, .inl (cJ, 128, .inr (.inl s1.2)))] hP hD hS hA [] [0, 1, 2, 3, 4, 5] [0, 1, 2, 3, 4, 5] rfl rfl (by decide) (by decide) rfl (by decide) rfl (va_runS (As := [.int x1]) (rest := []) ⟨hx, hb, hml, hown, hts⟩ (k_X4_isNode l dC dI cI cJ cZ x1 u1 hc1 _) (va_cwS 1 hts gX4_copyBelow_X4_isNode rfl rfl rfl (by decide +kernel) ⟨Nat.le_of_ble_eq_true rfl, Nat.le_of_ble_eq_true rfl⟩) ⟨cPre_blind, cPre_in hP hD hK [] rfl (by decide) rfl⟩ rfl rfl hl.1 rfl (lv_room (Nat.le_of_ble_eq_true rfl)) dX4_copyBelow_1 ⟨Nat.le_of_ble_eq_true rfl, Nat.le_of_ble_eq_true rfl⟩) (fun H locs hP hD hS => ?_)
  refine lv_if_ne (tgt := 8) hx hb dX4_copyBelow_4 (by decide) (fun c2 => ?_) (fun c2 => ?_)
  · have h := ie_f c2 h
    refine lv_iload_n hx hb dX4_copyBelow_8 rfl (lv_at hl 1 rfl) ?_
    obtain ⟨u3, hc3, h⟩ := bd_e h
    refine cc_i (tys := TY cI cJ cZ) ([] : va_W) [(h0, .inr (4, [.ref h1, .ref h2])), (h1, .inl (cJ, 64, .inr (.inl s0.1))), (h2, .inl (cJ, 128, .inr (.inl s0.2))), (h3, .inr (4, [.ref h4, .ref h5])), (h4, .inl (cJ, 64, .inr (.inl s1.1))), (h5, .inl (cJ, 128, .inr (.inl s1.2)))] ([] : va_W) [(h0, .inr (4, [.ref h1, .ref h2])), (h1, .inl (cJ, 64, .inr (.inl s0.1))), (h2, .inl (cJ, 128, .inr (.inl s0.2))), (h3, .inr (4, [.ref h4, .ref h5])), (h4, .inl (cJ, 64, .inr (.inl s1.1))), (h5, .inl (cJ, 128, .inr (.inl s1.2)))] hP hD hS hA [] [0, 1, 2, 3, 4, 5] [0, 1, 2, 3, 4, 5] rfl rfl (by decide) (by decide) rfl (by decide) rfl (va_runS (As := [.int x1]) (rest := []) ⟨hx, hb, hml, hown, hts⟩ (k_X4_lastPath l dC dI cI cJ cZ x1 u3 hc3 _) (va_cwS 1 hts gX4_copyBelow_X4_lastPath rfl rfl rfl (by decide +kernel) ⟨Nat.le_of_ble_eq_true rfl, Nat.le_of_ble_eq_true rfl⟩) ⟨cPre_blind, cPre_in hP hD hK [] rfl (by decide) rfl⟩ rfl rfl hl.1 rfl (lv_room (Nat.le_of_ble_eq_true rfl)) dX4_copyBelow_9 ⟨Nat.le_of_ble_eq_true rfl, Nat.le_of_ble_eq_true rfl⟩) (fun H locs hP hD hS => ?_)
    refine lv_istore_n (lv' := [(3, .int u3), (0, .ref h0), (1, .int x1), (2, .ref h3)]) hx hb dX4_copyBelow_12 rfl hl (by decide) rfl (fun ls hl => ?_)
    refine lv_iload_n hx hb dX4_copyBelow_13 rfl (lv_at hl 2 rfl) ?_
    obtain ⟨u4, hc4, h⟩ := bd_e h
    refine cc_i (tys := TY cI cJ cZ) ([] : va_W) [(h0, .inr (4, [.ref h1, .ref h2])), (h1, .inl (cJ, 64, .inr (.inl s0.1))), (h2, .inl (cJ, 128, .inr (.inl s0.2))), (h3, .inr (4, [.ref h4, .ref h5])), (h4, .inl (cJ, 64, .inr (.inl s1.1))), (h5, .inl (cJ, 128, .inr (.inl s1.2)))] ([] : va_W) [(h0, .inr (4, [.ref h1, .ref h2])), (h1, .inl (cJ, 64, .inr (.inl s0.1))), (h2, .inl (cJ, 128, .inr (.inl s0.2))), (h3, .inr (4, [.ref h4, .ref h5])), (h4, .inl (cJ, 64, .inr (.inl s1.1))), (h5, .inl (cJ, 128, .inr (.inl s1.2)))] hP hD hS hA [] [0, 1, 2, 3, 4, 5] [0, 1, 2, 3, 4, 5] rfl rfl (by decide) (by decide) rfl (by decide) rfl (va_runS (As := [.int x1]) (rest := []) ⟨hx, hb, hml, hown, hts⟩ (k_X4_firstPath l dC dI cI cJ cZ x1 u4 hc4 _) (va_cwS 1 hts gX4_copyBelow_X4_firstPath rfl rfl rfl (by decide +kernel) ⟨Nat.le_of_ble_eq_true rfl, Nat.le_of_ble_eq_true rfl⟩) ⟨cPre_blind, cPre_in hP hD hK [] rfl (by decide) rfl⟩ rfl rfl hl.1 rfl (lv_room (Nat.le_of_ble_eq_true rfl)) dX4_copyBelow_14 ⟨Nat.le_of_ble_eq_true rfl, Nat.le_of_ble_eq_true rfl⟩) (fun H locs hP hD hS => ?_)
    refine lv_istore (lv' := [(4, .int u4), (3, .int u3), (0, .ref h0), (1, .int x1), (2, .ref h3)]) hx hb dX4_copyBelow_17 hl (by decide) rfl (fun ls hl => ?_)
    have lp19 : ∀ (Q : State → Prop) (n19 : Nat) (p19_4 : Int32) (q19_0 : (Nat → Int64)) (v19 : (Nat → Int64)), f_X4_copyBelow_19 u3 s1 n19 p19_4 q19_0 = some v19 → ∀ (H : Heap) (locs : List Loc) (ls : Array Slot), va_P (dC, dI) vwCl [(h0, .inr (4, [.ref h1, .ref h2])), (h1, .inl (cJ, 64, .inr (.inl q19_0))), (h2, .inl (cJ, 128, .inr (.inl s0.2))), (h3, .inr (4, [.ref h4, .ref h5])), (h4, .inl (cJ, 64, .inr (.inl s1.1))), (h5, .inl (cJ, 128, .inr (.inl s1.2)))] H → va_D A [(h0, .inr (4, [.ref h1, .ref h2])), (h1, .inl (cJ, 64, .inr (.inl q19_0))), (h2, .inl (cJ, 128, .inr (.inl s0.2))), (h3, .inr (4, [.ref h4, .ref h5])), (h4, .inl (cJ, 64, .inr (.inl s1.1))), (h5, .inl (cJ, 128, .inr (.inl s1.2)))] → va_S A s.heap H locs → lv_has ls 5 [(4, .int p19_4), (3, .int u3), (0, .ref h0), (1, .int x1), (2, .ref h3)] → (∀ (H : Heap) (locs : List Loc) (ls : Array Slot), va_P (dC, dI) vwCl [(h0, .inr (4, [.ref h1, .ref h2])), (h1, .inl (cJ, 64, .inr (.inl v19))), (h2, .inl (cJ, 128, .inr (.inl s0.2))), (h3, .inr (4, [.ref h4, .ref h5])), (h4, .inl (cJ, 64, .inr (.inl s1.1))), (h5, .inl (cJ, 128, .inr (.inl s1.2)))] H → va_D A [(h0, .inr (4, [.ref h1, .ref h2])), (h1, .inl (cJ, 64, .inr (.inl v19))), (h2, .inl (cJ, 128, .inr (.inl s0.2))), (h3, .inr (4, [.ref h4, .ref h5])), (h4, .inl (cJ, 64, .inr (.inl s1.1))), (h5, .inl (cJ, 128, .inr (.inl s1.2)))] → va_S A s.heap H locs → lv_has ls 5 [(0, .ref h0), (1, .int x1)] → W p l e (headSpec wsX4_copyBelow ({ frames := 2, cells := 0, slots := 0, locals := 52 } : Room)).room s m ([.ref h0, .int x1, .ref h3] : List Value).toArray below meth c H locs 0 0 Q (F0 m 45 ls [])) → W p l e (headSpec wsX4_copyBelow ({ frames := 2, cells := 0, slots := 0, locals := 52 } : Room)).room s m ([.ref h0, .int x1, .ref h3] : List Value).toArray below meth c H locs 0 0 Q (F0 m 19 ls []) := by
      intro Q n19
      induction n19 with
      | zero =>
        intro p19_4 q19_0 v19 h
        rw [f_X4_copyBelow_19] at h
        cases h
      | succ n19 ih19 =>
        intro p19_4 q19_0 v19 h H locs ls hP hD hS hl kx19
        rw [f_X4_copyBelow_19] at h
        refine lv_iload hx hb dX4_copyBelow_19 (lv_at hl 0 rfl) ?_
        refine lv_iload_n hx hb dX4_copyBelow_21 rfl (lv_at hl 1 rfl) ?_
        refine lv_icmp_gt (tgt := 45) hx hb dX4_copyBelow_22 (by decide) (fun c5 => ?_) (fun c5 => ?_)
        · have h := ie_t c5 h
          obtain rfl := Option.some.inj h
          exact kx19 _ _ _ hP hD hS (lv_sub hl [2, 3] rfl)
        · have h := ie_f c5 h
          refine lv_aload_n hx hb dX4_copyBelow_25 rfl (lv_at hl 2 rfl) ?_
          refine va_get (D := (dC, dI)) (ci := 4) (v := .ref h1) (C := RX4) (T := TX4) (N := 2) hx hb hts (by decide +kernel) hown hK hP 0 rfl rfl 0 (by decide) (hts (.fieldLink RX4 9 "SnapshotPieces$Tree" "values" "[J") (by decide +kernel)) (fun _ h9 => h9) rfl dX4_copyBelow_26 ?_
          refine lv_iload hx hb dX4_copyBelow_29 (lv_at hl 0 rfl) ?_
          refine lv_aload_n hx hb dX4_copyBelow_31 rfl (lv_at hl 4 rfl) ?_
          refine va_get (D := (dC, dI)) (ci := 4) (v := .ref h4) (C := RX4) (T := TX4) (N := 2) hx hb hts (by decide +kernel) hown hK hP 3 rfl rfl 0 (by decide) (hts (.fieldLink RX4 9 "SnapshotPieces$Tree" "values" "[J") (by decide +kernel)) (fun _ h9 => h9) rfl dX4_copyBelow_32 ?_
          refine lv_iload hx hb dX4_copyBelow_35 (lv_at hl 0 rfl) ?_
          obtain ⟨g6, h⟩ := kb_e h
          refine va_lald hx hb hK hP 4 1 rfl rfl (ib_in g6) dX4_copyBelow_37 ?_
          obtain ⟨g7, h⟩ := kb_e h
          refine va_last hx hb hK hP hD hS 1 1 rfl rfl (ib_in g7) dX4_copyBelow_38 (fun H locs hP hD hS => ?_)
          have hP : va_P (dC, dI) vwCl [(h0, .inr (4, [.ref h1, .ref h2])), (h1, .inl (cJ, 64, .inr (.inl (vp_updL q19_0 (Int32.toNatClampNeg p19_4) (s1.1 (Int32.toNatClampNeg p19_4)))))), (h2, .inl (cJ, 128, .inr (.inl s0.2))), (h3, .inr (4, [.ref h4, .ref h5])), (h4, .inl (cJ, 64, .inr (.inl s1.1))), (h5, .inl (cJ, 128, .inr (.inl s1.2)))] H := hP
          have hD : va_D A [(h0, .inr (4, [.ref h1, .ref h2])), (h1, .inl (cJ, 64, .inr (.inl (vp_updL q19_0 (Int32.toNatClampNeg p19_4) (s1.1 (Int32.toNatClampNeg p19_4)))))), (h2, .inl (cJ, 128, .inr (.inl s0.2))), (h3, .inr (4, [.ref h4, .ref h5])), (h4, .inl (cJ, 64, .inr (.inl s1.1))), (h5, .inl (cJ, 128, .inr (.inl s1.2)))] := hD
          refine lv_iinc (v := (p19_4 + 1)) (lv' := [(4, .int (p19_4 + 1)), (3, .int u3), (0, .ref h0), (1, .int x1), (2, .ref h3)]) hx hb dX4_copyBelow_39 hl (k := 0) rfl rfl (by decide) rfl (fun ls hl => ?_)
          refine lv_goto (tgt := 19) hx hb dX4_copyBelow_42 (by decide) ?_
          exact ih19 (p19_4 + 1) (vp_updL q19_0 (Int32.toNatClampNeg p19_4) (s1.1 (Int32.toNatClampNeg p19_4))) v19 h _ _ _ hP hD hS (lv_sub hl [0, 1, 2, 3, 4] rfl) kx19
    obtain ⟨u8, hc8, h⟩ := bd_e h
    refine lp19 _ FU u4 s0.1 u8 hc8 _ _ _ hP hD hS (lv_sub hl [0, 1, 2, 3, 4] rfl) (fun H locs ls hP hD hS hl => ?_)
    refine lv_aload_n hx hb dX4_copyBelow_45 rfl (lv_at hl 0 rfl) ?_
    refine lv_iload_n hx hb dX4_copyBelow_46 rfl (lv_at hl 1 rfl) ?_
    obtain ⟨u9, hc9, h⟩ := bd_e h
    refine cc_v (tys := TY cI cJ cZ) [(h0, .inr (4, [.ref h1, .ref h2])), (h1, .inl (cJ, 64, .inr (.inl u8))), (h2, .inl (cJ, 128, .inr (.inl s0.2)))] [(h3, .inr (4, [.ref h4, .ref h5])), (h4, .inl (cJ, 64, .inr (.inl s1.1))), (h5, .inl (cJ, 128, .inr (.inl s1.2)))] [(h0, .inr (4, [.ref h1, .ref h2])), (h1, .inl (cJ, 64, .inr (.inl u9.1))), (h2, .inl (cJ, 128, .inr (.inl u9.2)))] [(h0, .inr (4, [.ref h1, .ref h2])), (h1, .inl (cJ, 64, .inr (.inl u9.1))), (h2, .inl (cJ, 128, .inr (.inl u9.2))), (h3, .inr (4, [.ref h4, .ref h5])), (h4, .inl (cJ, 64, .inr (.inl s1.1))), (h5, .inl (cJ, 128, .inr (.inl s1.2)))] hP hD hS hA [0, 1, 2] [3, 4, 5] [3, 4, 5, 0, 1, 2] rfl rfl (by decide) (by decide) rfl (by decide) rfl (va_runV (As := [.int x1]) (rest := []) ⟨hx, hb, hml, hown, hts⟩ (k_X4_renew l dC dI cI cJ cZ h0 h1 h2 (u8, s0.2) x1 u9 hc9 _) (cwV 1 hts gX4_copyBelow_X4_renew rfl rfl rfl (by decide +kernel) ⟨Nat.le_of_ble_eq_true rfl, Nat.le_of_ble_eq_true rfl⟩) ⟨cPre_blind, va_recv hK hP (ci := 4) (q0 := 0) rfl rfl, cPre_in hP hD hK [0, 1, 2] rfl (by decide) rfl⟩ rfl rfl hl.1 rfl (lv_room (Nat.le_of_ble_eq_true rfl)) dX4_copyBelow_47 ⟨Nat.le_of_ble_eq_true rfl, Nat.le_of_ble_eq_true rfl⟩) (fun H locs hP hD hS => ?_)
    obtain rfl := Option.some.inj h
    exact W.vret hx hb hr (fun t ht hW => ⟨⟨(), rfl, trivial, by rw [ht]; exact hP, va_K.moved hW.alike hK, hD⟩, hS.F ht⟩) hS.2.2 dX4_copyBelow_50
  · have h := ie_t c2 h
    obtain rfl := Option.some.inj h
    exact W.vret hx hb hr (fun t ht hW => ⟨⟨(), rfl, trivial, by rw [ht]; exact hP, va_K.moved hW.alike hK, hD⟩, hS.F ht⟩) hS.2.2 dX4_copyBelow_7
def f_X4_filledBelow_22 (y3 : Int32) (t0 : S_Tree) : Nat → Int32 → Int32 → Option (Int32)
  | 0, _, _ => none
  | n + 1, y4, y2 => if y3 < y4 then (some y2) else (kb (ib y4 64) (if (t0.1 (Int32.toNatClampNeg y4)) = 0 then (f_X4_filledBelow_22 y3 t0 n (y4 + 1) y2) else (f_X4_filledBelow_22 y3 t0 n (y4 + 1) (y2 + 1))))
def f_X4_filledBelow (s0 : S_Tree) (x1 : Int32) : Option (Int32) := (f_X4_isNode x1).bind fun u1 => if u1 = 0 then (some 0) else ((f_X4_lastPath x1).bind fun u3 => (f_X4_firstPath x1).bind fun u4 => (f_X4_filledBelow_22 u3 s0 FU u4 0).bind fun u8 => some u8)
set_option maxHeartbeats 4000000 in
set_option maxRecDepth 100000 in
theorem k_X4_filledBelow (l : Launch) (dC : Nat → ClassId) (dI : Nat → Nat → Nat) (cI cJ cZ : ClassId) (h0 h1 h2 : Nat) (s0 : S_Tree) (x1 : Int32) (u : Int32) (hf : f_X4_filledBelow s0 x1 = some u) (sz : Nat) : Met l yX4_filledBelow wsX4_filledBelow ({ frames := 1, cells := 0, slots := 0, locals := 22 }) (cPre (dC, dI) vwCl (TY cI cJ cZ) [.ref h0, .int x1] [(h0, .inr (4, [.ref h1, .ref h2])), (h1, .inl (cJ, 64, .inr (.inl s0.1))), (h2, .inl (cJ, 128, .inr (.inl s0.2)))] sz) (va_Qi (fun (r : Int32) (_ : Unit) => r = u) (fun _ t => cB (dC, dI) vwCl (TY cI cJ cZ) (va_A [(h0, .inr (4, [.ref h1, .ref h2])), (h1, .inl (cJ, 64, .inr (.inl s0.1))), (h2, .inl (cJ, 128, .inr (.inl s0.2)))] sz) [(h0, .inr (4, [.ref h1, .ref h2])), (h1, .inl (cJ, 64, .inr (.inl s0.1))), (h2, .inl (cJ, 128, .inr (.inl s0.2)))] t) (va_A [(h0, .inr (4, [.ref h1, .ref h2])), (h1, .inl (cJ, 64, .inr (.inl s0.1))), (h2, .inl (cJ, 128, .inr (.inl s0.2)))] sz)) 0 0 (va_A [(h0, .inr (4, [.ref h1, .ref h2])), (h1, .inl (cJ, 64, .inr (.inl s0.1))), (h2, .inl (cJ, 128, .inr (.inl s0.2)))] sz) := by
  refine Met.ofW (cc := cX4_filledBelow) (maxL := 5) (ret := (some .int)) (by decide) rfl ?_
  intro p e s m args below meth c s₁ B hml hv
  obtain ⟨rfl, hsz, hP, hK, hD0⟩ := hv
  have hx := B.exec
  have hb := B.bytes
  have hr := B.returns
  have hts := atoms_spec (ws := wsX4_filledBelow) B.pre
  have hown : s.vm.findClass RX4 = some m.cls := findClass_of_methodNamed B.named
  have hlocks := B.notSynchronized
  subst hsz
  have hD := hD0.self (sz := s.heap.size)
  generalize hAe : va_A [(h0, .inr (4, [.ref h1, .ref h2])), (h1, .inl (cJ, 64, .inr (.inl s0.1))), (h2, .inl (cJ, 128, .inr (.inl s0.2)))] s.heap.size = A at hD ⊢
  have hA : ∀ q : Nat, s.heap.size ≤ q → A q := fun q h => by rw [← hAe]; exact Or.inr h
  have hS : va_S A s.heap s.heap [] := va_S.rf
  have hl := lv_entry ([.ref h0, .int x1]) (n := 5) (Nat.le_of_ble_eq_true rfl)
  rw [lg_entry_eq]
  generalize (lg_sl ([.ref h0, .int x1]) ++ List.replicate (5 - (lg_sl ([.ref h0, .int x1])).length) Slot.unset).toArray = ls at hl ⊢
  have hl : lv_has ls 5 [(0, .ref h0), (1, .int x1)] := hl
  have h := hf
  unfold f_X4_filledBelow at h
  refine lv_iload_n hx hb dX4_filledBelow_0 rfl (lv_at hl 1 rfl) ?_
  obtain ⟨u1, hc1, h⟩ := bd_e h
  refine cc_i (tys := TY cI cJ cZ) ([] : va_W) [(h0, .inr (4, [.ref h1, .ref h2])), (h1, .inl (cJ, 64, .inr (.inl s0.1))), (h2, .inl (cJ, 128, .inr (.inl s0.2)))] ([] : va_W) [(h0, .inr (4, [.ref h1, .ref h2])), (h1, .inl (cJ, 64, .inr (.inl s0.1))), (h2, .inl (cJ, 128, .inr (.inl s0.2)))] hP hD hS hA [] [0, 1, 2] [0, 1, 2] rfl rfl (by decide) (by decide) rfl (by decide) rfl (va_runS (As := [.int x1]) (rest := []) ⟨hx, hb, hml, hown, hts⟩ (k_X4_isNode l dC dI cI cJ cZ x1 u1 hc1 _) (va_cwS 1 hts gX4_filledBelow_X4_isNode rfl rfl rfl (by decide +kernel) ⟨Nat.le_of_ble_eq_true rfl, Nat.le_of_ble_eq_true rfl⟩) ⟨cPre_blind, cPre_in hP hD hK [] rfl (by decide) rfl⟩ rfl rfl hl.1 rfl (lv_room (Nat.le_of_ble_eq_true rfl)) dX4_filledBelow_1 ⟨Nat.le_of_ble_eq_true rfl, Nat.le_of_ble_eq_true rfl⟩) (fun H locs hP hD hS => ?_)
  refine lv_if_ne (tgt := 9) hx hb dX4_filledBelow_4 (by decide) (fun c2 => ?_) (fun c2 => ?_)
  · have h := ie_f c2 h
    refine lv_iconst (v := 0) hx hb dX4_filledBelow_9 (by decide) ?_
    refine lv_istore_n (lv' := [(2, .int 0), (0, .ref h0), (1, .int x1)]) hx hb dX4_filledBelow_10 rfl hl (by decide) rfl (fun ls hl => ?_)
    refine lv_iload_n hx hb dX4_filledBelow_11 rfl (lv_at hl 2 rfl) ?_
    obtain ⟨u3, hc3, h⟩ := bd_e h
    refine cc_i (tys := TY cI cJ cZ) ([] : va_W) [(h0, .inr (4, [.ref h1, .ref h2])), (h1, .inl (cJ, 64, .inr (.inl s0.1))), (h2, .inl (cJ, 128, .inr (.inl s0.2)))] ([] : va_W) [(h0, .inr (4, [.ref h1, .ref h2])), (h1, .inl (cJ, 64, .inr (.inl s0.1))), (h2, .inl (cJ, 128, .inr (.inl s0.2)))] hP hD hS hA [] [0, 1, 2] [0, 1, 2] rfl rfl (by decide) (by decide) rfl (by decide) rfl (va_runS (As := [.int x1]) (rest := []) ⟨hx, hb, hml, hown, hts⟩ (k_X4_lastPath l dC dI cI cJ cZ x1 u3 hc3 _) (va_cwS 1 hts gX4_filledBelow_X4_lastPath rfl rfl rfl (by decide +kernel) ⟨Nat.le_of_ble_eq_true rfl, Nat.le_of_ble_eq_true rfl⟩) ⟨cPre_blind, cPre_in hP hD hK [] rfl (by decide) rfl⟩ rfl rfl hl.1 rfl (lv_room (Nat.le_of_ble_eq_true rfl)) dX4_filledBelow_12 ⟨Nat.le_of_ble_eq_true rfl, Nat.le_of_ble_eq_true rfl⟩) (fun H locs hP hD hS => ?_)
    refine lv_istore_n (lv' := [(3, .int u3), (2, .int 0), (0, .ref h0), (1, .int x1)]) hx hb dX4_filledBelow_15 rfl hl (by decide) rfl (fun ls hl => ?_)
    refine lv_iload_n hx hb dX4_filledBelow_16 rfl (lv_at hl 3 rfl) ?_
    obtain ⟨u4, hc4, h⟩ := bd_e h
    refine cc_i (tys := TY cI cJ cZ) ([] : va_W) [(h0, .inr (4, [.ref h1, .ref h2])), (h1, .inl (cJ, 64, .inr (.inl s0.1))), (h2, .inl (cJ, 128, .inr (.inl s0.2)))] ([] : va_W) [(h0, .inr (4, [.ref h1, .ref h2])), (h1, .inl (cJ, 64, .inr (.inl s0.1))), (h2, .inl (cJ, 128, .inr (.inl s0.2)))] hP hD hS hA [] [0, 1, 2] [0, 1, 2] rfl rfl (by decide) (by decide) rfl (by decide) rfl (va_runS (As := [.int x1]) (rest := []) ⟨hx, hb, hml, hown, hts⟩ (k_X4_firstPath l dC dI cI cJ cZ x1 u4 hc4 _) (va_cwS 1 hts gX4_filledBelow_X4_firstPath rfl rfl rfl (by decide +kernel) ⟨Nat.le_of_ble_eq_true rfl, Nat.le_of_ble_eq_true rfl⟩) ⟨cPre_blind, cPre_in hP hD hK [] rfl (by decide) rfl⟩ rfl rfl hl.1 rfl (lv_room (Nat.le_of_ble_eq_true rfl)) dX4_filledBelow_17 ⟨Nat.le_of_ble_eq_true rfl, Nat.le_of_ble_eq_true rfl⟩) (fun H locs hP hD hS => ?_)
    refine lv_istore (lv' := [(4, .int u4), (3, .int u3), (2, .int 0), (0, .ref h0), (1, .int x1)]) hx hb dX4_filledBelow_20 hl (by decide) rfl (fun ls hl => ?_)
    have lp22 : ∀ (Q : State → Prop) (n22 : Nat) (p22_4 : Int32) (p22_2 : Int32) (v22 : Int32), f_X4_filledBelow_22 u3 s0 n22 p22_4 p22_2 = some v22 → ∀ (H : Heap) (locs : List Loc) (ls : Array Slot), va_P (dC, dI) vwCl [(h0, .inr (4, [.ref h1, .ref h2])), (h1, .inl (cJ, 64, .inr (.inl s0.1))), (h2, .inl (cJ, 128, .inr (.inl s0.2)))] H → va_D A [(h0, .inr (4, [.ref h1, .ref h2])), (h1, .inl (cJ, 64, .inr (.inl s0.1))), (h2, .inl (cJ, 128, .inr (.inl s0.2)))] → va_S A s.heap H locs → lv_has ls 5 [(4, .int p22_4), (3, .int u3), (2, .int p22_2), (0, .ref h0)] → (∀ (H : Heap) (locs : List Loc) (ls : Array Slot), va_P (dC, dI) vwCl [(h0, .inr (4, [.ref h1, .ref h2])), (h1, .inl (cJ, 64, .inr (.inl s0.1))), (h2, .inl (cJ, 128, .inr (.inl s0.2)))] H → va_D A [(h0, .inr (4, [.ref h1, .ref h2])), (h1, .inl (cJ, 64, .inr (.inl s0.1))), (h2, .inl (cJ, 128, .inr (.inl s0.2)))] → va_S A s.heap H locs → lv_has ls 5 [(2, .int v22)] → W p l e (headSpec wsX4_filledBelow ({ frames := 1, cells := 0, slots := 0, locals := 22 } : Room)).room s m ([.ref h0, .int x1] : List Value).toArray below meth c H locs 0 0 Q (F0 m 49 ls [])) → W p l e (headSpec wsX4_filledBelow ({ frames := 1, cells := 0, slots := 0, locals := 22 } : Room)).room s m ([.ref h0, .int x1] : List Value).toArray below meth c H locs 0 0 Q (F0 m 22 ls []) := by
      intro Q n22
      induction n22 with
      | zero =>
        intro p22_4 p22_2 v22 h
        rw [f_X4_filledBelow_22] at h
        cases h
      | succ n22 ih22 =>
        intro p22_4 p22_2 v22 h H locs ls hP hD hS hl kx22
        rw [f_X4_filledBelow_22] at h
        refine lv_iload hx hb dX4_filledBelow_22 (lv_at hl 0 rfl) ?_
        refine lv_iload_n hx hb dX4_filledBelow_24 rfl (lv_at hl 1 rfl) ?_
        refine lv_icmp_gt (tgt := 49) hx hb dX4_filledBelow_25 (by decide) (fun c5 => ?_) (fun c5 => ?_)
        · have h := ie_t c5 h
          obtain rfl := Option.some.inj h
          exact kx22 _ _ _ hP hD hS (lv_sub hl [2] rfl)
        · have h := ie_f c5 h
          refine lv_aload_n hx hb dX4_filledBelow_28 rfl (lv_at hl 3 rfl) ?_
          refine va_get (D := (dC, dI)) (ci := 4) (v := .ref h1) (C := RX4) (T := TX4) (N := 2) hx hb hts (by decide +kernel) hown hK hP 0 rfl rfl 0 (by decide) (hts (.fieldLink RX4 9 "SnapshotPieces$Tree" "values" "[J") (by decide +kernel)) (fun _ h9 => h9) rfl dX4_filledBelow_29 ?_
          refine lv_iload hx hb dX4_filledBelow_32 (lv_at hl 0 rfl) ?_
          obtain ⟨g6, h⟩ := kb_e h
          refine va_lald hx hb hK hP 1 1 rfl rfl (ib_in g6) dX4_filledBelow_34 ?_
          refine lv_lconst (v := 0) hx hb dX4_filledBelow_35 (by decide) ?_
          refine W.lcmp hx hb dX4_filledBelow_36 ?_
          refine lv_if_eq (tgt := 43) hx hb dX4_filledBelow_37 (by decide) (fun c7 => ?_) (fun c7 => ?_)
          · have c7 := lgz_t c7
            have h := ie_t c7 h
            refine lv_iinc (v := (p22_4 + 1)) (lv' := [(4, .int (p22_4 + 1)), (3, .int u3), (2, .int p22_2), (0, .ref h0)]) hx hb dX4_filledBelow_43 hl (k := 0) rfl rfl (by decide) rfl (fun ls hl => ?_)
            refine lv_goto (tgt := 22) hx hb dX4_filledBelow_46 (by decide) ?_
            exact ih22 (p22_4 + 1) p22_2 v22 h _ _ _ hP hD hS (lv_sub hl [0, 1, 2, 3] rfl) kx22
          · have c7 := lgz_f c7
            have h := ie_f c7 h
            refine lv_iinc (v := (p22_2 + 1)) (lv' := [(2, .int (p22_2 + 1)), (4, .int p22_4), (3, .int u3), (0, .ref h0)]) hx hb dX4_filledBelow_40 hl (k := 2) rfl rfl (by decide) rfl (fun ls hl => ?_)
            refine lv_iinc (v := (p22_4 + 1)) (lv' := [(4, .int (p22_4 + 1)), (2, .int (p22_2 + 1)), (3, .int u3), (0, .ref h0)]) hx hb dX4_filledBelow_43 hl (k := 1) rfl rfl (by decide) rfl (fun ls hl => ?_)
            refine lv_goto (tgt := 22) hx hb dX4_filledBelow_46 (by decide) ?_
            exact ih22 (p22_4 + 1) (p22_2 + 1) v22 h _ _ _ hP hD hS (lv_sub hl [0, 2, 1, 3] rfl) kx22
    obtain ⟨u8, hc8, h⟩ := bd_e h
    refine lp22 _ FU u4 0 u8 hc8 _ _ _ hP hD hS (lv_sub hl [0, 1, 2, 3] rfl) (fun H locs ls hP hD hS hl => ?_)
    refine lv_iload_n hx hb dX4_filledBelow_49 rfl (lv_at hl 0 rfl) ?_
    obtain rfl := Option.some.inj h
    exact W.iret (v := u8) hx hb hr (fun t ht hW => ⟨⟨_, (), rfl, rfl, by rw [ht]; exact hP, va_K.moved hW.alike hK, hD⟩, hS.F ht⟩) hS.2.2 dX4_filledBelow_50
  · have h := ie_t c2 h
    refine lv_iconst (v := 0) hx hb dX4_filledBelow_7 (by decide) ?_
    obtain rfl := Option.some.inj h
    exact W.iret (v := 0) hx hb hr (fun t ht hW => ⟨⟨_, (), rfl, rfl, by rw [ht]; exact hP, va_K.moved hW.alike hK, hD⟩, hS.F ht⟩) hS.2.2 dX4_filledBelow_8
def f_X4_firstFilled_19 (y2 : Int32) (t0 : S_Tree) : Nat → Int32 → Option (Int32)
  | 0, _ => none
  | n + 1, y3 => if y2 < y3 then (some (-1)) else (kb (ib y3 64) (if (t0.1 (Int32.toNatClampNeg y3)) = 0 then (f_X4_firstFilled_19 y2 t0 n (y3 + 1)) else (some y3)))
def f_X4_firstFilled (s0 : S_Tree) (x1 : Int32) : Option (Int32) := (f_X4_isNode x1).bind fun u1 => if u1 = 0 then (some (-1)) else ((f_X4_lastPath x1).bind fun u3 => (f_X4_firstPath x1).bind fun u4 => f_X4_firstFilled_19 u3 s0 FU u4)
set_option maxHeartbeats 4000000 in
set_option maxRecDepth 100000 in
theorem k_X4_firstFilled (l : Launch) (dC : Nat → ClassId) (dI : Nat → Nat → Nat) (cI cJ cZ : ClassId) (h0 h1 h2 : Nat) (s0 : S_Tree) (x1 : Int32) (u : Int32) (hf : f_X4_firstFilled s0 x1 = some u) (sz : Nat) : Met l yX4_firstFilled wsX4_firstFilled ({ frames := 1, cells := 0, slots := 0, locals := 22 }) (cPre (dC, dI) vwCl (TY cI cJ cZ) [.ref h0, .int x1] [(h0, .inr (4, [.ref h1, .ref h2])), (h1, .inl (cJ, 64, .inr (.inl s0.1))), (h2, .inl (cJ, 128, .inr (.inl s0.2)))] sz) (va_Qi (fun (r : Int32) (_ : Unit) => r = u) (fun _ t => cB (dC, dI) vwCl (TY cI cJ cZ) (va_A [(h0, .inr (4, [.ref h1, .ref h2])), (h1, .inl (cJ, 64, .inr (.inl s0.1))), (h2, .inl (cJ, 128, .inr (.inl s0.2)))] sz) [(h0, .inr (4, [.ref h1, .ref h2])), (h1, .inl (cJ, 64, .inr (.inl s0.1))), (h2, .inl (cJ, 128, .inr (.inl s0.2)))] t) (va_A [(h0, .inr (4, [.ref h1, .ref h2])), (h1, .inl (cJ, 64, .inr (.inl s0.1))), (h2, .inl (cJ, 128, .inr (.inl s0.2)))] sz)) 0 0 (va_A [(h0, .inr (4, [.ref h1, .ref h2])), (h1, .inl (cJ, 64, .inr (.inl s0.1))), (h2, .inl (cJ, 128, .inr (.inl s0.2)))] sz) := by
  refine Met.ofW (cc := cX4_firstFilled) (maxL := 4) (ret := (some .int)) (by decide) rfl ?_
  intro p e s m args below meth c s₁ B hml hv
  obtain ⟨rfl, hsz, hP, hK, hD0⟩ := hv
  have hx := B.exec
  have hb := B.bytes
  have hr := B.returns
  have hts := atoms_spec (ws := wsX4_firstFilled) B.pre
  have hown : s.vm.findClass RX4 = some m.cls := findClass_of_methodNamed B.named
  have hlocks := B.notSynchronized
  subst hsz
  have hD := hD0.self (sz := s.heap.size)
  generalize hAe : va_A [(h0, .inr (4, [.ref h1, .ref h2])), (h1, .inl (cJ, 64, .inr (.inl s0.1))), (h2, .inl (cJ, 128, .inr (.inl s0.2)))] s.heap.size = A at hD ⊢
  have hA : ∀ q : Nat, s.heap.size ≤ q → A q := fun q h => by rw [← hAe]; exact Or.inr h
  have hS : va_S A s.heap s.heap [] := va_S.rf
  have hl := lv_entry ([.ref h0, .int x1]) (n := 4) (Nat.le_of_ble_eq_true rfl)
  rw [lg_entry_eq]
  generalize (lg_sl ([.ref h0, .int x1]) ++ List.replicate (4 - (lg_sl ([.ref h0, .int x1])).length) Slot.unset).toArray = ls at hl ⊢
  have hl : lv_has ls 4 [(0, .ref h0), (1, .int x1)] := hl
  have h := hf
  unfold f_X4_firstFilled at h
  refine lv_iload_n hx hb dX4_firstFilled_0 rfl (lv_at hl 1 rfl) ?_
  obtain ⟨u1, hc1, h⟩ := bd_e h
  refine cc_i (tys := TY cI cJ cZ) ([] : va_W) [(h0, .inr (4, [.ref h1, .ref h2])), (h1, .inl (cJ, 64, .inr (.inl s0.1))), (h2, .inl (cJ, 128, .inr (.inl s0.2)))] ([] : va_W) [(h0, .inr (4, [.ref h1, .ref h2])), (h1, .inl (cJ, 64, .inr (.inl s0.1))), (h2, .inl (cJ, 128, .inr (.inl s0.2)))] hP hD hS hA [] [0, 1, 2] [0, 1, 2] rfl rfl (by decide) (by decide) rfl (by decide) rfl (va_runS (As := [.int x1]) (rest := []) ⟨hx, hb, hml, hown, hts⟩ (k_X4_isNode l dC dI cI cJ cZ x1 u1 hc1 _) (va_cwS 1 hts gX4_firstFilled_X4_isNode rfl rfl rfl (by decide +kernel) ⟨Nat.le_of_ble_eq_true rfl, Nat.le_of_ble_eq_true rfl⟩) ⟨cPre_blind, cPre_in hP hD hK [] rfl (by decide) rfl⟩ rfl rfl hl.1 rfl (lv_room (Nat.le_of_ble_eq_true rfl)) dX4_firstFilled_1 ⟨Nat.le_of_ble_eq_true rfl, Nat.le_of_ble_eq_true rfl⟩) (fun H locs hP hD hS => ?_)
  refine lv_if_ne (tgt := 9) hx hb dX4_firstFilled_4 (by decide) (fun c2 => ?_) (fun c2 => ?_)
  · have h := ie_f c2 h
    refine lv_iload_n hx hb dX4_firstFilled_9 rfl (lv_at hl 1 rfl) ?_
    obtain ⟨u3, hc3, h⟩ := bd_e h
    refine cc_i (tys := TY cI cJ cZ) ([] : va_W) [(h0, .inr (4, [.ref h1, .ref h2])), (h1, .inl (cJ, 64, .inr (.inl s0.1))), (h2, .inl (cJ, 128, .inr (.inl s0.2)))] ([] : va_W) [(h0, .inr (4, [.ref h1, .ref h2])), (h1, .inl (cJ, 64, .inr (.inl s0.1))), (h2, .inl (cJ, 128, .inr (.inl s0.2)))] hP hD hS hA [] [0, 1, 2] [0, 1, 2] rfl rfl (by decide) (by decide) rfl (by decide) rfl (va_runS (As := [.int x1]) (rest := []) ⟨hx, hb, hml, hown, hts⟩ (k_X4_lastPath l dC dI cI cJ cZ x1 u3 hc3 _) (va_cwS 1 hts gX4_firstFilled_X4_lastPath rfl rfl rfl (by decide +kernel) ⟨Nat.le_of_ble_eq_true rfl, Nat.le_of_ble_eq_true rfl⟩) ⟨cPre_blind, cPre_in hP hD hK [] rfl (by decide) rfl⟩ rfl rfl hl.1 rfl (lv_room (Nat.le_of_ble_eq_true rfl)) dX4_firstFilled_10 ⟨Nat.le_of_ble_eq_true rfl, Nat.le_of_ble_eq_true rfl⟩) (fun H locs hP hD hS => ?_)
    refine lv_istore_n (lv' := [(2, .int u3), (0, .ref h0), (1, .int x1)]) hx hb dX4_firstFilled_13 rfl hl (by decide) rfl (fun ls hl => ?_)
    refine lv_iload_n hx hb dX4_firstFilled_14 rfl (lv_at hl 2 rfl) ?_
    obtain ⟨u4, hc4, h⟩ := bd_e h
    refine cc_i (tys := TY cI cJ cZ) ([] : va_W) [(h0, .inr (4, [.ref h1, .ref h2])), (h1, .inl (cJ, 64, .inr (.inl s0.1))), (h2, .inl (cJ, 128, .inr (.inl s0.2)))] ([] : va_W) [(h0, .inr (4, [.ref h1, .ref h2])), (h1, .inl (cJ, 64, .inr (.inl s0.1))), (h2, .inl (cJ, 128, .inr (.inl s0.2)))] hP hD hS hA [] [0, 1, 2] [0, 1, 2] rfl rfl (by decide) (by decide) rfl (by decide) rfl (va_runS (As := [.int x1]) (rest := []) ⟨hx, hb, hml, hown, hts⟩ (k_X4_firstPath l dC dI cI cJ cZ x1 u4 hc4 _) (va_cwS 1 hts gX4_firstFilled_X4_firstPath rfl rfl rfl (by decide +kernel) ⟨Nat.le_of_ble_eq_true rfl, Nat.le_of_ble_eq_true rfl⟩) ⟨cPre_blind, cPre_in hP hD hK [] rfl (by decide) rfl⟩ rfl rfl hl.1 rfl (lv_room (Nat.le_of_ble_eq_true rfl)) dX4_firstFilled_15 ⟨Nat.le_of_ble_eq_true rfl, Nat.le_of_ble_eq_true rfl⟩) (fun H locs hP hD hS => ?_)
    refine lv_istore_n (lv' := [(3, .int u4), (2, .int u3), (0, .ref h0), (1, .int x1)]) hx hb dX4_firstFilled_18 rfl hl (by decide) rfl (fun ls hl => ?_)
    have lp19 : ∀ (n19 : Nat) (p19_3 : Int32), f_X4_firstFilled_19 u3 s0 n19 p19_3 = some u → ∀ (H : Heap) (locs : List Loc) (ls : Array Slot), va_P (dC, dI) vwCl [(h0, .inr (4, [.ref h1, .ref h2])), (h1, .inl (cJ, 64, .inr (.inl s0.1))), (h2, .inl (cJ, 128, .inr (.inl s0.2)))] H → va_D A [(h0, .inr (4, [.ref h1, .ref h2])), (h1, .inl (cJ, 64, .inr (.inl s0.1))), (h2, .inl (cJ, 128, .inr (.inl s0.2)))] → va_S A s.heap H locs → lv_has ls 4 [(3, .int p19_3), (2, .int u3), (0, .ref h0)] → W p l e (headSpec wsX4_firstFilled ({ frames := 1, cells := 0, slots := 0, locals := 22 } : Room)).room s m ([.ref h0, .int x1] : List Value).toArray below meth c H locs 0 0 (MQ below (va_Qi (fun (r : Int32) (_ : Unit) => r = u) (fun _ t => cB (dC, dI) vwCl (TY cI cJ cZ) A [(h0, .inr (4, [.ref h1, .ref h2])), (h1, .inl (cJ, 64, .inr (.inl s0.1))), (h2, .inl (cJ, 128, .inr (.inl s0.2)))] t) A) ([.ref h0, .int x1] : List Value).toArray s 0 0 A) (F0 m 19 ls []) := by
      intro n19
      induction n19 with
      | zero =>
        intro p19_3 h
        rw [f_X4_firstFilled_19] at h
        cases h
      | succ n19 ih19 =>
        intro p19_3 h H locs ls hP hD hS hl
        rw [f_X4_firstFilled_19] at h
        refine lv_iload_n hx hb dX4_firstFilled_19 rfl (lv_at hl 0 rfl) ?_
        refine lv_iload_n hx hb dX4_firstFilled_20 rfl (lv_at hl 1 rfl) ?_
        refine lv_icmp_gt (tgt := 43) hx hb dX4_firstFilled_21 (by decide) (fun c5 => ?_) (fun c5 => ?_)
        · have h := ie_t c5 h
          refine lv_iconst (v := (-1)) hx hb dX4_firstFilled_43 (by decide) ?_
          obtain rfl := Option.some.inj h
          exact W.iret (v := (-1)) hx hb hr (fun t ht hW => ⟨⟨_, (), rfl, rfl, by rw [ht]; exact hP, va_K.moved hW.alike hK, hD⟩, hS.F ht⟩) hS.2.2 dX4_firstFilled_44
        · have h := ie_f c5 h
          refine lv_aload_n hx hb dX4_firstFilled_24 rfl (lv_at hl 2 rfl) ?_
          refine va_get (D := (dC, dI)) (ci := 4) (v := .ref h1) (C := RX4) (T := TX4) (N := 2) hx hb hts (by decide +kernel) hown hK hP 0 rfl rfl 0 (by decide) (hts (.fieldLink RX4 9 "SnapshotPieces$Tree" "values" "[J") (by decide +kernel)) (fun _ h9 => h9) rfl dX4_firstFilled_25 ?_
          refine lv_iload_n hx hb dX4_firstFilled_28 rfl (lv_at hl 0 rfl) ?_
          obtain ⟨g6, h⟩ := kb_e h
          refine va_lald hx hb hK hP 1 1 rfl rfl (ib_in g6) dX4_firstFilled_29 ?_
          refine lv_lconst (v := 0) hx hb dX4_firstFilled_30 (by decide) ?_
          refine W.lcmp hx hb dX4_firstFilled_31 ?_
          refine lv_if_eq (tgt := 37) hx hb dX4_firstFilled_32 (by decide) (fun c7 => ?_) (fun c7 => ?_)
          · have c7 := lgz_t c7
            have h := ie_t c7 h
            refine lv_iinc (v := (p19_3 + 1)) (lv' := [(3, .int (p19_3 + 1)), (2, .int u3), (0, .ref h0)]) hx hb dX4_firstFilled_37 hl (k := 0) rfl rfl (by decide) rfl (fun ls hl => ?_)
            refine lv_goto (tgt := 19) hx hb dX4_firstFilled_40 (by decide) ?_
            exact ih19 (p19_3 + 1) h _ _ _ hP hD hS (lv_sub hl [0, 1, 2] rfl)
          · have c7 := lgz_f c7
            have h := ie_f c7 h
            refine lv_iload_n hx hb dX4_firstFilled_35 rfl (lv_at hl 0 rfl) ?_
            obtain rfl := Option.some.inj h
            exact W.iret (v := p19_3) hx hb hr (fun t ht hW => ⟨⟨_, (), rfl, rfl, by rw [ht]; exact hP, va_K.moved hW.alike hK, hD⟩, hS.F ht⟩) hS.2.2 dX4_firstFilled_36
    exact lp19 FU u4 h _ _ _ hP hD hS (lv_sub hl [0, 1, 2] rfl)
  · have h := ie_t c2 h
    refine lv_iconst (v := (-1)) hx hb dX4_firstFilled_7 (by decide) ?_
    obtain rfl := Option.some.inj h
    exact W.iret (v := (-1)) hx hb hr (fun t ht hW => ⟨⟨_, (), rfl, rfl, by rw [ht]; exact hP, va_K.moved hW.alike hK, hD⟩, hS.F ht⟩) hS.2.2 dX4_firstFilled_8
def f_X4_lastFilled_19 (y2 : Int32) (t0 : S_Tree) : Nat → Int32 → Option (Int32)
  | 0, _ => none
  | n + 1, y3 => if y3 < y2 then (some (-1)) else (kb (ib y3 64) (if (t0.1 (Int32.toNatClampNeg y3)) = 0 then (f_X4_lastFilled_19 y2 t0 n (y3 + (-1))) else (some y3)))
def f_X4_lastFilled (s0 : S_Tree) (x1 : Int32) : Option (Int32) := (f_X4_isNode x1).bind fun u1 => if u1 = 0 then (some (-1)) else ((f_X4_firstPath x1).bind fun u3 => (f_X4_lastPath x1).bind fun u4 => f_X4_lastFilled_19 u3 s0 FU u4)
set_option maxHeartbeats 4000000 in
set_option maxRecDepth 100000 in
theorem k_X4_lastFilled (l : Launch) (dC : Nat → ClassId) (dI : Nat → Nat → Nat) (cI cJ cZ : ClassId) (h0 h1 h2 : Nat) (s0 : S_Tree) (x1 : Int32) (u : Int32) (hf : f_X4_lastFilled s0 x1 = some u) (sz : Nat) : Met l yX4_lastFilled wsX4_lastFilled ({ frames := 1, cells := 0, slots := 0, locals := 22 }) (cPre (dC, dI) vwCl (TY cI cJ cZ) [.ref h0, .int x1] [(h0, .inr (4, [.ref h1, .ref h2])), (h1, .inl (cJ, 64, .inr (.inl s0.1))), (h2, .inl (cJ, 128, .inr (.inl s0.2)))] sz) (va_Qi (fun (r : Int32) (_ : Unit) => r = u) (fun _ t => cB (dC, dI) vwCl (TY cI cJ cZ) (va_A [(h0, .inr (4, [.ref h1, .ref h2])), (h1, .inl (cJ, 64, .inr (.inl s0.1))), (h2, .inl (cJ, 128, .inr (.inl s0.2)))] sz) [(h0, .inr (4, [.ref h1, .ref h2])), (h1, .inl (cJ, 64, .inr (.inl s0.1))), (h2, .inl (cJ, 128, .inr (.inl s0.2)))] t) (va_A [(h0, .inr (4, [.ref h1, .ref h2])), (h1, .inl (cJ, 64, .inr (.inl s0.1))), (h2, .inl (cJ, 128, .inr (.inl s0.2)))] sz)) 0 0 (va_A [(h0, .inr (4, [.ref h1, .ref h2])), (h1, .inl (cJ, 64, .inr (.inl s0.1))), (h2, .inl (cJ, 128, .inr (.inl s0.2)))] sz) := by
  refine Met.ofW (cc := cX4_lastFilled) (maxL := 4) (ret := (some .int)) (by decide) rfl ?_
  intro p e s m args below meth c s₁ B hml hv
  obtain ⟨rfl, hsz, hP, hK, hD0⟩ := hv
  have hx := B.exec
  have hb := B.bytes
  have hr := B.returns
  have hts := atoms_spec (ws := wsX4_lastFilled) B.pre
  have hown : s.vm.findClass RX4 = some m.cls := findClass_of_methodNamed B.named
  have hlocks := B.notSynchronized
  subst hsz
  have hD := hD0.self (sz := s.heap.size)
  generalize hAe : va_A [(h0, .inr (4, [.ref h1, .ref h2])), (h1, .inl (cJ, 64, .inr (.inl s0.1))), (h2, .inl (cJ, 128, .inr (.inl s0.2)))] s.heap.size = A at hD ⊢
  have hA : ∀ q : Nat, s.heap.size ≤ q → A q := fun q h => by rw [← hAe]; exact Or.inr h
  have hS : va_S A s.heap s.heap [] := va_S.rf
  have hl := lv_entry ([.ref h0, .int x1]) (n := 4) (Nat.le_of_ble_eq_true rfl)
  rw [lg_entry_eq]
  generalize (lg_sl ([.ref h0, .int x1]) ++ List.replicate (4 - (lg_sl ([.ref h0, .int x1])).length) Slot.unset).toArray = ls at hl ⊢
  have hl : lv_has ls 4 [(0, .ref h0), (1, .int x1)] := hl
  have h := hf
  unfold f_X4_lastFilled at h
  refine lv_iload_n hx hb dX4_lastFilled_0 rfl (lv_at hl 1 rfl) ?_
  obtain ⟨u1, hc1, h⟩ := bd_e h
  refine cc_i (tys := TY cI cJ cZ) ([] : va_W) [(h0, .inr (4, [.ref h1, .ref h2])), (h1, .inl (cJ, 64, .inr (.inl s0.1))), (h2, .inl (cJ, 128, .inr (.inl s0.2)))] ([] : va_W) [(h0, .inr (4, [.ref h1, .ref h2])), (h1, .inl (cJ, 64, .inr (.inl s0.1))), (h2, .inl (cJ, 128, .inr (.inl s0.2)))] hP hD hS hA [] [0, 1, 2] [0, 1, 2] rfl rfl (by decide) (by decide) rfl (by decide) rfl (va_runS (As := [.int x1]) (rest := []) ⟨hx, hb, hml, hown, hts⟩ (k_X4_isNode l dC dI cI cJ cZ x1 u1 hc1 _) (va_cwS 1 hts gX4_lastFilled_X4_isNode rfl rfl rfl (by decide +kernel) ⟨Nat.le_of_ble_eq_true rfl, Nat.le_of_ble_eq_true rfl⟩) ⟨cPre_blind, cPre_in hP hD hK [] rfl (by decide) rfl⟩ rfl rfl hl.1 rfl (lv_room (Nat.le_of_ble_eq_true rfl)) dX4_lastFilled_1 ⟨Nat.le_of_ble_eq_true rfl, Nat.le_of_ble_eq_true rfl⟩) (fun H locs hP hD hS => ?_)
  refine lv_if_ne (tgt := 9) hx hb dX4_lastFilled_4 (by decide) (fun c2 => ?_) (fun c2 => ?_)
  · have h := ie_f c2 h
    refine lv_iload_n hx hb dX4_lastFilled_9 rfl (lv_at hl 1 rfl) ?_
    obtain ⟨u3, hc3, h⟩ := bd_e h
    refine cc_i (tys := TY cI cJ cZ) ([] : va_W) [(h0, .inr (4, [.ref h1, .ref h2])), (h1, .inl (cJ, 64, .inr (.inl s0.1))), (h2, .inl (cJ, 128, .inr (.inl s0.2)))] ([] : va_W) [(h0, .inr (4, [.ref h1, .ref h2])), (h1, .inl (cJ, 64, .inr (.inl s0.1))), (h2, .inl (cJ, 128, .inr (.inl s0.2)))] hP hD hS hA [] [0, 1, 2] [0, 1, 2] rfl rfl (by decide) (by decide) rfl (by decide) rfl (va_runS (As := [.int x1]) (rest := []) ⟨hx, hb, hml, hown, hts⟩ (k_X4_firstPath l dC dI cI cJ cZ x1 u3 hc3 _) (va_cwS 1 hts gX4_lastFilled_X4_firstPath rfl rfl rfl (by decide +kernel) ⟨Nat.le_of_ble_eq_true rfl, Nat.le_of_ble_eq_true rfl⟩) ⟨cPre_blind, cPre_in hP hD hK [] rfl (by decide) rfl⟩ rfl rfl hl.1 rfl (lv_room (Nat.le_of_ble_eq_true rfl)) dX4_lastFilled_10 ⟨Nat.le_of_ble_eq_true rfl, Nat.le_of_ble_eq_true rfl⟩) (fun H locs hP hD hS => ?_)
    refine lv_istore_n (lv' := [(2, .int u3), (0, .ref h0), (1, .int x1)]) hx hb dX4_lastFilled_13 rfl hl (by decide) rfl (fun ls hl => ?_)
    refine lv_iload_n hx hb dX4_lastFilled_14 rfl (lv_at hl 2 rfl) ?_
    obtain ⟨u4, hc4, h⟩ := bd_e h
    refine cc_i (tys := TY cI cJ cZ) ([] : va_W) [(h0, .inr (4, [.ref h1, .ref h2])), (h1, .inl (cJ, 64, .inr (.inl s0.1))), (h2, .inl (cJ, 128, .inr (.inl s0.2)))] ([] : va_W) [(h0, .inr (4, [.ref h1, .ref h2])), (h1, .inl (cJ, 64, .inr (.inl s0.1))), (h2, .inl (cJ, 128, .inr (.inl s0.2)))] hP hD hS hA [] [0, 1, 2] [0, 1, 2] rfl rfl (by decide) (by decide) rfl (by decide) rfl (va_runS (As := [.int x1]) (rest := []) ⟨hx, hb, hml, hown, hts⟩ (k_X4_lastPath l dC dI cI cJ cZ x1 u4 hc4 _) (va_cwS 1 hts gX4_lastFilled_X4_lastPath rfl rfl rfl (by decide +kernel) ⟨Nat.le_of_ble_eq_true rfl, Nat.le_of_ble_eq_true rfl⟩) ⟨cPre_blind, cPre_in hP hD hK [] rfl (by decide) rfl⟩ rfl rfl hl.1 rfl (lv_room (Nat.le_of_ble_eq_true rfl)) dX4_lastFilled_15 ⟨Nat.le_of_ble_eq_true rfl, Nat.le_of_ble_eq_true rfl⟩) (fun H locs hP hD hS => ?_)
    refine lv_istore_n (lv' := [(3, .int u4), (2, .int u3), (0, .ref h0), (1, .int x1)]) hx hb dX4_lastFilled_18 rfl hl (by decide) rfl (fun ls hl => ?_)
    have lp19 : ∀ (n19 : Nat) (p19_3 : Int32), f_X4_lastFilled_19 u3 s0 n19 p19_3 = some u → ∀ (H : Heap) (locs : List Loc) (ls : Array Slot), va_P (dC, dI) vwCl [(h0, .inr (4, [.ref h1, .ref h2])), (h1, .inl (cJ, 64, .inr (.inl s0.1))), (h2, .inl (cJ, 128, .inr (.inl s0.2)))] H → va_D A [(h0, .inr (4, [.ref h1, .ref h2])), (h1, .inl (cJ, 64, .inr (.inl s0.1))), (h2, .inl (cJ, 128, .inr (.inl s0.2)))] → va_S A s.heap H locs → lv_has ls 4 [(3, .int p19_3), (2, .int u3), (0, .ref h0)] → W p l e (headSpec wsX4_lastFilled ({ frames := 1, cells := 0, slots := 0, locals := 22 } : Room)).room s m ([.ref h0, .int x1] : List Value).toArray below meth c H locs 0 0 (MQ below (va_Qi (fun (r : Int32) (_ : Unit) => r = u) (fun _ t => cB (dC, dI) vwCl (TY cI cJ cZ) A [(h0, .inr (4, [.ref h1, .ref h2])), (h1, .inl (cJ, 64, .inr (.inl s0.1))), (h2, .inl (cJ, 128, .inr (.inl s0.2)))] t) A) ([.ref h0, .int x1] : List Value).toArray s 0 0 A) (F0 m 19 ls []) := by
      intro n19
      induction n19 with
      | zero =>
        intro p19_3 h
        rw [f_X4_lastFilled_19] at h
        cases h
      | succ n19 ih19 =>
        intro p19_3 h H locs ls hP hD hS hl
        rw [f_X4_lastFilled_19] at h
        refine lv_iload_n hx hb dX4_lastFilled_19 rfl (lv_at hl 0 rfl) ?_
        refine lv_iload_n hx hb dX4_lastFilled_20 rfl (lv_at hl 1 rfl) ?_
        refine lv_icmp_lt (tgt := 43) hx hb dX4_lastFilled_21 (by decide) (fun c5 => ?_) (fun c5 => ?_)
        · have h := ie_t c5 h
          refine lv_iconst (v := (-1)) hx hb dX4_lastFilled_43 (by decide) ?_
          obtain rfl := Option.some.inj h
          exact W.iret (v := (-1)) hx hb hr (fun t ht hW => ⟨⟨_, (), rfl, rfl, by rw [ht]; exact hP, va_K.moved hW.alike hK, hD⟩, hS.F ht⟩) hS.2.2 dX4_lastFilled_44
        · have h := ie_f c5 h
          refine lv_aload_n hx hb dX4_lastFilled_24 rfl (lv_at hl 2 rfl) ?_
          refine va_get (D := (dC, dI)) (ci := 4) (v := .ref h1) (C := RX4) (T := TX4) (N := 2) hx hb hts (by decide +kernel) hown hK hP 0 rfl rfl 0 (by decide) (hts (.fieldLink RX4 9 "SnapshotPieces$Tree" "values" "[J") (by decide +kernel)) (fun _ h9 => h9) rfl dX4_lastFilled_25 ?_
          refine lv_iload_n hx hb dX4_lastFilled_28 rfl (lv_at hl 0 rfl) ?_
          obtain ⟨g6, h⟩ := kb_e h
          refine va_lald hx hb hK hP 1 1 rfl rfl (ib_in g6) dX4_lastFilled_29 ?_
          refine lv_lconst (v := 0) hx hb dX4_lastFilled_30 (by decide) ?_
          refine W.lcmp hx hb dX4_lastFilled_31 ?_
          refine lv_if_eq (tgt := 37) hx hb dX4_lastFilled_32 (by decide) (fun c7 => ?_) (fun c7 => ?_)
          · have c7 := lgz_t c7
            have h := ie_t c7 h
            refine lv_iinc (v := (p19_3 + (-1))) (lv' := [(3, .int (p19_3 + (-1))), (2, .int u3), (0, .ref h0)]) hx hb dX4_lastFilled_37 hl (k := 0) rfl rfl (by decide) rfl (fun ls hl => ?_)
            refine lv_goto (tgt := 19) hx hb dX4_lastFilled_40 (by decide) ?_
            exact ih19 (p19_3 + (-1)) h _ _ _ hP hD hS (lv_sub hl [0, 1, 2] rfl)
          · have c7 := lgz_f c7
            have h := ie_f c7 h
            refine lv_iload_n hx hb dX4_lastFilled_35 rfl (lv_at hl 0 rfl) ?_
            obtain rfl := Option.some.inj h
            exact W.iret (v := p19_3) hx hb hr (fun t ht hW => ⟨⟨_, (), rfl, rfl, by rw [ht]; exact hP, va_K.moved hW.alike hK, hD⟩, hS.F ht⟩) hS.2.2 dX4_lastFilled_36
    exact lp19 FU u4 h _ _ _ hP hD hS (lv_sub hl [0, 1, 2] rfl)
  · have h := ie_t c2 h
    refine lv_iconst (v := (-1)) hx hb dX4_lastFilled_7 (by decide) ?_
    obtain rfl := Option.some.inj h
    exact W.iret (v := (-1)) hx hb hr (fun t ht hW => ⟨⟨_, (), rfl, rfl, by rw [ht]; exact hP, va_K.moved hW.alike hK, hD⟩, hS.F ht⟩) hS.2.2 dX4_lastFilled_8
end
