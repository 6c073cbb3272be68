section
-- ===== PART A: goes FIRST, ahead of the names: the tables' words, and 'selects' of the private methods out of them =====
/-- a private method of a class that the tables say can be made, by its rows of tables_1 -/
def lw_okq (q : MethodName × Nat) : Prop := (q.1.cls ≠ "java/lang/invoke/MethodHandle" ∧ q.1.cls ≠ "java/lang/invoke/VarHandle") ∧ Cond.instantiable q.1.cls q.2 ∈ tables_1 ∧ Cond.privateMethod q.1 ∈ tables_1 ∧ Cond.instanceMethod q.1 ∈ tables_1
theorem lw_p0 : lw_okq (⟨"BranchLengths", "append", "(II)I"⟩, 10) := ⟨⟨by decide +kernel, by decide +kernel⟩, List.mem_of_getElem? (i := 4) (by decide +kernel), List.mem_of_getElem? (i := 48) (by decide +kernel), List.mem_of_getElem? (i := 49) (by decide +kernel)⟩
theorem lw_p1 : lw_okq (⟨"BranchLengths", "firstMarkless", "()I"⟩, 10) := ⟨⟨by decide +kernel, by decide +kernel⟩, List.mem_of_getElem? (i := 4) (by decide +kernel), List.mem_of_getElem? (i := 69) (by decide +kernel), List.mem_of_getElem? (i := 70) (by decide +kernel)⟩
theorem lw_p2 : lw_okq (⟨"BranchLengths", "isBranch", "(I)Z"⟩, 10) := ⟨⟨by decide +kernel, by decide +kernel⟩, List.mem_of_getElem? (i := 4) (by decide +kernel), List.mem_of_getElem? (i := 73) (by decide +kernel), List.mem_of_getElem? (i := 74) (by decide +kernel)⟩
theorem lw_p3 : lw_okq (⟨"BranchLengths", "isMark", "(I)Z"⟩, 10) := ⟨⟨by decide +kernel, by decide +kernel⟩, List.mem_of_getElem? (i := 4) (by decide +kernel), List.mem_of_getElem? (i := 77) (by decide +kernel), List.mem_of_getElem? (i := 78) (by decide +kernel)⟩
theorem lw_p4 : lw_okq (⟨"BranchLengths", "shortenAll", "()V"⟩, 10) := ⟨⟨by decide +kernel, by decide +kernel⟩, List.mem_of_getElem? (i := 4) (by decide +kernel), List.mem_of_getElem? (i := 81) (by decide +kernel), List.mem_of_getElem? (i := 82) (by decide +kernel)⟩
theorem lw_p5 : lw_okq (⟨"BranchLengths", "setPlaces", "()I"⟩, 10) := ⟨⟨by decide +kernel, by decide +kernel⟩, List.mem_of_getElem? (i := 4) (by decide +kernel), List.mem_of_getElem? (i := 85) (by decide +kernel), List.mem_of_getElem? (i := 86) (by decide +kernel)⟩
theorem lw_p6 : lw_okq (⟨"BranchLengths", "lengthenUnreaching", "()I"⟩, 10) := ⟨⟨by decide +kernel, by decide +kernel⟩, List.mem_of_getElem? (i := 4) (by decide +kernel), List.mem_of_getElem? (i := 89) (by decide +kernel), List.mem_of_getElem? (i := 90) (by decide +kernel)⟩
theorem lw_p7 : lw_okq (⟨"BranchLengths", "reachesShort", "(I)Z"⟩, 10) := ⟨⟨by decide +kernel, by decide +kernel⟩, List.mem_of_getElem? (i := 4) (by decide +kernel), List.mem_of_getElem? (i := 93) (by decide +kernel), List.mem_of_getElem? (i := 94) (by decide +kernel)⟩
theorem lw_p8 : lw_okq (⟨"BranchLengths", "isItem", "(I)Z"⟩, 10) := ⟨⟨by decide +kernel, by decide +kernel⟩, List.mem_of_getElem? (i := 4) (by decide +kernel), List.mem_of_getElem? (i := 97) (by decide +kernel), List.mem_of_getElem? (i := 98) (by decide +kernel)⟩
theorem lw_p9 : lw_okq (⟨"BranchLengths", "isLaid", "(I)Z"⟩, 10) := ⟨⟨by decide +kernel, by decide +kernel⟩, List.mem_of_getElem? (i := 4) (by decide +kernel), List.mem_of_getElem? (i := 109) (by decide +kernel), List.mem_of_getElem? (i := 110) (by decide +kernel)⟩
theorem lw_p10 : lw_okq (⟨"BranchLengthsModel", "item", "(II)I"⟩, 10) := ⟨⟨by decide +kernel, by decide +kernel⟩, List.mem_of_getElem? (i := 133) (by decide +kernel), List.mem_of_getElem? (i := 175) (by decide +kernel), List.mem_of_getElem? (i := 176) (by decide +kernel)⟩
theorem lw_p11 : lw_okq (⟨"BranchLengthsModel", "addUp", "()V"⟩, 10) := ⟨⟨by decide +kernel, by decide +kernel⟩, List.mem_of_getElem? (i := 133) (by decide +kernel), List.mem_of_getElem? (i := 196) (by decide +kernel), List.mem_of_getElem? (i := 197) (by decide +kernel)⟩
theorem lw_p12 : lw_okq (⟨"BranchLengthsModel", "reaches", "(I)Z"⟩, 10) := ⟨⟨by decide +kernel, by decide +kernel⟩, List.mem_of_getElem? (i := 133) (by decide +kernel), List.mem_of_getElem? (i := 200) (by decide +kernel), List.mem_of_getElem? (i := 201) (by decide +kernel)⟩
def lw_privs_1 : List (MethodName × Nat) := [(⟨"BranchLengths", "append", "(II)I"⟩, 10), (⟨"BranchLengths", "firstMarkless", "()I"⟩, 10), (⟨"BranchLengths", "isBranch", "(I)Z"⟩, 10), (⟨"BranchLengths", "isMark", "(I)Z"⟩, 10), (⟨"BranchLengths", "shortenAll", "()V"⟩, 10), (⟨"BranchLengths", "setPlaces", "()I"⟩, 10), (⟨"BranchLengths", "lengthenUnreaching", "()I"⟩, 10), (⟨"BranchLengths", "reachesShort", "(I)Z"⟩, 10), (⟨"BranchLengths", "isItem", "(I)Z"⟩, 10), (⟨"BranchLengths", "isLaid", "(I)Z"⟩, 10), (⟨"BranchLengthsModel", "item", "(II)I"⟩, 10), (⟨"BranchLengthsModel", "addUp", "()V"⟩, 10), (⟨"BranchLengthsModel", "reaches", "(I)Z"⟩, 10)]
theorem lw_r1 : ∀ q ∈ lw_privs_1, lw_okq q := List.forall_mem_cons.mpr ⟨lw_p0, List.forall_mem_cons.mpr ⟨lw_p1, List.forall_mem_cons.mpr ⟨lw_p2, List.forall_mem_cons.mpr ⟨lw_p3, List.forall_mem_cons.mpr ⟨lw_p4, List.forall_mem_cons.mpr ⟨lw_p5, List.forall_mem_cons.mpr ⟨lw_p6, List.forall_mem_cons.mpr ⟨lw_p7, List.forall_mem_cons.mpr ⟨lw_p8, List.forall_mem_cons.mpr ⟨lw_p9, List.forall_mem_cons.mpr ⟨lw_p10, List.forall_mem_cons.mpr ⟨lw_p11, List.forall_mem_cons.mpr ⟨lw_p12, fun _ h => absurd h List.not_mem_nil⟩⟩⟩⟩⟩⟩⟩⟩⟩⟩⟩⟩⟩
def lw_privs : List (MethodName × Nat) := lw_privs_1
def lw_tbl : List Cond := k2_sels lw_privs ++ tables_1
theorem lw_privs_ok : ∀ q ∈ lw_privs, lw_okq q := lw_r1
-- ===== end of PART A; then your names; then what follows =====
/-! ===== BEGIN words of one list among another's, by their places ===== -/
theorem goodIn_r {big : List Cond} (ws : List Cond) (ps : List Nat) (hp : ws = ps.filterMap (fun i => big[i]?)) (h : ws.all goodWord = true) : GoodIn big ws := by
  intro w hw
  have h1 := List.all_eq_true.mp h w hw
  rw [hp] at hw
  obtain ⟨i, -, hi⟩ := List.mem_filterMap.mp hw
  have hm : w ∈ big := by first | exact List.mem_of_getElem? hi | exact List.getElem?_mem hi
  exact ⟨hm, good_of_word h1⟩
theorem goodIn_app {big a b : List Cond} (ha : GoodIn big a) (hb : GoodIn big b) : GoodIn big (a ++ b) := fun w h => (List.mem_append.mp h).elim (ha w) (hb w)
theorem goodIn_ca {big a b : List Cond} {c : Cond} (ha : GoodIn big (c :: a)) (hb : GoodIn big b) : GoodIn big (c :: (a ++ b)) := fun w h => (List.mem_cons.mp h).elim (fun e => ha w (List.mem_cons.mpr (Or.inl e))) (fun h => (List.mem_append.mp h).elim (fun h => ha w (List.mem_cons.mpr (Or.inr h))) (hb w))
theorem goodIn_sub {big ws : List Cond} (hm : ∀ w ∈ ws, w ∈ big) (h : ws.all goodWord = true) : GoodIn big ws := fun w hw => ⟨hm w hw, good_of_word (List.all_eq_true.mp h w hw)⟩
/-! ===== END ===== -/

/-! ===== BEGIN printed: names, fields, word lists, decode rows ===== -/
def RX0 : String := "BranchLengths"
def TX0 : u_T := fun k => match k with
  | 0 => ("BranchLengths", "words", "[I", true)
  | 1 => ("BranchLengths", "targets", "[I", true)
  | 2 => ("BranchLengths", "places", "[I", true)
  | 3 => ("BranchLengths", "markItems", "[I", true)
  | 4 => ("BranchLengths", "itemCount", "I", false)
  | 5 => ("BranchLengths", "markCount", "I", false)
  | 6 => ("BranchLengths", "longCount", "I", false)
  | 7 => ("BranchLengths", "reachNow", "I", false)
  | 8 => ("BranchLengths", "markless", "I", false)
  | _ => ("BranchLengths", "laidOut", "Z", false)
def tyX0 : Nat → FieldType := fun k => match k with
  | 0 => .array .int
  | 1 => .array .int
  | 2 => .array .int
  | 3 => .array .int
  | 4 => .int
  | 5 => .int
  | 6 => .int
  | 7 => .int
  | 8 => .int
  | _ => .boolean
abbrev wsX00 : List Cond := u_ws RX0 TX0 10
theorem nmX0 : ∀ a, a < 10 → ∀ b, b < 10 → a ≠ b → (TX0 a).2.1 ≠ (TX0 b).2.1 := by decide +kernel
theorem tyX0_ok : ∀ k, k < 10 → parseFieldDescriptor (TX0 k).2.2.1 = some (tyX0 k) := by decide +kernel
abbrev cX0_init : ByteArray := prog_1_method_1_code
def yX0_init : MethodName := ⟨RX0, "<init>", "()V"⟩
abbrev cX0_stretch : ByteArray := prog_1_method_2_code
def yX0_stretch : MethodName := ⟨RX0, "stretch", "(I)I"⟩
abbrev cX0_mark : ByteArray := prog_1_method_3_code
def yX0_mark : MethodName := ⟨RX0, "mark", "()I"⟩
abbrev cX0_branch : ByteArray := prog_1_method_4_code
def yX0_branch : MethodName := ⟨RX0, "branch", "(I)I"⟩
abbrev cX0_reach : ByteArray := prog_1_method_5_code
def yX0_reach : MethodName := ⟨RX0, "reach", "(I)Z"⟩
abbrev cX0_lay : ByteArray := prog_1_method_6_code
def yX0_lay : MethodName := ⟨RX0, "lay", "()I"⟩
abbrev cX0_least : ByteArray := prog_1_method_7_code
def yX0_least : MethodName := ⟨RX0, "least", "()I"⟩
abbrev cX0_place : ByteArray := prog_1_method_8_code
def yX0_place : MethodName := ⟨RX0, "place", "(I)I"⟩
abbrev cX0_isLong : ByteArray := prog_1_method_9_code
def yX0_isLong : MethodName := ⟨RX0, "isLong", "(I)Z"⟩
abbrev cX0_longs : ByteArray := prog_1_method_10_code
def yX0_longs : MethodName := ⟨RX0, "longs", "()I"⟩
abbrev cX0_clear : ByteArray := prog_1_method_11_code
def yX0_clear : MethodName := ⟨RX0, "clear", "()V"⟩
abbrev cX0_items : ByteArray := prog_1_method_12_code
def yX0_items : MethodName := ⟨RX0, "items", "()I"⟩
abbrev cX0_marks : ByteArray := prog_1_method_13_code
def yX0_marks : MethodName := ⟨RX0, "marks", "()I"⟩
abbrev cX0_append : ByteArray := prog_1_method_14_code
def yX0_append : MethodName := ⟨RX0, "append", "(II)I"⟩
abbrev cX0_isLaid : ByteArray := prog_1_method_15_code
def yX0_isLaid : MethodName := ⟨RX0, "isLaid", "(I)Z"⟩
abbrev cX0_isItem : ByteArray := prog_1_method_16_code
def yX0_isItem : MethodName := ⟨RX0, "isItem", "(I)Z"⟩
abbrev cX0_isMark : ByteArray := prog_1_method_17_code
def yX0_isMark : MethodName := ⟨RX0, "isMark", "(I)Z"⟩
abbrev cX0_isBranch : ByteArray := prog_1_method_18_code
def yX0_isBranch : MethodName := ⟨RX0, "isBranch", "(I)Z"⟩
abbrev cX0_firstMarkless : ByteArray := prog_1_method_19_code
def yX0_firstMarkless : MethodName := ⟨RX0, "firstMarkless", "()I"⟩
abbrev cX0_shortenAll : ByteArray := prog_1_method_20_code
def yX0_shortenAll : MethodName := ⟨RX0, "shortenAll", "()V"⟩
abbrev cX0_setPlaces : ByteArray := prog_1_method_21_code
def yX0_setPlaces : MethodName := ⟨RX0, "setPlaces", "()I"⟩
abbrev cX0_lengthenUnreaching : ByteArray := prog_1_method_22_code
def yX0_lengthenUnreaching : MethodName := ⟨RX0, "lengthenUnreaching", "()I"⟩
abbrev cX0_reachesShort : ByteArray := prog_1_method_23_code
def yX0_reachesShort : MethodName := ⟨RX0, "reachesShort", "(I)Z"⟩
def RX1 : String := "BranchLengthsModel"
def TX1 : u_T := fun k => match k with
  | 0 => ("BranchLengthsModel", "kinds", "[I", true)
  | 1 => ("BranchLengthsModel", "numbers", "[I", true)
  | 2 => ("BranchLengthsModel", "longOnes", "[Z", true)
  | 3 => ("BranchLengthsModel", "places", "[I", true)
  | 4 => ("BranchLengthsModel", "markItems", "[I", true)
  | 5 => ("BranchLengthsModel", "items", "I", false)
  | 6 => ("BranchLengthsModel", "marks", "I", false)
  | 7 => ("BranchLengthsModel", "reach", "I", false)
  | 8 => ("BranchLengthsModel", "least", "I", false)
  | _ => ("BranchLengthsModel", "laid", "Z", false)
def tyX1 : Nat → FieldType := fun k => match k with
  | 0 => .array .int
  | 1 => .array .int
  | 2 => .array .boolean
  | 3 => .array .int
  | 4 => .array .int
  | 5 => .int
  | 6 => .int
  | 7 => .int
  | 8 => .int
  | _ => .boolean
abbrev wsX10 : List Cond := u_ws RX1 TX1 10
theorem nmX1 : ∀ a, a < 10 → ∀ b, b < 10 → a ≠ b → (TX1 a).2.1 ≠ (TX1 b).2.1 := by decide +kernel
theorem tyX1_ok : ∀ k, k < 10 → parseFieldDescriptor (TX1 k).2.2.1 = some (tyX1 k) := by decide +kernel
abbrev cX1_init : ByteArray := prog_3_method_1_code
def yX1_init : MethodName := ⟨RX1, "<init>", "()V"⟩
abbrev cX1_item : ByteArray := prog_3_method_3_code
def yX1_item : MethodName := ⟨RX1, "item", "(II)I"⟩
abbrev cX1_stretch : ByteArray := prog_3_method_4_code
def yX1_stretch : MethodName := ⟨RX1, "stretch", "(I)I"⟩
abbrev cX1_mark : ByteArray := prog_3_method_5_code
def yX1_mark : MethodName := ⟨RX1, "mark", "()I"⟩
abbrev cX1_branch : ByteArray := prog_3_method_6_code
def yX1_branch : MethodName := ⟨RX1, "branch", "(I)I"⟩
abbrev cX1_reach : ByteArray := prog_3_method_7_code
def yX1_reach : MethodName := ⟨RX1, "reach", "(I)Z"⟩
abbrev cX1_addUp : ByteArray := prog_3_method_8_code
def yX1_addUp : MethodName := ⟨RX1, "addUp", "()V"⟩
abbrev cX1_reaches : ByteArray := prog_3_method_9_code
def yX1_reaches : MethodName := ⟨RX1, "reaches", "(I)Z"⟩
abbrev cX1_lay : ByteArray := prog_3_method_10_code
def yX1_lay : MethodName := ⟨RX1, "lay", "()I"⟩
abbrev cX1_least : ByteArray := prog_3_method_11_code
def yX1_least : MethodName := ⟨RX1, "least", "()I"⟩
abbrev cX1_place : ByteArray := prog_3_method_12_code
def yX1_place : MethodName := ⟨RX1, "place", "(I)I"⟩
abbrev cX1_isLong : ByteArray := prog_3_method_13_code
def yX1_isLong : MethodName := ⟨RX1, "isLong", "(I)Z"⟩
abbrev cX1_longs : ByteArray := prog_3_method_14_code
def yX1_longs : MethodName := ⟨RX1, "longs", "()I"⟩
abbrev cX1_clear : ByteArray := prog_3_method_15_code
def yX1_clear : MethodName := ⟨RX1, "clear", "()V"⟩
abbrev cX1_items : ByteArray := prog_3_method_16_code
def yX1_items : MethodName := ⟨RX1, "items", "()I"⟩
abbrev cX1_marks : ByteArray := prog_3_method_17_code
def yX1_marks : MethodName := ⟨RX1, "marks", "()I"⟩
def RL : String := "BranchLengthsLaw"
abbrev cL_law : ByteArray := code
def yL_law : MethodName := ⟨RL, "law", "([I)Z"⟩
def wsX0_init : List Cond := .code yX0_init cX0_init 1 none :: ([.methodLink RX0 1 objectInit, .instanceMethod objectInit, .code objectInit ⟨#[0xb1]⟩ 1 none, .arrayClass .int, .fieldLink RX0 9 "BranchLengths" "words" "[I", .fieldLink RX0 13 "BranchLengths" "targets" "[I", .fieldLink RX0 16 "BranchLengths" "places" "[I", .fieldLink RX0 19 "BranchLengths" "markItems" "[I", .fieldLink RX0 22 "BranchLengths" "itemCount" "I", .fieldLink RX0 26 "BranchLengths" "markCount" "I", .fieldLink RX0 29 "BranchLengths" "longCount" "I", .fieldLink RX0 32 "BranchLengths" "reachNow" "I", .fieldLink RX0 35 "BranchLengths" "markless" "I", .fieldLink RX0 38 "BranchLengths" "laidOut" "Z"] ++ wsX00)
def wsX0_append : List Cond := .code yX0_append cX0_append 4 (some .int) :: ([.fieldLink RX0 22 "BranchLengths" "itemCount" "I", .fieldLink RX0 9 "BranchLengths" "words" "[I", .fieldLink RX0 13 "BranchLengths" "targets" "[I", .fieldLink RX0 38 "BranchLengths" "laidOut" "Z"] ++ wsX00)
def wsX0_stretch : List Cond := .code yX0_stretch cX0_stretch 2 (some .int) :: ([.methodLink RX0 42 yX0_append, .instanceMethod yX0_append, .selects RX0 yX0_append yX0_append, .initialized RX0, .code yX0_append cX0_append 4 (some .int), .fieldLink RX0 22 "BranchLengths" "itemCount" "I", .fieldLink RX0 9 "BranchLengths" "words" "[I", .fieldLink RX0 13 "BranchLengths" "targets" "[I", .fieldLink RX0 38 "BranchLengths" "laidOut" "Z"] ++ wsX00)
def wsX0_mark : List Cond := .code yX0_mark cX0_mark 2 (some .int) :: ([.fieldLink RX0 26 "BranchLengths" "markCount" "I", .fieldLink RX0 19 "BranchLengths" "markItems" "[I", .methodLink RX0 42 yX0_append, .instanceMethod yX0_append, .selects RX0 yX0_append yX0_append, .initialized RX0, .code yX0_append cX0_append 4 (some .int), .fieldLink RX0 22 "BranchLengths" "itemCount" "I", .fieldLink RX0 9 "BranchLengths" "words" "[I", .fieldLink RX0 13 "BranchLengths" "targets" "[I", .fieldLink RX0 38 "BranchLengths" "laidOut" "Z"] ++ wsX00)
def wsX0_branch : List Cond := .code yX0_branch cX0_branch 2 (some .int) :: ([.methodLink RX0 42 yX0_append, .instanceMethod yX0_append, .selects RX0 yX0_append yX0_append, .initialized RX0, .code yX0_append cX0_append 4 (some .int), .fieldLink RX0 22 "BranchLengths" "itemCount" "I", .fieldLink RX0 9 "BranchLengths" "words" "[I", .fieldLink RX0 13 "BranchLengths" "targets" "[I", .fieldLink RX0 38 "BranchLengths" "laidOut" "Z"] ++ wsX00)
def wsX0_reach : List Cond := .code yX0_reach cX0_reach 2 (some .boolean) :: ([.constant RX0 46 (100000), .fieldLink RX0 32 "BranchLengths" "reachNow" "I", .fieldLink RX0 38 "BranchLengths" "laidOut" "Z"] ++ wsX00)
def wsX0_isBranch : List Cond := .code yX0_isBranch cX0_isBranch 2 (some .boolean) :: ([.fieldLink RX0 13 "BranchLengths" "targets" "[I"] ++ wsX00)
def wsX0_isMark : List Cond := .code yX0_isMark cX0_isMark 2 (some .boolean) :: ([.fieldLink RX0 26 "BranchLengths" "markCount" "I"] ++ wsX00)
def wsX0_firstMarkless : List Cond := .code yX0_firstMarkless cX0_firstMarkless 2 (some .int) :: ([.fieldLink RX0 22 "BranchLengths" "itemCount" "I", .fieldLink RX0 13 "BranchLengths" "targets" "[I", .methodLink RX0 64 yX0_isBranch, .instanceMethod yX0_isBranch, .selects RX0 yX0_isBranch yX0_isBranch, .initialized RX0, .code yX0_isBranch cX0_isBranch 2 (some .boolean), .methodLink RX0 70 yX0_isMark, .instanceMethod yX0_isMark, .selects RX0 yX0_isMark yX0_isMark, .code yX0_isMark cX0_isMark 2 (some .boolean), .fieldLink RX0 26 "BranchLengths" "markCount" "I"] ++ wsX00)
def wsX0_shortenAll : List Cond := .code yX0_shortenAll cX0_shortenAll 2 none :: ([.fieldLink RX0 22 "BranchLengths" "itemCount" "I", .fieldLink RX0 9 "BranchLengths" "words" "[I", .fieldLink RX0 29 "BranchLengths" "longCount" "I", .methodLink RX0 64 yX0_isBranch, .instanceMethod yX0_isBranch, .selects RX0 yX0_isBranch yX0_isBranch, .initialized RX0, .code yX0_isBranch cX0_isBranch 2 (some .boolean), .fieldLink RX0 13 "BranchLengths" "targets" "[I"] ++ wsX00)
def wsX0_setPlaces : List Cond := .code yX0_setPlaces cX0_setPlaces 3 (some .int) :: ([.fieldLink RX0 22 "BranchLengths" "itemCount" "I", .fieldLink RX0 16 "BranchLengths" "places" "[I", .fieldLink RX0 9 "BranchLengths" "words" "[I"] ++ wsX00)
def wsX0_isItem : List Cond := .code yX0_isItem cX0_isItem 2 (some .boolean) :: ([.fieldLink RX0 22 "BranchLengths" "itemCount" "I"] ++ wsX00)
def wsX0_reachesShort : List Cond := .code yX0_reachesShort cX0_reachesShort 4 (some .boolean) :: ([.fieldLink RX0 13 "BranchLengths" "targets" "[I", .fieldLink RX0 19 "BranchLengths" "markItems" "[I", .fieldLink RX0 16 "BranchLengths" "places" "[I", .fieldLink RX0 32 "BranchLengths" "reachNow" "I", .methodLink RX0 70 yX0_isMark, .instanceMethod yX0_isMark, .selects RX0 yX0_isMark yX0_isMark, .initialized RX0, .code yX0_isMark cX0_isMark 2 (some .boolean), .fieldLink RX0 26 "BranchLengths" "markCount" "I", .methodLink RX0 67 yX0_isItem, .instanceMethod yX0_isItem, .selects RX0 yX0_isItem yX0_isItem, .code yX0_isItem cX0_isItem 2 (some .boolean), .fieldLink RX0 22 "BranchLengths" "itemCount" "I"] ++ wsX00)
def wsX0_lengthenUnreaching : List Cond := .code yX0_lengthenUnreaching cX0_lengthenUnreaching 3 (some .int) :: ([.fieldLink RX0 22 "BranchLengths" "itemCount" "I", .fieldLink RX0 9 "BranchLengths" "words" "[I", .methodLink RX0 64 yX0_isBranch, .instanceMethod yX0_isBranch, .selects RX0 yX0_isBranch yX0_isBranch, .initialized RX0, .code yX0_isBranch cX0_isBranch 2 (some .boolean), .fieldLink RX0 13 "BranchLengths" "targets" "[I", .methodLink RX0 73 yX0_reachesShort, .instanceMethod yX0_reachesShort, .selects RX0 yX0_reachesShort yX0_reachesShort, .code yX0_reachesShort cX0_reachesShort 4 (some .boolean), .fieldLink RX0 19 "BranchLengths" "markItems" "[I", .fieldLink RX0 16 "BranchLengths" "places" "[I", .fieldLink RX0 32 "BranchLengths" "reachNow" "I", .methodLink RX0 70 yX0_isMark, .instanceMethod yX0_isMark, .selects RX0 yX0_isMark yX0_isMark, .code yX0_isMark cX0_isMark 2 (some .boolean), .fieldLink RX0 26 "BranchLengths" "markCount" "I", .methodLink RX0 67 yX0_isItem, .instanceMethod yX0_isItem, .selects RX0 yX0_isItem yX0_isItem, .code yX0_isItem cX0_isItem 2 (some .boolean)] ++ wsX00)
def wsX0_lay_r1 : List Cond := [Cond.fieldLink RX0 35 "BranchLengths" "markless" "I", Cond.fieldLink RX0 38 "BranchLengths" "laidOut" "Z", Cond.fieldLink RX0 22 "BranchLengths" "itemCount" "I", Cond.fieldLink RX0 29 "BranchLengths" "longCount" "I", Cond.methodLink RX0 47 yX0_firstMarkless, Cond.instanceMethod yX0_firstMarkless, Cond.selects RX0 yX0_firstMarkless yX0_firstMarkless, Cond.initialized RX0, Cond.code yX0_firstMarkless cX0_firstMarkless 2 (some .int), Cond.fieldLink RX0 13 "BranchLengths" "targets" "[I", Cond.methodLink RX0 64 yX0_isBranch, Cond.instanceMethod yX0_isBranch, Cond.selects RX0 yX0_isBranch yX0_isBranch, Cond.code yX0_isBranch cX0_isBranch 2 (some .boolean), Cond.methodLink RX0 70 yX0_isMark, Cond.instanceMethod yX0_isMark, Cond.selects RX0 yX0_isMark yX0_isMark, Cond.code yX0_isMark cX0_isMark 2 (some .boolean), Cond.fieldLink RX0 26 "BranchLengths" "markCount" "I", Cond.methodLink RX0 51 yX0_shortenAll, Cond.instanceMethod yX0_shortenAll, Cond.selects RX0 yX0_shortenAll yX0_shortenAll, Cond.code yX0_shortenAll cX0_shortenAll 2 none, Cond.fieldLink RX0 9 "BranchLengths" "words" "[I"]
def wsX0_lay_r2 : List Cond := [Cond.methodLink RX0 54 yX0_setPlaces, Cond.instanceMethod yX0_setPlaces, Cond.selects RX0 yX0_setPlaces yX0_setPlaces, Cond.code yX0_setPlaces cX0_setPlaces 3 (some .int), Cond.fieldLink RX0 16 "BranchLengths" "places" "[I", Cond.methodLink RX0 57 yX0_lengthenUnreaching, Cond.instanceMethod yX0_lengthenUnreaching, Cond.selects RX0 yX0_lengthenUnreaching yX0_lengthenUnreaching, Cond.code yX0_lengthenUnreaching cX0_lengthenUnreaching 3 (some .int), Cond.methodLink RX0 73 yX0_reachesShort, Cond.instanceMethod yX0_reachesShort, Cond.selects RX0 yX0_reachesShort yX0_reachesShort, Cond.code yX0_reachesShort cX0_reachesShort 4 (some .boolean), Cond.fieldLink RX0 19 "BranchLengths" "markItems" "[I", Cond.fieldLink RX0 32 "BranchLengths" "reachNow" "I", Cond.methodLink RX0 67 yX0_isItem, Cond.instanceMethod yX0_isItem, Cond.selects RX0 yX0_isItem yX0_isItem, Cond.code yX0_isItem cX0_isItem 2 (some .boolean)]
def wsX0_lay : List Cond := .code yX0_lay cX0_lay 4 (some .int) :: ((wsX0_lay_r1 ++ wsX0_lay_r2) ++ wsX00)
def wsX0_least : List Cond := .code yX0_least cX0_least 1 (some .int) :: ([.fieldLink RX0 35 "BranchLengths" "markless" "I"] ++ wsX00)
def wsX0_isLaid : List Cond := .code yX0_isLaid cX0_isLaid 2 (some .boolean) :: ([.fieldLink RX0 38 "BranchLengths" "laidOut" "Z", .methodLink RX0 67 yX0_isItem, .instanceMethod yX0_isItem, .selects RX0 yX0_isItem yX0_isItem, .initialized RX0, .code yX0_isItem cX0_isItem 2 (some .boolean), .fieldLink RX0 22 "BranchLengths" "itemCount" "I"] ++ wsX00)
def wsX0_place : List Cond := .code yX0_place cX0_place 2 (some .int) :: ([.fieldLink RX0 16 "BranchLengths" "places" "[I", .methodLink RX0 60 yX0_isLaid, .instanceMethod yX0_isLaid, .selects RX0 yX0_isLaid yX0_isLaid, .initialized RX0, .code yX0_isLaid cX0_isLaid 2 (some .boolean), .fieldLink RX0 38 "BranchLengths" "laidOut" "Z", .methodLink RX0 67 yX0_isItem, .instanceMethod yX0_isItem, .selects RX0 yX0_isItem yX0_isItem, .code yX0_isItem cX0_isItem 2 (some .boolean), .fieldLink RX0 22 "BranchLengths" "itemCount" "I"] ++ wsX00)
def wsX0_isLong : List Cond := .code yX0_isLong cX0_isLong 2 (some .boolean) :: ([.fieldLink RX0 9 "BranchLengths" "words" "[I", .methodLink RX0 60 yX0_isLaid, .instanceMethod yX0_isLaid, .selects RX0 yX0_isLaid yX0_isLaid, .initialized RX0, .code yX0_isLaid cX0_isLaid 2 (some .boolean), .fieldLink RX0 38 "BranchLengths" "laidOut" "Z", .methodLink RX0 67 yX0_isItem, .instanceMethod yX0_isItem, .selects RX0 yX0_isItem yX0_isItem, .code yX0_isItem cX0_isItem 2 (some .boolean), .fieldLink RX0 22 "BranchLengths" "itemCount" "I", .methodLink RX0 64 yX0_isBranch, .instanceMethod yX0_isBranch, .selects RX0 yX0_isBranch yX0_isBranch, .code yX0_isBranch cX0_isBranch 2 (some .boolean), .fieldLink RX0 13 "BranchLengths" "targets" "[I"] ++ wsX00)
def wsX0_longs : List Cond := .code yX0_longs cX0_longs 1 (some .int) :: ([.fieldLink RX0 38 "BranchLengths" "laidOut" "Z", .fieldLink RX0 29 "BranchLengths" "longCount" "I"] ++ wsX00)
def wsX0_clear : List Cond := .code yX0_clear cX0_clear 1 none :: ([.fieldLink RX0 22 "BranchLengths" "itemCount" "I", .fieldLink RX0 26 "BranchLengths" "markCount" "I", .fieldLink RX0 38 "BranchLengths" "laidOut" "Z"] ++ wsX00)
def wsX0_items : List Cond := .code yX0_items cX0_items 1 (some .int) :: ([.fieldLink RX0 22 "BranchLengths" "itemCount" "I"] ++ wsX00)
def wsX0_marks : List Cond := .code yX0_marks cX0_marks 1 (some .int) :: ([.fieldLink RX0 26 "BranchLengths" "markCount" "I"] ++ wsX00)
def wsX1_init : List Cond := .code yX1_init cX1_init 1 none :: ([.methodLink RX1 1 objectInit, .instanceMethod objectInit, .code objectInit ⟨#[0xb1]⟩ 1 none, .arrayClass .int, .fieldLink RX1 9 "BranchLengthsModel" "kinds" "[I", .fieldLink RX1 13 "BranchLengthsModel" "numbers" "[I", .arrayClass .boolean, .fieldLink RX1 16 "BranchLengthsModel" "longOnes" "[Z", .fieldLink RX1 20 "BranchLengthsModel" "places" "[I", .fieldLink RX1 23 "BranchLengthsModel" "markItems" "[I", .fieldLink RX1 26 "BranchLengthsModel" "reach" "I", .fieldLink RX1 30 "BranchLengthsModel" "least" "I"] ++ wsX10)
def wsX1_item : List Cond := .code yX1_item cX1_item 3 (some .int) :: ([.fieldLink RX1 33 "BranchLengthsModel" "items" "I", .fieldLink RX1 9 "BranchLengthsModel" "kinds" "[I", .fieldLink RX1 13 "BranchLengthsModel" "numbers" "[I", .fieldLink RX1 36 "BranchLengthsModel" "laid" "Z"] ++ wsX10)
def wsX1_stretch : List Cond := .code yX1_stretch cX1_stretch 2 (some .int) :: ([.methodLink RX1 40 yX1_item, .instanceMethod yX1_item, .selects RX1 yX1_item yX1_item, .initialized RX1, .code yX1_item cX1_item 3 (some .int), .fieldLink RX1 33 "BranchLengthsModel" "items" "I", .fieldLink RX1 9 "BranchLengthsModel" "kinds" "[I", .fieldLink RX1 13 "BranchLengthsModel" "numbers" "[I", .fieldLink RX1 36 "BranchLengthsModel" "laid" "Z"] ++ wsX10)
def wsX1_mark : List Cond := .code yX1_mark cX1_mark 2 (some .int) :: ([.fieldLink RX1 23 "BranchLengthsModel" "markItems" "[I", .fieldLink RX1 44 "BranchLengthsModel" "marks" "I", .methodLink RX1 40 yX1_item, .instanceMethod yX1_item, .selects RX1 yX1_item yX1_item, .initialized RX1, .code yX1_item cX1_item 3 (some .int), .fieldLink RX1 33 "BranchLengthsModel" "items" "I", .fieldLink RX1 9 "BranchLengthsModel" "kinds" "[I", .fieldLink RX1 13 "BranchLengthsModel" "numbers" "[I", .fieldLink RX1 36 "BranchLengthsModel" "laid" "Z"] ++ wsX10)
def wsX1_branch : List Cond := .code yX1_branch cX1_branch 2 (some .int) :: ([.methodLink RX1 40 yX1_item, .instanceMethod yX1_item, .selects RX1 yX1_item yX1_item, .initialized RX1, .code yX1_item cX1_item 3 (some .int), .fieldLink RX1 33 "BranchLengthsModel" "items" "I", .fieldLink RX1 9 "BranchLengthsModel" "kinds" "[I", .fieldLink RX1 13 "BranchLengthsModel" "numbers" "[I", .fieldLink RX1 36 "BranchLengthsModel" "laid" "Z"] ++ wsX10)
def wsX1_reach : List Cond := .code yX1_reach cX1_reach 2 (some .boolean) :: ([.constant RX1 47 (100000), .fieldLink RX1 26 "BranchLengthsModel" "reach" "I", .fieldLink RX1 36 "BranchLengthsModel" "laid" "Z"] ++ wsX10)
def wsX1_addUp : List Cond := .code yX1_addUp cX1_addUp 2 none :: ([.fieldLink RX1 20 "BranchLengthsModel" "places" "[I", .fieldLink RX1 33 "BranchLengthsModel" "items" "I", .fieldLink RX1 9 "BranchLengthsModel" "kinds" "[I", .fieldLink RX1 13 "BranchLengthsModel" "numbers" "[I", .fieldLink RX1 16 "BranchLengthsModel" "longOnes" "[Z"] ++ wsX10)
def wsX1_reaches : List Cond := .code yX1_reaches cX1_reaches 3 (some .boolean) :: ([.fieldLink RX1 20 "BranchLengthsModel" "places" "[I", .fieldLink RX1 23 "BranchLengthsModel" "markItems" "[I", .fieldLink RX1 13 "BranchLengthsModel" "numbers" "[I", .fieldLink RX1 16 "BranchLengthsModel" "longOnes" "[Z", .fieldLink RX1 26 "BranchLengthsModel" "reach" "I"] ++ wsX10)
def wsX1_lay : List Cond := .code yX1_lay cX1_lay 3 (some .int) :: ([.fieldLink RX1 36 "BranchLengthsModel" "laid" "Z", .fieldLink RX1 30 "BranchLengthsModel" "least" "I", .fieldLink RX1 33 "BranchLengthsModel" "items" "I", .fieldLink RX1 9 "BranchLengthsModel" "kinds" "[I", .fieldLink RX1 13 "BranchLengthsModel" "numbers" "[I", .fieldLink RX1 44 "BranchLengthsModel" "marks" "I", .fieldLink RX1 16 "BranchLengthsModel" "longOnes" "[Z", .fieldLink RX1 20 "BranchLengthsModel" "places" "[I", .methodLink RX1 48 yX1_addUp, .instanceMethod yX1_addUp, .selects RX1 yX1_addUp yX1_addUp, .initialized RX1, .code yX1_addUp cX1_addUp 2 none, .methodLink RX1 51 yX1_reaches, .instanceMethod yX1_reaches, .selects RX1 yX1_reaches yX1_reaches, .code yX1_reaches cX1_reaches 3 (some .boolean), .fieldLink RX1 23 "BranchLengthsModel" "markItems" "[I", .fieldLink RX1 26 "BranchLengthsModel" "reach" "I"] ++ wsX10)
def wsX1_least : List Cond := .code yX1_least cX1_least 1 (some .int) :: ([.fieldLink RX1 30 "BranchLengthsModel" "least" "I"] ++ wsX10)
def wsX1_place : List Cond := .code yX1_place cX1_place 2 (some .int) :: ([.fieldLink RX1 36 "BranchLengthsModel" "laid" "Z", .fieldLink RX1 33 "BranchLengthsModel" "items" "I", .fieldLink RX1 20 "BranchLengthsModel" "places" "[I"] ++ wsX10)
def wsX1_isLong : List Cond := .code yX1_isLong cX1_isLong 2 (some .boolean) :: ([.fieldLink RX1 36 "BranchLengthsModel" "laid" "Z", .fieldLink RX1 33 "BranchLengthsModel" "items" "I", .fieldLink RX1 9 "BranchLengthsModel" "kinds" "[I", .fieldLink RX1 16 "BranchLengthsModel" "longOnes" "[Z"] ++ wsX10)
def wsX1_longs : List Cond := .code yX1_longs cX1_longs 3 (some .int) :: ([.fieldLink RX1 36 "BranchLengthsModel" "laid" "Z", .fieldLink RX1 33 "BranchLengthsModel" "items" "I", .fieldLink RX1 9 "BranchLengthsModel" "kinds" "[I", .fieldLink RX1 16 "BranchLengthsModel" "longOnes" "[Z"] ++ wsX10)
def wsX1_clear : List Cond := .code yX1_clear cX1_clear 1 none :: ([.fieldLink RX1 33 "BranchLengthsModel" "items" "I", .fieldLink RX1 44 "BranchLengthsModel" "marks" "I", .fieldLink RX1 36 "BranchLengthsModel" "laid" "Z"] ++ wsX10)
def wsX1_items : List Cond := .code yX1_items cX1_items 1 (some .int) :: ([.fieldLink RX1 33 "BranchLengthsModel" "items" "I"] ++ wsX10)
def wsX1_marks : List Cond := .code yX1_marks cX1_marks 1 (some .int) :: ([.fieldLink RX1 44 "BranchLengthsModel" "marks" "I"] ++ wsX10)
def wsL_law_r1 : List Cond := [Cond.classLink RL 7 RX0, Cond.instantiable RX0 10, Cond.initialized RX0, Cond.classLink RL 10 RX1, Cond.instantiable RX1 10, Cond.initialized RX1, Cond.methodLink RL 9 yX0_init, Cond.instanceMethod yX0_init, Cond.code yX0_init cX0_init 1 none, Cond.methodLink RX0 1 objectInit, Cond.instanceMethod objectInit, Cond.code objectInit ⟨#[0xb1]⟩ 1 none, Cond.arrayClass .int, Cond.fieldLink RX0 9 "BranchLengths" "words" "[I", Cond.fieldLink RX0 13 "BranchLengths" "targets" "[I", Cond.fieldLink RX0 16 "BranchLengths" "places" "[I", Cond.fieldLink RX0 19 "BranchLengths" "markItems" "[I", Cond.fieldLink RX0 22 "BranchLengths" "itemCount" "I", Cond.fieldLink RX0 26 "BranchLengths" "markCount" "I", Cond.fieldLink RX0 29 "BranchLengths" "longCount" "I", Cond.fieldLink RX0 32 "BranchLengths" "reachNow" "I", Cond.fieldLink RX0 35 "BranchLengths" "markless" "I", Cond.fieldLink RX0 38 "BranchLengths" "laidOut" "Z", Cond.methodLink RL 12 yX1_init]
def wsL_law_r2 : List Cond := [Cond.instanceMethod yX1_init, Cond.code yX1_init cX1_init 1 none, Cond.methodLink RX1 1 objectInit, Cond.fieldLink RX1 9 "BranchLengthsModel" "kinds" "[I", Cond.fieldLink RX1 13 "BranchLengthsModel" "numbers" "[I", Cond.arrayClass .boolean, Cond.fieldLink RX1 16 "BranchLengthsModel" "longOnes" "[Z", Cond.fieldLink RX1 20 "BranchLengthsModel" "places" "[I", Cond.fieldLink RX1 23 "BranchLengthsModel" "markItems" "[I", Cond.fieldLink RX1 26 "BranchLengthsModel" "reach" "I", Cond.fieldLink RX1 30 "BranchLengthsModel" "least" "I", Cond.methodLink RL 13 yX0_stretch, Cond.instanceMethod yX0_stretch, Cond.selects RX0 yX0_stretch yX0_stretch, Cond.code yX0_stretch cX0_stretch 2 (some .int), Cond.methodLink RX0 42 yX0_append, Cond.instanceMethod yX0_append, Cond.selects RX0 yX0_append yX0_append, Cond.code yX0_append cX0_append 4 (some .int), Cond.methodLink RL 17 yX1_stretch, Cond.instanceMethod yX1_stretch, Cond.selects RX1 yX1_stretch yX1_stretch, Cond.code yX1_stretch cX1_stretch 2 (some .int), Cond.methodLink RX1 40 yX1_item]
def wsL_law_r3 : List Cond := [Cond.instanceMethod yX1_item, Cond.selects RX1 yX1_item yX1_item, Cond.code yX1_item cX1_item 3 (some .int), Cond.fieldLink RX1 33 "BranchLengthsModel" "items" "I", Cond.fieldLink RX1 36 "BranchLengthsModel" "laid" "Z", Cond.methodLink RL 18 yX0_mark, Cond.instanceMethod yX0_mark, Cond.selects RX0 yX0_mark yX0_mark, Cond.code yX0_mark cX0_mark 2 (some .int), Cond.methodLink RL 22 yX1_mark, Cond.instanceMethod yX1_mark, Cond.selects RX1 yX1_mark yX1_mark, Cond.code yX1_mark cX1_mark 2 (some .int), Cond.fieldLink RX1 44 "BranchLengthsModel" "marks" "I", Cond.methodLink RL 23 yX0_branch, Cond.instanceMethod yX0_branch, Cond.selects RX0 yX0_branch yX0_branch, Cond.code yX0_branch cX0_branch 2 (some .int), Cond.methodLink RL 26 yX1_branch, Cond.instanceMethod yX1_branch, Cond.selects RX1 yX1_branch yX1_branch, Cond.code yX1_branch cX1_branch 2 (some .int), Cond.methodLink RL 27 yX0_reach, Cond.instanceMethod yX0_reach]
def wsL_law_r4 : List Cond := [Cond.selects RX0 yX0_reach yX0_reach, Cond.code yX0_reach cX0_reach 2 (some .boolean), Cond.constant RX0 46 (100000), Cond.methodLink RL 31 yX1_reach, Cond.instanceMethod yX1_reach, Cond.selects RX1 yX1_reach yX1_reach, Cond.code yX1_reach cX1_reach 2 (some .boolean), Cond.constant RX1 47 (100000), Cond.methodLink RL 32 yX0_lay, Cond.instanceMethod yX0_lay, Cond.selects RX0 yX0_lay yX0_lay, Cond.code yX0_lay cX0_lay 4 (some .int), Cond.methodLink RX0 47 yX0_firstMarkless, Cond.instanceMethod yX0_firstMarkless, Cond.selects RX0 yX0_firstMarkless yX0_firstMarkless, Cond.code yX0_firstMarkless cX0_firstMarkless 2 (some .int), Cond.methodLink RX0 64 yX0_isBranch, Cond.instanceMethod yX0_isBranch, Cond.selects RX0 yX0_isBranch yX0_isBranch, Cond.code yX0_isBranch cX0_isBranch 2 (some .boolean), Cond.methodLink RX0 70 yX0_isMark, Cond.instanceMethod yX0_isMark, Cond.selects RX0 yX0_isMark yX0_isMark, Cond.code yX0_isMark cX0_isMark 2 (some .boolean)]
def wsL_law_r5 : List Cond := [Cond.methodLink RX0 51 yX0_shortenAll, Cond.instanceMethod yX0_shortenAll, Cond.selects RX0 yX0_shortenAll yX0_shortenAll, Cond.code yX0_shortenAll cX0_shortenAll 2 none, Cond.methodLink RX0 54 yX0_setPlaces, Cond.instanceMethod yX0_setPlaces, Cond.selects RX0 yX0_setPlaces yX0_setPlaces, Cond.code yX0_setPlaces cX0_setPlaces 3 (some .int), Cond.methodLink RX0 57 yX0_lengthenUnreaching, Cond.instanceMethod yX0_lengthenUnreaching, Cond.selects RX0 yX0_lengthenUnreaching yX0_lengthenUnreaching, Cond.code yX0_lengthenUnreaching cX0_lengthenUnreaching 3 (some .int), Cond.methodLink RX0 73 yX0_reachesShort, Cond.instanceMethod yX0_reachesShort, Cond.selects RX0 yX0_reachesShort yX0_reachesShort, Cond.code yX0_reachesShort cX0_reachesShort 4 (some .boolean), Cond.methodLink RX0 67 yX0_isItem, Cond.instanceMethod yX0_isItem, Cond.selects RX0 yX0_isItem yX0_isItem, Cond.code yX0_isItem cX0_isItem 2 (some .boolean), Cond.methodLink RL 35 yX1_lay, Cond.instanceMethod yX1_lay, Cond.selects RX1 yX1_lay yX1_lay, Cond.code yX1_lay cX1_lay 3 (some .int)]
def wsL_law_r6 : List Cond := [Cond.methodLink RX1 48 yX1_addUp, Cond.instanceMethod yX1_addUp, Cond.selects RX1 yX1_addUp yX1_addUp, Cond.code yX1_addUp cX1_addUp 2 none, Cond.methodLink RX1 51 yX1_reaches, Cond.instanceMethod yX1_reaches, Cond.selects RX1 yX1_reaches yX1_reaches, Cond.code yX1_reaches cX1_reaches 3 (some .boolean), Cond.methodLink RL 36 yX0_least, Cond.instanceMethod yX0_least, Cond.selects RX0 yX0_least yX0_least, Cond.code yX0_least cX0_least 1 (some .int), Cond.methodLink RL 39 yX1_least, Cond.instanceMethod yX1_least, Cond.selects RX1 yX1_least yX1_least, Cond.code yX1_least cX1_least 1 (some .int), Cond.methodLink RL 40 yX0_place, Cond.instanceMethod yX0_place, Cond.selects RX0 yX0_place yX0_place, Cond.code yX0_place cX0_place 2 (some .int), Cond.methodLink RX0 60 yX0_isLaid, Cond.instanceMethod yX0_isLaid, Cond.selects RX0 yX0_isLaid yX0_isLaid, Cond.code yX0_isLaid cX0_isLaid 2 (some .boolean)]
def wsL_law_r7 : List Cond := [Cond.methodLink RL 43 yX1_place, Cond.instanceMethod yX1_place, Cond.selects RX1 yX1_place yX1_place, Cond.code yX1_place cX1_place 2 (some .int), Cond.methodLink RL 44 yX0_isLong, Cond.instanceMethod yX0_isLong, Cond.selects RX0 yX0_isLong yX0_isLong, Cond.code yX0_isLong cX0_isLong 2 (some .boolean), Cond.methodLink RL 47 yX1_isLong, Cond.instanceMethod yX1_isLong, Cond.selects RX1 yX1_isLong yX1_isLong, Cond.code yX1_isLong cX1_isLong 2 (some .boolean), Cond.methodLink RL 48 yX0_longs, Cond.instanceMethod yX0_longs, Cond.selects RX0 yX0_longs yX0_longs, Cond.code yX0_longs cX0_longs 1 (some .int), Cond.methodLink RL 51 yX1_longs, Cond.instanceMethod yX1_longs, Cond.selects RX1 yX1_longs yX1_longs, Cond.code yX1_longs cX1_longs 3 (some .int), Cond.methodLink RL 52 yX0_clear, Cond.instanceMethod yX0_clear, Cond.selects RX0 yX0_clear yX0_clear, Cond.code yX0_clear cX0_clear 1 none]
def wsL_law_r8 : List Cond := [Cond.methodLink RL 55 yX1_clear, Cond.instanceMethod yX1_clear, Cond.selects RX1 yX1_clear yX1_clear, Cond.code yX1_clear cX1_clear 1 none, Cond.methodLink RL 56 yX0_items, Cond.instanceMethod yX0_items, Cond.selects RX0 yX0_items yX0_items, Cond.code yX0_items cX0_items 1 (some .int), Cond.methodLink RL 59 yX1_items, Cond.instanceMethod yX1_items, Cond.selects RX1 yX1_items yX1_items, Cond.code yX1_items cX1_items 1 (some .int), Cond.methodLink RL 60 yX0_marks, Cond.instanceMethod yX0_marks, Cond.selects RX0 yX0_marks yX0_marks, Cond.code yX0_marks cX0_marks 1 (some .int), Cond.methodLink RL 63 yX1_marks, Cond.instanceMethod yX1_marks, Cond.selects RX1 yX1_marks yX1_marks, Cond.code yX1_marks cX1_marks 1 (some .int)]
def wsL_law : List Cond := (wsL_law_r1 ++ (wsL_law_r2 ++ (wsL_law_r3 ++ (wsL_law_r4 ++ (wsL_law_r5 ++ (wsL_law_r6 ++ (wsL_law_r7 ++ wsL_law_r8))))))) ++ wsX00 ++ wsX10 ++ ([] : List Cond)
set_option maxRecDepth 20000 in
theorem wsL_law_in : ∀ w ∈ wsL_law, w ∈ lw_tbl := fun w h => (goodIn_p wsL_law [20, 23, 149, 59, 63, 186, 190, 67, 194, 71, 198, 75, 202, 80, 84, 88, 92, 96, 100, 104, 108, 112, 207, 211, 215, 116, 219, 120, 124, 223, 128, 227, 132, 231, 136, 235, 140, 239, 144, 243] (by decide +kernel) (by decide +kernel) w h).1
theorem inlX0 : ∀ w ∈ wsX00, w ∈ wsL_law := fun _ h => List.mem_append_left _ (List.mem_append_left _ (List.mem_append_right _ h))
theorem inX0 : ∀ w ∈ wsX00, w ∈ lw_tbl := fun w h => wsL_law_in w (inlX0 w h)
theorem inlX1 : ∀ w ∈ wsX10, w ∈ wsL_law := fun _ h => List.mem_append_left _ (List.mem_append_right _ h)
theorem inX1 : ∀ w ∈ wsX10, w ∈ lw_tbl := fun w h => wsL_law_in w (inlX1 w h)
theorem dX0_init_0 : decode cX0_init 0 = .ok (.aload_n 0, 1) := by decide +kernel
theorem dX0_init_1 : decode cX0_init 1 = .ok (.invokespecial 1, 3) := by decide +kernel
theorem dX0_init_4 : decode cX0_init 4 = .ok (.aload_n 0, 1) := by decide +kernel
theorem dX0_init_5 : decode cX0_init 5 = .ok (.sipush 2000, 3) := by decide +kernel
theorem dX0_init_8 : decode cX0_init 8 = .ok (.newarray .int, 2) := by decide +kernel
theorem dX0_init_10 : decode cX0_init 10 = .ok (.putfield 9, 3) := by decide +kernel
theorem dX0_init_13 : decode cX0_init 13 = .ok (.aload_n 0, 1) := by decide +kernel
theorem dX0_init_14 : decode cX0_init 14 = .ok (.sipush 2000, 3) := by decide +kernel
theorem dX0_init_17 : decode cX0_init 17 = .ok (.newarray .int, 2) := by decide +kernel
theorem dX0_init_19 : decode cX0_init 19 = .ok (.putfield 13, 3) := by decide +kernel
theorem dX0_init_22 : decode cX0_init 22 = .ok (.aload_n 0, 1) := by decide +kernel
theorem dX0_init_23 : decode cX0_init 23 = .ok (.sipush 2000, 3) := by decide +kernel
theorem dX0_init_26 : decode cX0_init 26 = .ok (.newarray .int, 2) := by decide +kernel
theorem dX0_init_28 : decode cX0_init 28 = .ok (.putfield 16, 3) := by decide +kernel
theorem dX0_init_31 : decode cX0_init 31 = .ok (.aload_n 0, 1) := by decide +kernel
theorem dX0_init_32 : decode cX0_init 32 = .ok (.sipush 2000, 3) := by decide +kernel
theorem dX0_init_35 : decode cX0_init 35 = .ok (.newarray .int, 2) := by decide +kernel
theorem dX0_init_37 : decode cX0_init 37 = .ok (.putfield 19, 3) := by decide +kernel
theorem dX0_init_40 : decode cX0_init 40 = .ok (.aload_n 0, 1) := by decide +kernel
theorem dX0_init_41 : decode cX0_init 41 = .ok (.iconst 0, 1) := by decide +kernel
theorem dX0_init_42 : decode cX0_init 42 = .ok (.putfield 22, 3) := by decide +kernel
theorem dX0_init_45 : decode cX0_init 45 = .ok (.aload_n 0, 1) := by decide +kernel
theorem dX0_init_46 : decode cX0_init 46 = .ok (.iconst 0, 1) := by decide +kernel
theorem dX0_init_47 : decode cX0_init 47 = .ok (.putfield 26, 3) := by decide +kernel
theorem dX0_init_50 : decode cX0_init 50 = .ok (.aload_n 0, 1) := by decide +kernel
theorem dX0_init_51 : decode cX0_init 51 = .ok (.iconst 0, 1) := by decide +kernel
theorem dX0_init_52 : decode cX0_init 52 = .ok (.putfield 29, 3) := by decide +kernel
theorem dX0_init_55 : decode cX0_init 55 = .ok (.aload_n 0, 1) := by decide +kernel
theorem dX0_init_56 : decode cX0_init 56 = .ok (.sipush 1000, 3) := by decide +kernel
theorem dX0_init_59 : decode cX0_init 59 = .ok (.putfield 32, 3) := by decide +kernel
theorem dX0_init_62 : decode cX0_init 62 = .ok (.aload_n 0, 1) := by decide +kernel
theorem dX0_init_63 : decode cX0_init 63 = .ok (.iconst (-1), 1) := by decide +kernel
theorem dX0_init_64 : decode cX0_init 64 = .ok (.putfield 35, 3) := by decide +kernel
theorem dX0_init_67 : decode cX0_init 67 = .ok (.aload_n 0, 1) := by decide +kernel
theorem dX0_init_68 : decode cX0_init 68 = .ok (.iconst 0, 1) := by decide +kernel
theorem dX0_init_69 : decode cX0_init 69 = .ok (.putfield 38, 3) := by decide +kernel
theorem dX0_init_72 : decode cX0_init 72 = .ok (.return_, 1) := by decide +kernel
set_option maxRecDepth 20000 in
theorem ggX0_stretch_X0_append : GoodIn wsX0_stretch wsX0_append := goodIn_r _ [5, 6, 7, 8, 9, 10, 11, 12, 13, 14, 15, 16, 17, 18, 19] (by decide +kernel) (by decide +kernel)
set_option maxRecDepth 20000 in
theorem gX0_stretch_X0_append : GoodIn wsX0_stretch (wsV RX0 42 RX0 yX0_append wsX0_append) := goodIn_app (goodIn_of _ (by decide +kernel)) ggX0_stretch_X0_append
theorem dX0_stretch_0 : decode cX0_stretch 0 = .ok (.iload_n 1, 1) := by decide +kernel
theorem dX0_stretch_1 : decode cX0_stretch 1 = .ok (.ifCond .lt 10, 3) := by decide +kernel
theorem dX0_stretch_4 : decode cX0_stretch 4 = .ok (.iload_n 1, 1) := by decide +kernel
theorem dX0_stretch_5 : decode cX0_stretch 5 = .ok (.sipush 4000, 3) := by decide +kernel
theorem dX0_stretch_8 : decode cX0_stretch 8 = .ok (.if_icmp .le 5, 3) := by decide +kernel
theorem dX0_stretch_11 : decode cX0_stretch 11 = .ok (.iconst (-1), 1) := by decide +kernel
theorem dX0_stretch_12 : decode cX0_stretch 12 = .ok (.ireturn, 1) := by decide +kernel
theorem dX0_stretch_13 : decode cX0_stretch 13 = .ok (.aload_n 0, 1) := by decide +kernel
theorem dX0_stretch_14 : decode cX0_stretch 14 = .ok (.iload_n 1, 1) := by decide +kernel
theorem dX0_stretch_15 : decode cX0_stretch 15 = .ok (.iconst (-1), 1) := by decide +kernel
theorem dX0_stretch_16 : decode cX0_stretch 16 = .ok (.invokevirtual 42, 3) := by decide +kernel
theorem dX0_stretch_19 : decode cX0_stretch 19 = .ok (.ireturn, 1) := by decide +kernel
set_option maxRecDepth 20000 in
theorem ggX0_mark_X0_append : GoodIn wsX0_mark wsX0_append := goodIn_r _ [7, 8, 9, 10, 11, 12, 13, 14, 15, 16, 17, 18, 19, 20, 21] (by decide +kernel) (by decide +kernel)
set_option maxRecDepth 20000 in
theorem gX0_mark_X0_append : GoodIn wsX0_mark (wsV RX0 42 RX0 yX0_append wsX0_append) := goodIn_app (goodIn_of _ (by decide +kernel)) ggX0_mark_X0_append
theorem dX0_mark_0 : decode cX0_mark 0 = .ok (.aload_n 0, 1) := by decide +kernel
theorem dX0_mark_1 : decode cX0_mark 1 = .ok (.getfield 26, 3) := by decide +kernel
theorem dX0_mark_4 : decode cX0_mark 4 = .ok (.sipush 2000, 3) := by decide +kernel
theorem dX0_mark_7 : decode cX0_mark 7 = .ok (.if_icmp .lt 5, 3) := by decide +kernel
theorem dX0_mark_10 : decode cX0_mark 10 = .ok (.iconst (-1), 1) := by decide +kernel
theorem dX0_mark_11 : decode cX0_mark 11 = .ok (.ireturn, 1) := by decide +kernel
theorem dX0_mark_12 : decode cX0_mark 12 = .ok (.aload_n 0, 1) := by decide +kernel
theorem dX0_mark_13 : decode cX0_mark 13 = .ok (.iconst 0, 1) := by decide +kernel
theorem dX0_mark_14 : decode cX0_mark 14 = .ok (.iconst (-1), 1) := by decide +kernel
theorem dX0_mark_15 : decode cX0_mark 15 = .ok (.invokevirtual 42, 3) := by decide +kernel
theorem dX0_mark_18 : decode cX0_mark 18 = .ok (.istore_n 1, 1) := by decide +kernel
theorem dX0_mark_19 : decode cX0_mark 19 = .ok (.iload_n 1, 1) := by decide +kernel
theorem dX0_mark_20 : decode cX0_mark 20 = .ok (.iconst (-1), 1) := by decide +kernel
theorem dX0_mark_21 : decode cX0_mark 21 = .ok (.if_icmp .eq 23, 3) := by decide +kernel
theorem dX0_mark_24 : decode cX0_mark 24 = .ok (.aload_n 0, 1) := by decide +kernel
theorem dX0_mark_25 : decode cX0_mark 25 = .ok (.getfield 19, 3) := by decide +kernel
theorem dX0_mark_28 : decode cX0_mark 28 = .ok (.aload_n 0, 1) := by decide +kernel
theorem dX0_mark_29 : decode cX0_mark 29 = .ok (.getfield 26, 3) := by decide +kernel
theorem dX0_mark_32 : decode cX0_mark 32 = .ok (.iload_n 1, 1) := by decide +kernel
theorem dX0_mark_33 : decode cX0_mark 33 = .ok (.iastore, 1) := by decide +kernel
theorem dX0_mark_34 : decode cX0_mark 34 = .ok (.aload_n 0, 1) := by decide +kernel
theorem dX0_mark_35 : decode cX0_mark 35 = .ok (.dup, 1) := by decide +kernel
theorem dX0_mark_36 : decode cX0_mark 36 = .ok (.getfield 26, 3) := by decide +kernel
theorem dX0_mark_39 : decode cX0_mark 39 = .ok (.iconst 1, 1) := by decide +kernel
theorem dX0_mark_40 : decode cX0_mark 40 = .ok (.iadd, 1) := by decide +kernel
theorem dX0_mark_41 : decode cX0_mark 41 = .ok (.putfield 26, 3) := by decide +kernel
theorem dX0_mark_44 : decode cX0_mark 44 = .ok (.iload_n 1, 1) := by decide +kernel
theorem dX0_mark_45 : decode cX0_mark 45 = .ok (.ireturn, 1) := by decide +kernel
set_option maxRecDepth 20000 in
theorem ggX0_branch_X0_append : GoodIn wsX0_branch wsX0_append := goodIn_r _ [5, 6, 7, 8, 9, 10, 11, 12, 13, 14, 15, 16, 17, 18, 19] (by decide +kernel) (by decide +kernel)
set_option maxRecDepth 20000 in
theorem gX0_branch_X0_append : GoodIn wsX0_branch (wsV RX0 42 RX0 yX0_append wsX0_append) := goodIn_app (goodIn_of _ (by decide +kernel)) ggX0_branch_X0_append
theorem dX0_branch_0 : decode cX0_branch 0 = .ok (.iload_n 1, 1) := by decide +kernel
theorem dX0_branch_1 : decode cX0_branch 1 = .ok (.ifCond .ge 5, 3) := by decide +kernel
theorem dX0_branch_4 : decode cX0_branch 4 = .ok (.iconst (-1), 1) := by decide +kernel
theorem dX0_branch_5 : decode cX0_branch 5 = .ok (.ireturn, 1) := by decide +kernel
theorem dX0_branch_6 : decode cX0_branch 6 = .ok (.aload_n 0, 1) := by decide +kernel
theorem dX0_branch_7 : decode cX0_branch 7 = .ok (.iconst 1, 1) := by decide +kernel
theorem dX0_branch_8 : decode cX0_branch 8 = .ok (.iload_n 1, 1) := by decide +kernel
theorem dX0_branch_9 : decode cX0_branch 9 = .ok (.invokevirtual 42, 3) := by decide +kernel
theorem dX0_branch_12 : decode cX0_branch 12 = .ok (.ireturn, 1) := by decide +kernel
theorem dX0_reach_0 : decode cX0_reach 0 = .ok (.iload_n 1, 1) := by decide +kernel
theorem dX0_reach_1 : decode cX0_reach 1 = .ok (.iconst 1, 1) := by decide +kernel
theorem dX0_reach_2 : decode cX0_reach 2 = .ok (.if_icmp .lt 9, 3) := by decide +kernel
theorem dX0_reach_5 : decode cX0_reach 5 = .ok (.iload_n 1, 1) := by decide +kernel
theorem dX0_reach_6 : decode cX0_reach 6 = .ok (.ldc 46, 2) := by decide +kernel
theorem dX0_reach_8 : decode cX0_reach 8 = .ok (.if_icmp .le 5, 3) := by decide +kernel
theorem dX0_reach_11 : decode cX0_reach 11 = .ok (.iconst 0, 1) := by decide +kernel
theorem dX0_reach_12 : decode cX0_reach 12 = .ok (.ireturn, 1) := by decide +kernel
theorem dX0_reach_13 : decode cX0_reach 13 = .ok (.aload_n 0, 1) := by decide +kernel
theorem dX0_reach_14 : decode cX0_reach 14 = .ok (.iload_n 1, 1) := by decide +kernel
theorem dX0_reach_15 : decode cX0_reach 15 = .ok (.putfield 32, 3) := by decide +kernel
theorem dX0_reach_18 : decode cX0_reach 18 = .ok (.aload_n 0, 1) := by decide +kernel
theorem dX0_reach_19 : decode cX0_reach 19 = .ok (.iconst 0, 1) := by decide +kernel
theorem dX0_reach_20 : decode cX0_reach 20 = .ok (.putfield 38, 3) := by decide +kernel
theorem dX0_reach_23 : decode cX0_reach 23 = .ok (.iconst 1, 1) := by decide +kernel
theorem dX0_reach_24 : decode cX0_reach 24 = .ok (.ireturn, 1) := by decide +kernel
set_option maxRecDepth 20000 in
theorem ggX0_lay_X0_firstMarkless : GoodIn wsX0_lay wsX0_firstMarkless := goodIn_r _ [9, 3, 10, 11, 12, 13, 8, 14, 15, 16, 17, 18, 19, 44, 45, 46, 47, 48, 49, 50, 51, 52, 53] (by decide +kernel) (by decide +kernel)
set_option maxRecDepth 20000 in
theorem gX0_lay_X0_firstMarkless : GoodIn wsX0_lay (wsV RX0 47 RX0 yX0_firstMarkless wsX0_firstMarkless) := goodIn_app (goodIn_of _ (by decide +kernel)) ggX0_lay_X0_firstMarkless
set_option maxRecDepth 20000 in
theorem ggX0_lay_X0_shortenAll : GoodIn wsX0_lay wsX0_shortenAll := goodIn_r _ [23, 3, 24, 4, 11, 12, 13, 8, 14, 10, 44, 45, 46, 47, 48, 49, 50, 51, 52, 53] (by decide +kernel) (by decide +kernel)
set_option maxRecDepth 20000 in
theorem gX0_lay_X0_shortenAll : GoodIn wsX0_lay (wsV RX0 51 RX0 yX0_shortenAll wsX0_shortenAll) := goodIn_app (goodIn_of _ (by decide +kernel)) ggX0_lay_X0_shortenAll
set_option maxRecDepth 20000 in
theorem ggX0_lay_X0_setPlaces : GoodIn wsX0_lay wsX0_setPlaces := goodIn_r _ [28, 3, 29, 24, 44, 45, 46, 47, 48, 49, 50, 51, 52, 53] (by decide +kernel) (by decide +kernel)
set_option maxRecDepth 20000 in
theorem gX0_lay_X0_setPlaces : GoodIn wsX0_lay (wsV RX0 54 RX0 yX0_setPlaces wsX0_setPlaces) := goodIn_app (goodIn_of _ (by decide +kernel)) ggX0_lay_X0_setPlaces
set_option maxRecDepth 20000 in
theorem ggX0_lay_X0_lengthenUnreaching : GoodIn wsX0_lay wsX0_lengthenUnreaching := goodIn_r _ [33, 3, 24, 11, 12, 13, 8, 14, 10, 34, 35, 36, 37, 38, 29, 39, 15, 16, 17, 18, 19, 40, 41, 42, 43, 44, 45, 46, 47, 48, 49, 50, 51, 52, 53] (by decide +kernel) (by decide +kernel)
set_option maxRecDepth 20000 in
theorem gX0_lay_X0_lengthenUnreaching : GoodIn wsX0_lay (wsV RX0 57 RX0 yX0_lengthenUnreaching wsX0_lengthenUnreaching) := goodIn_app (goodIn_of _ (by decide +kernel)) ggX0_lay_X0_lengthenUnreaching
theorem dX0_lay_0 : decode cX0_lay 0 = .ok (.aload_n 0, 1) := by decide +kernel
theorem dX0_lay_1 : decode cX0_lay 1 = .ok (.aload_n 0, 1) := by decide +kernel
theorem dX0_lay_2 : decode cX0_lay 2 = .ok (.invokevirtual 47, 3) := by decide +kernel
theorem dX0_lay_5 : decode cX0_lay 5 = .ok (.putfield 35, 3) := by decide +kernel
theorem dX0_lay_8 : decode cX0_lay 8 = .ok (.aload_n 0, 1) := by decide +kernel
theorem dX0_lay_9 : decode cX0_lay 9 = .ok (.aload_n 0, 1) := by decide +kernel
theorem dX0_lay_10 : decode cX0_lay 10 = .ok (.getfield 35, 3) := by decide +kernel
theorem dX0_lay_13 : decode cX0_lay 13 = .ok (.iconst (-1), 1) := by decide +kernel
theorem dX0_lay_14 : decode cX0_lay 14 = .ok (.if_icmp .ne 7, 3) := by decide +kernel
theorem dX0_lay_17 : decode cX0_lay 17 = .ok (.iconst 1, 1) := by decide +kernel
theorem dX0_lay_18 : decode cX0_lay 18 = .ok (.goto 4, 3) := by decide +kernel
theorem dX0_lay_21 : decode cX0_lay 21 = .ok (.iconst 0, 1) := by decide +kernel
theorem dX0_lay_22 : decode cX0_lay 22 = .ok (.putfield 38, 3) := by decide +kernel
theorem dX0_lay_25 : decode cX0_lay 25 = .ok (.aload_n 0, 1) := by decide +kernel
theorem dX0_lay_26 : decode cX0_lay 26 = .ok (.getfield 38, 3) := by decide +kernel
theorem dX0_lay_29 : decode cX0_lay 29 = .ok (.ifCond .ne 5, 3) := by decide +kernel
theorem dX0_lay_32 : decode cX0_lay 32 = .ok (.iconst (-1), 1) := by decide +kernel
theorem dX0_lay_33 : decode cX0_lay 33 = .ok (.ireturn, 1) := by decide +kernel
theorem dX0_lay_34 : decode cX0_lay 34 = .ok (.aload_n 0, 1) := by decide +kernel
theorem dX0_lay_35 : decode cX0_lay 35 = .ok (.invokevirtual 51, 3) := by decide +kernel
theorem dX0_lay_38 : decode cX0_lay 38 = .ok (.aload_n 0, 1) := by decide +kernel
theorem dX0_lay_39 : decode cX0_lay 39 = .ok (.invokevirtual 54, 3) := by decide +kernel
theorem dX0_lay_42 : decode cX0_lay 42 = .ok (.istore_n 1, 1) := by decide +kernel
theorem dX0_lay_43 : decode cX0_lay 43 = .ok (.iconst 0, 1) := by decide +kernel
theorem dX0_lay_44 : decode cX0_lay 44 = .ok (.istore_n 2, 1) := by decide +kernel
theorem dX0_lay_45 : decode cX0_lay 45 = .ok (.iload_n 2, 1) := by decide +kernel
theorem dX0_lay_46 : decode cX0_lay 46 = .ok (.aload_n 0, 1) := by decide +kernel
theorem dX0_lay_47 : decode cX0_lay 47 = .ok (.getfield 22, 3) := by decide +kernel
theorem dX0_lay_50 : decode cX0_lay 50 = .ok (.if_icmp .ge 36, 3) := by decide +kernel
theorem dX0_lay_53 : decode cX0_lay 53 = .ok (.aload_n 0, 1) := by decide +kernel
theorem dX0_lay_54 : decode cX0_lay 54 = .ok (.invokevirtual 57, 3) := by decide +kernel
theorem dX0_lay_57 : decode cX0_lay 57 = .ok (.istore_n 3, 1) := by decide +kernel
theorem dX0_lay_58 : decode cX0_lay 58 = .ok (.iload_n 3, 1) := by decide +kernel
theorem dX0_lay_59 : decode cX0_lay 59 = .ok (.ifCond .ne 6, 3) := by decide +kernel
theorem dX0_lay_62 : decode cX0_lay 62 = .ok (.goto 24, 3) := by decide +kernel
theorem dX0_lay_65 : decode cX0_lay 65 = .ok (.aload_n 0, 1) := by decide +kernel
theorem dX0_lay_66 : decode cX0_lay 66 = .ok (.dup, 1) := by decide +kernel
theorem dX0_lay_67 : decode cX0_lay 67 = .ok (.getfield 29, 3) := by decide +kernel
theorem dX0_lay_70 : decode cX0_lay 70 = .ok (.iload_n 3, 1) := by decide +kernel
theorem dX0_lay_71 : decode cX0_lay 71 = .ok (.iadd, 1) := by decide +kernel
theorem dX0_lay_72 : decode cX0_lay 72 = .ok (.putfield 29, 3) := by decide +kernel
theorem dX0_lay_75 : decode cX0_lay 75 = .ok (.aload_n 0, 1) := by decide +kernel
theorem dX0_lay_76 : decode cX0_lay 76 = .ok (.invokevirtual 54, 3) := by decide +kernel
theorem dX0_lay_79 : decode cX0_lay 79 = .ok (.istore_n 1, 1) := by decide +kernel
theorem dX0_lay_80 : decode cX0_lay 80 = .ok (.iinc 2 1, 3) := by decide +kernel
theorem dX0_lay_83 : decode cX0_lay 83 = .ok (.goto (-38), 3) := by decide +kernel
theorem dX0_lay_86 : decode cX0_lay 86 = .ok (.iload_n 1, 1) := by decide +kernel
theorem dX0_lay_87 : decode cX0_lay 87 = .ok (.ireturn, 1) := by decide +kernel
theorem dX0_least_0 : decode cX0_least 0 = .ok (.aload_n 0, 1) := by decide +kernel
theorem dX0_least_1 : decode cX0_least 1 = .ok (.getfield 35, 3) := by decide +kernel
theorem dX0_least_4 : decode cX0_least 4 = .ok (.ireturn, 1) := by decide +kernel
set_option maxRecDepth 20000 in
theorem ggX0_place_X0_isLaid : GoodIn wsX0_place wsX0_isLaid := goodIn_r _ [6, 7, 8, 9, 10, 5, 11, 12, 13, 14, 15, 16, 17, 18, 19, 20, 21, 22] (by decide +kernel) (by decide +kernel)
set_option maxRecDepth 20000 in
theorem gX0_place_X0_isLaid : GoodIn wsX0_place (wsV RX0 60 RX0 yX0_isLaid wsX0_isLaid) := goodIn_app (goodIn_of _ (by decide +kernel)) ggX0_place_X0_isLaid
theorem dX0_place_0 : decode cX0_place 0 = .ok (.aload_n 0, 1) := by decide +kernel
theorem dX0_place_1 : decode cX0_place 1 = .ok (.iload_n 1, 1) := by decide +kernel
theorem dX0_place_2 : decode cX0_place 2 = .ok (.invokevirtual 60, 3) := by decide +kernel
theorem dX0_place_5 : decode cX0_place 5 = .ok (.ifCond .eq 12, 3) := by decide +kernel
theorem dX0_place_8 : decode cX0_place 8 = .ok (.aload_n 0, 1) := by decide +kernel
theorem dX0_place_9 : decode cX0_place 9 = .ok (.getfield 16, 3) := by decide +kernel
theorem dX0_place_12 : decode cX0_place 12 = .ok (.iload_n 1, 1) := by decide +kernel
theorem dX0_place_13 : decode cX0_place 13 = .ok (.iaload, 1) := by decide +kernel
theorem dX0_place_14 : decode cX0_place 14 = .ok (.goto 4, 3) := by decide +kernel
theorem dX0_place_17 : decode cX0_place 17 = .ok (.iconst (-1), 1) := by decide +kernel
theorem dX0_place_18 : decode cX0_place 18 = .ok (.ireturn, 1) := by decide +kernel
set_option maxRecDepth 20000 in
theorem ggX0_isLong_X0_isLaid : GoodIn wsX0_isLong wsX0_isLaid := goodIn_r _ [6, 7, 8, 9, 10, 5, 11, 12, 18, 19, 20, 21, 22, 23, 24, 25, 26, 27] (by decide +kernel) (by decide +kernel)
set_option maxRecDepth 20000 in
theorem gX0_isLong_X0_isLaid : GoodIn wsX0_isLong (wsV RX0 60 RX0 yX0_isLaid wsX0_isLaid) := goodIn_app (goodIn_of _ (by decide +kernel)) ggX0_isLong_X0_isLaid
set_option maxRecDepth 20000 in
theorem ggX0_isLong_X0_isBranch : GoodIn wsX0_isLong wsX0_isBranch := goodIn_r _ [16, 17, 18, 19, 20, 21, 22, 23, 24, 25, 26, 27] (by decide +kernel) (by decide +kernel)
set_option maxRecDepth 20000 in
theorem gX0_isLong_X0_isBranch : GoodIn wsX0_isLong (wsV RX0 64 RX0 yX0_isBranch wsX0_isBranch) := goodIn_app (goodIn_of _ (by decide +kernel)) ggX0_isLong_X0_isBranch
theorem dX0_isLong_0 : decode cX0_isLong 0 = .ok (.aload_n 0, 1) := by decide +kernel
theorem dX0_isLong_1 : decode cX0_isLong 1 = .ok (.iload_n 1, 1) := by decide +kernel
theorem dX0_isLong_2 : decode cX0_isLong 2 = .ok (.invokevirtual 60, 3) := by decide +kernel
theorem dX0_isLong_5 : decode cX0_isLong 5 = .ok (.ifCond .eq 25, 3) := by decide +kernel
theorem dX0_isLong_8 : decode cX0_isLong 8 = .ok (.aload_n 0, 1) := by decide +kernel
theorem dX0_isLong_9 : decode cX0_isLong 9 = .ok (.iload_n 1, 1) := by decide +kernel
theorem dX0_isLong_10 : decode cX0_isLong 10 = .ok (.invokevirtual 64, 3) := by decide +kernel
theorem dX0_isLong_13 : decode cX0_isLong 13 = .ok (.ifCond .eq 17, 3) := by decide +kernel
theorem dX0_isLong_16 : decode cX0_isLong 16 = .ok (.aload_n 0, 1) := by decide +kernel
theorem dX0_isLong_17 : decode cX0_isLong 17 = .ok (.getfield 9, 3) := by decide +kernel
theorem dX0_isLong_20 : decode cX0_isLong 20 = .ok (.iload_n 1, 1) := by decide +kernel
theorem dX0_isLong_21 : decode cX0_isLong 21 = .ok (.iaload, 1) := by decide +kernel
theorem dX0_isLong_22 : decode cX0_isLong 22 = .ok (.iconst 2, 1) := by decide +kernel
theorem dX0_isLong_23 : decode cX0_isLong 23 = .ok (.if_icmp .ne 7, 3) := by decide +kernel
theorem dX0_isLong_26 : decode cX0_isLong 26 = .ok (.iconst 1, 1) := by decide +kernel
theorem dX0_isLong_27 : decode cX0_isLong 27 = .ok (.goto 4, 3) := by decide +kernel
theorem dX0_isLong_30 : decode cX0_isLong 30 = .ok (.iconst 0, 1) := by decide +kernel
theorem dX0_isLong_31 : decode cX0_isLong 31 = .ok (.ireturn, 1) := by decide +kernel
theorem dX0_longs_0 : decode cX0_longs 0 = .ok (.aload_n 0, 1) := by decide +kernel
theorem dX0_longs_1 : decode cX0_longs 1 = .ok (.getfield 38, 3) := by decide +kernel
theorem dX0_longs_4 : decode cX0_longs 4 = .ok (.ifCond .eq 10, 3) := by decide +kernel
theorem dX0_longs_7 : decode cX0_longs 7 = .ok (.aload_n 0, 1) := by decide +kernel
theorem dX0_longs_8 : decode cX0_longs 8 = .ok (.getfield 29, 3) := by decide +kernel
theorem dX0_longs_11 : decode cX0_longs 11 = .ok (.goto 4, 3) := by decide +kernel
theorem dX0_longs_14 : decode cX0_longs 14 = .ok (.iconst (-1), 1) := by decide +kernel
theorem dX0_longs_15 : decode cX0_longs 15 = .ok (.ireturn, 1) := by decide +kernel
theorem dX0_clear_0 : decode cX0_clear 0 = .ok (.aload_n 0, 1) := by decide +kernel
theorem dX0_clear_1 : decode cX0_clear 1 = .ok (.iconst 0, 1) := by decide +kernel
theorem dX0_clear_2 : decode cX0_clear 2 = .ok (.putfield 22, 3) := by decide +kernel
theorem dX0_clear_5 : decode cX0_clear 5 = .ok (.aload_n 0, 1) := by decide +kernel
theorem dX0_clear_6 : decode cX0_clear 6 = .ok (.iconst 0, 1) := by decide +kernel
theorem dX0_clear_7 : decode cX0_clear 7 = .ok (.putfield 26, 3) := by decide +kernel
theorem dX0_clear_10 : decode cX0_clear 10 = .ok (.aload_n 0, 1) := by decide +kernel
theorem dX0_clear_11 : decode cX0_clear 11 = .ok (.iconst 0, 1) := by decide +kernel
theorem dX0_clear_12 : decode cX0_clear 12 = .ok (.putfield 38, 3) := by decide +kernel
theorem dX0_clear_15 : decode cX0_clear 15 = .ok (.return_, 1) := by decide +kernel
theorem dX0_items_0 : decode cX0_items 0 = .ok (.aload_n 0, 1) := by decide +kernel
theorem dX0_items_1 : decode cX0_items 1 = .ok (.getfield 22, 3) := by decide +kernel
theorem dX0_items_4 : decode cX0_items 4 = .ok (.ireturn, 1) := by decide +kernel
theorem dX0_marks_0 : decode cX0_marks 0 = .ok (.aload_n 0, 1) := by decide +kernel
theorem dX0_marks_1 : decode cX0_marks 1 = .ok (.getfield 26, 3) := by decide +kernel
theorem dX0_marks_4 : decode cX0_marks 4 = .ok (.ireturn, 1) := by decide +kernel
theorem dX0_append_0 : decode cX0_append 0 = .ok (.aload_n 0, 1) := by decide +kernel
theorem dX0_append_1 : decode cX0_append 1 = .ok (.getfield 22, 3) := by decide +kernel
theorem dX0_append_4 : decode cX0_append 4 = .ok (.sipush 2000, 3) := by decide +kernel
theorem dX0_append_7 : decode cX0_append 7 = .ok (.if_icmp .lt 5, 3) := by decide +kernel
theorem dX0_append_10 : decode cX0_append 10 = .ok (.iconst (-1), 1) := by decide +kernel
theorem dX0_append_11 : decode cX0_append 11 = .ok (.ireturn, 1) := by decide +kernel
theorem dX0_append_12 : decode cX0_append 12 = .ok (.aload_n 0, 1) := by decide +kernel
theorem dX0_append_13 : decode cX0_append 13 = .ok (.getfield 22, 3) := by decide +kernel
theorem dX0_append_16 : decode cX0_append 16 = .ok (.istore_n 3, 1) := by decide +kernel
theorem dX0_append_17 : decode cX0_append 17 = .ok (.aload_n 0, 1) := by decide +kernel
theorem dX0_append_18 : decode cX0_append 18 = .ok (.getfield 9, 3) := by decide +kernel
theorem dX0_append_21 : decode cX0_append 21 = .ok (.iload_n 3, 1) := by decide +kernel
theorem dX0_append_22 : decode cX0_append 22 = .ok (.iload_n 1, 1) := by decide +kernel
theorem dX0_append_23 : decode cX0_append 23 = .ok (.iastore, 1) := by decide +kernel
theorem dX0_append_24 : decode cX0_append 24 = .ok (.aload_n 0, 1) := by decide +kernel
theorem dX0_append_25 : decode cX0_append 25 = .ok (.getfield 13, 3) := by decide +kernel
theorem dX0_append_28 : decode cX0_append 28 = .ok (.iload_n 3, 1) := by decide +kernel
theorem dX0_append_29 : decode cX0_append 29 = .ok (.iload_n 2, 1) := by decide +kernel
theorem dX0_append_30 : decode cX0_append 30 = .ok (.iastore, 1) := by decide +kernel
theorem dX0_append_31 : decode cX0_append 31 = .ok (.aload_n 0, 1) := by decide +kernel
theorem dX0_append_32 : decode cX0_append 32 = .ok (.dup, 1) := by decide +kernel
theorem dX0_append_33 : decode cX0_append 33 = .ok (.getfield 22, 3) := by decide +kernel
theorem dX0_append_36 : decode cX0_append 36 = .ok (.iconst 1, 1) := by decide +kernel
theorem dX0_append_37 : decode cX0_append 37 = .ok (.iadd, 1) := by decide +kernel
theorem dX0_append_38 : decode cX0_append 38 = .ok (.putfield 22, 3) := by decide +kernel
theorem dX0_append_41 : decode cX0_append 41 = .ok (.aload_n 0, 1) := by decide +kernel
theorem dX0_append_42 : decode cX0_append 42 = .ok (.iconst 0, 1) := by decide +kernel
theorem dX0_append_43 : decode cX0_append 43 = .ok (.putfield 38, 3) := by decide +kernel
theorem dX0_append_46 : decode cX0_append 46 = .ok (.iload_n 3, 1) := by decide +kernel
theorem dX0_append_47 : decode cX0_append 47 = .ok (.ireturn, 1) := by decide +kernel
set_option maxRecDepth 20000 in
theorem ggX0_isLaid_X0_isItem : GoodIn wsX0_isLaid wsX0_isItem := goodIn_r _ [6, 7, 8, 9, 10, 11, 12, 13, 14, 15, 16, 17] (by decide +kernel) (by decide +kernel)
set_option maxRecDepth 20000 in
theorem gX0_isLaid_X0_isItem : GoodIn wsX0_isLaid (wsV RX0 67 RX0 yX0_isItem wsX0_isItem) := goodIn_app (goodIn_of _ (by decide +kernel)) ggX0_isLaid_X0_isItem
theorem dX0_isLaid_0 : decode cX0_isLaid 0 = .ok (.aload_n 0, 1) := by decide +kernel
theorem dX0_isLaid_1 : decode cX0_isLaid 1 = .ok (.getfield 38, 3) := by decide +kernel
theorem dX0_isLaid_4 : decode cX0_isLaid 4 = .ok (.ifCond .eq 15, 3) := by decide +kernel
theorem dX0_isLaid_7 : decode cX0_isLaid 7 = .ok (.aload_n 0, 1) := by decide +kernel
theorem dX0_isLaid_8 : decode cX0_isLaid 8 = .ok (.iload_n 1, 1) := by decide +kernel
theorem dX0_isLaid_9 : decode cX0_isLaid 9 = .ok (.invokevirtual 67, 3) := by decide +kernel
theorem dX0_isLaid_12 : decode cX0_isLaid 12 = .ok (.ifCond .eq 7, 3) := by decide +kernel
theorem dX0_isLaid_15 : decode cX0_isLaid 15 = .ok (.iconst 1, 1) := by decide +kernel
theorem dX0_isLaid_16 : decode cX0_isLaid 16 = .ok (.goto 4, 3) := by decide +kernel
theorem dX0_isLaid_19 : decode cX0_isLaid 19 = .ok (.iconst 0, 1) := by decide +kernel
theorem dX0_isLaid_20 : decode cX0_isLaid 20 = .ok (.ireturn, 1) := by decide +kernel
theorem dX0_isItem_0 : decode cX0_isItem 0 = .ok (.iload_n 1, 1) := by decide +kernel
theorem dX0_isItem_1 : decode cX0_isItem 1 = .ok (.ifCond .lt 15, 3) := by decide +kernel
theorem dX0_isItem_4 : decode cX0_isItem 4 = .ok (.iload_n 1, 1) := by decide +kernel
theorem dX0_isItem_5 : decode cX0_isItem 5 = .ok (.aload_n 0, 1) := by decide +kernel
theorem dX0_isItem_6 : decode cX0_isItem 6 = .ok (.getfield 22, 3) := by decide +kernel
theorem dX0_isItem_9 : decode cX0_isItem 9 = .ok (.if_icmp .ge 7, 3) := by decide +kernel
theorem dX0_isItem_12 : decode cX0_isItem 12 = .ok (.iconst 1, 1) := by decide +kernel
theorem dX0_isItem_13 : decode cX0_isItem 13 = .ok (.goto 4, 3) := by decide +kernel
theorem dX0_isItem_16 : decode cX0_isItem 16 = .ok (.iconst 0, 1) := by decide +kernel
theorem dX0_isItem_17 : decode cX0_isItem 17 = .ok (.ireturn, 1) := by decide +kernel
theorem dX0_isMark_0 : decode cX0_isMark 0 = .ok (.iload_n 1, 1) := by decide +kernel
theorem dX0_isMark_1 : decode cX0_isMark 1 = .ok (.ifCond .lt 15, 3) := by decide +kernel
theorem dX0_isMark_4 : decode cX0_isMark 4 = .ok (.iload_n 1, 1) := by decide +kernel
theorem dX0_isMark_5 : decode cX0_isMark 5 = .ok (.aload_n 0, 1) := by decide +kernel
theorem dX0_isMark_6 : decode cX0_isMark 6 = .ok (.getfield 26, 3) := by decide +kernel
theorem dX0_isMark_9 : decode cX0_isMark 9 = .ok (.if_icmp .ge 7, 3) := by decide +kernel
theorem dX0_isMark_12 : decode cX0_isMark 12 = .ok (.iconst 1, 1) := by decide +kernel
theorem dX0_isMark_13 : decode cX0_isMark 13 = .ok (.goto 4, 3) := by decide +kernel
theorem dX0_isMark_16 : decode cX0_isMark 16 = .ok (.iconst 0, 1) := by decide +kernel
theorem dX0_isMark_17 : decode cX0_isMark 17 = .ok (.ireturn, 1) := by decide +kernel
theorem dX0_isBranch_0 : decode cX0_isBranch 0 = .ok (.aload_n 0, 1) := by decide +kernel
theorem dX0_isBranch_1 : decode cX0_isBranch 1 = .ok (.getfield 13, 3) := by decide +kernel
theorem dX0_isBranch_4 : decode cX0_isBranch 4 = .ok (.iload_n 1, 1) := by decide +kernel
theorem dX0_isBranch_5 : decode cX0_isBranch 5 = .ok (.iaload, 1) := by decide +kernel
theorem dX0_isBranch_6 : decode cX0_isBranch 6 = .ok (.iconst (-1), 1) := by decide +kernel
theorem dX0_isBranch_7 : decode cX0_isBranch 7 = .ok (.if_icmp .eq 7, 3) := by decide +kernel
theorem dX0_isBranch_10 : decode cX0_isBranch 10 = .ok (.iconst 1, 1) := by decide +kernel
theorem dX0_isBranch_11 : decode cX0_isBranch 11 = .ok (.goto 4, 3) := by decide +kernel
theorem dX0_isBranch_14 : decode cX0_isBranch 14 = .ok (.iconst 0, 1) := by decide +kernel
theorem dX0_isBranch_15 : decode cX0_isBranch 15 = .ok (.ireturn, 1) := by decide +kernel
set_option maxRecDepth 20000 in
theorem ggX0_firstMarkless_X0_isBranch : GoodIn wsX0_firstMarkless wsX0_isBranch := goodIn_r _ [7, 2, 13, 14, 15, 16, 17, 18, 19, 20, 21, 22] (by decide +kernel) (by decide +kernel)
set_option maxRecDepth 20000 in
theorem gX0_firstMarkless_X0_isBranch : GoodIn wsX0_firstMarkless (wsV RX0 64 RX0 yX0_isBranch wsX0_isBranch) := goodIn_app (goodIn_of _ (by decide +kernel)) ggX0_firstMarkless_X0_isBranch
set_option maxRecDepth 20000 in
theorem ggX0_firstMarkless_X0_isMark : GoodIn wsX0_firstMarkless wsX0_isMark := goodIn_r _ [11, 12, 13, 14, 15, 16, 17, 18, 19, 20, 21, 22] (by decide +kernel) (by decide +kernel)
set_option maxRecDepth 20000 in
theorem gX0_firstMarkless_X0_isMark : GoodIn wsX0_firstMarkless (wsV RX0 70 RX0 yX0_isMark wsX0_isMark) := goodIn_app (goodIn_of _ (by decide +kernel)) ggX0_firstMarkless_X0_isMark
theorem dX0_firstMarkless_0 : decode cX0_firstMarkless 0 = .ok (.iconst 0, 1) := by decide +kernel
theorem dX0_firstMarkless_1 : decode cX0_firstMarkless 1 = .ok (.istore_n 1, 1) := by decide +kernel
theorem dX0_firstMarkless_2 : decode cX0_firstMarkless 2 = .ok (.iload_n 1, 1) := by decide +kernel
theorem dX0_firstMarkless_3 : decode cX0_firstMarkless 3 = .ok (.aload_n 0, 1) := by decide +kernel
theorem dX0_firstMarkless_4 : decode cX0_firstMarkless 4 = .ok (.getfield 22, 3) := by decide +kernel
theorem dX0_firstMarkless_7 : decode cX0_firstMarkless 7 = .ok (.if_icmp .ge 32, 3) := by decide +kernel
theorem dX0_firstMarkless_10 : decode cX0_firstMarkless 10 = .ok (.aload_n 0, 1) := by decide +kernel
theorem dX0_firstMarkless_11 : decode cX0_firstMarkless 11 = .ok (.iload_n 1, 1) := by decide +kernel
theorem dX0_firstMarkless_12 : decode cX0_firstMarkless 12 = .ok (.invokevirtual 64, 3) := by decide +kernel
theorem dX0_firstMarkless_15 : decode cX0_firstMarkless 15 = .ok (.ifCond .eq 18, 3) := by decide +kernel
theorem dX0_firstMarkless_18 : decode cX0_firstMarkless 18 = .ok (.aload_n 0, 1) := by decide +kernel
theorem dX0_firstMarkless_19 : decode cX0_firstMarkless 19 = .ok (.aload_n 0, 1) := by decide +kernel
theorem dX0_firstMarkless_20 : decode cX0_firstMarkless 20 = .ok (.getfield 13, 3) := by decide +kernel
theorem dX0_firstMarkless_23 : decode cX0_firstMarkless 23 = .ok (.iload_n 1, 1) := by decide +kernel
theorem dX0_firstMarkless_24 : decode cX0_firstMarkless 24 = .ok (.iaload, 1) := by decide +kernel
theorem dX0_firstMarkless_25 : decode cX0_firstMarkless 25 = .ok (.invokevirtual 70, 3) := by decide +kernel
theorem dX0_firstMarkless_28 : decode cX0_firstMarkless 28 = .ok (.ifCond .ne 5, 3) := by decide +kernel
theorem dX0_firstMarkless_31 : decode cX0_firstMarkless 31 = .ok (.iload_n 1, 1) := by decide +kernel
theorem dX0_firstMarkless_32 : decode cX0_firstMarkless 32 = .ok (.ireturn, 1) := by decide +kernel
theorem dX0_firstMarkless_33 : decode cX0_firstMarkless 33 = .ok (.iinc 1 1, 3) := by decide +kernel
theorem dX0_firstMarkless_36 : decode cX0_firstMarkless 36 = .ok (.goto (-34), 3) := by decide +kernel
theorem dX0_firstMarkless_39 : decode cX0_firstMarkless 39 = .ok (.iconst (-1), 1) := by decide +kernel
theorem dX0_firstMarkless_40 : decode cX0_firstMarkless 40 = .ok (.ireturn, 1) := by decide +kernel
set_option maxRecDepth 20000 in
theorem ggX0_shortenAll_X0_isBranch : GoodIn wsX0_shortenAll wsX0_isBranch := goodIn_r _ [8, 9, 10, 11, 12, 13, 14, 15, 16, 17, 18, 19] (by decide +kernel) (by decide +kernel)
set_option maxRecDepth 20000 in
theorem gX0_shortenAll_X0_isBranch : GoodIn wsX0_shortenAll (wsV RX0 64 RX0 yX0_isBranch wsX0_isBranch) := goodIn_app (goodIn_of _ (by decide +kernel)) ggX0_shortenAll_X0_isBranch
theorem dX0_shortenAll_0 : decode cX0_shortenAll 0 = .ok (.iconst 0, 1) := by decide +kernel
theorem dX0_shortenAll_1 : decode cX0_shortenAll 1 = .ok (.istore_n 1, 1) := by decide +kernel
theorem dX0_shortenAll_2 : decode cX0_shortenAll 2 = .ok (.iload_n 1, 1) := by decide +kernel
theorem dX0_shortenAll_3 : decode cX0_shortenAll 3 = .ok (.aload_n 0, 1) := by decide +kernel
theorem dX0_shortenAll_4 : decode cX0_shortenAll 4 = .ok (.getfield 22, 3) := by decide +kernel
theorem dX0_shortenAll_7 : decode cX0_shortenAll 7 = .ok (.if_icmp .ge 24, 3) := by decide +kernel
theorem dX0_shortenAll_10 : decode cX0_shortenAll 10 = .ok (.aload_n 0, 1) := by decide +kernel
theorem dX0_shortenAll_11 : decode cX0_shortenAll 11 = .ok (.iload_n 1, 1) := by decide +kernel
theorem dX0_shortenAll_12 : decode cX0_shortenAll 12 = .ok (.invokevirtual 64, 3) := by decide +kernel
theorem dX0_shortenAll_15 : decode cX0_shortenAll 15 = .ok (.ifCond .eq 10, 3) := by decide +kernel
theorem dX0_shortenAll_18 : decode cX0_shortenAll 18 = .ok (.aload_n 0, 1) := by decide +kernel
theorem dX0_shortenAll_19 : decode cX0_shortenAll 19 = .ok (.getfield 9, 3) := by decide +kernel
theorem dX0_shortenAll_22 : decode cX0_shortenAll 22 = .ok (.iload_n 1, 1) := by decide +kernel
theorem dX0_shortenAll_23 : decode cX0_shortenAll 23 = .ok (.iconst 1, 1) := by decide +kernel
theorem dX0_shortenAll_24 : decode cX0_shortenAll 24 = .ok (.iastore, 1) := by decide +kernel
theorem dX0_shortenAll_25 : decode cX0_shortenAll 25 = .ok (.iinc 1 1, 3) := by decide +kernel
theorem dX0_shortenAll_28 : decode cX0_shortenAll 28 = .ok (.goto (-26), 3) := by decide +kernel
theorem dX0_shortenAll_31 : decode cX0_shortenAll 31 = .ok (.aload_n 0, 1) := by decide +kernel
theorem dX0_shortenAll_32 : decode cX0_shortenAll 32 = .ok (.iconst 0, 1) := by decide +kernel
theorem dX0_shortenAll_33 : decode cX0_shortenAll 33 = .ok (.putfield 29, 3) := by decide +kernel
theorem dX0_shortenAll_36 : decode cX0_shortenAll 36 = .ok (.return_, 1) := by decide +kernel
theorem dX0_setPlaces_0 : decode cX0_setPlaces 0 = .ok (.iconst 0, 1) := by decide +kernel
theorem dX0_setPlaces_1 : decode cX0_setPlaces 1 = .ok (.istore_n 1, 1) := by decide +kernel
theorem dX0_setPlaces_2 : decode cX0_setPlaces 2 = .ok (.iconst 0, 1) := by decide +kernel
theorem dX0_setPlaces_3 : decode cX0_setPlaces 3 = .ok (.istore_n 2, 1) := by decide +kernel
theorem dX0_setPlaces_4 : decode cX0_setPlaces 4 = .ok (.iload_n 2, 1) := by decide +kernel
theorem dX0_setPlaces_5 : decode cX0_setPlaces 5 = .ok (.aload_n 0, 1) := by decide +kernel
theorem dX0_setPlaces_6 : decode cX0_setPlaces 6 = .ok (.getfield 22, 3) := by decide +kernel
theorem dX0_setPlaces_9 : decode cX0_setPlaces 9 = .ok (.if_icmp .ge 25, 3) := by decide +kernel
theorem dX0_setPlaces_12 : decode cX0_setPlaces 12 = .ok (.aload_n 0, 1) := by decide +kernel
theorem dX0_setPlaces_13 : decode cX0_setPlaces 13 = .ok (.getfield 16, 3) := by decide +kernel
theorem dX0_setPlaces_16 : decode cX0_setPlaces 16 = .ok (.iload_n 2, 1) := by decide +kernel
theorem dX0_setPlaces_17 : decode cX0_setPlaces 17 = .ok (.iload_n 1, 1) := by decide +kernel
theorem dX0_setPlaces_18 : decode cX0_setPlaces 18 = .ok (.iastore, 1) := by decide +kernel
theorem dX0_setPlaces_19 : decode cX0_setPlaces 19 = .ok (.iload_n 1, 1) := by decide +kernel
theorem dX0_setPlaces_20 : decode cX0_setPlaces 20 = .ok (.aload_n 0, 1) := by decide +kernel
theorem dX0_setPlaces_21 : decode cX0_setPlaces 21 = .ok (.getfield 9, 3) := by decide +kernel
theorem dX0_setPlaces_24 : decode cX0_setPlaces 24 = .ok (.iload_n 2, 1) := by decide +kernel
theorem dX0_setPlaces_25 : decode cX0_setPlaces 25 = .ok (.iaload, 1) := by decide +kernel
theorem dX0_setPlaces_26 : decode cX0_setPlaces 26 = .ok (.iadd, 1) := by decide +kernel
theorem dX0_setPlaces_27 : decode cX0_setPlaces 27 = .ok (.istore_n 1, 1) := by decide +kernel
theorem dX0_setPlaces_28 : decode cX0_setPlaces 28 = .ok (.iinc 2 1, 3) := by decide +kernel
theorem dX0_setPlaces_31 : decode cX0_setPlaces 31 = .ok (.goto (-27), 3) := by decide +kernel
theorem dX0_setPlaces_34 : decode cX0_setPlaces 34 = .ok (.iload_n 1, 1) := by decide +kernel
theorem dX0_setPlaces_35 : decode cX0_setPlaces 35 = .ok (.ireturn, 1) := by decide +kernel
set_option maxRecDepth 20000 in
theorem ggX0_lengthenUnreaching_X0_isBranch : GoodIn wsX0_lengthenUnreaching wsX0_isBranch := goodIn_r _ [7, 8, 25, 26, 27, 28, 29, 30, 31, 32, 33, 34] (by decide +kernel) (by decide +kernel)
set_option maxRecDepth 20000 in
theorem gX0_lengthenUnreaching_X0_isBranch : GoodIn wsX0_lengthenUnreaching (wsV RX0 64 RX0 yX0_isBranch wsX0_isBranch) := goodIn_app (goodIn_of _ (by decide +kernel)) ggX0_lengthenUnreaching_X0_isBranch
set_option maxRecDepth 20000 in
theorem ggX0_lengthenUnreaching_X0_reachesShort : GoodIn wsX0_lengthenUnreaching wsX0_reachesShort := goodIn_r _ [12, 8, 13, 14, 15, 16, 17, 18, 6, 19, 20, 21, 22, 23, 24, 1, 25, 26, 27, 28, 29, 30, 31, 32, 33, 34] (by decide +kernel) (by decide +kernel)
set_option maxRecDepth 20000 in
theorem gX0_lengthenUnreaching_X0_reachesShort : GoodIn wsX0_lengthenUnreaching (wsV RX0 73 RX0 yX0_reachesShort wsX0_reachesShort) := goodIn_app (goodIn_of _ (by decide +kernel)) ggX0_lengthenUnreaching_X0_reachesShort
theorem dX0_lengthenUnreaching_0 : decode cX0_lengthenUnreaching 0 = .ok (.iconst 0, 1) := by decide +kernel
theorem dX0_lengthenUnreaching_1 : decode cX0_lengthenUnreaching 1 = .ok (.istore_n 1, 1) := by decide +kernel
theorem dX0_lengthenUnreaching_2 : decode cX0_lengthenUnreaching 2 = .ok (.iconst 0, 1) := by decide +kernel
theorem dX0_lengthenUnreaching_3 : decode cX0_lengthenUnreaching 3 = .ok (.istore_n 2, 1) := by decide +kernel
theorem dX0_lengthenUnreaching_4 : decode cX0_lengthenUnreaching 4 = .ok (.iload_n 2, 1) := by decide +kernel
theorem dX0_lengthenUnreaching_5 : decode cX0_lengthenUnreaching 5 = .ok (.aload_n 0, 1) := by decide +kernel
theorem dX0_lengthenUnreaching_6 : decode cX0_lengthenUnreaching 6 = .ok (.getfield 22, 3) := by decide +kernel
theorem dX0_lengthenUnreaching_9 : decode cX0_lengthenUnreaching 9 = .ok (.if_icmp .ge 45, 3) := by decide +kernel
theorem dX0_lengthenUnreaching_12 : decode cX0_lengthenUnreaching 12 = .ok (.aload_n 0, 1) := by decide +kernel
theorem dX0_lengthenUnreaching_13 : decode cX0_lengthenUnreaching 13 = .ok (.iload_n 2, 1) := by decide +kernel
theorem dX0_lengthenUnreaching_14 : decode cX0_lengthenUnreaching 14 = .ok (.invokevirtual 64, 3) := by decide +kernel
theorem dX0_lengthenUnreaching_17 : decode cX0_lengthenUnreaching 17 = .ok (.ifCond .eq 31, 3) := by decide +kernel
theorem dX0_lengthenUnreaching_20 : decode cX0_lengthenUnreaching 20 = .ok (.aload_n 0, 1) := by decide +kernel
theorem dX0_lengthenUnreaching_21 : decode cX0_lengthenUnreaching 21 = .ok (.getfield 9, 3) := by decide +kernel
theorem dX0_lengthenUnreaching_24 : decode cX0_lengthenUnreaching 24 = .ok (.iload_n 2, 1) := by decide +kernel
theorem dX0_lengthenUnreaching_25 : decode cX0_lengthenUnreaching 25 = .ok (.iaload, 1) := by decide +kernel
theorem dX0_lengthenUnreaching_26 : decode cX0_lengthenUnreaching 26 = .ok (.iconst 1, 1) := by decide +kernel
theorem dX0_lengthenUnreaching_27 : decode cX0_lengthenUnreaching 27 = .ok (.if_icmp .ne 21, 3) := by decide +kernel
theorem dX0_lengthenUnreaching_30 : decode cX0_lengthenUnreaching 30 = .ok (.aload_n 0, 1) := by decide +kernel
theorem dX0_lengthenUnreaching_31 : decode cX0_lengthenUnreaching 31 = .ok (.iload_n 2, 1) := by decide +kernel
theorem dX0_lengthenUnreaching_32 : decode cX0_lengthenUnreaching 32 = .ok (.invokevirtual 73, 3) := by decide +kernel
theorem dX0_lengthenUnreaching_35 : decode cX0_lengthenUnreaching 35 = .ok (.ifCond .ne 13, 3) := by decide +kernel
theorem dX0_lengthenUnreaching_38 : decode cX0_lengthenUnreaching 38 = .ok (.aload_n 0, 1) := by decide +kernel
theorem dX0_lengthenUnreaching_39 : decode cX0_lengthenUnreaching 39 = .ok (.getfield 9, 3) := by decide +kernel
theorem dX0_lengthenUnreaching_42 : decode cX0_lengthenUnreaching 42 = .ok (.iload_n 2, 1) := by decide +kernel
theorem dX0_lengthenUnreaching_43 : decode cX0_lengthenUnreaching 43 = .ok (.iconst 2, 1) := by decide +kernel
theorem dX0_lengthenUnreaching_44 : decode cX0_lengthenUnreaching 44 = .ok (.iastore, 1) := by decide +kernel
theorem dX0_lengthenUnreaching_45 : decode cX0_lengthenUnreaching 45 = .ok (.iinc 1 1, 3) := by decide +kernel
theorem dX0_lengthenUnreaching_48 : decode cX0_lengthenUnreaching 48 = .ok (.iinc 2 1, 3) := by decide +kernel
theorem dX0_lengthenUnreaching_51 : decode cX0_lengthenUnreaching 51 = .ok (.goto (-47), 3) := by decide +kernel
theorem dX0_lengthenUnreaching_54 : decode cX0_lengthenUnreaching 54 = .ok (.iload_n 1, 1) := by decide +kernel
theorem dX0_lengthenUnreaching_55 : decode cX0_lengthenUnreaching 55 = .ok (.ireturn, 1) := by decide +kernel
set_option maxRecDepth 20000 in
theorem ggX0_reachesShort_X0_isMark : GoodIn wsX0_reachesShort wsX0_isMark := goodIn_r _ [9, 10, 16, 17, 18, 19, 20, 21, 22, 23, 24, 25] (by decide +kernel) (by decide +kernel)
set_option maxRecDepth 20000 in
theorem gX0_reachesShort_X0_isMark : GoodIn wsX0_reachesShort (wsV RX0 70 RX0 yX0_isMark wsX0_isMark) := goodIn_app (goodIn_of _ (by decide +kernel)) ggX0_reachesShort_X0_isMark
set_option maxRecDepth 20000 in
theorem ggX0_reachesShort_X0_isItem : GoodIn wsX0_reachesShort wsX0_isItem := goodIn_r _ [14, 15, 16, 17, 18, 19, 20, 21, 22, 23, 24, 25] (by decide +kernel) (by decide +kernel)
set_option maxRecDepth 20000 in
theorem gX0_reachesShort_X0_isItem : GoodIn wsX0_reachesShort (wsV RX0 67 RX0 yX0_isItem wsX0_isItem) := goodIn_app (goodIn_of _ (by decide +kernel)) ggX0_reachesShort_X0_isItem
theorem dX0_reachesShort_0 : decode cX0_reachesShort 0 = .ok (.aload_n 0, 1) := by decide +kernel
theorem dX0_reachesShort_1 : decode cX0_reachesShort 1 = .ok (.getfield 13, 3) := by decide +kernel
theorem dX0_reachesShort_4 : decode cX0_reachesShort 4 = .ok (.iload_n 1, 1) := by decide +kernel
theorem dX0_reachesShort_5 : decode cX0_reachesShort 5 = .ok (.iaload, 1) := by decide +kernel
theorem dX0_reachesShort_6 : decode cX0_reachesShort 6 = .ok (.istore_n 2, 1) := by decide +kernel
theorem dX0_reachesShort_7 : decode cX0_reachesShort 7 = .ok (.aload_n 0, 1) := by decide +kernel
theorem dX0_reachesShort_8 : decode cX0_reachesShort 8 = .ok (.iload_n 2, 1) := by decide +kernel
theorem dX0_reachesShort_9 : decode cX0_reachesShort 9 = .ok (.invokevirtual 70, 3) := by decide +kernel
theorem dX0_reachesShort_12 : decode cX0_reachesShort 12 = .ok (.ifCond .eq 16, 3) := by decide +kernel
theorem dX0_reachesShort_15 : decode cX0_reachesShort 15 = .ok (.aload_n 0, 1) := by decide +kernel
theorem dX0_reachesShort_16 : decode cX0_reachesShort 16 = .ok (.aload_n 0, 1) := by decide +kernel
theorem dX0_reachesShort_17 : decode cX0_reachesShort 17 = .ok (.getfield 19, 3) := by decide +kernel
theorem dX0_reachesShort_20 : decode cX0_reachesShort 20 = .ok (.iload_n 2, 1) := by decide +kernel
theorem dX0_reachesShort_21 : decode cX0_reachesShort 21 = .ok (.iaload, 1) := by decide +kernel
theorem dX0_reachesShort_22 : decode cX0_reachesShort 22 = .ok (.invokevirtual 67, 3) := by decide +kernel
theorem dX0_reachesShort_25 : decode cX0_reachesShort 25 = .ok (.ifCond .ne 5, 3) := by decide +kernel
theorem dX0_reachesShort_28 : decode cX0_reachesShort 28 = .ok (.iconst 0, 1) := by decide +kernel
theorem dX0_reachesShort_29 : decode cX0_reachesShort 29 = .ok (.ireturn, 1) := by decide +kernel
theorem dX0_reachesShort_30 : decode cX0_reachesShort 30 = .ok (.aload_n 0, 1) := by decide +kernel
theorem dX0_reachesShort_31 : decode cX0_reachesShort 31 = .ok (.getfield 16, 3) := by decide +kernel
theorem dX0_reachesShort_34 : decode cX0_reachesShort 34 = .ok (.aload_n 0, 1) := by decide +kernel
theorem dX0_reachesShort_35 : decode cX0_reachesShort 35 = .ok (.getfield 19, 3) := by decide +kernel
theorem dX0_reachesShort_38 : decode cX0_reachesShort 38 = .ok (.iload_n 2, 1) := by decide +kernel
theorem dX0_reachesShort_39 : decode cX0_reachesShort 39 = .ok (.iaload, 1) := by decide +kernel
theorem dX0_reachesShort_40 : decode cX0_reachesShort 40 = .ok (.iaload, 1) := by decide +kernel
theorem dX0_reachesShort_41 : decode cX0_reachesShort 41 = .ok (.aload_n 0, 1) := by decide +kernel
theorem dX0_reachesShort_42 : decode cX0_reachesShort 42 = .ok (.getfield 16, 3) := by decide +kernel
theorem dX0_reachesShort_45 : decode cX0_reachesShort 45 = .ok (.iload_n 1, 1) := by decide +kernel
theorem dX0_reachesShort_46 : decode cX0_reachesShort 46 = .ok (.iaload, 1) := by decide +kernel
theorem dX0_reachesShort_47 : decode cX0_reachesShort 47 = .ok (.isub, 1) := by decide +kernel
theorem dX0_reachesShort_48 : decode cX0_reachesShort 48 = .ok (.istore_n 3, 1) := by decide +kernel
theorem dX0_reachesShort_49 : decode cX0_reachesShort 49 = .ok (.iload_n 3, 1) := by decide +kernel
theorem dX0_reachesShort_50 : decode cX0_reachesShort 50 = .ok (.aload_n 0, 1) := by decide +kernel
theorem dX0_reachesShort_51 : decode cX0_reachesShort 51 = .ok (.getfield 32, 3) := by decide +kernel
theorem dX0_reachesShort_54 : decode cX0_reachesShort 54 = .ok (.ineg, 1) := by decide +kernel
theorem dX0_reachesShort_55 : decode cX0_reachesShort 55 = .ok (.if_icmp .lt 15, 3) := by decide +kernel
theorem dX0_reachesShort_58 : decode cX0_reachesShort 58 = .ok (.iload_n 3, 1) := by decide +kernel
theorem dX0_reachesShort_59 : decode cX0_reachesShort 59 = .ok (.aload_n 0, 1) := by decide +kernel
theorem dX0_reachesShort_60 : decode cX0_reachesShort 60 = .ok (.getfield 32, 3) := by decide +kernel
theorem dX0_reachesShort_63 : decode cX0_reachesShort 63 = .ok (.if_icmp .gt 7, 3) := by decide +kernel
theorem dX0_reachesShort_66 : decode cX0_reachesShort 66 = .ok (.iconst 1, 1) := by decide +kernel
theorem dX0_reachesShort_67 : decode cX0_reachesShort 67 = .ok (.goto 4, 3) := by decide +kernel
theorem dX0_reachesShort_70 : decode cX0_reachesShort 70 = .ok (.iconst 0, 1) := by decide +kernel
theorem dX0_reachesShort_71 : decode cX0_reachesShort 71 = .ok (.ireturn, 1) := by decide +kernel
theorem dX1_init_0 : decode cX1_init 0 = .ok (.aload_n 0, 1) := by decide +kernel
theorem dX1_init_1 : decode cX1_init 1 = .ok (.invokespecial 1, 3) := by decide +kernel
theorem dX1_init_4 : decode cX1_init 4 = .ok (.aload_n 0, 1) := by decide +kernel
theorem dX1_init_5 : decode cX1_init 5 = .ok (.sipush 2000, 3) := by decide +kernel
theorem dX1_init_8 : decode cX1_init 8 = .ok (.newarray .int, 2) := by decide +kernel
theorem dX1_init_10 : decode cX1_init 10 = .ok (.putfield 9, 3) := by decide +kernel
theorem dX1_init_13 : decode cX1_init 13 = .ok (.aload_n 0, 1) := by decide +kernel
theorem dX1_init_14 : decode cX1_init 14 = .ok (.sipush 2000, 3) := by decide +kernel
theorem dX1_init_17 : decode cX1_init 17 = .ok (.newarray .int, 2) := by decide +kernel
theorem dX1_init_19 : decode cX1_init 19 = .ok (.putfield 13, 3) := by decide +kernel
theorem dX1_init_22 : decode cX1_init 22 = .ok (.aload_n 0, 1) := by decide +kernel
theorem dX1_init_23 : decode cX1_init 23 = .ok (.sipush 2000, 3) := by decide +kernel
theorem dX1_init_26 : decode cX1_init 26 = .ok (.newarray .boolean, 2) := by decide +kernel
theorem dX1_init_28 : decode cX1_init 28 = .ok (.putfield 16, 3) := by decide +kernel
theorem dX1_init_31 : decode cX1_init 31 = .ok (.aload_n 0, 1) := by decide +kernel
theorem dX1_init_32 : decode cX1_init 32 = .ok (.sipush 2001, 3) := by decide +kernel
theorem dX1_init_35 : decode cX1_init 35 = .ok (.newarray .int, 2) := by decide +kernel
theorem dX1_init_37 : decode cX1_init 37 = .ok (.putfield 20, 3) := by decide +kernel
theorem dX1_init_40 : decode cX1_init 40 = .ok (.aload_n 0, 1) := by decide +kernel
theorem dX1_init_41 : decode cX1_init 41 = .ok (.sipush 2000, 3) := by decide +kernel
theorem dX1_init_44 : decode cX1_init 44 = .ok (.newarray .int, 2) := by decide +kernel
theorem dX1_init_46 : decode cX1_init 46 = .ok (.putfield 23, 3) := by decide +kernel
theorem dX1_init_49 : decode cX1_init 49 = .ok (.aload_n 0, 1) := by decide +kernel
theorem dX1_init_50 : decode cX1_init 50 = .ok (.sipush 1000, 3) := by decide +kernel
theorem dX1_init_53 : decode cX1_init 53 = .ok (.putfield 26, 3) := by decide +kernel
theorem dX1_init_56 : decode cX1_init 56 = .ok (.aload_n 0, 1) := by decide +kernel
theorem dX1_init_57 : decode cX1_init 57 = .ok (.iconst (-1), 1) := by decide +kernel
theorem dX1_init_58 : decode cX1_init 58 = .ok (.putfield 30, 3) := by decide +kernel
theorem dX1_init_61 : decode cX1_init 61 = .ok (.return_, 1) := by decide +kernel
theorem dX1_item_0 : decode cX1_item 0 = .ok (.aload_n 0, 1) := by decide +kernel
theorem dX1_item_1 : decode cX1_item 1 = .ok (.getfield 33, 3) := by decide +kernel
theorem dX1_item_4 : decode cX1_item 4 = .ok (.sipush 2000, 3) := by decide +kernel
theorem dX1_item_7 : decode cX1_item 7 = .ok (.if_icmp .ne 5, 3) := by decide +kernel
theorem dX1_item_10 : decode cX1_item 10 = .ok (.iconst (-1), 1) := by decide +kernel
theorem dX1_item_11 : decode cX1_item 11 = .ok (.ireturn, 1) := by decide +kernel
theorem dX1_item_12 : decode cX1_item 12 = .ok (.aload_n 0, 1) := by decide +kernel
theorem dX1_item_13 : decode cX1_item 13 = .ok (.getfield 9, 3) := by decide +kernel
theorem dX1_item_16 : decode cX1_item 16 = .ok (.aload_n 0, 1) := by decide +kernel
theorem dX1_item_17 : decode cX1_item 17 = .ok (.getfield 33, 3) := by decide +kernel
theorem dX1_item_20 : decode cX1_item 20 = .ok (.iload_n 1, 1) := by decide +kernel
theorem dX1_item_21 : decode cX1_item 21 = .ok (.iastore, 1) := by decide +kernel
theorem dX1_item_22 : decode cX1_item 22 = .ok (.aload_n 0, 1) := by decide +kernel
theorem dX1_item_23 : decode cX1_item 23 = .ok (.getfield 13, 3) := by decide +kernel
theorem dX1_item_26 : decode cX1_item 26 = .ok (.aload_n 0, 1) := by decide +kernel
theorem dX1_item_27 : decode cX1_item 27 = .ok (.getfield 33, 3) := by decide +kernel
theorem dX1_item_30 : decode cX1_item 30 = .ok (.iload_n 2, 1) := by decide +kernel
theorem dX1_item_31 : decode cX1_item 31 = .ok (.iastore, 1) := by decide +kernel
theorem dX1_item_32 : decode cX1_item 32 = .ok (.aload_n 0, 1) := by decide +kernel
theorem dX1_item_33 : decode cX1_item 33 = .ok (.iconst 0, 1) := by decide +kernel
theorem dX1_item_34 : decode cX1_item 34 = .ok (.putfield 36, 3) := by decide +kernel
theorem dX1_item_37 : decode cX1_item 37 = .ok (.aload_n 0, 1) := by decide +kernel
theorem dX1_item_38 : decode cX1_item 38 = .ok (.dup, 1) := by decide +kernel
theorem dX1_item_39 : decode cX1_item 39 = .ok (.getfield 33, 3) := by decide +kernel
theorem dX1_item_42 : decode cX1_item 42 = .ok (.iconst 1, 1) := by decide +kernel
theorem dX1_item_43 : decode cX1_item 43 = .ok (.iadd, 1) := by decide +kernel
theorem dX1_item_44 : decode cX1_item 44 = .ok (.putfield 33, 3) := by decide +kernel
theorem dX1_item_47 : decode cX1_item 47 = .ok (.aload_n 0, 1) := by decide +kernel
theorem dX1_item_48 : decode cX1_item 48 = .ok (.getfield 33, 3) := by decide +kernel
theorem dX1_item_51 : decode cX1_item 51 = .ok (.iconst 1, 1) := by decide +kernel
theorem dX1_item_52 : decode cX1_item 52 = .ok (.isub, 1) := by decide +kernel
theorem dX1_item_53 : decode cX1_item 53 = .ok (.ireturn, 1) := by decide +kernel
set_option maxRecDepth 20000 in
theorem ggX1_stretch_X1_item : GoodIn wsX1_stretch wsX1_item := goodIn_r _ [5, 6, 7, 8, 9, 10, 11, 12, 13, 14, 15, 16, 17, 18, 19] (by decide +kernel) (by decide +kernel)
set_option maxRecDepth 20000 in
theorem gX1_stretch_X1_item : GoodIn wsX1_stretch (wsV RX1 40 RX1 yX1_item wsX1_item) := goodIn_app (goodIn_of _ (by decide +kernel)) ggX1_stretch_X1_item
theorem dX1_stretch_0 : decode cX1_stretch 0 = .ok (.iload_n 1, 1) := by decide +kernel
theorem dX1_stretch_1 : decode cX1_stretch 1 = .ok (.ifCond .lt 10, 3) := by decide +kernel
theorem dX1_stretch_4 : decode cX1_stretch 4 = .ok (.iload_n 1, 1) := by decide +kernel
theorem dX1_stretch_5 : decode cX1_stretch 5 = .ok (.sipush 4000, 3) := by decide +kernel
theorem dX1_stretch_8 : decode cX1_stretch 8 = .ok (.if_icmp .le 7, 3) := by decide +kernel
theorem dX1_stretch_11 : decode cX1_stretch 11 = .ok (.iconst (-1), 1) := by decide +kernel
theorem dX1_stretch_12 : decode cX1_stretch 12 = .ok (.goto 9, 3) := by decide +kernel
theorem dX1_stretch_15 : decode cX1_stretch 15 = .ok (.aload_n 0, 1) := by decide +kernel
theorem dX1_stretch_16 : decode cX1_stretch 16 = .ok (.iconst 0, 1) := by decide +kernel
theorem dX1_stretch_17 : decode cX1_stretch 17 = .ok (.iload_n 1, 1) := by decide +kernel
theorem dX1_stretch_18 : decode cX1_stretch 18 = .ok (.invokevirtual 40, 3) := by decide +kernel
theorem dX1_stretch_21 : decode cX1_stretch 21 = .ok (.ireturn, 1) := by decide +kernel
set_option maxRecDepth 20000 in
theorem ggX1_mark_X1_item : GoodIn wsX1_mark wsX1_item := goodIn_r _ [7, 8, 9, 10, 11, 12, 13, 14, 15, 16, 17, 18, 19, 20, 21] (by decide +kernel) (by decide +kernel)
set_option maxRecDepth 20000 in
theorem gX1_mark_X1_item : GoodIn wsX1_mark (wsV RX1 40 RX1 yX1_item wsX1_item) := goodIn_app (goodIn_of _ (by decide +kernel)) ggX1_mark_X1_item
theorem dX1_mark_0 : decode cX1_mark 0 = .ok (.aload_n 0, 1) := by decide +kernel
theorem dX1_mark_1 : decode cX1_mark 1 = .ok (.iconst 1, 1) := by decide +kernel
theorem dX1_mark_2 : decode cX1_mark 2 = .ok (.iconst 0, 1) := by decide +kernel
theorem dX1_mark_3 : decode cX1_mark 3 = .ok (.invokevirtual 40, 3) := by decide +kernel
theorem dX1_mark_6 : decode cX1_mark 6 = .ok (.istore_n 1, 1) := by decide +kernel
theorem dX1_mark_7 : decode cX1_mark 7 = .ok (.iload_n 1, 1) := by decide +kernel
theorem dX1_mark_8 : decode cX1_mark 8 = .ok (.ifCond .ge 5, 3) := by decide +kernel
theorem dX1_mark_11 : decode cX1_mark 11 = .ok (.iconst (-1), 1) := by decide +kernel
theorem dX1_mark_12 : decode cX1_mark 12 = .ok (.ireturn, 1) := by decide +kernel
theorem dX1_mark_13 : decode cX1_mark 13 = .ok (.aload_n 0, 1) := by decide +kernel
theorem dX1_mark_14 : decode cX1_mark 14 = .ok (.getfield 23, 3) := by decide +kernel
theorem dX1_mark_17 : decode cX1_mark 17 = .ok (.aload_n 0, 1) := by decide +kernel
theorem dX1_mark_18 : decode cX1_mark 18 = .ok (.getfield 44, 3) := by decide +kernel
theorem dX1_mark_21 : decode cX1_mark 21 = .ok (.iload_n 1, 1) := by decide +kernel
theorem dX1_mark_22 : decode cX1_mark 22 = .ok (.iastore, 1) := by decide +kernel
theorem dX1_mark_23 : decode cX1_mark 23 = .ok (.aload_n 0, 1) := by decide +kernel
theorem dX1_mark_24 : decode cX1_mark 24 = .ok (.dup, 1) := by decide +kernel
theorem dX1_mark_25 : decode cX1_mark 25 = .ok (.getfield 44, 3) := by decide +kernel
theorem dX1_mark_28 : decode cX1_mark 28 = .ok (.iconst 1, 1) := by decide +kernel
theorem dX1_mark_29 : decode cX1_mark 29 = .ok (.iadd, 1) := by decide +kernel
theorem dX1_mark_30 : decode cX1_mark 30 = .ok (.putfield 44, 3) := by decide +kernel
theorem dX1_mark_33 : decode cX1_mark 33 = .ok (.iload_n 1, 1) := by decide +kernel
theorem dX1_mark_34 : decode cX1_mark 34 = .ok (.ireturn, 1) := by decide +kernel
set_option maxRecDepth 20000 in
theorem ggX1_branch_X1_item : GoodIn wsX1_branch wsX1_item := goodIn_r _ [5, 6, 7, 8, 9, 10, 11, 12, 13, 14, 15, 16, 17, 18, 19] (by decide +kernel) (by decide +kernel)
set_option maxRecDepth 20000 in
theorem gX1_branch_X1_item : GoodIn wsX1_branch (wsV RX1 40 RX1 yX1_item wsX1_item) := goodIn_app (goodIn_of _ (by decide +kernel)) ggX1_branch_X1_item
theorem dX1_branch_0 : decode cX1_branch 0 = .ok (.iload_n 1, 1) := by decide +kernel
theorem dX1_branch_1 : decode cX1_branch 1 = .ok (.ifCond .ge 7, 3) := by decide +kernel
theorem dX1_branch_4 : decode cX1_branch 4 = .ok (.iconst (-1), 1) := by decide +kernel
theorem dX1_branch_5 : decode cX1_branch 5 = .ok (.goto 9, 3) := by decide +kernel
theorem dX1_branch_8 : decode cX1_branch 8 = .ok (.aload_n 0, 1) := by decide +kernel
theorem dX1_branch_9 : decode cX1_branch 9 = .ok (.iconst 2, 1) := by decide +kernel
theorem dX1_branch_10 : decode cX1_branch 10 = .ok (.iload_n 1, 1) := by decide +kernel
theorem dX1_branch_11 : decode cX1_branch 11 = .ok (.invokevirtual 40, 3) := by decide +kernel
theorem dX1_branch_14 : decode cX1_branch 14 = .ok (.ireturn, 1) := by decide +kernel
theorem dX1_reach_0 : decode cX1_reach 0 = .ok (.iload_n 1, 1) := by decide +kernel
theorem dX1_reach_1 : decode cX1_reach 1 = .ok (.iconst 1, 1) := by decide +kernel
theorem dX1_reach_2 : decode cX1_reach 2 = .ok (.if_icmp .lt 9, 3) := by decide +kernel
theorem dX1_reach_5 : decode cX1_reach 5 = .ok (.iload_n 1, 1) := by decide +kernel
theorem dX1_reach_6 : decode cX1_reach 6 = .ok (.ldc 47, 2) := by decide +kernel
theorem dX1_reach_8 : decode cX1_reach 8 = .ok (.if_icmp .le 5, 3) := by decide +kernel
theorem dX1_reach_11 : decode cX1_reach 11 = .ok (.iconst 0, 1) := by decide +kernel
theorem dX1_reach_12 : decode cX1_reach 12 = .ok (.ireturn, 1) := by decide +kernel
theorem dX1_reach_13 : decode cX1_reach 13 = .ok (.aload_n 0, 1) := by decide +kernel
theorem dX1_reach_14 : decode cX1_reach 14 = .ok (.iload_n 1, 1) := by decide +kernel
theorem dX1_reach_15 : decode cX1_reach 15 = .ok (.putfield 26, 3) := by decide +kernel
theorem dX1_reach_18 : decode cX1_reach 18 = .ok (.aload_n 0, 1) := by decide +kernel
theorem dX1_reach_19 : decode cX1_reach 19 = .ok (.iconst 0, 1) := by decide +kernel
theorem dX1_reach_20 : decode cX1_reach 20 = .ok (.putfield 36, 3) := by decide +kernel
theorem dX1_reach_23 : decode cX1_reach 23 = .ok (.iconst 1, 1) := by decide +kernel
theorem dX1_reach_24 : decode cX1_reach 24 = .ok (.ireturn, 1) := by decide +kernel
theorem dX1_addUp_0 : decode cX1_addUp 0 = .ok (.aload_n 0, 1) := by decide +kernel
theorem dX1_addUp_1 : decode cX1_addUp 1 = .ok (.getfield 20, 3) := by decide +kernel
theorem dX1_addUp_4 : decode cX1_addUp 4 = .ok (.iconst 0, 1) := by decide +kernel
theorem dX1_addUp_5 : decode cX1_addUp 5 = .ok (.iconst 0, 1) := by decide +kernel
theorem dX1_addUp_6 : decode cX1_addUp 6 = .ok (.iastore, 1) := by decide +kernel
theorem dX1_addUp_7 : decode cX1_addUp 7 = .ok (.iconst 0, 1) := by decide +kernel
theorem dX1_addUp_8 : decode cX1_addUp 8 = .ok (.istore_n 1, 1) := by decide +kernel
theorem dX1_addUp_9 : decode cX1_addUp 9 = .ok (.iload_n 1, 1) := by decide +kernel
theorem dX1_addUp_10 : decode cX1_addUp 10 = .ok (.aload_n 0, 1) := by decide +kernel
theorem dX1_addUp_11 : decode cX1_addUp 11 = .ok (.getfield 33, 3) := by decide +kernel
theorem dX1_addUp_14 : decode cX1_addUp 14 = .ok (.if_icmp .ge 70, 3) := by decide +kernel
theorem dX1_addUp_17 : decode cX1_addUp 17 = .ok (.aload_n 0, 1) := by decide +kernel
theorem dX1_addUp_18 : decode cX1_addUp 18 = .ok (.getfield 20, 3) := by decide +kernel
theorem dX1_addUp_21 : decode cX1_addUp 21 = .ok (.iload_n 1, 1) := by decide +kernel
theorem dX1_addUp_22 : decode cX1_addUp 22 = .ok (.iconst 1, 1) := by decide +kernel
theorem dX1_addUp_23 : decode cX1_addUp 23 = .ok (.iadd, 1) := by decide +kernel
theorem dX1_addUp_24 : decode cX1_addUp 24 = .ok (.aload_n 0, 1) := by decide +kernel
theorem dX1_addUp_25 : decode cX1_addUp 25 = .ok (.getfield 20, 3) := by decide +kernel
theorem dX1_addUp_28 : decode cX1_addUp 28 = .ok (.iload_n 1, 1) := by decide +kernel
theorem dX1_addUp_29 : decode cX1_addUp 29 = .ok (.iaload, 1) := by decide +kernel
theorem dX1_addUp_30 : decode cX1_addUp 30 = .ok (.aload_n 0, 1) := by decide +kernel
theorem dX1_addUp_31 : decode cX1_addUp 31 = .ok (.getfield 9, 3) := by decide +kernel
theorem dX1_addUp_34 : decode cX1_addUp 34 = .ok (.iload_n 1, 1) := by decide +kernel
theorem dX1_addUp_35 : decode cX1_addUp 35 = .ok (.iaload, 1) := by decide +kernel
theorem dX1_addUp_36 : decode cX1_addUp 36 = .ok (.ifCond .ne 12, 3) := by decide +kernel
theorem dX1_addUp_39 : decode cX1_addUp 39 = .ok (.aload_n 0, 1) := by decide +kernel
theorem dX1_addUp_40 : decode cX1_addUp 40 = .ok (.getfield 13, 3) := by decide +kernel
theorem dX1_addUp_43 : decode cX1_addUp 43 = .ok (.iload_n 1, 1) := by decide +kernel
theorem dX1_addUp_44 : decode cX1_addUp 44 = .ok (.iaload, 1) := by decide +kernel
theorem dX1_addUp_45 : decode cX1_addUp 45 = .ok (.goto 31, 3) := by decide +kernel
theorem dX1_addUp_48 : decode cX1_addUp 48 = .ok (.aload_n 0, 1) := by decide +kernel
theorem dX1_addUp_49 : decode cX1_addUp 49 = .ok (.getfield 9, 3) := by decide +kernel
theorem dX1_addUp_52 : decode cX1_addUp 52 = .ok (.iload_n 1, 1) := by decide +kernel
theorem dX1_addUp_53 : decode cX1_addUp 53 = .ok (.iaload, 1) := by decide +kernel
theorem dX1_addUp_54 : decode cX1_addUp 54 = .ok (.iconst 1, 1) := by decide +kernel
theorem dX1_addUp_55 : decode cX1_addUp 55 = .ok (.if_icmp .ne 7, 3) := by decide +kernel
theorem dX1_addUp_58 : decode cX1_addUp 58 = .ok (.iconst 0, 1) := by decide +kernel
theorem dX1_addUp_59 : decode cX1_addUp 59 = .ok (.goto 17, 3) := by decide +kernel
theorem dX1_addUp_62 : decode cX1_addUp 62 = .ok (.aload_n 0, 1) := by decide +kernel
theorem dX1_addUp_63 : decode cX1_addUp 63 = .ok (.getfield 16, 3) := by decide +kernel
theorem dX1_addUp_66 : decode cX1_addUp 66 = .ok (.iload_n 1, 1) := by decide +kernel
theorem dX1_addUp_67 : decode cX1_addUp 67 = .ok (.baload, 1) := by decide +kernel
theorem dX1_addUp_68 : decode cX1_addUp 68 = .ok (.ifCond .eq 7, 3) := by decide +kernel
theorem dX1_addUp_71 : decode cX1_addUp 71 = .ok (.iconst 2, 1) := by decide +kernel
theorem dX1_addUp_72 : decode cX1_addUp 72 = .ok (.goto 4, 3) := by decide +kernel
theorem dX1_addUp_75 : decode cX1_addUp 75 = .ok (.iconst 1, 1) := by decide +kernel
theorem dX1_addUp_76 : decode cX1_addUp 76 = .ok (.iadd, 1) := by decide +kernel
theorem dX1_addUp_77 : decode cX1_addUp 77 = .ok (.iastore, 1) := by decide +kernel
theorem dX1_addUp_78 : decode cX1_addUp 78 = .ok (.iinc 1 1, 3) := by decide +kernel
theorem dX1_addUp_81 : decode cX1_addUp 81 = .ok (.goto (-72), 3) := by decide +kernel
theorem dX1_addUp_84 : decode cX1_addUp 84 = .ok (.return_, 1) := by decide +kernel
theorem dX1_reaches_0 : decode cX1_reaches 0 = .ok (.aload_n 0, 1) := by decide +kernel
theorem dX1_reaches_1 : decode cX1_reaches 1 = .ok (.getfield 20, 3) := by decide +kernel
theorem dX1_reaches_4 : decode cX1_reaches 4 = .ok (.aload_n 0, 1) := by decide +kernel
theorem dX1_reaches_5 : decode cX1_reaches 5 = .ok (.getfield 23, 3) := by decide +kernel
theorem dX1_reaches_8 : decode cX1_reaches 8 = .ok (.aload_n 0, 1) := by decide +kernel
theorem dX1_reaches_9 : decode cX1_reaches 9 = .ok (.getfield 13, 3) := by decide +kernel
theorem dX1_reaches_12 : decode cX1_reaches 12 = .ok (.iload_n 1, 1) := by decide +kernel
theorem dX1_reaches_13 : decode cX1_reaches 13 = .ok (.iaload, 1) := by decide +kernel
theorem dX1_reaches_14 : decode cX1_reaches 14 = .ok (.iaload, 1) := by decide +kernel
theorem dX1_reaches_15 : decode cX1_reaches 15 = .ok (.iaload, 1) := by decide +kernel
theorem dX1_reaches_16 : decode cX1_reaches 16 = .ok (.aload_n 0, 1) := by decide +kernel
theorem dX1_reaches_17 : decode cX1_reaches 17 = .ok (.getfield 20, 3) := by decide +kernel
theorem dX1_reaches_20 : decode cX1_reaches 20 = .ok (.iload_n 1, 1) := by decide +kernel
theorem dX1_reaches_21 : decode cX1_reaches 21 = .ok (.iaload, 1) := by decide +kernel
theorem dX1_reaches_22 : decode cX1_reaches 22 = .ok (.isub, 1) := by decide +kernel
theorem dX1_reaches_23 : decode cX1_reaches 23 = .ok (.istore_n 2, 1) := by decide +kernel
theorem dX1_reaches_24 : decode cX1_reaches 24 = .ok (.aload_n 0, 1) := by decide +kernel
theorem dX1_reaches_25 : decode cX1_reaches 25 = .ok (.getfield 16, 3) := by decide +kernel
theorem dX1_reaches_28 : decode cX1_reaches 28 = .ok (.iload_n 1, 1) := by decide +kernel
theorem dX1_reaches_29 : decode cX1_reaches 29 = .ok (.baload, 1) := by decide +kernel
theorem dX1_reaches_30 : decode cX1_reaches 30 = .ok (.ifCond .ne 20, 3) := by decide +kernel
theorem dX1_reaches_33 : decode cX1_reaches 33 = .ok (.iload_n 2, 1) := by decide +kernel
theorem dX1_reaches_34 : decode cX1_reaches 34 = .ok (.aload_n 0, 1) := by decide +kernel
theorem dX1_reaches_35 : decode cX1_reaches 35 = .ok (.getfield 26, 3) := by decide +kernel
theorem dX1_reaches_38 : decode cX1_reaches 38 = .ok (.ineg, 1) := by decide +kernel
theorem dX1_reaches_39 : decode cX1_reaches 39 = .ok (.if_icmp .lt 15, 3) := by decide +kernel
theorem dX1_reaches_42 : decode cX1_reaches 42 = .ok (.iload_n 2, 1) := by decide +kernel
theorem dX1_reaches_43 : decode cX1_reaches 43 = .ok (.aload_n 0, 1) := by decide +kernel
theorem dX1_reaches_44 : decode cX1_reaches 44 = .ok (.getfield 26, 3) := by decide +kernel
theorem dX1_reaches_47 : decode cX1_reaches 47 = .ok (.if_icmp .gt 7, 3) := by decide +kernel
theorem dX1_reaches_50 : decode cX1_reaches 50 = .ok (.iconst 1, 1) := by decide +kernel
theorem dX1_reaches_51 : decode cX1_reaches 51 = .ok (.goto 4, 3) := by decide +kernel
theorem dX1_reaches_54 : decode cX1_reaches 54 = .ok (.iconst 0, 1) := by decide +kernel
theorem dX1_reaches_55 : decode cX1_reaches 55 = .ok (.ireturn, 1) := by decide +kernel
set_option maxRecDepth 20000 in
theorem ggX1_lay_X1_addUp : GoodIn wsX1_lay wsX1_addUp := goodIn_r _ [13, 8, 3, 4, 5, 7, 20, 21, 22, 23, 24, 25, 26, 27, 28, 29] (by decide +kernel) (by decide +kernel)
set_option maxRecDepth 20000 in
theorem gX1_lay_X1_addUp : GoodIn wsX1_lay (wsV RX1 48 RX1 yX1_addUp wsX1_addUp) := goodIn_app (goodIn_of _ (by decide +kernel)) ggX1_lay_X1_addUp
set_option maxRecDepth 20000 in
theorem ggX1_lay_X1_reaches : GoodIn wsX1_lay wsX1_reaches := goodIn_r _ [17, 8, 18, 5, 7, 19, 20, 21, 22, 23, 24, 25, 26, 27, 28, 29] (by decide +kernel) (by decide +kernel)
set_option maxRecDepth 20000 in
theorem gX1_lay_X1_reaches : GoodIn wsX1_lay (wsV RX1 51 RX1 yX1_reaches wsX1_reaches) := goodIn_app (goodIn_of _ (by decide +kernel)) ggX1_lay_X1_reaches
theorem dX1_lay_0 : decode cX1_lay 0 = .ok (.aload_n 0, 1) := by decide +kernel
theorem dX1_lay_1 : decode cX1_lay 1 = .ok (.iconst 0, 1) := by decide +kernel
theorem dX1_lay_2 : decode cX1_lay 2 = .ok (.putfield 36, 3) := by decide +kernel
theorem dX1_lay_5 : decode cX1_lay 5 = .ok (.aload_n 0, 1) := by decide +kernel
theorem dX1_lay_6 : decode cX1_lay 6 = .ok (.iconst (-1), 1) := by decide +kernel
theorem dX1_lay_7 : decode cX1_lay 7 = .ok (.putfield 30, 3) := by decide +kernel
theorem dX1_lay_10 : decode cX1_lay 10 = .ok (.iconst 0, 1) := by decide +kernel
theorem dX1_lay_11 : decode cX1_lay 11 = .ok (.istore_n 1, 1) := by decide +kernel
theorem dX1_lay_12 : decode cX1_lay 12 = .ok (.iload_n 1, 1) := by decide +kernel
theorem dX1_lay_13 : decode cX1_lay 13 = .ok (.aload_n 0, 1) := by decide +kernel
theorem dX1_lay_14 : decode cX1_lay 14 = .ok (.getfield 33, 3) := by decide +kernel
theorem dX1_lay_17 : decode cX1_lay 17 = .ok (.if_icmp .ge 44, 3) := by decide +kernel
theorem dX1_lay_20 : decode cX1_lay 20 = .ok (.aload_n 0, 1) := by decide +kernel
theorem dX1_lay_21 : decode cX1_lay 21 = .ok (.getfield 30, 3) := by decide +kernel
theorem dX1_lay_24 : decode cX1_lay 24 = .ok (.ifCond .ge 37, 3) := by decide +kernel
theorem dX1_lay_27 : decode cX1_lay 27 = .ok (.aload_n 0, 1) := by decide +kernel
theorem dX1_lay_28 : decode cX1_lay 28 = .ok (.getfield 9, 3) := by decide +kernel
theorem dX1_lay_31 : decode cX1_lay 31 = .ok (.iload_n 1, 1) := by decide +kernel
theorem dX1_lay_32 : decode cX1_lay 32 = .ok (.iaload, 1) := by decide +kernel
theorem dX1_lay_33 : decode cX1_lay 33 = .ok (.iconst 2, 1) := by decide +kernel
theorem dX1_lay_34 : decode cX1_lay 34 = .ok (.if_icmp .ne 21, 3) := by decide +kernel
theorem dX1_lay_37 : decode cX1_lay 37 = .ok (.aload_n 0, 1) := by decide +kernel
theorem dX1_lay_38 : decode cX1_lay 38 = .ok (.getfield 13, 3) := by decide +kernel
theorem dX1_lay_41 : decode cX1_lay 41 = .ok (.iload_n 1, 1) := by decide +kernel
theorem dX1_lay_42 : decode cX1_lay 42 = .ok (.iaload, 1) := by decide +kernel
theorem dX1_lay_43 : decode cX1_lay 43 = .ok (.aload_n 0, 1) := by decide +kernel
theorem dX1_lay_44 : decode cX1_lay 44 = .ok (.getfield 44, 3) := by decide +kernel
theorem dX1_lay_47 : decode cX1_lay 47 = .ok (.if_icmp .lt 8, 3) := by decide +kernel
theorem dX1_lay_50 : decode cX1_lay 50 = .ok (.aload_n 0, 1) := by decide +kernel
theorem dX1_lay_51 : decode cX1_lay 51 = .ok (.iload_n 1, 1) := by decide +kernel
theorem dX1_lay_52 : decode cX1_lay 52 = .ok (.putfield 30, 3) := by decide +kernel
theorem dX1_lay_55 : decode cX1_lay 55 = .ok (.iinc 1 1, 3) := by decide +kernel
theorem dX1_lay_58 : decode cX1_lay 58 = .ok (.goto (-46), 3) := by decide +kernel
theorem dX1_lay_61 : decode cX1_lay 61 = .ok (.aload_n 0, 1) := by decide +kernel
theorem dX1_lay_62 : decode cX1_lay 62 = .ok (.getfield 30, 3) := by decide +kernel
theorem dX1_lay_65 : decode cX1_lay 65 = .ok (.ifCond .lt 5, 3) := by decide +kernel
theorem dX1_lay_68 : decode cX1_lay 68 = .ok (.iconst (-1), 1) := by decide +kernel
theorem dX1_lay_69 : decode cX1_lay 69 = .ok (.ireturn, 1) := by decide +kernel
theorem dX1_lay_70 : decode cX1_lay 70 = .ok (.iconst 0, 1) := by decide +kernel
theorem dX1_lay_71 : decode cX1_lay 71 = .ok (.istore_n 1, 1) := by decide +kernel
theorem dX1_lay_72 : decode cX1_lay 72 = .ok (.iload_n 1, 1) := by decide +kernel
theorem dX1_lay_73 : decode cX1_lay 73 = .ok (.aload_n 0, 1) := by decide +kernel
theorem dX1_lay_74 : decode cX1_lay 74 = .ok (.getfield 33, 3) := by decide +kernel
theorem dX1_lay_77 : decode cX1_lay 77 = .ok (.if_icmp .ge 16, 3) := by decide +kernel
theorem dX1_lay_80 : decode cX1_lay 80 = .ok (.aload_n 0, 1) := by decide +kernel
theorem dX1_lay_81 : decode cX1_lay 81 = .ok (.getfield 16, 3) := by decide +kernel
theorem dX1_lay_84 : decode cX1_lay 84 = .ok (.iload_n 1, 1) := by decide +kernel
theorem dX1_lay_85 : decode cX1_lay 85 = .ok (.iconst 0, 1) := by decide +kernel
theorem dX1_lay_86 : decode cX1_lay 86 = .ok (.bastore, 1) := by decide +kernel
theorem dX1_lay_87 : decode cX1_lay 87 = .ok (.iinc 1 1, 3) := by decide +kernel
theorem dX1_lay_90 : decode cX1_lay 90 = .ok (.goto (-18), 3) := by decide +kernel
theorem dX1_lay_93 : decode cX1_lay 93 = .ok (.iconst 1, 1) := by decide +kernel
theorem dX1_lay_94 : decode cX1_lay 94 = .ok (.istore_n 1, 1) := by decide +kernel
theorem dX1_lay_95 : decode cX1_lay 95 = .ok (.iload_n 1, 1) := by decide +kernel
theorem dX1_lay_96 : decode cX1_lay 96 = .ok (.ifCond .eq 58, 3) := by decide +kernel
theorem dX1_lay_99 : decode cX1_lay 99 = .ok (.aload_n 0, 1) := by decide +kernel
theorem dX1_lay_100 : decode cX1_lay 100 = .ok (.invokevirtual 48, 3) := by decide +kernel
theorem dX1_lay_103 : decode cX1_lay 103 = .ok (.iconst 0, 1) := by decide +kernel
theorem dX1_lay_104 : decode cX1_lay 104 = .ok (.istore_n 1, 1) := by decide +kernel
theorem dX1_lay_105 : decode cX1_lay 105 = .ok (.iconst 0, 1) := by decide +kernel
theorem dX1_lay_106 : decode cX1_lay 106 = .ok (.istore_n 2, 1) := by decide +kernel
theorem dX1_lay_107 : decode cX1_lay 107 = .ok (.iload_n 2, 1) := by decide +kernel
theorem dX1_lay_108 : decode cX1_lay 108 = .ok (.aload_n 0, 1) := by decide +kernel
theorem dX1_lay_109 : decode cX1_lay 109 = .ok (.getfield 33, 3) := by decide +kernel
theorem dX1_lay_112 : decode cX1_lay 112 = .ok (.if_icmp .ge 39, 3) := by decide +kernel
theorem dX1_lay_115 : decode cX1_lay 115 = .ok (.aload_n 0, 1) := by decide +kernel
theorem dX1_lay_116 : decode cX1_lay 116 = .ok (.getfield 9, 3) := by decide +kernel
theorem dX1_lay_119 : decode cX1_lay 119 = .ok (.iload_n 2, 1) := by decide +kernel
theorem dX1_lay_120 : decode cX1_lay 120 = .ok (.iaload, 1) := by decide +kernel
theorem dX1_lay_121 : decode cX1_lay 121 = .ok (.iconst 2, 1) := by decide +kernel
theorem dX1_lay_122 : decode cX1_lay 122 = .ok (.if_icmp .ne 23, 3) := by decide +kernel
theorem dX1_lay_125 : decode cX1_lay 125 = .ok (.aload_n 0, 1) := by decide +kernel
theorem dX1_lay_126 : decode cX1_lay 126 = .ok (.iload_n 2, 1) := by decide +kernel
theorem dX1_lay_127 : decode cX1_lay 127 = .ok (.invokevirtual 51, 3) := by decide +kernel
theorem dX1_lay_130 : decode cX1_lay 130 = .ok (.ifCond .eq 6, 3) := by decide +kernel
theorem dX1_lay_133 : decode cX1_lay 133 = .ok (.goto 12, 3) := by decide +kernel
theorem dX1_lay_136 : decode cX1_lay 136 = .ok (.aload_n 0, 1) := by decide +kernel
theorem dX1_lay_137 : decode cX1_lay 137 = .ok (.getfield 16, 3) := by decide +kernel
theorem dX1_lay_140 : decode cX1_lay 140 = .ok (.iload_n 2, 1) := by decide +kernel
theorem dX1_lay_141 : decode cX1_lay 141 = .ok (.iconst 1, 1) := by decide +kernel
theorem dX1_lay_142 : decode cX1_lay 142 = .ok (.bastore, 1) := by decide +kernel
theorem dX1_lay_143 : decode cX1_lay 143 = .ok (.iconst 1, 1) := by decide +kernel
theorem dX1_lay_144 : decode cX1_lay 144 = .ok (.istore_n 1, 1) := by decide +kernel
theorem dX1_lay_145 : decode cX1_lay 145 = .ok (.iinc 2 1, 3) := by decide +kernel
theorem dX1_lay_148 : decode cX1_lay 148 = .ok (.goto (-41), 3) := by decide +kernel
theorem dX1_lay_151 : decode cX1_lay 151 = .ok (.goto (-56), 3) := by decide +kernel
theorem dX1_lay_154 : decode cX1_lay 154 = .ok (.aload_n 0, 1) := by decide +kernel
theorem dX1_lay_155 : decode cX1_lay 155 = .ok (.iconst 1, 1) := by decide +kernel
theorem dX1_lay_156 : decode cX1_lay 156 = .ok (.putfield 36, 3) := by decide +kernel
theorem dX1_lay_159 : decode cX1_lay 159 = .ok (.aload_n 0, 1) := by decide +kernel
theorem dX1_lay_160 : decode cX1_lay 160 = .ok (.getfield 20, 3) := by decide +kernel
theorem dX1_lay_163 : decode cX1_lay 163 = .ok (.aload_n 0, 1) := by decide +kernel
theorem dX1_lay_164 : decode cX1_lay 164 = .ok (.getfield 33, 3) := by decide +kernel
theorem dX1_lay_167 : decode cX1_lay 167 = .ok (.iaload, 1) := by decide +kernel
theorem dX1_lay_168 : decode cX1_lay 168 = .ok (.ireturn, 1) := by decide +kernel
theorem dX1_least_0 : decode cX1_least 0 = .ok (.aload_n 0, 1) := by decide +kernel
theorem dX1_least_1 : decode cX1_least 1 = .ok (.getfield 30, 3) := by decide +kernel
theorem dX1_least_4 : decode cX1_least 4 = .ok (.ireturn, 1) := by decide +kernel
theorem dX1_place_0 : decode cX1_place 0 = .ok (.aload_n 0, 1) := by decide +kernel
theorem dX1_place_1 : decode cX1_place 1 = .ok (.getfield 36, 3) := by decide +kernel
theorem dX1_place_4 : decode cX1_place 4 = .ok (.ifCond .eq 24, 3) := by decide +kernel
theorem dX1_place_7 : decode cX1_place 7 = .ok (.iload_n 1, 1) := by decide +kernel
theorem dX1_place_8 : decode cX1_place 8 = .ok (.ifCond .lt 20, 3) := by decide +kernel
theorem dX1_place_11 : decode cX1_place 11 = .ok (.iload_n 1, 1) := by decide +kernel
theorem dX1_place_12 : decode cX1_place 12 = .ok (.aload_n 0, 1) := by decide +kernel
theorem dX1_place_13 : decode cX1_place 13 = .ok (.getfield 33, 3) := by decide +kernel
theorem dX1_place_16 : decode cX1_place 16 = .ok (.if_icmp .ge 12, 3) := by decide +kernel
theorem dX1_place_19 : decode cX1_place 19 = .ok (.aload_n 0, 1) := by decide +kernel
theorem dX1_place_20 : decode cX1_place 20 = .ok (.getfield 20, 3) := by decide +kernel
theorem dX1_place_23 : decode cX1_place 23 = .ok (.iload_n 1, 1) := by decide +kernel
theorem dX1_place_24 : decode cX1_place 24 = .ok (.iaload, 1) := by decide +kernel
theorem dX1_place_25 : decode cX1_place 25 = .ok (.goto 4, 3) := by decide +kernel
theorem dX1_place_28 : decode cX1_place 28 = .ok (.iconst (-1), 1) := by decide +kernel
theorem dX1_place_29 : decode cX1_place 29 = .ok (.ireturn, 1) := by decide +kernel
theorem dX1_isLong_0 : decode cX1_isLong 0 = .ok (.aload_n 0, 1) := by decide +kernel
theorem dX1_isLong_1 : decode cX1_isLong 1 = .ok (.getfield 36, 3) := by decide +kernel
theorem dX1_isLong_4 : decode cX1_isLong 4 = .ok (.ifCond .eq 38, 3) := by decide +kernel
theorem dX1_isLong_7 : decode cX1_isLong 7 = .ok (.iload_n 1, 1) := by decide +kernel
theorem dX1_isLong_8 : decode cX1_isLong 8 = .ok (.ifCond .lt 34, 3) := by decide +kernel
theorem dX1_isLong_11 : decode cX1_isLong 11 = .ok (.iload_n 1, 1) := by decide +kernel
theorem dX1_isLong_12 : decode cX1_isLong 12 = .ok (.aload_n 0, 1) := by decide +kernel
theorem dX1_isLong_13 : decode cX1_isLong 13 = .ok (.getfield 33, 3) := by decide +kernel
theorem dX1_isLong_16 : decode cX1_isLong 16 = .ok (.if_icmp .ge 26, 3) := by decide +kernel
theorem dX1_isLong_19 : decode cX1_isLong 19 = .ok (.aload_n 0, 1) := by decide +kernel
theorem dX1_isLong_20 : decode cX1_isLong 20 = .ok (.getfield 9, 3) := by decide +kernel
theorem dX1_isLong_23 : decode cX1_isLong 23 = .ok (.iload_n 1, 1) := by decide +kernel
theorem dX1_isLong_24 : decode cX1_isLong 24 = .ok (.iaload, 1) := by decide +kernel
theorem dX1_isLong_25 : decode cX1_isLong 25 = .ok (.iconst 2, 1) := by decide +kernel
theorem dX1_isLong_26 : decode cX1_isLong 26 = .ok (.if_icmp .ne 16, 3) := by decide +kernel
theorem dX1_isLong_29 : decode cX1_isLong 29 = .ok (.aload_n 0, 1) := by decide +kernel
theorem dX1_isLong_30 : decode cX1_isLong 30 = .ok (.getfield 16, 3) := by decide +kernel
theorem dX1_isLong_33 : decode cX1_isLong 33 = .ok (.iload_n 1, 1) := by decide +kernel
theorem dX1_isLong_34 : decode cX1_isLong 34 = .ok (.baload, 1) := by decide +kernel
theorem dX1_isLong_35 : decode cX1_isLong 35 = .ok (.ifCond .eq 7, 3) := by decide +kernel
theorem dX1_isLong_38 : decode cX1_isLong 38 = .ok (.iconst 1, 1) := by decide +kernel
theorem dX1_isLong_39 : decode cX1_isLong 39 = .ok (.goto 4, 3) := by decide +kernel
theorem dX1_isLong_42 : decode cX1_isLong 42 = .ok (.iconst 0, 1) := by decide +kernel
theorem dX1_isLong_43 : decode cX1_isLong 43 = .ok (.ireturn, 1) := by decide +kernel
theorem dX1_longs_0 : decode cX1_longs 0 = .ok (.aload_n 0, 1) := by decide +kernel
theorem dX1_longs_1 : decode cX1_longs 1 = .ok (.getfield 36, 3) := by decide +kernel
theorem dX1_longs_4 : decode cX1_longs 4 = .ok (.ifCond .ne 5, 3) := by decide +kernel
theorem dX1_longs_7 : decode cX1_longs 7 = .ok (.iconst (-1), 1) := by decide +kernel
theorem dX1_longs_8 : decode cX1_longs 8 = .ok (.ireturn, 1) := by decide +kernel
theorem dX1_longs_9 : decode cX1_longs 9 = .ok (.iconst 0, 1) := by decide +kernel
theorem dX1_longs_10 : decode cX1_longs 10 = .ok (.istore_n 1, 1) := by decide +kernel
theorem dX1_longs_11 : decode cX1_longs 11 = .ok (.iconst 0, 1) := by decide +kernel
theorem dX1_longs_12 : decode cX1_longs 12 = .ok (.istore_n 2, 1) := by decide +kernel
theorem dX1_longs_13 : decode cX1_longs 13 = .ok (.iload_n 2, 1) := by decide +kernel
theorem dX1_longs_14 : decode cX1_longs 14 = .ok (.aload_n 0, 1) := by decide +kernel
theorem dX1_longs_15 : decode cX1_longs 15 = .ok (.getfield 33, 3) := by decide +kernel
theorem dX1_longs_18 : decode cX1_longs 18 = .ok (.if_icmp .ge 31, 3) := by decide +kernel
theorem dX1_longs_21 : decode cX1_longs 21 = .ok (.aload_n 0, 1) := by decide +kernel
theorem dX1_longs_22 : decode cX1_longs 22 = .ok (.getfield 9, 3) := by decide +kernel
theorem dX1_longs_25 : decode cX1_longs 25 = .ok (.iload_n 2, 1) := by decide +kernel
theorem dX1_longs_26 : decode cX1_longs 26 = .ok (.iaload, 1) := by decide +kernel
theorem dX1_longs_27 : decode cX1_longs 27 = .ok (.iconst 2, 1) := by decide +kernel
theorem dX1_longs_28 : decode cX1_longs 28 = .ok (.if_icmp .ne 15, 3) := by decide +kernel
theorem dX1_longs_31 : decode cX1_longs 31 = .ok (.aload_n 0, 1) := by decide +kernel
theorem dX1_longs_32 : decode cX1_longs 32 = .ok (.getfield 16, 3) := by decide +kernel
theorem dX1_longs_35 : decode cX1_longs 35 = .ok (.iload_n 2, 1) := by decide +kernel
theorem dX1_longs_36 : decode cX1_longs 36 = .ok (.baload, 1) := by decide +kernel
theorem dX1_longs_37 : decode cX1_longs 37 = .ok (.ifCond .eq 6, 3) := by decide +kernel
theorem dX1_longs_40 : decode cX1_longs 40 = .ok (.iinc 1 1, 3) := by decide +kernel
theorem dX1_longs_43 : decode cX1_longs 43 = .ok (.iinc 2 1, 3) := by decide +kernel
theorem dX1_longs_46 : decode cX1_longs 46 = .ok (.goto (-33), 3) := by decide +kernel
theorem dX1_longs_49 : decode cX1_longs 49 = .ok (.iload_n 1, 1) := by decide +kernel
theorem dX1_longs_50 : decode cX1_longs 50 = .ok (.ireturn, 1) := by decide +kernel
theorem dX1_clear_0 : decode cX1_clear 0 = .ok (.aload_n 0, 1) := by decide +kernel
theorem dX1_clear_1 : decode cX1_clear 1 = .ok (.iconst 0, 1) := by decide +kernel
theorem dX1_clear_2 : decode cX1_clear 2 = .ok (.putfield 33, 3) := by decide +kernel
theorem dX1_clear_5 : decode cX1_clear 5 = .ok (.aload_n 0, 1) := by decide +kernel
theorem dX1_clear_6 : decode cX1_clear 6 = .ok (.iconst 0, 1) := by decide +kernel
theorem dX1_clear_7 : decode cX1_clear 7 = .ok (.putfield 44, 3) := by decide +kernel
theorem dX1_clear_10 : decode cX1_clear 10 = .ok (.aload_n 0, 1) := by decide +kernel
theorem dX1_clear_11 : decode cX1_clear 11 = .ok (.iconst 0, 1) := by decide +kernel
theorem dX1_clear_12 : decode cX1_clear 12 = .ok (.putfield 36, 3) := by decide +kernel
theorem dX1_clear_15 : decode cX1_clear 15 = .ok (.return_, 1) := by decide +kernel
theorem dX1_items_0 : decode cX1_items 0 = .ok (.aload_n 0, 1) := by decide +kernel
theorem dX1_items_1 : decode cX1_items 1 = .ok (.getfield 33, 3) := by decide +kernel
theorem dX1_items_4 : decode cX1_items 4 = .ok (.ireturn, 1) := by decide +kernel
theorem dX1_marks_0 : decode cX1_marks 0 = .ok (.aload_n 0, 1) := by decide +kernel
theorem dX1_marks_1 : decode cX1_marks 1 = .ok (.getfield 44, 3) := by decide +kernel
theorem dX1_marks_4 : decode cX1_marks 4 = .ok (.ireturn, 1) := by decide +kernel
set_option maxRecDepth 20000 in
theorem ggL_law_X0_init : GoodIn wsL_law wsX0_init := goodIn_r _ [8, 9, 10, 11, 12, 13, 14, 15, 16, 17, 18, 19, 20, 21, 22, 188, 189, 190, 191, 192, 193, 194, 195, 196, 197] (by decide +kernel) (by decide +kernel)
set_option maxRecDepth 20000 in
theorem gL_law_X0_init : GoodIn wsL_law (wsX0_init) := ggL_law_X0_init
set_option maxRecDepth 20000 in
theorem ggL_law_X1_init : GoodIn wsL_law wsX1_init := goodIn_r _ [25, 26, 10, 11, 12, 27, 28, 29, 30, 31, 32, 33, 34, 198, 199, 200, 201, 202, 203, 204, 205, 206, 207] (by decide +kernel) (by decide +kernel)
set_option maxRecDepth 20000 in
theorem gL_law_X1_init : GoodIn wsL_law (wsX1_init) := ggL_law_X1_init
set_option maxRecDepth 20000 in
theorem ggL_law_X0_stretch : GoodIn wsL_law wsX0_stretch := goodIn_r _ [38, 39, 40, 41, 2, 42, 17, 13, 14, 22, 188, 189, 190, 191, 192, 193, 194, 195, 196, 197] (by decide +kernel) (by decide +kernel)
set_option maxRecDepth 20000 in
theorem gL_law_X0_stretch : GoodIn wsL_law (wsV RL 13 RX0 yX0_stretch wsX0_stretch) := goodIn_app (goodIn_of _ (by decide +kernel)) ggL_law_X0_stretch
set_option maxRecDepth 20000 in
theorem ggL_law_X1_stretch : GoodIn wsL_law wsX1_stretch := goodIn_r _ [46, 47, 48, 49, 5, 50, 51, 27, 28, 52, 198, 199, 200, 201, 202, 203, 204, 205, 206, 207] (by decide +kernel) (by decide +kernel)
set_option maxRecDepth 20000 in
theorem gL_law_X1_stretch : GoodIn wsL_law (wsV RL 17 RX1 yX1_stretch wsX1_stretch) := goodIn_app (goodIn_of _ (by decide +kernel)) ggL_law_X1_stretch
set_option maxRecDepth 20000 in
theorem ggL_law_X0_mark : GoodIn wsL_law wsX0_mark := goodIn_r _ [56, 18, 16, 39, 40, 41, 2, 42, 17, 13, 14, 22, 188, 189, 190, 191, 192, 193, 194, 195, 196, 197] (by decide +kernel) (by decide +kernel)
set_option maxRecDepth 20000 in
theorem gL_law_X0_mark : GoodIn wsL_law (wsV RL 18 RX0 yX0_mark wsX0_mark) := goodIn_app (goodIn_of _ (by decide +kernel)) ggL_law_X0_mark
set_option maxRecDepth 20000 in
theorem ggL_law_X1_mark : GoodIn wsL_law wsX1_mark := goodIn_r _ [60, 32, 61, 47, 48, 49, 5, 50, 51, 27, 28, 52, 198, 199, 200, 201, 202, 203, 204, 205, 206, 207] (by decide +kernel) (by decide +kernel)
set_option maxRecDepth 20000 in
theorem gL_law_X1_mark : GoodIn wsL_law (wsV RL 22 RX1 yX1_mark wsX1_mark) := goodIn_app (goodIn_of _ (by decide +kernel)) ggL_law_X1_mark
set_option maxRecDepth 20000 in
theorem ggL_law_X0_branch : GoodIn wsL_law wsX0_branch := goodIn_r _ [65, 39, 40, 41, 2, 42, 17, 13, 14, 22, 188, 189, 190, 191, 192, 193, 194, 195, 196, 197] (by decide +kernel) (by decide +kernel)
set_option maxRecDepth 20000 in
theorem gL_law_X0_branch : GoodIn wsL_law (wsV RL 23 RX0 yX0_branch wsX0_branch) := goodIn_app (goodIn_of _ (by decide +kernel)) ggL_law_X0_branch
set_option maxRecDepth 20000 in
theorem ggL_law_X1_branch : GoodIn wsL_law wsX1_branch := goodIn_r _ [69, 47, 48, 49, 5, 50, 51, 27, 28, 52, 198, 199, 200, 201, 202, 203, 204, 205, 206, 207] (by decide +kernel) (by decide +kernel)
set_option maxRecDepth 20000 in
theorem gL_law_X1_branch : GoodIn wsL_law (wsV RL 26 RX1 yX1_branch wsX1_branch) := goodIn_app (goodIn_of _ (by decide +kernel)) ggL_law_X1_branch
set_option maxRecDepth 20000 in
theorem ggL_law_X0_reach : GoodIn wsL_law wsX0_reach := goodIn_r _ [73, 74, 20, 22, 188, 189, 190, 191, 192, 193, 194, 195, 196, 197] (by decide +kernel) (by decide +kernel)
set_option maxRecDepth 20000 in
theorem gL_law_X0_reach : GoodIn wsL_law (wsV RL 27 RX0 yX0_reach wsX0_reach) := goodIn_app (goodIn_of _ (by decide +kernel)) ggL_law_X0_reach
set_option maxRecDepth 20000 in
theorem ggL_law_X1_reach : GoodIn wsL_law wsX1_reach := goodIn_r _ [78, 79, 33, 52, 198, 199, 200, 201, 202, 203, 204, 205, 206, 207] (by decide +kernel) (by decide +kernel)
set_option maxRecDepth 20000 in
theorem gL_law_X1_reach : GoodIn wsL_law (wsV RL 31 RX1 yX1_reach wsX1_reach) := goodIn_app (goodIn_of _ (by decide +kernel)) ggL_law_X1_reach
set_option maxRecDepth 20000 in
theorem ggL_law_X0_lay : GoodIn wsL_law wsX0_lay := goodIn_r _ [83, 21, 22, 17, 19, 84, 85, 86, 2, 87, 14, 88, 89, 90, 91, 92, 93, 94, 95, 18, 96, 97, 98, 99, 13, 100, 101, 102, 103, 15, 104, 105, 106, 107, 108, 109, 110, 111, 16, 20, 112, 113, 114, 115, 188, 189, 190, 191, 192, 193, 194, 195, 196, 197] (by decide +kernel) (by decide +kernel)
set_option maxRecDepth 20000 in
theorem gL_law_X0_lay : GoodIn wsL_law (wsV RL 32 RX0 yX0_lay wsX0_lay) := goodIn_app (goodIn_of _ (by decide +kernel)) ggL_law_X0_lay
set_option maxRecDepth 20000 in
theorem ggL_law_X1_lay : GoodIn wsL_law wsX1_lay := goodIn_r _ [119, 52, 34, 51, 27, 28, 61, 30, 31, 120, 121, 122, 5, 123, 124, 125, 126, 127, 32, 33, 198, 199, 200, 201, 202, 203, 204, 205, 206, 207] (by decide +kernel) (by decide +kernel)
set_option maxRecDepth 20000 in
theorem gL_law_X1_lay : GoodIn wsL_law (wsV RL 35 RX1 yX1_lay wsX1_lay) := goodIn_app (goodIn_of _ (by decide +kernel)) ggL_law_X1_lay
set_option maxRecDepth 20000 in
theorem ggL_law_X0_least : GoodIn wsL_law wsX0_least := goodIn_r _ [131, 21, 188, 189, 190, 191, 192, 193, 194, 195, 196, 197] (by decide +kernel) (by decide +kernel)
set_option maxRecDepth 20000 in
theorem gL_law_X0_least : GoodIn wsL_law (wsV RL 36 RX0 yX0_least wsX0_least) := goodIn_app (goodIn_of _ (by decide +kernel)) ggL_law_X0_least
set_option maxRecDepth 20000 in
theorem ggL_law_X1_least : GoodIn wsL_law wsX1_least := goodIn_r _ [135, 34, 198, 199, 200, 201, 202, 203, 204, 205, 206, 207] (by decide +kernel) (by decide +kernel)
set_option maxRecDepth 20000 in
theorem gL_law_X1_least : GoodIn wsL_law (wsV RL 39 RX1 yX1_least wsX1_least) := goodIn_app (goodIn_of _ (by decide +kernel)) ggL_law_X1_least
set_option maxRecDepth 20000 in
theorem ggL_law_X0_place : GoodIn wsL_law wsX0_place := goodIn_r _ [139, 15, 140, 141, 142, 2, 143, 22, 112, 113, 114, 115, 17, 188, 189, 190, 191, 192, 193, 194, 195, 196, 197] (by decide +kernel) (by decide +kernel)
set_option maxRecDepth 20000 in
theorem gL_law_X0_place : GoodIn wsL_law (wsV RL 40 RX0 yX0_place wsX0_place) := goodIn_app (goodIn_of _ (by decide +kernel)) ggL_law_X0_place
set_option maxRecDepth 20000 in
theorem ggL_law_X1_place : GoodIn wsL_law wsX1_place := goodIn_r _ [147, 52, 51, 31, 198, 199, 200, 201, 202, 203, 204, 205, 206, 207] (by decide +kernel) (by decide +kernel)
set_option maxRecDepth 20000 in
theorem gL_law_X1_place : GoodIn wsL_law (wsV RL 43 RX1 yX1_place wsX1_place) := goodIn_app (goodIn_of _ (by decide +kernel)) ggL_law_X1_place
set_option maxRecDepth 20000 in
theorem ggL_law_X0_isLong : GoodIn wsL_law wsX0_isLong := goodIn_r _ [151, 13, 140, 141, 142, 2, 143, 22, 112, 113, 114, 115, 17, 88, 89, 90, 91, 14, 188, 189, 190, 191, 192, 193, 194, 195, 196, 197] (by decide +kernel) (by decide +kernel)
set_option maxRecDepth 20000 in
theorem gL_law_X0_isLong : GoodIn wsL_law (wsV RL 44 RX0 yX0_isLong wsX0_isLong) := goodIn_app (goodIn_of _ (by decide +kernel)) ggL_law_X0_isLong
set_option maxRecDepth 20000 in
theorem ggL_law_X1_isLong : GoodIn wsL_law wsX1_isLong := goodIn_r _ [155, 52, 51, 27, 30, 198, 199, 200, 201, 202, 203, 204, 205, 206, 207] (by decide +kernel) (by decide +kernel)
set_option maxRecDepth 20000 in
theorem gL_law_X1_isLong : GoodIn wsL_law (wsV RL 47 RX1 yX1_isLong wsX1_isLong) := goodIn_app (goodIn_of _ (by decide +kernel)) ggL_law_X1_isLong
set_option maxRecDepth 20000 in
theorem ggL_law_X0_longs : GoodIn wsL_law wsX0_longs := goodIn_r _ [159, 22, 19, 188, 189, 190, 191, 192, 193, 194, 195, 196, 197] (by decide +kernel) (by decide +kernel)
set_option maxRecDepth 20000 in
theorem gL_law_X0_longs : GoodIn wsL_law (wsV RL 48 RX0 yX0_longs wsX0_longs) := goodIn_app (goodIn_of _ (by decide +kernel)) ggL_law_X0_longs
set_option maxRecDepth 20000 in
theorem ggL_law_X1_longs : GoodIn wsL_law wsX1_longs := goodIn_r _ [163, 52, 51, 27, 30, 198, 199, 200, 201, 202, 203, 204, 205, 206, 207] (by decide +kernel) (by decide +kernel)
set_option maxRecDepth 20000 in
theorem gL_law_X1_longs : GoodIn wsL_law (wsV RL 51 RX1 yX1_longs wsX1_longs) := goodIn_app (goodIn_of _ (by decide +kernel)) ggL_law_X1_longs
set_option maxRecDepth 20000 in
theorem ggL_law_X0_clear : GoodIn wsL_law wsX0_clear := goodIn_r _ [167, 17, 18, 22, 188, 189, 190, 191, 192, 193, 194, 195, 196, 197] (by decide +kernel) (by decide +kernel)
set_option maxRecDepth 20000 in
theorem gL_law_X0_clear : GoodIn wsL_law (wsV RL 52 RX0 yX0_clear wsX0_clear) := goodIn_app (goodIn_of _ (by decide +kernel)) ggL_law_X0_clear
set_option maxRecDepth 20000 in
theorem ggL_law_X1_clear : GoodIn wsL_law wsX1_clear := goodIn_r _ [171, 51, 61, 52, 198, 199, 200, 201, 202, 203, 204, 205, 206, 207] (by decide +kernel) (by decide +kernel)
set_option maxRecDepth 20000 in
theorem gL_law_X1_clear : GoodIn wsL_law (wsV RL 55 RX1 yX1_clear wsX1_clear) := goodIn_app (goodIn_of _ (by decide +kernel)) ggL_law_X1_clear
set_option maxRecDepth 20000 in
theorem ggL_law_X0_items : GoodIn wsL_law wsX0_items := goodIn_r _ [175, 17, 188, 189, 190, 191, 192, 193, 194, 195, 196, 197] (by decide +kernel) (by decide +kernel)
set_option maxRecDepth 20000 in
theorem gL_law_X0_items : GoodIn wsL_law (wsV RL 56 RX0 yX0_items wsX0_items) := goodIn_app (goodIn_of _ (by decide +kernel)) ggL_law_X0_items
set_option maxRecDepth 20000 in
theorem ggL_law_X1_items : GoodIn wsL_law wsX1_items := goodIn_r _ [179, 51, 198, 199, 200, 201, 202, 203, 204, 205, 206, 207] (by decide +kernel) (by decide +kernel)
set_option maxRecDepth 20000 in
theorem gL_law_X1_items : GoodIn wsL_law (wsV RL 59 RX1 yX1_items wsX1_items) := goodIn_app (goodIn_of _ (by decide +kernel)) ggL_law_X1_items
set_option maxRecDepth 20000 in
theorem ggL_law_X0_marks : GoodIn wsL_law wsX0_marks := goodIn_r _ [183, 18, 188, 189, 190, 191, 192, 193, 194, 195, 196, 197] (by decide +kernel) (by decide +kernel)
set_option maxRecDepth 20000 in
theorem gL_law_X0_marks : GoodIn wsL_law (wsV RL 60 RX0 yX0_marks wsX0_marks) := goodIn_app (goodIn_of _ (by decide +kernel)) ggL_law_X0_marks
set_option maxRecDepth 20000 in
theorem ggL_law_X1_marks : GoodIn wsL_law wsX1_marks := goodIn_r _ [187, 61, 198, 199, 200, 201, 202, 203, 204, 205, 206, 207] (by decide +kernel) (by decide +kernel)
set_option maxRecDepth 20000 in
theorem gL_law_X1_marks : GoodIn wsL_law (wsV RL 63 RX1 yX1_marks wsX1_marks) := goodIn_app (goodIn_of _ (by decide +kernel)) ggL_law_X1_marks
theorem dL_law_0 : decode cL_law 0 = .ok (.new 7, 3) := by decide +kernel
theorem dL_law_3 : decode cL_law 3 = .ok (.dup, 1) := by decide +kernel
theorem dL_law_4 : decode cL_law 4 = .ok (.invokespecial 9, 3) := by decide +kernel
theorem dL_law_7 : decode cL_law 7 = .ok (.astore_n 1, 1) := by decide +kernel
theorem dL_law_8 : decode cL_law 8 = .ok (.new 10, 3) := by decide +kernel
theorem dL_law_11 : decode cL_law 11 = .ok (.dup, 1) := by decide +kernel
theorem dL_law_12 : decode cL_law 12 = .ok (.invokespecial 12, 3) := by decide +kernel
theorem dL_law_15 : decode cL_law 15 = .ok (.astore_n 2, 1) := by decide +kernel
theorem dL_law_16 : decode cL_law 16 = .ok (.iconst 0, 1) := by decide +kernel
theorem dL_law_17 : decode cL_law 17 = .ok (.istore_n 3, 1) := by decide +kernel
theorem dL_law_18 : decode cL_law 18 = .ok (.iload_n 3, 1) := by decide +kernel
theorem dL_law_19 : decode cL_law 19 = .ok (.aload_n 0, 1) := by decide +kernel
theorem dL_law_20 : decode cL_law 20 = .ok (.arraylength, 1) := by decide +kernel
theorem dL_law_21 : decode cL_law 21 = .ok (.iconst 2, 1) := by decide +kernel
theorem dL_law_22 : decode cL_law 22 = .ok (.isub, 1) := by decide +kernel
theorem dL_law_23 : decode cL_law 23 = .ok (.if_icmp .gt 283, 3) := by decide +kernel
theorem dL_law_26 : decode cL_law 26 = .ok (.aload_n 0, 1) := by decide +kernel
theorem dL_law_27 : decode cL_law 27 = .ok (.iload_n 3, 1) := by decide +kernel
theorem dL_law_28 : decode cL_law 28 = .ok (.iaload, 1) := by decide +kernel
theorem dL_law_29 : decode cL_law 29 = .ok (.bipush 15, 2) := by decide +kernel
theorem dL_law_31 : decode cL_law 31 = .ok (.iand, 1) := by decide +kernel
theorem dL_law_32 : decode cL_law 32 = .ok (.tableswitch 268 0 11 #[64, 87, 100, 123, 146, 159, 172, 195, 218, 231, 242, 255], 64) := by decide +kernel
theorem dL_law_96 : decode cL_law 96 = .ok (.aload_n 1, 1) := by decide +kernel
theorem dL_law_97 : decode cL_law 97 = .ok (.aload_n 0, 1) := by decide +kernel
theorem dL_law_98 : decode cL_law 98 = .ok (.iload_n 3, 1) := by decide +kernel
theorem dL_law_99 : decode cL_law 99 = .ok (.iconst 1, 1) := by decide +kernel
theorem dL_law_100 : decode cL_law 100 = .ok (.iadd, 1) := by decide +kernel
theorem dL_law_101 : decode cL_law 101 = .ok (.iaload, 1) := by decide +kernel
theorem dL_law_102 : decode cL_law 102 = .ok (.invokevirtual 13, 3) := by decide +kernel
theorem dL_law_105 : decode cL_law 105 = .ok (.aload_n 2, 1) := by decide +kernel
theorem dL_law_106 : decode cL_law 106 = .ok (.aload_n 0, 1) := by decide +kernel
theorem dL_law_107 : decode cL_law 107 = .ok (.iload_n 3, 1) := by decide +kernel
theorem dL_law_108 : decode cL_law 108 = .ok (.iconst 1, 1) := by decide +kernel
theorem dL_law_109 : decode cL_law 109 = .ok (.iadd, 1) := by decide +kernel
theorem dL_law_110 : decode cL_law 110 = .ok (.iaload, 1) := by decide +kernel
theorem dL_law_111 : decode cL_law 111 = .ok (.invokevirtual 17, 3) := by decide +kernel
theorem dL_law_114 : decode cL_law 114 = .ok (.if_icmp .eq 186, 3) := by decide +kernel
theorem dL_law_117 : decode cL_law 117 = .ok (.iconst 0, 1) := by decide +kernel
theorem dL_law_118 : decode cL_law 118 = .ok (.ireturn, 1) := by decide +kernel
theorem dL_law_119 : decode cL_law 119 = .ok (.aload_n 1, 1) := by decide +kernel
theorem dL_law_120 : decode cL_law 120 = .ok (.invokevirtual 18, 3) := by decide +kernel
theorem dL_law_123 : decode cL_law 123 = .ok (.aload_n 2, 1) := by decide +kernel
theorem dL_law_124 : decode cL_law 124 = .ok (.invokevirtual 22, 3) := by decide +kernel
theorem dL_law_127 : decode cL_law 127 = .ok (.if_icmp .eq 173, 3) := by decide +kernel
theorem dL_law_130 : decode cL_law 130 = .ok (.iconst 0, 1) := by decide +kernel
theorem dL_law_131 : decode cL_law 131 = .ok (.ireturn, 1) := by decide +kernel
theorem dL_law_132 : decode cL_law 132 = .ok (.aload_n 1, 1) := by decide +kernel
theorem dL_law_133 : decode cL_law 133 = .ok (.aload_n 0, 1) := by decide +kernel
theorem dL_law_134 : decode cL_law 134 = .ok (.iload_n 3, 1) := by decide +kernel
theorem dL_law_135 : decode cL_law 135 = .ok (.iconst 1, 1) := by decide +kernel
theorem dL_law_136 : decode cL_law 136 = .ok (.iadd, 1) := by decide +kernel
theorem dL_law_137 : decode cL_law 137 = .ok (.iaload, 1) := by decide +kernel
theorem dL_law_138 : decode cL_law 138 = .ok (.invokevirtual 23, 3) := by decide +kernel
theorem dL_law_141 : decode cL_law 141 = .ok (.aload_n 2, 1) := by decide +kernel
theorem dL_law_142 : decode cL_law 142 = .ok (.aload_n 0, 1) := by decide +kernel
theorem dL_law_143 : decode cL_law 143 = .ok (.iload_n 3, 1) := by decide +kernel
theorem dL_law_144 : decode cL_law 144 = .ok (.iconst 1, 1) := by decide +kernel
theorem dL_law_145 : decode cL_law 145 = .ok (.iadd, 1) := by decide +kernel
theorem dL_law_146 : decode cL_law 146 = .ok (.iaload, 1) := by decide +kernel
theorem dL_law_147 : decode cL_law 147 = .ok (.invokevirtual 26, 3) := by decide +kernel
theorem dL_law_150 : decode cL_law 150 = .ok (.if_icmp .eq 150, 3) := by decide +kernel
theorem dL_law_153 : decode cL_law 153 = .ok (.iconst 0, 1) := by decide +kernel
theorem dL_law_154 : decode cL_law 154 = .ok (.ireturn, 1) := by decide +kernel
theorem dL_law_155 : decode cL_law 155 = .ok (.aload_n 1, 1) := by decide +kernel
theorem dL_law_156 : decode cL_law 156 = .ok (.aload_n 0, 1) := by decide +kernel
theorem dL_law_157 : decode cL_law 157 = .ok (.iload_n 3, 1) := by decide +kernel
theorem dL_law_158 : decode cL_law 158 = .ok (.iconst 1, 1) := by decide +kernel
theorem dL_law_159 : decode cL_law 159 = .ok (.iadd, 1) := by decide +kernel
theorem dL_law_160 : decode cL_law 160 = .ok (.iaload, 1) := by decide +kernel
theorem dL_law_161 : decode cL_law 161 = .ok (.invokevirtual 27, 3) := by decide +kernel
theorem dL_law_164 : decode cL_law 164 = .ok (.aload_n 2, 1) := by decide +kernel
theorem dL_law_165 : decode cL_law 165 = .ok (.aload_n 0, 1) := by decide +kernel
theorem dL_law_166 : decode cL_law 166 = .ok (.iload_n 3, 1) := by decide +kernel
theorem dL_law_167 : decode cL_law 167 = .ok (.iconst 1, 1) := by decide +kernel
theorem dL_law_168 : decode cL_law 168 = .ok (.iadd, 1) := by decide +kernel
theorem dL_law_169 : decode cL_law 169 = .ok (.iaload, 1) := by decide +kernel
theorem dL_law_170 : decode cL_law 170 = .ok (.invokevirtual 31, 3) := by decide +kernel
theorem dL_law_173 : decode cL_law 173 = .ok (.if_icmp .eq 127, 3) := by decide +kernel
theorem dL_law_176 : decode cL_law 176 = .ok (.iconst 0, 1) := by decide +kernel
theorem dL_law_177 : decode cL_law 177 = .ok (.ireturn, 1) := by decide +kernel
theorem dL_law_178 : decode cL_law 178 = .ok (.aload_n 1, 1) := by decide +kernel
theorem dL_law_179 : decode cL_law 179 = .ok (.invokevirtual 32, 3) := by decide +kernel
theorem dL_law_182 : decode cL_law 182 = .ok (.aload_n 2, 1) := by decide +kernel
theorem dL_law_183 : decode cL_law 183 = .ok (.invokevirtual 35, 3) := by decide +kernel
theorem dL_law_186 : decode cL_law 186 = .ok (.if_icmp .eq 114, 3) := by decide +kernel
theorem dL_law_189 : decode cL_law 189 = .ok (.iconst 0, 1) := by decide +kernel
theorem dL_law_190 : decode cL_law 190 = .ok (.ireturn, 1) := by decide +kernel
theorem dL_law_191 : decode cL_law 191 = .ok (.aload_n 1, 1) := by decide +kernel
theorem dL_law_192 : decode cL_law 192 = .ok (.invokevirtual 36, 3) := by decide +kernel
theorem dL_law_195 : decode cL_law 195 = .ok (.aload_n 2, 1) := by decide +kernel
theorem dL_law_196 : decode cL_law 196 = .ok (.invokevirtual 39, 3) := by decide +kernel
theorem dL_law_199 : decode cL_law 199 = .ok (.if_icmp .eq 101, 3) := by decide +kernel
theorem dL_law_202 : decode cL_law 202 = .ok (.iconst 0, 1) := by decide +kernel
theorem dL_law_203 : decode cL_law 203 = .ok (.ireturn, 1) := by decide +kernel
theorem dL_law_204 : decode cL_law 204 = .ok (.aload_n 1, 1) := by decide +kernel
theorem dL_law_205 : decode cL_law 205 = .ok (.aload_n 0, 1) := by decide +kernel
theorem dL_law_206 : decode cL_law 206 = .ok (.iload_n 3, 1) := by decide +kernel
theorem dL_law_207 : decode cL_law 207 = .ok (.iconst 1, 1) := by decide +kernel
theorem dL_law_208 : decode cL_law 208 = .ok (.iadd, 1) := by decide +kernel
theorem dL_law_209 : decode cL_law 209 = .ok (.iaload, 1) := by decide +kernel
theorem dL_law_210 : decode cL_law 210 = .ok (.invokevirtual 40, 3) := by decide +kernel
theorem dL_law_213 : decode cL_law 213 = .ok (.aload_n 2, 1) := by decide +kernel
theorem dL_law_214 : decode cL_law 214 = .ok (.aload_n 0, 1) := by decide +kernel
theorem dL_law_215 : decode cL_law 215 = .ok (.iload_n 3, 1) := by decide +kernel
theorem dL_law_216 : decode cL_law 216 = .ok (.iconst 1, 1) := by decide +kernel
theorem dL_law_217 : decode cL_law 217 = .ok (.iadd, 1) := by decide +kernel
theorem dL_law_218 : decode cL_law 218 = .ok (.iaload, 1) := by decide +kernel
theorem dL_law_219 : decode cL_law 219 = .ok (.invokevirtual 43, 3) := by decide +kernel
theorem dL_law_222 : decode cL_law 222 = .ok (.if_icmp .eq 78, 3) := by decide +kernel
theorem dL_law_225 : decode cL_law 225 = .ok (.iconst 0, 1) := by decide +kernel
theorem dL_law_226 : decode cL_law 226 = .ok (.ireturn, 1) := by decide +kernel
theorem dL_law_227 : decode cL_law 227 = .ok (.aload_n 1, 1) := by decide +kernel
theorem dL_law_228 : decode cL_law 228 = .ok (.aload_n 0, 1) := by decide +kernel
theorem dL_law_229 : decode cL_law 229 = .ok (.iload_n 3, 1) := by decide +kernel
theorem dL_law_230 : decode cL_law 230 = .ok (.iconst 1, 1) := by decide +kernel
theorem dL_law_231 : decode cL_law 231 = .ok (.iadd, 1) := by decide +kernel
theorem dL_law_232 : decode cL_law 232 = .ok (.iaload, 1) := by decide +kernel
theorem dL_law_233 : decode cL_law 233 = .ok (.invokevirtual 44, 3) := by decide +kernel
theorem dL_law_236 : decode cL_law 236 = .ok (.aload_n 2, 1) := by decide +kernel
theorem dL_law_237 : decode cL_law 237 = .ok (.aload_n 0, 1) := by decide +kernel
theorem dL_law_238 : decode cL_law 238 = .ok (.iload_n 3, 1) := by decide +kernel
theorem dL_law_239 : decode cL_law 239 = .ok (.iconst 1, 1) := by decide +kernel
theorem dL_law_240 : decode cL_law 240 = .ok (.iadd, 1) := by decide +kernel
theorem dL_law_241 : decode cL_law 241 = .ok (.iaload, 1) := by decide +kernel
theorem dL_law_242 : decode cL_law 242 = .ok (.invokevirtual 47, 3) := by decide +kernel
theorem dL_law_245 : decode cL_law 245 = .ok (.if_icmp .eq 55, 3) := by decide +kernel
theorem dL_law_248 : decode cL_law 248 = .ok (.iconst 0, 1) := by decide +kernel
theorem dL_law_249 : decode cL_law 249 = .ok (.ireturn, 1) := by decide +kernel
theorem dL_law_250 : decode cL_law 250 = .ok (.aload_n 1, 1) := by decide +kernel
theorem dL_law_251 : decode cL_law 251 = .ok (.invokevirtual 48, 3) := by decide +kernel
theorem dL_law_254 : decode cL_law 254 = .ok (.aload_n 2, 1) := by decide +kernel
theorem dL_law_255 : decode cL_law 255 = .ok (.invokevirtual 51, 3) := by decide +kernel
theorem dL_law_258 : decode cL_law 258 = .ok (.if_icmp .eq 42, 3) := by decide +kernel
theorem dL_law_261 : decode cL_law 261 = .ok (.iconst 0, 1) := by decide +kernel
theorem dL_law_262 : decode cL_law 262 = .ok (.ireturn, 1) := by decide +kernel
theorem dL_law_263 : decode cL_law 263 = .ok (.aload_n 1, 1) := by decide +kernel
theorem dL_law_264 : decode cL_law 264 = .ok (.invokevirtual 52, 3) := by decide +kernel
theorem dL_law_267 : decode cL_law 267 = .ok (.aload_n 2, 1) := by decide +kernel
theorem dL_law_268 : decode cL_law 268 = .ok (.invokevirtual 55, 3) := by decide +kernel
theorem dL_law_271 : decode cL_law 271 = .ok (.goto 29, 3) := by decide +kernel
theorem dL_law_274 : decode cL_law 274 = .ok (.aload_n 1, 1) := by decide +kernel
theorem dL_law_275 : decode cL_law 275 = .ok (.invokevirtual 56, 3) := by decide +kernel
theorem dL_law_278 : decode cL_law 278 = .ok (.aload_n 2, 1) := by decide +kernel
theorem dL_law_279 : decode cL_law 279 = .ok (.invokevirtual 59, 3) := by decide +kernel
theorem dL_law_282 : decode cL_law 282 = .ok (.if_icmp .eq 18, 3) := by decide +kernel
theorem dL_law_285 : decode cL_law 285 = .ok (.iconst 0, 1) := by decide +kernel
theorem dL_law_286 : decode cL_law 286 = .ok (.ireturn, 1) := by decide +kernel
theorem dL_law_287 : decode cL_law 287 = .ok (.aload_n 1, 1) := by decide +kernel
theorem dL_law_288 : decode cL_law 288 = .ok (.invokevirtual 60, 3) := by decide +kernel
theorem dL_law_291 : decode cL_law 291 = .ok (.aload_n 2, 1) := by decide +kernel
theorem dL_law_292 : decode cL_law 292 = .ok (.invokevirtual 63, 3) := by decide +kernel
theorem dL_law_295 : decode cL_law 295 = .ok (.if_icmp .eq 5, 3) := by decide +kernel
theorem dL_law_298 : decode cL_law 298 = .ok (.iconst 0, 1) := by decide +kernel
theorem dL_law_299 : decode cL_law 299 = .ok (.ireturn, 1) := by decide +kernel
theorem dL_law_300 : decode cL_law 300 = .ok (.iinc 3 2, 3) := by decide +kernel
theorem dL_law_303 : decode cL_law 303 = .ok (.goto (-285), 3) := by decide +kernel
theorem dL_law_306 : decode cL_law 306 = .ok (.iconst 1, 1) := by decide +kernel
theorem dL_law_307 : decode cL_law 307 = .ok (.ireturn, 1) := by decide +kernel
abbrev vwCl : List vw_C := [(RX0, TX0, 10), (RX1, TX1, 10)]
/-! ===== END printed: names ===== -/
end
section
-- TOOLS: rows of this claim's own over the kit's: arrays by Nat places, loops, calls
theorem na_fm {α β : Type} {f : α → Option β} : ∀ {l : List α} {w : List β}, l.map f = w.map some → l.filterMap f = w := by
  intro l
  induction l with
  | nil =>
    intro w h
    cases w with
    | nil => rfl
    | cons a b => cases h
  | cons x xs ih =>
    intro w h
    cases w with
    | nil => cases h
    | cons a b =>
      simp only [List.map_cons, List.cons.injEq] at h
      obtain ⟨h1, h2⟩ := h
      rw [List.filterMap_cons_some h1, ih h2]
section
variable {p : Program} {l : Launch} {e : Env} {R : Room} {s : State} {m : MethodId} {args : Array Value} {below : List Frame} {meth : Method} {c : Code} {H : Heap} {locs : List Loc} {cells slots : Nat} {Q : State → Prop}
variable {cc : ByteArray} {pc : Nat} {ls : Array Slot} {rest : List Value} {D : va_G} {cl : List vw_C} {A : Nat → Prop} {a : Nat} {tys : List (ClassId × FieldType)} {ws : va_W} {H0 : Heap}
/-- a number on the stack under another name -/
theorem na_eqi {x y : Int32} (h : x = y) (k : W p l e R s m args below meth c H locs cells slots Q (F0 m pc ls (.int y :: rest))) : W p l e R s m args below meth c H locs cells slots Q (F0 m pc ls (.int x :: rest)) := by
  subst h
  exact k
theorem na_iald (hexec : p.tables.exec = Jvm.exec) (hb : c.code = cc) (hK : va_K D cl tys s) (hP : va_P D cl ws H) (q0 t0 : Nat) {cA : ClassId} {n : Nat} {f : Nat → Int32} (ha : ws[q0]? = some (a, .inl (cA, n, .inl f))) (ht : tys[t0]? = some (cA, .int)) {k : Nat} (hk : k < n) (hn : n < 2 ^ 31) (hdg : decode cc pc = .ok (.iaload, 1))
    (kk : W p l e R s m args below meth c H locs cells slots Q (F0 m (pc + 1) ls (.int (f k) :: rest))) : W p l e R s m args below meth c H locs cells slots Q (F0 m pc ls (.int (nI k) :: .ref a :: rest)) :=
  va_iald hexec hb hK hP q0 t0 ha ht (vp_in_nI hk hn) hdg (by rw [nI_clamp (by omega)]; exact kk)
theorem na_iast (hexec : p.tables.exec = Jvm.exec) (hb : c.code = cc) (hK : va_K D cl tys s) (hP : va_P D cl ws H) (hD : va_D A ws) (hS : va_S A H0 H locs) (q0 t0 : Nat) {cA : ClassId} {n : Nat} {f : Nat → Int32} (ha : ws[q0]? = some (a, .inl (cA, n, .inl f))) (ht : tys[t0]? = some (cA, .int)) {k : Nat} {x : Int32} (hk : k < n) (hn : n < 2 ^ 31) (g : Nat → Int32) (hg : upd f k x = g) (hdg : decode cc pc = .ok (.iastore, 1))
    (kk : ∀ (H1 : Heap) (locs1 : List Loc), va_P D cl (ws.set q0 (a, .inl (cA, n, .inl g))) H1 → va_D A (ws.set q0 (a, .inl (cA, n, .inl g))) → va_S A H0 H1 locs1 → W p l e R s m args below meth c H1 locs1 cells slots Q (F0 m (pc + 1) ls rest)) : W p l e R s m args below meth c H locs cells slots Q (F0 m pc ls (.int x :: .int (nI k) :: .ref a :: rest)) :=
  va_iast hexec hb hK hP hD hS q0 t0 ha ht (vp_in_nI hk hn) hdg (by rw [nI_clamp (by omega), hg]; exact kk)
theorem na_zald (hexec : p.tables.exec = Jvm.exec) (hb : c.code = cc) (hK : va_K D cl tys s) (hP : va_P D cl ws H) (q0 t0 : Nat) {cA : ClassId} {n : Nat} {f : Nat → Int32} (ha : ws[q0]? = some (a, .inl (cA, n, .inl f))) (ht : tys[t0]? = some (cA, .boolean)) {k : Nat} (hk : k < n) (hn : n < 2 ^ 31) (hdg : decode cc pc = .ok (.baload, 1))
    (kk : W p l e R s m args below meth c H locs cells slots Q (F0 m (pc + 1) ls (.int (f k) :: rest))) : W p l e R s m args below meth c H locs cells slots Q (F0 m pc ls (.int (nI k) :: .ref a :: rest)) :=
  va_zald hexec hb hK hP q0 t0 ha ht (vp_in_nI hk hn) hdg (by rw [nI_clamp (by omega)]; exact kk)
theorem na_zast (hexec : p.tables.exec = Jvm.exec) (hb : c.code = cc) (hK : va_K D cl tys s) (hP : va_P D cl ws H) (hD : va_D A ws) (hS : va_S A H0 H locs) (q0 t0 : Nat) {cA : ClassId} {n : Nat} {f : Nat → Int32} (ha : ws[q0]? = some (a, .inl (cA, n, .inl f))) (ht : tys[t0]? = some (cA, .boolean)) {k : Nat} {x : Int32} (hx : vp_nar .boolean x = x) (hk : k < n) (hn : n < 2 ^ 31) (g : Nat → Int32) (hg : upd f k x = g) (hdg : decode cc pc = .ok (.bastore, 1))
    (kk : ∀ (H1 : Heap) (locs1 : List Loc), va_P D cl (ws.set q0 (a, .inl (cA, n, .inl g))) H1 → va_D A (ws.set q0 (a, .inl (cA, n, .inl g))) → va_S A H0 H1 locs1 → W p l e R s m args below meth c H1 locs1 cells slots Q (F0 m (pc + 1) ls rest)) : W p l e R s m args below meth c H locs cells slots Q (F0 m pc ls (.int x :: .int (nI k) :: .ref a :: rest)) :=
  va_zast hexec hb hK hP hD hS q0 t0 ha ht (vp_in_nI hk hn) hdg (by rw [nI_clamp (by omega), hx, hg]; exact kk)
/-- a loop whose head is at pc, the stack empty: a picture I of what holds there, a number that falls -/
theorem na_loop {α : Type} (I : Nat → α → Heap → List Loc → Array Slot → Prop) (hs : ∀ (d : Nat) (a : α) (H : Heap) (locs : List Loc) (ls : Array Slot), I d a H locs ls → (∀ (d' : Nat) (a' : α) (H' : Heap) (locs' : List Loc) (ls' : Array Slot), d' < d → I d' a' H' locs' ls' → W p l e R s m args below meth c H' locs' cells slots Q (F0 m pc ls' [])) → W p l e R s m args below meth c H locs cells slots Q (F0 m pc ls [])) (d : Nat) (a : α) (h : I d a H locs ls) : W p l e R s m args below meth c H locs cells slots Q (F0 m pc ls []) := by
  induction d using Nat.strongRecOn generalizing a H locs ls with
  | ind d ih => exact hs d a H locs ls h (fun d' a' H' locs' ls' hd hi => ih d' hd (H := H') (locs := locs') (ls := ls') a' hi)
end
/-- a method's world at its start and at its end -/
abbrev na_Pre (D : va_G) (cl : List vw_C) (sz : Nat) (ws : va_W) (tys : List (ClassId × FieldType)) (U : State) : Prop := U.heap.size = sz ∧ va_P D cl ws U.heap ∧ va_K D cl tys U ∧ va_D (fun _ => True) ws
abbrev na_End (D : va_G) (cl : List vw_C) (A : Nat → Prop) (ws : va_W) (tys : List (ClassId × FieldType)) (t : State) : Prop := va_P D cl ws t.heap ∧ va_K D cl tys t ∧ va_D A ws
/-- a contract that answers an int (or a boolean): post answer u, and the world behind it is w1 u -/
abbrev na_Mi {S : Type} (l : Launch) (y : MethodName) (wy : List Cond) (rm : Room) (D : va_G) (cl : List vw_C) (tys : List (ClassId × FieldType)) (sz : Nat) (av : List Value) (wc : va_W) (post : Int32 → S → Prop) (w1 : S → va_W) : Prop := Met l y wy rm (va_Pc av (na_Pre D cl sz wc tys)) (va_Qi post (fun u t => na_End D cl (va_A wc sz) (w1 u) tys t) (va_A wc sz)) 0 0 (va_A wc sz)
abbrev na_Mv {S : Type} (l : Launch) (y : MethodName) (wy : List Cond) (rm : Room) (D : va_G) (cl : List vw_C) (tys : List (ClassId × FieldType)) (sz : Nat) (av : List Value) (wc : va_W) (post : S → Prop) (w1 : S → va_W) : Prop := Met l y wy rm (va_Pc av (na_Pre D cl sz wc tys)) (va_Qv post (fun u t => na_End D cl (va_A wc sz) (w1 u) tys t) (va_A wc sz)) 0 0 (va_A wc sz)
theorem na_blind {D : va_G} {cl : List vw_C} {sz : Nat} {ws : va_W} {tys : List (ClassId × FieldType)} {av : List Value} : FrameBlind (va_Pc av (na_Pre D cl sz ws tys)) := fun a U g mk q => by
  obtain ⟨q0, q1, qP, qK, qD⟩ := q
  exact ⟨q0, q1, qP, va_K.moved (u := U) (U := U.calling g mk a) (Vm.Alike.refl U.vm) qK, qD⟩
section
variable {p : Program} {l : Launch} {e : Env} {R : Room} {s : State} {m : MethodId} {args : Array Value} {below : List Frame} {meth : Method} {c : Code} {H : Heap} {locs : List Loc} {cells slots : Nat} {Q : State → Prop}
variable {cc : ByteArray} {pc : Nat} {ls : Array Slot} {rest : List Value} {D : va_G} {cl : List vw_C} {A : Nat → Prop} {b : Nat} {tys : List (ClassId × FieldType)} {ws : va_W} {H0 : Heap}
/-- a call of an object's method that answers an int: isC the callee's cells in the world, isR the rest -/
theorem na_calli {S : Type} {post : Int32 → S → Prop} {w1 : S → va_W} {wc wr : va_W} {own C : String} {index maxL n nL : Nat} {y : MethodName} {bytes : ByteArray} {ret : Option FieldType} {wy Ts : List Cond} {rm : Room} {As : List Value} {q : vw_C} {fs : List Value} {ci : Nat}
    (SF : CallFix p m c cc nL s args Ts own) (hM : na_Mi l y wy rm D cl tys H.size (Value.ref b :: As) wc post w1) (cw : CallW R s args own C index y bytes maxL ret wy rm 0 0 n)
    (hK : va_K D cl tys s) (hP : va_P D cl ws H) (hD : va_D A ws) (hS : va_S A H0 H locs) (hA : ∀ q, H0.size ≤ q → A q)
    (isC isR : List Nat) (hC : isC.map (fun i => ws[i]?) = wc.map some) (hR : isR.map (fun i => ws[i]?) = wr.map some) (hnC : va_nd isC = true) (hnR : va_nd isR = true) (hdis : ∀ i ∈ isR, i ∉ isC)
    (hc : cl[ci]? = some q) (hq : q.1 = C) (q0 : Nat) (he : wc[q0]? = some (b, .inr (ci, fs))) (hn : As.length = n) (hsize : ls.size = nL) (hW : (rest.map fun v => v.category).sum ≤ 8) (hdg : decode cc pc = .ok (.invokevirtual index, 3)) (hf : cells ≤ R.cells ∧ slots ≤ R.slots) {st : List Value} (hst : st = As.reverse ++ .ref b :: rest)
    (kk : ∀ (r : Int32) (u : S) (H1 : Heap) (locs1 : List Loc), post r u → va_P D cl (wr ++ w1 u) H1 → va_D A (wr ++ w1 u) → va_S A H0 H1 locs1 → W p l e R s m args below meth c H1 locs1 cells slots Q (F0 m (pc + 3) ls (.int r :: rest))) : W p l e R s m args below meth c H locs cells slots Q (F0 m pc ls st) := by
  subst hst
  subst hq
  have hPc := hP.sub (ws' := wc) isC (na_fm hC)
  have hDc := hD.sub (ws' := wc) isC hnC hC
  have hFc := va_free (wc := wc) hD hS hA isC hC
  refine va_calli (va_runV (As := As) (rest := rest) SF hM cw ⟨na_blind, va_recv hK hPc hc he, fun U hU hW => ⟨rfl, by rw [hU], by rw [hU]; exact hPc, va_K.moved hW.alike hK, hDc.weaken (fun _ _ _ _ => trivial)⟩⟩ rfl hn hsize rfl (lv_room hW) hdg hf) hS (fun q _ h => hFc q h) hFc (fun r u t H1 locs1 ht hvm hw hB hz1 hk1 hS1 => ?_)
  obtain ⟨hP1, -, hD1⟩ := hB
  rw [ht] at hP1
  obtain ⟨hP2, hD2⟩ := va_join (wr := wr) (w1 := w1 u) hP hD isC isR hC hR hnR hdis hk1 hFc hP1 hD1
  exact kk r u H1 locs1 hw hP2 hD2 hS1
theorem na_callv {S : Type} {post : S → Prop} {w1 : S → va_W} {wc wr : va_W} {own C : String} {index maxL n nL : Nat} {y : MethodName} {bytes : ByteArray} {ret : Option FieldType} {wy Ts : List Cond} {rm : Room} {As : List Value} {q : vw_C} {fs : List Value} {ci : Nat}
    (SF : CallFix p m c cc nL s args Ts own) (hM : na_Mv l y wy rm D cl tys H.size (Value.ref b :: As) wc post w1) (cw : CallW R s args own C index y bytes maxL ret wy rm 0 0 n)
    (hK : va_K D cl tys s) (hP : va_P D cl ws H) (hD : va_D A ws) (hS : va_S A H0 H locs) (hA : ∀ q, H0.size ≤ q → A q)
    (isC isR : List Nat) (hC : isC.map (fun i => ws[i]?) = wc.map some) (hR : isR.map (fun i => ws[i]?) = wr.map some) (hnC : va_nd isC = true) (hnR : va_nd isR = true) (hdis : ∀ i ∈ isR, i ∉ isC)
    (hc : cl[ci]? = some q) (hq : q.1 = C) (q0 : Nat) (he : wc[q0]? = some (b, .inr (ci, fs))) (hn : As.length = n) (hsize : ls.size = nL) (hW : (rest.map fun v => v.category).sum ≤ 8) (hdg : decode cc pc = .ok (.invokevirtual index, 3)) (hf : cells ≤ R.cells ∧ slots ≤ R.slots) {st : List Value} (hst : st = As.reverse ++ .ref b :: rest)
    (kk : ∀ (u : S) (H1 : Heap) (locs1 : List Loc), post u → va_P D cl (wr ++ w1 u) H1 → va_D A (wr ++ w1 u) → va_S A H0 H1 locs1 → W p l e R s m args below meth c H1 locs1 cells slots Q (F0 m (pc + 3) ls rest)) : W p l e R s m args below meth c H locs cells slots Q (F0 m pc ls st) := by
  subst hst
  subst hq
  have hPc := hP.sub (ws' := wc) isC (na_fm hC)
  have hDc := hD.sub (ws' := wc) isC hnC hC
  have hFc := va_free (wc := wc) hD hS hA isC hC
  refine va_callv (va_runV (As := As) (rest := rest) SF hM cw ⟨na_blind, va_recv hK hPc hc he, fun U hU hW => ⟨rfl, by rw [hU], by rw [hU]; exact hPc, va_K.moved hW.alike hK, hDc.weaken (fun _ _ _ _ => trivial)⟩⟩ rfl hn hsize rfl (lv_room hW) hdg hf) hS (fun q _ h => hFc q h) hFc (fun u t H1 locs1 ht hvm hw hB hz1 hk1 hS1 => ?_)
  obtain ⟨hP1, -, hD1⟩ := hB
  rw [ht] at hP1
  obtain ⟨hP2, hD2⟩ := va_join (wr := wr) (w1 := w1 u) hP hD isC isR hC hR hnR hdis hk1 hFc hP1 hD1
  exact kk u H1 locs1 hw hP2 hD2 hS1
end
end
section
-- PURE: sums of words, what is far, the least set of long branches (nothing of the machine)
def ps (w : Nat → Nat) : Nat → Nat
  | 0 => 0
  | k + 1 => ps w k + w k
theorem ps_le (w : Nat → Nat) {a b : Nat} (h : a ≤ b) : ps w a ≤ ps w b := by
  induction b with
  | zero =>
    have h0 : a = 0 := by omega
    subst h0
    exact Nat.le_refl _
  | succ b ih =>
    rcases Nat.lt_or_ge b a with q | q
    · have h1 : a = b + 1 := by omega
      subst h1
      exact Nat.le_refl _
    · have h2 := ih q
      simp only [ps]
      omega
theorem ps_mono {w w' : Nat → Nat} {n a : Nat} (h : ∀ j, j < n → w j ≤ w' j) : ∀ b, a ≤ b → b ≤ n → ps w b + ps w' a ≤ ps w' b + ps w a := by
  intro b
  induction b with
  | zero =>
    intro h1 _
    have h0 : a = 0 := by omega
    subst h0
    simp only [ps]
    omega
  | succ b ih =>
    intro h1 h2
    rcases Nat.lt_or_ge b a with q | q
    · have h3 : a = b + 1 := by omega
      subst h3
      omega
    · have h4 := ih q (by omega)
      have h5 := h b (by omega)
      simp only [ps]
      omega
theorem ps_congr {w w' : Nat → Nat} {n : Nat} (h : ∀ j, j < n → w j = w' j) : ∀ b, b ≤ n → ps w b = ps w' b := by
  intro b
  induction b with
  | zero => intro _; rfl
  | succ b ih =>
    intro h1
    simp only [ps]
    rw [ih (by omega), h b (by omega)]
theorem ps_bound {w : Nat → Nat} {n M : Nat} (h : ∀ j, j < n → w j ≤ M) : ∀ b, b ≤ n → ps w b ≤ M * b := by
  intro b
  induction b with
  | zero => intro _; simp [ps]
  | succ b ih =>
    intro h1
    have h2 := ih (by omega)
    have h3 := h b (by omega)
    simp only [ps]
    rw [Nat.mul_add]
    omega
def Far (r : Nat) (w : Nat → Nat) (i t : Nat) : Prop := ps w i + r < ps w t ∨ ps w t + r < ps w i
theorem far_mono {w w' : Nat → Nat} {n r i t : Nat} (h : ∀ j, j < n → w j ≤ w' j) (hi : i ≤ n) (ht : t ≤ n) (hf : Far r w i t) : Far r w' i t := by
  unfold Far at hf ⊢
  rcases Nat.le_total i t with q | q
  · have h1 := ps_mono h t q ht
    have h2 := ps_le w q
    omega
  · have h1 := ps_mono h i q hi
    have h2 := ps_le w q
    omega
def wd (br : Nat → Bool) (b : Nat → Nat) (L : Nat → Bool) : Nat → Nat := fun j => if br j = true then (if L j = true then 2 else 1) else b j
theorem wd_mono {br : Nat → Bool} {b : Nat → Nat} {L L' : Nat → Bool} {n : Nat} (h : ∀ j, j < n → br j = true → L j = true → L' j = true) : ∀ j, j < n → wd br b L j ≤ wd br b L' j := by
  intro j hj
  unfold wd
  by_cases hb : br j = true
  · rw [if_pos hb, if_pos hb]
    by_cases hl : L j = true
    · rw [if_pos hl, if_pos (h j hj hb hl)]
      exact Nat.le_refl _
    · rw [if_neg hl]
      split <;> omega
  · rw [if_neg hb, if_neg hb]
    exact Nat.le_refl _
def Closd (n r : Nat) (br : Nat → Bool) (b t : Nat → Nat) (L : Nat → Bool) : Prop := ∀ i, i < n → br i = true → ¬ L i = true → ¬ Far r (wd br b L) i (t i)
def Least (n r : Nat) (br : Nat → Bool) (b t : Nat → Nat) (L : Nat → Bool) : Prop := ∀ T : Nat → Bool, Closd n r br b t T → ∀ i, i < n → br i = true → L i = true → T i = true
theorem least_0 {n r : Nat} {br : Nat → Bool} {b t : Nat → Nat} {L : Nat → Bool} (h : ∀ i, i < n → br i = true → ¬ L i = true) : Least n r br b t L := fun _ _ i hi hb hl => absurd hl (h i hi hb)
theorem least_step {n r : Nat} {br : Nat → Bool} {b t : Nat → Nat} {S S' : Nat → Bool} (ht : ∀ i, i < n → br i = true → t i ≤ n) (h : Least n r br b t S) (hs : ∀ i, i < n → br i = true → S' i = true → S i = true ∨ Far r (wd br b S) i (t i)) : Least n r br b t S' := by
  intro T hT i hi hb hl
  rcases hs i hi hb hl with q | q
  · exact h T hT i hi hb q
  · by_cases hTi : T i = true
    · exact hTi
    · exact absurd (far_mono (wd_mono (fun j hj hbj hlj => h T hT j hj hbj hlj)) (by omega) (ht i hi hb) q) (hT i hi hb hTi)
theorem lfp_uniq {n r : Nat} {br : Nat → Bool} {b t : Nat → Nat} {S S' : Nat → Bool} (h1 : Closd n r br b t S) (h2 : Least n r br b t S) (h3 : Closd n r br b t S') (h4 : Least n r br b t S') : ∀ i, i < n → br i = true → S i = S' i := by
  intro i hi hb
  have a := h2 S' h3 i hi hb
  have c := h4 S h1 i hi hb
  cases hS : S i <;> cases hS' : S' i <;> simp_all
def cnt (P : Nat → Bool) : Nat → Nat
  | 0 => 0
  | k + 1 => cnt P k + (if P k = true then 1 else 0)
theorem cnt_le (P : Nat → Bool) : ∀ k, cnt P k ≤ k := by
  intro k
  induction k with
  | zero => exact Nat.le_refl _
  | succ k ih =>
    simp only [cnt]
    split <;> omega
theorem cnt_all {P : Nat → Bool} : ∀ n, n ≤ cnt P n → ∀ i, i < n → P i = true := by
  intro n
  induction n with
  | zero => intro _ i hi; omega
  | succ n ih =>
    intro h i hi
    have h1 := cnt_le P n
    simp only [cnt] at h
    by_cases hp : P n = true
    · rcases Nat.lt_or_ge i n with q | q
      · exact ih (by rw [if_pos hp] at h; omega) i q
      · have h2 : i = n := by omega
        subst h2
        exact hp
    · rw [if_neg hp] at h
      omega
theorem cnt_0 {P : Nat → Bool} : ∀ n, cnt P n = 0 → ∀ i, i < n → ¬ P i = true := by
  intro n
  induction n with
  | zero => intro _ i hi; omega
  | succ n ih =>
    intro h i hi hp
    simp only [cnt] at h
    rcases Nat.lt_or_ge i n with q | q
    · exact ih (by omega) i q hp
    · have h2 : i = n := by omega
      subst h2
      rw [if_pos hp] at h
      omega
theorem cnt_congr {P P' : Nat → Bool} {n : Nat} (h : ∀ i, i < n → P i = P' i) : ∀ k, k ≤ n → cnt P k = cnt P' k := by
  intro k
  induction k with
  | zero => intro _; rfl
  | succ k ih =>
    intro hk
    simp only [cnt]
    rw [ih (by omega), h k (by omega)]
theorem cnt_add {P P' P'' : Nat → Bool} {n : Nat} (h : ∀ i, i < n → (P'' i = true ↔ (P i = true ∨ P' i = true)) ∧ ¬ (P i = true ∧ P' i = true)) : ∀ k, k ≤ n → cnt P'' k = cnt P k + cnt P' k := by
  intro k
  induction k with
  | zero => intro _; rfl
  | succ k ih =>
    intro hk
    obtain ⟨h1, h2⟩ := h k (by omega)
    have h3 := ih (by omega)
    simp only [cnt]
    by_cases a : P k = true
    · by_cases b : P' k = true
      · exact absurd ⟨a, b⟩ h2
      · rw [if_pos a, if_neg b, if_pos (h1.mpr (Or.inl a))]
        omega
    · by_cases b : P' k = true
      · rw [if_neg a, if_pos b, if_pos (h1.mpr (Or.inr b))]
        omega
      · rw [if_neg a, if_neg b, if_neg (fun q => (h1.mp q).elim a b)]
        omega
end
section
-- what the class's methods do, as functions over ints
theorem na_ge {n k : Nat} (hn : n < 2 ^ 31) (hk : k ≤ n) (h : nI n ≤ nI k) : n = k := by
  have := (nI_leI hn (by omega)).mp h
  omega
theorem na_nge {n k : Nat} (hn : n < 2 ^ 31) (hk : k ≤ n) (h : ¬ nI n ≤ nI k) : k < n := by
  rcases Nat.lt_or_ge k n with q | q
  · exact q
  · exact absurd (nI_le q (by omega)) h
theorem na_fun {f g : Nat → Int32} (h : ∀ j, f j = g j) : f = g := funext h
theorem na_upd (f : Nat → Int32) (k : Nat) (x : Int32) (j : Nat) : upd f k x j = if j = k then x else f j := rfl
def xSh (f1 f2 : Nat → Int32) (k : Nat) : Nat → Int32 := fun j => if j < k ∧ ¬ f2 j = -1 then 1 else f1 j
theorem xSh_0 (f1 f2 : Nat → Int32) : xSh f1 f2 0 = f1 := na_fun fun j => if_neg (fun q => by omega)
theorem xSh_n {f1 f2 : Nat → Int32} {k : Nat} (h : f2 k = -1) : xSh f1 f2 k = xSh f1 f2 (k + 1) := na_fun fun j => by
  unfold xSh
  by_cases hj : j = k
  · subst hj
    rw [if_neg (fun q => by omega), if_neg (fun q => q.2 h)]
  · by_cases hl : j < k
    · by_cases h2 : f2 j = -1
      · rw [if_neg (fun q => q.2 h2), if_neg (fun q => q.2 h2)]
      · rw [if_pos ⟨hl, h2⟩, if_pos ⟨by omega, h2⟩]
    · rw [if_neg (fun q => hl q.1), if_neg (fun q => by omega)]
theorem xSh_b {f1 f2 : Nat → Int32} {k : Nat} (h : ¬ f2 k = -1) : upd (xSh f1 f2 k) k 1 = xSh f1 f2 (k + 1) := na_fun fun j => by
  rw [na_upd]
  unfold xSh
  by_cases hj : j = k
  · subst hj
    rw [if_pos rfl, if_pos ⟨by omega, h⟩]
  · rw [if_neg hj]
    by_cases hl : j < k
    · by_cases h2 : f2 j = -1
      · rw [if_neg (fun q => q.2 h2), if_neg (fun q => q.2 h2)]
      · rw [if_pos ⟨hl, h2⟩, if_pos ⟨by omega, h2⟩]
    · rw [if_neg (fun q => hl q.1), if_neg (fun q => by omega)]
def xPl (f1 f3 : Nat → Int32) (k : Nat) : Nat → Int32 := fun j => if j < k then bx_sum f1 j else f3 j
theorem xPl_0 (f1 f3 : Nat → Int32) : xPl f1 f3 0 = f3 := na_fun fun j => if_neg (fun q => by omega)
theorem xPl_s (f1 f3 : Nat → Int32) (k : Nat) : upd (xPl f1 f3 k) k (bx_sum f1 k) = xPl f1 f3 (k + 1) := na_fun fun j => by
  rw [na_upd]
  unfold xPl
  by_cases hj : j = k
  · subst hj
    rw [if_pos rfl, if_pos (by omega)]
  · rw [if_neg hj]
    by_cases hl : j < k
    · rw [if_pos hl, if_pos (by omega)]
    · rw [if_neg hl, if_neg (by omega)]
/-- the item that a branch's mark is -/
def xTq (f2 f4 : Nat → Int32) (j : Nat) : Nat := (f4 (f2 j).toNatClampNeg).toNatClampNeg
def xRs (f2 f3 f4 : Nat → Int32) (rn : Int32) (j : Nat) : Bool := decide (¬ f3 (xTq f2 f4 j) - f3 j < -rn) && decide (¬ rn < f3 (xTq f2 f4 j) - f3 j)
def xBad (f1 f2 f3 f4 : Nat → Int32) (rn : Int32) (j : Nat) : Bool := decide (¬ f2 j = -1) && (decide (f1 j = 1) && !xRs f2 f3 f4 rn j)
def xLn (f1 : Nat → Int32) (bad : Nat → Bool) (k : Nat) : Nat → Int32 := fun j => if j < k ∧ bad j = true then 2 else f1 j
theorem xLn_0 (f1 : Nat → Int32) (bad : Nat → Bool) : xLn f1 bad 0 = f1 := na_fun fun j => if_neg (fun q => by omega)
theorem xLn_at (f1 : Nat → Int32) (bad : Nat → Bool) (k : Nat) : xLn f1 bad k k = f1 k := if_neg (fun q => by omega)
theorem xLn_n {f1 : Nat → Int32} {bad : Nat → Bool} {k : Nat} (h : ¬ bad k = true) : xLn f1 bad k = xLn f1 bad (k + 1) := na_fun fun j => by
  unfold xLn
  by_cases hj : j = k
  · subst hj
    rw [if_neg (fun q => by omega), if_neg (fun q => h q.2)]
  · by_cases hl : j < k
    · by_cases h2 : bad j = true
      · rw [if_pos ⟨hl, h2⟩, if_pos ⟨by omega, h2⟩]
      · rw [if_neg (fun q => h2 q.2), if_neg (fun q => h2 q.2)]
    · rw [if_neg (fun q => hl q.1), if_neg (fun q => by omega)]
theorem xLn_b {f1 : Nat → Int32} {bad : Nat → Bool} {k : Nat} (h : bad k = true) : upd (xLn f1 bad k) k 2 = xLn f1 bad (k + 1) := na_fun fun j => by
  rw [na_upd]
  unfold xLn
  by_cases hj : j = k
  · subst hj
    rw [if_pos rfl, if_pos ⟨by omega, h⟩]
  · rw [if_neg hj]
    by_cases hl : j < k
    · by_cases h2 : bad j = true
      · rw [if_pos ⟨hl, h2⟩, if_pos ⟨by omega, h2⟩]
      · rw [if_neg (fun q => h2 q.2), if_neg (fun q => h2 q.2)]
    · rw [if_neg (fun q => hl q.1), if_neg (fun q => by omega)]
theorem cnt_s {P : Nat → Bool} {k : Nat} (h : P k = true) : cnt P (k + 1) = cnt P k + 1 := by simp only [cnt]; rw [if_pos h]
theorem cnt_n {P : Nat → Bool} {k : Nat} (h : ¬ P k = true) : cnt P (k + 1) = cnt P k := by simp only [cnt]; rw [if_neg h]; rfl
/-- the first item whose number isn't below the marks' number -/
def xFm (f2 : Nat → Int32) (kc : Int32) (n : Nat) (r : Int32) : Prop := (r = -1 ∧ ∀ j, j < n → f2 j < kc) ∨ ∃ j, j < n ∧ r = nI j ∧ ¬ f2 j < kc ∧ ∀ i, i < j → f2 i < kc
theorem na_if0 {P : Prop} [Decidable P] (h : (if P then (1 : Int32) else 0) = 0) : ¬ P := fun q => by
  rw [if_pos q] at h
  exact absurd h (by decide)
theorem na_if1 {P : Prop} [Decidable P] (h : ¬ (if P then (1 : Int32) else 0) = 0) : P := Classical.byContradiction fun q => h (if_neg q)
theorem na_if2 {P : Prop} [Decidable P] (h : (if P then (0 : Int32) else 1) = 0) : P := Classical.byContradiction fun q => by
  rw [if_neg q] at h
  exact absurd h (by decide)
theorem na_nle {x y : Int32} (h : ¬ y ≤ x) : x < y := by
  rw [Int32.le_iff_toInt_le] at h
  rw [Int32.lt_iff_toInt_lt]
  omega
theorem na_nmk {x y : Int32} (h : ¬ (¬ x < 0 ∧ ¬ y ≤ x)) (h0 : ¬ x < 0) : ¬ x < y := fun q => h ⟨h0, fun z => by
  rw [Int32.le_iff_toInt_le] at z
  rw [Int32.lt_iff_toInt_lt] at q
  omega⟩
end
section
theorem in_X0_append : ∀ w ∈ u_ws RX0 TX0 10, w ∈ wsX0_append := fun _ h => List.mem_cons_of_mem _ (List.mem_append_right _ h)
theorem in_X0_branch : ∀ w ∈ u_ws RX0 TX0 10, w ∈ wsX0_branch := fun _ h => List.mem_cons_of_mem _ (List.mem_append_right _ h)
theorem in_X0_clear : ∀ w ∈ u_ws RX0 TX0 10, w ∈ wsX0_clear := fun _ h => List.mem_cons_of_mem _ (List.mem_append_right _ h)
theorem in_X0_firstMarkless : ∀ w ∈ u_ws RX0 TX0 10, w ∈ wsX0_firstMarkless := fun _ h => List.mem_cons_of_mem _ (List.mem_append_right _ h)
theorem in_X0_init : ∀ w ∈ u_ws RX0 TX0 10, w ∈ wsX0_init := fun _ h => List.mem_cons_of_mem _ (List.mem_append_right _ h)
theorem in_X0_isBranch : ∀ w ∈ u_ws RX0 TX0 10, w ∈ wsX0_isBranch := fun _ h => List.mem_cons_of_mem _ (List.mem_append_right _ h)
theorem in_X0_isItem : ∀ w ∈ u_ws RX0 TX0 10, w ∈ wsX0_isItem := fun _ h => List.mem_cons_of_mem _ (List.mem_append_right _ h)
theorem in_X0_isLaid : ∀ w ∈ u_ws RX0 TX0 10, w ∈ wsX0_isLaid := fun _ h => List.mem_cons_of_mem _ (List.mem_append_right _ h)
theorem in_X0_isLong : ∀ w ∈ u_ws RX0 TX0 10, w ∈ wsX0_isLong := fun _ h => List.mem_cons_of_mem _ (List.mem_append_right _ h)
theorem in_X0_isMark : ∀ w ∈ u_ws RX0 TX0 10, w ∈ wsX0_isMark := fun _ h => List.mem_cons_of_mem _ (List.mem_append_right _ h)
theorem in_X0_items : ∀ w ∈ u_ws RX0 TX0 10, w ∈ wsX0_items := fun _ h => List.mem_cons_of_mem _ (List.mem_append_right _ h)
theorem in_X0_lay : ∀ w ∈ u_ws RX0 TX0 10, w ∈ wsX0_lay := fun _ h => List.mem_cons_of_mem _ (List.mem_append_right _ h)
theorem in_X0_least : ∀ w ∈ u_ws RX0 TX0 10, w ∈ wsX0_least := fun _ h => List.mem_cons_of_mem _ (List.mem_append_right _ h)
theorem in_X0_lengthenUnreaching : ∀ w ∈ u_ws RX0 TX0 10, w ∈ wsX0_lengthenUnreaching := fun _ h => List.mem_cons_of_mem _ (List.mem_append_right _ h)
theorem in_X0_longs : ∀ w ∈ u_ws RX0 TX0 10, w ∈ wsX0_longs := fun _ h => List.mem_cons_of_mem _ (List.mem_append_right _ h)
theorem in_X0_mark : ∀ w ∈ u_ws RX0 TX0 10, w ∈ wsX0_mark := fun _ h => List.mem_cons_of_mem _ (List.mem_append_right _ h)
theorem in_X0_marks : ∀ w ∈ u_ws RX0 TX0 10, w ∈ wsX0_marks := fun _ h => List.mem_cons_of_mem _ (List.mem_append_right _ h)
theorem in_X0_place : ∀ w ∈ u_ws RX0 TX0 10, w ∈ wsX0_place := fun _ h => List.mem_cons_of_mem _ (List.mem_append_right _ h)
theorem in_X0_reach : ∀ w ∈ u_ws RX0 TX0 10, w ∈ wsX0_reach := fun _ h => List.mem_cons_of_mem _ (List.mem_append_right _ h)
theorem in_X0_reachesShort : ∀ w ∈ u_ws RX0 TX0 10, w ∈ wsX0_reachesShort := fun _ h => List.mem_cons_of_mem _ (List.mem_append_right _ h)
theorem in_X0_setPlaces : ∀ w ∈ u_ws RX0 TX0 10, w ∈ wsX0_setPlaces := fun _ h => List.mem_cons_of_mem _ (List.mem_append_right _ h)
theorem in_X0_shortenAll : ∀ w ∈ u_ws RX0 TX0 10, w ∈ wsX0_shortenAll := fun _ h => List.mem_cons_of_mem _ (List.mem_append_right _ h)
theorem in_X0_stretch : ∀ w ∈ u_ws RX0 TX0 10, w ∈ wsX0_stretch := fun _ h => List.mem_cons_of_mem _ (List.mem_append_right _ h)
theorem in_X1_addUp : ∀ w ∈ u_ws RX1 TX1 10, w ∈ wsX1_addUp := fun _ h => List.mem_cons_of_mem _ (List.mem_append_right _ h)
theorem in_X1_branch : ∀ w ∈ u_ws RX1 TX1 10, w ∈ wsX1_branch := fun _ h => List.mem_cons_of_mem _ (List.mem_append_right _ h)
theorem in_X1_clear : ∀ w ∈ u_ws RX1 TX1 10, w ∈ wsX1_clear := fun _ h => List.mem_cons_of_mem _ (List.mem_append_right _ h)
theorem in_X1_init : ∀ w ∈ u_ws RX1 TX1 10, w ∈ wsX1_init := fun _ h => List.mem_cons_of_mem _ (List.mem_append_right _ h)
theorem in_X1_isLong : ∀ w ∈ u_ws RX1 TX1 10, w ∈ wsX1_isLong := fun _ h => List.mem_cons_of_mem _ (List.mem_append_right _ h)
theorem in_X1_item : ∀ w ∈ u_ws RX1 TX1 10, w ∈ wsX1_item := fun _ h => List.mem_cons_of_mem _ (List.mem_append_right _ h)
theorem in_X1_items : ∀ w ∈ u_ws RX1 TX1 10, w ∈ wsX1_items := fun _ h => List.mem_cons_of_mem _ (List.mem_append_right _ h)
theorem in_X1_lay : ∀ w ∈ u_ws RX1 TX1 10, w ∈ wsX1_lay := fun _ h => List.mem_cons_of_mem _ (List.mem_append_right _ h)
theorem in_X1_least : ∀ w ∈ u_ws RX1 TX1 10, w ∈ wsX1_least := fun _ h => List.mem_cons_of_mem _ (List.mem_append_right _ h)
theorem in_X1_longs : ∀ w ∈ u_ws RX1 TX1 10, w ∈ wsX1_longs := fun _ h => List.mem_cons_of_mem _ (List.mem_append_right _ h)
theorem in_X1_mark : ∀ w ∈ u_ws RX1 TX1 10, w ∈ wsX1_mark := fun _ h => List.mem_cons_of_mem _ (List.mem_append_right _ h)
theorem in_X1_marks : ∀ w ∈ u_ws RX1 TX1 10, w ∈ wsX1_marks := fun _ h => List.mem_cons_of_mem _ (List.mem_append_right _ h)
theorem in_X1_place : ∀ w ∈ u_ws RX1 TX1 10, w ∈ wsX1_place := fun _ h => List.mem_cons_of_mem _ (List.mem_append_right _ h)
theorem in_X1_reach : ∀ w ∈ u_ws RX1 TX1 10, w ∈ wsX1_reach := fun _ h => List.mem_cons_of_mem _ (List.mem_append_right _ h)
theorem in_X1_reaches : ∀ w ∈ u_ws RX1 TX1 10, w ∈ wsX1_reaches := fun _ h => List.mem_cons_of_mem _ (List.mem_append_right _ h)
theorem in_X1_stretch : ∀ w ∈ u_ws RX1 TX1 10, w ∈ wsX1_stretch := fun _ h => List.mem_cons_of_mem _ (List.mem_append_right _ h)
set_option maxHeartbeats 4000000 in
set_option maxRecDepth 100000 in
/-- append(w, t): one item more, not laid out -/
theorem c_append (l : Launch) (dC : Nat → ClassId) (dI : Nat → Nat → Nat) (cA : ClassId) (h0 a1 a2 a3 a4 sz : Nat) (f1 f2 f3 f4 : Nat → Int32) (n : Nat) (kc lc rn ml lo p1 p2 : Int32) (hn : n < 2000) : na_Mi (S := Unit) l yX0_append wsX0_append ({ frames := 0, cells := 0, slots := 0, locals := 0 }) (dC, dI) vwCl [(cA, .int)] sz [.ref h0, .int p1, .int p2] [(h0, .inr (0, [.ref a1, .ref a2, .ref a3, .ref a4, .int (nI n), .int kc, .int lc, .int rn, .int ml, .int lo])), (a1, .inl (cA, 2000, .inl f1)), (a2, .inl (cA, 2000, .inl f2)), (a3, .inl (cA, 2000, .inl f3)), (a4, .inl (cA, 2000, .inl f4))] (fun r _ => r = nI n) (fun _ => [(h0, .inr (0, [.ref a1, .ref a2, .ref a3, .ref a4, .int (nI (n + 1)), .int kc, .int lc, .int rn, .int ml, .int 0])), (a1, .inl (cA, 2000, .inl (upd f1 n p1))), (a2, .inl (cA, 2000, .inl (upd f2 n p2))), (a3, .inl (cA, 2000, .inl f3)), (a4, .inl (cA, 2000, .inl f4))]) := by
  refine Met.ofW (cc := cX0_append) (maxL := 4) (ret := (some .int)) (by decide) rfl ?_
  intro p e s m args below meth c s₁ B hml hv
  obtain ⟨rfl, hsz, hP, hK, hD0⟩ := hv
  have hx := B.exec
  have hb := B.bytes
  have hr := B.returns
  have hts := atoms_spec (ws := wsX0_append) B.pre
  have hown : s.vm.findClass RX0 = some m.cls := findClass_of_methodNamed B.named
  have hlocks := B.notSynchronized
  subst hsz
  have hD := hD0.self (sz := s.heap.size)
  generalize hAe : va_A [(h0, .inr (0, [.ref a1, .ref a2, .ref a3, .ref a4, .int (nI n), .int kc, .int lc, .int rn, .int ml, .int lo])), (a1, .inl (cA, 2000, .inl f1)), (a2, .inl (cA, 2000, .inl f2)), (a3, .inl (cA, 2000, .inl f3)), (a4, .inl (cA, 2000, .inl f4))] s.heap.size = A at hD ⊢
  have hA : ∀ q : Nat, s.heap.size ≤ q → A q := fun q h => by rw [← hAe]; exact Or.inr h
  have hS : va_S A s.heap s.heap [] := va_S.rf
  have hP : va_P (dC, dI) vwCl [(h0, .inr (0, [.ref a1, .ref a2, .ref a3, .ref a4, .int (nI n), .int kc, .int lc, .int rn, .int ml, .int lo])), (a1, .inl (cA, 2000, .inl f1)), (a2, .inl (cA, 2000, .inl f2)), (a3, .inl (cA, 2000, .inl f3)), (a4, .inl (cA, 2000, .inl f4))] s.heap := hP
  have hl := lv_entry ([.ref h0, .int p1, .int p2]) (n := 4) (Nat.le_of_ble_eq_true rfl)
  rw [lg_entry_eq]
  generalize (lg_sl ([.ref h0, .int p1, .int p2]) ++ List.replicate (4 - (lg_sl ([.ref h0, .int p1, .int p2])).length) Slot.unset).toArray = ls at hl ⊢
  have hl : lv_has ls 4 [(0, .ref h0), (1, .int p1), (2, .int p2)] := hl
  refine lv_aload_n hx hb dX0_append_0 rfl (lv_at hl 0 rfl) ?_
  refine va_get (D := (dC, dI)) (ci := 0) (v := .int (nI n)) (C := RX0) (T := TX0) (N := 10) hx hb hts in_X0_append hown hK hP 0 rfl rfl 4 (by decide) (hts (.fieldLink RX0 22 "BranchLengths" "itemCount" "I") (by decide +kernel)) (fun _ h9 => h9) rfl dX0_append_1 ?_
  refine lv_sipush (v := 2000) hx hb dX0_append_4 (by decide) ?_
  refine lv_icmp_lt (tgt := 12) hx hb dX0_append_7 (by decide) (fun hc => ?_) (fun hc => ?_)
  · refine lv_aload_n hx hb dX0_append_12 rfl (lv_at hl 0 rfl) ?_
    refine va_get (D := (dC, dI)) (ci := 0) (v := .int (nI n)) (C := RX0) (T := TX0) (N := 10) hx hb hts in_X0_append hown hK hP 0 rfl rfl 4 (by decide) (hts (.fieldLink RX0 22 "BranchLengths" "itemCount" "I") (by decide +kernel)) (fun _ h9 => h9) rfl dX0_append_13 ?_
    refine lv_istore_n (lv' := [(3, .int (nI n)), (0, .ref h0), (1, .int p1), (2, .int p2)]) hx hb dX0_append_16 rfl hl (by decide) rfl (fun ls hl => ?_)
    refine lv_aload_n hx hb dX0_append_17 rfl (lv_at hl 1 rfl) ?_
    refine va_get (D := (dC, dI)) (ci := 0) (v := .ref a1) (C := RX0) (T := TX0) (N := 10) hx hb hts in_X0_append hown hK hP 0 rfl rfl 0 (by decide) (hts (.fieldLink RX0 9 "BranchLengths" "words" "[I") (by decide +kernel)) (fun _ h9 => h9) rfl dX0_append_18 ?_
    refine lv_iload_n hx hb dX0_append_21 rfl (lv_at hl 0 rfl) ?_
    refine lv_iload_n hx hb dX0_append_22 rfl (lv_at hl 2 rfl) ?_
    refine na_iast (k := n) hx hb hK hP hD hS 1 0 rfl rfl (by omega) (by decide) (upd f1 n p1) (rfl) dX0_append_23 (fun H locs hP hD hS => ?_)
    have hP : va_P (dC, dI) vwCl [(h0, .inr (0, [.ref a1, .ref a2, .ref a3, .ref a4, .int (nI n), .int kc, .int lc, .int rn, .int ml, .int lo])), (a1, .inl (cA, 2000, .inl (upd f1 n p1))), (a2, .inl (cA, 2000, .inl f2)), (a3, .inl (cA, 2000, .inl f3)), (a4, .inl (cA, 2000, .inl f4))] H := hP
    have hD : va_D A [(h0, .inr (0, [.ref a1, .ref a2, .ref a3, .ref a4, .int (nI n), .int kc, .int lc, .int rn, .int ml, .int lo])), (a1, .inl (cA, 2000, .inl (upd f1 n p1))), (a2, .inl (cA, 2000, .inl f2)), (a3, .inl (cA, 2000, .inl f3)), (a4, .inl (cA, 2000, .inl f4))] := hD
    refine lv_aload_n hx hb dX0_append_24 rfl (lv_at hl 1 rfl) ?_
    refine va_get (D := (dC, dI)) (ci := 0) (v := .ref a2) (C := RX0) (T := TX0) (N := 10) hx hb hts in_X0_append hown hK hP 0 rfl rfl 1 (by decide) (hts (.fieldLink RX0 13 "BranchLengths" "targets" "[I") (by decide +kernel)) (fun _ h9 => h9) rfl dX0_append_25 ?_
    refine lv_iload_n hx hb dX0_append_28 rfl (lv_at hl 0 rfl) ?_
    refine lv_iload_n hx hb dX0_append_29 rfl (lv_at hl 3 rfl) ?_
    refine na_iast (k := n) hx hb hK hP hD hS 2 0 rfl rfl (by omega) (by decide) (upd f2 n p2) (rfl) dX0_append_30 (fun H locs hP hD hS => ?_)
    have hP : va_P (dC, dI) vwCl [(h0, .inr (0, [.ref a1, .ref a2, .ref a3, .ref a4, .int (nI n), .int kc, .int lc, .int rn, .int ml, .int lo])), (a1, .inl (cA, 2000, .inl (upd f1 n p1))), (a2, .inl (cA, 2000, .inl (upd f2 n p2))), (a3, .inl (cA, 2000, .inl f3)), (a4, .inl (cA, 2000, .inl f4))] H := hP
    have hD : va_D A [(h0, .inr (0, [.ref a1, .ref a2, .ref a3, .ref a4, .int (nI n), .int kc, .int lc, .int rn, .int ml, .int lo])), (a1, .inl (cA, 2000, .inl (upd f1 n p1))), (a2, .inl (cA, 2000, .inl (upd f2 n p2))), (a3, .inl (cA, 2000, .inl f3)), (a4, .inl (cA, 2000, .inl f4))] := hD
    refine lv_aload_n hx hb dX0_append_31 rfl (lv_at hl 1 rfl) ?_
    refine lv_dup hx hb dX0_append_32 rfl ?_
    refine va_get (D := (dC, dI)) (ci := 0) (v := .int (nI n)) (C := RX0) (T := TX0) (N := 10) hx hb hts in_X0_append hown hK hP 0 rfl rfl 4 (by decide) (hts (.fieldLink RX0 22 "BranchLengths" "itemCount" "I") (by decide +kernel)) (fun _ h9 => h9) rfl dX0_append_33 ?_
    refine lv_iconst (v := 1) hx hb dX0_append_36 (by decide) ?_
    refine lv_iadd hx hb dX0_append_37 ?_
    refine na_eqi (y := nI (n + 1)) (nI_1 n) ?_
    refine va_put (D := (dC, dI)) (ci := 0) (v := .int (nI (n + 1))) (ty := .int) (C := RX0) (T := TX0) (N := 10) hx hb hts in_X0_append tyX0 tyX0_ok nmX0 hown hK hP hD hS 0 rfl rfl 4 (by decide) (hts (.fieldLink RX0 22 "BranchLengths" "itemCount" "I") (by decide +kernel)) (fun _ h9 => h9) rfl (by decide +kernel) rfl rfl (Nat.le_of_ble_eq_true rfl) dX0_append_38 (fun H locs hP hD hS => ?_)
    have hP : va_P (dC, dI) vwCl [(h0, .inr (0, [.ref a1, .ref a2, .ref a3, .ref a4, .int (nI (n + 1)), .int kc, .int lc, .int rn, .int ml, .int lo])), (a1, .inl (cA, 2000, .inl (upd f1 n p1))), (a2, .inl (cA, 2000, .inl (upd f2 n p2))), (a3, .inl (cA, 2000, .inl f3)), (a4, .inl (cA, 2000, .inl f4))] H := hP
    have hD : va_D A [(h0, .inr (0, [.ref a1, .ref a2, .ref a3, .ref a4, .int (nI (n + 1)), .int kc, .int lc, .int rn, .int ml, .int lo])), (a1, .inl (cA, 2000, .inl (upd f1 n p1))), (a2, .inl (cA, 2000, .inl (upd f2 n p2))), (a3, .inl (cA, 2000, .inl f3)), (a4, .inl (cA, 2000, .inl f4))] := hD
    refine lv_aload_n hx hb dX0_append_41 rfl (lv_at hl 1 rfl) ?_
    refine lv_iconst (v := 0) hx hb dX0_append_42 (by decide) ?_
    refine va_put (D := (dC, dI)) (ci := 0) (v := .int 0) (ty := .boolean) (C := RX0) (T := TX0) (N := 10) hx hb hts in_X0_append tyX0 tyX0_ok nmX0 hown hK hP hD hS 0 rfl rfl 9 (by decide) (hts (.fieldLink RX0 38 "BranchLengths" "laidOut" "Z") (by decide +kernel)) (fun _ h9 => h9) rfl (by decide +kernel) rfl rfl (Nat.le_of_ble_eq_true rfl) dX0_append_43 (fun H locs hP hD hS => ?_)
    have hP : va_P (dC, dI) vwCl [(h0, .inr (0, [.ref a1, .ref a2, .ref a3, .ref a4, .int (nI (n + 1)), .int kc, .int lc, .int rn, .int ml, .int 0])), (a1, .inl (cA, 2000, .inl (upd f1 n p1))), (a2, .inl (cA, 2000, .inl (upd f2 n p2))), (a3, .inl (cA, 2000, .inl f3)), (a4, .inl (cA, 2000, .inl f4))] H := hP
    have hD : va_D A [(h0, .inr (0, [.ref a1, .ref a2, .ref a3, .ref a4, .int (nI (n + 1)), .int kc, .int lc, .int rn, .int ml, .int 0])), (a1, .inl (cA, 2000, .inl (upd f1 n p1))), (a2, .inl (cA, 2000, .inl (upd f2 n p2))), (a3, .inl (cA, 2000, .inl f3)), (a4, .inl (cA, 2000, .inl f4))] := hD
    refine lv_iload_n hx hb dX0_append_46 rfl (lv_at hl 0 rfl) ?_
    exact W.iret (v := (nI n)) hx hb hr (fun t ht hW => ⟨⟨(nI n), (), rfl, rfl, by rw [ht]; exact hP, va_K.moved hW.alike hK, hD⟩, hS.F ht⟩) hS.2.2 dX0_append_47
  · exact absurd (show nI n < nI 2000 from nI_lt hn (by decide)) hc
set_option maxHeartbeats 4000000 in
set_option maxRecDepth 100000 in
/-- isItem(p) -/
theorem c_isItem (l : Launch) (dC : Nat → ClassId) (dI : Nat → Nat → Nat) (cA : ClassId) (h0 a1 a2 a3 a4 sz : Nat) (f1 f2 f3 f4 : Nat → Int32) (n : Nat) (kc lc rn ml lo p1 : Int32)  : na_Mi (S := Unit) l yX0_isItem wsX0_isItem ({ frames := 0, cells := 0, slots := 0, locals := 0 }) (dC, dI) vwCl [(cA, .int)] sz [.ref h0, .int p1] [(h0, .inr (0, [.ref a1, .ref a2, .ref a3, .ref a4, .int (nI n), .int kc, .int lc, .int rn, .int ml, .int lo])), (a1, .inl (cA, 2000, .inl f1)), (a2, .inl (cA, 2000, .inl f2)), (a3, .inl (cA, 2000, .inl f3)), (a4, .inl (cA, 2000, .inl f4))] (fun r _ => r = if (¬ p1 < 0 ∧ ¬ nI n ≤ p1) then 1 else 0) (fun _ => [(h0, .inr (0, [.ref a1, .ref a2, .ref a3, .ref a4, .int (nI n), .int kc, .int lc, .int rn, .int ml, .int lo])), (a1, .inl (cA, 2000, .inl f1)), (a2, .inl (cA, 2000, .inl f2)), (a3, .inl (cA, 2000, .inl f3)), (a4, .inl (cA, 2000, .inl f4))]) := by
  refine Met.ofW (cc := cX0_isItem) (maxL := 2) (ret := (some .boolean)) (by decide) rfl ?_
  intro p e s m args below meth c s₁ B hml hv
  obtain ⟨rfl, hsz, hP, hK, hD0⟩ := hv
  have hx := B.exec
  have hb := B.bytes
  have hr := B.returns
  have hts := atoms_spec (ws := wsX0_isItem) B.pre
  have hown : s.vm.findClass RX0 = some m.cls := findClass_of_methodNamed B.named
  have hlocks := B.notSynchronized
  subst hsz
  have hD := hD0.self (sz := s.heap.size)
  generalize hAe : va_A [(h0, .inr (0, [.ref a1, .ref a2, .ref a3, .ref a4, .int (nI n), .int kc, .int lc, .int rn, .int ml, .int lo])), (a1, .inl (cA, 2000, .inl f1)), (a2, .inl (cA, 2000, .inl f2)), (a3, .inl (cA, 2000, .inl f3)), (a4, .inl (cA, 2000, .inl f4))] s.heap.size = A at hD ⊢
  have hA : ∀ q : Nat, s.heap.size ≤ q → A q := fun q h => by rw [← hAe]; exact Or.inr h
  have hS : va_S A s.heap s.heap [] := va_S.rf
  have hP : va_P (dC, dI) vwCl [(h0, .inr (0, [.ref a1, .ref a2, .ref a3, .ref a4, .int (nI n), .int kc, .int lc, .int rn, .int ml, .int lo])), (a1, .inl (cA, 2000, .inl f1)), (a2, .inl (cA, 2000, .inl f2)), (a3, .inl (cA, 2000, .inl f3)), (a4, .inl (cA, 2000, .inl f4))] s.heap := hP
  have hl := lv_entry ([.ref h0, .int p1]) (n := 2) (Nat.le_of_ble_eq_true rfl)
  rw [lg_entry_eq]
  generalize (lg_sl ([.ref h0, .int p1]) ++ List.replicate (2 - (lg_sl ([.ref h0, .int p1])).length) Slot.unset).toArray = ls at hl ⊢
  have hl : lv_has ls 2 [(0, .ref h0), (1, .int p1)] := hl
  refine lv_iload_n hx hb dX0_isItem_0 rfl (lv_at hl 1 rfl) ?_
  refine lv_if_lt (tgt := 16) hx hb dX0_isItem_1 (by decide) (fun hc2 => ?_) (fun hc2 => ?_)
  · refine lv_iconst (v := 0) hx hb dX0_isItem_16 (by decide) ?_
    exact W.zret (v := 0) hx hb hr rfl (fun t ht hW => ⟨⟨0, (), rfl, (if_neg (fun q => q.1 hc2)).symm, by rw [ht]; exact hP, va_K.moved hW.alike hK, hD⟩, hS.F ht⟩) hS.2.2 dX0_isItem_17
  · refine lv_iload_n hx hb dX0_isItem_4 rfl (lv_at hl 1 rfl) ?_
    refine lv_aload_n hx hb dX0_isItem_5 rfl (lv_at hl 0 rfl) ?_
    refine va_get (D := (dC, dI)) (ci := 0) (v := .int (nI n)) (C := RX0) (T := TX0) (N := 10) hx hb hts in_X0_isItem hown hK hP 0 rfl rfl 4 (by decide) (hts (.fieldLink RX0 22 "BranchLengths" "itemCount" "I") (by decide +kernel)) (fun _ h9 => h9) rfl dX0_isItem_6 ?_
    refine lv_icmp_ge (tgt := 16) hx hb dX0_isItem_9 (by decide) (fun hc3 => ?_) (fun hc3 => ?_)
    · refine lv_iconst (v := 0) hx hb dX0_isItem_16 (by decide) ?_
      exact W.zret (v := 0) hx hb hr rfl (fun t ht hW => ⟨⟨0, (), rfl, (if_neg (fun q => q.2 hc3)).symm, by rw [ht]; exact hP, va_K.moved hW.alike hK, hD⟩, hS.F ht⟩) hS.2.2 dX0_isItem_17
    · refine lv_iconst (v := 1) hx hb dX0_isItem_12 (by decide) ?_
      refine lv_goto (tgt := 17) hx hb dX0_isItem_13 (by decide) ?_
      exact W.zret (v := 1) hx hb hr rfl (fun t ht hW => ⟨⟨1, (), rfl, (if_pos ⟨hc2, hc3⟩).symm, by rw [ht]; exact hP, va_K.moved hW.alike hK, hD⟩, hS.F ht⟩) hS.2.2 dX0_isItem_17
set_option maxHeartbeats 4000000 in
set_option maxRecDepth 100000 in
/-- isMark(p) -/
theorem c_isMark (l : Launch) (dC : Nat → ClassId) (dI : Nat → Nat → Nat) (cA : ClassId) (h0 a1 a2 a3 a4 sz : Nat) (f1 f2 f3 f4 : Nat → Int32) (n : Nat) (kc lc rn ml lo p1 : Int32)  : na_Mi (S := Unit) l yX0_isMark wsX0_isMark ({ frames := 0, cells := 0, slots := 0, locals := 0 }) (dC, dI) vwCl [(cA, .int)] sz [.ref h0, .int p1] [(h0, .inr (0, [.ref a1, .ref a2, .ref a3, .ref a4, .int (nI n), .int kc, .int lc, .int rn, .int ml, .int lo])), (a1, .inl (cA, 2000, .inl f1)), (a2, .inl (cA, 2000, .inl f2)), (a3, .inl (cA, 2000, .inl f3)), (a4, .inl (cA, 2000, .inl f4))] (fun r _ => r = if (¬ p1 < 0 ∧ ¬ kc ≤ p1) then 1 else 0) (fun _ => [(h0, .inr (0, [.ref a1, .ref a2, .ref a3, .ref a4, .int (nI n), .int kc, .int lc, .int rn, .int ml, .int lo])), (a1, .inl (cA, 2000, .inl f1)), (a2, .inl (cA, 2000, .inl f2)), (a3, .inl (cA, 2000, .inl f3)), (a4, .inl (cA, 2000, .inl f4))]) := by
  refine Met.ofW (cc := cX0_isMark) (maxL := 2) (ret := (some .boolean)) (by decide) rfl ?_
  intro p e s m args below meth c s₁ B hml hv
  obtain ⟨rfl, hsz, hP, hK, hD0⟩ := hv
  have hx := B.exec
  have hb := B.bytes
  have hr := B.returns
  have hts := atoms_spec (ws := wsX0_isMark) B.pre
  have hown : s.vm.findClass RX0 = some m.cls := findClass_of_methodNamed B.named
  have hlocks := B.notSynchronized
  subst hsz
  have hD := hD0.self (sz := s.heap.size)
  generalize hAe : va_A [(h0, .inr (0, [.ref a1, .ref a2, .ref a3, .ref a4, .int (nI n), .int kc, .int lc, .int rn, .int ml, .int lo])), (a1, .inl (cA, 2000, .inl f1)), (a2, .inl (cA, 2000, .inl f2)), (a3, .inl (cA, 2000, .inl f3)), (a4, .inl (cA, 2000, .inl f4))] s.heap.size = A at hD ⊢
  have hA : ∀ q : Nat, s.heap.size ≤ q → A q := fun q h => by rw [← hAe]; exact Or.inr h
  have hS : va_S A s.heap s.heap [] := va_S.rf
  have hP : va_P (dC, dI) vwCl [(h0, .inr (0, [.ref a1, .ref a2, .ref a3, .ref a4, .int (nI n), .int kc, .int lc, .int rn, .int ml, .int lo])), (a1, .inl (cA, 2000, .inl f1)), (a2, .inl (cA, 2000, .inl f2)), (a3, .inl (cA, 2000, .inl f3)), (a4, .inl (cA, 2000, .inl f4))] s.heap := hP
  have hl := lv_entry ([.ref h0, .int p1]) (n := 2) (Nat.le_of_ble_eq_true rfl)
  rw [lg_entry_eq]
  generalize (lg_sl ([.ref h0, .int p1]) ++ List.replicate (2 - (lg_sl ([.ref h0, .int p1])).length) Slot.unset).toArray = ls at hl ⊢
  have hl : lv_has ls 2 [(0, .ref h0), (1, .int p1)] := hl
  refine lv_iload_n hx hb dX0_isMark_0 rfl (lv_at hl 1 rfl) ?_
  refine lv_if_lt (tgt := 16) hx hb dX0_isMark_1 (by decide) (fun hc2 => ?_) (fun hc2 => ?_)
  · refine lv_iconst (v := 0) hx hb dX0_isMark_16 (by decide) ?_
    exact W.zret (v := 0) hx hb hr rfl (fun t ht hW => ⟨⟨0, (), rfl, (if_neg (fun q => q.1 hc2)).symm, by rw [ht]; exact hP, va_K.moved hW.alike hK, hD⟩, hS.F ht⟩) hS.2.2 dX0_isMark_17
  · refine lv_iload_n hx hb dX0_isMark_4 rfl (lv_at hl 1 rfl) ?_
    refine lv_aload_n hx hb dX0_isMark_5 rfl (lv_at hl 0 rfl) ?_
    refine va_get (D := (dC, dI)) (ci := 0) (v := .int kc) (C := RX0) (T := TX0) (N := 10) hx hb hts in_X0_isMark hown hK hP 0 rfl rfl 5 (by decide) (hts (.fieldLink RX0 26 "BranchLengths" "markCount" "I") (by decide +kernel)) (fun _ h9 => h9) rfl dX0_isMark_6 ?_
    refine lv_icmp_ge (tgt := 16) hx hb dX0_isMark_9 (by decide) (fun hc3 => ?_) (fun hc3 => ?_)
    · refine lv_iconst (v := 0) hx hb dX0_isMark_16 (by decide) ?_
      exact W.zret (v := 0) hx hb hr rfl (fun t ht hW => ⟨⟨0, (), rfl, (if_neg (fun q => q.2 hc3)).symm, by rw [ht]; exact hP, va_K.moved hW.alike hK, hD⟩, hS.F ht⟩) hS.2.2 dX0_isMark_17
    · refine lv_iconst (v := 1) hx hb dX0_isMark_12 (by decide) ?_
      refine lv_goto (tgt := 17) hx hb dX0_isMark_13 (by decide) ?_
      exact W.zret (v := 1) hx hb hr rfl (fun t ht hW => ⟨⟨1, (), rfl, (if_pos ⟨hc2, hc3⟩).symm, by rw [ht]; exact hP, va_K.moved hW.alike hK, hD⟩, hS.F ht⟩) hS.2.2 dX0_isMark_17
set_option maxHeartbeats 4000000 in
set_option maxRecDepth 100000 in
/-- isLaid(p) -/
theorem c_isLaid (l : Launch) (dC : Nat → ClassId) (dI : Nat → Nat → Nat) (cA : ClassId) (h0 a1 a2 a3 a4 sz : Nat) (f1 f2 f3 f4 : Nat → Int32) (n : Nat) (kc lc rn ml lo p1 : Int32)  : na_Mi (S := Unit) l yX0_isLaid wsX0_isLaid ({ frames := 1, cells := 0, slots := 0, locals := 21 }) (dC, dI) vwCl [(cA, .int)] sz [.ref h0, .int p1] [(h0, .inr (0, [.ref a1, .ref a2, .ref a3, .ref a4, .int (nI n), .int kc, .int lc, .int rn, .int ml, .int lo])), (a1, .inl (cA, 2000, .inl f1)), (a2, .inl (cA, 2000, .inl f2)), (a3, .inl (cA, 2000, .inl f3)), (a4, .inl (cA, 2000, .inl f4))] (fun r _ => r = if (¬ lo = 0 ∧ ¬ p1 < 0 ∧ ¬ nI n ≤ p1) then 1 else 0) (fun _ => [(h0, .inr (0, [.ref a1, .ref a2, .ref a3, .ref a4, .int (nI n), .int kc, .int lc, .int rn, .int ml, .int lo])), (a1, .inl (cA, 2000, .inl f1)), (a2, .inl (cA, 2000, .inl f2)), (a3, .inl (cA, 2000, .inl f3)), (a4, .inl (cA, 2000, .inl f4))]) := by
  refine Met.ofW (cc := cX0_isLaid) (maxL := 2) (ret := (some .boolean)) (by decide) rfl ?_
  intro p e s m args below meth c s₁ B hml hv
  obtain ⟨rfl, hsz, hP, hK, hD0⟩ := hv
  have hx := B.exec
  have hb := B.bytes
  have hr := B.returns
  have hts := atoms_spec (ws := wsX0_isLaid) B.pre
  have hown : s.vm.findClass RX0 = some m.cls := findClass_of_methodNamed B.named
  have hlocks := B.notSynchronized
  subst hsz
  have hD := hD0.self (sz := s.heap.size)
  generalize hAe : va_A [(h0, .inr (0, [.ref a1, .ref a2, .ref a3, .ref a4, .int (nI n), .int kc, .int lc, .int rn, .int ml, .int lo])), (a1, .inl (cA, 2000, .inl f1)), (a2, .inl (cA, 2000, .inl f2)), (a3, .inl (cA, 2000, .inl f3)), (a4, .inl (cA, 2000, .inl f4))] s.heap.size = A at hD ⊢
  have hA : ∀ q : Nat, s.heap.size ≤ q → A q := fun q h => by rw [← hAe]; exact Or.inr h
  have hS : va_S A s.heap s.heap [] := va_S.rf
  have hP : va_P (dC, dI) vwCl [(h0, .inr (0, [.ref a1, .ref a2, .ref a3, .ref a4, .int (nI n), .int kc, .int lc, .int rn, .int ml, .int lo])), (a1, .inl (cA, 2000, .inl f1)), (a2, .inl (cA, 2000, .inl f2)), (a3, .inl (cA, 2000, .inl f3)), (a4, .inl (cA, 2000, .inl f4))] s.heap := hP
  have hl := lv_entry ([.ref h0, .int p1]) (n := 2) (Nat.le_of_ble_eq_true rfl)
  rw [lg_entry_eq]
  generalize (lg_sl ([.ref h0, .int p1]) ++ List.replicate (2 - (lg_sl ([.ref h0, .int p1])).length) Slot.unset).toArray = ls at hl ⊢
  have hl : lv_has ls 2 [(0, .ref h0), (1, .int p1)] := hl
  refine lv_aload_n hx hb dX0_isLaid_0 rfl (lv_at hl 0 rfl) ?_
  refine va_get (D := (dC, dI)) (ci := 0) (v := .int lo) (C := RX0) (T := TX0) (N := 10) hx hb hts in_X0_isLaid hown hK hP 0 rfl rfl 9 (by decide) (hts (.fieldLink RX0 38 "BranchLengths" "laidOut" "Z") (by decide +kernel)) (fun _ h9 => h9) rfl dX0_isLaid_1 ?_
  refine lv_if_eq (tgt := 19) hx hb dX0_isLaid_4 (by decide) (fun hc1 => ?_) (fun hc1 => ?_)
  · refine lv_iconst (v := 0) hx hb dX0_isLaid_19 (by decide) ?_
    exact W.zret (v := 0) hx hb hr rfl (fun t ht hW => ⟨⟨0, (), rfl, (if_neg (fun q => q.1 hc1)).symm, by rw [ht]; exact hP, va_K.moved hW.alike hK, hD⟩, hS.F ht⟩) hS.2.2 dX0_isLaid_20
  · refine lv_aload_n hx hb dX0_isLaid_7 rfl (lv_at hl 0 rfl) ?_
    refine lv_iload_n hx hb dX0_isLaid_8 rfl (lv_at hl 1 rfl) ?_
    refine na_calli (As := [.int p1]) (rest := []) (wc := [(h0, .inr (0, [.ref a1, .ref a2, .ref a3, .ref a4, .int (nI n), .int kc, .int lc, .int rn, .int ml, .int lo])), (a1, .inl (cA, 2000, .inl f1)), (a2, .inl (cA, 2000, .inl f2)), (a3, .inl (cA, 2000, .inl f3)), (a4, .inl (cA, 2000, .inl f4))]) (wr := []) (ci := 0) ⟨hx, hb, hml, hown, hts⟩ (c_isItem l dC dI cA h0 a1 a2 a3 a4 s.heap.size f1 f2 f3 f4 n kc lc rn ml lo p1) (cwV 1 hts gX0_isLaid_X0_isItem rfl rfl rfl (by decide +kernel) ⟨Nat.le_of_ble_eq_true rfl, Nat.le_of_ble_eq_true rfl⟩) hK hP hD hS hA [0, 1, 2, 3, 4] [] rfl rfl rfl rfl (by decide) rfl rfl 0 rfl rfl hl.1 (Nat.le_of_ble_eq_true rfl) dX0_isLaid_9 ⟨Nat.le_of_ble_eq_true rfl, Nat.le_of_ble_eq_true rfl⟩ rfl (fun r u H locs hw hP hD hS => ?_)
    have hP : va_P (dC, dI) vwCl [(h0, .inr (0, [.ref a1, .ref a2, .ref a3, .ref a4, .int (nI n), .int kc, .int lc, .int rn, .int ml, .int lo])), (a1, .inl (cA, 2000, .inl f1)), (a2, .inl (cA, 2000, .inl f2)), (a3, .inl (cA, 2000, .inl f3)), (a4, .inl (cA, 2000, .inl f4))] H := hP
    have hD : va_D A [(h0, .inr (0, [.ref a1, .ref a2, .ref a3, .ref a4, .int (nI n), .int kc, .int lc, .int rn, .int ml, .int lo])), (a1, .inl (cA, 2000, .inl f1)), (a2, .inl (cA, 2000, .inl f2)), (a3, .inl (cA, 2000, .inl f3)), (a4, .inl (cA, 2000, .inl f4))] := hD
    subst hw
    refine lv_if_eq (tgt := 19) hx hb dX0_isLaid_12 (by decide) (fun hc2 => ?_) (fun hc2 => ?_)
    · refine lv_iconst (v := 0) hx hb dX0_isLaid_19 (by decide) ?_
      exact W.zret (v := 0) hx hb hr rfl (fun t ht hW => ⟨⟨0, (), rfl, (if_neg (fun q => na_if0 hc2 q.2)).symm, by rw [ht]; exact hP, va_K.moved hW.alike hK, hD⟩, hS.F ht⟩) hS.2.2 dX0_isLaid_20
    · refine lv_iconst (v := 1) hx hb dX0_isLaid_15 (by decide) ?_
      refine lv_goto (tgt := 20) hx hb dX0_isLaid_16 (by decide) ?_
      exact W.zret (v := 1) hx hb hr rfl (fun t ht hW => ⟨⟨1, (), rfl, (if_pos ⟨hc1, na_if1 hc2⟩).symm, by rw [ht]; exact hP, va_K.moved hW.alike hK, hD⟩, hS.F ht⟩) hS.2.2 dX0_isLaid_20
set_option maxHeartbeats 4000000 in
set_option maxRecDepth 100000 in
/-- isBranch(k) -/
theorem c_isBranch (l : Launch) (dC : Nat → ClassId) (dI : Nat → Nat → Nat) (cA : ClassId) (h0 a1 a2 a3 a4 sz : Nat) (f1 f2 f3 f4 : Nat → Int32) (n k : Nat) (kc lc rn ml lo : Int32) (hk : k < 2000) : na_Mi (S := Unit) l yX0_isBranch wsX0_isBranch ({ frames := 0, cells := 0, slots := 0, locals := 0 }) (dC, dI) vwCl [(cA, .int)] sz [.ref h0, .int (nI k)] [(h0, .inr (0, [.ref a1, .ref a2, .ref a3, .ref a4, .int (nI n), .int kc, .int lc, .int rn, .int ml, .int lo])), (a1, .inl (cA, 2000, .inl f1)), (a2, .inl (cA, 2000, .inl f2)), (a3, .inl (cA, 2000, .inl f3)), (a4, .inl (cA, 2000, .inl f4))] (fun r _ => r = if f2 k = -1 then 0 else 1) (fun _ => [(h0, .inr (0, [.ref a1, .ref a2, .ref a3, .ref a4, .int (nI n), .int kc, .int lc, .int rn, .int ml, .int lo])), (a1, .inl (cA, 2000, .inl f1)), (a2, .inl (cA, 2000, .inl f2)), (a3, .inl (cA, 2000, .inl f3)), (a4, .inl (cA, 2000, .inl f4))]) := by
  refine Met.ofW (cc := cX0_isBranch) (maxL := 2) (ret := (some .boolean)) (by decide) rfl ?_
  intro p e s m args below meth c s₁ B hml hv
  obtain ⟨rfl, hsz, hP, hK, hD0⟩ := hv
  have hx := B.exec
  have hb := B.bytes
  have hr := B.returns
  have hts := atoms_spec (ws := wsX0_isBranch) B.pre
  have hown : s.vm.findClass RX0 = some m.cls := findClass_of_methodNamed B.named
  have hlocks := B.notSynchronized
  subst hsz
  have hD := hD0.self (sz := s.heap.size)
  generalize hAe : va_A [(h0, .inr (0, [.ref a1, .ref a2, .ref a3, .ref a4, .int (nI n), .int kc, .int lc, .int rn, .int ml, .int lo])), (a1, .inl (cA, 2000, .inl f1)), (a2, .inl (cA, 2000, .inl f2)), (a3, .inl (cA, 2000, .inl f3)), (a4, .inl (cA, 2000, .inl f4))] s.heap.size = A at hD ⊢
  have hA : ∀ q : Nat, s.heap.size ≤ q → A q := fun q h => by rw [← hAe]; exact Or.inr h
  have hS : va_S A s.heap s.heap [] := va_S.rf
  have hP : va_P (dC, dI) vwCl [(h0, .inr (0, [.ref a1, .ref a2, .ref a3, .ref a4, .int (nI n), .int kc, .int lc, .int rn, .int ml, .int lo])), (a1, .inl (cA, 2000, .inl f1)), (a2, .inl (cA, 2000, .inl f2)), (a3, .inl (cA, 2000, .inl f3)), (a4, .inl (cA, 2000, .inl f4))] s.heap := hP
  have hl := lv_entry ([.ref h0, .int (nI k)]) (n := 2) (Nat.le_of_ble_eq_true rfl)
  rw [lg_entry_eq]
  generalize (lg_sl ([.ref h0, .int (nI k)]) ++ List.replicate (2 - (lg_sl ([.ref h0, .int (nI k)])).length) Slot.unset).toArray = ls at hl ⊢
  have hl : lv_has ls 2 [(0, .ref h0), (1, .int (nI k))] := hl
  refine lv_aload_n hx hb dX0_isBranch_0 rfl (lv_at hl 0 rfl) ?_
  refine va_get (D := (dC, dI)) (ci := 0) (v := .ref a2) (C := RX0) (T := TX0) (N := 10) hx hb hts in_X0_isBranch hown hK hP 0 rfl rfl 1 (by decide) (hts (.fieldLink RX0 13 "BranchLengths" "targets" "[I") (by decide +kernel)) (fun _ h9 => h9) rfl dX0_isBranch_1 ?_
  refine lv_iload_n hx hb dX0_isBranch_4 rfl (lv_at hl 1 rfl) ?_
  refine na_iald (k := k) hx hb hK hP 2 0 rfl rfl (by omega) (by decide) dX0_isBranch_5 ?_
  refine lv_iconst (v := -1) hx hb dX0_isBranch_6 (by decide) ?_
  refine lv_icmp_eq (tgt := 14) hx hb dX0_isBranch_7 (by decide) (fun hc => ?_) (fun hc => ?_)
  · refine lv_iconst (v := 0) hx hb dX0_isBranch_14 (by decide) ?_
    exact W.zret (v := 0) hx hb hr rfl (fun t ht hW => ⟨⟨0, (), rfl, (if_pos hc).symm, by rw [ht]; exact hP, va_K.moved hW.alike hK, hD⟩, hS.F ht⟩) hS.2.2 dX0_isBranch_15
  · refine lv_iconst (v := 1) hx hb dX0_isBranch_10 (by decide) ?_
    refine lv_goto (tgt := 15) hx hb dX0_isBranch_11 (by decide) ?_
    exact W.zret (v := 1) hx hb hr rfl (fun t ht hW => ⟨⟨1, (), rfl, (if_neg hc).symm, by rw [ht]; exact hP, va_K.moved hW.alike hK, hD⟩, hS.F ht⟩) hS.2.2 dX0_isBranch_15
set_option maxHeartbeats 4000000 in
set_option maxRecDepth 100000 in
/-- firstMarkless() -/
theorem c_firstMarkless (l : Launch) (dC : Nat → ClassId) (dI : Nat → Nat → Nat) (cA : ClassId) (h0 a1 a2 a3 a4 sz : Nat) (f1 f2 f3 f4 : Nat → Int32) (n : Nat) (kc lc rn ml lo : Int32) (hn : n ≤ 2000) (hk0 : (-1 : Int32) < kc) (hf : ∀ j, j < n → ¬ f2 j = -1 → ¬ f2 j < 0) : na_Mi (S := Unit) l yX0_firstMarkless wsX0_firstMarkless ({ frames := 1, cells := 0, slots := 0, locals := 21 }) (dC, dI) vwCl [(cA, .int)] sz [.ref h0] [(h0, .inr (0, [.ref a1, .ref a2, .ref a3, .ref a4, .int (nI n), .int kc, .int lc, .int rn, .int ml, .int lo])), (a1, .inl (cA, 2000, .inl f1)), (a2, .inl (cA, 2000, .inl f2)), (a3, .inl (cA, 2000, .inl f3)), (a4, .inl (cA, 2000, .inl f4))] (fun r _ => xFm f2 kc n r) (fun _ => [(h0, .inr (0, [.ref a1, .ref a2, .ref a3, .ref a4, .int (nI n), .int kc, .int lc, .int rn, .int ml, .int lo])), (a1, .inl (cA, 2000, .inl f1)), (a2, .inl (cA, 2000, .inl f2)), (a3, .inl (cA, 2000, .inl f3)), (a4, .inl (cA, 2000, .inl f4))]) := by
  refine Met.ofW (cc := cX0_firstMarkless) (maxL := 2) (ret := (some .int)) (by decide) rfl ?_
  intro p e s m args below meth c s₁ B hml hv
  obtain ⟨rfl, hsz, hP, hK, hD0⟩ := hv
  have hx := B.exec
  have hb := B.bytes
  have hr := B.returns
  have hts := atoms_spec (ws := wsX0_firstMarkless) B.pre
  have hown : s.vm.findClass RX0 = some m.cls := findClass_of_methodNamed B.named
  have hlocks := B.notSynchronized
  subst hsz
  have hD := hD0.self (sz := s.heap.size)
  generalize hAe : va_A [(h0, .inr (0, [.ref a1, .ref a2, .ref a3, .ref a4, .int (nI n), .int kc, .int lc, .int rn, .int ml, .int lo])), (a1, .inl (cA, 2000, .inl f1)), (a2, .inl (cA, 2000, .inl f2)), (a3, .inl (cA, 2000, .inl f3)), (a4, .inl (cA, 2000, .inl f4))] s.heap.size = A at hD ⊢
  have hA : ∀ q : Nat, s.heap.size ≤ q → A q := fun q h => by rw [← hAe]; exact Or.inr h
  have hS : va_S A s.heap s.heap [] := va_S.rf
  have hP : va_P (dC, dI) vwCl [(h0, .inr (0, [.ref a1, .ref a2, .ref a3, .ref a4, .int (nI n), .int kc, .int lc, .int rn, .int ml, .int lo])), (a1, .inl (cA, 2000, .inl f1)), (a2, .inl (cA, 2000, .inl f2)), (a3, .inl (cA, 2000, .inl f3)), (a4, .inl (cA, 2000, .inl f4))] s.heap := hP
  have hl := lv_entry ([.ref h0]) (n := 2) (Nat.le_of_ble_eq_true rfl)
  rw [lg_entry_eq]
  generalize (lg_sl ([.ref h0]) ++ List.replicate (2 - (lg_sl ([.ref h0])).length) Slot.unset).toArray = ls at hl ⊢
  have hl : lv_has ls 2 [(0, .ref h0)] := hl
  refine lv_iconst (v := nI 0) hx hb dX0_firstMarkless_0 rfl ?_
  refine lv_istore_n (lv' := [(1, .int (nI 0)), (0, .ref h0)]) hx hb dX0_firstMarkless_1 rfl hl (by decide) rfl (fun ls hl => ?_)
  refine na_loop (pc := 2) (fun (d : Nat) (k : Nat) (H : Heap) (locs : List Loc) (ls : Array Slot) => (k ≤ n ∧ d = n - k ∧ ∀ j, j < k → f2 j < kc) ∧ va_P (dC, dI) vwCl [(h0, .inr (0, [.ref a1, .ref a2, .ref a3, .ref a4, .int (nI n), .int kc, .int lc, .int rn, .int ml, .int lo])), (a1, .inl (cA, 2000, .inl f1)), (a2, .inl (cA, 2000, .inl f2)), (a3, .inl (cA, 2000, .inl f3)), (a4, .inl (cA, 2000, .inl f4))] H ∧ va_D A [(h0, .inr (0, [.ref a1, .ref a2, .ref a3, .ref a4, .int (nI n), .int kc, .int lc, .int rn, .int ml, .int lo])), (a1, .inl (cA, 2000, .inl f1)), (a2, .inl (cA, 2000, .inl f2)), (a3, .inl (cA, 2000, .inl f3)), (a4, .inl (cA, 2000, .inl f4))] ∧ va_S A s.heap H locs ∧ lv_has ls 2 [(0, .ref h0), (1, .int (nI k))]) ?_ (n - 0) (0) ⟨⟨Nat.zero_le _, rfl, fun j h => absurd h (by omega)⟩, hP, hD, hS, lv_sub hl [1, 0] rfl⟩
  intro d k H locs ls hI ih
  obtain ⟨⟨hkn, hd, hinv⟩, hP, hD, hS, hl⟩ := hI
  refine lv_iload_n hx hb dX0_firstMarkless_2 rfl (lv_at hl 1 rfl) ?_
  refine lv_aload_n hx hb dX0_firstMarkless_3 rfl (lv_at hl 0 rfl) ?_
  refine va_get (D := (dC, dI)) (ci := 0) (v := .int (nI n)) (C := RX0) (T := TX0) (N := 10) hx hb hts in_X0_firstMarkless hown hK hP 0 rfl rfl 4 (by decide) (hts (.fieldLink RX0 22 "BranchLengths" "itemCount" "I") (by decide +kernel)) (fun _ h9 => h9) rfl dX0_firstMarkless_4 ?_
  refine lv_icmp_ge (tgt := 39) hx hb dX0_firstMarkless_7 (by decide) (fun hc => ?_) (fun hc => ?_)
  · have hkn' := na_ge (by omega) hkn hc
    subst hkn'
    refine lv_iconst (v := -1) hx hb dX0_firstMarkless_39 (by decide) ?_
    exact W.iret (v := (-1)) hx hb hr (fun t ht hW => ⟨⟨(-1), (), rfl, Or.inl ⟨rfl, hinv⟩, by rw [ht]; exact hP, va_K.moved hW.alike hK, hD⟩, hS.F ht⟩) hS.2.2 dX0_firstMarkless_40
  · have hlt := na_nge (by omega) hkn hc
    refine lv_aload_n hx hb dX0_firstMarkless_10 rfl (lv_at hl 0 rfl) ?_
    refine lv_iload_n hx hb dX0_firstMarkless_11 rfl (lv_at hl 1 rfl) ?_
    refine na_calli (As := [.int (nI k)]) (rest := []) (wc := [(h0, .inr (0, [.ref a1, .ref a2, .ref a3, .ref a4, .int (nI n), .int kc, .int lc, .int rn, .int ml, .int lo])), (a1, .inl (cA, 2000, .inl f1)), (a2, .inl (cA, 2000, .inl f2)), (a3, .inl (cA, 2000, .inl f3)), (a4, .inl (cA, 2000, .inl f4))]) (wr := []) (ci := 0) ⟨hx, hb, hml, hown, hts⟩ (c_isBranch l dC dI cA h0 a1 a2 a3 a4 H.size f1 f2 f3 f4 n k kc lc rn ml lo (by omega)) (cwV 1 hts gX0_firstMarkless_X0_isBranch rfl rfl rfl (by decide +kernel) ⟨Nat.le_of_ble_eq_true rfl, Nat.le_of_ble_eq_true rfl⟩) hK hP hD hS hA [0, 1, 2, 3, 4] [] rfl rfl rfl rfl (by decide) rfl rfl 0 rfl rfl hl.1 (Nat.le_of_ble_eq_true rfl) dX0_firstMarkless_12 ⟨Nat.le_of_ble_eq_true rfl, Nat.le_of_ble_eq_true rfl⟩ rfl (fun r u H locs hw hP hD hS => ?_)
    have hP : va_P (dC, dI) vwCl [(h0, .inr (0, [.ref a1, .ref a2, .ref a3, .ref a4, .int (nI n), .int kc, .int lc, .int rn, .int ml, .int lo])), (a1, .inl (cA, 2000, .inl f1)), (a2, .inl (cA, 2000, .inl f2)), (a3, .inl (cA, 2000, .inl f3)), (a4, .inl (cA, 2000, .inl f4))] H := hP
    have hD : va_D A [(h0, .inr (0, [.ref a1, .ref a2, .ref a3, .ref a4, .int (nI n), .int kc, .int lc, .int rn, .int ml, .int lo])), (a1, .inl (cA, 2000, .inl f1)), (a2, .inl (cA, 2000, .inl f2)), (a3, .inl (cA, 2000, .inl f3)), (a4, .inl (cA, 2000, .inl f4))] := hD
    subst hw
    refine lv_if_eq (tgt := 33) hx hb dX0_firstMarkless_15 (by decide) (fun hc2 => ?_) (fun hc2 => ?_)
    · have hlk : f2 k < kc := by rw [na_if2 hc2]; exact hk0
      refine lv_iinc (v := nI (k + 1)) (lv' := [(1, .int (nI (k + 1))), (0, .ref h0)]) hx hb dX0_firstMarkless_33 hl (k := 1) rfl (nI_1 _) (by decide) rfl (fun ls hl => ?_)
      refine lv_goto (tgt := 2) hx hb dX0_firstMarkless_36 (by decide) ?_
      exact ih (n - (k + 1)) (k + 1) _ _ _ (by omega) ⟨⟨by omega, rfl, lt_s hinv hlk⟩, hP, hD, hS, lv_sub hl [1, 0] rfl⟩
    · have hb2 : ¬ f2 k = -1 := fun q => hc2 (if_pos q)
      refine lv_aload_n hx hb dX0_firstMarkless_18 rfl (lv_at hl 0 rfl) ?_
      refine lv_aload_n hx hb dX0_firstMarkless_19 rfl (lv_at hl 0 rfl) ?_
      refine va_get (D := (dC, dI)) (ci := 0) (v := .ref a2) (C := RX0) (T := TX0) (N := 10) hx hb hts in_X0_firstMarkless hown hK hP 0 rfl rfl 1 (by decide) (hts (.fieldLink RX0 13 "BranchLengths" "targets" "[I") (by decide +kernel)) (fun _ h9 => h9) rfl dX0_firstMarkless_20 ?_
      refine lv_iload_n hx hb dX0_firstMarkless_23 rfl (lv_at hl 1 rfl) ?_
      refine na_iald (k := k) hx hb hK hP 2 0 rfl rfl (by omega) (by decide) dX0_firstMarkless_24 ?_
      refine na_calli (As := [.int (f2 k)]) (rest := []) (wc := [(h0, .inr (0, [.ref a1, .ref a2, .ref a3, .ref a4, .int (nI n), .int kc, .int lc, .int rn, .int ml, .int lo])), (a1, .inl (cA, 2000, .inl f1)), (a2, .inl (cA, 2000, .inl f2)), (a3, .inl (cA, 2000, .inl f3)), (a4, .inl (cA, 2000, .inl f4))]) (wr := []) (ci := 0) ⟨hx, hb, hml, hown, hts⟩ (c_isMark l dC dI cA h0 a1 a2 a3 a4 H.size f1 f2 f3 f4 n kc lc rn ml lo (f2 k)) (cwV 1 hts gX0_firstMarkless_X0_isMark rfl rfl rfl (by decide +kernel) ⟨Nat.le_of_ble_eq_true rfl, Nat.le_of_ble_eq_true rfl⟩) hK hP hD hS hA [0, 1, 2, 3, 4] [] rfl rfl rfl rfl (by decide) rfl rfl 0 rfl rfl hl.1 (Nat.le_of_ble_eq_true rfl) dX0_firstMarkless_25 ⟨Nat.le_of_ble_eq_true rfl, Nat.le_of_ble_eq_true rfl⟩ rfl (fun r u H locs hw hP hD hS => ?_)
      have hP : va_P (dC, dI) vwCl [(h0, .inr (0, [.ref a1, .ref a2, .ref a3, .ref a4, .int (nI n), .int kc, .int lc, .int rn, .int ml, .int lo])), (a1, .inl (cA, 2000, .inl f1)), (a2, .inl (cA, 2000, .inl f2)), (a3, .inl (cA, 2000, .inl f3)), (a4, .inl (cA, 2000, .inl f4))] H := hP
      have hD : va_D A [(h0, .inr (0, [.ref a1, .ref a2, .ref a3, .ref a4, .int (nI n), .int kc, .int lc, .int rn, .int ml, .int lo])), (a1, .inl (cA, 2000, .inl f1)), (a2, .inl (cA, 2000, .inl f2)), (a3, .inl (cA, 2000, .inl f3)), (a4, .inl (cA, 2000, .inl f4))] := hD
      subst hw
      refine lv_if_ne (tgt := 33) hx hb dX0_firstMarkless_28 (by decide) (fun hc3 => ?_) (fun hc3 => ?_)
      · have hlk : f2 k < kc := na_nle (na_if1 hc3).2
        refine lv_iinc (v := nI (k + 1)) (lv' := [(1, .int (nI (k + 1))), (0, .ref h0)]) hx hb dX0_firstMarkless_33 hl (k := 1) rfl (nI_1 _) (by decide) rfl (fun ls hl => ?_)
        refine lv_goto (tgt := 2) hx hb dX0_firstMarkless_36 (by decide) ?_
        exact ih (n - (k + 1)) (k + 1) _ _ _ (by omega) ⟨⟨by omega, rfl, lt_s hinv hlk⟩, hP, hD, hS, lv_sub hl [1, 0] rfl⟩
      · refine lv_iload_n hx hb dX0_firstMarkless_31 rfl (lv_at hl 1 rfl) ?_
        exact W.iret (v := (nI k)) hx hb hr (fun t ht hW => ⟨⟨(nI k), (), rfl, Or.inr ⟨k, hlt, rfl, na_nmk (na_if0 hc3) (hf k hlt hb2), hinv⟩, by rw [ht]; exact hP, va_K.moved hW.alike hK, hD⟩, hS.F ht⟩) hS.2.2 dX0_firstMarkless_32
set_option maxHeartbeats 4000000 in
set_option maxRecDepth 100000 in
/-- setPlaces() -/
theorem c_setPlaces (l : Launch) (dC : Nat → ClassId) (dI : Nat → Nat → Nat) (cA : ClassId) (h0 a1 a2 a3 a4 sz : Nat) (f1 f2 f3 f4 : Nat → Int32) (n : Nat) (kc lc rn ml lo : Int32) (hn : n ≤ 2000) : na_Mi (S := Unit) l yX0_setPlaces wsX0_setPlaces ({ frames := 0, cells := 0, slots := 0, locals := 0 }) (dC, dI) vwCl [(cA, .int)] sz [.ref h0] [(h0, .inr (0, [.ref a1, .ref a2, .ref a3, .ref a4, .int (nI n), .int kc, .int lc, .int rn, .int ml, .int lo])), (a1, .inl (cA, 2000, .inl f1)), (a2, .inl (cA, 2000, .inl f2)), (a3, .inl (cA, 2000, .inl f3)), (a4, .inl (cA, 2000, .inl f4))] (fun r _ => r = bx_sum f1 n) (fun _ => [(h0, .inr (0, [.ref a1, .ref a2, .ref a3, .ref a4, .int (nI n), .int kc, .int lc, .int rn, .int ml, .int lo])), (a1, .inl (cA, 2000, .inl f1)), (a2, .inl (cA, 2000, .inl f2)), (a3, .inl (cA, 2000, .inl (xPl f1 f3 n))), (a4, .inl (cA, 2000, .inl f4))]) := by
  refine Met.ofW (cc := cX0_setPlaces) (maxL := 3) (ret := (some .int)) (by decide) rfl ?_
  intro p e s m args below meth c s₁ B hml hv
  obtain ⟨rfl, hsz, hP, hK, hD0⟩ := hv
  have hx := B.exec
  have hb := B.bytes
  have hr := B.returns
  have hts := atoms_spec (ws := wsX0_setPlaces) B.pre
  have hown : s.vm.findClass RX0 = some m.cls := findClass_of_methodNamed B.named
  have hlocks := B.notSynchronized
  subst hsz
  have hD := hD0.self (sz := s.heap.size)
  generalize hAe : va_A [(h0, .inr (0, [.ref a1, .ref a2, .ref a3, .ref a4, .int (nI n), .int kc, .int lc, .int rn, .int ml, .int lo])), (a1, .inl (cA, 2000, .inl f1)), (a2, .inl (cA, 2000, .inl f2)), (a3, .inl (cA, 2000, .inl f3)), (a4, .inl (cA, 2000, .inl f4))] s.heap.size = A at hD ⊢
  have hA : ∀ q : Nat, s.heap.size ≤ q → A q := fun q h => by rw [← hAe]; exact Or.inr h
  have hS : va_S A s.heap s.heap [] := va_S.rf
  have hP : va_P (dC, dI) vwCl [(h0, .inr (0, [.ref a1, .ref a2, .ref a3, .ref a4, .int (nI n), .int kc, .int lc, .int rn, .int ml, .int lo])), (a1, .inl (cA, 2000, .inl f1)), (a2, .inl (cA, 2000, .inl f2)), (a3, .inl (cA, 2000, .inl f3)), (a4, .inl (cA, 2000, .inl f4))] s.heap := hP
  have hl := lv_entry ([.ref h0]) (n := 3) (Nat.le_of_ble_eq_true rfl)
  rw [lg_entry_eq]
  generalize (lg_sl ([.ref h0]) ++ List.replicate (3 - (lg_sl ([.ref h0])).length) Slot.unset).toArray = ls at hl ⊢
  have hl : lv_has ls 3 [(0, .ref h0)] := hl
  refine lv_iconst (v := bx_sum f1 0) hx hb dX0_setPlaces_0 rfl ?_
  refine lv_istore_n (lv' := [(1, .int (bx_sum f1 0)), (0, .ref h0)]) hx hb dX0_setPlaces_1 rfl hl (by decide) rfl (fun ls hl => ?_)
  refine lv_iconst (v := nI 0) hx hb dX0_setPlaces_2 rfl ?_
  refine lv_istore_n (lv' := [(2, .int (nI 0)), (1, .int (bx_sum f1 0)), (0, .ref h0)]) hx hb dX0_setPlaces_3 rfl hl (by decide) rfl (fun ls hl => ?_)
  refine na_loop (pc := 4) (fun (d : Nat) (k : Nat) (H : Heap) (locs : List Loc) (ls : Array Slot) => (k ≤ n ∧ d = n - k) ∧ va_P (dC, dI) vwCl [(h0, .inr (0, [.ref a1, .ref a2, .ref a3, .ref a4, .int (nI n), .int kc, .int lc, .int rn, .int ml, .int lo])), (a1, .inl (cA, 2000, .inl f1)), (a2, .inl (cA, 2000, .inl f2)), (a3, .inl (cA, 2000, .inl (xPl f1 f3 k))), (a4, .inl (cA, 2000, .inl f4))] H ∧ va_D A [(h0, .inr (0, [.ref a1, .ref a2, .ref a3, .ref a4, .int (nI n), .int kc, .int lc, .int rn, .int ml, .int lo])), (a1, .inl (cA, 2000, .inl f1)), (a2, .inl (cA, 2000, .inl f2)), (a3, .inl (cA, 2000, .inl (xPl f1 f3 k))), (a4, .inl (cA, 2000, .inl f4))] ∧ va_S A s.heap H locs ∧ lv_has ls 3 [(0, .ref h0), (1, .int (bx_sum f1 k)), (2, .int (nI k))]) ?_ (n - 0) (0) ⟨⟨Nat.zero_le _, rfl⟩, by rw [xPl_0]; exact hP, by rw [xPl_0]; exact hD, hS, lv_sub hl [2, 1, 0] rfl⟩
  intro d k H locs ls hI ih
  obtain ⟨⟨hkn, hd⟩, hP, hD, hS, hl⟩ := hI
  refine lv_iload_n hx hb dX0_setPlaces_4 rfl (lv_at hl 2 rfl) ?_
  refine lv_aload_n hx hb dX0_setPlaces_5 rfl (lv_at hl 0 rfl) ?_
  refine va_get (D := (dC, dI)) (ci := 0) (v := .int (nI n)) (C := RX0) (T := TX0) (N := 10) hx hb hts in_X0_setPlaces hown hK hP 0 rfl rfl 4 (by decide) (hts (.fieldLink RX0 22 "BranchLengths" "itemCount" "I") (by decide +kernel)) (fun _ h9 => h9) rfl dX0_setPlaces_6 ?_
  refine lv_icmp_ge (tgt := 34) hx hb dX0_setPlaces_9 (by decide) (fun hc => ?_) (fun hc => ?_)
  · have hkn' := na_ge (by omega) hkn hc
    subst hkn'
    refine lv_iload_n hx hb dX0_setPlaces_34 rfl (lv_at hl 1 rfl) ?_
    exact W.iret (v := (bx_sum f1 n)) hx hb hr (fun t ht hW => ⟨⟨(bx_sum f1 n), (), rfl, rfl, by rw [ht]; exact hP, va_K.moved hW.alike hK, hD⟩, hS.F ht⟩) hS.2.2 dX0_setPlaces_35
  · have hlt := na_nge (by omega) hkn hc
    refine lv_aload_n hx hb dX0_setPlaces_12 rfl (lv_at hl 0 rfl) ?_
    refine va_get (D := (dC, dI)) (ci := 0) (v := .ref a3) (C := RX0) (T := TX0) (N := 10) hx hb hts in_X0_setPlaces hown hK hP 0 rfl rfl 2 (by decide) (hts (.fieldLink RX0 16 "BranchLengths" "places" "[I") (by decide +kernel)) (fun _ h9 => h9) rfl dX0_setPlaces_13 ?_
    refine lv_iload_n hx hb dX0_setPlaces_16 rfl (lv_at hl 2 rfl) ?_
    refine lv_iload_n hx hb dX0_setPlaces_17 rfl (lv_at hl 1 rfl) ?_
    refine na_iast (k := k) hx hb hK hP hD hS 3 0 rfl rfl (by omega) (by decide) (xPl f1 f3 (k + 1)) (xPl_s f1 f3 k) dX0_setPlaces_18 (fun H locs hP hD hS => ?_)
    have hP : va_P (dC, dI) vwCl [(h0, .inr (0, [.ref a1, .ref a2, .ref a3, .ref a4, .int (nI n), .int kc, .int lc, .int rn, .int ml, .int lo])), (a1, .inl (cA, 2000, .inl f1)), (a2, .inl (cA, 2000, .inl f2)), (a3, .inl (cA, 2000, .inl (xPl f1 f3 (k + 1)))), (a4, .inl (cA, 2000, .inl f4))] H := hP
    have hD : va_D A [(h0, .inr (0, [.ref a1, .ref a2, .ref a3, .ref a4, .int (nI n), .int kc, .int lc, .int rn, .int ml, .int lo])), (a1, .inl (cA, 2000, .inl f1)), (a2, .inl (cA, 2000, .inl f2)), (a3, .inl (cA, 2000, .inl (xPl f1 f3 (k + 1)))), (a4, .inl (cA, 2000, .inl f4))] := hD
    refine lv_iload_n hx hb dX0_setPlaces_19 rfl (lv_at hl 1 rfl) ?_
    refine lv_aload_n hx hb dX0_setPlaces_20 rfl (lv_at hl 0 rfl) ?_
    refine va_get (D := (dC, dI)) (ci := 0) (v := .ref a1) (C := RX0) (T := TX0) (N := 10) hx hb hts in_X0_setPlaces hown hK hP 0 rfl rfl 0 (by decide) (hts (.fieldLink RX0 9 "BranchLengths" "words" "[I") (by decide +kernel)) (fun _ h9 => h9) rfl dX0_setPlaces_21 ?_
    refine lv_iload_n hx hb dX0_setPlaces_24 rfl (lv_at hl 2 rfl) ?_
    refine na_iald (k := k) hx hb hK hP 1 0 rfl rfl (by omega) (by decide) dX0_setPlaces_25 ?_
    refine lv_iadd hx hb dX0_setPlaces_26 ?_
    refine na_eqi (y := bx_sum f1 (k + 1)) (rfl) ?_
    refine lv_istore_n (lv' := [(1, .int (bx_sum f1 (k + 1))), (0, .ref h0), (2, .int (nI k))]) hx hb dX0_setPlaces_27 rfl hl (by decide) rfl (fun ls hl => ?_)
    refine lv_iinc (v := nI (k + 1)) (lv' := [(2, .int (nI (k + 1))), (1, .int (bx_sum f1 (k + 1))), (0, .ref h0)]) hx hb dX0_setPlaces_28 hl (k := 2) rfl (nI_1 _) (by decide) rfl (fun ls hl => ?_)
    refine lv_goto (tgt := 4) hx hb dX0_setPlaces_31 (by decide) ?_
    exact ih (n - (k + 1)) (k + 1) _ _ _ (by omega) ⟨⟨by omega, rfl⟩, hP, hD, hS, lv_sub hl [2, 1, 0] rfl⟩
set_option maxHeartbeats 4000000 in
set_option maxRecDepth 100000 in
/-- reachesShort(k) -/
theorem c_reachesShort (l : Launch) (dC : Nat → ClassId) (dI : Nat → Nat → Nat) (cA : ClassId) (h0 a1 a2 a3 a4 sz : Nat) (f1 f2 f3 f4 : Nat → Int32) (n k t q : Nat) (kc lc rn ml lo : Int32) (hk : k < 2000) (ht : t < 2000) (hq : q < 2000) (e2 : f2 k = nI t) (e4 : f4 t = nI q) (hm : ¬ kc ≤ nI t) (hi : ¬ nI n ≤ nI q) : na_Mi (S := Unit) l yX0_reachesShort wsX0_reachesShort ({ frames := 1, cells := 0, slots := 0, locals := 21 }) (dC, dI) vwCl [(cA, .int)] sz [.ref h0, .int (nI k)] [(h0, .inr (0, [.ref a1, .ref a2, .ref a3, .ref a4, .int (nI n), .int kc, .int lc, .int rn, .int ml, .int lo])), (a1, .inl (cA, 2000, .inl f1)), (a2, .inl (cA, 2000, .inl f2)), (a3, .inl (cA, 2000, .inl f3)), (a4, .inl (cA, 2000, .inl f4))] (fun r _ => r = if xRs f2 f3 f4 rn k = true then 1 else 0) (fun _ => [(h0, .inr (0, [.ref a1, .ref a2, .ref a3, .ref a4, .int (nI n), .int kc, .int lc, .int rn, .int ml, .int lo])), (a1, .inl (cA, 2000, .inl f1)), (a2, .inl (cA, 2000, .inl f2)), (a3, .inl (cA, 2000, .inl f3)), (a4, .inl (cA, 2000, .inl f4))]) := by
  refine Met.ofW (cc := cX0_reachesShort) (maxL := 4) (ret := (some .boolean)) (by decide) rfl ?_
  intro p e s m args below meth c s₁ B hml hv
  obtain ⟨rfl, hsz, hP, hK, hD0⟩ := hv
  have hx := B.exec
  have hb := B.bytes
  have hr := B.returns
  have hts := atoms_spec (ws := wsX0_reachesShort) B.pre
  have hown : s.vm.findClass RX0 = some m.cls := findClass_of_methodNamed B.named
  have hlocks := B.notSynchronized
  subst hsz
  have hD := hD0.self (sz := s.heap.size)
  generalize hAe : va_A [(h0, .inr (0, [.ref a1, .ref a2, .ref a3, .ref a4, .int (nI n), .int kc, .int lc, .int rn, .int ml, .int lo])), (a1, .inl (cA, 2000, .inl f1)), (a2, .inl (cA, 2000, .inl f2)), (a3, .inl (cA, 2000, .inl f3)), (a4, .inl (cA, 2000, .inl f4))] s.heap.size = A at hD ⊢
  have hA : ∀ q : Nat, s.heap.size ≤ q → A q := fun q h => by rw [← hAe]; exact Or.inr h
  have hS : va_S A s.heap s.heap [] := va_S.rf
  have hP : va_P (dC, dI) vwCl [(h0, .inr (0, [.ref a1, .ref a2, .ref a3, .ref a4, .int (nI n), .int kc, .int lc, .int rn, .int ml, .int lo])), (a1, .inl (cA, 2000, .inl f1)), (a2, .inl (cA, 2000, .inl f2)), (a3, .inl (cA, 2000, .inl f3)), (a4, .inl (cA, 2000, .inl f4))] s.heap := hP
  have hl := lv_entry ([.ref h0, .int (nI k)]) (n := 4) (Nat.le_of_ble_eq_true rfl)
  rw [lg_entry_eq]
  generalize (lg_sl ([.ref h0, .int (nI k)]) ++ List.replicate (4 - (lg_sl ([.ref h0, .int (nI k)])).length) Slot.unset).toArray = ls at hl ⊢
  have hl : lv_has ls 4 [(0, .ref h0), (1, .int (nI k))] := hl
  have e5 : xTq f2 f4 k = q := by unfold xTq; rw [e2, nI_clamp (by omega), e4, nI_clamp (by omega)]
  refine lv_aload_n hx hb dX0_reachesShort_0 rfl (lv_at hl 0 rfl) ?_
  refine va_get (D := (dC, dI)) (ci := 0) (v := .ref a2) (C := RX0) (T := TX0) (N := 10) hx hb hts in_X0_reachesShort hown hK hP 0 rfl rfl 1 (by decide) (hts (.fieldLink RX0 13 "BranchLengths" "targets" "[I") (by decide +kernel)) (fun _ h9 => h9) rfl dX0_reachesShort_1 ?_
  refine lv_iload_n hx hb dX0_reachesShort_4 rfl (lv_at hl 1 rfl) ?_
  refine na_iald (k := k) hx hb hK hP 2 0 rfl rfl (by omega) (by decide) dX0_reachesShort_5 ?_
  refine na_eqi (y := nI t) (e2) ?_
  refine lv_istore_n (lv' := [(2, .int (nI t)), (0, .ref h0), (1, .int (nI k))]) hx hb dX0_reachesShort_6 rfl hl (by decide) rfl (fun ls hl => ?_)
  refine lv_aload_n hx hb dX0_reachesShort_7 rfl (lv_at hl 1 rfl) ?_
  refine lv_iload_n hx hb dX0_reachesShort_8 rfl (lv_at hl 0 rfl) ?_
  refine na_calli (As := [.int (nI t)]) (rest := []) (wc := [(h0, .inr (0, [.ref a1, .ref a2, .ref a3, .ref a4, .int (nI n), .int kc, .int lc, .int rn, .int ml, .int lo])), (a1, .inl (cA, 2000, .inl f1)), (a2, .inl (cA, 2000, .inl f2)), (a3, .inl (cA, 2000, .inl f3)), (a4, .inl (cA, 2000, .inl f4))]) (wr := []) (ci := 0) ⟨hx, hb, hml, hown, hts⟩ (c_isMark l dC dI cA h0 a1 a2 a3 a4 s.heap.size f1 f2 f3 f4 n kc lc rn ml lo (nI t)) (cwV 1 hts gX0_reachesShort_X0_isMark rfl rfl rfl (by decide +kernel) ⟨Nat.le_of_ble_eq_true rfl, Nat.le_of_ble_eq_true rfl⟩) hK hP hD hS hA [0, 1, 2, 3, 4] [] rfl rfl rfl rfl (by decide) rfl rfl 0 rfl rfl hl.1 (Nat.le_of_ble_eq_true rfl) dX0_reachesShort_9 ⟨Nat.le_of_ble_eq_true rfl, Nat.le_of_ble_eq_true rfl⟩ rfl (fun r u H locs hw hP hD hS => ?_)
  have hP : va_P (dC, dI) vwCl [(h0, .inr (0, [.ref a1, .ref a2, .ref a3, .ref a4, .int (nI n), .int kc, .int lc, .int rn, .int ml, .int lo])), (a1, .inl (cA, 2000, .inl f1)), (a2, .inl (cA, 2000, .inl f2)), (a3, .inl (cA, 2000, .inl f3)), (a4, .inl (cA, 2000, .inl f4))] H := hP
  have hD : va_D A [(h0, .inr (0, [.ref a1, .ref a2, .ref a3, .ref a4, .int (nI n), .int kc, .int lc, .int rn, .int ml, .int lo])), (a1, .inl (cA, 2000, .inl f1)), (a2, .inl (cA, 2000, .inl f2)), (a3, .inl (cA, 2000, .inl f3)), (a4, .inl (cA, 2000, .inl f4))] := hD
  have hw : r = 1 := hw.trans (if_pos ⟨nI_pos (by omega), hm⟩)
  subst hw
  refine lv_if_eq (tgt := 28) hx hb dX0_reachesShort_12 (by decide) (fun hc8 => ?_) (fun hc8 => ?_)
  · exact absurd hc8 (by decide)
  · refine lv_aload_n hx hb dX0_reachesShort_15 rfl (lv_at hl 1 rfl) ?_
    refine lv_aload_n hx hb dX0_reachesShort_16 rfl (lv_at hl 1 rfl) ?_
    refine va_get (D := (dC, dI)) (ci := 0) (v := .ref a4) (C := RX0) (T := TX0) (N := 10) hx hb hts in_X0_reachesShort hown hK hP 0 rfl rfl 3 (by decide) (hts (.fieldLink RX0 19 "BranchLengths" "markItems" "[I") (by decide +kernel)) (fun _ h9 => h9) rfl dX0_reachesShort_17 ?_
    refine lv_iload_n hx hb dX0_reachesShort_20 rfl (lv_at hl 0 rfl) ?_
    refine na_iald (k := t) hx hb hK hP 4 0 rfl rfl (by omega) (by decide) dX0_reachesShort_21 ?_
    refine na_eqi (y := nI q) (e4) ?_
    refine na_calli (As := [.int (nI q)]) (rest := []) (wc := [(h0, .inr (0, [.ref a1, .ref a2, .ref a3, .ref a4, .int (nI n), .int kc, .int lc, .int rn, .int ml, .int lo])), (a1, .inl (cA, 2000, .inl f1)), (a2, .inl (cA, 2000, .inl f2)), (a3, .inl (cA, 2000, .inl f3)), (a4, .inl (cA, 2000, .inl f4))]) (wr := []) (ci := 0) ⟨hx, hb, hml, hown, hts⟩ (c_isItem l dC dI cA h0 a1 a2 a3 a4 H.size f1 f2 f3 f4 n kc lc rn ml lo (nI q)) (cwV 1 hts gX0_reachesShort_X0_isItem rfl rfl rfl (by decide +kernel) ⟨Nat.le_of_ble_eq_true rfl, Nat.le_of_ble_eq_true rfl⟩) hK hP hD hS hA [0, 1, 2, 3, 4] [] rfl rfl rfl rfl (by decide) rfl rfl 0 rfl rfl hl.1 (Nat.le_of_ble_eq_true rfl) dX0_reachesShort_22 ⟨Nat.le_of_ble_eq_true rfl, Nat.le_of_ble_eq_true rfl⟩ rfl (fun r u H locs hw hP hD hS => ?_)
    have hP : va_P (dC, dI) vwCl [(h0, .inr (0, [.ref a1, .ref a2, .ref a3, .ref a4, .int (nI n), .int kc, .int lc, .int rn, .int ml, .int lo])), (a1, .inl (cA, 2000, .inl f1)), (a2, .inl (cA, 2000, .inl f2)), (a3, .inl (cA, 2000, .inl f3)), (a4, .inl (cA, 2000, .inl f4))] H := hP
    have hD : va_D A [(h0, .inr (0, [.ref a1, .ref a2, .ref a3, .ref a4, .int (nI n), .int kc, .int lc, .int rn, .int ml, .int lo])), (a1, .inl (cA, 2000, .inl f1)), (a2, .inl (cA, 2000, .inl f2)), (a3, .inl (cA, 2000, .inl f3)), (a4, .inl (cA, 2000, .inl f4))] := hD
    have hw : r = 1 := hw.trans (if_pos ⟨nI_pos (by omega), hi⟩)
    subst hw
    refine lv_if_ne (tgt := 30) hx hb dX0_reachesShort_25 (by decide) (fun hc9 => ?_) (fun hc9 => ?_)
    · refine lv_aload_n hx hb dX0_reachesShort_30 rfl (lv_at hl 1 rfl) ?_
      refine va_get (D := (dC, dI)) (ci := 0) (v := .ref a3) (C := RX0) (T := TX0) (N := 10) hx hb hts in_X0_reachesShort hown hK hP 0 rfl rfl 2 (by decide) (hts (.fieldLink RX0 16 "BranchLengths" "places" "[I") (by decide +kernel)) (fun _ h9 => h9) rfl dX0_reachesShort_31 ?_
      refine lv_aload_n hx hb dX0_reachesShort_34 rfl (lv_at hl 1 rfl) ?_
      refine va_get (D := (dC, dI)) (ci := 0) (v := .ref a4) (C := RX0) (T := TX0) (N := 10) hx hb hts in_X0_reachesShort hown hK hP 0 rfl rfl 3 (by decide) (hts (.fieldLink RX0 19 "BranchLengths" "markItems" "[I") (by decide +kernel)) (fun _ h9 => h9) rfl dX0_reachesShort_35 ?_
      refine lv_iload_n hx hb dX0_reachesShort_38 rfl (lv_at hl 0 rfl) ?_
      refine na_iald (k := t) hx hb hK hP 4 0 rfl rfl (by omega) (by decide) dX0_reachesShort_39 ?_
      refine na_eqi (y := nI q) (e4) ?_
      refine na_iald (k := q) hx hb hK hP 3 0 rfl rfl (by omega) (by decide) dX0_reachesShort_40 ?_
      refine lv_aload_n hx hb dX0_reachesShort_41 rfl (lv_at hl 1 rfl) ?_
      refine va_get (D := (dC, dI)) (ci := 0) (v := .ref a3) (C := RX0) (T := TX0) (N := 10) hx hb hts in_X0_reachesShort hown hK hP 0 rfl rfl 2 (by decide) (hts (.fieldLink RX0 16 "BranchLengths" "places" "[I") (by decide +kernel)) (fun _ h9 => h9) rfl dX0_reachesShort_42 ?_
      refine lv_iload_n hx hb dX0_reachesShort_45 rfl (lv_at hl 2 rfl) ?_
      refine na_iald (k := k) hx hb hK hP 3 0 rfl rfl (by omega) (by decide) dX0_reachesShort_46 ?_
      refine lv_isub hx hb dX0_reachesShort_47 ?_
      refine lv_istore_n (lv' := [(3, .int ((f3 q) - (f3 k))), (2, .int (nI t)), (0, .ref h0), (1, .int (nI k))]) hx hb dX0_reachesShort_48 rfl hl (by decide) rfl (fun ls hl => ?_)
      refine lv_iload_n hx hb dX0_reachesShort_49 rfl (lv_at hl 0 rfl) ?_
      refine lv_aload_n hx hb dX0_reachesShort_50 rfl (lv_at hl 2 rfl) ?_
      refine va_get (D := (dC, dI)) (ci := 0) (v := .int rn) (C := RX0) (T := TX0) (N := 10) hx hb hts in_X0_reachesShort hown hK hP 0 rfl rfl 7 (by decide) (hts (.fieldLink RX0 32 "BranchLengths" "reachNow" "I") (by decide +kernel)) (fun _ h9 => h9) rfl dX0_reachesShort_51 ?_
      refine lv_ineg hx hb dX0_reachesShort_54 ?_
      refine lv_icmp_lt (tgt := 70) hx hb dX0_reachesShort_55 (by decide) (fun hc1 => ?_) (fun hc1 => ?_)
      · refine lv_iconst (v := 0) hx hb dX0_reachesShort_70 (by decide) ?_
        exact W.zret (v := 0) hx hb hr rfl (fun t ht hW => ⟨⟨0, (), rfl, (if_neg (fun z => by unfold xRs at z; rw [e5, Bool.and_eq_true] at z; exact of_decide_eq_true z.1 hc1)).symm, by rw [ht]; exact hP, va_K.moved hW.alike hK, hD⟩, hS.F ht⟩) hS.2.2 dX0_reachesShort_71
      · refine lv_iload_n hx hb dX0_reachesShort_58 rfl (lv_at hl 0 rfl) ?_
        refine lv_aload_n hx hb dX0_reachesShort_59 rfl (lv_at hl 2 rfl) ?_
        refine va_get (D := (dC, dI)) (ci := 0) (v := .int rn) (C := RX0) (T := TX0) (N := 10) hx hb hts in_X0_reachesShort hown hK hP 0 rfl rfl 7 (by decide) (hts (.fieldLink RX0 32 "BranchLengths" "reachNow" "I") (by decide +kernel)) (fun _ h9 => h9) rfl dX0_reachesShort_60 ?_
        refine lv_icmp_gt (tgt := 70) hx hb dX0_reachesShort_63 (by decide) (fun hc2 => ?_) (fun hc2 => ?_)
        · refine lv_iconst (v := 0) hx hb dX0_reachesShort_70 (by decide) ?_
          exact W.zret (v := 0) hx hb hr rfl (fun t ht hW => ⟨⟨0, (), rfl, (if_neg (fun z => by unfold xRs at z; rw [e5, Bool.and_eq_true] at z; exact of_decide_eq_true z.2 hc2)).symm, by rw [ht]; exact hP, va_K.moved hW.alike hK, hD⟩, hS.F ht⟩) hS.2.2 dX0_reachesShort_71
        · refine lv_iconst (v := 1) hx hb dX0_reachesShort_66 (by decide) ?_
          refine lv_goto (tgt := 71) hx hb dX0_reachesShort_67 (by decide) ?_
          exact W.zret (v := 1) hx hb hr rfl (fun t ht hW => ⟨⟨1, (), rfl, (if_pos (by unfold xRs; rw [e5, Bool.and_eq_true]; exact ⟨decide_eq_true hc1, decide_eq_true hc2⟩)).symm, by rw [ht]; exact hP, va_K.moved hW.alike hK, hD⟩, hS.F ht⟩) hS.2.2 dX0_reachesShort_71
    · exact absurd hc9 (by decide)
end
section
set_option maxHeartbeats 4000000 in
set_option maxRecDepth 100000 in
/-- shortenAll() -/
theorem c_shortenAll (l : Launch) (dC : Nat → ClassId) (dI : Nat → Nat → Nat) (cA : ClassId) (h0 a1 a2 a3 a4 sz : Nat) (f1 f2 f3 f4 : Nat → Int32) (n : Nat) (kc lc rn ml lo : Int32) (hn : n ≤ 2000) : na_Mv (S := Unit) l yX0_shortenAll wsX0_shortenAll ({ frames := 1, cells := 0, slots := 0, locals := 21 }) (dC, dI) vwCl [(cA, .int)] sz [.ref h0] [(h0, .inr (0, [.ref a1, .ref a2, .ref a3, .ref a4, .int (nI n), .int kc, .int lc, .int rn, .int ml, .int lo])), (a1, .inl (cA, 2000, .inl f1)), (a2, .inl (cA, 2000, .inl f2)), (a3, .inl (cA, 2000, .inl f3)), (a4, .inl (cA, 2000, .inl f4))] (fun _ => True) (fun _ => [(h0, .inr (0, [.ref a1, .ref a2, .ref a3, .ref a4, .int (nI n), .int kc, .int 0, .int rn, .int ml, .int lo])), (a1, .inl (cA, 2000, .inl (xSh f1 f2 n))), (a2, .inl (cA, 2000, .inl f2)), (a3, .inl (cA, 2000, .inl f3)), (a4, .inl (cA, 2000, .inl f4))]) := by
  refine Met.ofW (cc := cX0_shortenAll) (maxL := 2) (ret := none) (by decide) rfl ?_
  intro p e s m args below meth c s₁ B hml hv
  obtain ⟨rfl, hsz, hP, hK, hD0⟩ := hv
  have hx := B.exec
  have hb := B.bytes
  have hr := B.returns
  have hts := atoms_spec (ws := wsX0_shortenAll) B.pre
  have hown : s.vm.findClass RX0 = some m.cls := findClass_of_methodNamed B.named
  have hlocks := B.notSynchronized
  subst hsz
  have hD := hD0.self (sz := s.heap.size)
  generalize hAe : va_A [(h0, .inr (0, [.ref a1, .ref a2, .ref a3, .ref a4, .int (nI n), .int kc, .int lc, .int rn, .int ml, .int lo])), (a1, .inl (cA, 2000, .inl f1)), (a2, .inl (cA, 2000, .inl f2)), (a3, .inl (cA, 2000, .inl f3)), (a4, .inl (cA, 2000, .inl f4))] s.heap.size = A at hD ⊢
  have hA : ∀ q : Nat, s.heap.size ≤ q → A q := fun q h => by rw [← hAe]; exact Or.inr h
  have hS : va_S A s.heap s.heap [] := va_S.rf
  have hP : va_P (dC, dI) vwCl [(h0, .inr (0, [.ref a1, .ref a2, .ref a3, .ref a4, .int (nI n), .int kc, .int lc, .int rn, .int ml, .int lo])), (a1, .inl (cA, 2000, .inl f1)), (a2, .inl (cA, 2000, .inl f2)), (a3, .inl (cA, 2000, .inl f3)), (a4, .inl (cA, 2000, .inl f4))] s.heap := hP
  have hl := lv_entry ([.ref h0]) (n := 2) (Nat.le_of_ble_eq_true rfl)
  rw [lg_entry_eq]
  generalize (lg_sl ([.ref h0]) ++ List.replicate (2 - (lg_sl ([.ref h0])).length) Slot.unset).toArray = ls at hl ⊢
  have hl : lv_has ls 2 [(0, .ref h0)] := hl
  refine lv_iconst (v := nI 0) hx hb dX0_shortenAll_0 rfl ?_
  refine lv_istore_n (lv' := [(1, .int (nI 0)), (0, .ref h0)]) hx hb dX0_shortenAll_1 rfl hl (by decide) rfl (fun ls hl => ?_)
  refine na_loop (pc := 2) (fun (d : Nat) (k : Nat) (H : Heap) (locs : List Loc) (ls : Array Slot) => (k ≤ n ∧ d = n - k) ∧ va_P (dC, dI) vwCl [(h0, .inr (0, [.ref a1, .ref a2, .ref a3, .ref a4, .int (nI n), .int kc, .int lc, .int rn, .int ml, .int lo])), (a1, .inl (cA, 2000, .inl (xSh f1 f2 k))), (a2, .inl (cA, 2000, .inl f2)), (a3, .inl (cA, 2000, .inl f3)), (a4, .inl (cA, 2000, .inl f4))] H ∧ va_D A [(h0, .inr (0, [.ref a1, .ref a2, .ref a3, .ref a4, .int (nI n), .int kc, .int lc, .int rn, .int ml, .int lo])), (a1, .inl (cA, 2000, .inl (xSh f1 f2 k))), (a2, .inl (cA, 2000, .inl f2)), (a3, .inl (cA, 2000, .inl f3)), (a4, .inl (cA, 2000, .inl f4))] ∧ va_S A s.heap H locs ∧ lv_has ls 2 [(0, .ref h0), (1, .int (nI k))]) ?_ (n - 0) (0) ⟨⟨Nat.zero_le _, rfl⟩, by rw [xSh_0]; exact hP, by rw [xSh_0]; exact hD, hS, lv_sub hl [1, 0] rfl⟩
  intro d k H locs ls hI ih
  obtain ⟨⟨hkn, hd⟩, hP, hD, hS, hl⟩ := hI
  refine lv_iload_n hx hb dX0_shortenAll_2 rfl (lv_at hl 1 rfl) ?_
  refine lv_aload_n hx hb dX0_shortenAll_3 rfl (lv_at hl 0 rfl) ?_
  refine va_get (D := (dC, dI)) (ci := 0) (v := .int (nI n)) (C := RX0) (T := TX0) (N := 10) hx hb hts in_X0_shortenAll hown hK hP 0 rfl rfl 4 (by decide) (hts (.fieldLink RX0 22 "BranchLengths" "itemCount" "I") (by decide +kernel)) (fun _ h9 => h9) rfl dX0_shortenAll_4 ?_
  refine lv_icmp_ge (tgt := 31) hx hb dX0_shortenAll_7 (by decide) (fun hc => ?_) (fun hc => ?_)
  · have hkn' := na_ge (by omega) hkn hc
    subst hkn'
    refine lv_aload_n hx hb dX0_shortenAll_31 rfl (lv_at hl 0 rfl) ?_
    refine lv_iconst (v := 0) hx hb dX0_shortenAll_32 (by decide) ?_
    refine va_put (D := (dC, dI)) (ci := 0) (v := .int 0) (ty := .int) (C := RX0) (T := TX0) (N := 10) hx hb hts in_X0_shortenAll tyX0 tyX0_ok nmX0 hown hK hP hD hS 0 rfl rfl 6 (by decide) (hts (.fieldLink RX0 29 "BranchLengths" "longCount" "I") (by decide +kernel)) (fun _ h9 => h9) rfl (by decide +kernel) rfl rfl (Nat.le_of_ble_eq_true rfl) dX0_shortenAll_33 (fun H locs hP hD hS => ?_)
    have hP : va_P (dC, dI) vwCl [(h0, .inr (0, [.ref a1, .ref a2, .ref a3, .ref a4, .int (nI n), .int kc, .int 0, .int rn, .int ml, .int lo])), (a1, .inl (cA, 2000, .inl (xSh f1 f2 n))), (a2, .inl (cA, 2000, .inl f2)), (a3, .inl (cA, 2000, .inl f3)), (a4, .inl (cA, 2000, .inl f4))] H := hP
    have hD : va_D A [(h0, .inr (0, [.ref a1, .ref a2, .ref a3, .ref a4, .int (nI n), .int kc, .int 0, .int rn, .int ml, .int lo])), (a1, .inl (cA, 2000, .inl (xSh f1 f2 n))), (a2, .inl (cA, 2000, .inl f2)), (a3, .inl (cA, 2000, .inl f3)), (a4, .inl (cA, 2000, .inl f4))] := hD
    exact W.vret hx hb hr (fun t ht hW => ⟨⟨(), rfl, trivial, by rw [ht]; exact hP, va_K.moved hW.alike hK, hD⟩, hS.F ht⟩) hS.2.2 dX0_shortenAll_36
  · have hlt := na_nge (by omega) hkn hc
    refine lv_aload_n hx hb dX0_shortenAll_10 rfl (lv_at hl 0 rfl) ?_
    refine lv_iload_n hx hb dX0_shortenAll_11 rfl (lv_at hl 1 rfl) ?_
    refine na_calli (As := [.int (nI k)]) (rest := []) (wc := [(h0, .inr (0, [.ref a1, .ref a2, .ref a3, .ref a4, .int (nI n), .int kc, .int lc, .int rn, .int ml, .int lo])), (a1, .inl (cA, 2000, .inl (xSh f1 f2 k))), (a2, .inl (cA, 2000, .inl f2)), (a3, .inl (cA, 2000, .inl f3)), (a4, .inl (cA, 2000, .inl f4))]) (wr := []) (ci := 0) ⟨hx, hb, hml, hown, hts⟩ (c_isBranch l dC dI cA h0 a1 a2 a3 a4 H.size (xSh f1 f2 k) f2 f3 f4 n k kc lc rn ml lo (by omega)) (cwV 1 hts gX0_shortenAll_X0_isBranch rfl rfl rfl (by decide +kernel) ⟨Nat.le_of_ble_eq_true rfl, Nat.le_of_ble_eq_true rfl⟩) hK hP hD hS hA [0, 1, 2, 3, 4] [] rfl rfl rfl rfl (by decide) rfl rfl 0 rfl rfl hl.1 (Nat.le_of_ble_eq_true rfl) dX0_shortenAll_12 ⟨Nat.le_of_ble_eq_true rfl, Nat.le_of_ble_eq_true rfl⟩ rfl (fun r u H locs hw hP hD hS => ?_)
    have hP : va_P (dC, dI) vwCl [(h0, .inr (0, [.ref a1, .ref a2, .ref a3, .ref a4, .int (nI n), .int kc, .int lc, .int rn, .int ml, .int lo])), (a1, .inl (cA, 2000, .inl (xSh f1 f2 k))), (a2, .inl (cA, 2000, .inl f2)), (a3, .inl (cA, 2000, .inl f3)), (a4, .inl (cA, 2000, .inl f4))] H := hP
    have hD : va_D A [(h0, .inr (0, [.ref a1, .ref a2, .ref a3, .ref a4, .int (nI n), .int kc, .int lc, .int rn, .int ml, .int lo])), (a1, .inl (cA, 2000, .inl (xSh f1 f2 k))), (a2, .inl (cA, 2000, .inl f2)), (a3, .inl (cA, 2000, .inl f3)), (a4, .inl (cA, 2000, .inl f4))] := hD
    subst hw
    refine lv_if_eq (tgt := 25) hx hb dX0_shortenAll_15 (by decide) (fun hc2 => ?_) (fun hc2 => ?_)
    · have hb2 : f2 k = -1 := by
        by_cases q : f2 k = -1
        · exact q
        · rw [if_neg q] at hc2; exact absurd hc2 (by decide)
      refine lv_iinc (v := nI (k + 1)) (lv' := [(1, .int (nI (k + 1))), (0, .ref h0)]) hx hb dX0_shortenAll_25 hl (k := 1) rfl (nI_1 _) (by decide) rfl (fun ls hl => ?_)
      refine lv_goto (tgt := 2) hx hb dX0_shortenAll_28 (by decide) ?_
      exact ih (n - (k + 1)) (k + 1) _ _ _ (by omega) ⟨⟨by omega, rfl⟩, by rw [← xSh_n hb2]; exact hP, by rw [← xSh_n hb2]; exact hD, hS, lv_sub hl [1, 0] rfl⟩
    · have hb2 : ¬ f2 k = -1 := fun q => hc2 (if_pos q)
      refine lv_aload_n hx hb dX0_shortenAll_18 rfl (lv_at hl 0 rfl) ?_
      refine va_get (D := (dC, dI)) (ci := 0) (v := .ref a1) (C := RX0) (T := TX0) (N := 10) hx hb hts in_X0_shortenAll hown hK hP 0 rfl rfl 0 (by decide) (hts (.fieldLink RX0 9 "BranchLengths" "words" "[I") (by decide +kernel)) (fun _ h9 => h9) rfl dX0_shortenAll_19 ?_
      refine lv_iload_n hx hb dX0_shortenAll_22 rfl (lv_at hl 1 rfl) ?_
      refine lv_iconst (v := 1) hx hb dX0_shortenAll_23 (by decide) ?_
      refine na_iast (k := k) hx hb hK hP hD hS 1 0 rfl rfl (by omega) (by decide) (xSh f1 f2 (k + 1)) (xSh_b hb2) dX0_shortenAll_24 (fun H locs hP hD hS => ?_)
      have hP : va_P (dC, dI) vwCl [(h0, .inr (0, [.ref a1, .ref a2, .ref a3, .ref a4, .int (nI n), .int kc, .int lc, .int rn, .int ml, .int lo])), (a1, .inl (cA, 2000, .inl (xSh f1 f2 (k + 1)))), (a2, .inl (cA, 2000, .inl f2)), (a3, .inl (cA, 2000, .inl f3)), (a4, .inl (cA, 2000, .inl f4))] H := hP
      have hD : va_D A [(h0, .inr (0, [.ref a1, .ref a2, .ref a3, .ref a4, .int (nI n), .int kc, .int lc, .int rn, .int ml, .int lo])), (a1, .inl (cA, 2000, .inl (xSh f1 f2 (k + 1)))), (a2, .inl (cA, 2000, .inl f2)), (a3, .inl (cA, 2000, .inl f3)), (a4, .inl (cA, 2000, .inl f4))] := hD
      refine lv_iinc (v := nI (k + 1)) (lv' := [(1, .int (nI (k + 1))), (0, .ref h0)]) hx hb dX0_shortenAll_25 hl (k := 1) rfl (nI_1 _) (by decide) rfl (fun ls hl => ?_)
      refine lv_goto (tgt := 2) hx hb dX0_shortenAll_28 (by decide) ?_
      exact ih (n - (k + 1)) (k + 1) _ _ _ (by omega) ⟨⟨by omega, rfl⟩, hP, hD, hS, lv_sub hl [1, 0] rfl⟩
set_option maxHeartbeats 4000000 in
set_option maxRecDepth 100000 in
/-- lengthenUnreaching() -/
theorem c_lengthen (l : Launch) (dC : Nat → ClassId) (dI : Nat → Nat → Nat) (cA : ClassId) (h0 a1 a2 a3 a4 sz : Nat) (f1 f2 f3 f4 : Nat → Int32) (n : Nat) (kc lc rn ml lo : Int32) (hn : n ≤ 2000) (ht : ∀ j, j < n → ¬ f2 j = -1 → ∃ t q : Nat, t < 2000 ∧ q < 2000 ∧ f2 j = nI t ∧ f4 t = nI q ∧ ¬ kc ≤ nI t ∧ ¬ nI n ≤ nI q) : na_Mi (S := Unit) l yX0_lengthenUnreaching wsX0_lengthenUnreaching ({ frames := 2, cells := 0, slots := 0, locals := 44 }) (dC, dI) vwCl [(cA, .int)] sz [.ref h0] [(h0, .inr (0, [.ref a1, .ref a2, .ref a3, .ref a4, .int (nI n), .int kc, .int lc, .int rn, .int ml, .int lo])), (a1, .inl (cA, 2000, .inl f1)), (a2, .inl (cA, 2000, .inl f2)), (a3, .inl (cA, 2000, .inl f3)), (a4, .inl (cA, 2000, .inl f4))] (fun r _ => r = nI (cnt (xBad f1 f2 f3 f4 rn) n)) (fun _ => [(h0, .inr (0, [.ref a1, .ref a2, .ref a3, .ref a4, .int (nI n), .int kc, .int lc, .int rn, .int ml, .int lo])), (a1, .inl (cA, 2000, .inl (xLn f1 (xBad f1 f2 f3 f4 rn) n))), (a2, .inl (cA, 2000, .inl f2)), (a3, .inl (cA, 2000, .inl f3)), (a4, .inl (cA, 2000, .inl f4))]) := by
  refine Met.ofW (cc := cX0_lengthenUnreaching) (maxL := 3) (ret := (some .int)) (by decide) rfl ?_
  intro p e s m args below meth c s₁ B hml hv
  obtain ⟨rfl, hsz, hP, hK, hD0⟩ := hv
  have hx := B.exec
  have hb := B.bytes
  have hr := B.returns
  have hts := atoms_spec (ws := wsX0_lengthenUnreaching) B.pre
  have hown : s.vm.findClass RX0 = some m.cls := findClass_of_methodNamed B.named
  have hlocks := B.notSynchronized
  subst hsz
  have hD := hD0.self (sz := s.heap.size)
  generalize hAe : va_A [(h0, .inr (0, [.ref a1, .ref a2, .ref a3, .ref a4, .int (nI n), .int kc, .int lc, .int rn, .int ml, .int lo])), (a1, .inl (cA, 2000, .inl f1)), (a2, .inl (cA, 2000, .inl f2)), (a3, .inl (cA, 2000, .inl f3)), (a4, .inl (cA, 2000, .inl f4))] s.heap.size = A at hD ⊢
  have hA : ∀ q : Nat, s.heap.size ≤ q → A q := fun q h => by rw [← hAe]; exact Or.inr h
  have hS : va_S A s.heap s.heap [] := va_S.rf
  have hP : va_P (dC, dI) vwCl [(h0, .inr (0, [.ref a1, .ref a2, .ref a3, .ref a4, .int (nI n), .int kc, .int lc, .int rn, .int ml, .int lo])), (a1, .inl (cA, 2000, .inl f1)), (a2, .inl (cA, 2000, .inl f2)), (a3, .inl (cA, 2000, .inl f3)), (a4, .inl (cA, 2000, .inl f4))] s.heap := hP
  have hl := lv_entry ([.ref h0]) (n := 3) (Nat.le_of_ble_eq_true rfl)
  rw [lg_entry_eq]
  generalize (lg_sl ([.ref h0]) ++ List.replicate (3 - (lg_sl ([.ref h0])).length) Slot.unset).toArray = ls at hl ⊢
  have hl : lv_has ls 3 [(0, .ref h0)] := hl
  refine lv_iconst (v := nI (cnt (xBad f1 f2 f3 f4 rn) 0)) hx hb dX0_lengthenUnreaching_0 rfl ?_
  refine lv_istore_n (lv' := [(1, .int (nI (cnt (xBad f1 f2 f3 f4 rn) 0))), (0, .ref h0)]) hx hb dX0_lengthenUnreaching_1 rfl hl (by decide) rfl (fun ls hl => ?_)
  refine lv_iconst (v := nI 0) hx hb dX0_lengthenUnreaching_2 rfl ?_
  refine lv_istore_n (lv' := [(2, .int (nI 0)), (1, .int (nI (cnt (xBad f1 f2 f3 f4 rn) 0))), (0, .ref h0)]) hx hb dX0_lengthenUnreaching_3 rfl hl (by decide) rfl (fun ls hl => ?_)
  refine na_loop (pc := 4) (fun (d : Nat) (k : Nat) (H : Heap) (locs : List Loc) (ls : Array Slot) => (k ≤ n ∧ d = n - k) ∧ va_P (dC, dI) vwCl [(h0, .inr (0, [.ref a1, .ref a2, .ref a3, .ref a4, .int (nI n), .int kc, .int lc, .int rn, .int ml, .int lo])), (a1, .inl (cA, 2000, .inl (xLn f1 (xBad f1 f2 f3 f4 rn) k))), (a2, .inl (cA, 2000, .inl f2)), (a3, .inl (cA, 2000, .inl f3)), (a4, .inl (cA, 2000, .inl f4))] H ∧ va_D A [(h0, .inr (0, [.ref a1, .ref a2, .ref a3, .ref a4, .int (nI n), .int kc, .int lc, .int rn, .int ml, .int lo])), (a1, .inl (cA, 2000, .inl (xLn f1 (xBad f1 f2 f3 f4 rn) k))), (a2, .inl (cA, 2000, .inl f2)), (a3, .inl (cA, 2000, .inl f3)), (a4, .inl (cA, 2000, .inl f4))] ∧ va_S A s.heap H locs ∧ lv_has ls 3 [(0, .ref h0), (1, .int (nI (cnt (xBad f1 f2 f3 f4 rn) k))), (2, .int (nI k))]) ?_ (n - 0) (0) ⟨⟨Nat.zero_le _, rfl⟩, by rw [xLn_0]; exact hP, by rw [xLn_0]; exact hD, hS, lv_sub hl [2, 1, 0] rfl⟩
  intro d k H locs ls hI ih
  obtain ⟨⟨hkn, hd⟩, hP, hD, hS, hl⟩ := hI
  refine lv_iload_n hx hb dX0_lengthenUnreaching_4 rfl (lv_at hl 2 rfl) ?_
  refine lv_aload_n hx hb dX0_lengthenUnreaching_5 rfl (lv_at hl 0 rfl) ?_
  refine va_get (D := (dC, dI)) (ci := 0) (v := .int (nI n)) (C := RX0) (T := TX0) (N := 10) hx hb hts in_X0_lengthenUnreaching hown hK hP 0 rfl rfl 4 (by decide) (hts (.fieldLink RX0 22 "BranchLengths" "itemCount" "I") (by decide +kernel)) (fun _ h9 => h9) rfl dX0_lengthenUnreaching_6 ?_
  refine lv_icmp_ge (tgt := 54) hx hb dX0_lengthenUnreaching_9 (by decide) (fun hc => ?_) (fun hc => ?_)
  · have hkn' := na_ge (by omega) hkn hc
    subst hkn'
    refine lv_iload_n hx hb dX0_lengthenUnreaching_54 rfl (lv_at hl 1 rfl) ?_
    exact W.iret (v := (nI (cnt (xBad f1 f2 f3 f4 rn) n))) hx hb hr (fun t ht hW => ⟨⟨(nI (cnt (xBad f1 f2 f3 f4 rn) n)), (), rfl, rfl, by rw [ht]; exact hP, va_K.moved hW.alike hK, hD⟩, hS.F ht⟩) hS.2.2 dX0_lengthenUnreaching_55
  · have hlt := na_nge (by omega) hkn hc
    refine lv_aload_n hx hb dX0_lengthenUnreaching_12 rfl (lv_at hl 0 rfl) ?_
    refine lv_iload_n hx hb dX0_lengthenUnreaching_13 rfl (lv_at hl 2 rfl) ?_
    refine na_calli (As := [.int (nI k)]) (rest := []) (wc := [(h0, .inr (0, [.ref a1, .ref a2, .ref a3, .ref a4, .int (nI n), .int kc, .int lc, .int rn, .int ml, .int lo])), (a1, .inl (cA, 2000, .inl (xLn f1 (xBad f1 f2 f3 f4 rn) k))), (a2, .inl (cA, 2000, .inl f2)), (a3, .inl (cA, 2000, .inl f3)), (a4, .inl (cA, 2000, .inl f4))]) (wr := []) (ci := 0) ⟨hx, hb, hml, hown, hts⟩ (c_isBranch l dC dI cA h0 a1 a2 a3 a4 H.size (xLn f1 (xBad f1 f2 f3 f4 rn) k) f2 f3 f4 n k kc lc rn ml lo (by omega)) (cwV 1 hts gX0_lengthenUnreaching_X0_isBranch rfl rfl rfl (by decide +kernel) ⟨Nat.le_of_ble_eq_true rfl, Nat.le_of_ble_eq_true rfl⟩) hK hP hD hS hA [0, 1, 2, 3, 4] [] rfl rfl rfl rfl (by decide) rfl rfl 0 rfl rfl hl.1 (Nat.le_of_ble_eq_true rfl) dX0_lengthenUnreaching_14 ⟨Nat.le_of_ble_eq_true rfl, Nat.le_of_ble_eq_true rfl⟩ rfl (fun r u H locs hw hP hD hS => ?_)
    have hP : va_P (dC, dI) vwCl [(h0, .inr (0, [.ref a1, .ref a2, .ref a3, .ref a4, .int (nI n), .int kc, .int lc, .int rn, .int ml, .int lo])), (a1, .inl (cA, 2000, .inl (xLn f1 (xBad f1 f2 f3 f4 rn) k))), (a2, .inl (cA, 2000, .inl f2)), (a3, .inl (cA, 2000, .inl f3)), (a4, .inl (cA, 2000, .inl f4))] H := hP
    have hD : va_D A [(h0, .inr (0, [.ref a1, .ref a2, .ref a3, .ref a4, .int (nI n), .int kc, .int lc, .int rn, .int ml, .int lo])), (a1, .inl (cA, 2000, .inl (xLn f1 (xBad f1 f2 f3 f4 rn) k))), (a2, .inl (cA, 2000, .inl f2)), (a3, .inl (cA, 2000, .inl f3)), (a4, .inl (cA, 2000, .inl f4))] := hD
    subst hw
    refine lv_if_eq (tgt := 48) hx hb dX0_lengthenUnreaching_17 (by decide) (fun hc2 => ?_) (fun hc2 => ?_)
    · have hb2 : f2 k = -1 := by
        by_cases q : f2 k = -1
        · exact q
        · rw [if_neg q] at hc2; exact absurd hc2 (by decide)
      have hbad : ¬ xBad f1 f2 f3 f4 rn k = true := by unfold xBad; simp [hb2]
      refine lv_iinc (v := nI (k + 1)) (lv' := [(2, .int (nI (k + 1))), (0, .ref h0), (1, .int (nI (cnt (xBad f1 f2 f3 f4 rn) k)))]) hx hb dX0_lengthenUnreaching_48 hl (k := 2) rfl (nI_1 _) (by decide) rfl (fun ls hl => ?_)
      refine lv_goto (tgt := 4) hx hb dX0_lengthenUnreaching_51 (by decide) ?_
      have ec : cnt (xBad f1 f2 f3 f4 rn) k = cnt (xBad f1 f2 f3 f4 rn) (k + 1) := (cnt_n hbad).symm
      rw [ec] at hl
      exact ih (n - (k + 1)) (k + 1) _ _ _ (by omega) ⟨⟨by omega, rfl⟩, by rw [← xLn_n hbad]; exact hP, by rw [← xLn_n hbad]; exact hD, hS, lv_sub hl [1, 2, 0] rfl⟩
    · have hb2 : ¬ f2 k = -1 := fun q => hc2 (if_pos q)
      refine lv_aload_n hx hb dX0_lengthenUnreaching_20 rfl (lv_at hl 0 rfl) ?_
      refine va_get (D := (dC, dI)) (ci := 0) (v := .ref a1) (C := RX0) (T := TX0) (N := 10) hx hb hts in_X0_lengthenUnreaching hown hK hP 0 rfl rfl 0 (by decide) (hts (.fieldLink RX0 9 "BranchLengths" "words" "[I") (by decide +kernel)) (fun _ h9 => h9) rfl dX0_lengthenUnreaching_21 ?_
      refine lv_iload_n hx hb dX0_lengthenUnreaching_24 rfl (lv_at hl 2 rfl) ?_
      refine na_iald (k := k) hx hb hK hP 1 0 rfl rfl (by omega) (by decide) dX0_lengthenUnreaching_25 ?_
      refine na_eqi (y := f1 k) (xLn_at _ _ _) ?_
      refine lv_iconst (v := 1) hx hb dX0_lengthenUnreaching_26 (by decide) ?_
      refine lv_icmp_ne (tgt := 48) hx hb dX0_lengthenUnreaching_27 (by decide) (fun hc3 => ?_) (fun hc3 => ?_)
      · have hbad : ¬ xBad f1 f2 f3 f4 rn k = true := by unfold xBad; simp [hc3]
        refine lv_iinc (v := nI (k + 1)) (lv' := [(2, .int (nI (k + 1))), (0, .ref h0), (1, .int (nI (cnt (xBad f1 f2 f3 f4 rn) k)))]) hx hb dX0_lengthenUnreaching_48 hl (k := 2) rfl (nI_1 _) (by decide) rfl (fun ls hl => ?_)
        refine lv_goto (tgt := 4) hx hb dX0_lengthenUnreaching_51 (by decide) ?_
        have ec : cnt (xBad f1 f2 f3 f4 rn) k = cnt (xBad f1 f2 f3 f4 rn) (k + 1) := (cnt_n hbad).symm
        rw [ec] at hl
        exact ih (n - (k + 1)) (k + 1) _ _ _ (by omega) ⟨⟨by omega, rfl⟩, by rw [← xLn_n hbad]; exact hP, by rw [← xLn_n hbad]; exact hD, hS, lv_sub hl [1, 2, 0] rfl⟩
      · have h1 : f1 k = 1 := hc3
        obtain ⟨t, q, ht1, hq1, e2, e4, hm9, hi9⟩ := ht k hlt hb2
        refine lv_aload_n hx hb dX0_lengthenUnreaching_30 rfl (lv_at hl 0 rfl) ?_
        refine lv_iload_n hx hb dX0_lengthenUnreaching_31 rfl (lv_at hl 2 rfl) ?_
        refine na_calli (As := [.int (nI k)]) (rest := []) (wc := [(h0, .inr (0, [.ref a1, .ref a2, .ref a3, .ref a4, .int (nI n), .int kc, .int lc, .int rn, .int ml, .int lo])), (a1, .inl (cA, 2000, .inl (xLn f1 (xBad f1 f2 f3 f4 rn) k))), (a2, .inl (cA, 2000, .inl f2)), (a3, .inl (cA, 2000, .inl f3)), (a4, .inl (cA, 2000, .inl f4))]) (wr := []) (ci := 0) ⟨hx, hb, hml, hown, hts⟩ (c_reachesShort l dC dI cA h0 a1 a2 a3 a4 H.size (xLn f1 (xBad f1 f2 f3 f4 rn) k) f2 f3 f4 n k t q kc lc rn ml lo (by omega) ht1 hq1 e2 e4 hm9 hi9) (cwV 1 hts gX0_lengthenUnreaching_X0_reachesShort rfl rfl rfl (by decide +kernel) ⟨Nat.le_of_ble_eq_true rfl, Nat.le_of_ble_eq_true rfl⟩) hK hP hD hS hA [0, 1, 2, 3, 4] [] rfl rfl rfl rfl (by decide) rfl rfl 0 rfl rfl hl.1 (Nat.le_of_ble_eq_true rfl) dX0_lengthenUnreaching_32 ⟨Nat.le_of_ble_eq_true rfl, Nat.le_of_ble_eq_true rfl⟩ rfl (fun r u H locs hw hP hD hS => ?_)
        have hP : va_P (dC, dI) vwCl [(h0, .inr (0, [.ref a1, .ref a2, .ref a3, .ref a4, .int (nI n), .int kc, .int lc, .int rn, .int ml, .int lo])), (a1, .inl (cA, 2000, .inl (xLn f1 (xBad f1 f2 f3 f4 rn) k))), (a2, .inl (cA, 2000, .inl f2)), (a3, .inl (cA, 2000, .inl f3)), (a4, .inl (cA, 2000, .inl f4))] H := hP
        have hD : va_D A [(h0, .inr (0, [.ref a1, .ref a2, .ref a3, .ref a4, .int (nI n), .int kc, .int lc, .int rn, .int ml, .int lo])), (a1, .inl (cA, 2000, .inl (xLn f1 (xBad f1 f2 f3 f4 rn) k))), (a2, .inl (cA, 2000, .inl f2)), (a3, .inl (cA, 2000, .inl f3)), (a4, .inl (cA, 2000, .inl f4))] := hD
        subst hw
        refine lv_if_ne (tgt := 48) hx hb dX0_lengthenUnreaching_35 (by decide) (fun hc4 => ?_) (fun hc4 => ?_)
        · have hr4 : xRs f2 f3 f4 rn k = true := by
            by_cases q : xRs f2 f3 f4 rn k = true
            · exact q
            · rw [if_neg q] at hc4; exact absurd rfl hc4
          have hbad : ¬ xBad f1 f2 f3 f4 rn k = true := by unfold xBad; simp [hr4]
          refine lv_iinc (v := nI (k + 1)) (lv' := [(2, .int (nI (k + 1))), (0, .ref h0), (1, .int (nI (cnt (xBad f1 f2 f3 f4 rn) k)))]) hx hb dX0_lengthenUnreaching_48 hl (k := 2) rfl (nI_1 _) (by decide) rfl (fun ls hl => ?_)
          refine lv_goto (tgt := 4) hx hb dX0_lengthenUnreaching_51 (by decide) ?_
          have ec : cnt (xBad f1 f2 f3 f4 rn) k = cnt (xBad f1 f2 f3 f4 rn) (k + 1) := (cnt_n hbad).symm
          rw [ec] at hl
          exact ih (n - (k + 1)) (k + 1) _ _ _ (by omega) ⟨⟨by omega, rfl⟩, by rw [← xLn_n hbad]; exact hP, by rw [← xLn_n hbad]; exact hD, hS, lv_sub hl [1, 2, 0] rfl⟩
        · have hr4 : ¬ xRs f2 f3 f4 rn k = true := fun q => by rw [if_pos q] at hc4; exact absurd hc4 (by decide)
          have hbad : xBad f1 f2 f3 f4 rn k = true := by unfold xBad; simp [hb2, h1, hr4]
          refine lv_aload_n hx hb dX0_lengthenUnreaching_38 rfl (lv_at hl 0 rfl) ?_
          refine va_get (D := (dC, dI)) (ci := 0) (v := .ref a1) (C := RX0) (T := TX0) (N := 10) hx hb hts in_X0_lengthenUnreaching hown hK hP 0 rfl rfl 0 (by decide) (hts (.fieldLink RX0 9 "BranchLengths" "words" "[I") (by decide +kernel)) (fun _ h9 => h9) rfl dX0_lengthenUnreaching_39 ?_
          refine lv_iload_n hx hb dX0_lengthenUnreaching_42 rfl (lv_at hl 2 rfl) ?_
          refine lv_iconst (v := 2) hx hb dX0_lengthenUnreaching_43 (by decide) ?_
          refine na_iast (k := k) hx hb hK hP hD hS 1 0 rfl rfl (by omega) (by decide) (xLn f1 (xBad f1 f2 f3 f4 rn) (k + 1)) (xLn_b hbad) dX0_lengthenUnreaching_44 (fun H locs hP hD hS => ?_)
          have hP : va_P (dC, dI) vwCl [(h0, .inr (0, [.ref a1, .ref a2, .ref a3, .ref a4, .int (nI n), .int kc, .int lc, .int rn, .int ml, .int lo])), (a1, .inl (cA, 2000, .inl (xLn f1 (xBad f1 f2 f3 f4 rn) (k + 1)))), (a2, .inl (cA, 2000, .inl f2)), (a3, .inl (cA, 2000, .inl f3)), (a4, .inl (cA, 2000, .inl f4))] H := hP
          have hD : va_D A [(h0, .inr (0, [.ref a1, .ref a2, .ref a3, .ref a4, .int (nI n), .int kc, .int lc, .int rn, .int ml, .int lo])), (a1, .inl (cA, 2000, .inl (xLn f1 (xBad f1 f2 f3 f4 rn) (k + 1)))), (a2, .inl (cA, 2000, .inl f2)), (a3, .inl (cA, 2000, .inl f3)), (a4, .inl (cA, 2000, .inl f4))] := hD
          refine lv_iinc (v := nI (cnt (xBad f1 f2 f3 f4 rn) k + 1)) (lv' := [(1, .int (nI (cnt (xBad f1 f2 f3 f4 rn) k + 1))), (0, .ref h0), (2, .int (nI k))]) hx hb dX0_lengthenUnreaching_45 hl (k := 1) rfl (nI_1 _) (by decide) rfl (fun ls hl => ?_)
          refine lv_iinc (v := nI (k + 1)) (lv' := [(2, .int (nI (k + 1))), (1, .int (nI (cnt (xBad f1 f2 f3 f4 rn) k + 1))), (0, .ref h0)]) hx hb dX0_lengthenUnreaching_48 hl (k := 2) rfl (nI_1 _) (by decide) rfl (fun ls hl => ?_)
          refine lv_goto (tgt := 4) hx hb dX0_lengthenUnreaching_51 (by decide) ?_
          have ec : cnt (xBad f1 f2 f3 f4 rn) k + 1 = cnt (xBad f1 f2 f3 f4 rn) (k + 1) := (cnt_s hbad).symm
          rw [ec] at hl
          exact ih (n - (k + 1)) (k + 1) _ _ _ (by omega) ⟨⟨by omega, rfl⟩, hP, hD, hS, lv_sub hl [2, 1, 0] rfl⟩
end
section
theorem na_nlt {x : Int32} (h : 0 ≤ x) : ¬ x < 0 := fun q => by
  rw [Int32.lt_iff_toInt_lt] at q
  rw [Int32.le_iff_toInt_le] at h
  omega
theorem na_nge0 {x : Int32} (h : ¬ x < 0) : 0 ≤ x := by
  rw [Int32.lt_iff_toInt_lt] at h
  rw [Int32.le_iff_toInt_le]
  omega
theorem na_same_int {D : va_G} {cl : List vw_C} {tys : List (ClassId × FieldType)} {U : State} {a b : ClassId} (h : va_K D cl tys U) {i j : Nat} (hi : tys[i]? = some (a, .int)) (hj : tys[j]? = some (b, .int)) : a = b := by
  have h1 : U.vm.findClass ("[" ++ FieldType.int.toString) = some a := (h.2 i _ hi).2
  have h2 : U.vm.findClass ("[" ++ FieldType.int.toString) = some b := (h.2 j _ hj).2
  exact Option.some.inj (h1.symm.trans h2)
-- THE ROW: n items, K marks; br: is it a branch; b: its words if not; tg: the mark's number of a branch; mi: the item of a mark
def RowOk (n K : Nat) (br : Nat → Bool) (b tg mi : Nat → Nat) : Prop := n ≤ 1024 ∧ K ≤ n ∧ (∀ j, j < n → b j ≤ 4000) ∧ (∀ j, j < n → br j = true → tg j < 2 ^ 31) ∧ ∀ t, t < K → mi t < n
def LAll (n K : Nat) (br : Nat → Bool) (tg : Nat → Nat) : Prop := ∀ j, j < n → br j = true → tg j < K
def LMiss (n K : Nat) (br : Nat → Bool) (tg : Nat → Nat) (v : Int32) : Prop := ∃ j, j < n ∧ v = nI j ∧ br j = true ∧ K ≤ tg j ∧ ∀ i, i < j → br i = true → tg i < K
theorem lmiss_uniq {n K : Nat} {br : Nat → Bool} {tg : Nat → Nat} {v v' : Int32} (h : LMiss n K br tg v) (h' : LMiss n K br tg v') : v = v' := by
  obtain ⟨j, h1, h2, h3, h4, h5⟩ := h
  obtain ⟨j', g1, g2, g3, g4, g5⟩ := h'
  have e : j = j' := by
    rcases Nat.lt_trichotomy j j' with q | q | q
    · have := g5 j q h3
      omega
    · exact q
    · have := h5 j' q g3
      omega
  rw [h2, g2, e]
theorem lmiss_all {n K : Nat} {br : Nat → Bool} {tg : Nat → Nat} {v : Int32} (h : LMiss n K br tg v) (h' : LAll n K br tg) : False := by
  obtain ⟨j, h1, h2, h3, h4, h5⟩ := h
  have := h' j h1 h3
  omega
def XRow (f1 f2 f4 : Nat → Int32) (n K : Nat) (br : Nat → Bool) (b tg mi : Nat → Nat) : Prop := (∀ j, j < n → br j = true → f2 j = nI (tg j) ∧ (f1 j = 1 ∨ f1 j = 2)) ∧ (∀ j, j < n → ¬ br j = true → f2 j = -1 ∧ f1 j = nI (b j)) ∧ ∀ t, t < K → f4 t = nI (mi t)
def xF (n : Nat) (f1 : Nat → Int32) (br : Nat → Bool) (b : Nat → Nat) (L : Nat → Bool) : Nat → Int32 := fun j => if j < n then nI (wd br b L j) else f1 j
def xG (n : Nat) (f3 : Nat → Int32) (br : Nat → Bool) (b : Nat → Nat) (L : Nat → Bool) : Nat → Int32 := fun j => if j < n then nI (ps (wd br b L) j) else f3 j
def brL (br L : Nat → Bool) : Nat → Bool := fun j => br j && L j
def XLay (n K rr : Nat) (br : Nat → Bool) (b tg mi : Nat → Nat) (f1 f3 : Nat → Int32) (lc : Int32) (r : Int32) (u : (Nat → Int32) × (Nat → Int32) × Int32 × Int32 × Int32) : Prop :=
  (LMiss n K br tg u.2.2.2.1 ∧ r = -1 ∧ u.1 = f1 ∧ u.2.1 = f3 ∧ u.2.2.1 = lc ∧ u.2.2.2.2 = 0) ∨
  (LAll n K br tg ∧ u.2.2.2.1 = -1 ∧ u.2.2.2.2 = 1 ∧ ∃ L : Nat → Bool, Closd n rr br b (fun j => mi (tg j)) L ∧ Least n rr br b (fun j => mi (tg j)) L ∧ r = nI (ps (wd br b L) n) ∧ u.1 = xF n f1 br b L ∧ u.2.1 = xG n f3 br b L ∧ u.2.2.1 = nI (cnt (brL br L) n))
theorem cnt_false : ∀ n, cnt (fun _ => false) n = 0 := by
  intro n
  induction n with
  | zero => rfl
  | succ n ih =>
    simp only [cnt]
    rw [ih]
    rfl
theorem m1_lt (K : Nat) (h : K < 2 ^ 31) : (-1 : Int32) < nI K := by
  rw [Int32.lt_iff_toInt_lt, nI_toInt h]
  have : (-1 : Int32).toInt = -1 := by decide
  omega
theorem nI_m1 {t : Nat} (h : t < 2 ^ 31) : ¬ nI t = -1 := by
  intro q
  have a := nI_toInt h
  rw [q] at a
  have : (-1 : Int32).toInt = -1 := by decide
  omega
section
variable {f1 f2 f3 f4 : Nat → Int32} {n K rr : Nat} {br : Nat → Bool} {b tg mi : Nat → Nat} {L : Nat → Bool}
theorem xr_lt (hX : XRow f1 f2 f4 n K br b tg mi) (hO : RowOk n K br b tg mi) {j : Nat} (hj : j < n) : f2 j < nI K ↔ (br j = true → tg j < K) := by
  obtain ⟨o1, o2, o3, o4, o5⟩ := hO
  by_cases hb : br j = true
  · rw [(hX.1 j hj hb).1]
    have := o4 j hj hb
    constructor
    · intro h _
      exact (nI_ltI this (by omega)).mp h
    · intro h
      exact (nI_ltI this (by omega)).mpr (h hb)
  · rw [(hX.2.1 j hj hb).1]
    exact ⟨fun _ q => absurd q hb, fun _ => m1_lt K (by omega)⟩
theorem xr_fm (hX : XRow f1 f2 f4 n K br b tg mi) (hO : RowOk n K br b tg mi) {r : Int32} (h : xFm f2 (nI K) n r) : (r = -1 ∧ LAll n K br tg) ∨ (¬ r = -1 ∧ LMiss n K br tg r) := by
  rcases h with ⟨h1, h2⟩ | ⟨j, h1, h2, h3, h4⟩
  · exact Or.inl ⟨h1, fun j hj => (xr_lt hX hO hj).mp (h2 j hj)⟩
  · refine Or.inr ⟨by rw [h2]; exact nI_m1 (by have := hO.1; omega), j, h1, h2, ?_, ?_, fun i hi => (xr_lt hX hO (by omega)).mp (h4 i hi)⟩
    · by_cases hb : br j = true
      · exact hb
      · exact absurd ((xr_lt hX hO h1).mpr (fun q => absurd q hb)) h3
    · rcases Nat.lt_or_ge (tg j) K with q | q
      · exact absurd ((xr_lt hX hO h1).mpr (fun _ => q)) h3
      · exact q
theorem xr_br (hX : XRow f1 f2 f4 n K br b tg mi) (hO : RowOk n K br b tg mi) {j : Nat} (hj : j < n) : ¬ f2 j = -1 ↔ br j = true := by
  by_cases hb : br j = true
  · rw [(hX.1 j hj hb).1]
    exact ⟨fun _ => hb, fun _ => nI_m1 (hO.2.2.2.1 j hj hb)⟩
  · rw [(hX.2.1 j hj hb).1]
    exact ⟨fun q => absurd rfl q, fun q => absurd q hb⟩
theorem xr_nn (hX : XRow f1 f2 f4 n K br b tg mi) (hO : RowOk n K br b tg mi) : ∀ j, j < n → ¬ f2 j = -1 → ¬ f2 j < 0 := by
  intro j hj h
  have hb := (xr_br hX hO hj).mp h
  rw [(hX.1 j hj hb).1]
  exact nI_pos (hO.2.2.2.1 j hj hb)
theorem xr_tq (hX : XRow f1 f2 f4 n K br b tg mi) (hO : RowOk n K br b tg mi) (hA : LAll n K br tg) : ∀ j, j < n → ¬ f2 j = -1 → ∃ t q : Nat, t < 2000 ∧ q < 2000 ∧ f2 j = nI t ∧ f4 t = nI q ∧ ¬ nI K ≤ nI t ∧ ¬ nI n ≤ nI q := by
  intro j hj h
  have hb := (xr_br hX hO hj).mp h
  have ht := hA j hj hb
  obtain ⟨o1, o2, o3, o4, o5⟩ := hO
  have hq := o5 (tg j) ht
  exact ⟨tg j, mi (tg j), by omega, by omega, (hX.1 j hj hb).1, hX.2.2 _ ht, nI_ge ht (by omega), nI_ge hq (by omega)⟩
theorem xr_tqe (hX : XRow f1 f2 f4 n K br b tg mi) (hO : RowOk n K br b tg mi) (hA : LAll n K br tg) {j : Nat} (hj : j < n) (hb : br j = true) : xTq f2 f4 j = mi (tg j) := by
  have ht := hA j hj hb
  obtain ⟨o1, o2, o3, o4, o5⟩ := hO
  have := o5 (tg j) ht
  unfold xTq
  rw [(hX.1 j hj hb).1, nI_clamp (by omega), hX.2.2 _ ht, nI_clamp (by omega)]
theorem xr_sh (hX : XRow f1 f2 f4 n K br b tg mi) (hO : RowOk n K br b tg mi) : xSh f1 f2 n = xF n f1 br b (fun _ => false) := na_fun fun j => by
  unfold xSh xF wd
  by_cases hj : j < n
  · rw [if_pos hj]
    by_cases hb : br j = true
    · rw [if_pos ⟨hj, (xr_br hX hO hj).mpr hb⟩, if_pos hb]
      rfl
    · rw [if_neg (fun q => hb ((xr_br hX hO hj).mp q.2)), if_neg hb]
      exact (hX.2.1 j hj hb).2
  · rw [if_neg (fun q => hj q.1), if_neg hj]
theorem xf_sum (f1 : Nat → Int32) (n : Nat) (br : Nat → Bool) (b : Nat → Nat) (L : Nat → Bool) : ∀ k, k ≤ n → bx_sum (xF n f1 br b L) k = nI (ps (wd br b L) k) := by
  intro k
  induction k with
  | zero => intro _; rfl
  | succ k ih =>
    intro h
    show bx_sum (xF n f1 br b L) k + xF n f1 br b L k = _
    rw [ih (by omega)]
    unfold xF
    rw [if_pos (by omega), nI_add]
    rfl
theorem xf_pl (f1 f3 : Nat → Int32) (n : Nat) (br : Nat → Bool) (b : Nat → Nat) (L : Nat → Bool) : xPl (xF n f1 br b L) f3 n = xG n f3 br b L := na_fun fun j => by
  unfold xPl xG
  by_cases hj : j < n
  · rw [if_pos hj, if_pos hj, xf_sum f1 n br b L j (by omega)]
  · rw [if_neg hj, if_neg hj]
theorem xf_pl2 (f1 f3 : Nat → Int32) (n : Nat) (br : Nat → Bool) (b : Nat → Nat) (L L' : Nat → Bool) : xPl (xF n f1 br b L) (xG n f3 br b L') n = xG n f3 br b L := na_fun fun j => by
  unfold xPl xG
  by_cases hj : j < n
  · rw [if_pos hj, if_pos hj, xf_sum f1 n br b L j (by omega)]
  · rw [if_neg hj, if_neg hj, if_neg hj]
theorem wd_le (hO : RowOk n K br b tg mi) : ∀ j, j < n → wd br b L j ≤ 4000 := by
  intro j hj
  have := hO.2.2.1 j hj
  unfold wd
  split
  · split <;> omega
  · exact this
theorem ps_small (hO : RowOk n K br b tg mi) {k : Nat} (hk : k ≤ n) : ps (wd br b L) k < 2 ^ 30 := by
  have h1 := ps_bound (wd_le (L := L) hO) k hk
  have := hO.1
  omega
/-- what isn't far: the two compares of the code -/
theorem far_code {x y rr : Nat} (hx : x < 2 ^ 30) (hy : y < 2 ^ 30) (hr : rr ≤ 100000) : (¬ nI y - nI x < -nI rr ∧ ¬ nI rr < nI y - nI x) ↔ ¬ (x + rr < y ∨ y + rr < x) := by
  rw [Int32.lt_iff_toInt_lt, Int32.lt_iff_toInt_lt, pk_sub_toInt hy hx, sb_negT (by omega), nI_toInt (by omega)]
  omega
theorem xr_bad (hX : XRow f1 f2 f4 n K br b tg mi) (hO : RowOk n K br b tg mi) (hA : LAll n K br tg) (hr : rr ≤ 100000) (L : Nat → Bool) {j : Nat} (hj : j < n) : xBad (xF n f1 br b L) f2 (xG n f3 br b L) f4 (nI rr) j = true ↔ br j = true ∧ ¬ L j = true ∧ Far rr (wd br b L) j (mi (tg j)) := by
  unfold xBad
  rw [Bool.and_eq_true, Bool.and_eq_true, decide_eq_true_eq, decide_eq_true_eq, xr_br hX hO hj]
  by_cases hb : br j = true
  · have e1 : xF n f1 br b L j = 1 ↔ ¬ L j = true := by
      unfold xF wd
      rw [if_pos hj, if_pos hb]
      by_cases hl : L j = true
      · rw [if_pos hl]
        exact ⟨fun q => absurd q (by decide), fun q => absurd hl q⟩
      · rw [if_neg hl]
        exact ⟨fun _ => hl, fun _ => rfl⟩
    have hm := hO.2.2.2.2 (tg j) (hA j hj hb)
    have e2 : (!xRs f2 (xG n f3 br b L) f4 (nI rr) j) = true ↔ Far rr (wd br b L) j (mi (tg j)) := by
      unfold xRs
      rw [xr_tqe hX hO hA hj hb]
      have g1 : xG n f3 br b L (mi (tg j)) = nI (ps (wd br b L) (mi (tg j))) := by
        unfold xG
        rw [if_pos hm]
      have g2 : xG n f3 br b L j = nI (ps (wd br b L) j) := by
        unfold xG
        rw [if_pos hj]
      rw [g1, g2]
      have h3 := far_code (x := ps (wd br b L) j) (y := ps (wd br b L) (mi (tg j))) (rr := rr) (ps_small hO (by omega)) (ps_small hO (by omega)) hr
      unfold Far
      rw [Bool.not_eq_true', Bool.and_eq_false_iff, decide_eq_false_iff_not, decide_eq_false_iff_not]
      constructor
      · intro q
        refine Classical.byContradiction fun z => ?_
        have := h3.mpr z
        rcases q with q | q
        · exact q this.1
        · exact q this.2
      · intro q
        refine Classical.byContradiction fun z => ?_
        rw [not_or, Classical.not_not, Classical.not_not] at z
        exact h3.mp z q
    rw [e1, e2]
  · exact ⟨fun q => absurd q.1 hb, fun q => absurd q.1 hb⟩
theorem xf_ln (f1 : Nat → Int32) (n : Nat) (br : Nat → Bool) (b : Nat → Nat) (L bad : Nat → Bool) (h : ∀ j, j < n → bad j = true → br j = true) : xLn (xF n f1 br b L) bad n = xF n f1 br b (fun j => L j || bad j) := na_fun fun j => by
  unfold xLn xF wd
  by_cases hj : j < n
  · by_cases hb : bad j = true
    · rw [if_pos ⟨hj, hb⟩, if_pos hj, if_pos (h j hj hb), if_pos (show (L j || bad j) = true by rw [hb, Bool.or_true])]
      rfl
    · have hf : bad j = false := by cases q : bad j <;> simp_all
      have e9 : ((fun j => L j || bad j) j = true) = (L j = true) := by show ((L j || bad j) = true) = _; rw [hf, Bool.or_false]
      rw [if_neg (fun q => hb q.2), if_pos hj, if_pos hj]
      simp only [e9]
  · rw [if_neg (fun q => hj q.1), if_neg hj, if_neg hj]
theorem xln_none {f : Nat → Int32} {bad : Nat → Bool} {n : Nat} (h : cnt bad n = 0) : xLn f bad n = f := na_fun fun j => by
  unfold xLn
  exact if_neg (fun q => cnt_0 n h j q.1 q.2)
theorem least_bad (hX : XRow f1 f2 f4 n K br b tg mi) (hO : RowOk n K br b tg mi) (hA : LAll n K br tg) (hr : rr ≤ 100000) {L : Nat → Bool} (h : Least n rr br b (fun j => mi (tg j)) L) : Least n rr br b (fun j => mi (tg j)) (fun j => L j || xBad (xF n f1 br b L) f2 (xG n f3 br b L) f4 (nI rr) j) := by
  refine least_step (fun i hi hb => Nat.le_of_lt (hO.2.2.2.2 _ (hA i hi hb))) h (fun i hi hb hs => ?_)
  rw [Bool.or_eq_true] at hs
  rcases hs with q | q
  · exact Or.inl q
  · exact Or.inr ((xr_bad hX hO hA hr L hi).mp q).2.2
theorem closd_bad (hX : XRow f1 f2 f4 n K br b tg mi) (hO : RowOk n K br b tg mi) (hA : LAll n K br tg) (hr : rr ≤ 100000) {L : Nat → Bool} (h : cnt (xBad (xF n f1 br b L) f2 (xG n f3 br b L) f4 (nI rr)) n = 0) : Closd n rr br b (fun j => mi (tg j)) L := fun i hi hb hl hf => cnt_0 n h i hi ((xr_bad hX hO hA hr L hi).mpr ⟨hb, hl, hf⟩)
theorem cnt_bad (hX : XRow f1 f2 f4 n K br b tg mi) (hO : RowOk n K br b tg mi) (hA : LAll n K br tg) (hr : rr ≤ 100000) (L : Nat → Bool) : cnt (brL br (fun j => L j || xBad (xF n f1 br b L) f2 (xG n f3 br b L) f4 (nI rr) j)) n = cnt (brL br L) n + cnt (xBad (xF n f1 br b L) f2 (xG n f3 br b L) f4 (nI rr)) n := by
  refine cnt_add (n := n) (fun i hi => ⟨?_, ?_⟩) n (Nat.le_refl _)
  · unfold brL
    rw [Bool.and_eq_true, Bool.or_eq_true, Bool.and_eq_true]
    constructor
    · rintro ⟨h1, h2 | h2⟩
      · exact Or.inl ⟨h1, h2⟩
      · exact Or.inr h2
    · rintro (⟨h1, h2⟩ | h2)
      · exact ⟨h1, Or.inl h2⟩
      · exact ⟨((xr_bad hX hO hA hr L hi).mp h2).1, Or.inr h2⟩
  · unfold brL
    rw [Bool.and_eq_true]
    rintro ⟨⟨h1, h2⟩, h3⟩
    exact ((xr_bad hX hO hA hr L hi).mp h3).2.1 h2
theorem closd_full {L : Nat → Bool} {t : Nat → Nat} (h : n ≤ cnt (brL br L) n) : Closd n rr br b t L := fun i hi hb hl _ => hl (by
  have := cnt_all n h i hi
  unfold brL at this
  rw [Bool.and_eq_true] at this
  exact this.2)
end
end
section
set_option maxHeartbeats 4000000 in
set_option maxRecDepth 100000 in
/-- lay() -/
theorem c_lay (l : Launch) (dC : Nat → ClassId) (dI : Nat → Nat → Nat) (cA : ClassId) (h0 a1 a2 a3 a4 sz : Nat) (f1 f2 f3 f4 : Nat → Int32) (n K rr : Nat) (br : Nat → Bool) (b tg mi : Nat → Nat) (lc ml lo : Int32) (hX : XRow f1 f2 f4 n K br b tg mi) (hO : RowOk n K br b tg mi) (hr0 : rr ≤ 100000) : na_Mi (S := (Nat → Int32) × (Nat → Int32) × Int32 × Int32 × Int32) l yX0_lay wsX0_lay ({ frames := 3, cells := 0, slots := 0, locals := 80 }) (dC, dI) vwCl [(cA, .int)] sz [.ref h0] [(h0, .inr (0, [.ref a1, .ref a2, .ref a3, .ref a4, .int (nI n), .int (nI K), .int lc, .int (nI rr), .int ml, .int lo])), (a1, .inl (cA, 2000, .inl f1)), (a2, .inl (cA, 2000, .inl f2)), (a3, .inl (cA, 2000, .inl f3)), (a4, .inl (cA, 2000, .inl f4))] (XLay n K rr br b tg mi f1 f3 lc) (fun u => [(h0, .inr (0, [.ref a1, .ref a2, .ref a3, .ref a4, .int (nI n), .int (nI K), .int u.2.2.1, .int (nI rr), .int u.2.2.2.1, .int u.2.2.2.2])), (a1, .inl (cA, 2000, .inl u.1)), (a2, .inl (cA, 2000, .inl f2)), (a3, .inl (cA, 2000, .inl u.2.1)), (a4, .inl (cA, 2000, .inl f4))]) := by
  refine Met.ofW (cc := cX0_lay) (maxL := 4) (ret := (some .int)) (by decide) rfl ?_
  intro p e s m args below meth c s₁ B hml hv
  obtain ⟨rfl, hsz, hP, hK, hD0⟩ := hv
  have hx := B.exec
  have hb := B.bytes
  have hr := B.returns
  have hts := atoms_spec (ws := wsX0_lay) B.pre
  have hown : s.vm.findClass RX0 = some m.cls := findClass_of_methodNamed B.named
  have hlocks := B.notSynchronized
  subst hsz
  have hD := hD0.self (sz := s.heap.size)
  generalize hAe : va_A [(h0, .inr (0, [.ref a1, .ref a2, .ref a3, .ref a4, .int (nI n), .int (nI K), .int lc, .int (nI rr), .int ml, .int lo])), (a1, .inl (cA, 2000, .inl f1)), (a2, .inl (cA, 2000, .inl f2)), (a3, .inl (cA, 2000, .inl f3)), (a4, .inl (cA, 2000, .inl f4))] s.heap.size = A at hD ⊢
  have hA : ∀ q : Nat, s.heap.size ≤ q → A q := fun q h => by rw [← hAe]; exact Or.inr h
  have hS : va_S A s.heap s.heap [] := va_S.rf
  have hP : va_P (dC, dI) vwCl [(h0, .inr (0, [.ref a1, .ref a2, .ref a3, .ref a4, .int (nI n), .int (nI K), .int lc, .int (nI rr), .int ml, .int lo])), (a1, .inl (cA, 2000, .inl f1)), (a2, .inl (cA, 2000, .inl f2)), (a3, .inl (cA, 2000, .inl f3)), (a4, .inl (cA, 2000, .inl f4))] s.heap := hP
  have hl := lv_entry ([.ref h0]) (n := 4) (Nat.le_of_ble_eq_true rfl)
  rw [lg_entry_eq]
  generalize (lg_sl ([.ref h0]) ++ List.replicate (4 - (lg_sl ([.ref h0])).length) Slot.unset).toArray = ls at hl ⊢
  have hl : lv_has ls 4 [(0, .ref h0)] := hl
  have hn : n ≤ 1024 := hO.1
  refine lv_aload_n hx hb dX0_lay_0 rfl (lv_at hl 0 rfl) ?_
  refine lv_aload_n hx hb dX0_lay_1 rfl (lv_at hl 0 rfl) ?_
  refine na_calli (As := []) (rest := [.ref h0]) (wc := [(h0, .inr (0, [.ref a1, .ref a2, .ref a3, .ref a4, .int (nI n), .int (nI K), .int lc, .int (nI rr), .int ml, .int lo])), (a1, .inl (cA, 2000, .inl f1)), (a2, .inl (cA, 2000, .inl f2)), (a3, .inl (cA, 2000, .inl f3)), (a4, .inl (cA, 2000, .inl f4))]) (wr := []) (ci := 0) ⟨hx, hb, hml, hown, hts⟩ (c_firstMarkless l dC dI cA h0 a1 a2 a3 a4 s.heap.size f1 f2 f3 f4 n (nI K) lc (nI rr) ml lo (by omega) (m1_lt K (by have := hO.2.1; omega)) (xr_nn hX hO)) (cwV 0 hts gX0_lay_X0_firstMarkless rfl rfl rfl (by decide +kernel) ⟨Nat.le_of_ble_eq_true rfl, Nat.le_of_ble_eq_true rfl⟩) hK hP hD hS hA [0, 1, 2, 3, 4] [] rfl rfl rfl rfl (by decide) rfl rfl 0 rfl rfl hl.1 (Nat.le_of_ble_eq_true rfl) dX0_lay_2 ⟨Nat.le_of_ble_eq_true rfl, Nat.le_of_ble_eq_true rfl⟩ rfl (fun r u H locs hw hP hD hS => ?_)
  have hP : va_P (dC, dI) vwCl [(h0, .inr (0, [.ref a1, .ref a2, .ref a3, .ref a4, .int (nI n), .int (nI K), .int lc, .int (nI rr), .int ml, .int lo])), (a1, .inl (cA, 2000, .inl f1)), (a2, .inl (cA, 2000, .inl f2)), (a3, .inl (cA, 2000, .inl f3)), (a4, .inl (cA, 2000, .inl f4))] H := hP
  have hD : va_D A [(h0, .inr (0, [.ref a1, .ref a2, .ref a3, .ref a4, .int (nI n), .int (nI K), .int lc, .int (nI rr), .int ml, .int lo])), (a1, .inl (cA, 2000, .inl f1)), (a2, .inl (cA, 2000, .inl f2)), (a3, .inl (cA, 2000, .inl f3)), (a4, .inl (cA, 2000, .inl f4))] := hD
  have hw := xr_fm hX hO hw
  refine va_put (D := (dC, dI)) (ci := 0) (v := .int r) (ty := .int) (C := RX0) (T := TX0) (N := 10) hx hb hts in_X0_lay tyX0 tyX0_ok nmX0 hown hK hP hD hS 0 rfl rfl 8 (by decide) (hts (.fieldLink RX0 35 "BranchLengths" "markless" "I") (by decide +kernel)) (fun _ h9 => h9) rfl (by decide +kernel) rfl rfl (Nat.le_of_ble_eq_true rfl) dX0_lay_5 (fun H locs hP hD hS => ?_)
  have hP : va_P (dC, dI) vwCl [(h0, .inr (0, [.ref a1, .ref a2, .ref a3, .ref a4, .int (nI n), .int (nI K), .int lc, .int (nI rr), .int r, .int lo])), (a1, .inl (cA, 2000, .inl f1)), (a2, .inl (cA, 2000, .inl f2)), (a3, .inl (cA, 2000, .inl f3)), (a4, .inl (cA, 2000, .inl f4))] H := hP
  have hD : va_D A [(h0, .inr (0, [.ref a1, .ref a2, .ref a3, .ref a4, .int (nI n), .int (nI K), .int lc, .int (nI rr), .int r, .int lo])), (a1, .inl (cA, 2000, .inl f1)), (a2, .inl (cA, 2000, .inl f2)), (a3, .inl (cA, 2000, .inl f3)), (a4, .inl (cA, 2000, .inl f4))] := hD
  refine lv_aload_n hx hb dX0_lay_8 rfl (lv_at hl 0 rfl) ?_
  refine lv_aload_n hx hb dX0_lay_9 rfl (lv_at hl 0 rfl) ?_
  refine va_get (D := (dC, dI)) (ci := 0) (v := .int r) (C := RX0) (T := TX0) (N := 10) hx hb hts in_X0_lay hown hK hP 0 rfl rfl 8 (by decide) (hts (.fieldLink RX0 35 "BranchLengths" "markless" "I") (by decide +kernel)) (fun _ h9 => h9) rfl dX0_lay_10 ?_
  refine lv_iconst (v := -1) hx hb dX0_lay_13 (by decide) ?_
  refine lv_icmp_ne (tgt := 21) hx hb dX0_lay_14 (by decide) (fun hc => ?_) (fun hc => ?_)
  · have hw : LMiss n K br tg r := hw.elim (fun q => absurd q.1 hc) (fun q => q.2)
    refine lv_iconst (v := 0) hx hb dX0_lay_21 (by decide) ?_
    refine va_put (D := (dC, dI)) (ci := 0) (v := .int 0) (ty := .boolean) (C := RX0) (T := TX0) (N := 10) hx hb hts in_X0_lay tyX0 tyX0_ok nmX0 hown hK hP hD hS 0 rfl rfl 9 (by decide) (hts (.fieldLink RX0 38 "BranchLengths" "laidOut" "Z") (by decide +kernel)) (fun _ h9 => h9) rfl (by decide +kernel) rfl rfl (Nat.le_of_ble_eq_true rfl) dX0_lay_22 (fun H locs hP hD hS => ?_)
    have hP : va_P (dC, dI) vwCl [(h0, .inr (0, [.ref a1, .ref a2, .ref a3, .ref a4, .int (nI n), .int (nI K), .int lc, .int (nI rr), .int r, .int 0])), (a1, .inl (cA, 2000, .inl f1)), (a2, .inl (cA, 2000, .inl f2)), (a3, .inl (cA, 2000, .inl f3)), (a4, .inl (cA, 2000, .inl f4))] H := hP
    have hD : va_D A [(h0, .inr (0, [.ref a1, .ref a2, .ref a3, .ref a4, .int (nI n), .int (nI K), .int lc, .int (nI rr), .int r, .int 0])), (a1, .inl (cA, 2000, .inl f1)), (a2, .inl (cA, 2000, .inl f2)), (a3, .inl (cA, 2000, .inl f3)), (a4, .inl (cA, 2000, .inl f4))] := hD
    refine lv_aload_n hx hb dX0_lay_25 rfl (lv_at hl 0 rfl) ?_
    refine va_get (D := (dC, dI)) (ci := 0) (v := .int 0) (C := RX0) (T := TX0) (N := 10) hx hb hts in_X0_lay hown hK hP 0 rfl rfl 9 (by decide) (hts (.fieldLink RX0 38 "BranchLengths" "laidOut" "Z") (by decide +kernel)) (fun _ h9 => h9) rfl dX0_lay_26 ?_
    refine lv_if_ne (tgt := 34) hx hb dX0_lay_29 (by decide) (fun hc2 => ?_) (fun hc2 => ?_)
    · exact absurd rfl hc2
    · refine lv_iconst (v := -1) hx hb dX0_lay_32 (by decide) ?_
      exact W.iret (v := (-1)) hx hb hr (fun t ht hW => ⟨⟨(-1), (f1, f3, lc, r, 0), rfl, Or.inl ⟨hw, rfl, rfl, rfl, rfl, rfl⟩, by rw [ht]; exact hP, va_K.moved hW.alike hK, hD⟩, hS.F ht⟩) hS.2.2 dX0_lay_33
  · subst hc
    have hP : va_P (dC, dI) vwCl [(h0, .inr (0, [.ref a1, .ref a2, .ref a3, .ref a4, .int (nI n), .int (nI K), .int lc, .int (nI rr), .int (-1), .int lo])), (a1, .inl (cA, 2000, .inl f1)), (a2, .inl (cA, 2000, .inl f2)), (a3, .inl (cA, 2000, .inl f3)), (a4, .inl (cA, 2000, .inl f4))] H := hP
    have hD : va_D A [(h0, .inr (0, [.ref a1, .ref a2, .ref a3, .ref a4, .int (nI n), .int (nI K), .int lc, .int (nI rr), .int (-1), .int lo])), (a1, .inl (cA, 2000, .inl f1)), (a2, .inl (cA, 2000, .inl f2)), (a3, .inl (cA, 2000, .inl f3)), (a4, .inl (cA, 2000, .inl f4))] := hD
    have hA1 : LAll n K br tg := hw.elim (fun q => q.2) (fun q => absurd rfl q.1)
    refine lv_iconst (v := 1) hx hb dX0_lay_17 (by decide) ?_
    refine lv_goto (tgt := 22) hx hb dX0_lay_18 (by decide) ?_
    refine va_put (D := (dC, dI)) (ci := 0) (v := .int 1) (ty := .boolean) (C := RX0) (T := TX0) (N := 10) hx hb hts in_X0_lay tyX0 tyX0_ok nmX0 hown hK hP hD hS 0 rfl rfl 9 (by decide) (hts (.fieldLink RX0 38 "BranchLengths" "laidOut" "Z") (by decide +kernel)) (fun _ h9 => h9) rfl (by decide +kernel) rfl rfl (Nat.le_of_ble_eq_true rfl) dX0_lay_22 (fun H locs hP hD hS => ?_)
    have hP : va_P (dC, dI) vwCl [(h0, .inr (0, [.ref a1, .ref a2, .ref a3, .ref a4, .int (nI n), .int (nI K), .int lc, .int (nI rr), .int (-1), .int 1])), (a1, .inl (cA, 2000, .inl f1)), (a2, .inl (cA, 2000, .inl f2)), (a3, .inl (cA, 2000, .inl f3)), (a4, .inl (cA, 2000, .inl f4))] H := hP
    have hD : va_D A [(h0, .inr (0, [.ref a1, .ref a2, .ref a3, .ref a4, .int (nI n), .int (nI K), .int lc, .int (nI rr), .int (-1), .int 1])), (a1, .inl (cA, 2000, .inl f1)), (a2, .inl (cA, 2000, .inl f2)), (a3, .inl (cA, 2000, .inl f3)), (a4, .inl (cA, 2000, .inl f4))] := hD
    refine lv_aload_n hx hb dX0_lay_25 rfl (lv_at hl 0 rfl) ?_
    refine va_get (D := (dC, dI)) (ci := 0) (v := .int 1) (C := RX0) (T := TX0) (N := 10) hx hb hts in_X0_lay hown hK hP 0 rfl rfl 9 (by decide) (hts (.fieldLink RX0 38 "BranchLengths" "laidOut" "Z") (by decide +kernel)) (fun _ h9 => h9) rfl dX0_lay_26 ?_
    refine lv_if_ne (tgt := 34) hx hb dX0_lay_29 (by decide) (fun hc2 => ?_) (fun hc2 => ?_)
    · refine lv_aload_n hx hb dX0_lay_34 rfl (lv_at hl 0 rfl) ?_
      refine na_callv (As := []) (rest := []) (wc := [(h0, .inr (0, [.ref a1, .ref a2, .ref a3, .ref a4, .int (nI n), .int (nI K), .int lc, .int (nI rr), .int (-1), .int 1])), (a1, .inl (cA, 2000, .inl f1)), (a2, .inl (cA, 2000, .inl f2)), (a3, .inl (cA, 2000, .inl f3)), (a4, .inl (cA, 2000, .inl f4))]) (wr := []) (ci := 0) ⟨hx, hb, hml, hown, hts⟩ (c_shortenAll l dC dI cA h0 a1 a2 a3 a4 H.size f1 f2 f3 f4 n (nI K) lc (nI rr) (-1) 1 (by omega)) (cwV 0 hts gX0_lay_X0_shortenAll rfl rfl rfl (by decide +kernel) ⟨Nat.le_of_ble_eq_true rfl, Nat.le_of_ble_eq_true rfl⟩) hK hP hD hS hA [0, 1, 2, 3, 4] [] rfl rfl rfl rfl (by decide) rfl rfl 0 rfl rfl hl.1 (Nat.le_of_ble_eq_true rfl) dX0_lay_35 ⟨Nat.le_of_ble_eq_true rfl, Nat.le_of_ble_eq_true rfl⟩ rfl (fun u H locs hw hP hD hS => ?_)
      have hP : va_P (dC, dI) vwCl [(h0, .inr (0, [.ref a1, .ref a2, .ref a3, .ref a4, .int (nI n), .int (nI K), .int 0, .int (nI rr), .int (-1), .int 1])), (a1, .inl (cA, 2000, .inl (xSh f1 f2 n))), (a2, .inl (cA, 2000, .inl f2)), (a3, .inl (cA, 2000, .inl f3)), (a4, .inl (cA, 2000, .inl f4))] H := hP
      have hD : va_D A [(h0, .inr (0, [.ref a1, .ref a2, .ref a3, .ref a4, .int (nI n), .int (nI K), .int 0, .int (nI rr), .int (-1), .int 1])), (a1, .inl (cA, 2000, .inl (xSh f1 f2 n))), (a2, .inl (cA, 2000, .inl f2)), (a3, .inl (cA, 2000, .inl f3)), (a4, .inl (cA, 2000, .inl f4))] := hD
      rw [xr_sh hX hO] at hP hD
      have hP : va_P (dC, dI) vwCl [(h0, .inr (0, [.ref a1, .ref a2, .ref a3, .ref a4, .int (nI n), .int (nI K), .int 0, .int (nI rr), .int (-1), .int 1])), (a1, .inl (cA, 2000, .inl (xF n f1 br b (fun _ => false)))), (a2, .inl (cA, 2000, .inl f2)), (a3, .inl (cA, 2000, .inl f3)), (a4, .inl (cA, 2000, .inl f4))] H := hP
      have hD : va_D A [(h0, .inr (0, [.ref a1, .ref a2, .ref a3, .ref a4, .int (nI n), .int (nI K), .int 0, .int (nI rr), .int (-1), .int 1])), (a1, .inl (cA, 2000, .inl (xF n f1 br b (fun _ => false)))), (a2, .inl (cA, 2000, .inl f2)), (a3, .inl (cA, 2000, .inl f3)), (a4, .inl (cA, 2000, .inl f4))] := hD
      refine lv_aload_n hx hb dX0_lay_38 rfl (lv_at hl 0 rfl) ?_
      refine na_calli (As := []) (rest := []) (wc := [(h0, .inr (0, [.ref a1, .ref a2, .ref a3, .ref a4, .int (nI n), .int (nI K), .int 0, .int (nI rr), .int (-1), .int 1])), (a1, .inl (cA, 2000, .inl (xF n f1 br b (fun _ => false)))), (a2, .inl (cA, 2000, .inl f2)), (a3, .inl (cA, 2000, .inl f3)), (a4, .inl (cA, 2000, .inl f4))]) (wr := []) (ci := 0) ⟨hx, hb, hml, hown, hts⟩ (c_setPlaces l dC dI cA h0 a1 a2 a3 a4 H.size (xF n f1 br b (fun _ => false)) f2 f3 f4 n (nI K) 0 (nI rr) (-1) 1 (by omega)) (cwV 0 hts gX0_lay_X0_setPlaces rfl rfl rfl (by decide +kernel) ⟨Nat.le_of_ble_eq_true rfl, Nat.le_of_ble_eq_true rfl⟩) hK hP hD hS hA [0, 1, 2, 3, 4] [] rfl rfl rfl rfl (by decide) rfl rfl 0 rfl rfl hl.1 (Nat.le_of_ble_eq_true rfl) dX0_lay_39 ⟨Nat.le_of_ble_eq_true rfl, Nat.le_of_ble_eq_true rfl⟩ rfl (fun r u H locs hw hP hD hS => ?_)
      have hP : va_P (dC, dI) vwCl [(h0, .inr (0, [.ref a1, .ref a2, .ref a3, .ref a4, .int (nI n), .int (nI K), .int 0, .int (nI rr), .int (-1), .int 1])), (a1, .inl (cA, 2000, .inl (xF n f1 br b (fun _ => false)))), (a2, .inl (cA, 2000, .inl f2)), (a3, .inl (cA, 2000, .inl (xPl (xF n f1 br b (fun _ => false)) f3 n))), (a4, .inl (cA, 2000, .inl f4))] H := hP
      have hD : va_D A [(h0, .inr (0, [.ref a1, .ref a2, .ref a3, .ref a4, .int (nI n), .int (nI K), .int 0, .int (nI rr), .int (-1), .int 1])), (a1, .inl (cA, 2000, .inl (xF n f1 br b (fun _ => false)))), (a2, .inl (cA, 2000, .inl f2)), (a3, .inl (cA, 2000, .inl (xPl (xF n f1 br b (fun _ => false)) f3 n))), (a4, .inl (cA, 2000, .inl f4))] := hD
      rw [xf_pl] at hP hD
      rw [xf_sum _ _ _ _ _ n (Nat.le_refl n)] at hw
      subst hw
      have hP : va_P (dC, dI) vwCl [(h0, .inr (0, [.ref a1, .ref a2, .ref a3, .ref a4, .int (nI n), .int (nI K), .int 0, .int (nI rr), .int (-1), .int 1])), (a1, .inl (cA, 2000, .inl (xF n f1 br b (fun _ => false)))), (a2, .inl (cA, 2000, .inl f2)), (a3, .inl (cA, 2000, .inl (xG n f3 br b (fun _ => false)))), (a4, .inl (cA, 2000, .inl f4))] H := hP
      have hD : va_D A [(h0, .inr (0, [.ref a1, .ref a2, .ref a3, .ref a4, .int (nI n), .int (nI K), .int 0, .int (nI rr), .int (-1), .int 1])), (a1, .inl (cA, 2000, .inl (xF n f1 br b (fun _ => false)))), (a2, .inl (cA, 2000, .inl f2)), (a3, .inl (cA, 2000, .inl (xG n f3 br b (fun _ => false)))), (a4, .inl (cA, 2000, .inl f4))] := hD
      refine lv_istore_n (lv' := [(1, .int (nI (ps (wd br b (fun _ => false)) n))), (0, .ref h0)]) hx hb dX0_lay_42 rfl hl (by decide) rfl (fun ls hl => ?_)
      refine lv_iconst (v := nI 0) hx hb dX0_lay_43 rfl ?_
      refine lv_istore_n (lv' := [(2, .int (nI 0)), (1, .int (nI (ps (wd br b (fun _ => false)) n))), (0, .ref h0)]) hx hb dX0_lay_44 rfl hl (by decide) rfl (fun ls hl => ?_)
      have e0 : cnt (brL br (fun _ => false)) n = 0 := by
        have h9 := cnt_congr (P := brL br (fun _ => false)) (P' := fun _ => false) (n := n) (fun i _ => by simp [brL]) n (Nat.le_refl n)
        rw [h9]
        exact cnt_false n
      refine na_loop (pc := 45) (fun (d : Nat) (q : (Nat → Bool) × Nat) (H : Heap) (locs : List Loc) (ls : Array Slot) => (q.2 ≤ n ∧ d = n - q.2 ∧ Least n rr br b (fun j => mi (tg j)) q.1 ∧ q.2 ≤ cnt (brL br q.1) n) ∧ va_P (dC, dI) vwCl [(h0, .inr (0, [.ref a1, .ref a2, .ref a3, .ref a4, .int (nI n), .int (nI K), .int (nI (cnt (brL br q.1) n)), .int (nI rr), .int (-1), .int 1])), (a1, .inl (cA, 2000, .inl (xF n f1 br b q.1))), (a2, .inl (cA, 2000, .inl f2)), (a3, .inl (cA, 2000, .inl (xG n f3 br b q.1))), (a4, .inl (cA, 2000, .inl f4))] H ∧ va_D A [(h0, .inr (0, [.ref a1, .ref a2, .ref a3, .ref a4, .int (nI n), .int (nI K), .int (nI (cnt (brL br q.1) n)), .int (nI rr), .int (-1), .int 1])), (a1, .inl (cA, 2000, .inl (xF n f1 br b q.1))), (a2, .inl (cA, 2000, .inl f2)), (a3, .inl (cA, 2000, .inl (xG n f3 br b q.1))), (a4, .inl (cA, 2000, .inl f4))] ∧ va_S A s.heap H locs ∧ lv_has ls 4 [(0, .ref h0), (1, .int (nI (ps (wd br b q.1) n))), (2, .int (nI q.2))]) ?_ (n - 0) (((fun _ => false), 0)) ⟨⟨Nat.zero_le _, rfl, least_0 (fun _ _ _ => Bool.false_ne_true), Nat.zero_le _⟩, by rw [e0]; exact hP, by rw [e0]; exact hD, hS, lv_sub hl [2, 1, 0] rfl⟩
      intro d q H locs ls hI ih
      obtain ⟨L, R⟩ := q
      obtain ⟨⟨hkn, hd, hle, hcn⟩, hP, hD, hS, hl⟩ := hI
      dsimp only at hkn hd hle hcn hP hD hl
      refine lv_iload_n hx hb dX0_lay_45 rfl (lv_at hl 2 rfl) ?_
      refine lv_aload_n hx hb dX0_lay_46 rfl (lv_at hl 0 rfl) ?_
      refine va_get (D := (dC, dI)) (ci := 0) (v := .int (nI n)) (C := RX0) (T := TX0) (N := 10) hx hb hts in_X0_lay hown hK hP 0 rfl rfl 4 (by decide) (hts (.fieldLink RX0 22 "BranchLengths" "itemCount" "I") (by decide +kernel)) (fun _ h9 => h9) rfl dX0_lay_47 ?_
      refine lv_icmp_ge (tgt := 86) hx hb dX0_lay_50 (by decide) (fun hc3 => ?_) (fun hc3 => ?_)
      · have hkn' := na_ge (by omega) hkn hc3
        refine lv_iload_n hx hb dX0_lay_86 rfl (lv_at hl 1 rfl) ?_
        exact W.iret (v := (nI (ps (wd br b L) n))) hx hb hr (fun t ht hW => ⟨⟨(nI (ps (wd br b L) n)), (xF n f1 br b L, xG n f3 br b L, nI (cnt (brL br L) n), -1, 1), rfl, Or.inr ⟨hA1, rfl, rfl, L, closd_full (by omega), hle, rfl, rfl, rfl, rfl⟩, by rw [ht]; exact hP, va_K.moved hW.alike hK, hD⟩, hS.F ht⟩) hS.2.2 dX0_lay_87
      · have hlt := na_nge (by omega) hkn hc3
        refine lv_aload_n hx hb dX0_lay_53 rfl (lv_at hl 0 rfl) ?_
        refine na_calli (As := []) (rest := []) (wc := [(h0, .inr (0, [.ref a1, .ref a2, .ref a3, .ref a4, .int (nI n), .int (nI K), .int (nI (cnt (brL br L) n)), .int (nI rr), .int (-1), .int 1])), (a1, .inl (cA, 2000, .inl (xF n f1 br b L))), (a2, .inl (cA, 2000, .inl f2)), (a3, .inl (cA, 2000, .inl (xG n f3 br b L))), (a4, .inl (cA, 2000, .inl f4))]) (wr := []) (ci := 0) ⟨hx, hb, hml, hown, hts⟩ (c_lengthen l dC dI cA h0 a1 a2 a3 a4 H.size (xF n f1 br b L) f2 (xG n f3 br b L) f4 n (nI K) (nI (cnt (brL br L) n)) (nI rr) (-1) 1 (by omega) (xr_tq hX hO hA1)) (cwV 0 hts gX0_lay_X0_lengthenUnreaching rfl rfl rfl (by decide +kernel) ⟨Nat.le_of_ble_eq_true rfl, Nat.le_of_ble_eq_true rfl⟩) hK hP hD hS hA [0, 1, 2, 3, 4] [] rfl rfl rfl rfl (by decide) rfl rfl 0 rfl rfl hl.1 (Nat.le_of_ble_eq_true rfl) dX0_lay_54 ⟨Nat.le_of_ble_eq_true rfl, Nat.le_of_ble_eq_true rfl⟩ rfl (fun r u H locs hw hP hD hS => ?_)
        have hP : va_P (dC, dI) vwCl [(h0, .inr (0, [.ref a1, .ref a2, .ref a3, .ref a4, .int (nI n), .int (nI K), .int (nI (cnt (brL br L) n)), .int (nI rr), .int (-1), .int 1])), (a1, .inl (cA, 2000, .inl (xLn (xF n f1 br b L) (xBad (xF n f1 br b L) f2 (xG n f3 br b L) f4 (nI rr)) n))), (a2, .inl (cA, 2000, .inl f2)), (a3, .inl (cA, 2000, .inl (xG n f3 br b L))), (a4, .inl (cA, 2000, .inl f4))] H := hP
        have hD : va_D A [(h0, .inr (0, [.ref a1, .ref a2, .ref a3, .ref a4, .int (nI n), .int (nI K), .int (nI (cnt (brL br L) n)), .int (nI rr), .int (-1), .int 1])), (a1, .inl (cA, 2000, .inl (xLn (xF n f1 br b L) (xBad (xF n f1 br b L) f2 (xG n f3 br b L) f4 (nI rr)) n))), (a2, .inl (cA, 2000, .inl f2)), (a3, .inl (cA, 2000, .inl (xG n f3 br b L))), (a4, .inl (cA, 2000, .inl f4))] := hD
        subst hw
        refine lv_istore_n (lv' := [(3, .int (nI (cnt (xBad (xF n f1 br b L) f2 (xG n f3 br b L) f4 (nI rr)) n))), (0, .ref h0), (1, .int (nI (ps (wd br b L) n))), (2, .int (nI R))]) hx hb dX0_lay_57 rfl hl (by decide) rfl (fun ls hl => ?_)
        refine lv_iload_n hx hb dX0_lay_58 rfl (lv_at hl 0 rfl) ?_
        refine lv_if_ne (tgt := 65) hx hb dX0_lay_59 (by decide) (fun hc4 => ?_) (fun hc4 => ?_)
        · have hb9 : ∀ j, j < n → xBad (xF n f1 br b L) f2 (xG n f3 br b L) f4 (nI rr) j = true → br j = true := fun j hj hq => ((xr_bad hX hO hA1 hr0 L hj).mp hq).1
          rw [xf_ln f1 n br b L _ hb9] at hP hD
          have hP : va_P (dC, dI) vwCl [(h0, .inr (0, [.ref a1, .ref a2, .ref a3, .ref a4, .int (nI n), .int (nI K), .int (nI (cnt (brL br L) n)), .int (nI rr), .int (-1), .int 1])), (a1, .inl (cA, 2000, .inl (xF n f1 br b (fun j => L j || xBad (xF n f1 br b L) f2 (xG n f3 br b L) f4 (nI rr) j)))), (a2, .inl (cA, 2000, .inl f2)), (a3, .inl (cA, 2000, .inl (xG n f3 br b L))), (a4, .inl (cA, 2000, .inl f4))] H := hP
          have hD : va_D A [(h0, .inr (0, [.ref a1, .ref a2, .ref a3, .ref a4, .int (nI n), .int (nI K), .int (nI (cnt (brL br L) n)), .int (nI rr), .int (-1), .int 1])), (a1, .inl (cA, 2000, .inl (xF n f1 br b (fun j => L j || xBad (xF n f1 br b L) f2 (xG n f3 br b L) f4 (nI rr) j)))), (a2, .inl (cA, 2000, .inl f2)), (a3, .inl (cA, 2000, .inl (xG n f3 br b L))), (a4, .inl (cA, 2000, .inl f4))] := hD
          have ecn := cnt_bad (f3 := f3) hX hO hA1 hr0 L
          refine lv_aload_n hx hb dX0_lay_65 rfl (lv_at hl 1 rfl) ?_
          refine lv_dup hx hb dX0_lay_66 rfl ?_
          refine va_get (D := (dC, dI)) (ci := 0) (v := .int (nI (cnt (brL br L) n))) (C := RX0) (T := TX0) (N := 10) hx hb hts in_X0_lay hown hK hP 0 rfl rfl 6 (by decide) (hts (.fieldLink RX0 29 "BranchLengths" "longCount" "I") (by decide +kernel)) (fun _ h9 => h9) rfl dX0_lay_67 ?_
          refine lv_iload_n hx hb dX0_lay_70 rfl (lv_at hl 0 rfl) ?_
          refine lv_iadd hx hb dX0_lay_71 ?_
          refine na_eqi (y := nI (cnt (brL br (fun j => L j || xBad (xF n f1 br b L) f2 (xG n f3 br b L) f4 (nI rr) j)) n)) (by rw [nI_add, ecn]) ?_
          refine va_put (D := (dC, dI)) (ci := 0) (v := .int (nI (cnt (brL br (fun j => L j || xBad (xF n f1 br b L) f2 (xG n f3 br b L) f4 (nI rr) j)) n))) (ty := .int) (C := RX0) (T := TX0) (N := 10) hx hb hts in_X0_lay tyX0 tyX0_ok nmX0 hown hK hP hD hS 0 rfl rfl 6 (by decide) (hts (.fieldLink RX0 29 "BranchLengths" "longCount" "I") (by decide +kernel)) (fun _ h9 => h9) rfl (by decide +kernel) rfl rfl (Nat.le_of_ble_eq_true rfl) dX0_lay_72 (fun H locs hP hD hS => ?_)
          have hP : va_P (dC, dI) vwCl [(h0, .inr (0, [.ref a1, .ref a2, .ref a3, .ref a4, .int (nI n), .int (nI K), .int (nI (cnt (brL br (fun j => L j || xBad (xF n f1 br b L) f2 (xG n f3 br b L) f4 (nI rr) j)) n)), .int (nI rr), .int (-1), .int 1])), (a1, .inl (cA, 2000, .inl (xF n f1 br b (fun j => L j || xBad (xF n f1 br b L) f2 (xG n f3 br b L) f4 (nI rr) j)))), (a2, .inl (cA, 2000, .inl f2)), (a3, .inl (cA, 2000, .inl (xG n f3 br b L))), (a4, .inl (cA, 2000, .inl f4))] H := hP
          have hD : va_D A [(h0, .inr (0, [.ref a1, .ref a2, .ref a3, .ref a4, .int (nI n), .int (nI K), .int (nI (cnt (brL br (fun j => L j || xBad (xF n f1 br b L) f2 (xG n f3 br b L) f4 (nI rr) j)) n)), .int (nI rr), .int (-1), .int 1])), (a1, .inl (cA, 2000, .inl (xF n f1 br b (fun j => L j || xBad (xF n f1 br b L) f2 (xG n f3 br b L) f4 (nI rr) j)))), (a2, .inl (cA, 2000, .inl f2)), (a3, .inl (cA, 2000, .inl (xG n f3 br b L))), (a4, .inl (cA, 2000, .inl f4))] := hD
          refine lv_aload_n hx hb dX0_lay_75 rfl (lv_at hl 1 rfl) ?_
          refine na_calli (As := []) (rest := []) (wc := [(h0, .inr (0, [.ref a1, .ref a2, .ref a3, .ref a4, .int (nI n), .int (nI K), .int (nI (cnt (brL br (fun j => L j || xBad (xF n f1 br b L) f2 (xG n f3 br b L) f4 (nI rr) j)) n)), .int (nI rr), .int (-1), .int 1])), (a1, .inl (cA, 2000, .inl (xF n f1 br b (fun j => L j || xBad (xF n f1 br b L) f2 (xG n f3 br b L) f4 (nI rr) j)))), (a2, .inl (cA, 2000, .inl f2)), (a3, .inl (cA, 2000, .inl (xG n f3 br b L))), (a4, .inl (cA, 2000, .inl f4))]) (wr := []) (ci := 0) ⟨hx, hb, hml, hown, hts⟩ (c_setPlaces l dC dI cA h0 a1 a2 a3 a4 H.size (xF n f1 br b (fun j => L j || xBad (xF n f1 br b L) f2 (xG n f3 br b L) f4 (nI rr) j)) f2 (xG n f3 br b L) f4 n (nI K) (nI (cnt (brL br (fun j => L j || xBad (xF n f1 br b L) f2 (xG n f3 br b L) f4 (nI rr) j)) n)) (nI rr) (-1) 1 (by omega)) (cwV 0 hts gX0_lay_X0_setPlaces rfl rfl rfl (by decide +kernel) ⟨Nat.le_of_ble_eq_true rfl, Nat.le_of_ble_eq_true rfl⟩) hK hP hD hS hA [0, 1, 2, 3, 4] [] rfl rfl rfl rfl (by decide) rfl rfl 0 rfl rfl hl.1 (Nat.le_of_ble_eq_true rfl) dX0_lay_76 ⟨Nat.le_of_ble_eq_true rfl, Nat.le_of_ble_eq_true rfl⟩ rfl (fun r u H locs hw hP hD hS => ?_)
          have hP : va_P (dC, dI) vwCl [(h0, .inr (0, [.ref a1, .ref a2, .ref a3, .ref a4, .int (nI n), .int (nI K), .int (nI (cnt (brL br (fun j => L j || xBad (xF n f1 br b L) f2 (xG n f3 br b L) f4 (nI rr) j)) n)), .int (nI rr), .int (-1), .int 1])), (a1, .inl (cA, 2000, .inl (xF n f1 br b (fun j => L j || xBad (xF n f1 br b L) f2 (xG n f3 br b L) f4 (nI rr) j)))), (a2, .inl (cA, 2000, .inl f2)), (a3, .inl (cA, 2000, .inl (xPl (xF n f1 br b (fun j => L j || xBad (xF n f1 br b L) f2 (xG n f3 br b L) f4 (nI rr) j)) (xG n f3 br b L) n))), (a4, .inl (cA, 2000, .inl f4))] H := hP
          have hD : va_D A [(h0, .inr (0, [.ref a1, .ref a2, .ref a3, .ref a4, .int (nI n), .int (nI K), .int (nI (cnt (brL br (fun j => L j || xBad (xF n f1 br b L) f2 (xG n f3 br b L) f4 (nI rr) j)) n)), .int (nI rr), .int (-1), .int 1])), (a1, .inl (cA, 2000, .inl (xF n f1 br b (fun j => L j || xBad (xF n f1 br b L) f2 (xG n f3 br b L) f4 (nI rr) j)))), (a2, .inl (cA, 2000, .inl f2)), (a3, .inl (cA, 2000, .inl (xPl (xF n f1 br b (fun j => L j || xBad (xF n f1 br b L) f2 (xG n f3 br b L) f4 (nI rr) j)) (xG n f3 br b L) n))), (a4, .inl (cA, 2000, .inl f4))] := hD
          rw [xf_pl2] at hP hD
          rw [xf_sum _ _ _ _ _ n (Nat.le_refl n)] at hw
          subst hw
          have hP : va_P (dC, dI) vwCl [(h0, .inr (0, [.ref a1, .ref a2, .ref a3, .ref a4, .int (nI n), .int (nI K), .int (nI (cnt (brL br (fun j => L j || xBad (xF n f1 br b L) f2 (xG n f3 br b L) f4 (nI rr) j)) n)), .int (nI rr), .int (-1), .int 1])), (a1, .inl (cA, 2000, .inl (xF n f1 br b (fun j => L j || xBad (xF n f1 br b L) f2 (xG n f3 br b L) f4 (nI rr) j)))), (a2, .inl (cA, 2000, .inl f2)), (a3, .inl (cA, 2000, .inl (xG n f3 br b (fun j => L j || xBad (xF n f1 br b L) f2 (xG n f3 br b L) f4 (nI rr) j)))), (a4, .inl (cA, 2000, .inl f4))] H := hP
          have hD : va_D A [(h0, .inr (0, [.ref a1, .ref a2, .ref a3, .ref a4, .int (nI n), .int (nI K), .int (nI (cnt (brL br (fun j => L j || xBad (xF n f1 br b L) f2 (xG n f3 br b L) f4 (nI rr) j)) n)), .int (nI rr), .int (-1), .int 1])), (a1, .inl (cA, 2000, .inl (xF n f1 br b (fun j => L j || xBad (xF n f1 br b L) f2 (xG n f3 br b L) f4 (nI rr) j)))), (a2, .inl (cA, 2000, .inl f2)), (a3, .inl (cA, 2000, .inl (xG n f3 br b (fun j => L j || xBad (xF n f1 br b L) f2 (xG n f3 br b L) f4 (nI rr) j)))), (a4, .inl (cA, 2000, .inl f4))] := hD
          refine lv_istore_n (lv' := [(1, .int (nI (ps (wd br b (fun j => L j || xBad (xF n f1 br b L) f2 (xG n f3 br b L) f4 (nI rr) j)) n))), (3, .int (nI (cnt (xBad (xF n f1 br b L) f2 (xG n f3 br b L) f4 (nI rr)) n))), (0, .ref h0), (2, .int (nI R))]) hx hb dX0_lay_79 rfl hl (by decide) rfl (fun ls hl => ?_)
          refine lv_iinc (v := nI (R + 1)) (lv' := [(2, .int (nI (R + 1))), (1, .int (nI (ps (wd br b (fun j => L j || xBad (xF n f1 br b L) f2 (xG n f3 br b L) f4 (nI rr) j)) n))), (3, .int (nI (cnt (xBad (xF n f1 br b L) f2 (xG n f3 br b L) f4 (nI rr)) n))), (0, .ref h0)]) hx hb dX0_lay_80 hl (k := 3) rfl (nI_1 _) (by decide) rfl (fun ls hl => ?_)
          refine lv_goto (tgt := 45) hx hb dX0_lay_83 (by decide) ?_
          have hc9 : cnt (xBad (xF n f1 br b L) f2 (xG n f3 br b L) f4 (nI rr)) n ≠ 0 := fun q => hc4 (by rw [q]; rfl)
          exact ih (n - (R + 1)) ((fun j => L j || xBad (xF n f1 br b L) f2 (xG n f3 br b L) f4 (nI rr) j), R + 1) _ _ _ (by omega) ⟨⟨hlt, rfl, least_bad hX hO hA1 hr0 hle, by show R + 1 ≤ _; rw [ecn]; omega⟩, hP, hD, hS, lv_sub hl [3, 1, 0] rfl⟩
        · have hc9 : cnt (xBad (xF n f1 br b L) f2 (xG n f3 br b L) f4 (nI rr)) n = 0 := (nI_eq (by have := cnt_le (xBad (xF n f1 br b L) f2 (xG n f3 br b L) f4 (nI rr)) n; omega) (by decide)).mp (show nI _ = nI 0 from hc4)
          rw [xln_none hc9] at hP hD
          have hP : va_P (dC, dI) vwCl [(h0, .inr (0, [.ref a1, .ref a2, .ref a3, .ref a4, .int (nI n), .int (nI K), .int (nI (cnt (brL br L) n)), .int (nI rr), .int (-1), .int 1])), (a1, .inl (cA, 2000, .inl (xF n f1 br b L))), (a2, .inl (cA, 2000, .inl f2)), (a3, .inl (cA, 2000, .inl (xG n f3 br b L))), (a4, .inl (cA, 2000, .inl f4))] H := hP
          have hD : va_D A [(h0, .inr (0, [.ref a1, .ref a2, .ref a3, .ref a4, .int (nI n), .int (nI K), .int (nI (cnt (brL br L) n)), .int (nI rr), .int (-1), .int 1])), (a1, .inl (cA, 2000, .inl (xF n f1 br b L))), (a2, .inl (cA, 2000, .inl f2)), (a3, .inl (cA, 2000, .inl (xG n f3 br b L))), (a4, .inl (cA, 2000, .inl f4))] := hD
          refine lv_goto (tgt := 86) hx hb dX0_lay_62 (by decide) ?_
          refine lv_iload_n hx hb dX0_lay_86 rfl (lv_at hl 2 rfl) ?_
          exact W.iret (v := (nI (ps (wd br b L) n))) hx hb hr (fun t ht hW => ⟨⟨(nI (ps (wd br b L) n)), (xF n f1 br b L, xG n f3 br b L, nI (cnt (brL br L) n), -1, 1), rfl, Or.inr ⟨hA1, rfl, rfl, L, closd_bad hX hO hA1 hr0 hc9, hle, rfl, rfl, rfl, rfl⟩, by rw [ht]; exact hP, va_K.moved hW.alike hK, hD⟩, hS.F ht⟩) hS.2.2 dX0_lay_87
    · exact absurd hc2 (by decide)
end
section
set_option maxHeartbeats 4000000 in
set_option maxRecDepth 100000 in
/-- stretch(p), refused -/
theorem c_stretch_no (l : Launch) (dC : Nat → ClassId) (dI : Nat → Nat → Nat) (cA : ClassId) (h0 a1 a2 a3 a4 sz : Nat) (f1 f2 f3 f4 : Nat → Int32) (n : Nat) (kc lc rn ml lo p1 : Int32) (hp : p1 < 0 ∨ ¬ p1 ≤ 4000) : na_Mi (S := Unit) l yX0_stretch wsX0_stretch ({ frames := 1, cells := 0, slots := 0, locals := 23 }) (dC, dI) vwCl [(cA, .int)] sz [.ref h0, .int p1] [(h0, .inr (0, [.ref a1, .ref a2, .ref a3, .ref a4, .int (nI n), .int kc, .int lc, .int rn, .int ml, .int lo])), (a1, .inl (cA, 2000, .inl f1)), (a2, .inl (cA, 2000, .inl f2)), (a3, .inl (cA, 2000, .inl f3)), (a4, .inl (cA, 2000, .inl f4))] (fun r _ => r = -1) (fun _ => [(h0, .inr (0, [.ref a1, .ref a2, .ref a3, .ref a4, .int (nI n), .int kc, .int lc, .int rn, .int ml, .int lo])), (a1, .inl (cA, 2000, .inl f1)), (a2, .inl (cA, 2000, .inl f2)), (a3, .inl (cA, 2000, .inl f3)), (a4, .inl (cA, 2000, .inl f4))]) := by
  refine Met.ofW (cc := cX0_stretch) (maxL := 2) (ret := (some .int)) (by decide) rfl ?_
  intro p e s m args below meth c s₁ B hml hv
  obtain ⟨rfl, hsz, hP, hK, hD0⟩ := hv
  have hx := B.exec
  have hb := B.bytes
  have hr := B.returns
  have hts := atoms_spec (ws := wsX0_stretch) B.pre
  have hown : s.vm.findClass RX0 = some m.cls := findClass_of_methodNamed B.named
  have hlocks := B.notSynchronized
  subst hsz
  have hD := hD0.self (sz := s.heap.size)
  generalize hAe : va_A [(h0, .inr (0, [.ref a1, .ref a2, .ref a3, .ref a4, .int (nI n), .int kc, .int lc, .int rn, .int ml, .int lo])), (a1, .inl (cA, 2000, .inl f1)), (a2, .inl (cA, 2000, .inl f2)), (a3, .inl (cA, 2000, .inl f3)), (a4, .inl (cA, 2000, .inl f4))] s.heap.size = A at hD ⊢
  have hA : ∀ q : Nat, s.heap.size ≤ q → A q := fun q h => by rw [← hAe]; exact Or.inr h
  have hS : va_S A s.heap s.heap [] := va_S.rf
  have hP : va_P (dC, dI) vwCl [(h0, .inr (0, [.ref a1, .ref a2, .ref a3, .ref a4, .int (nI n), .int kc, .int lc, .int rn, .int ml, .int lo])), (a1, .inl (cA, 2000, .inl f1)), (a2, .inl (cA, 2000, .inl f2)), (a3, .inl (cA, 2000, .inl f3)), (a4, .inl (cA, 2000, .inl f4))] s.heap := hP
  have hl := lv_entry ([.ref h0, .int p1]) (n := 2) (Nat.le_of_ble_eq_true rfl)
  rw [lg_entry_eq]
  generalize (lg_sl ([.ref h0, .int p1]) ++ List.replicate (2 - (lg_sl ([.ref h0, .int p1])).length) Slot.unset).toArray = ls at hl ⊢
  have hl : lv_has ls 2 [(0, .ref h0), (1, .int p1)] := hl
  refine lv_iload_n hx hb dX0_stretch_0 rfl (lv_at hl 1 rfl) ?_
  refine lv_if_lt (tgt := 11) hx hb dX0_stretch_1 (by decide) (fun hc1 => ?_) (fun hc1 => ?_)
  · refine lv_iconst (v := -1) hx hb dX0_stretch_11 (by decide) ?_
    exact W.iret (v := (-1)) hx hb hr (fun t ht hW => ⟨⟨(-1), (), rfl, rfl, by rw [ht]; exact hP, va_K.moved hW.alike hK, hD⟩, hS.F ht⟩) hS.2.2 dX0_stretch_12
  · refine lv_iload_n hx hb dX0_stretch_4 rfl (lv_at hl 1 rfl) ?_
    refine lv_sipush (v := 4000) hx hb dX0_stretch_5 (by decide) ?_
    refine lv_icmp_le (tgt := 13) hx hb dX0_stretch_8 (by decide) (fun hc2 => ?_) (fun hc2 => ?_)
    · exact absurd hp (fun q => q.elim hc1 (fun z => z hc2))
    · refine lv_iconst (v := -1) hx hb dX0_stretch_11 (by decide) ?_
      exact W.iret (v := (-1)) hx hb hr (fun t ht hW => ⟨⟨(-1), (), rfl, rfl, by rw [ht]; exact hP, va_K.moved hW.alike hK, hD⟩, hS.F ht⟩) hS.2.2 dX0_stretch_12
set_option maxHeartbeats 4000000 in
set_option maxRecDepth 100000 in
/-- stretch(p) -/
theorem c_stretch_ok (l : Launch) (dC : Nat → ClassId) (dI : Nat → Nat → Nat) (cA : ClassId) (h0 a1 a2 a3 a4 sz : Nat) (f1 f2 f3 f4 : Nat → Int32) (n : Nat) (kc lc rn ml lo p1 : Int32) (hn : n < 2000) (hp1 : ¬ p1 < 0) (hp2 : p1 ≤ 4000) : na_Mi (S := Unit) l yX0_stretch wsX0_stretch ({ frames := 1, cells := 0, slots := 0, locals := 23 }) (dC, dI) vwCl [(cA, .int)] sz [.ref h0, .int p1] [(h0, .inr (0, [.ref a1, .ref a2, .ref a3, .ref a4, .int (nI n), .int kc, .int lc, .int rn, .int ml, .int lo])), (a1, .inl (cA, 2000, .inl f1)), (a2, .inl (cA, 2000, .inl f2)), (a3, .inl (cA, 2000, .inl f3)), (a4, .inl (cA, 2000, .inl f4))] (fun r _ => r = nI n) (fun _ => [(h0, .inr (0, [.ref a1, .ref a2, .ref a3, .ref a4, .int (nI (n + 1)), .int kc, .int lc, .int rn, .int ml, .int 0])), (a1, .inl (cA, 2000, .inl (upd f1 n p1))), (a2, .inl (cA, 2000, .inl (upd f2 n (-1)))), (a3, .inl (cA, 2000, .inl f3)), (a4, .inl (cA, 2000, .inl f4))]) := by
  refine Met.ofW (cc := cX0_stretch) (maxL := 2) (ret := (some .int)) (by decide) rfl ?_
  intro p e s m args below meth c s₁ B hml hv
  obtain ⟨rfl, hsz, hP, hK, hD0⟩ := hv
  have hx := B.exec
  have hb := B.bytes
  have hr := B.returns
  have hts := atoms_spec (ws := wsX0_stretch) B.pre
  have hown : s.vm.findClass RX0 = some m.cls := findClass_of_methodNamed B.named
  have hlocks := B.notSynchronized
  subst hsz
  have hD := hD0.self (sz := s.heap.size)
  generalize hAe : va_A [(h0, .inr (0, [.ref a1, .ref a2, .ref a3, .ref a4, .int (nI n), .int kc, .int lc, .int rn, .int ml, .int lo])), (a1, .inl (cA, 2000, .inl f1)), (a2, .inl (cA, 2000, .inl f2)), (a3, .inl (cA, 2000, .inl f3)), (a4, .inl (cA, 2000, .inl f4))] s.heap.size = A at hD ⊢
  have hA : ∀ q : Nat, s.heap.size ≤ q → A q := fun q h => by rw [← hAe]; exact Or.inr h
  have hS : va_S A s.heap s.heap [] := va_S.rf
  have hP : va_P (dC, dI) vwCl [(h0, .inr (0, [.ref a1, .ref a2, .ref a3, .ref a4, .int (nI n), .int kc, .int lc, .int rn, .int ml, .int lo])), (a1, .inl (cA, 2000, .inl f1)), (a2, .inl (cA, 2000, .inl f2)), (a3, .inl (cA, 2000, .inl f3)), (a4, .inl (cA, 2000, .inl f4))] s.heap := hP
  have hl := lv_entry ([.ref h0, .int p1]) (n := 2) (Nat.le_of_ble_eq_true rfl)
  rw [lg_entry_eq]
  generalize (lg_sl ([.ref h0, .int p1]) ++ List.replicate (2 - (lg_sl ([.ref h0, .int p1])).length) Slot.unset).toArray = ls at hl ⊢
  have hl : lv_has ls 2 [(0, .ref h0), (1, .int p1)] := hl
  refine lv_iload_n hx hb dX0_stretch_0 rfl (lv_at hl 1 rfl) ?_
  refine lv_if_lt (tgt := 11) hx hb dX0_stretch_1 (by decide) (fun hc1 => ?_) (fun hc1 => ?_)
  · exact absurd hc1 hp1
  · refine lv_iload_n hx hb dX0_stretch_4 rfl (lv_at hl 1 rfl) ?_
    refine lv_sipush (v := 4000) hx hb dX0_stretch_5 (by decide) ?_
    refine lv_icmp_le (tgt := 13) hx hb dX0_stretch_8 (by decide) (fun hc2 => ?_) (fun hc2 => ?_)
    · refine lv_aload_n hx hb dX0_stretch_13 rfl (lv_at hl 0 rfl) ?_
      refine lv_iload_n hx hb dX0_stretch_14 rfl (lv_at hl 1 rfl) ?_
      refine lv_iconst (v := -1) hx hb dX0_stretch_15 (by decide) ?_
      refine na_calli (As := [.int p1, .int (-1)]) (rest := []) (wc := [(h0, .inr (0, [.ref a1, .ref a2, .ref a3, .ref a4, .int (nI n), .int kc, .int lc, .int rn, .int ml, .int lo])), (a1, .inl (cA, 2000, .inl f1)), (a2, .inl (cA, 2000, .inl f2)), (a3, .inl (cA, 2000, .inl f3)), (a4, .inl (cA, 2000, .inl f4))]) (wr := []) (ci := 0) ⟨hx, hb, hml, hown, hts⟩ (c_append l dC dI cA h0 a1 a2 a3 a4 s.heap.size f1 f2 f3 f4 n kc lc rn ml lo p1 (-1) hn) (cwV 2 hts gX0_stretch_X0_append rfl rfl rfl (by decide +kernel) ⟨Nat.le_of_ble_eq_true rfl, Nat.le_of_ble_eq_true rfl⟩) hK hP hD hS hA [0, 1, 2, 3, 4] [] rfl rfl rfl rfl (by decide) rfl rfl 0 rfl rfl hl.1 (Nat.le_of_ble_eq_true rfl) dX0_stretch_16 ⟨Nat.le_of_ble_eq_true rfl, Nat.le_of_ble_eq_true rfl⟩ rfl (fun r u H locs hw hP hD hS => ?_)
      have hP : va_P (dC, dI) vwCl [(h0, .inr (0, [.ref a1, .ref a2, .ref a3, .ref a4, .int (nI (n + 1)), .int kc, .int lc, .int rn, .int ml, .int 0])), (a1, .inl (cA, 2000, .inl (upd f1 n p1))), (a2, .inl (cA, 2000, .inl (upd f2 n (-1)))), (a3, .inl (cA, 2000, .inl f3)), (a4, .inl (cA, 2000, .inl f4))] H := hP
      have hD : va_D A [(h0, .inr (0, [.ref a1, .ref a2, .ref a3, .ref a4, .int (nI (n + 1)), .int kc, .int lc, .int rn, .int ml, .int 0])), (a1, .inl (cA, 2000, .inl (upd f1 n p1))), (a2, .inl (cA, 2000, .inl (upd f2 n (-1)))), (a3, .inl (cA, 2000, .inl f3)), (a4, .inl (cA, 2000, .inl f4))] := hD
      subst hw
      exact W.iret (v := (nI n)) hx hb hr (fun t ht hW => ⟨⟨(nI n), (), rfl, rfl, by rw [ht]; exact hP, va_K.moved hW.alike hK, hD⟩, hS.F ht⟩) hS.2.2 dX0_stretch_19
    · exact absurd hp2 hc2
set_option maxHeartbeats 4000000 in
set_option maxRecDepth 100000 in
/-- mark() -/
theorem c_mark (l : Launch) (dC : Nat → ClassId) (dI : Nat → Nat → Nat) (cA : ClassId) (h0 a1 a2 a3 a4 sz : Nat) (f1 f2 f3 f4 : Nat → Int32) (n K : Nat) (lc rn ml lo : Int32) (hn : n < 2000) (hK2 : K < 2000) : na_Mi (S := Unit) l yX0_mark wsX0_mark ({ frames := 1, cells := 0, slots := 0, locals := 23 }) (dC, dI) vwCl [(cA, .int)] sz [.ref h0] [(h0, .inr (0, [.ref a1, .ref a2, .ref a3, .ref a4, .int (nI n), .int (nI K), .int lc, .int rn, .int ml, .int lo])), (a1, .inl (cA, 2000, .inl f1)), (a2, .inl (cA, 2000, .inl f2)), (a3, .inl (cA, 2000, .inl f3)), (a4, .inl (cA, 2000, .inl f4))] (fun r _ => r = nI n) (fun _ => [(h0, .inr (0, [.ref a1, .ref a2, .ref a3, .ref a4, .int (nI (n + 1)), .int (nI (K + 1)), .int lc, .int rn, .int ml, .int 0])), (a1, .inl (cA, 2000, .inl (upd f1 n 0))), (a2, .inl (cA, 2000, .inl (upd f2 n (-1)))), (a3, .inl (cA, 2000, .inl f3)), (a4, .inl (cA, 2000, .inl (upd f4 K (nI n))))]) := by
  refine Met.ofW (cc := cX0_mark) (maxL := 2) (ret := (some .int)) (by decide) rfl ?_
  intro p e s m args below meth c s₁ B hml hv
  obtain ⟨rfl, hsz, hP, hK, hD0⟩ := hv
  have hx := B.exec
  have hb := B.bytes
  have hr := B.returns
  have hts := atoms_spec (ws := wsX0_mark) B.pre
  have hown : s.vm.findClass RX0 = some m.cls := findClass_of_methodNamed B.named
  have hlocks := B.notSynchronized
  subst hsz
  have hD := hD0.self (sz := s.heap.size)
  generalize hAe : va_A [(h0, .inr (0, [.ref a1, .ref a2, .ref a3, .ref a4, .int (nI n), .int (nI K), .int lc, .int rn, .int ml, .int lo])), (a1, .inl (cA, 2000, .inl f1)), (a2, .inl (cA, 2000, .inl f2)), (a3, .inl (cA, 2000, .inl f3)), (a4, .inl (cA, 2000, .inl f4))] s.heap.size = A at hD ⊢
  have hA : ∀ q : Nat, s.heap.size ≤ q → A q := fun q h => by rw [← hAe]; exact Or.inr h
  have hS : va_S A s.heap s.heap [] := va_S.rf
  have hP : va_P (dC, dI) vwCl [(h0, .inr (0, [.ref a1, .ref a2, .ref a3, .ref a4, .int (nI n), .int (nI K), .int lc, .int rn, .int ml, .int lo])), (a1, .inl (cA, 2000, .inl f1)), (a2, .inl (cA, 2000, .inl f2)), (a3, .inl (cA, 2000, .inl f3)), (a4, .inl (cA, 2000, .inl f4))] s.heap := hP
  have hl := lv_entry ([.ref h0]) (n := 2) (Nat.le_of_ble_eq_true rfl)
  rw [lg_entry_eq]
  generalize (lg_sl ([.ref h0]) ++ List.replicate (2 - (lg_sl ([.ref h0])).length) Slot.unset).toArray = ls at hl ⊢
  have hl : lv_has ls 2 [(0, .ref h0)] := hl
  refine lv_aload_n hx hb dX0_mark_0 rfl (lv_at hl 0 rfl) ?_
  refine va_get (D := (dC, dI)) (ci := 0) (v := .int (nI K)) (C := RX0) (T := TX0) (N := 10) hx hb hts in_X0_mark hown hK hP 0 rfl rfl 5 (by decide) (hts (.fieldLink RX0 26 "BranchLengths" "markCount" "I") (by decide +kernel)) (fun _ h9 => h9) rfl dX0_mark_1 ?_
  refine lv_sipush (v := 2000) hx hb dX0_mark_4 (by decide) ?_
  refine lv_icmp_lt (tgt := 12) hx hb dX0_mark_7 (by decide) (fun hc0 => ?_) (fun hc0 => ?_)
  · refine lv_aload_n hx hb dX0_mark_12 rfl (lv_at hl 0 rfl) ?_
    refine lv_iconst (v := 0) hx hb dX0_mark_13 rfl ?_
    refine lv_iconst (v := -1) hx hb dX0_mark_14 (by decide) ?_
    refine na_calli (As := [.int 0, .int (-1)]) (rest := []) (wc := [(h0, .inr (0, [.ref a1, .ref a2, .ref a3, .ref a4, .int (nI n), .int (nI K), .int lc, .int rn, .int ml, .int lo])), (a1, .inl (cA, 2000, .inl f1)), (a2, .inl (cA, 2000, .inl f2)), (a3, .inl (cA, 2000, .inl f3)), (a4, .inl (cA, 2000, .inl f4))]) (wr := []) (ci := 0) ⟨hx, hb, hml, hown, hts⟩ (c_append l dC dI cA h0 a1 a2 a3 a4 s.heap.size f1 f2 f3 f4 n (nI K) lc rn ml lo 0 (-1) hn) (cwV 2 hts gX0_mark_X0_append rfl rfl rfl (by decide +kernel) ⟨Nat.le_of_ble_eq_true rfl, Nat.le_of_ble_eq_true rfl⟩) hK hP hD hS hA [0, 1, 2, 3, 4] [] rfl rfl rfl rfl (by decide) rfl rfl 0 rfl rfl hl.1 (Nat.le_of_ble_eq_true rfl) dX0_mark_15 ⟨Nat.le_of_ble_eq_true rfl, Nat.le_of_ble_eq_true rfl⟩ rfl (fun r u H locs hw hP hD hS => ?_)
    have hP : va_P (dC, dI) vwCl [(h0, .inr (0, [.ref a1, .ref a2, .ref a3, .ref a4, .int (nI (n + 1)), .int (nI K), .int lc, .int rn, .int ml, .int 0])), (a1, .inl (cA, 2000, .inl (upd f1 n 0))), (a2, .inl (cA, 2000, .inl (upd f2 n (-1)))), (a3, .inl (cA, 2000, .inl f3)), (a4, .inl (cA, 2000, .inl f4))] H := hP
    have hD : va_D A [(h0, .inr (0, [.ref a1, .ref a2, .ref a3, .ref a4, .int (nI (n + 1)), .int (nI K), .int lc, .int rn, .int ml, .int 0])), (a1, .inl (cA, 2000, .inl (upd f1 n 0))), (a2, .inl (cA, 2000, .inl (upd f2 n (-1)))), (a3, .inl (cA, 2000, .inl f3)), (a4, .inl (cA, 2000, .inl f4))] := hD
    subst hw
    refine lv_istore_n (lv' := [(1, .int (nI n)), (0, .ref h0)]) hx hb dX0_mark_18 rfl hl (by decide) rfl (fun ls hl => ?_)
    refine lv_iload_n hx hb dX0_mark_19 rfl (lv_at hl 0 rfl) ?_
    refine lv_iconst (v := -1) hx hb dX0_mark_20 (by decide) ?_
    refine lv_icmp_eq (tgt := 44) hx hb dX0_mark_21 (by decide) (fun hc1 => ?_) (fun hc1 => ?_)
    · exact absurd hc1 (nI_m1 (by omega))
    · refine lv_aload_n hx hb dX0_mark_24 rfl (lv_at hl 1 rfl) ?_
      refine va_get (D := (dC, dI)) (ci := 0) (v := .ref a4) (C := RX0) (T := TX0) (N := 10) hx hb hts in_X0_mark hown hK hP 0 rfl rfl 3 (by decide) (hts (.fieldLink RX0 19 "BranchLengths" "markItems" "[I") (by decide +kernel)) (fun _ h9 => h9) rfl dX0_mark_25 ?_
      refine lv_aload_n hx hb dX0_mark_28 rfl (lv_at hl 1 rfl) ?_
      refine va_get (D := (dC, dI)) (ci := 0) (v := .int (nI K)) (C := RX0) (T := TX0) (N := 10) hx hb hts in_X0_mark hown hK hP 0 rfl rfl 5 (by decide) (hts (.fieldLink RX0 26 "BranchLengths" "markCount" "I") (by decide +kernel)) (fun _ h9 => h9) rfl dX0_mark_29 ?_
      refine lv_iload_n hx hb dX0_mark_32 rfl (lv_at hl 0 rfl) ?_
      refine na_iast (k := K) hx hb hK hP hD hS 4 0 rfl rfl (by omega) (by decide) (upd f4 K (nI n)) (rfl) dX0_mark_33 (fun H locs hP hD hS => ?_)
      have hP : va_P (dC, dI) vwCl [(h0, .inr (0, [.ref a1, .ref a2, .ref a3, .ref a4, .int (nI (n + 1)), .int (nI K), .int lc, .int rn, .int ml, .int 0])), (a1, .inl (cA, 2000, .inl (upd f1 n 0))), (a2, .inl (cA, 2000, .inl (upd f2 n (-1)))), (a3, .inl (cA, 2000, .inl f3)), (a4, .inl (cA, 2000, .inl (upd f4 K (nI n))))] H := hP
      have hD : va_D A [(h0, .inr (0, [.ref a1, .ref a2, .ref a3, .ref a4, .int (nI (n + 1)), .int (nI K), .int lc, .int rn, .int ml, .int 0])), (a1, .inl (cA, 2000, .inl (upd f1 n 0))), (a2, .inl (cA, 2000, .inl (upd f2 n (-1)))), (a3, .inl (cA, 2000, .inl f3)), (a4, .inl (cA, 2000, .inl (upd f4 K (nI n))))] := hD
      refine lv_aload_n hx hb dX0_mark_34 rfl (lv_at hl 1 rfl) ?_
      refine lv_dup hx hb dX0_mark_35 rfl ?_
      refine va_get (D := (dC, dI)) (ci := 0) (v := .int (nI K)) (C := RX0) (T := TX0) (N := 10) hx hb hts in_X0_mark hown hK hP 0 rfl rfl 5 (by decide) (hts (.fieldLink RX0 26 "BranchLengths" "markCount" "I") (by decide +kernel)) (fun _ h9 => h9) rfl dX0_mark_36 ?_
      refine lv_iconst (v := 1) hx hb dX0_mark_39 (by decide) ?_
      refine lv_iadd hx hb dX0_mark_40 ?_
      refine na_eqi (y := nI (K + 1)) (nI_1 K) ?_
      refine va_put (D := (dC, dI)) (ci := 0) (v := .int (nI (K + 1))) (ty := .int) (C := RX0) (T := TX0) (N := 10) hx hb hts in_X0_mark tyX0 tyX0_ok nmX0 hown hK hP hD hS 0 rfl rfl 5 (by decide) (hts (.fieldLink RX0 26 "BranchLengths" "markCount" "I") (by decide +kernel)) (fun _ h9 => h9) rfl (by decide +kernel) rfl rfl (Nat.le_of_ble_eq_true rfl) dX0_mark_41 (fun H locs hP hD hS => ?_)
      have hP : va_P (dC, dI) vwCl [(h0, .inr (0, [.ref a1, .ref a2, .ref a3, .ref a4, .int (nI (n + 1)), .int (nI (K + 1)), .int lc, .int rn, .int ml, .int 0])), (a1, .inl (cA, 2000, .inl (upd f1 n 0))), (a2, .inl (cA, 2000, .inl (upd f2 n (-1)))), (a3, .inl (cA, 2000, .inl f3)), (a4, .inl (cA, 2000, .inl (upd f4 K (nI n))))] H := hP
      have hD : va_D A [(h0, .inr (0, [.ref a1, .ref a2, .ref a3, .ref a4, .int (nI (n + 1)), .int (nI (K + 1)), .int lc, .int rn, .int ml, .int 0])), (a1, .inl (cA, 2000, .inl (upd f1 n 0))), (a2, .inl (cA, 2000, .inl (upd f2 n (-1)))), (a3, .inl (cA, 2000, .inl f3)), (a4, .inl (cA, 2000, .inl (upd f4 K (nI n))))] := hD
      refine lv_iload_n hx hb dX0_mark_44 rfl (lv_at hl 0 rfl) ?_
      exact W.iret (v := (nI n)) hx hb hr (fun t ht hW => ⟨⟨(nI n), (), rfl, rfl, by rw [ht]; exact hP, va_K.moved hW.alike hK, hD⟩, hS.F ht⟩) hS.2.2 dX0_mark_45
  · exact absurd (show nI K < nI 2000 from nI_lt hK2 (by decide)) hc0
set_option maxHeartbeats 4000000 in
set_option maxRecDepth 100000 in
/-- branch(p), refused -/
theorem c_branch_no (l : Launch) (dC : Nat → ClassId) (dI : Nat → Nat → Nat) (cA : ClassId) (h0 a1 a2 a3 a4 sz : Nat) (f1 f2 f3 f4 : Nat → Int32) (n : Nat) (kc lc rn ml lo p1 : Int32) (hp : p1 < 0) : na_Mi (S := Unit) l yX0_branch wsX0_branch ({ frames := 1, cells := 0, slots := 0, locals := 23 }) (dC, dI) vwCl [(cA, .int)] sz [.ref h0, .int p1] [(h0, .inr (0, [.ref a1, .ref a2, .ref a3, .ref a4, .int (nI n), .int kc, .int lc, .int rn, .int ml, .int lo])), (a1, .inl (cA, 2000, .inl f1)), (a2, .inl (cA, 2000, .inl f2)), (a3, .inl (cA, 2000, .inl f3)), (a4, .inl (cA, 2000, .inl f4))] (fun r _ => r = -1) (fun _ => [(h0, .inr (0, [.ref a1, .ref a2, .ref a3, .ref a4, .int (nI n), .int kc, .int lc, .int rn, .int ml, .int lo])), (a1, .inl (cA, 2000, .inl f1)), (a2, .inl (cA, 2000, .inl f2)), (a3, .inl (cA, 2000, .inl f3)), (a4, .inl (cA, 2000, .inl f4))]) := by
  refine Met.ofW (cc := cX0_branch) (maxL := 2) (ret := (some .int)) (by decide) rfl ?_
  intro p e s m args below meth c s₁ B hml hv
  obtain ⟨rfl, hsz, hP, hK, hD0⟩ := hv
  have hx := B.exec
  have hb := B.bytes
  have hr := B.returns
  have hts := atoms_spec (ws := wsX0_branch) B.pre
  have hown : s.vm.findClass RX0 = some m.cls := findClass_of_methodNamed B.named
  have hlocks := B.notSynchronized
  subst hsz
  have hD := hD0.self (sz := s.heap.size)
  generalize hAe : va_A [(h0, .inr (0, [.ref a1, .ref a2, .ref a3, .ref a4, .int (nI n), .int kc, .int lc, .int rn, .int ml, .int lo])), (a1, .inl (cA, 2000, .inl f1)), (a2, .inl (cA, 2000, .inl f2)), (a3, .inl (cA, 2000, .inl f3)), (a4, .inl (cA, 2000, .inl f4))] s.heap.size = A at hD ⊢
  have hA : ∀ q : Nat, s.heap.size ≤ q → A q := fun q h => by rw [← hAe]; exact Or.inr h
  have hS : va_S A s.heap s.heap [] := va_S.rf
  have hP : va_P (dC, dI) vwCl [(h0, .inr (0, [.ref a1, .ref a2, .ref a3, .ref a4, .int (nI n), .int kc, .int lc, .int rn, .int ml, .int lo])), (a1, .inl (cA, 2000, .inl f1)), (a2, .inl (cA, 2000, .inl f2)), (a3, .inl (cA, 2000, .inl f3)), (a4, .inl (cA, 2000, .inl f4))] s.heap := hP
  have hl := lv_entry ([.ref h0, .int p1]) (n := 2) (Nat.le_of_ble_eq_true rfl)
  rw [lg_entry_eq]
  generalize (lg_sl ([.ref h0, .int p1]) ++ List.replicate (2 - (lg_sl ([.ref h0, .int p1])).length) Slot.unset).toArray = ls at hl ⊢
  have hl : lv_has ls 2 [(0, .ref h0), (1, .int p1)] := hl
  refine lv_iload_n hx hb dX0_branch_0 rfl (lv_at hl 1 rfl) ?_
  refine lv_if_ge (tgt := 6) hx hb dX0_branch_1 (by decide) (fun hc1 => ?_) (fun hc1 => ?_)
  · exact absurd hp (na_nlt hc1)
  · refine lv_iconst (v := -1) hx hb dX0_branch_4 (by decide) ?_
    exact W.iret (v := (-1)) hx hb hr (fun t ht hW => ⟨⟨(-1), (), rfl, rfl, by rw [ht]; exact hP, va_K.moved hW.alike hK, hD⟩, hS.F ht⟩) hS.2.2 dX0_branch_5
set_option maxHeartbeats 4000000 in
set_option maxRecDepth 100000 in
/-- branch(p) -/
theorem c_branch_ok (l : Launch) (dC : Nat → ClassId) (dI : Nat → Nat → Nat) (cA : ClassId) (h0 a1 a2 a3 a4 sz : Nat) (f1 f2 f3 f4 : Nat → Int32) (n : Nat) (kc lc rn ml lo p1 : Int32) (hn : n < 2000) (hp : ¬ p1 < 0) : na_Mi (S := Unit) l yX0_branch wsX0_branch ({ frames := 1, cells := 0, slots := 0, locals := 23 }) (dC, dI) vwCl [(cA, .int)] sz [.ref h0, .int p1] [(h0, .inr (0, [.ref a1, .ref a2, .ref a3, .ref a4, .int (nI n), .int kc, .int lc, .int rn, .int ml, .int lo])), (a1, .inl (cA, 2000, .inl f1)), (a2, .inl (cA, 2000, .inl f2)), (a3, .inl (cA, 2000, .inl f3)), (a4, .inl (cA, 2000, .inl f4))] (fun r _ => r = nI n) (fun _ => [(h0, .inr (0, [.ref a1, .ref a2, .ref a3, .ref a4, .int (nI (n + 1)), .int kc, .int lc, .int rn, .int ml, .int 0])), (a1, .inl (cA, 2000, .inl (upd f1 n 1))), (a2, .inl (cA, 2000, .inl (upd f2 n p1))), (a3, .inl (cA, 2000, .inl f3)), (a4, .inl (cA, 2000, .inl f4))]) := by
  refine Met.ofW (cc := cX0_branch) (maxL := 2) (ret := (some .int)) (by decide) rfl ?_
  intro p e s m args below meth c s₁ B hml hv
  obtain ⟨rfl, hsz, hP, hK, hD0⟩ := hv
  have hx := B.exec
  have hb := B.bytes
  have hr := B.returns
  have hts := atoms_spec (ws := wsX0_branch) B.pre
  have hown : s.vm.findClass RX0 = some m.cls := findClass_of_methodNamed B.named
  have hlocks := B.notSynchronized
  subst hsz
  have hD := hD0.self (sz := s.heap.size)
  generalize hAe : va_A [(h0, .inr (0, [.ref a1, .ref a2, .ref a3, .ref a4, .int (nI n), .int kc, .int lc, .int rn, .int ml, .int lo])), (a1, .inl (cA, 2000, .inl f1)), (a2, .inl (cA, 2000, .inl f2)), (a3, .inl (cA, 2000, .inl f3)), (a4, .inl (cA, 2000, .inl f4))] s.heap.size = A at hD ⊢
  have hA : ∀ q : Nat, s.heap.size ≤ q → A q := fun q h => by rw [← hAe]; exact Or.inr h
  have hS : va_S A s.heap s.heap [] := va_S.rf
  have hP : va_P (dC, dI) vwCl [(h0, .inr (0, [.ref a1, .ref a2, .ref a3, .ref a4, .int (nI n), .int kc, .int lc, .int rn, .int ml, .int lo])), (a1, .inl (cA, 2000, .inl f1)), (a2, .inl (cA, 2000, .inl f2)), (a3, .inl (cA, 2000, .inl f3)), (a4, .inl (cA, 2000, .inl f4))] s.heap := hP
  have hl := lv_entry ([.ref h0, .int p1]) (n := 2) (Nat.le_of_ble_eq_true rfl)
  rw [lg_entry_eq]
  generalize (lg_sl ([.ref h0, .int p1]) ++ List.replicate (2 - (lg_sl ([.ref h0, .int p1])).length) Slot.unset).toArray = ls at hl ⊢
  have hl : lv_has ls 2 [(0, .ref h0), (1, .int p1)] := hl
  refine lv_iload_n hx hb dX0_branch_0 rfl (lv_at hl 1 rfl) ?_
  refine lv_if_ge (tgt := 6) hx hb dX0_branch_1 (by decide) (fun hc1 => ?_) (fun hc1 => ?_)
  · refine lv_aload_n hx hb dX0_branch_6 rfl (lv_at hl 0 rfl) ?_
    refine lv_iconst (v := 1) hx hb dX0_branch_7 (by decide) ?_
    refine lv_iload_n hx hb dX0_branch_8 rfl (lv_at hl 1 rfl) ?_
    refine na_calli (As := [.int 1, .int p1]) (rest := []) (wc := [(h0, .inr (0, [.ref a1, .ref a2, .ref a3, .ref a4, .int (nI n), .int kc, .int lc, .int rn, .int ml, .int lo])), (a1, .inl (cA, 2000, .inl f1)), (a2, .inl (cA, 2000, .inl f2)), (a3, .inl (cA, 2000, .inl f3)), (a4, .inl (cA, 2000, .inl f4))]) (wr := []) (ci := 0) ⟨hx, hb, hml, hown, hts⟩ (c_append l dC dI cA h0 a1 a2 a3 a4 s.heap.size f1 f2 f3 f4 n kc lc rn ml lo 1 p1 hn) (cwV 2 hts gX0_branch_X0_append rfl rfl rfl (by decide +kernel) ⟨Nat.le_of_ble_eq_true rfl, Nat.le_of_ble_eq_true rfl⟩) hK hP hD hS hA [0, 1, 2, 3, 4] [] rfl rfl rfl rfl (by decide) rfl rfl 0 rfl rfl hl.1 (Nat.le_of_ble_eq_true rfl) dX0_branch_9 ⟨Nat.le_of_ble_eq_true rfl, Nat.le_of_ble_eq_true rfl⟩ rfl (fun r u H locs hw hP hD hS => ?_)
    have hP : va_P (dC, dI) vwCl [(h0, .inr (0, [.ref a1, .ref a2, .ref a3, .ref a4, .int (nI (n + 1)), .int kc, .int lc, .int rn, .int ml, .int 0])), (a1, .inl (cA, 2000, .inl (upd f1 n 1))), (a2, .inl (cA, 2000, .inl (upd f2 n p1))), (a3, .inl (cA, 2000, .inl f3)), (a4, .inl (cA, 2000, .inl f4))] H := hP
    have hD : va_D A [(h0, .inr (0, [.ref a1, .ref a2, .ref a3, .ref a4, .int (nI (n + 1)), .int kc, .int lc, .int rn, .int ml, .int 0])), (a1, .inl (cA, 2000, .inl (upd f1 n 1))), (a2, .inl (cA, 2000, .inl (upd f2 n p1))), (a3, .inl (cA, 2000, .inl f3)), (a4, .inl (cA, 2000, .inl f4))] := hD
    subst hw
    exact W.iret (v := (nI n)) hx hb hr (fun t ht hW => ⟨⟨(nI n), (), rfl, rfl, by rw [ht]; exact hP, va_K.moved hW.alike hK, hD⟩, hS.F ht⟩) hS.2.2 dX0_branch_12
  · exact absurd (na_nge0 hp) hc1
set_option maxHeartbeats 4000000 in
set_option maxRecDepth 100000 in
/-- reach(p), refused -/
theorem c_reach_no (l : Launch) (dC : Nat → ClassId) (dI : Nat → Nat → Nat) (cA : ClassId) (h0 a1 a2 a3 a4 sz : Nat) (f1 f2 f3 f4 : Nat → Int32) (n : Nat) (kc lc rn ml lo p1 : Int32) (hp : p1 < 1 ∨ ¬ p1 ≤ 100000) : na_Mi (S := Unit) l yX0_reach wsX0_reach ({ frames := 0, cells := 0, slots := 0, locals := 0 }) (dC, dI) vwCl [(cA, .int)] sz [.ref h0, .int p1] [(h0, .inr (0, [.ref a1, .ref a2, .ref a3, .ref a4, .int (nI n), .int kc, .int lc, .int rn, .int ml, .int lo])), (a1, .inl (cA, 2000, .inl f1)), (a2, .inl (cA, 2000, .inl f2)), (a3, .inl (cA, 2000, .inl f3)), (a4, .inl (cA, 2000, .inl f4))] (fun r _ => r = 0) (fun _ => [(h0, .inr (0, [.ref a1, .ref a2, .ref a3, .ref a4, .int (nI n), .int kc, .int lc, .int rn, .int ml, .int lo])), (a1, .inl (cA, 2000, .inl f1)), (a2, .inl (cA, 2000, .inl f2)), (a3, .inl (cA, 2000, .inl f3)), (a4, .inl (cA, 2000, .inl f4))]) := by
  refine Met.ofW (cc := cX0_reach) (maxL := 2) (ret := (some .boolean)) (by decide) rfl ?_
  intro p e s m args below meth c s₁ B hml hv
  obtain ⟨rfl, hsz, hP, hK, hD0⟩ := hv
  have hx := B.exec
  have hb := B.bytes
  have hr := B.returns
  have hts := atoms_spec (ws := wsX0_reach) B.pre
  have hown : s.vm.findClass RX0 = some m.cls := findClass_of_methodNamed B.named
  have hlocks := B.notSynchronized
  subst hsz
  have hD := hD0.self (sz := s.heap.size)
  generalize hAe : va_A [(h0, .inr (0, [.ref a1, .ref a2, .ref a3, .ref a4, .int (nI n), .int kc, .int lc, .int rn, .int ml, .int lo])), (a1, .inl (cA, 2000, .inl f1)), (a2, .inl (cA, 2000, .inl f2)), (a3, .inl (cA, 2000, .inl f3)), (a4, .inl (cA, 2000, .inl f4))] s.heap.size = A at hD ⊢
  have hA : ∀ q : Nat, s.heap.size ≤ q → A q := fun q h => by rw [← hAe]; exact Or.inr h
  have hS : va_S A s.heap s.heap [] := va_S.rf
  have hP : va_P (dC, dI) vwCl [(h0, .inr (0, [.ref a1, .ref a2, .ref a3, .ref a4, .int (nI n), .int kc, .int lc, .int rn, .int ml, .int lo])), (a1, .inl (cA, 2000, .inl f1)), (a2, .inl (cA, 2000, .inl f2)), (a3, .inl (cA, 2000, .inl f3)), (a4, .inl (cA, 2000, .inl f4))] s.heap := hP
  have hl := lv_entry ([.ref h0, .int p1]) (n := 2) (Nat.le_of_ble_eq_true rfl)
  rw [lg_entry_eq]
  generalize (lg_sl ([.ref h0, .int p1]) ++ List.replicate (2 - (lg_sl ([.ref h0, .int p1])).length) Slot.unset).toArray = ls at hl ⊢
  have hl : lv_has ls 2 [(0, .ref h0), (1, .int p1)] := hl
  refine lv_iload_n hx hb dX0_reach_0 rfl (lv_at hl 1 rfl) ?_
  refine lv_iconst (v := 1) hx hb dX0_reach_1 (by decide) ?_
  refine lv_icmp_lt (tgt := 11) hx hb dX0_reach_2 (by decide) (fun hc1 => ?_) (fun hc1 => ?_)
  · refine lv_iconst (v := 0) hx hb dX0_reach_11 (by decide) ?_
    exact W.zret (v := 0) hx hb hr rfl (fun t ht hW => ⟨⟨0, (), rfl, rfl, by rw [ht]; exact hP, va_K.moved hW.alike hK, hD⟩, hS.F ht⟩) hS.2.2 dX0_reach_12
  · refine lv_iload_n hx hb dX0_reach_5 rfl (lv_at hl 1 rfl) ?_
    refine lv_ldc (v := 100000) hx hb hown (hts (.constant RX0 46 100000) (by decide +kernel)) dX0_reach_6 ?_
    refine lv_icmp_le (tgt := 13) hx hb dX0_reach_8 (by decide) (fun hc2 => ?_) (fun hc2 => ?_)
    · exact absurd hp (fun q => q.elim hc1 (fun z => z hc2))
    · refine lv_iconst (v := 0) hx hb dX0_reach_11 (by decide) ?_
      exact W.zret (v := 0) hx hb hr rfl (fun t ht hW => ⟨⟨0, (), rfl, rfl, by rw [ht]; exact hP, va_K.moved hW.alike hK, hD⟩, hS.F ht⟩) hS.2.2 dX0_reach_12
set_option maxHeartbeats 4000000 in
set_option maxRecDepth 100000 in
/-- reach(p) -/
theorem c_reach_ok (l : Launch) (dC : Nat → ClassId) (dI : Nat → Nat → Nat) (cA : ClassId) (h0 a1 a2 a3 a4 sz : Nat) (f1 f2 f3 f4 : Nat → Int32) (n : Nat) (kc lc rn ml lo p1 : Int32) (hp1 : ¬ p1 < 1) (hp2 : p1 ≤ 100000) : na_Mi (S := Unit) l yX0_reach wsX0_reach ({ frames := 0, cells := 0, slots := 0, locals := 0 }) (dC, dI) vwCl [(cA, .int)] sz [.ref h0, .int p1] [(h0, .inr (0, [.ref a1, .ref a2, .ref a3, .ref a4, .int (nI n), .int kc, .int lc, .int rn, .int ml, .int lo])), (a1, .inl (cA, 2000, .inl f1)), (a2, .inl (cA, 2000, .inl f2)), (a3, .inl (cA, 2000, .inl f3)), (a4, .inl (cA, 2000, .inl f4))] (fun r _ => r = 1) (fun _ => [(h0, .inr (0, [.ref a1, .ref a2, .ref a3, .ref a4, .int (nI n), .int kc, .int lc, .int p1, .int ml, .int 0])), (a1, .inl (cA, 2000, .inl f1)), (a2, .inl (cA, 2000, .inl f2)), (a3, .inl (cA, 2000, .inl f3)), (a4, .inl (cA, 2000, .inl f4))]) := by
  refine Met.ofW (cc := cX0_reach) (maxL := 2) (ret := (some .boolean)) (by decide) rfl ?_
  intro p e s m args below meth c s₁ B hml hv
  obtain ⟨rfl, hsz, hP, hK, hD0⟩ := hv
  have hx := B.exec
  have hb := B.bytes
  have hr := B.returns
  have hts := atoms_spec (ws := wsX0_reach) B.pre
  have hown : s.vm.findClass RX0 = some m.cls := findClass_of_methodNamed B.named
  have hlocks := B.notSynchronized
  subst hsz
  have hD := hD0.self (sz := s.heap.size)
  generalize hAe : va_A [(h0, .inr (0, [.ref a1, .ref a2, .ref a3, .ref a4, .int (nI n), .int kc, .int lc, .int rn, .int ml, .int lo])), (a1, .inl (cA, 2000, .inl f1)), (a2, .inl (cA, 2000, .inl f2)), (a3, .inl (cA, 2000, .inl f3)), (a4, .inl (cA, 2000, .inl f4))] s.heap.size = A at hD ⊢
  have hA : ∀ q : Nat, s.heap.size ≤ q → A q := fun q h => by rw [← hAe]; exact Or.inr h
  have hS : va_S A s.heap s.heap [] := va_S.rf
  have hP : va_P (dC, dI) vwCl [(h0, .inr (0, [.ref a1, .ref a2, .ref a3, .ref a4, .int (nI n), .int kc, .int lc, .int rn, .int ml, .int lo])), (a1, .inl (cA, 2000, .inl f1)), (a2, .inl (cA, 2000, .inl f2)), (a3, .inl (cA, 2000, .inl f3)), (a4, .inl (cA, 2000, .inl f4))] s.heap := hP
  have hl := lv_entry ([.ref h0, .int p1]) (n := 2) (Nat.le_of_ble_eq_true rfl)
  rw [lg_entry_eq]
  generalize (lg_sl ([.ref h0, .int p1]) ++ List.replicate (2 - (lg_sl ([.ref h0, .int p1])).length) Slot.unset).toArray = ls at hl ⊢
  have hl : lv_has ls 2 [(0, .ref h0), (1, .int p1)] := hl
  refine lv_iload_n hx hb dX0_reach_0 rfl (lv_at hl 1 rfl) ?_
  refine lv_iconst (v := 1) hx hb dX0_reach_1 (by decide) ?_
  refine lv_icmp_lt (tgt := 11) hx hb dX0_reach_2 (by decide) (fun hc1 => ?_) (fun hc1 => ?_)
  · exact absurd hc1 hp1
  · refine lv_iload_n hx hb dX0_reach_5 rfl (lv_at hl 1 rfl) ?_
    refine lv_ldc (v := 100000) hx hb hown (hts (.constant RX0 46 100000) (by decide +kernel)) dX0_reach_6 ?_
    refine lv_icmp_le (tgt := 13) hx hb dX0_reach_8 (by decide) (fun hc2 => ?_) (fun hc2 => ?_)
    · refine lv_aload_n hx hb dX0_reach_13 rfl (lv_at hl 0 rfl) ?_
      refine lv_iload_n hx hb dX0_reach_14 rfl (lv_at hl 1 rfl) ?_
      refine va_put (D := (dC, dI)) (ci := 0) (v := .int p1) (ty := .int) (C := RX0) (T := TX0) (N := 10) hx hb hts in_X0_reach tyX0 tyX0_ok nmX0 hown hK hP hD hS 0 rfl rfl 7 (by decide) (hts (.fieldLink RX0 32 "BranchLengths" "reachNow" "I") (by decide +kernel)) (fun _ h9 => h9) rfl (by decide +kernel) rfl rfl (Nat.le_of_ble_eq_true rfl) dX0_reach_15 (fun H locs hP hD hS => ?_)
      have hP : va_P (dC, dI) vwCl [(h0, .inr (0, [.ref a1, .ref a2, .ref a3, .ref a4, .int (nI n), .int kc, .int lc, .int p1, .int ml, .int lo])), (a1, .inl (cA, 2000, .inl f1)), (a2, .inl (cA, 2000, .inl f2)), (a3, .inl (cA, 2000, .inl f3)), (a4, .inl (cA, 2000, .inl f4))] H := hP
      have hD : va_D A [(h0, .inr (0, [.ref a1, .ref a2, .ref a3, .ref a4, .int (nI n), .int kc, .int lc, .int p1, .int ml, .int lo])), (a1, .inl (cA, 2000, .inl f1)), (a2, .inl (cA, 2000, .inl f2)), (a3, .inl (cA, 2000, .inl f3)), (a4, .inl (cA, 2000, .inl f4))] := hD
      refine lv_aload_n hx hb dX0_reach_18 rfl (lv_at hl 0 rfl) ?_
      refine lv_iconst (v := 0) hx hb dX0_reach_19 (by decide) ?_
      refine va_put (D := (dC, dI)) (ci := 0) (v := .int 0) (ty := .boolean) (C := RX0) (T := TX0) (N := 10) hx hb hts in_X0_reach tyX0 tyX0_ok nmX0 hown hK hP hD hS 0 rfl rfl 9 (by decide) (hts (.fieldLink RX0 38 "BranchLengths" "laidOut" "Z") (by decide +kernel)) (fun _ h9 => h9) rfl (by decide +kernel) rfl rfl (Nat.le_of_ble_eq_true rfl) dX0_reach_20 (fun H locs hP hD hS => ?_)
      have hP : va_P (dC, dI) vwCl [(h0, .inr (0, [.ref a1, .ref a2, .ref a3, .ref a4, .int (nI n), .int kc, .int lc, .int p1, .int ml, .int 0])), (a1, .inl (cA, 2000, .inl f1)), (a2, .inl (cA, 2000, .inl f2)), (a3, .inl (cA, 2000, .inl f3)), (a4, .inl (cA, 2000, .inl f4))] H := hP
      have hD : va_D A [(h0, .inr (0, [.ref a1, .ref a2, .ref a3, .ref a4, .int (nI n), .int kc, .int lc, .int p1, .int ml, .int 0])), (a1, .inl (cA, 2000, .inl f1)), (a2, .inl (cA, 2000, .inl f2)), (a3, .inl (cA, 2000, .inl f3)), (a4, .inl (cA, 2000, .inl f4))] := hD
      refine lv_iconst (v := 1) hx hb dX0_reach_23 (by decide) ?_
      exact W.zret (v := 1) hx hb hr rfl (fun t ht hW => ⟨⟨1, (), rfl, rfl, by rw [ht]; exact hP, va_K.moved hW.alike hK, hD⟩, hS.F ht⟩) hS.2.2 dX0_reach_24
    · exact absurd hp2 hc2
set_option maxHeartbeats 4000000 in
set_option maxRecDepth 100000 in
/-- least() -/
theorem c_least (l : Launch) (dC : Nat → ClassId) (dI : Nat → Nat → Nat) (cA : ClassId) (h0 a1 a2 a3 a4 sz : Nat) (f1 f2 f3 f4 : Nat → Int32) (n : Nat) (kc lc rn ml lo : Int32)  : na_Mi (S := Unit) l yX0_least wsX0_least ({ frames := 0, cells := 0, slots := 0, locals := 0 }) (dC, dI) vwCl [(cA, .int)] sz [.ref h0] [(h0, .inr (0, [.ref a1, .ref a2, .ref a3, .ref a4, .int (nI n), .int kc, .int lc, .int rn, .int ml, .int lo])), (a1, .inl (cA, 2000, .inl f1)), (a2, .inl (cA, 2000, .inl f2)), (a3, .inl (cA, 2000, .inl f3)), (a4, .inl (cA, 2000, .inl f4))] (fun r _ => r = ml) (fun _ => [(h0, .inr (0, [.ref a1, .ref a2, .ref a3, .ref a4, .int (nI n), .int kc, .int lc, .int rn, .int ml, .int lo])), (a1, .inl (cA, 2000, .inl f1)), (a2, .inl (cA, 2000, .inl f2)), (a3, .inl (cA, 2000, .inl f3)), (a4, .inl (cA, 2000, .inl f4))]) := by
  refine Met.ofW (cc := cX0_least) (maxL := 1) (ret := (some .int)) (by decide) rfl ?_
  intro p e s m args below meth c s₁ B hml hv
  obtain ⟨rfl, hsz, hP, hK, hD0⟩ := hv
  have hx := B.exec
  have hb := B.bytes
  have hr := B.returns
  have hts := atoms_spec (ws := wsX0_least) B.pre
  have hown : s.vm.findClass RX0 = some m.cls := findClass_of_methodNamed B.named
  have hlocks := B.notSynchronized
  subst hsz
  have hD := hD0.self (sz := s.heap.size)
  generalize hAe : va_A [(h0, .inr (0, [.ref a1, .ref a2, .ref a3, .ref a4, .int (nI n), .int kc, .int lc, .int rn, .int ml, .int lo])), (a1, .inl (cA, 2000, .inl f1)), (a2, .inl (cA, 2000, .inl f2)), (a3, .inl (cA, 2000, .inl f3)), (a4, .inl (cA, 2000, .inl f4))] s.heap.size = A at hD ⊢
  have hA : ∀ q : Nat, s.heap.size ≤ q → A q := fun q h => by rw [← hAe]; exact Or.inr h
  have hS : va_S A s.heap s.heap [] := va_S.rf
  have hP : va_P (dC, dI) vwCl [(h0, .inr (0, [.ref a1, .ref a2, .ref a3, .ref a4, .int (nI n), .int kc, .int lc, .int rn, .int ml, .int lo])), (a1, .inl (cA, 2000, .inl f1)), (a2, .inl (cA, 2000, .inl f2)), (a3, .inl (cA, 2000, .inl f3)), (a4, .inl (cA, 2000, .inl f4))] s.heap := hP
  have hl := lv_entry ([.ref h0]) (n := 1) (Nat.le_of_ble_eq_true rfl)
  rw [lg_entry_eq]
  generalize (lg_sl ([.ref h0]) ++ List.replicate (1 - (lg_sl ([.ref h0])).length) Slot.unset).toArray = ls at hl ⊢
  have hl : lv_has ls 1 [(0, .ref h0)] := hl
  refine lv_aload_n hx hb dX0_least_0 rfl (lv_at hl 0 rfl) ?_
  refine va_get (D := (dC, dI)) (ci := 0) (v := .int ml) (C := RX0) (T := TX0) (N := 10) hx hb hts in_X0_least hown hK hP 0 rfl rfl 8 (by decide) (hts (.fieldLink RX0 35 "BranchLengths" "markless" "I") (by decide +kernel)) (fun _ h9 => h9) rfl dX0_least_1 ?_
  exact W.iret (v := ml) hx hb hr (fun t ht hW => ⟨⟨ml, (), rfl, rfl, by rw [ht]; exact hP, va_K.moved hW.alike hK, hD⟩, hS.F ht⟩) hS.2.2 dX0_least_4
set_option maxHeartbeats 4000000 in
set_option maxRecDepth 100000 in
/-- items() -/
theorem c_items (l : Launch) (dC : Nat → ClassId) (dI : Nat → Nat → Nat) (cA : ClassId) (h0 a1 a2 a3 a4 sz : Nat) (f1 f2 f3 f4 : Nat → Int32) (n : Nat) (kc lc rn ml lo : Int32)  : na_Mi (S := Unit) l yX0_items wsX0_items ({ frames := 0, cells := 0, slots := 0, locals := 0 }) (dC, dI) vwCl [(cA, .int)] sz [.ref h0] [(h0, .inr (0, [.ref a1, .ref a2, .ref a3, .ref a4, .int (nI n), .int kc, .int lc, .int rn, .int ml, .int lo])), (a1, .inl (cA, 2000, .inl f1)), (a2, .inl (cA, 2000, .inl f2)), (a3, .inl (cA, 2000, .inl f3)), (a4, .inl (cA, 2000, .inl f4))] (fun r _ => r = nI n) (fun _ => [(h0, .inr (0, [.ref a1, .ref a2, .ref a3, .ref a4, .int (nI n), .int kc, .int lc, .int rn, .int ml, .int lo])), (a1, .inl (cA, 2000, .inl f1)), (a2, .inl (cA, 2000, .inl f2)), (a3, .inl (cA, 2000, .inl f3)), (a4, .inl (cA, 2000, .inl f4))]) := by
  refine Met.ofW (cc := cX0_items) (maxL := 1) (ret := (some .int)) (by decide) rfl ?_
  intro p e s m args below meth c s₁ B hml hv
  obtain ⟨rfl, hsz, hP, hK, hD0⟩ := hv
  have hx := B.exec
  have hb := B.bytes
  have hr := B.returns
  have hts := atoms_spec (ws := wsX0_items) B.pre
  have hown : s.vm.findClass RX0 = some m.cls := findClass_of_methodNamed B.named
  have hlocks := B.notSynchronized
  subst hsz
  have hD := hD0.self (sz := s.heap.size)
  generalize hAe : va_A [(h0, .inr (0, [.ref a1, .ref a2, .ref a3, .ref a4, .int (nI n), .int kc, .int lc, .int rn, .int ml, .int lo])), (a1, .inl (cA, 2000, .inl f1)), (a2, .inl (cA, 2000, .inl f2)), (a3, .inl (cA, 2000, .inl f3)), (a4, .inl (cA, 2000, .inl f4))] s.heap.size = A at hD ⊢
  have hA : ∀ q : Nat, s.heap.size ≤ q → A q := fun q h => by rw [← hAe]; exact Or.inr h
  have hS : va_S A s.heap s.heap [] := va_S.rf
  have hP : va_P (dC, dI) vwCl [(h0, .inr (0, [.ref a1, .ref a2, .ref a3, .ref a4, .int (nI n), .int kc, .int lc, .int rn, .int ml, .int lo])), (a1, .inl (cA, 2000, .inl f1)), (a2, .inl (cA, 2000, .inl f2)), (a3, .inl (cA, 2000, .inl f3)), (a4, .inl (cA, 2000, .inl f4))] s.heap := hP
  have hl := lv_entry ([.ref h0]) (n := 1) (Nat.le_of_ble_eq_true rfl)
  rw [lg_entry_eq]
  generalize (lg_sl ([.ref h0]) ++ List.replicate (1 - (lg_sl ([.ref h0])).length) Slot.unset).toArray = ls at hl ⊢
  have hl : lv_has ls 1 [(0, .ref h0)] := hl
  refine lv_aload_n hx hb dX0_items_0 rfl (lv_at hl 0 rfl) ?_
  refine va_get (D := (dC, dI)) (ci := 0) (v := .int (nI n)) (C := RX0) (T := TX0) (N := 10) hx hb hts in_X0_items hown hK hP 0 rfl rfl 4 (by decide) (hts (.fieldLink RX0 22 "BranchLengths" "itemCount" "I") (by decide +kernel)) (fun _ h9 => h9) rfl dX0_items_1 ?_
  exact W.iret (v := (nI n)) hx hb hr (fun t ht hW => ⟨⟨(nI n), (), rfl, rfl, by rw [ht]; exact hP, va_K.moved hW.alike hK, hD⟩, hS.F ht⟩) hS.2.2 dX0_items_4
set_option maxHeartbeats 4000000 in
set_option maxRecDepth 100000 in
/-- marks() -/
theorem c_marks (l : Launch) (dC : Nat → ClassId) (dI : Nat → Nat → Nat) (cA : ClassId) (h0 a1 a2 a3 a4 sz : Nat) (f1 f2 f3 f4 : Nat → Int32) (n : Nat) (kc lc rn ml lo : Int32)  : na_Mi (S := Unit) l yX0_marks wsX0_marks ({ frames := 0, cells := 0, slots := 0, locals := 0 }) (dC, dI) vwCl [(cA, .int)] sz [.ref h0] [(h0, .inr (0, [.ref a1, .ref a2, .ref a3, .ref a4, .int (nI n), .int kc, .int lc, .int rn, .int ml, .int lo])), (a1, .inl (cA, 2000, .inl f1)), (a2, .inl (cA, 2000, .inl f2)), (a3, .inl (cA, 2000, .inl f3)), (a4, .inl (cA, 2000, .inl f4))] (fun r _ => r = kc) (fun _ => [(h0, .inr (0, [.ref a1, .ref a2, .ref a3, .ref a4, .int (nI n), .int kc, .int lc, .int rn, .int ml, .int lo])), (a1, .inl (cA, 2000, .inl f1)), (a2, .inl (cA, 2000, .inl f2)), (a3, .inl (cA, 2000, .inl f3)), (a4, .inl (cA, 2000, .inl f4))]) := by
  refine Met.ofW (cc := cX0_marks) (maxL := 1) (ret := (some .int)) (by decide) rfl ?_
  intro p e s m args below meth c s₁ B hml hv
  obtain ⟨rfl, hsz, hP, hK, hD0⟩ := hv
  have hx := B.exec
  have hb := B.bytes
  have hr := B.returns
  have hts := atoms_spec (ws := wsX0_marks) B.pre
  have hown : s.vm.findClass RX0 = some m.cls := findClass_of_methodNamed B.named
  have hlocks := B.notSynchronized
  subst hsz
  have hD := hD0.self (sz := s.heap.size)
  generalize hAe : va_A [(h0, .inr (0, [.ref a1, .ref a2, .ref a3, .ref a4, .int (nI n), .int kc, .int lc, .int rn, .int ml, .int lo])), (a1, .inl (cA, 2000, .inl f1)), (a2, .inl (cA, 2000, .inl f2)), (a3, .inl (cA, 2000, .inl f3)), (a4, .inl (cA, 2000, .inl f4))] s.heap.size = A at hD ⊢
  have hA : ∀ q : Nat, s.heap.size ≤ q → A q := fun q h => by rw [← hAe]; exact Or.inr h
  have hS : va_S A s.heap s.heap [] := va_S.rf
  have hP : va_P (dC, dI) vwCl [(h0, .inr (0, [.ref a1, .ref a2, .ref a3, .ref a4, .int (nI n), .int kc, .int lc, .int rn, .int ml, .int lo])), (a1, .inl (cA, 2000, .inl f1)), (a2, .inl (cA, 2000, .inl f2)), (a3, .inl (cA, 2000, .inl f3)), (a4, .inl (cA, 2000, .inl f4))] s.heap := hP
  have hl := lv_entry ([.ref h0]) (n := 1) (Nat.le_of_ble_eq_true rfl)
  rw [lg_entry_eq]
  generalize (lg_sl ([.ref h0]) ++ List.replicate (1 - (lg_sl ([.ref h0])).length) Slot.unset).toArray = ls at hl ⊢
  have hl : lv_has ls 1 [(0, .ref h0)] := hl
  refine lv_aload_n hx hb dX0_marks_0 rfl (lv_at hl 0 rfl) ?_
  refine va_get (D := (dC, dI)) (ci := 0) (v := .int kc) (C := RX0) (T := TX0) (N := 10) hx hb hts in_X0_marks hown hK hP 0 rfl rfl 5 (by decide) (hts (.fieldLink RX0 26 "BranchLengths" "markCount" "I") (by decide +kernel)) (fun _ h9 => h9) rfl dX0_marks_1 ?_
  exact W.iret (v := kc) hx hb hr (fun t ht hW => ⟨⟨kc, (), rfl, rfl, by rw [ht]; exact hP, va_K.moved hW.alike hK, hD⟩, hS.F ht⟩) hS.2.2 dX0_marks_4
set_option maxHeartbeats 4000000 in
set_option maxRecDepth 100000 in
/-- clear() -/
theorem c_clear (l : Launch) (dC : Nat → ClassId) (dI : Nat → Nat → Nat) (cA : ClassId) (h0 a1 a2 a3 a4 sz : Nat) (f1 f2 f3 f4 : Nat → Int32) (n : Nat) (kc lc rn ml lo : Int32)  : na_Mv (S := Unit) l yX0_clear wsX0_clear ({ frames := 0, cells := 0, slots := 0, locals := 0 }) (dC, dI) vwCl [(cA, .int)] sz [.ref h0] [(h0, .inr (0, [.ref a1, .ref a2, .ref a3, .ref a4, .int (nI n), .int kc, .int lc, .int rn, .int ml, .int lo])), (a1, .inl (cA, 2000, .inl f1)), (a2, .inl (cA, 2000, .inl f2)), (a3, .inl (cA, 2000, .inl f3)), (a4, .inl (cA, 2000, .inl f4))] (fun _ => True) (fun _ => [(h0, .inr (0, [.ref a1, .ref a2, .ref a3, .ref a4, .int (nI 0), .int (nI 0), .int lc, .int rn, .int ml, .int 0])), (a1, .inl (cA, 2000, .inl f1)), (a2, .inl (cA, 2000, .inl f2)), (a3, .inl (cA, 2000, .inl f3)), (a4, .inl (cA, 2000, .inl f4))]) := by
  refine Met.ofW (cc := cX0_clear) (maxL := 1) (ret := none) (by decide) rfl ?_
  intro p e s m args below meth c s₁ B hml hv
  obtain ⟨rfl, hsz, hP, hK, hD0⟩ := hv
  have hx := B.exec
  have hb := B.bytes
  have hr := B.returns
  have hts := atoms_spec (ws := wsX0_clear) B.pre
  have hown : s.vm.findClass RX0 = some m.cls := findClass_of_methodNamed B.named
  have hlocks := B.notSynchronized
  subst hsz
  have hD := hD0.self (sz := s.heap.size)
  generalize hAe : va_A [(h0, .inr (0, [.ref a1, .ref a2, .ref a3, .ref a4, .int (nI n), .int kc, .int lc, .int rn, .int ml, .int lo])), (a1, .inl (cA, 2000, .inl f1)), (a2, .inl (cA, 2000, .inl f2)), (a3, .inl (cA, 2000, .inl f3)), (a4, .inl (cA, 2000, .inl f4))] s.heap.size = A at hD ⊢
  have hA : ∀ q : Nat, s.heap.size ≤ q → A q := fun q h => by rw [← hAe]; exact Or.inr h
  have hS : va_S A s.heap s.heap [] := va_S.rf
  have hP : va_P (dC, dI) vwCl [(h0, .inr (0, [.ref a1, .ref a2, .ref a3, .ref a4, .int (nI n), .int kc, .int lc, .int rn, .int ml, .int lo])), (a1, .inl (cA, 2000, .inl f1)), (a2, .inl (cA, 2000, .inl f2)), (a3, .inl (cA, 2000, .inl f3)), (a4, .inl (cA, 2000, .inl f4))] s.heap := hP
  have hl := lv_entry ([.ref h0]) (n := 1) (Nat.le_of_ble_eq_true rfl)
  rw [lg_entry_eq]
  generalize (lg_sl ([.ref h0]) ++ List.replicate (1 - (lg_sl ([.ref h0])).length) Slot.unset).toArray = ls at hl ⊢
  have hl : lv_has ls 1 [(0, .ref h0)] := hl
  refine lv_aload_n hx hb dX0_clear_0 rfl (lv_at hl 0 rfl) ?_
  refine lv_iconst (v := nI 0) hx hb dX0_clear_1 rfl ?_
  refine va_put (D := (dC, dI)) (ci := 0) (v := .int (nI 0)) (ty := .int) (C := RX0) (T := TX0) (N := 10) hx hb hts in_X0_clear tyX0 tyX0_ok nmX0 hown hK hP hD hS 0 rfl rfl 4 (by decide) (hts (.fieldLink RX0 22 "BranchLengths" "itemCount" "I") (by decide +kernel)) (fun _ h9 => h9) rfl (by decide +kernel) rfl rfl (Nat.le_of_ble_eq_true rfl) dX0_clear_2 (fun H locs hP hD hS => ?_)
  have hP : va_P (dC, dI) vwCl [(h0, .inr (0, [.ref a1, .ref a2, .ref a3, .ref a4, .int (nI 0), .int kc, .int lc, .int rn, .int ml, .int lo])), (a1, .inl (cA, 2000, .inl f1)), (a2, .inl (cA, 2000, .inl f2)), (a3, .inl (cA, 2000, .inl f3)), (a4, .inl (cA, 2000, .inl f4))] H := hP
  have hD : va_D A [(h0, .inr (0, [.ref a1, .ref a2, .ref a3, .ref a4, .int (nI 0), .int kc, .int lc, .int rn, .int ml, .int lo])), (a1, .inl (cA, 2000, .inl f1)), (a2, .inl (cA, 2000, .inl f2)), (a3, .inl (cA, 2000, .inl f3)), (a4, .inl (cA, 2000, .inl f4))] := hD
  refine lv_aload_n hx hb dX0_clear_5 rfl (lv_at hl 0 rfl) ?_
  refine lv_iconst (v := nI 0) hx hb dX0_clear_6 rfl ?_
  refine va_put (D := (dC, dI)) (ci := 0) (v := .int (nI 0)) (ty := .int) (C := RX0) (T := TX0) (N := 10) hx hb hts in_X0_clear tyX0 tyX0_ok nmX0 hown hK hP hD hS 0 rfl rfl 5 (by decide) (hts (.fieldLink RX0 26 "BranchLengths" "markCount" "I") (by decide +kernel)) (fun _ h9 => h9) rfl (by decide +kernel) rfl rfl (Nat.le_of_ble_eq_true rfl) dX0_clear_7 (fun H locs hP hD hS => ?_)
  have hP : va_P (dC, dI) vwCl [(h0, .inr (0, [.ref a1, .ref a2, .ref a3, .ref a4, .int (nI 0), .int (nI 0), .int lc, .int rn, .int ml, .int lo])), (a1, .inl (cA, 2000, .inl f1)), (a2, .inl (cA, 2000, .inl f2)), (a3, .inl (cA, 2000, .inl f3)), (a4, .inl (cA, 2000, .inl f4))] H := hP
  have hD : va_D A [(h0, .inr (0, [.ref a1, .ref a2, .ref a3, .ref a4, .int (nI 0), .int (nI 0), .int lc, .int rn, .int ml, .int lo])), (a1, .inl (cA, 2000, .inl f1)), (a2, .inl (cA, 2000, .inl f2)), (a3, .inl (cA, 2000, .inl f3)), (a4, .inl (cA, 2000, .inl f4))] := hD
  refine lv_aload_n hx hb dX0_clear_10 rfl (lv_at hl 0 rfl) ?_
  refine lv_iconst (v := 0) hx hb dX0_clear_11 (by decide) ?_
  refine va_put (D := (dC, dI)) (ci := 0) (v := .int 0) (ty := .boolean) (C := RX0) (T := TX0) (N := 10) hx hb hts in_X0_clear tyX0 tyX0_ok nmX0 hown hK hP hD hS 0 rfl rfl 9 (by decide) (hts (.fieldLink RX0 38 "BranchLengths" "laidOut" "Z") (by decide +kernel)) (fun _ h9 => h9) rfl (by decide +kernel) rfl rfl (Nat.le_of_ble_eq_true rfl) dX0_clear_12 (fun H locs hP hD hS => ?_)
  have hP : va_P (dC, dI) vwCl [(h0, .inr (0, [.ref a1, .ref a2, .ref a3, .ref a4, .int (nI 0), .int (nI 0), .int lc, .int rn, .int ml, .int 0])), (a1, .inl (cA, 2000, .inl f1)), (a2, .inl (cA, 2000, .inl f2)), (a3, .inl (cA, 2000, .inl f3)), (a4, .inl (cA, 2000, .inl f4))] H := hP
  have hD : va_D A [(h0, .inr (0, [.ref a1, .ref a2, .ref a3, .ref a4, .int (nI 0), .int (nI 0), .int lc, .int rn, .int ml, .int 0])), (a1, .inl (cA, 2000, .inl f1)), (a2, .inl (cA, 2000, .inl f2)), (a3, .inl (cA, 2000, .inl f3)), (a4, .inl (cA, 2000, .inl f4))] := hD
  exact W.vret hx hb hr (fun t ht hW => ⟨⟨(), rfl, trivial, by rw [ht]; exact hP, va_K.moved hW.alike hK, hD⟩, hS.F ht⟩) hS.2.2 dX0_clear_15
set_option maxHeartbeats 4000000 in
set_option maxRecDepth 100000 in
/-- longs() -/
theorem c_longs (l : Launch) (dC : Nat → ClassId) (dI : Nat → Nat → Nat) (cA : ClassId) (h0 a1 a2 a3 a4 sz : Nat) (f1 f2 f3 f4 : Nat → Int32) (n : Nat) (kc lc rn ml lo : Int32)  : na_Mi (S := Unit) l yX0_longs wsX0_longs ({ frames := 0, cells := 0, slots := 0, locals := 0 }) (dC, dI) vwCl [(cA, .int)] sz [.ref h0] [(h0, .inr (0, [.ref a1, .ref a2, .ref a3, .ref a4, .int (nI n), .int kc, .int lc, .int rn, .int ml, .int lo])), (a1, .inl (cA, 2000, .inl f1)), (a2, .inl (cA, 2000, .inl f2)), (a3, .inl (cA, 2000, .inl f3)), (a4, .inl (cA, 2000, .inl f4))] (fun r _ => r = if lo = 0 then -1 else lc) (fun _ => [(h0, .inr (0, [.ref a1, .ref a2, .ref a3, .ref a4, .int (nI n), .int kc, .int lc, .int rn, .int ml, .int lo])), (a1, .inl (cA, 2000, .inl f1)), (a2, .inl (cA, 2000, .inl f2)), (a3, .inl (cA, 2000, .inl f3)), (a4, .inl (cA, 2000, .inl f4))]) := by
  refine Met.ofW (cc := cX0_longs) (maxL := 1) (ret := (some .int)) (by decide) rfl ?_
  intro p e s m args below meth c s₁ B hml hv
  obtain ⟨rfl, hsz, hP, hK, hD0⟩ := hv
  have hx := B.exec
  have hb := B.bytes
  have hr := B.returns
  have hts := atoms_spec (ws := wsX0_longs) B.pre
  have hown : s.vm.findClass RX0 = some m.cls := findClass_of_methodNamed B.named
  have hlocks := B.notSynchronized
  subst hsz
  have hD := hD0.self (sz := s.heap.size)
  generalize hAe : va_A [(h0, .inr (0, [.ref a1, .ref a2, .ref a3, .ref a4, .int (nI n), .int kc, .int lc, .int rn, .int ml, .int lo])), (a1, .inl (cA, 2000, .inl f1)), (a2, .inl (cA, 2000, .inl f2)), (a3, .inl (cA, 2000, .inl f3)), (a4, .inl (cA, 2000, .inl f4))] s.heap.size = A at hD ⊢
  have hA : ∀ q : Nat, s.heap.size ≤ q → A q := fun q h => by rw [← hAe]; exact Or.inr h
  have hS : va_S A s.heap s.heap [] := va_S.rf
  have hP : va_P (dC, dI) vwCl [(h0, .inr (0, [.ref a1, .ref a2, .ref a3, .ref a4, .int (nI n), .int kc, .int lc, .int rn, .int ml, .int lo])), (a1, .inl (cA, 2000, .inl f1)), (a2, .inl (cA, 2000, .inl f2)), (a3, .inl (cA, 2000, .inl f3)), (a4, .inl (cA, 2000, .inl f4))] s.heap := hP
  have hl := lv_entry ([.ref h0]) (n := 1) (Nat.le_of_ble_eq_true rfl)
  rw [lg_entry_eq]
  generalize (lg_sl ([.ref h0]) ++ List.replicate (1 - (lg_sl ([.ref h0])).length) Slot.unset).toArray = ls at hl ⊢
  have hl : lv_has ls 1 [(0, .ref h0)] := hl
  refine lv_aload_n hx hb dX0_longs_0 rfl (lv_at hl 0 rfl) ?_
  refine va_get (D := (dC, dI)) (ci := 0) (v := .int lo) (C := RX0) (T := TX0) (N := 10) hx hb hts in_X0_longs hown hK hP 0 rfl rfl 9 (by decide) (hts (.fieldLink RX0 38 "BranchLengths" "laidOut" "Z") (by decide +kernel)) (fun _ h9 => h9) rfl dX0_longs_1 ?_
  refine lv_if_eq (tgt := 14) hx hb dX0_longs_4 (by decide) (fun hc1 => ?_) (fun hc1 => ?_)
  · refine lv_iconst (v := -1) hx hb dX0_longs_14 (by decide) ?_
    exact W.iret (v := (-1)) hx hb hr (fun t ht hW => ⟨⟨(-1), (), rfl, (if_pos hc1).symm, by rw [ht]; exact hP, va_K.moved hW.alike hK, hD⟩, hS.F ht⟩) hS.2.2 dX0_longs_15
  · refine lv_aload_n hx hb dX0_longs_7 rfl (lv_at hl 0 rfl) ?_
    refine va_get (D := (dC, dI)) (ci := 0) (v := .int lc) (C := RX0) (T := TX0) (N := 10) hx hb hts in_X0_longs hown hK hP 0 rfl rfl 6 (by decide) (hts (.fieldLink RX0 29 "BranchLengths" "longCount" "I") (by decide +kernel)) (fun _ h9 => h9) rfl dX0_longs_8 ?_
    refine lv_goto (tgt := 15) hx hb dX0_longs_11 (by decide) ?_
    exact W.iret (v := lc) hx hb hr (fun t ht hW => ⟨⟨lc, (), rfl, (if_neg hc1).symm, by rw [ht]; exact hP, va_K.moved hW.alike hK, hD⟩, hS.F ht⟩) hS.2.2 dX0_longs_15
set_option maxHeartbeats 4000000 in
set_option maxRecDepth 100000 in
/-- place(p), none -/
theorem c_place_out (l : Launch) (dC : Nat → ClassId) (dI : Nat → Nat → Nat) (cA : ClassId) (h0 a1 a2 a3 a4 sz : Nat) (f1 f2 f3 f4 : Nat → Int32) (n : Nat) (kc lc rn ml lo p1 : Int32) (hp : lo = 0 ∨ p1 < 0 ∨ nI n ≤ p1) : na_Mi (S := Unit) l yX0_place wsX0_place ({ frames := 2, cells := 0, slots := 0, locals := 42 }) (dC, dI) vwCl [(cA, .int)] sz [.ref h0, .int p1] [(h0, .inr (0, [.ref a1, .ref a2, .ref a3, .ref a4, .int (nI n), .int kc, .int lc, .int rn, .int ml, .int lo])), (a1, .inl (cA, 2000, .inl f1)), (a2, .inl (cA, 2000, .inl f2)), (a3, .inl (cA, 2000, .inl f3)), (a4, .inl (cA, 2000, .inl f4))] (fun r _ => r = -1) (fun _ => [(h0, .inr (0, [.ref a1, .ref a2, .ref a3, .ref a4, .int (nI n), .int kc, .int lc, .int rn, .int ml, .int lo])), (a1, .inl (cA, 2000, .inl f1)), (a2, .inl (cA, 2000, .inl f2)), (a3, .inl (cA, 2000, .inl f3)), (a4, .inl (cA, 2000, .inl f4))]) := by
  refine Met.ofW (cc := cX0_place) (maxL := 2) (ret := (some .int)) (by decide) rfl ?_
  intro p e s m args below meth c s₁ B hml hv
  obtain ⟨rfl, hsz, hP, hK, hD0⟩ := hv
  have hx := B.exec
  have hb := B.bytes
  have hr := B.returns
  have hts := atoms_spec (ws := wsX0_place) B.pre
  have hown : s.vm.findClass RX0 = some m.cls := findClass_of_methodNamed B.named
  have hlocks := B.notSynchronized
  subst hsz
  have hD := hD0.self (sz := s.heap.size)
  generalize hAe : va_A [(h0, .inr (0, [.ref a1, .ref a2, .ref a3, .ref a4, .int (nI n), .int kc, .int lc, .int rn, .int ml, .int lo])), (a1, .inl (cA, 2000, .inl f1)), (a2, .inl (cA, 2000, .inl f2)), (a3, .inl (cA, 2000, .inl f3)), (a4, .inl (cA, 2000, .inl f4))] s.heap.size = A at hD ⊢
  have hA : ∀ q : Nat, s.heap.size ≤ q → A q := fun q h => by rw [← hAe]; exact Or.inr h
  have hS : va_S A s.heap s.heap [] := va_S.rf
  have hP : va_P (dC, dI) vwCl [(h0, .inr (0, [.ref a1, .ref a2, .ref a3, .ref a4, .int (nI n), .int kc, .int lc, .int rn, .int ml, .int lo])), (a1, .inl (cA, 2000, .inl f1)), (a2, .inl (cA, 2000, .inl f2)), (a3, .inl (cA, 2000, .inl f3)), (a4, .inl (cA, 2000, .inl f4))] s.heap := hP
  have hl := lv_entry ([.ref h0, .int p1]) (n := 2) (Nat.le_of_ble_eq_true rfl)
  rw [lg_entry_eq]
  generalize (lg_sl ([.ref h0, .int p1]) ++ List.replicate (2 - (lg_sl ([.ref h0, .int p1])).length) Slot.unset).toArray = ls at hl ⊢
  have hl : lv_has ls 2 [(0, .ref h0), (1, .int p1)] := hl
  refine lv_aload_n hx hb dX0_place_0 rfl (lv_at hl 0 rfl) ?_
  refine lv_iload_n hx hb dX0_place_1 rfl (lv_at hl 1 rfl) ?_
  refine na_calli (As := [.int p1]) (rest := []) (wc := [(h0, .inr (0, [.ref a1, .ref a2, .ref a3, .ref a4, .int (nI n), .int kc, .int lc, .int rn, .int ml, .int lo])), (a1, .inl (cA, 2000, .inl f1)), (a2, .inl (cA, 2000, .inl f2)), (a3, .inl (cA, 2000, .inl f3)), (a4, .inl (cA, 2000, .inl f4))]) (wr := []) (ci := 0) ⟨hx, hb, hml, hown, hts⟩ (c_isLaid l dC dI cA h0 a1 a2 a3 a4 s.heap.size f1 f2 f3 f4 n kc lc rn ml lo p1) (cwV 1 hts gX0_place_X0_isLaid rfl rfl rfl (by decide +kernel) ⟨Nat.le_of_ble_eq_true rfl, Nat.le_of_ble_eq_true rfl⟩) hK hP hD hS hA [0, 1, 2, 3, 4] [] rfl rfl rfl rfl (by decide) rfl rfl 0 rfl rfl hl.1 (Nat.le_of_ble_eq_true rfl) dX0_place_2 ⟨Nat.le_of_ble_eq_true rfl, Nat.le_of_ble_eq_true rfl⟩ rfl (fun r u H locs hw hP hD hS => ?_)
  have hP : va_P (dC, dI) vwCl [(h0, .inr (0, [.ref a1, .ref a2, .ref a3, .ref a4, .int (nI n), .int kc, .int lc, .int rn, .int ml, .int lo])), (a1, .inl (cA, 2000, .inl f1)), (a2, .inl (cA, 2000, .inl f2)), (a3, .inl (cA, 2000, .inl f3)), (a4, .inl (cA, 2000, .inl f4))] H := hP
  have hD : va_D A [(h0, .inr (0, [.ref a1, .ref a2, .ref a3, .ref a4, .int (nI n), .int kc, .int lc, .int rn, .int ml, .int lo])), (a1, .inl (cA, 2000, .inl f1)), (a2, .inl (cA, 2000, .inl f2)), (a3, .inl (cA, 2000, .inl f3)), (a4, .inl (cA, 2000, .inl f4))] := hD
  have hw : r = 0 := hw.trans (if_neg (fun z => hp.elim z.1 (fun q => q.elim z.2.1 z.2.2)))
  subst hw
  refine lv_if_eq (tgt := 17) hx hb dX0_place_5 (by decide) (fun hc1 => ?_) (fun hc1 => ?_)
  · refine lv_iconst (v := -1) hx hb dX0_place_17 (by decide) ?_
    exact W.iret (v := (-1)) hx hb hr (fun t ht hW => ⟨⟨(-1), (), rfl, rfl, by rw [ht]; exact hP, va_K.moved hW.alike hK, hD⟩, hS.F ht⟩) hS.2.2 dX0_place_18
  · exact absurd rfl hc1
set_option maxHeartbeats 4000000 in
set_option maxRecDepth 100000 in
/-- place(k) -/
theorem c_place_in (l : Launch) (dC : Nat → ClassId) (dI : Nat → Nat → Nat) (cA : ClassId) (h0 a1 a2 a3 a4 sz : Nat) (f1 f2 f3 f4 : Nat → Int32) (n k : Nat) (kc lc rn ml lo : Int32) (hk : k < n) (hn : n ≤ 2000) (hlo : ¬ lo = 0) : na_Mi (S := Unit) l yX0_place wsX0_place ({ frames := 2, cells := 0, slots := 0, locals := 42 }) (dC, dI) vwCl [(cA, .int)] sz [.ref h0, .int (nI k)] [(h0, .inr (0, [.ref a1, .ref a2, .ref a3, .ref a4, .int (nI n), .int kc, .int lc, .int rn, .int ml, .int lo])), (a1, .inl (cA, 2000, .inl f1)), (a2, .inl (cA, 2000, .inl f2)), (a3, .inl (cA, 2000, .inl f3)), (a4, .inl (cA, 2000, .inl f4))] (fun r _ => r = f3 k) (fun _ => [(h0, .inr (0, [.ref a1, .ref a2, .ref a3, .ref a4, .int (nI n), .int kc, .int lc, .int rn, .int ml, .int lo])), (a1, .inl (cA, 2000, .inl f1)), (a2, .inl (cA, 2000, .inl f2)), (a3, .inl (cA, 2000, .inl f3)), (a4, .inl (cA, 2000, .inl f4))]) := by
  refine Met.ofW (cc := cX0_place) (maxL := 2) (ret := (some .int)) (by decide) rfl ?_
  intro p e s m args below meth c s₁ B hml hv
  obtain ⟨rfl, hsz, hP, hK, hD0⟩ := hv
  have hx := B.exec
  have hb := B.bytes
  have hr := B.returns
  have hts := atoms_spec (ws := wsX0_place) B.pre
  have hown : s.vm.findClass RX0 = some m.cls := findClass_of_methodNamed B.named
  have hlocks := B.notSynchronized
  subst hsz
  have hD := hD0.self (sz := s.heap.size)
  generalize hAe : va_A [(h0, .inr (0, [.ref a1, .ref a2, .ref a3, .ref a4, .int (nI n), .int kc, .int lc, .int rn, .int ml, .int lo])), (a1, .inl (cA, 2000, .inl f1)), (a2, .inl (cA, 2000, .inl f2)), (a3, .inl (cA, 2000, .inl f3)), (a4, .inl (cA, 2000, .inl f4))] s.heap.size = A at hD ⊢
  have hA : ∀ q : Nat, s.heap.size ≤ q → A q := fun q h => by rw [← hAe]; exact Or.inr h
  have hS : va_S A s.heap s.heap [] := va_S.rf
  have hP : va_P (dC, dI) vwCl [(h0, .inr (0, [.ref a1, .ref a2, .ref a3, .ref a4, .int (nI n), .int kc, .int lc, .int rn, .int ml, .int lo])), (a1, .inl (cA, 2000, .inl f1)), (a2, .inl (cA, 2000, .inl f2)), (a3, .inl (cA, 2000, .inl f3)), (a4, .inl (cA, 2000, .inl f4))] s.heap := hP
  have hl := lv_entry ([.ref h0, .int (nI k)]) (n := 2) (Nat.le_of_ble_eq_true rfl)
  rw [lg_entry_eq]
  generalize (lg_sl ([.ref h0, .int (nI k)]) ++ List.replicate (2 - (lg_sl ([.ref h0, .int (nI k)])).length) Slot.unset).toArray = ls at hl ⊢
  have hl : lv_has ls 2 [(0, .ref h0), (1, .int (nI k))] := hl
  refine lv_aload_n hx hb dX0_place_0 rfl (lv_at hl 0 rfl) ?_
  refine lv_iload_n hx hb dX0_place_1 rfl (lv_at hl 1 rfl) ?_
  refine na_calli (As := [.int (nI k)]) (rest := []) (wc := [(h0, .inr (0, [.ref a1, .ref a2, .ref a3, .ref a4, .int (nI n), .int kc, .int lc, .int rn, .int ml, .int lo])), (a1, .inl (cA, 2000, .inl f1)), (a2, .inl (cA, 2000, .inl f2)), (a3, .inl (cA, 2000, .inl f3)), (a4, .inl (cA, 2000, .inl f4))]) (wr := []) (ci := 0) ⟨hx, hb, hml, hown, hts⟩ (c_isLaid l dC dI cA h0 a1 a2 a3 a4 s.heap.size f1 f2 f3 f4 n kc lc rn ml lo (nI k)) (cwV 1 hts gX0_place_X0_isLaid rfl rfl rfl (by decide +kernel) ⟨Nat.le_of_ble_eq_true rfl, Nat.le_of_ble_eq_true rfl⟩) hK hP hD hS hA [0, 1, 2, 3, 4] [] rfl rfl rfl rfl (by decide) rfl rfl 0 rfl rfl hl.1 (Nat.le_of_ble_eq_true rfl) dX0_place_2 ⟨Nat.le_of_ble_eq_true rfl, Nat.le_of_ble_eq_true rfl⟩ rfl (fun r u H locs hw hP hD hS => ?_)
  have hP : va_P (dC, dI) vwCl [(h0, .inr (0, [.ref a1, .ref a2, .ref a3, .ref a4, .int (nI n), .int kc, .int lc, .int rn, .int ml, .int lo])), (a1, .inl (cA, 2000, .inl f1)), (a2, .inl (cA, 2000, .inl f2)), (a3, .inl (cA, 2000, .inl f3)), (a4, .inl (cA, 2000, .inl f4))] H := hP
  have hD : va_D A [(h0, .inr (0, [.ref a1, .ref a2, .ref a3, .ref a4, .int (nI n), .int kc, .int lc, .int rn, .int ml, .int lo])), (a1, .inl (cA, 2000, .inl f1)), (a2, .inl (cA, 2000, .inl f2)), (a3, .inl (cA, 2000, .inl f3)), (a4, .inl (cA, 2000, .inl f4))] := hD
  have hw : r = 1 := hw.trans (if_pos ⟨hlo, nI_pos (by omega), nI_ge hk (by omega)⟩)
  subst hw
  refine lv_if_eq (tgt := 17) hx hb dX0_place_5 (by decide) (fun hc1 => ?_) (fun hc1 => ?_)
  · exact absurd hc1 (by decide)
  · refine lv_aload_n hx hb dX0_place_8 rfl (lv_at hl 0 rfl) ?_
    refine va_get (D := (dC, dI)) (ci := 0) (v := .ref a3) (C := RX0) (T := TX0) (N := 10) hx hb hts in_X0_place hown hK hP 0 rfl rfl 2 (by decide) (hts (.fieldLink RX0 16 "BranchLengths" "places" "[I") (by decide +kernel)) (fun _ h9 => h9) rfl dX0_place_9 ?_
    refine lv_iload_n hx hb dX0_place_12 rfl (lv_at hl 1 rfl) ?_
    refine na_iald (k := k) hx hb hK hP 3 0 rfl rfl (by omega) (by decide) dX0_place_13 ?_
    refine lv_goto (tgt := 18) hx hb dX0_place_14 (by decide) ?_
    exact W.iret (v := (f3 k)) hx hb hr (fun t ht hW => ⟨⟨(f3 k), (), rfl, rfl, by rw [ht]; exact hP, va_K.moved hW.alike hK, hD⟩, hS.F ht⟩) hS.2.2 dX0_place_18
set_option maxHeartbeats 4000000 in
set_option maxRecDepth 100000 in
/-- isLong(p), none -/
theorem c_isLong_out (l : Launch) (dC : Nat → ClassId) (dI : Nat → Nat → Nat) (cA : ClassId) (h0 a1 a2 a3 a4 sz : Nat) (f1 f2 f3 f4 : Nat → Int32) (n : Nat) (kc lc rn ml lo p1 : Int32) (hp : lo = 0 ∨ p1 < 0 ∨ nI n ≤ p1) : na_Mi (S := Unit) l yX0_isLong wsX0_isLong ({ frames := 2, cells := 0, slots := 0, locals := 42 }) (dC, dI) vwCl [(cA, .int)] sz [.ref h0, .int p1] [(h0, .inr (0, [.ref a1, .ref a2, .ref a3, .ref a4, .int (nI n), .int kc, .int lc, .int rn, .int ml, .int lo])), (a1, .inl (cA, 2000, .inl f1)), (a2, .inl (cA, 2000, .inl f2)), (a3, .inl (cA, 2000, .inl f3)), (a4, .inl (cA, 2000, .inl f4))] (fun r _ => r = 0) (fun _ => [(h0, .inr (0, [.ref a1, .ref a2, .ref a3, .ref a4, .int (nI n), .int kc, .int lc, .int rn, .int ml, .int lo])), (a1, .inl (cA, 2000, .inl f1)), (a2, .inl (cA, 2000, .inl f2)), (a3, .inl (cA, 2000, .inl f3)), (a4, .inl (cA, 2000, .inl f4))]) := by
  refine Met.ofW (cc := cX0_isLong) (maxL := 2) (ret := (some .boolean)) (by decide) rfl ?_
  intro p e s m args below meth c s₁ B hml hv
  obtain ⟨rfl, hsz, hP, hK, hD0⟩ := hv
  have hx := B.exec
  have hb := B.bytes
  have hr := B.returns
  have hts := atoms_spec (ws := wsX0_isLong) B.pre
  have hown : s.vm.findClass RX0 = some m.cls := findClass_of_methodNamed B.named
  have hlocks := B.notSynchronized
  subst hsz
  have hD := hD0.self (sz := s.heap.size)
  generalize hAe : va_A [(h0, .inr (0, [.ref a1, .ref a2, .ref a3, .ref a4, .int (nI n), .int kc, .int lc, .int rn, .int ml, .int lo])), (a1, .inl (cA, 2000, .inl f1)), (a2, .inl (cA, 2000, .inl f2)), (a3, .inl (cA, 2000, .inl f3)), (a4, .inl (cA, 2000, .inl f4))] s.heap.size = A at hD ⊢
  have hA : ∀ q : Nat, s.heap.size ≤ q → A q := fun q h => by rw [← hAe]; exact Or.inr h
  have hS : va_S A s.heap s.heap [] := va_S.rf
  have hP : va_P (dC, dI) vwCl [(h0, .inr (0, [.ref a1, .ref a2, .ref a3, .ref a4, .int (nI n), .int kc, .int lc, .int rn, .int ml, .int lo])), (a1, .inl (cA, 2000, .inl f1)), (a2, .inl (cA, 2000, .inl f2)), (a3, .inl (cA, 2000, .inl f3)), (a4, .inl (cA, 2000, .inl f4))] s.heap := hP
  have hl := lv_entry ([.ref h0, .int p1]) (n := 2) (Nat.le_of_ble_eq_true rfl)
  rw [lg_entry_eq]
  generalize (lg_sl ([.ref h0, .int p1]) ++ List.replicate (2 - (lg_sl ([.ref h0, .int p1])).length) Slot.unset).toArray = ls at hl ⊢
  have hl : lv_has ls 2 [(0, .ref h0), (1, .int p1)] := hl
  refine lv_aload_n hx hb dX0_isLong_0 rfl (lv_at hl 0 rfl) ?_
  refine lv_iload_n hx hb dX0_isLong_1 rfl (lv_at hl 1 rfl) ?_
  refine na_calli (As := [.int p1]) (rest := []) (wc := [(h0, .inr (0, [.ref a1, .ref a2, .ref a3, .ref a4, .int (nI n), .int kc, .int lc, .int rn, .int ml, .int lo])), (a1, .inl (cA, 2000, .inl f1)), (a2, .inl (cA, 2000, .inl f2)), (a3, .inl (cA, 2000, .inl f3)), (a4, .inl (cA, 2000, .inl f4))]) (wr := []) (ci := 0) ⟨hx, hb, hml, hown, hts⟩ (c_isLaid l dC dI cA h0 a1 a2 a3 a4 s.heap.size f1 f2 f3 f4 n kc lc rn ml lo p1) (cwV 1 hts gX0_isLong_X0_isLaid rfl rfl rfl (by decide +kernel) ⟨Nat.le_of_ble_eq_true rfl, Nat.le_of_ble_eq_true rfl⟩) hK hP hD hS hA [0, 1, 2, 3, 4] [] rfl rfl rfl rfl (by decide) rfl rfl 0 rfl rfl hl.1 (Nat.le_of_ble_eq_true rfl) dX0_isLong_2 ⟨Nat.le_of_ble_eq_true rfl, Nat.le_of_ble_eq_true rfl⟩ rfl (fun r u H locs hw hP hD hS => ?_)
  have hP : va_P (dC, dI) vwCl [(h0, .inr (0, [.ref a1, .ref a2, .ref a3, .ref a4, .int (nI n), .int kc, .int lc, .int rn, .int ml, .int lo])), (a1, .inl (cA, 2000, .inl f1)), (a2, .inl (cA, 2000, .inl f2)), (a3, .inl (cA, 2000, .inl f3)), (a4, .inl (cA, 2000, .inl f4))] H := hP
  have hD : va_D A [(h0, .inr (0, [.ref a1, .ref a2, .ref a3, .ref a4, .int (nI n), .int kc, .int lc, .int rn, .int ml, .int lo])), (a1, .inl (cA, 2000, .inl f1)), (a2, .inl (cA, 2000, .inl f2)), (a3, .inl (cA, 2000, .inl f3)), (a4, .inl (cA, 2000, .inl f4))] := hD
  have hw : r = 0 := hw.trans (if_neg (fun z => hp.elim z.1 (fun q => q.elim z.2.1 z.2.2)))
  subst hw
  refine lv_if_eq (tgt := 30) hx hb dX0_isLong_5 (by decide) (fun hc1 => ?_) (fun hc1 => ?_)
  · refine lv_iconst (v := 0) hx hb dX0_isLong_30 (by decide) ?_
    exact W.zret (v := 0) hx hb hr rfl (fun t ht hW => ⟨⟨0, (), rfl, rfl, by rw [ht]; exact hP, va_K.moved hW.alike hK, hD⟩, hS.F ht⟩) hS.2.2 dX0_isLong_31
  · exact absurd rfl hc1
set_option maxHeartbeats 4000000 in
set_option maxRecDepth 100000 in
/-- isLong(k) -/
theorem c_isLong_in (l : Launch) (dC : Nat → ClassId) (dI : Nat → Nat → Nat) (cA : ClassId) (h0 a1 a2 a3 a4 sz : Nat) (f1 f2 f3 f4 : Nat → Int32) (n k : Nat) (kc lc rn ml lo : Int32) (hk : k < n) (hn : n ≤ 2000) (hlo : ¬ lo = 0) : na_Mi (S := Unit) l yX0_isLong wsX0_isLong ({ frames := 2, cells := 0, slots := 0, locals := 42 }) (dC, dI) vwCl [(cA, .int)] sz [.ref h0, .int (nI k)] [(h0, .inr (0, [.ref a1, .ref a2, .ref a3, .ref a4, .int (nI n), .int kc, .int lc, .int rn, .int ml, .int lo])), (a1, .inl (cA, 2000, .inl f1)), (a2, .inl (cA, 2000, .inl f2)), (a3, .inl (cA, 2000, .inl f3)), (a4, .inl (cA, 2000, .inl f4))] (fun r _ => r = if (¬ f2 k = -1 ∧ f1 k = 2) then 1 else 0) (fun _ => [(h0, .inr (0, [.ref a1, .ref a2, .ref a3, .ref a4, .int (nI n), .int kc, .int lc, .int rn, .int ml, .int lo])), (a1, .inl (cA, 2000, .inl f1)), (a2, .inl (cA, 2000, .inl f2)), (a3, .inl (cA, 2000, .inl f3)), (a4, .inl (cA, 2000, .inl f4))]) := by
  refine Met.ofW (cc := cX0_isLong) (maxL := 2) (ret := (some .boolean)) (by decide) rfl ?_
  intro p e s m args below meth c s₁ B hml hv
  obtain ⟨rfl, hsz, hP, hK, hD0⟩ := hv
  have hx := B.exec
  have hb := B.bytes
  have hr := B.returns
  have hts := atoms_spec (ws := wsX0_isLong) B.pre
  have hown : s.vm.findClass RX0 = some m.cls := findClass_of_methodNamed B.named
  have hlocks := B.notSynchronized
  subst hsz
  have hD := hD0.self (sz := s.heap.size)
  generalize hAe : va_A [(h0, .inr (0, [.ref a1, .ref a2, .ref a3, .ref a4, .int (nI n), .int kc, .int lc, .int rn, .int ml, .int lo])), (a1, .inl (cA, 2000, .inl f1)), (a2, .inl (cA, 2000, .inl f2)), (a3, .inl (cA, 2000, .inl f3)), (a4, .inl (cA, 2000, .inl f4))] s.heap.size = A at hD ⊢
  have hA : ∀ q : Nat, s.heap.size ≤ q → A q := fun q h => by rw [← hAe]; exact Or.inr h
  have hS : va_S A s.heap s.heap [] := va_S.rf
  have hP : va_P (dC, dI) vwCl [(h0, .inr (0, [.ref a1, .ref a2, .ref a3, .ref a4, .int (nI n), .int kc, .int lc, .int rn, .int ml, .int lo])), (a1, .inl (cA, 2000, .inl f1)), (a2, .inl (cA, 2000, .inl f2)), (a3, .inl (cA, 2000, .inl f3)), (a4, .inl (cA, 2000, .inl f4))] s.heap := hP
  have hl := lv_entry ([.ref h0, .int (nI k)]) (n := 2) (Nat.le_of_ble_eq_true rfl)
  rw [lg_entry_eq]
  generalize (lg_sl ([.ref h0, .int (nI k)]) ++ List.replicate (2 - (lg_sl ([.ref h0, .int (nI k)])).length) Slot.unset).toArray = ls at hl ⊢
  have hl : lv_has ls 2 [(0, .ref h0), (1, .int (nI k))] := hl
  refine lv_aload_n hx hb dX0_isLong_0 rfl (lv_at hl 0 rfl) ?_
  refine lv_iload_n hx hb dX0_isLong_1 rfl (lv_at hl 1 rfl) ?_
  refine na_calli (As := [.int (nI k)]) (rest := []) (wc := [(h0, .inr (0, [.ref a1, .ref a2, .ref a3, .ref a4, .int (nI n), .int kc, .int lc, .int rn, .int ml, .int lo])), (a1, .inl (cA, 2000, .inl f1)), (a2, .inl (cA, 2000, .inl f2)), (a3, .inl (cA, 2000, .inl f3)), (a4, .inl (cA, 2000, .inl f4))]) (wr := []) (ci := 0) ⟨hx, hb, hml, hown, hts⟩ (c_isLaid l dC dI cA h0 a1 a2 a3 a4 s.heap.size f1 f2 f3 f4 n kc lc rn ml lo (nI k)) (cwV 1 hts gX0_isLong_X0_isLaid rfl rfl rfl (by decide +kernel) ⟨Nat.le_of_ble_eq_true rfl, Nat.le_of_ble_eq_true rfl⟩) hK hP hD hS hA [0, 1, 2, 3, 4] [] rfl rfl rfl rfl (by decide) rfl rfl 0 rfl rfl hl.1 (Nat.le_of_ble_eq_true rfl) dX0_isLong_2 ⟨Nat.le_of_ble_eq_true rfl, Nat.le_of_ble_eq_true rfl⟩ rfl (fun r u H locs hw hP hD hS => ?_)
  have hP : va_P (dC, dI) vwCl [(h0, .inr (0, [.ref a1, .ref a2, .ref a3, .ref a4, .int (nI n), .int kc, .int lc, .int rn, .int ml, .int lo])), (a1, .inl (cA, 2000, .inl f1)), (a2, .inl (cA, 2000, .inl f2)), (a3, .inl (cA, 2000, .inl f3)), (a4, .inl (cA, 2000, .inl f4))] H := hP
  have hD : va_D A [(h0, .inr (0, [.ref a1, .ref a2, .ref a3, .ref a4, .int (nI n), .int kc, .int lc, .int rn, .int ml, .int lo])), (a1, .inl (cA, 2000, .inl f1)), (a2, .inl (cA, 2000, .inl f2)), (a3, .inl (cA, 2000, .inl f3)), (a4, .inl (cA, 2000, .inl f4))] := hD
  have hw : r = 1 := hw.trans (if_pos ⟨hlo, nI_pos (by omega), nI_ge hk (by omega)⟩)
  subst hw
  refine lv_if_eq (tgt := 30) hx hb dX0_isLong_5 (by decide) (fun hc1 => ?_) (fun hc1 => ?_)
  · exact absurd hc1 (by decide)
  · refine lv_aload_n hx hb dX0_isLong_8 rfl (lv_at hl 0 rfl) ?_
    refine lv_iload_n hx hb dX0_isLong_9 rfl (lv_at hl 1 rfl) ?_
    refine na_calli (As := [.int (nI k)]) (rest := []) (wc := [(h0, .inr (0, [.ref a1, .ref a2, .ref a3, .ref a4, .int (nI n), .int kc, .int lc, .int rn, .int ml, .int lo])), (a1, .inl (cA, 2000, .inl f1)), (a2, .inl (cA, 2000, .inl f2)), (a3, .inl (cA, 2000, .inl f3)), (a4, .inl (cA, 2000, .inl f4))]) (wr := []) (ci := 0) ⟨hx, hb, hml, hown, hts⟩ (c_isBranch l dC dI cA h0 a1 a2 a3 a4 H.size f1 f2 f3 f4 n k kc lc rn ml lo (by omega)) (cwV 1 hts gX0_isLong_X0_isBranch rfl rfl rfl (by decide +kernel) ⟨Nat.le_of_ble_eq_true rfl, Nat.le_of_ble_eq_true rfl⟩) hK hP hD hS hA [0, 1, 2, 3, 4] [] rfl rfl rfl rfl (by decide) rfl rfl 0 rfl rfl hl.1 (Nat.le_of_ble_eq_true rfl) dX0_isLong_10 ⟨Nat.le_of_ble_eq_true rfl, Nat.le_of_ble_eq_true rfl⟩ rfl (fun r u H locs hw hP hD hS => ?_)
    have hP : va_P (dC, dI) vwCl [(h0, .inr (0, [.ref a1, .ref a2, .ref a3, .ref a4, .int (nI n), .int kc, .int lc, .int rn, .int ml, .int lo])), (a1, .inl (cA, 2000, .inl f1)), (a2, .inl (cA, 2000, .inl f2)), (a3, .inl (cA, 2000, .inl f3)), (a4, .inl (cA, 2000, .inl f4))] H := hP
    have hD : va_D A [(h0, .inr (0, [.ref a1, .ref a2, .ref a3, .ref a4, .int (nI n), .int kc, .int lc, .int rn, .int ml, .int lo])), (a1, .inl (cA, 2000, .inl f1)), (a2, .inl (cA, 2000, .inl f2)), (a3, .inl (cA, 2000, .inl f3)), (a4, .inl (cA, 2000, .inl f4))] := hD
    subst hw
    refine lv_if_eq (tgt := 30) hx hb dX0_isLong_13 (by decide) (fun hc2 => ?_) (fun hc2 => ?_)
    · have hb2 : f2 k = -1 := by
        by_cases q : f2 k = -1
        · exact q
        · rw [if_neg q] at hc2; exact absurd hc2 (by decide)
      refine lv_iconst (v := 0) hx hb dX0_isLong_30 (by decide) ?_
      exact W.zret (v := 0) hx hb hr rfl (fun t ht hW => ⟨⟨0, (), rfl, (if_neg (fun z => z.1 hb2)).symm, by rw [ht]; exact hP, va_K.moved hW.alike hK, hD⟩, hS.F ht⟩) hS.2.2 dX0_isLong_31
    · have hb2 : ¬ f2 k = -1 := fun q => hc2 (if_pos q)
      refine lv_aload_n hx hb dX0_isLong_16 rfl (lv_at hl 0 rfl) ?_
      refine va_get (D := (dC, dI)) (ci := 0) (v := .ref a1) (C := RX0) (T := TX0) (N := 10) hx hb hts in_X0_isLong hown hK hP 0 rfl rfl 0 (by decide) (hts (.fieldLink RX0 9 "BranchLengths" "words" "[I") (by decide +kernel)) (fun _ h9 => h9) rfl dX0_isLong_17 ?_
      refine lv_iload_n hx hb dX0_isLong_20 rfl (lv_at hl 1 rfl) ?_
      refine na_iald (k := k) hx hb hK hP 1 0 rfl rfl (by omega) (by decide) dX0_isLong_21 ?_
      refine lv_iconst (v := 2) hx hb dX0_isLong_22 (by decide) ?_
      refine lv_icmp_ne (tgt := 30) hx hb dX0_isLong_23 (by decide) (fun hc3 => ?_) (fun hc3 => ?_)
      · refine lv_iconst (v := 0) hx hb dX0_isLong_30 (by decide) ?_
        exact W.zret (v := 0) hx hb hr rfl (fun t ht hW => ⟨⟨0, (), rfl, (if_neg (fun z => hc3 z.2)).symm, by rw [ht]; exact hP, va_K.moved hW.alike hK, hD⟩, hS.F ht⟩) hS.2.2 dX0_isLong_31
      · refine lv_iconst (v := 1) hx hb dX0_isLong_26 (by decide) ?_
        refine lv_goto (tgt := 31) hx hb dX0_isLong_27 (by decide) ?_
        exact W.zret (v := 1) hx hb hr rfl (fun t ht hW => ⟨⟨1, (), rfl, (if_pos ⟨hb2, hc3⟩).symm, by rw [ht]; exact hP, va_K.moved hW.alike hK, hD⟩, hS.F ht⟩) hS.2.2 dX0_isLong_31
end
section
theorem na_zero_I {cA : ClassId} {N : Nat} : vp_cell cA (N, .inl (fun _ => 0)) = arrV cA N (fun _ => defaultValue .int) := by
  rw [vp_cell_i]
  rfl
theorem na_zero_Z {cA : ClassId} {N : Nat} : vp_cell cA (N, .inl (fun _ => 0)) = arrV cA N (fun _ => defaultValue .boolean) := by
  rw [vp_cell_i]
  rfl
set_option maxHeartbeats 4000000 in
set_option maxRecDepth 100000 in
/-- BranchLengths() -/
theorem c_xinit (l : Launch) (dC : Nat → ClassId) (dI : Nat → Nat → Nat) (h0 sz : Nat) : Met l yX0_init wsX0_init ({ frames := 1, cells := 4, slots := 8000, locals := 12 }) (va_Pc [.ref h0] (na_Pre (dC, dI) vwCl sz [(h0, .inr (0, [.null, .null, .null, .null, .int 0, .int 0, .int 0, .int 0, .int 0, .int 0]))] [])) (va_Qv (fun (_ : Unit) => True) (fun _ t => ∃ (a1 a2 a3 a4 : Nat) (cA : ClassId), na_End (dC, dI) vwCl (va_A [(h0, .inr (0, [.null, .null, .null, .null, .int 0, .int 0, .int 0, .int 0, .int 0, .int 0]))] sz) [(h0, .inr (0, [.ref a1, .ref a2, .ref a3, .ref a4, .int (nI 0), .int (nI 0), .int 0, .int (nI 1000), .int (-1), .int 0])), (a1, .inl (cA, 2000, .inl (fun _ => 0))), (a2, .inl (cA, 2000, .inl (fun _ => 0))), (a3, .inl (cA, 2000, .inl (fun _ => 0))), (a4, .inl (cA, 2000, .inl (fun _ => 0)))] [(cA, .int)] t) (va_A [(h0, .inr (0, [.null, .null, .null, .null, .int 0, .int 0, .int 0, .int 0, .int 0, .int 0]))] sz)) 4 8000 (va_A [(h0, .inr (0, [.null, .null, .null, .null, .int 0, .int 0, .int 0, .int 0, .int 0, .int 0]))] sz) := by
  refine Met.ofW (cc := cX0_init) (maxL := 1) (ret := none) (by decide) rfl ?_
  intro p e s m args below meth c s₁ B hml hv
  obtain ⟨rfl, hsz, hP, hK, hD0⟩ := hv
  have hx := B.exec
  have hb := B.bytes
  have hr := B.returns
  have hts := atoms_spec (ws := wsX0_init) B.pre
  have hown : s.vm.findClass RX0 = some m.cls := findClass_of_methodNamed B.named
  have hlocks := B.notSynchronized
  have hin : meth.name = "<init>" := (name_of_methodNamed B.named B.method).1
  subst hsz
  have hD := hD0.self (sz := s.heap.size)
  generalize hAe : va_A [(h0, .inr (0, [.null, .null, .null, .null, .int 0, .int 0, .int 0, .int 0, .int 0, .int 0]))] s.heap.size = A at hD ⊢
  have hA : ∀ q : Nat, s.heap.size ≤ q → A q := fun q h => by rw [← hAe]; exact Or.inr h
  have hS : va_S A s.heap s.heap [] := va_S.rf
  have hP : va_P (dC, dI) vwCl [(h0, .inr (0, [.null, .null, .null, .null, .int 0, .int 0, .int 0, .int 0, .int 0, .int 0]))] s.heap := hP
  have hl := lv_entry ([.ref h0]) (n := 1) (Nat.le_of_ble_eq_true rfl)
  rw [lg_entry_eq]
  generalize (lg_sl ([.ref h0]) ++ List.replicate (1 - (lg_sl ([.ref h0])).length) Slot.unset).toArray = ls at hl ⊢
  have hl : lv_has ls 1 [(0, .ref h0)] := hl
  refine lv_aload_n hx hb dX0_init_0 rfl (lv_at hl 0 rfl) ?_
  refine W.objInit hx hb hown (hts (.methodLink RX0 1 objectInit) (by decide +kernel)) (hts (.instanceMethod objectInit) (by decide +kernel)) (hts _ (List.mem_cons_of_mem _ (List.mem_append_left _ (List.mem_of_getElem? (i := 2) rfl)))) rfl (by rw [hml]; exact hl.1) rfl dX0_init_1 (Nat.le_of_ble_eq_true rfl) (Nat.le_of_ble_eq_true rfl) ?_
  refine W.eq (g2 := F0 m 4 ls []) rfl ?_
  refine lv_aload_n hx hb dX0_init_4 rfl (lv_at hl 0 rfl) ?_
  refine lv_sipush (v := 2000) hx hb dX0_init_5 (by decide) ?_
  refine va_newa (atype := .int) (n := 2000) (ty := .int) (N' := 2000) (a0 := (2000, .inl (fun _ => 0))) hx hb (hts (.arrayClass .int) (by decide +kernel)) rfl hK hP hD hS hA (fun _ => na_zero_I) (by decide) (by decide) (by decide) (show 0 + 1 ≤ 4 by omega) (show 0 + 2000 ≤ 8000 by omega) dX0_init_8 (fun a1 c_a1 H hK hP hD hS => ?_)
  have hP : va_P (dC, dI) vwCl [(h0, .inr (0, [.null, .null, .null, .null, .int 0, .int 0, .int 0, .int 0, .int 0, .int 0])), (a1, .inl (c_a1, 2000, .inl (fun _ => 0)))] H := hP
  have hD : va_D A [(h0, .inr (0, [.null, .null, .null, .null, .int 0, .int 0, .int 0, .int 0, .int 0, .int 0])), (a1, .inl (c_a1, 2000, .inl (fun _ => 0)))] := hD
  have hK : va_K (dC, dI) vwCl [(c_a1, .int)] s := hK
  refine W.widen (k := 1) (n := 2000) (by omega) (by omega) ?_
  refine va_putF (D := (dC, dI)) (ci := 0) (v := .ref a1) (ty := .array .int) (C := RX0) (T := TX0) (N := 10) hx hb hts in_X0_init tyX0 tyX0_ok nmX0 hown hK hP hD hS 0 rfl rfl 0 (by decide) (hts (.fieldLink RX0 9 "BranchLengths" "words" "[I") (by decide +kernel)) (fun _ h9 => h9) rfl hin rfl (by decide +kernel) rfl rfl (Nat.le_of_ble_eq_true rfl) dX0_init_10 (fun H locs hP hD hS => ?_)
  have hP : va_P (dC, dI) vwCl [(h0, .inr (0, [.ref a1, .null, .null, .null, .int 0, .int 0, .int 0, .int 0, .int 0, .int 0])), (a1, .inl (c_a1, 2000, .inl (fun _ => 0)))] H := hP
  have hD : va_D A [(h0, .inr (0, [.ref a1, .null, .null, .null, .int 0, .int 0, .int 0, .int 0, .int 0, .int 0])), (a1, .inl (c_a1, 2000, .inl (fun _ => 0)))] := hD
  refine lv_aload_n hx hb dX0_init_13 rfl (lv_at hl 0 rfl) ?_
  refine lv_sipush (v := 2000) hx hb dX0_init_14 (by decide) ?_
  refine va_newa (atype := .int) (n := 2000) (ty := .int) (N' := 2000) (a0 := (2000, .inl (fun _ => 0))) hx hb (hts (.arrayClass .int) (by decide +kernel)) rfl hK hP hD hS hA (fun _ => na_zero_I) (by decide) (by decide) (by decide) (show 1 + 1 ≤ 4 by omega) (show 2000 + 2000 ≤ 8000 by omega) dX0_init_17 (fun a2 c_a2 H hK hP hD hS => ?_)
  have hP : va_P (dC, dI) vwCl [(h0, .inr (0, [.ref a1, .null, .null, .null, .int 0, .int 0, .int 0, .int 0, .int 0, .int 0])), (a1, .inl (c_a1, 2000, .inl (fun _ => 0))), (a2, .inl (c_a2, 2000, .inl (fun _ => 0)))] H := hP
  have hD : va_D A [(h0, .inr (0, [.ref a1, .null, .null, .null, .int 0, .int 0, .int 0, .int 0, .int 0, .int 0])), (a1, .inl (c_a1, 2000, .inl (fun _ => 0))), (a2, .inl (c_a2, 2000, .inl (fun _ => 0)))] := hD
  have hK : va_K (dC, dI) vwCl [(c_a1, .int), (c_a2, .int)] s := hK
  refine W.widen (k := 2) (n := 4000) (by omega) (by omega) ?_
  refine va_putF (D := (dC, dI)) (ci := 0) (v := .ref a2) (ty := .array .int) (C := RX0) (T := TX0) (N := 10) hx hb hts in_X0_init tyX0 tyX0_ok nmX0 hown hK hP hD hS 0 rfl rfl 1 (by decide) (hts (.fieldLink RX0 13 "BranchLengths" "targets" "[I") (by decide +kernel)) (fun _ h9 => h9) rfl hin rfl (by decide +kernel) rfl rfl (Nat.le_of_ble_eq_true rfl) dX0_init_19 (fun H locs hP hD hS => ?_)
  have hP : va_P (dC, dI) vwCl [(h0, .inr (0, [.ref a1, .ref a2, .null, .null, .int 0, .int 0, .int 0, .int 0, .int 0, .int 0])), (a1, .inl (c_a1, 2000, .inl (fun _ => 0))), (a2, .inl (c_a2, 2000, .inl (fun _ => 0)))] H := hP
  have hD : va_D A [(h0, .inr (0, [.ref a1, .ref a2, .null, .null, .int 0, .int 0, .int 0, .int 0, .int 0, .int 0])), (a1, .inl (c_a1, 2000, .inl (fun _ => 0))), (a2, .inl (c_a2, 2000, .inl (fun _ => 0)))] := hD
  refine lv_aload_n hx hb dX0_init_22 rfl (lv_at hl 0 rfl) ?_
  refine lv_sipush (v := 2000) hx hb dX0_init_23 (by decide) ?_
  refine va_newa (atype := .int) (n := 2000) (ty := .int) (N' := 2000) (a0 := (2000, .inl (fun _ => 0))) hx hb (hts (.arrayClass .int) (by decide +kernel)) rfl hK hP hD hS hA (fun _ => na_zero_I) (by decide) (by decide) (by decide) (show 2 + 1 ≤ 4 by omega) (show 4000 + 2000 ≤ 8000 by omega) dX0_init_26 (fun a3 c_a3 H hK hP hD hS => ?_)
  have hP : va_P (dC, dI) vwCl [(h0, .inr (0, [.ref a1, .ref a2, .null, .null, .int 0, .int 0, .int 0, .int 0, .int 0, .int 0])), (a1, .inl (c_a1, 2000, .inl (fun _ => 0))), (a2, .inl (c_a2, 2000, .inl (fun _ => 0))), (a3, .inl (c_a3, 2000, .inl (fun _ => 0)))] H := hP
  have hD : va_D A [(h0, .inr (0, [.ref a1, .ref a2, .null, .null, .int 0, .int 0, .int 0, .int 0, .int 0, .int 0])), (a1, .inl (c_a1, 2000, .inl (fun _ => 0))), (a2, .inl (c_a2, 2000, .inl (fun _ => 0))), (a3, .inl (c_a3, 2000, .inl (fun _ => 0)))] := hD
  have hK : va_K (dC, dI) vwCl [(c_a1, .int), (c_a2, .int), (c_a3, .int)] s := hK
  refine W.widen (k := 3) (n := 6000) (by omega) (by omega) ?_
  refine va_putF (D := (dC, dI)) (ci := 0) (v := .ref a3) (ty := .array .int) (C := RX0) (T := TX0) (N := 10) hx hb hts in_X0_init tyX0 tyX0_ok nmX0 hown hK hP hD hS 0 rfl rfl 2 (by decide) (hts (.fieldLink RX0 16 "BranchLengths" "places" "[I") (by decide +kernel)) (fun _ h9 => h9) rfl hin rfl (by decide +kernel) rfl rfl (Nat.le_of_ble_eq_true rfl) dX0_init_28 (fun H locs hP hD hS => ?_)
  have hP : va_P (dC, dI) vwCl [(h0, .inr (0, [.ref a1, .ref a2, .ref a3, .null, .int 0, .int 0, .int 0, .int 0, .int 0, .int 0])), (a1, .inl (c_a1, 2000, .inl (fun _ => 0))), (a2, .inl (c_a2, 2000, .inl (fun _ => 0))), (a3, .inl (c_a3, 2000, .inl (fun _ => 0)))] H := hP
  have hD : va_D A [(h0, .inr (0, [.ref a1, .ref a2, .ref a3, .null, .int 0, .int 0, .int 0, .int 0, .int 0, .int 0])), (a1, .inl (c_a1, 2000, .inl (fun _ => 0))), (a2, .inl (c_a2, 2000, .inl (fun _ => 0))), (a3, .inl (c_a3, 2000, .inl (fun _ => 0)))] := hD
  refine lv_aload_n hx hb dX0_init_31 rfl (lv_at hl 0 rfl) ?_
  refine lv_sipush (v := 2000) hx hb dX0_init_32 (by decide) ?_
  refine va_newa (atype := .int) (n := 2000) (ty := .int) (N' := 2000) (a0 := (2000, .inl (fun _ => 0))) hx hb (hts (.arrayClass .int) (by decide +kernel)) rfl hK hP hD hS hA (fun _ => na_zero_I) (by decide) (by decide) (by decide) (show 3 + 1 ≤ 4 by omega) (show 6000 + 2000 ≤ 8000 by omega) dX0_init_35 (fun a4 c_a4 H hK hP hD hS => ?_)
  have hP : va_P (dC, dI) vwCl [(h0, .inr (0, [.ref a1, .ref a2, .ref a3, .null, .int 0, .int 0, .int 0, .int 0, .int 0, .int 0])), (a1, .inl (c_a1, 2000, .inl (fun _ => 0))), (a2, .inl (c_a2, 2000, .inl (fun _ => 0))), (a3, .inl (c_a3, 2000, .inl (fun _ => 0))), (a4, .inl (c_a4, 2000, .inl (fun _ => 0)))] H := hP
  have hD : va_D A [(h0, .inr (0, [.ref a1, .ref a2, .ref a3, .null, .int 0, .int 0, .int 0, .int 0, .int 0, .int 0])), (a1, .inl (c_a1, 2000, .inl (fun _ => 0))), (a2, .inl (c_a2, 2000, .inl (fun _ => 0))), (a3, .inl (c_a3, 2000, .inl (fun _ => 0))), (a4, .inl (c_a4, 2000, .inl (fun _ => 0)))] := hD
  have hK : va_K (dC, dI) vwCl [(c_a1, .int), (c_a2, .int), (c_a3, .int), (c_a4, .int)] s := hK
  refine W.widen (k := 4) (n := 8000) (by omega) (by omega) ?_
  refine va_putF (D := (dC, dI)) (ci := 0) (v := .ref a4) (ty := .array .int) (C := RX0) (T := TX0) (N := 10) hx hb hts in_X0_init tyX0 tyX0_ok nmX0 hown hK hP hD hS 0 rfl rfl 3 (by decide) (hts (.fieldLink RX0 19 "BranchLengths" "markItems" "[I") (by decide +kernel)) (fun _ h9 => h9) rfl hin rfl (by decide +kernel) rfl rfl (Nat.le_of_ble_eq_true rfl) dX0_init_37 (fun H locs hP hD hS => ?_)
  have hP : va_P (dC, dI) vwCl [(h0, .inr (0, [.ref a1, .ref a2, .ref a3, .ref a4, .int 0, .int 0, .int 0, .int 0, .int 0, .int 0])), (a1, .inl (c_a1, 2000, .inl (fun _ => 0))), (a2, .inl (c_a2, 2000, .inl (fun _ => 0))), (a3, .inl (c_a3, 2000, .inl (fun _ => 0))), (a4, .inl (c_a4, 2000, .inl (fun _ => 0)))] H := hP
  have hD : va_D A [(h0, .inr (0, [.ref a1, .ref a2, .ref a3, .ref a4, .int 0, .int 0, .int 0, .int 0, .int 0, .int 0])), (a1, .inl (c_a1, 2000, .inl (fun _ => 0))), (a2, .inl (c_a2, 2000, .inl (fun _ => 0))), (a3, .inl (c_a3, 2000, .inl (fun _ => 0))), (a4, .inl (c_a4, 2000, .inl (fun _ => 0)))] := hD
  refine lv_aload_n hx hb dX0_init_40 rfl (lv_at hl 0 rfl) ?_
  refine lv_iconst (v := nI 0) hx hb dX0_init_41 rfl ?_
  refine va_put (D := (dC, dI)) (ci := 0) (v := .int (nI 0)) (ty := .int) (C := RX0) (T := TX0) (N := 10) hx hb hts in_X0_init tyX0 tyX0_ok nmX0 hown hK hP hD hS 0 rfl rfl 4 (by decide) (hts (.fieldLink RX0 22 "BranchLengths" "itemCount" "I") (by decide +kernel)) (fun _ h9 => h9) rfl (by decide +kernel) rfl rfl (Nat.le_of_ble_eq_true rfl) dX0_init_42 (fun H locs hP hD hS => ?_)
  have hP : va_P (dC, dI) vwCl [(h0, .inr (0, [.ref a1, .ref a2, .ref a3, .ref a4, .int (nI 0), .int 0, .int 0, .int 0, .int 0, .int 0])), (a1, .inl (c_a1, 2000, .inl (fun _ => 0))), (a2, .inl (c_a2, 2000, .inl (fun _ => 0))), (a3, .inl (c_a3, 2000, .inl (fun _ => 0))), (a4, .inl (c_a4, 2000, .inl (fun _ => 0)))] H := hP
  have hD : va_D A [(h0, .inr (0, [.ref a1, .ref a2, .ref a3, .ref a4, .int (nI 0), .int 0, .int 0, .int 0, .int 0, .int 0])), (a1, .inl (c_a1, 2000, .inl (fun _ => 0))), (a2, .inl (c_a2, 2000, .inl (fun _ => 0))), (a3, .inl (c_a3, 2000, .inl (fun _ => 0))), (a4, .inl (c_a4, 2000, .inl (fun _ => 0)))] := hD
  refine lv_aload_n hx hb dX0_init_45 rfl (lv_at hl 0 rfl) ?_
  refine lv_iconst (v := nI 0) hx hb dX0_init_46 rfl ?_
  refine va_put (D := (dC, dI)) (ci := 0) (v := .int (nI 0)) (ty := .int) (C := RX0) (T := TX0) (N := 10) hx hb hts in_X0_init tyX0 tyX0_ok nmX0 hown hK hP hD hS 0 rfl rfl 5 (by decide) (hts (.fieldLink RX0 26 "BranchLengths" "markCount" "I") (by decide +kernel)) (fun _ h9 => h9) rfl (by decide +kernel) rfl rfl (Nat.le_of_ble_eq_true rfl) dX0_init_47 (fun H locs hP hD hS => ?_)
  have hP : va_P (dC, dI) vwCl [(h0, .inr (0, [.ref a1, .ref a2, .ref a3, .ref a4, .int (nI 0), .int (nI 0), .int 0, .int 0, .int 0, .int 0])), (a1, .inl (c_a1, 2000, .inl (fun _ => 0))), (a2, .inl (c_a2, 2000, .inl (fun _ => 0))), (a3, .inl (c_a3, 2000, .inl (fun _ => 0))), (a4, .inl (c_a4, 2000, .inl (fun _ => 0)))] H := hP
  have hD : va_D A [(h0, .inr (0, [.ref a1, .ref a2, .ref a3, .ref a4, .int (nI 0), .int (nI 0), .int 0, .int 0, .int 0, .int 0])), (a1, .inl (c_a1, 2000, .inl (fun _ => 0))), (a2, .inl (c_a2, 2000, .inl (fun _ => 0))), (a3, .inl (c_a3, 2000, .inl (fun _ => 0))), (a4, .inl (c_a4, 2000, .inl (fun _ => 0)))] := hD
  refine lv_aload_n hx hb dX0_init_50 rfl (lv_at hl 0 rfl) ?_
  refine lv_iconst (v := 0) hx hb dX0_init_51 (by decide) ?_
  refine va_put (D := (dC, dI)) (ci := 0) (v := .int 0) (ty := .int) (C := RX0) (T := TX0) (N := 10) hx hb hts in_X0_init tyX0 tyX0_ok nmX0 hown hK hP hD hS 0 rfl rfl 6 (by decide) (hts (.fieldLink RX0 29 "BranchLengths" "longCount" "I") (by decide +kernel)) (fun _ h9 => h9) rfl (by decide +kernel) rfl rfl (Nat.le_of_ble_eq_true rfl) dX0_init_52 (fun H locs hP hD hS => ?_)
  have hP : va_P (dC, dI) vwCl [(h0, .inr (0, [.ref a1, .ref a2, .ref a3, .ref a4, .int (nI 0), .int (nI 0), .int 0, .int 0, .int 0, .int 0])), (a1, .inl (c_a1, 2000, .inl (fun _ => 0))), (a2, .inl (c_a2, 2000, .inl (fun _ => 0))), (a3, .inl (c_a3, 2000, .inl (fun _ => 0))), (a4, .inl (c_a4, 2000, .inl (fun _ => 0)))] H := hP
  have hD : va_D A [(h0, .inr (0, [.ref a1, .ref a2, .ref a3, .ref a4, .int (nI 0), .int (nI 0), .int 0, .int 0, .int 0, .int 0])), (a1, .inl (c_a1, 2000, .inl (fun _ => 0))), (a2, .inl (c_a2, 2000, .inl (fun _ => 0))), (a3, .inl (c_a3, 2000, .inl (fun _ => 0))), (a4, .inl (c_a4, 2000, .inl (fun _ => 0)))] := hD
  refine lv_aload_n hx hb dX0_init_55 rfl (lv_at hl 0 rfl) ?_
  refine lv_sipush (v := nI 1000) hx hb dX0_init_56 (by decide) ?_
  refine va_put (D := (dC, dI)) (ci := 0) (v := .int (nI 1000)) (ty := .int) (C := RX0) (T := TX0) (N := 10) hx hb hts in_X0_init tyX0 tyX0_ok nmX0 hown hK hP hD hS 0 rfl rfl 7 (by decide) (hts (.fieldLink RX0 32 "BranchLengths" "reachNow" "I") (by decide +kernel)) (fun _ h9 => h9) rfl (by decide +kernel) rfl rfl (Nat.le_of_ble_eq_true rfl) dX0_init_59 (fun H locs hP hD hS => ?_)
  have hP : va_P (dC, dI) vwCl [(h0, .inr (0, [.ref a1, .ref a2, .ref a3, .ref a4, .int (nI 0), .int (nI 0), .int 0, .int (nI 1000), .int 0, .int 0])), (a1, .inl (c_a1, 2000, .inl (fun _ => 0))), (a2, .inl (c_a2, 2000, .inl (fun _ => 0))), (a3, .inl (c_a3, 2000, .inl (fun _ => 0))), (a4, .inl (c_a4, 2000, .inl (fun _ => 0)))] H := hP
  have hD : va_D A [(h0, .inr (0, [.ref a1, .ref a2, .ref a3, .ref a4, .int (nI 0), .int (nI 0), .int 0, .int (nI 1000), .int 0, .int 0])), (a1, .inl (c_a1, 2000, .inl (fun _ => 0))), (a2, .inl (c_a2, 2000, .inl (fun _ => 0))), (a3, .inl (c_a3, 2000, .inl (fun _ => 0))), (a4, .inl (c_a4, 2000, .inl (fun _ => 0)))] := hD
  refine lv_aload_n hx hb dX0_init_62 rfl (lv_at hl 0 rfl) ?_
  refine lv_iconst (v := -1) hx hb dX0_init_63 (by decide) ?_
  refine va_put (D := (dC, dI)) (ci := 0) (v := .int (-1)) (ty := .int) (C := RX0) (T := TX0) (N := 10) hx hb hts in_X0_init tyX0 tyX0_ok nmX0 hown hK hP hD hS 0 rfl rfl 8 (by decide) (hts (.fieldLink RX0 35 "BranchLengths" "markless" "I") (by decide +kernel)) (fun _ h9 => h9) rfl (by decide +kernel) rfl rfl (Nat.le_of_ble_eq_true rfl) dX0_init_64 (fun H locs hP hD hS => ?_)
  have hP : va_P (dC, dI) vwCl [(h0, .inr (0, [.ref a1, .ref a2, .ref a3, .ref a4, .int (nI 0), .int (nI 0), .int 0, .int (nI 1000), .int (-1), .int 0])), (a1, .inl (c_a1, 2000, .inl (fun _ => 0))), (a2, .inl (c_a2, 2000, .inl (fun _ => 0))), (a3, .inl (c_a3, 2000, .inl (fun _ => 0))), (a4, .inl (c_a4, 2000, .inl (fun _ => 0)))] H := hP
  have hD : va_D A [(h0, .inr (0, [.ref a1, .ref a2, .ref a3, .ref a4, .int (nI 0), .int (nI 0), .int 0, .int (nI 1000), .int (-1), .int 0])), (a1, .inl (c_a1, 2000, .inl (fun _ => 0))), (a2, .inl (c_a2, 2000, .inl (fun _ => 0))), (a3, .inl (c_a3, 2000, .inl (fun _ => 0))), (a4, .inl (c_a4, 2000, .inl (fun _ => 0)))] := hD
  refine lv_aload_n hx hb dX0_init_67 rfl (lv_at hl 0 rfl) ?_
  refine lv_iconst (v := 0) hx hb dX0_init_68 (by decide) ?_
  refine va_put (D := (dC, dI)) (ci := 0) (v := .int 0) (ty := .boolean) (C := RX0) (T := TX0) (N := 10) hx hb hts in_X0_init tyX0 tyX0_ok nmX0 hown hK hP hD hS 0 rfl rfl 9 (by decide) (hts (.fieldLink RX0 38 "BranchLengths" "laidOut" "Z") (by decide +kernel)) (fun _ h9 => h9) rfl (by decide +kernel) rfl rfl (Nat.le_of_ble_eq_true rfl) dX0_init_69 (fun H locs hP hD hS => ?_)
  have hP : va_P (dC, dI) vwCl [(h0, .inr (0, [.ref a1, .ref a2, .ref a3, .ref a4, .int (nI 0), .int (nI 0), .int 0, .int (nI 1000), .int (-1), .int 0])), (a1, .inl (c_a1, 2000, .inl (fun _ => 0))), (a2, .inl (c_a2, 2000, .inl (fun _ => 0))), (a3, .inl (c_a3, 2000, .inl (fun _ => 0))), (a4, .inl (c_a4, 2000, .inl (fun _ => 0)))] H := hP
  have hD : va_D A [(h0, .inr (0, [.ref a1, .ref a2, .ref a3, .ref a4, .int (nI 0), .int (nI 0), .int 0, .int (nI 1000), .int (-1), .int 0])), (a1, .inl (c_a1, 2000, .inl (fun _ => 0))), (a2, .inl (c_a2, 2000, .inl (fun _ => 0))), (a3, .inl (c_a3, 2000, .inl (fun _ => 0))), (a4, .inl (c_a4, 2000, .inl (fun _ => 0)))] := hD
  have hu1 : c_a1 = c_a2 := na_same_int hK (i := 0) (j := 1) rfl rfl
  subst hu1
  have hu2 : c_a1 = c_a3 := na_same_int hK (i := 0) (j := 2) rfl rfl
  subst hu2
  have hu3 : c_a1 = c_a4 := na_same_int hK (i := 0) (j := 3) rfl rfl
  subst hu3
  have hK9 := hK.sub (tys' := [(c_a1, .int)]) [0] rfl
  exact W.vret hx hb hr (fun t ht hW => ⟨⟨(), rfl, trivial, a1, a2, a3, a4, c_a1, by rw [ht]; exact hP, va_K.moved hW.alike hK9, hD⟩, hS.F ht⟩) hS.2.2 dX0_init_72
end
section
-- THE REFERENCE: what its methods do, as functions over ints; and the row behind them
def mV (g1 g2 g3 : Nat → Int32) : Nat → Int32 := fun j => if g1 j = 0 then g2 j else if g1 j = 1 then 0 else if g3 j = 0 then 1 else 2
def mA (v g4 : Nat → Int32) (k : Nat) : Nat → Int32 := fun j => if j ≤ k then bx_sum v j else g4 j
theorem mA_0 (v g4 : Nat → Int32) : upd g4 0 (bx_sum v 0) = mA v g4 0 := na_fun fun j => by
  rw [na_upd]
  unfold mA
  by_cases hj : j = 0
  · subst hj
    rw [if_pos rfl, if_pos (Nat.le_refl _)]
  · rw [if_neg hj, if_neg (by omega)]
theorem mA_at (v g4 : Nat → Int32) (k : Nat) : mA v g4 k k = bx_sum v k := if_pos (Nat.le_refl _)
theorem mA_s (v g4 : Nat → Int32) (k : Nat) : upd (mA v g4 k) (k + 1) (bx_sum v (k + 1)) = mA v g4 (k + 1) := na_fun fun j => by
  rw [na_upd]
  unfold mA
  by_cases hj : j = k + 1
  · subst hj
    rw [if_pos rfl, if_pos (Nat.le_refl _)]
  · rw [if_neg hj]
    by_cases hl : j ≤ k
    · rw [if_pos hl, if_pos (by omega)]
    · rw [if_neg hl, if_neg (by omega)]
def mZ (g3 : Nat → Int32) (k : Nat) : Nat → Int32 := fun j => if j < k then 0 else g3 j
theorem mZ_0 (g3 : Nat → Int32) : mZ g3 0 = g3 := na_fun fun j => if_neg (fun q => by omega)
theorem mZ_s (g3 : Nat → Int32) (k : Nat) : upd (mZ g3 k) k 0 = mZ g3 (k + 1) := na_fun fun j => by
  rw [na_upd]
  unfold mZ
  by_cases hj : j = k
  · subst hj
    rw [if_pos rfl, if_pos (by omega)]
  · rw [if_neg hj]
    by_cases hl : j < k
    · rw [if_pos hl, if_pos (by omega)]
    · rw [if_neg hl, if_neg (by omega)]
def mRc (g2 g3 g4 g5 : Nat → Int32) (re : Int32) (j : Nat) : Prop := ¬ g3 j = 0 ∨ xRs g2 g4 g5 re j = true
def mBad (g1 g2 g3 g4 g5 : Nat → Int32) (re : Int32) (j : Nat) : Bool := decide (g1 j = 2) && (decide (g3 j = 0) && !xRs g2 g4 g5 re j)
theorem mBad_k {g1 g2 g3 g4 g5 : Nat → Int32} {re : Int32} {j : Nat} : mBad g1 g2 g3 g4 g5 re j = true ↔ g1 j = 2 ∧ ¬ mRc g2 g3 g4 g5 re j := by
  unfold mBad mRc
  rw [Bool.and_eq_true, Bool.and_eq_true, decide_eq_true_eq, decide_eq_true_eq, Bool.not_eq_true']
  constructor
  · rintro ⟨h1, h2, h3⟩
    refine ⟨h1, fun q => ?_⟩
    rcases q with q | q
    · exact q h2
    · rw [h3] at q
      exact absurd q (by decide)
  · rintro ⟨h1, h2⟩
    rw [not_or, Classical.not_not] at h2
    exact ⟨h1, h2.1, by cases q : xRs g2 g4 g5 re j <;> simp_all⟩
def mS (g3 : Nat → Int32) (bad : Nat → Bool) (k : Nat) : Nat → Int32 := fun j => if j < k ∧ bad j = true then 1 else g3 j
theorem mS_0 (g3 : Nat → Int32) (bad : Nat → Bool) : mS g3 bad 0 = g3 := na_fun fun j => if_neg (fun q => by omega)
theorem mS_at (g3 : Nat → Int32) (bad : Nat → Bool) (k : Nat) : mS g3 bad k k = g3 k := if_neg (fun q => by omega)
theorem mS_n {g3 : Nat → Int32} {bad : Nat → Bool} {k : Nat} (h : ¬ bad k = true) : mS g3 bad k = mS g3 bad (k + 1) := na_fun fun j => by
  unfold mS
  by_cases hj : j = k
  · subst hj
    rw [if_neg (fun q => by omega), if_neg (fun q => h q.2)]
  · by_cases hl : j < k
    · by_cases h2 : bad j = true
      · rw [if_pos ⟨hl, h2⟩, if_pos ⟨by omega, h2⟩]
      · rw [if_neg (fun q => h2 q.2), if_neg (fun q => h2 q.2)]
    · rw [if_neg (fun q => hl q.1), if_neg (fun q => by omega)]
theorem mS_b {g3 : Nat → Int32} {bad : Nat → Bool} {k : Nat} (h : bad k = true) : upd (mS g3 bad k) k 1 = mS g3 bad (k + 1) := na_fun fun j => by
  rw [na_upd]
  unfold mS
  by_cases hj : j = k
  · subst hj
    rw [if_pos rfl, if_pos ⟨by omega, h⟩]
  · rw [if_neg hj]
    by_cases hl : j < k
    · by_cases h2 : bad j = true
      · rw [if_pos ⟨hl, h2⟩, if_pos ⟨by omega, h2⟩]
      · rw [if_neg (fun q => h2 q.2), if_neg (fun q => h2 q.2)]
    · rw [if_neg (fun q => hl q.1), if_neg (fun q => by omega)]
theorem mS_none {g3 : Nat → Int32} {bad : Nat → Bool} {n : Nat} (h : cnt bad n = 0) : mS g3 bad n = g3 := na_fun fun j => by
  unfold mS
  exact if_neg (fun q => cnt_0 n h j q.1 q.2)
/-- is there one: the flag that the loop keeps -/
def mo (bad : Nat → Bool) (k : Nat) : Int32 := if cnt bad k = 0 then 0 else 1
theorem mo_b {bad : Nat → Bool} {k : Nat} (h : bad k = true) : mo bad (k + 1) = 1 := by
  unfold mo
  rw [cnt_s h]
  exact if_neg (by omega)
theorem mo_n {bad : Nat → Bool} {k : Nat} (h : ¬ bad k = true) : mo bad (k + 1) = mo bad k := by
  unfold mo
  rw [cnt_n h]
def MRow (g1 g2 g5 : Nat → Int32) (n K : Nat) (br : Nat → Bool) (b tg mi : Nat → Nat) : Prop := (∀ j, j < n → br j = true → g1 j = 2 ∧ g2 j = nI (tg j)) ∧ (∀ j, j < n → ¬ br j = true → (g1 j = 0 ∧ g2 j = nI (b j)) ∨ (g1 j = 1 ∧ b j = 0)) ∧ ∀ t, t < K → g5 t = nI (mi t)
/-- longOnes, for a set of long branches -/
def mL (n : Nat) (g3 : Nat → Int32) (br L : Nat → Bool) : Nat → Int32 := fun j => if j < n then (if brL br L j = true then 1 else 0) else g3 j
def MLay (n K rr : Nat) (br : Nat → Bool) (b tg mi : Nat → Nat) (g3 g4 : Nat → Int32) (r : Int32) (u : (Nat → Int32) × (Nat → Int32) × Int32 × Int32) : Prop :=
  (LMiss n K br tg u.2.2.1 ∧ r = -1 ∧ u.2.2.2 = 0) ∨
  (LAll n K br tg ∧ u.2.2.1 = -1 ∧ u.2.2.2 = 1 ∧ ∃ L : Nat → Bool, Closd n rr br b (fun j => mi (tg j)) L ∧ Least n rr br b (fun j => mi (tg j)) L ∧ r = nI (ps (wd br b L) n) ∧ (∀ j, j ≤ n → u.2.1 j = nI (ps (wd br b L) j)) ∧ ∀ j, j < n → u.1 j = if brL br L j = true then 1 else 0)
section
variable {g1 g2 g3 g4 g5 : Nat → Int32} {n K rr : Nat} {br : Nat → Bool} {b tg mi : Nat → Nat} {L : Nat → Bool}
theorem mr_br (hM : MRow g1 g2 g5 n K br b tg mi) {j : Nat} (hj : j < n) : g1 j = 2 ↔ br j = true := by
  by_cases hb : br j = true
  · rw [(hM.1 j hj hb).1]
    exact ⟨fun _ => hb, fun _ => rfl⟩
  · refine ⟨fun q => ?_, fun q => absurd q hb⟩
    rcases hM.2.1 j hj hb with h | h
    · rw [h.1] at q
      exact absurd q (by decide)
    · rw [h.1] at q
      exact absurd q (by decide)
/-- an item whose mark is not there, as the code tests it -/
theorem mr_miss (hM : MRow g1 g2 g5 n K br b tg mi) (hO : RowOk n K br b tg mi) {j : Nat} (hj : j < n) : (g1 j = 2 ∧ ¬ g2 j < nI K) ↔ (br j = true ∧ K ≤ tg j) := by
  obtain ⟨o1, o2, o3, o4, o5⟩ := hO
  rw [mr_br hM hj]
  by_cases hb : br j = true
  · rw [(hM.1 j hj hb).2, nI_ltI (o4 j hj hb) (by omega)]
    exact ⟨fun q => ⟨hb, by omega⟩, fun q => ⟨hb, by omega⟩⟩
  · exact ⟨fun q => absurd q.1 hb, fun q => absurd q.1 hb⟩
theorem mr_tq (hM : MRow g1 g2 g5 n K br b tg mi) (hO : RowOk n K br b tg mi) (hA : LAll n K br tg) {j : Nat} (hj : j < n) (h : g1 j = 2) : ∃ t q : Nat, t < 2000 ∧ q < 2000 ∧ g2 j = nI t ∧ g5 t = nI q := by
  have hb := (mr_br hM hj).mp h
  have ht := hA j hj hb
  obtain ⟨o1, o2, o3, o4, o5⟩ := hO
  have := o5 (tg j) ht
  exact ⟨tg j, mi (tg j), by omega, by omega, (hM.1 j hj hb).2, hM.2.2 _ ht⟩
theorem mr_tqe (hM : MRow g1 g2 g5 n K br b tg mi) (hO : RowOk n K br b tg mi) (hA : LAll n K br tg) {j : Nat} (hj : j < n) (hb : br j = true) : xTq g2 g5 j = mi (tg j) := by
  have ht := hA j hj hb
  obtain ⟨o1, o2, o3, o4, o5⟩ := hO
  have := o5 (tg j) ht
  unfold xTq
  rw [(hM.1 j hj hb).2, nI_clamp (by omega), hM.2.2 _ ht, nI_clamp (by omega)]
theorem mr_v (hM : MRow g1 g2 g5 n K br b tg mi) {j : Nat} (hj : j < n) : mV g1 g2 (mL n g3 br L) j = nI (wd br b L j) := by
  unfold mV wd
  by_cases hb : br j = true
  · rw [(hM.1 j hj hb).1, if_neg (by decide), if_neg (by decide), if_pos hb]
    unfold mL brL
    rw [if_pos hj, hb, Bool.true_and]
    by_cases hl : L j = true
    · rw [if_pos hl, if_pos hl, if_neg (by decide)]
      rfl
    · rw [if_neg hl, if_neg hl, if_pos rfl]
      rfl
  · rw [if_neg hb]
    rcases hM.2.1 j hj hb with h | h
    · rw [h.1, if_pos rfl, h.2]
    · rw [h.1, if_neg (by decide), if_pos rfl, h.2]
      rfl
theorem mr_sum (hM : MRow g1 g2 g5 n K br b tg mi) : ∀ k, k ≤ n → bx_sum (mV g1 g2 (mL n g3 br L)) k = nI (ps (wd br b L) k) := by
  intro k
  induction k with
  | zero => intro _; rfl
  | succ k ih =>
    intro h
    show bx_sum _ k + mV g1 g2 (mL n g3 br L) k = _
    rw [ih (by omega), mr_v hM (by omega), nI_add]
    rfl
theorem mr_pl (hM : MRow g1 g2 g5 n K br b tg mi) : ∀ j, j ≤ n → mA (mV g1 g2 (mL n g3 br L)) g4 n j = nI (ps (wd br b L) j) := by
  intro j hj
  unfold mA
  rw [if_pos hj, mr_sum hM j hj]
theorem mr_bad (hM : MRow g1 g2 g5 n K br b tg mi) (hO : RowOk n K br b tg mi) (hA : LAll n K br tg) (hr : rr ≤ 100000) (h4 : ∀ j, j ≤ n → g4 j = nI (ps (wd br b L) j)) {j : Nat} (hj : j < n) : mBad g1 g2 (mL n g3 br L) g4 g5 (nI rr) j = true ↔ br j = true ∧ ¬ L j = true ∧ Far rr (wd br b L) j (mi (tg j)) := by
  unfold mBad
  rw [Bool.and_eq_true, Bool.and_eq_true, decide_eq_true_eq, decide_eq_true_eq, mr_br hM hj]
  by_cases hb : br j = true
  · have e1 : mL n g3 br L j = 0 ↔ ¬ L j = true := by
      unfold mL brL
      rw [if_pos hj, hb, Bool.true_and]
      by_cases hl : L j = true
      · rw [if_pos hl]
        exact ⟨fun q => absurd q (by decide), fun q => absurd hl q⟩
      · rw [if_neg hl]
        exact ⟨fun _ => hl, fun _ => rfl⟩
    have hm := hO.2.2.2.2 (tg j) (hA j hj hb)
    have e2 : (!xRs g2 g4 g5 (nI rr) j) = true ↔ Far rr (wd br b L) j (mi (tg j)) := by
      unfold xRs
      rw [mr_tqe hM hO hA hj hb, h4 _ (Nat.le_of_lt hm), h4 _ (Nat.le_of_lt hj)]
      have h3 := far_code (x := ps (wd br b L) j) (y := ps (wd br b L) (mi (tg j))) (rr := rr) (ps_small hO (by omega)) (ps_small hO (by omega)) hr
      unfold Far
      rw [Bool.not_eq_true', Bool.and_eq_false_iff, decide_eq_false_iff_not, decide_eq_false_iff_not]
      constructor
      · intro q
        refine Classical.byContradiction fun z => ?_
        have := h3.mpr z
        rcases q with q | q
        · exact q this.1
        · exact q this.2
      · intro q
        refine Classical.byContradiction fun z => ?_
        rw [not_or, Classical.not_not, Classical.not_not] at z
        exact h3.mp z q
    rw [e1, e2]
  · exact ⟨fun q => absurd q.1 hb, fun q => absurd q.1 hb⟩
theorem ml_0 (n : Nat) (g3 : Nat → Int32) (br : Nat → Bool) : mZ g3 n = mL n g3 br (fun _ => false) := na_fun fun j => by
  unfold mZ mL brL
  by_cases hj : j < n
  · rw [if_pos hj, if_pos hj, Bool.and_false, if_neg (by decide)]
  · rw [if_neg hj, if_neg hj]
theorem ml_s (n : Nat) (g3 : Nat → Int32) (br L bad : Nat → Bool) (h : ∀ j, j < n → bad j = true → br j = true) : mS (mL n g3 br L) bad n = mL n g3 br (fun j => L j || bad j) := na_fun fun j => by
  unfold mS mL brL
  by_cases hj : j < n
  · by_cases hb : bad j = true
    · rw [if_pos ⟨hj, hb⟩, if_pos hj, if_pos (show (br j && (L j || bad j)) = true by rw [hb, Bool.or_true, h j hj hb]; rfl)]
    · have hf : bad j = false := by cases q : bad j <;> simp_all
      have e9 : ((br j && (fun j => L j || bad j) j) = true) = ((br j && L j) = true) := by show ((br j && (L j || bad j)) = true) = _; rw [hf, Bool.or_false]
      rw [if_neg (fun q => hb q.2), if_pos hj, if_pos hj]
      simp only [e9]
  · rw [if_neg (fun q => hj q.1), if_neg hj, if_neg hj]
theorem m_least_bad (hM : MRow g1 g2 g5 n K br b tg mi) (hO : RowOk n K br b tg mi) (hA : LAll n K br tg) (hr : rr ≤ 100000) (h4 : ∀ j, j ≤ n → g4 j = nI (ps (wd br b L) j)) (h : Least n rr br b (fun j => mi (tg j)) L) : Least n rr br b (fun j => mi (tg j)) (fun j => L j || mBad g1 g2 (mL n g3 br L) g4 g5 (nI rr) j) := by
  refine least_step (fun i hi hb => Nat.le_of_lt (hO.2.2.2.2 _ (hA i hi hb))) h (fun i hi hb hs => ?_)
  rw [Bool.or_eq_true] at hs
  rcases hs with q | q
  · exact Or.inl q
  · exact Or.inr ((mr_bad hM hO hA hr h4 hi).mp q).2.2
theorem m_closd_bad (hM : MRow g1 g2 g5 n K br b tg mi) (hO : RowOk n K br b tg mi) (hA : LAll n K br tg) (hr : rr ≤ 100000) (h4 : ∀ j, j ≤ n → g4 j = nI (ps (wd br b L) j)) (h : cnt (mBad g1 g2 (mL n g3 br L) g4 g5 (nI rr)) n = 0) : Closd n rr br b (fun j => mi (tg j)) L := fun i hi hb hl hf => cnt_0 n h i hi ((mr_bad hM hO hA hr h4 hi).mpr ⟨hb, hl, hf⟩)
theorem m_cnt_bad (hM : MRow g1 g2 g5 n K br b tg mi) (hO : RowOk n K br b tg mi) (hA : LAll n K br tg) (hr : rr ≤ 100000) (h4 : ∀ j, j ≤ n → g4 j = nI (ps (wd br b L) j)) : cnt (brL br (fun j => L j || mBad g1 g2 (mL n g3 br L) g4 g5 (nI rr) j)) n = cnt (brL br L) n + cnt (mBad g1 g2 (mL n g3 br L) g4 g5 (nI rr)) n := by
  refine cnt_add (n := n) (fun i hi => ⟨?_, ?_⟩) n (Nat.le_refl _)
  · unfold brL
    rw [Bool.and_eq_true, Bool.or_eq_true, Bool.and_eq_true]
    constructor
    · rintro ⟨h1, h2 | h2⟩
      · exact Or.inl ⟨h1, h2⟩
      · exact Or.inr h2
    · rintro (⟨h1, h2⟩ | h2)
      · exact ⟨h1, Or.inl h2⟩
      · exact ⟨((mr_bad hM hO hA hr h4 hi).mp h2).1, Or.inr h2⟩
  · unfold brL
    rw [Bool.and_eq_true]
    rintro ⟨⟨h1, h2⟩, h3⟩
    exact ((mr_bad hM hO hA hr h4 hi).mp h3).2.1 h2
end
end
section
set_option maxHeartbeats 4000000 in
set_option maxRecDepth 100000 in
/-- item(kind, number) -/
theorem m_item (l : Launch) (dC : Nat → ClassId) (dI : Nat → Nat → Nat) (cA cZ : ClassId) (h1 b1 b2 b3 b4 b5 sz : Nat) (g1 g2 g3 g4 g5 : Nat → Int32) (n : Nat) (mk re le la p1 p2 : Int32) (hn : n < 2000) : na_Mi (S := Unit) l yX1_item wsX1_item ({ frames := 0, cells := 0, slots := 0, locals := 0 }) (dC, dI) vwCl [(cA, .int), (cZ, .boolean)] sz [.ref h1, .int p1, .int p2] [(h1, .inr (1, [.ref b1, .ref b2, .ref b3, .ref b4, .ref b5, .int (nI n), .int mk, .int re, .int le, .int la])), (b1, .inl (cA, 2000, .inl g1)), (b2, .inl (cA, 2000, .inl g2)), (b3, .inl (cZ, 2000, .inl g3)), (b4, .inl (cA, 2001, .inl g4)), (b5, .inl (cA, 2000, .inl g5))] (fun r _ => r = nI n) (fun _ => [(h1, .inr (1, [.ref b1, .ref b2, .ref b3, .ref b4, .ref b5, .int (nI (n + 1)), .int mk, .int re, .int le, .int 0])), (b1, .inl (cA, 2000, .inl (upd g1 n p1))), (b2, .inl (cA, 2000, .inl (upd g2 n p2))), (b3, .inl (cZ, 2000, .inl g3)), (b4, .inl (cA, 2001, .inl g4)), (b5, .inl (cA, 2000, .inl g5))]) := by
  refine Met.ofW (cc := cX1_item) (maxL := 3) (ret := (some .int)) (by decide) rfl ?_
  intro p e s m args below meth c s₁ B hml hv
  obtain ⟨rfl, hsz, hP, hK, hD0⟩ := hv
  have hx := B.exec
  have hb := B.bytes
  have hr := B.returns
  have hts := atoms_spec (ws := wsX1_item) B.pre
  have hown : s.vm.findClass RX1 = some m.cls := findClass_of_methodNamed B.named
  have hlocks := B.notSynchronized
  subst hsz
  have hD := hD0.self (sz := s.heap.size)
  generalize hAe : va_A [(h1, .inr (1, [.ref b1, .ref b2, .ref b3, .ref b4, .ref b5, .int (nI n), .int mk, .int re, .int le, .int la])), (b1, .inl (cA, 2000, .inl g1)), (b2, .inl (cA, 2000, .inl g2)), (b3, .inl (cZ, 2000, .inl g3)), (b4, .inl (cA, 2001, .inl g4)), (b5, .inl (cA, 2000, .inl g5))] s.heap.size = A at hD ⊢
  have hA : ∀ q : Nat, s.heap.size ≤ q → A q := fun q h => by rw [← hAe]; exact Or.inr h
  have hS : va_S A s.heap s.heap [] := va_S.rf
  have hP : va_P (dC, dI) vwCl [(h1, .inr (1, [.ref b1, .ref b2, .ref b3, .ref b4, .ref b5, .int (nI n), .int mk, .int re, .int le, .int la])), (b1, .inl (cA, 2000, .inl g1)), (b2, .inl (cA, 2000, .inl g2)), (b3, .inl (cZ, 2000, .inl g3)), (b4, .inl (cA, 2001, .inl g4)), (b5, .inl (cA, 2000, .inl g5))] s.heap := hP
  have hl := lv_entry ([.ref h1, .int p1, .int p2]) (n := 3) (Nat.le_of_ble_eq_true rfl)
  rw [lg_entry_eq]
  generalize (lg_sl ([.ref h1, .int p1, .int p2]) ++ List.replicate (3 - (lg_sl ([.ref h1, .int p1, .int p2])).length) Slot.unset).toArray = ls at hl ⊢
  have hl : lv_has ls 3 [(0, .ref h1), (1, .int p1), (2, .int p2)] := hl
  refine lv_aload_n hx hb dX1_item_0 rfl (lv_at hl 0 rfl) ?_
  refine va_get (D := (dC, dI)) (ci := 1) (v := .int (nI n)) (C := RX1) (T := TX1) (N := 10) hx hb hts in_X1_item hown hK hP 0 rfl rfl 5 (by decide) (hts (.fieldLink RX1 33 "BranchLengthsModel" "items" "I") (by decide +kernel)) (fun _ h9 => h9) rfl dX1_item_1 ?_
  refine lv_sipush (v := 2000) hx hb dX1_item_4 (by decide) ?_
  refine lv_icmp_ne (tgt := 12) hx hb dX1_item_7 (by decide) (fun hc => ?_) (fun hc => ?_)
  · refine lv_aload_n hx hb dX1_item_12 rfl (lv_at hl 0 rfl) ?_
    refine va_get (D := (dC, dI)) (ci := 1) (v := .ref b1) (C := RX1) (T := TX1) (N := 10) hx hb hts in_X1_item hown hK hP 0 rfl rfl 0 (by decide) (hts (.fieldLink RX1 9 "BranchLengthsModel" "kinds" "[I") (by decide +kernel)) (fun _ h9 => h9) rfl dX1_item_13 ?_
    refine lv_aload_n hx hb dX1_item_16 rfl (lv_at hl 0 rfl) ?_
    refine va_get (D := (dC, dI)) (ci := 1) (v := .int (nI n)) (C := RX1) (T := TX1) (N := 10) hx hb hts in_X1_item hown hK hP 0 rfl rfl 5 (by decide) (hts (.fieldLink RX1 33 "BranchLengthsModel" "items" "I") (by decide +kernel)) (fun _ h9 => h9) rfl dX1_item_17 ?_
    refine lv_iload_n hx hb dX1_item_20 rfl (lv_at hl 1 rfl) ?_
    refine na_iast (k := n) hx hb hK hP hD hS 1 0 rfl rfl (by omega) (by decide) (upd g1 n p1) (rfl) dX1_item_21 (fun H locs hP hD hS => ?_)
    have hP : va_P (dC, dI) vwCl [(h1, .inr (1, [.ref b1, .ref b2, .ref b3, .ref b4, .ref b5, .int (nI n), .int mk, .int re, .int le, .int la])), (b1, .inl (cA, 2000, .inl (upd g1 n p1))), (b2, .inl (cA, 2000, .inl g2)), (b3, .inl (cZ, 2000, .inl g3)), (b4, .inl (cA, 2001, .inl g4)), (b5, .inl (cA, 2000, .inl g5))] H := hP
    have hD : va_D A [(h1, .inr (1, [.ref b1, .ref b2, .ref b3, .ref b4, .ref b5, .int (nI n), .int mk, .int re, .int le, .int la])), (b1, .inl (cA, 2000, .inl (upd g1 n p1))), (b2, .inl (cA, 2000, .inl g2)), (b3, .inl (cZ, 2000, .inl g3)), (b4, .inl (cA, 2001, .inl g4)), (b5, .inl (cA, 2000, .inl g5))] := hD
    refine lv_aload_n hx hb dX1_item_22 rfl (lv_at hl 0 rfl) ?_
    refine va_get (D := (dC, dI)) (ci := 1) (v := .ref b2) (C := RX1) (T := TX1) (N := 10) hx hb hts in_X1_item hown hK hP 0 rfl rfl 1 (by decide) (hts (.fieldLink RX1 13 "BranchLengthsModel" "numbers" "[I") (by decide +kernel)) (fun _ h9 => h9) rfl dX1_item_23 ?_
    refine lv_aload_n hx hb dX1_item_26 rfl (lv_at hl 0 rfl) ?_
    refine va_get (D := (dC, dI)) (ci := 1) (v := .int (nI n)) (C := RX1) (T := TX1) (N := 10) hx hb hts in_X1_item hown hK hP 0 rfl rfl 5 (by decide) (hts (.fieldLink RX1 33 "BranchLengthsModel" "items" "I") (by decide +kernel)) (fun _ h9 => h9) rfl dX1_item_27 ?_
    refine lv_iload_n hx hb dX1_item_30 rfl (lv_at hl 2 rfl) ?_
    refine na_iast (k := n) hx hb hK hP hD hS 2 0 rfl rfl (by omega) (by decide) (upd g2 n p2) (rfl) dX1_item_31 (fun H locs hP hD hS => ?_)
    have hP : va_P (dC, dI) vwCl [(h1, .inr (1, [.ref b1, .ref b2, .ref b3, .ref b4, .ref b5, .int (nI n), .int mk, .int re, .int le, .int la])), (b1, .inl (cA, 2000, .inl (upd g1 n p1))), (b2, .inl (cA, 2000, .inl (upd g2 n p2))), (b3, .inl (cZ, 2000, .inl g3)), (b4, .inl (cA, 2001, .inl g4)), (b5, .inl (cA, 2000, .inl g5))] H := hP
    have hD : va_D A [(h1, .inr (1, [.ref b1, .ref b2, .ref b3, .ref b4, .ref b5, .int (nI n), .int mk, .int re, .int le, .int la])), (b1, .inl (cA, 2000, .inl (upd g1 n p1))), (b2, .inl (cA, 2000, .inl (upd g2 n p2))), (b3, .inl (cZ, 2000, .inl g3)), (b4, .inl (cA, 2001, .inl g4)), (b5, .inl (cA, 2000, .inl g5))] := hD
    refine lv_aload_n hx hb dX1_item_32 rfl (lv_at hl 0 rfl) ?_
    refine lv_iconst (v := 0) hx hb dX1_item_33 (by decide) ?_
    refine va_put (D := (dC, dI)) (ci := 1) (v := .int 0) (ty := .boolean) (C := RX1) (T := TX1) (N := 10) hx hb hts in_X1_item tyX1 tyX1_ok nmX1 hown hK hP hD hS 0 rfl rfl 9 (by decide) (hts (.fieldLink RX1 36 "BranchLengthsModel" "laid" "Z") (by decide +kernel)) (fun _ h9 => h9) rfl (by decide +kernel) rfl rfl (Nat.le_of_ble_eq_true rfl) dX1_item_34 (fun H locs hP hD hS => ?_)
    have hP : va_P (dC, dI) vwCl [(h1, .inr (1, [.ref b1, .ref b2, .ref b3, .ref b4, .ref b5, .int (nI n), .int mk, .int re, .int le, .int 0])), (b1, .inl (cA, 2000, .inl (upd g1 n p1))), (b2, .inl (cA, 2000, .inl (upd g2 n p2))), (b3, .inl (cZ, 2000, .inl g3)), (b4, .inl (cA, 2001, .inl g4)), (b5, .inl (cA, 2000, .inl g5))] H := hP
    have hD : va_D A [(h1, .inr (1, [.ref b1, .ref b2, .ref b3, .ref b4, .ref b5, .int (nI n), .int mk, .int re, .int le, .int 0])), (b1, .inl (cA, 2000, .inl (upd g1 n p1))), (b2, .inl (cA, 2000, .inl (upd g2 n p2))), (b3, .inl (cZ, 2000, .inl g3)), (b4, .inl (cA, 2001, .inl g4)), (b5, .inl (cA, 2000, .inl g5))] := hD
    refine lv_aload_n hx hb dX1_item_37 rfl (lv_at hl 0 rfl) ?_
    refine lv_dup hx hb dX1_item_38 rfl ?_
    refine va_get (D := (dC, dI)) (ci := 1) (v := .int (nI n)) (C := RX1) (T := TX1) (N := 10) hx hb hts in_X1_item hown hK hP 0 rfl rfl 5 (by decide) (hts (.fieldLink RX1 33 "BranchLengthsModel" "items" "I") (by decide +kernel)) (fun _ h9 => h9) rfl dX1_item_39 ?_
    refine lv_iconst (v := 1) hx hb dX1_item_42 (by decide) ?_
    refine lv_iadd hx hb dX1_item_43 ?_
    refine na_eqi (y := nI (n + 1)) (nI_1 n) ?_
    refine va_put (D := (dC, dI)) (ci := 1) (v := .int (nI (n + 1))) (ty := .int) (C := RX1) (T := TX1) (N := 10) hx hb hts in_X1_item tyX1 tyX1_ok nmX1 hown hK hP hD hS 0 rfl rfl 5 (by decide) (hts (.fieldLink RX1 33 "BranchLengthsModel" "items" "I") (by decide +kernel)) (fun _ h9 => h9) rfl (by decide +kernel) rfl rfl (Nat.le_of_ble_eq_true rfl) dX1_item_44 (fun H locs hP hD hS => ?_)
    have hP : va_P (dC, dI) vwCl [(h1, .inr (1, [.ref b1, .ref b2, .ref b3, .ref b4, .ref b5, .int (nI (n + 1)), .int mk, .int re, .int le, .int 0])), (b1, .inl (cA, 2000, .inl (upd g1 n p1))), (b2, .inl (cA, 2000, .inl (upd g2 n p2))), (b3, .inl (cZ, 2000, .inl g3)), (b4, .inl (cA, 2001, .inl g4)), (b5, .inl (cA, 2000, .inl g5))] H := hP
    have hD : va_D A [(h1, .inr (1, [.ref b1, .ref b2, .ref b3, .ref b4, .ref b5, .int (nI (n + 1)), .int mk, .int re, .int le, .int 0])), (b1, .inl (cA, 2000, .inl (upd g1 n p1))), (b2, .inl (cA, 2000, .inl (upd g2 n p2))), (b3, .inl (cZ, 2000, .inl g3)), (b4, .inl (cA, 2001, .inl g4)), (b5, .inl (cA, 2000, .inl g5))] := hD
    refine lv_aload_n hx hb dX1_item_47 rfl (lv_at hl 0 rfl) ?_
    refine va_get (D := (dC, dI)) (ci := 1) (v := .int (nI (n + 1))) (C := RX1) (T := TX1) (N := 10) hx hb hts in_X1_item hown hK hP 0 rfl rfl 5 (by decide) (hts (.fieldLink RX1 33 "BranchLengthsModel" "items" "I") (by decide +kernel)) (fun _ h9 => h9) rfl dX1_item_48 ?_
    refine lv_iconst (v := 1) hx hb dX1_item_51 (by decide) ?_
    refine lv_isub hx hb dX1_item_52 ?_
    refine na_eqi (y := nI n) (nI_pred n) ?_
    exact W.iret (v := (nI n)) hx hb hr (fun t ht hW => ⟨⟨(nI n), (), rfl, rfl, by rw [ht]; exact hP, va_K.moved hW.alike hK, hD⟩, hS.F ht⟩) hS.2.2 dX1_item_53
  · exact absurd ((nI_eq (by omega) (by decide)).mp (show nI n = nI 2000 from hc)) (by omega)
set_option maxHeartbeats 4000000 in
set_option maxRecDepth 100000 in
/-- stretch(p), refused -/
theorem m_stretch_no (l : Launch) (dC : Nat → ClassId) (dI : Nat → Nat → Nat) (cA cZ : ClassId) (h1 b1 b2 b3 b4 b5 sz : Nat) (g1 g2 g3 g4 g5 : Nat → Int32) (n : Nat) (mk re le la p1 : Int32) (hp : p1 < 0 ∨ ¬ p1 ≤ 4000) : na_Mi (S := Unit) l yX1_stretch wsX1_stretch ({ frames := 1, cells := 0, slots := 0, locals := 22 }) (dC, dI) vwCl [(cA, .int), (cZ, .boolean)] sz [.ref h1, .int p1] [(h1, .inr (1, [.ref b1, .ref b2, .ref b3, .ref b4, .ref b5, .int (nI n), .int mk, .int re, .int le, .int la])), (b1, .inl (cA, 2000, .inl g1)), (b2, .inl (cA, 2000, .inl g2)), (b3, .inl (cZ, 2000, .inl g3)), (b4, .inl (cA, 2001, .inl g4)), (b5, .inl (cA, 2000, .inl g5))] (fun r _ => r = -1) (fun _ => [(h1, .inr (1, [.ref b1, .ref b2, .ref b3, .ref b4, .ref b5, .int (nI n), .int mk, .int re, .int le, .int la])), (b1, .inl (cA, 2000, .inl g1)), (b2, .inl (cA, 2000, .inl g2)), (b3, .inl (cZ, 2000, .inl g3)), (b4, .inl (cA, 2001, .inl g4)), (b5, .inl (cA, 2000, .inl g5))]) := by
  refine Met.ofW (cc := cX1_stretch) (maxL := 2) (ret := (some .int)) (by decide) rfl ?_
  intro p e s m args below meth c s₁ B hml hv
  obtain ⟨rfl, hsz, hP, hK, hD0⟩ := hv
  have hx := B.exec
  have hb := B.bytes
  have hr := B.returns
  have hts := atoms_spec (ws := wsX1_stretch) B.pre
  have hown : s.vm.findClass RX1 = some m.cls := findClass_of_methodNamed B.named
  have hlocks := B.notSynchronized
  subst hsz
  have hD := hD0.self (sz := s.heap.size)
  generalize hAe : va_A [(h1, .inr (1, [.ref b1, .ref b2, .ref b3, .ref b4, .ref b5, .int (nI n), .int mk, .int re, .int le, .int la])), (b1, .inl (cA, 2000, .inl g1)), (b2, .inl (cA, 2000, .inl g2)), (b3, .inl (cZ, 2000, .inl g3)), (b4, .inl (cA, 2001, .inl g4)), (b5, .inl (cA, 2000, .inl g5))] s.heap.size = A at hD ⊢
  have hA : ∀ q : Nat, s.heap.size ≤ q → A q := fun q h => by rw [← hAe]; exact Or.inr h
  have hS : va_S A s.heap s.heap [] := va_S.rf
  have hP : va_P (dC, dI) vwCl [(h1, .inr (1, [.ref b1, .ref b2, .ref b3, .ref b4, .ref b5, .int (nI n), .int mk, .int re, .int le, .int la])), (b1, .inl (cA, 2000, .inl g1)), (b2, .inl (cA, 2000, .inl g2)), (b3, .inl (cZ, 2000, .inl g3)), (b4, .inl (cA, 2001, .inl g4)), (b5, .inl (cA, 2000, .inl g5))] s.heap := hP
  have hl := lv_entry ([.ref h1, .int p1]) (n := 2) (Nat.le_of_ble_eq_true rfl)
  rw [lg_entry_eq]
  generalize (lg_sl ([.ref h1, .int p1]) ++ List.replicate (2 - (lg_sl ([.ref h1, .int p1])).length) Slot.unset).toArray = ls at hl ⊢
  have hl : lv_has ls 2 [(0, .ref h1), (1, .int p1)] := hl
  refine lv_iload_n hx hb dX1_stretch_0 rfl (lv_at hl 1 rfl) ?_
  refine lv_if_lt (tgt := 11) hx hb dX1_stretch_1 (by decide) (fun hc1 => ?_) (fun hc1 => ?_)
  · refine lv_iconst (v := -1) hx hb dX1_stretch_11 (by decide) ?_
    refine lv_goto (tgt := 21) hx hb dX1_stretch_12 (by decide) ?_
    exact W.iret (v := (-1)) hx hb hr (fun t ht hW => ⟨⟨(-1), (), rfl, rfl, by rw [ht]; exact hP, va_K.moved hW.alike hK, hD⟩, hS.F ht⟩) hS.2.2 dX1_stretch_21
  · refine lv_iload_n hx hb dX1_stretch_4 rfl (lv_at hl 1 rfl) ?_
    refine lv_sipush (v := 4000) hx hb dX1_stretch_5 (by decide) ?_
    refine lv_icmp_le (tgt := 15) hx hb dX1_stretch_8 (by decide) (fun hc2 => ?_) (fun hc2 => ?_)
    · exact absurd hp (fun q => q.elim hc1 (fun z => z hc2))
    · refine lv_iconst (v := -1) hx hb dX1_stretch_11 (by decide) ?_
      refine lv_goto (tgt := 21) hx hb dX1_stretch_12 (by decide) ?_
      exact W.iret (v := (-1)) hx hb hr (fun t ht hW => ⟨⟨(-1), (), rfl, rfl, by rw [ht]; exact hP, va_K.moved hW.alike hK, hD⟩, hS.F ht⟩) hS.2.2 dX1_stretch_21
set_option maxHeartbeats 4000000 in
set_option maxRecDepth 100000 in
/-- stretch(p) -/
theorem m_stretch_ok (l : Launch) (dC : Nat → ClassId) (dI : Nat → Nat → Nat) (cA cZ : ClassId) (h1 b1 b2 b3 b4 b5 sz : Nat) (g1 g2 g3 g4 g5 : Nat → Int32) (n : Nat) (mk re le la p1 : Int32) (hn : n < 2000) (hp1 : ¬ p1 < 0) (hp2 : p1 ≤ 4000) : na_Mi (S := Unit) l yX1_stretch wsX1_stretch ({ frames := 1, cells := 0, slots := 0, locals := 22 }) (dC, dI) vwCl [(cA, .int), (cZ, .boolean)] sz [.ref h1, .int p1] [(h1, .inr (1, [.ref b1, .ref b2, .ref b3, .ref b4, .ref b5, .int (nI n), .int mk, .int re, .int le, .int la])), (b1, .inl (cA, 2000, .inl g1)), (b2, .inl (cA, 2000, .inl g2)), (b3, .inl (cZ, 2000, .inl g3)), (b4, .inl (cA, 2001, .inl g4)), (b5, .inl (cA, 2000, .inl g5))] (fun r _ => r = nI n) (fun _ => [(h1, .inr (1, [.ref b1, .ref b2, .ref b3, .ref b4, .ref b5, .int (nI (n + 1)), .int mk, .int re, .int le, .int 0])), (b1, .inl (cA, 2000, .inl (upd g1 n 0))), (b2, .inl (cA, 2000, .inl (upd g2 n p1))), (b3, .inl (cZ, 2000, .inl g3)), (b4, .inl (cA, 2001, .inl g4)), (b5, .inl (cA, 2000, .inl g5))]) := by
  refine Met.ofW (cc := cX1_stretch) (maxL := 2) (ret := (some .int)) (by decide) rfl ?_
  intro p e s m args below meth c s₁ B hml hv
  obtain ⟨rfl, hsz, hP, hK, hD0⟩ := hv
  have hx := B.exec
  have hb := B.bytes
  have hr := B.returns
  have hts := atoms_spec (ws := wsX1_stretch) B.pre
  have hown : s.vm.findClass RX1 = some m.cls := findClass_of_methodNamed B.named
  have hlocks := B.notSynchronized
  subst hsz
  have hD := hD0.self (sz := s.heap.size)
  generalize hAe : va_A [(h1, .inr (1, [.ref b1, .ref b2, .ref b3, .ref b4, .ref b5, .int (nI n), .int mk, .int re, .int le, .int la])), (b1, .inl (cA, 2000, .inl g1)), (b2, .inl (cA, 2000, .inl g2)), (b3, .inl (cZ, 2000, .inl g3)), (b4, .inl (cA, 2001, .inl g4)), (b5, .inl (cA, 2000, .inl g5))] s.heap.size = A at hD ⊢
  have hA : ∀ q : Nat, s.heap.size ≤ q → A q := fun q h => by rw [← hAe]; exact Or.inr h
  have hS : va_S A s.heap s.heap [] := va_S.rf
  have hP : va_P (dC, dI) vwCl [(h1, .inr (1, [.ref b1, .ref b2, .ref b3, .ref b4, .ref b5, .int (nI n), .int mk, .int re, .int le, .int la])), (b1, .inl (cA, 2000, .inl g1)), (b2, .inl (cA, 2000, .inl g2)), (b3, .inl (cZ, 2000, .inl g3)), (b4, .inl (cA, 2001, .inl g4)), (b5, .inl (cA, 2000, .inl g5))] s.heap := hP
  have hl := lv_entry ([.ref h1, .int p1]) (n := 2) (Nat.le_of_ble_eq_true rfl)
  rw [lg_entry_eq]
  generalize (lg_sl ([.ref h1, .int p1]) ++ List.replicate (2 - (lg_sl ([.ref h1, .int p1])).length) Slot.unset).toArray = ls at hl ⊢
  have hl : lv_has ls 2 [(0, .ref h1), (1, .int p1)] := hl
  refine lv_iload_n hx hb dX1_stretch_0 rfl (lv_at hl 1 rfl) ?_
  refine lv_if_lt (tgt := 11) hx hb dX1_stretch_1 (by decide) (fun hc1 => ?_) (fun hc1 => ?_)
  · exact absurd hc1 hp1
  · refine lv_iload_n hx hb dX1_stretch_4 rfl (lv_at hl 1 rfl) ?_
    refine lv_sipush (v := 4000) hx hb dX1_stretch_5 (by decide) ?_
    refine lv_icmp_le (tgt := 15) hx hb dX1_stretch_8 (by decide) (fun hc2 => ?_) (fun hc2 => ?_)
    · refine lv_aload_n hx hb dX1_stretch_15 rfl (lv_at hl 0 rfl) ?_
      refine lv_iconst (v := 0) hx hb dX1_stretch_16 (by decide) ?_
      refine lv_iload_n hx hb dX1_stretch_17 rfl (lv_at hl 1 rfl) ?_
      refine na_calli (As := [.int 0, .int p1]) (rest := []) (wc := [(h1, .inr (1, [.ref b1, .ref b2, .ref b3, .ref b4, .ref b5, .int (nI n), .int mk, .int re, .int le, .int la])), (b1, .inl (cA, 2000, .inl g1)), (b2, .inl (cA, 2000, .inl g2)), (b3, .inl (cZ, 2000, .inl g3)), (b4, .inl (cA, 2001, .inl g4)), (b5, .inl (cA, 2000, .inl g5))]) (wr := []) (ci := 1) ⟨hx, hb, hml, hown, hts⟩ (m_item l dC dI cA cZ h1 b1 b2 b3 b4 b5 s.heap.size g1 g2 g3 g4 g5 n mk re le la 0 p1 hn) (cwV 2 hts gX1_stretch_X1_item rfl rfl rfl (by decide +kernel) ⟨Nat.le_of_ble_eq_true rfl, Nat.le_of_ble_eq_true rfl⟩) hK hP hD hS hA [0, 1, 2, 3, 4, 5] [] rfl rfl rfl rfl (by decide) rfl rfl 0 rfl rfl hl.1 (Nat.le_of_ble_eq_true rfl) dX1_stretch_18 ⟨Nat.le_of_ble_eq_true rfl, Nat.le_of_ble_eq_true rfl⟩ rfl (fun r u H locs hw hP hD hS => ?_)
      have hP : va_P (dC, dI) vwCl [(h1, .inr (1, [.ref b1, .ref b2, .ref b3, .ref b4, .ref b5, .int (nI (n + 1)), .int mk, .int re, .int le, .int 0])), (b1, .inl (cA, 2000, .inl (upd g1 n 0))), (b2, .inl (cA, 2000, .inl (upd g2 n p1))), (b3, .inl (cZ, 2000, .inl g3)), (b4, .inl (cA, 2001, .inl g4)), (b5, .inl (cA, 2000, .inl g5))] H := hP
      have hD : va_D A [(h1, .inr (1, [.ref b1, .ref b2, .ref b3, .ref b4, .ref b5, .int (nI (n + 1)), .int mk, .int re, .int le, .int 0])), (b1, .inl (cA, 2000, .inl (upd g1 n 0))), (b2, .inl (cA, 2000, .inl (upd g2 n p1))), (b3, .inl (cZ, 2000, .inl g3)), (b4, .inl (cA, 2001, .inl g4)), (b5, .inl (cA, 2000, .inl g5))] := hD
      subst hw
      exact W.iret (v := (nI n)) hx hb hr (fun t ht hW => ⟨⟨(nI n), (), rfl, rfl, by rw [ht]; exact hP, va_K.moved hW.alike hK, hD⟩, hS.F ht⟩) hS.2.2 dX1_stretch_21
    · exact absurd hp2 hc2
set_option maxHeartbeats 4000000 in
set_option maxRecDepth 100000 in
/-- mark() -/
theorem m_mark (l : Launch) (dC : Nat → ClassId) (dI : Nat → Nat → Nat) (cA cZ : ClassId) (h1 b1 b2 b3 b4 b5 sz : Nat) (g1 g2 g3 g4 g5 : Nat → Int32) (n K : Nat) (re le la : Int32) (hn : n < 2000) (hK2 : K < 2000) : na_Mi (S := Unit) l yX1_mark wsX1_mark ({ frames := 1, cells := 0, slots := 0, locals := 22 }) (dC, dI) vwCl [(cA, .int), (cZ, .boolean)] sz [.ref h1] [(h1, .inr (1, [.ref b1, .ref b2, .ref b3, .ref b4, .ref b5, .int (nI n), .int (nI K), .int re, .int le, .int la])), (b1, .inl (cA, 2000, .inl g1)), (b2, .inl (cA, 2000, .inl g2)), (b3, .inl (cZ, 2000, .inl g3)), (b4, .inl (cA, 2001, .inl g4)), (b5, .inl (cA, 2000, .inl g5))] (fun r _ => r = nI n) (fun _ => [(h1, .inr (1, [.ref b1, .ref b2, .ref b3, .ref b4, .ref b5, .int (nI (n + 1)), .int (nI (K + 1)), .int re, .int le, .int 0])), (b1, .inl (cA, 2000, .inl (upd g1 n 1))), (b2, .inl (cA, 2000, .inl (upd g2 n 0))), (b3, .inl (cZ, 2000, .inl g3)), (b4, .inl (cA, 2001, .inl g4)), (b5, .inl (cA, 2000, .inl (upd g5 K (nI n))))]) := by
  refine Met.ofW (cc := cX1_mark) (maxL := 2) (ret := (some .int)) (by decide) rfl ?_
  intro p e s m args below meth c s₁ B hml hv
  obtain ⟨rfl, hsz, hP, hK, hD0⟩ := hv
  have hx := B.exec
  have hb := B.bytes
  have hr := B.returns
  have hts := atoms_spec (ws := wsX1_mark) B.pre
  have hown : s.vm.findClass RX1 = some m.cls := findClass_of_methodNamed B.named
  have hlocks := B.notSynchronized
  subst hsz
  have hD := hD0.self (sz := s.heap.size)
  generalize hAe : va_A [(h1, .inr (1, [.ref b1, .ref b2, .ref b3, .ref b4, .ref b5, .int (nI n), .int (nI K), .int re, .int le, .int la])), (b1, .inl (cA, 2000, .inl g1)), (b2, .inl (cA, 2000, .inl g2)), (b3, .inl (cZ, 2000, .inl g3)), (b4, .inl (cA, 2001, .inl g4)), (b5, .inl (cA, 2000, .inl g5))] s.heap.size = A at hD ⊢
  have hA : ∀ q : Nat, s.heap.size ≤ q → A q := fun q h => by rw [← hAe]; exact Or.inr h
  have hS : va_S A s.heap s.heap [] := va_S.rf
  have hP : va_P (dC, dI) vwCl [(h1, .inr (1, [.ref b1, .ref b2, .ref b3, .ref b4, .ref b5, .int (nI n), .int (nI K), .int re, .int le, .int la])), (b1, .inl (cA, 2000, .inl g1)), (b2, .inl (cA, 2000, .inl g2)), (b3, .inl (cZ, 2000, .inl g3)), (b4, .inl (cA, 2001, .inl g4)), (b5, .inl (cA, 2000, .inl g5))] s.heap := hP
  have hl := lv_entry ([.ref h1]) (n := 2) (Nat.le_of_ble_eq_true rfl)
  rw [lg_entry_eq]
  generalize (lg_sl ([.ref h1]) ++ List.replicate (2 - (lg_sl ([.ref h1])).length) Slot.unset).toArray = ls at hl ⊢
  have hl : lv_has ls 2 [(0, .ref h1)] := hl
  refine lv_aload_n hx hb dX1_mark_0 rfl (lv_at hl 0 rfl) ?_
  refine lv_iconst (v := 1) hx hb dX1_mark_1 (by decide) ?_
  refine lv_iconst (v := 0) hx hb dX1_mark_2 (by decide) ?_
  refine na_calli (As := [.int 1, .int 0]) (rest := []) (wc := [(h1, .inr (1, [.ref b1, .ref b2, .ref b3, .ref b4, .ref b5, .int (nI n), .int (nI K), .int re, .int le, .int la])), (b1, .inl (cA, 2000, .inl g1)), (b2, .inl (cA, 2000, .inl g2)), (b3, .inl (cZ, 2000, .inl g3)), (b4, .inl (cA, 2001, .inl g4)), (b5, .inl (cA, 2000, .inl g5))]) (wr := []) (ci := 1) ⟨hx, hb, hml, hown, hts⟩ (m_item l dC dI cA cZ h1 b1 b2 b3 b4 b5 s.heap.size g1 g2 g3 g4 g5 n (nI K) re le la 1 0 hn) (cwV 2 hts gX1_mark_X1_item rfl rfl rfl (by decide +kernel) ⟨Nat.le_of_ble_eq_true rfl, Nat.le_of_ble_eq_true rfl⟩) hK hP hD hS hA [0, 1, 2, 3, 4, 5] [] rfl rfl rfl rfl (by decide) rfl rfl 0 rfl rfl hl.1 (Nat.le_of_ble_eq_true rfl) dX1_mark_3 ⟨Nat.le_of_ble_eq_true rfl, Nat.le_of_ble_eq_true rfl⟩ rfl (fun r u H locs hw hP hD hS => ?_)
  have hP : va_P (dC, dI) vwCl [(h1, .inr (1, [.ref b1, .ref b2, .ref b3, .ref b4, .ref b5, .int (nI (n + 1)), .int (nI K), .int re, .int le, .int 0])), (b1, .inl (cA, 2000, .inl (upd g1 n 1))), (b2, .inl (cA, 2000, .inl (upd g2 n 0))), (b3, .inl (cZ, 2000, .inl g3)), (b4, .inl (cA, 2001, .inl g4)), (b5, .inl (cA, 2000, .inl g5))] H := hP
  have hD : va_D A [(h1, .inr (1, [.ref b1, .ref b2, .ref b3, .ref b4, .ref b5, .int (nI (n + 1)), .int (nI K), .int re, .int le, .int 0])), (b1, .inl (cA, 2000, .inl (upd g1 n 1))), (b2, .inl (cA, 2000, .inl (upd g2 n 0))), (b3, .inl (cZ, 2000, .inl g3)), (b4, .inl (cA, 2001, .inl g4)), (b5, .inl (cA, 2000, .inl g5))] := hD
  subst hw
  refine lv_istore_n (lv' := [(1, .int (nI n)), (0, .ref h1)]) hx hb dX1_mark_6 rfl hl (by decide) rfl (fun ls hl => ?_)
  refine lv_iload_n hx hb dX1_mark_7 rfl (lv_at hl 0 rfl) ?_
  refine lv_if_ge (tgt := 13) hx hb dX1_mark_8 (by decide) (fun hc1 => ?_) (fun hc1 => ?_)
  · refine lv_aload_n hx hb dX1_mark_13 rfl (lv_at hl 1 rfl) ?_
    refine va_get (D := (dC, dI)) (ci := 1) (v := .ref b5) (C := RX1) (T := TX1) (N := 10) hx hb hts in_X1_mark hown hK hP 0 rfl rfl 4 (by decide) (hts (.fieldLink RX1 23 "BranchLengthsModel" "markItems" "[I") (by decide +kernel)) (fun _ h9 => h9) rfl dX1_mark_14 ?_
    refine lv_aload_n hx hb dX1_mark_17 rfl (lv_at hl 1 rfl) ?_
    refine va_get (D := (dC, dI)) (ci := 1) (v := .int (nI K)) (C := RX1) (T := TX1) (N := 10) hx hb hts in_X1_mark hown hK hP 0 rfl rfl 6 (by decide) (hts (.fieldLink RX1 44 "BranchLengthsModel" "marks" "I") (by decide +kernel)) (fun _ h9 => h9) rfl dX1_mark_18 ?_
    refine lv_iload_n hx hb dX1_mark_21 rfl (lv_at hl 0 rfl) ?_
    refine na_iast (k := K) hx hb hK hP hD hS 5 0 rfl rfl (by omega) (by decide) (upd g5 K (nI n)) (rfl) dX1_mark_22 (fun H locs hP hD hS => ?_)
    have hP : va_P (dC, dI) vwCl [(h1, .inr (1, [.ref b1, .ref b2, .ref b3, .ref b4, .ref b5, .int (nI (n + 1)), .int (nI K), .int re, .int le, .int 0])), (b1, .inl (cA, 2000, .inl (upd g1 n 1))), (b2, .inl (cA, 2000, .inl (upd g2 n 0))), (b3, .inl (cZ, 2000, .inl g3)), (b4, .inl (cA, 2001, .inl g4)), (b5, .inl (cA, 2000, .inl (upd g5 K (nI n))))] H := hP
    have hD : va_D A [(h1, .inr (1, [.ref b1, .ref b2, .ref b3, .ref b4, .ref b5, .int (nI (n + 1)), .int (nI K), .int re, .int le, .int 0])), (b1, .inl (cA, 2000, .inl (upd g1 n 1))), (b2, .inl (cA, 2000, .inl (upd g2 n 0))), (b3, .inl (cZ, 2000, .inl g3)), (b4, .inl (cA, 2001, .inl g4)), (b5, .inl (cA, 2000, .inl (upd g5 K (nI n))))] := hD
    refine lv_aload_n hx hb dX1_mark_23 rfl (lv_at hl 1 rfl) ?_
    refine lv_dup hx hb dX1_mark_24 rfl ?_
    refine va_get (D := (dC, dI)) (ci := 1) (v := .int (nI K)) (C := RX1) (T := TX1) (N := 10) hx hb hts in_X1_mark hown hK hP 0 rfl rfl 6 (by decide) (hts (.fieldLink RX1 44 "BranchLengthsModel" "marks" "I") (by decide +kernel)) (fun _ h9 => h9) rfl dX1_mark_25 ?_
    refine lv_iconst (v := 1) hx hb dX1_mark_28 (by decide) ?_
    refine lv_iadd hx hb dX1_mark_29 ?_
    refine na_eqi (y := nI (K + 1)) (nI_1 K) ?_
    refine va_put (D := (dC, dI)) (ci := 1) (v := .int (nI (K + 1))) (ty := .int) (C := RX1) (T := TX1) (N := 10) hx hb hts in_X1_mark tyX1 tyX1_ok nmX1 hown hK hP hD hS 0 rfl rfl 6 (by decide) (hts (.fieldLink RX1 44 "BranchLengthsModel" "marks" "I") (by decide +kernel)) (fun _ h9 => h9) rfl (by decide +kernel) rfl rfl (Nat.le_of_ble_eq_true rfl) dX1_mark_30 (fun H locs hP hD hS => ?_)
    have hP : va_P (dC, dI) vwCl [(h1, .inr (1, [.ref b1, .ref b2, .ref b3, .ref b4, .ref b5, .int (nI (n + 1)), .int (nI (K + 1)), .int re, .int le, .int 0])), (b1, .inl (cA, 2000, .inl (upd g1 n 1))), (b2, .inl (cA, 2000, .inl (upd g2 n 0))), (b3, .inl (cZ, 2000, .inl g3)), (b4, .inl (cA, 2001, .inl g4)), (b5, .inl (cA, 2000, .inl (upd g5 K (nI n))))] H := hP
    have hD : va_D A [(h1, .inr (1, [.ref b1, .ref b2, .ref b3, .ref b4, .ref b5, .int (nI (n + 1)), .int (nI (K + 1)), .int re, .int le, .int 0])), (b1, .inl (cA, 2000, .inl (upd g1 n 1))), (b2, .inl (cA, 2000, .inl (upd g2 n 0))), (b3, .inl (cZ, 2000, .inl g3)), (b4, .inl (cA, 2001, .inl g4)), (b5, .inl (cA, 2000, .inl (upd g5 K (nI n))))] := hD
    refine lv_iload_n hx hb dX1_mark_33 rfl (lv_at hl 0 rfl) ?_
    exact W.iret (v := (nI n)) hx hb hr (fun t ht hW => ⟨⟨(nI n), (), rfl, rfl, by rw [ht]; exact hP, va_K.moved hW.alike hK, hD⟩, hS.F ht⟩) hS.2.2 dX1_mark_34
  · exact absurd (nI_pos' (by omega)) hc1
set_option maxHeartbeats 4000000 in
set_option maxRecDepth 100000 in
/-- branch(p), refused -/
theorem m_branch_no (l : Launch) (dC : Nat → ClassId) (dI : Nat → Nat → Nat) (cA cZ : ClassId) (h1 b1 b2 b3 b4 b5 sz : Nat) (g1 g2 g3 g4 g5 : Nat → Int32) (n : Nat) (mk re le la p1 : Int32) (hp : p1 < 0) : na_Mi (S := Unit) l yX1_branch wsX1_branch ({ frames := 1, cells := 0, slots := 0, locals := 22 }) (dC, dI) vwCl [(cA, .int), (cZ, .boolean)] sz [.ref h1, .int p1] [(h1, .inr (1, [.ref b1, .ref b2, .ref b3, .ref b4, .ref b5, .int (nI n), .int mk, .int re, .int le, .int la])), (b1, .inl (cA, 2000, .inl g1)), (b2, .inl (cA, 2000, .inl g2)), (b3, .inl (cZ, 2000, .inl g3)), (b4, .inl (cA, 2001, .inl g4)), (b5, .inl (cA, 2000, .inl g5))] (fun r _ => r = -1) (fun _ => [(h1, .inr (1, [.ref b1, .ref b2, .ref b3, .ref b4, .ref b5, .int (nI n), .int mk, .int re, .int le, .int la])), (b1, .inl (cA, 2000, .inl g1)), (b2, .inl (cA, 2000, .inl g2)), (b3, .inl (cZ, 2000, .inl g3)), (b4, .inl (cA, 2001, .inl g4)), (b5, .inl (cA, 2000, .inl g5))]) := by
  refine Met.ofW (cc := cX1_branch) (maxL := 2) (ret := (some .int)) (by decide) rfl ?_
  intro p e s m args below meth c s₁ B hml hv
  obtain ⟨rfl, hsz, hP, hK, hD0⟩ := hv
  have hx := B.exec
  have hb := B.bytes
  have hr := B.returns
  have hts := atoms_spec (ws := wsX1_branch) B.pre
  have hown : s.vm.findClass RX1 = some m.cls := findClass_of_methodNamed B.named
  have hlocks := B.notSynchronized
  subst hsz
  have hD := hD0.self (sz := s.heap.size)
  generalize hAe : va_A [(h1, .inr (1, [.ref b1, .ref b2, .ref b3, .ref b4, .ref b5, .int (nI n), .int mk, .int re, .int le, .int la])), (b1, .inl (cA, 2000, .inl g1)), (b2, .inl (cA, 2000, .inl g2)), (b3, .inl (cZ, 2000, .inl g3)), (b4, .inl (cA, 2001, .inl g4)), (b5, .inl (cA, 2000, .inl g5))] s.heap.size = A at hD ⊢
  have hA : ∀ q : Nat, s.heap.size ≤ q → A q := fun q h => by rw [← hAe]; exact Or.inr h
  have hS : va_S A s.heap s.heap [] := va_S.rf
  have hP : va_P (dC, dI) vwCl [(h1, .inr (1, [.ref b1, .ref b2, .ref b3, .ref b4, .ref b5, .int (nI n), .int mk, .int re, .int le, .int la])), (b1, .inl (cA, 2000, .inl g1)), (b2, .inl (cA, 2000, .inl g2)), (b3, .inl (cZ, 2000, .inl g3)), (b4, .inl (cA, 2001, .inl g4)), (b5, .inl (cA, 2000, .inl g5))] s.heap := hP
  have hl := lv_entry ([.ref h1, .int p1]) (n := 2) (Nat.le_of_ble_eq_true rfl)
  rw [lg_entry_eq]
  generalize (lg_sl ([.ref h1, .int p1]) ++ List.replicate (2 - (lg_sl ([.ref h1, .int p1])).length) Slot.unset).toArray = ls at hl ⊢
  have hl : lv_has ls 2 [(0, .ref h1), (1, .int p1)] := hl
  refine lv_iload_n hx hb dX1_branch_0 rfl (lv_at hl 1 rfl) ?_
  refine lv_if_ge (tgt := 8) hx hb dX1_branch_1 (by decide) (fun hc1 => ?_) (fun hc1 => ?_)
  · exact absurd hp (na_nlt hc1)
  · refine lv_iconst (v := -1) hx hb dX1_branch_4 (by decide) ?_
    refine lv_goto (tgt := 14) hx hb dX1_branch_5 (by decide) ?_
    exact W.iret (v := (-1)) hx hb hr (fun t ht hW => ⟨⟨(-1), (), rfl, rfl, by rw [ht]; exact hP, va_K.moved hW.alike hK, hD⟩, hS.F ht⟩) hS.2.2 dX1_branch_14
set_option maxHeartbeats 4000000 in
set_option maxRecDepth 100000 in
/-- branch(p) -/
theorem m_branch_ok (l : Launch) (dC : Nat → ClassId) (dI : Nat → Nat → Nat) (cA cZ : ClassId) (h1 b1 b2 b3 b4 b5 sz : Nat) (g1 g2 g3 g4 g5 : Nat → Int32) (n : Nat) (mk re le la p1 : Int32) (hn : n < 2000) (hp : ¬ p1 < 0) : na_Mi (S := Unit) l yX1_branch wsX1_branch ({ frames := 1, cells := 0, slots := 0, locals := 22 }) (dC, dI) vwCl [(cA, .int), (cZ, .boolean)] sz [.ref h1, .int p1] [(h1, .inr (1, [.ref b1, .ref b2, .ref b3, .ref b4, .ref b5, .int (nI n), .int mk, .int re, .int le, .int la])), (b1, .inl (cA, 2000, .inl g1)), (b2, .inl (cA, 2000, .inl g2)), (b3, .inl (cZ, 2000, .inl g3)), (b4, .inl (cA, 2001, .inl g4)), (b5, .inl (cA, 2000, .inl g5))] (fun r _ => r = nI n) (fun _ => [(h1, .inr (1, [.ref b1, .ref b2, .ref b3, .ref b4, .ref b5, .int (nI (n + 1)), .int mk, .int re, .int le, .int 0])), (b1, .inl (cA, 2000, .inl (upd g1 n 2))), (b2, .inl (cA, 2000, .inl (upd g2 n p1))), (b3, .inl (cZ, 2000, .inl g3)), (b4, .inl (cA, 2001, .inl g4)), (b5, .inl (cA, 2000, .inl g5))]) := by
  refine Met.ofW (cc := cX1_branch) (maxL := 2) (ret := (some .int)) (by decide) rfl ?_
  intro p e s m args below meth c s₁ B hml hv
  obtain ⟨rfl, hsz, hP, hK, hD0⟩ := hv
  have hx := B.exec
  have hb := B.bytes
  have hr := B.returns
  have hts := atoms_spec (ws := wsX1_branch) B.pre
  have hown : s.vm.findClass RX1 = some m.cls := findClass_of_methodNamed B.named
  have hlocks := B.notSynchronized
  subst hsz
  have hD := hD0.self (sz := s.heap.size)
  generalize hAe : va_A [(h1, .inr (1, [.ref b1, .ref b2, .ref b3, .ref b4, .ref b5, .int (nI n), .int mk, .int re, .int le, .int la])), (b1, .inl (cA, 2000, .inl g1)), (b2, .inl (cA, 2000, .inl g2)), (b3, .inl (cZ, 2000, .inl g3)), (b4, .inl (cA, 2001, .inl g4)), (b5, .inl (cA, 2000, .inl g5))] s.heap.size = A at hD ⊢
  have hA : ∀ q : Nat, s.heap.size ≤ q → A q := fun q h => by rw [← hAe]; exact Or.inr h
  have hS : va_S A s.heap s.heap [] := va_S.rf
  have hP : va_P (dC, dI) vwCl [(h1, .inr (1, [.ref b1, .ref b2, .ref b3, .ref b4, .ref b5, .int (nI n), .int mk, .int re, .int le, .int la])), (b1, .inl (cA, 2000, .inl g1)), (b2, .inl (cA, 2000, .inl g2)), (b3, .inl (cZ, 2000, .inl g3)), (b4, .inl (cA, 2001, .inl g4)), (b5, .inl (cA, 2000, .inl g5))] s.heap := hP
  have hl := lv_entry ([.ref h1, .int p1]) (n := 2) (Nat.le_of_ble_eq_true rfl)
  rw [lg_entry_eq]
  generalize (lg_sl ([.ref h1, .int p1]) ++ List.replicate (2 - (lg_sl ([.ref h1, .int p1])).length) Slot.unset).toArray = ls at hl ⊢
  have hl : lv_has ls 2 [(0, .ref h1), (1, .int p1)] := hl
  refine lv_iload_n hx hb dX1_branch_0 rfl (lv_at hl 1 rfl) ?_
  refine lv_if_ge (tgt := 8) hx hb dX1_branch_1 (by decide) (fun hc1 => ?_) (fun hc1 => ?_)
  · refine lv_aload_n hx hb dX1_branch_8 rfl (lv_at hl 0 rfl) ?_
    refine lv_iconst (v := 2) hx hb dX1_branch_9 (by decide) ?_
    refine lv_iload_n hx hb dX1_branch_10 rfl (lv_at hl 1 rfl) ?_
    refine na_calli (As := [.int 2, .int p1]) (rest := []) (wc := [(h1, .inr (1, [.ref b1, .ref b2, .ref b3, .ref b4, .ref b5, .int (nI n), .int mk, .int re, .int le, .int la])), (b1, .inl (cA, 2000, .inl g1)), (b2, .inl (cA, 2000, .inl g2)), (b3, .inl (cZ, 2000, .inl g3)), (b4, .inl (cA, 2001, .inl g4)), (b5, .inl (cA, 2000, .inl g5))]) (wr := []) (ci := 1) ⟨hx, hb, hml, hown, hts⟩ (m_item l dC dI cA cZ h1 b1 b2 b3 b4 b5 s.heap.size g1 g2 g3 g4 g5 n mk re le la 2 p1 hn) (cwV 2 hts gX1_branch_X1_item rfl rfl rfl (by decide +kernel) ⟨Nat.le_of_ble_eq_true rfl, Nat.le_of_ble_eq_true rfl⟩) hK hP hD hS hA [0, 1, 2, 3, 4, 5] [] rfl rfl rfl rfl (by decide) rfl rfl 0 rfl rfl hl.1 (Nat.le_of_ble_eq_true rfl) dX1_branch_11 ⟨Nat.le_of_ble_eq_true rfl, Nat.le_of_ble_eq_true rfl⟩ rfl (fun r u H locs hw hP hD hS => ?_)
    have hP : va_P (dC, dI) vwCl [(h1, .inr (1, [.ref b1, .ref b2, .ref b3, .ref b4, .ref b5, .int (nI (n + 1)), .int mk, .int re, .int le, .int 0])), (b1, .inl (cA, 2000, .inl (upd g1 n 2))), (b2, .inl (cA, 2000, .inl (upd g2 n p1))), (b3, .inl (cZ, 2000, .inl g3)), (b4, .inl (cA, 2001, .inl g4)), (b5, .inl (cA, 2000, .inl g5))] H := hP
    have hD : va_D A [(h1, .inr (1, [.ref b1, .ref b2, .ref b3, .ref b4, .ref b5, .int (nI (n + 1)), .int mk, .int re, .int le, .int 0])), (b1, .inl (cA, 2000, .inl (upd g1 n 2))), (b2, .inl (cA, 2000, .inl (upd g2 n p1))), (b3, .inl (cZ, 2000, .inl g3)), (b4, .inl (cA, 2001, .inl g4)), (b5, .inl (cA, 2000, .inl g5))] := hD
    subst hw
    exact W.iret (v := (nI n)) hx hb hr (fun t ht hW => ⟨⟨(nI n), (), rfl, rfl, by rw [ht]; exact hP, va_K.moved hW.alike hK, hD⟩, hS.F ht⟩) hS.2.2 dX1_branch_14
  · exact absurd (na_nge0 hp) hc1
set_option maxHeartbeats 4000000 in
set_option maxRecDepth 100000 in
/-- reach(p), refused -/
theorem m_reach_no (l : Launch) (dC : Nat → ClassId) (dI : Nat → Nat → Nat) (cA cZ : ClassId) (h1 b1 b2 b3 b4 b5 sz : Nat) (g1 g2 g3 g4 g5 : Nat → Int32) (n : Nat) (mk re le la p1 : Int32) (hp : p1 < 1 ∨ ¬ p1 ≤ 100000) : na_Mi (S := Unit) l yX1_reach wsX1_reach ({ frames := 0, cells := 0, slots := 0, locals := 0 }) (dC, dI) vwCl [(cA, .int), (cZ, .boolean)] sz [.ref h1, .int p1] [(h1, .inr (1, [.ref b1, .ref b2, .ref b3, .ref b4, .ref b5, .int (nI n), .int mk, .int re, .int le, .int la])), (b1, .inl (cA, 2000, .inl g1)), (b2, .inl (cA, 2000, .inl g2)), (b3, .inl (cZ, 2000, .inl g3)), (b4, .inl (cA, 2001, .inl g4)), (b5, .inl (cA, 2000, .inl g5))] (fun r _ => r = 0) (fun _ => [(h1, .inr (1, [.ref b1, .ref b2, .ref b3, .ref b4, .ref b5, .int (nI n), .int mk, .int re, .int le, .int la])), (b1, .inl (cA, 2000, .inl g1)), (b2, .inl (cA, 2000, .inl g2)), (b3, .inl (cZ, 2000, .inl g3)), (b4, .inl (cA, 2001, .inl g4)), (b5, .inl (cA, 2000, .inl g5))]) := by
  refine Met.ofW (cc := cX1_reach) (maxL := 2) (ret := (some .boolean)) (by decide) rfl ?_
  intro p e s m args below meth c s₁ B hml hv
  obtain ⟨rfl, hsz, hP, hK, hD0⟩ := hv
  have hx := B.exec
  have hb := B.bytes
  have hr := B.returns
  have hts := atoms_spec (ws := wsX1_reach) B.pre
  have hown : s.vm.findClass RX1 = some m.cls := findClass_of_methodNamed B.named
  have hlocks := B.notSynchronized
  subst hsz
  have hD := hD0.self (sz := s.heap.size)
  generalize hAe : va_A [(h1, .inr (1, [.ref b1, .ref b2, .ref b3, .ref b4, .ref b5, .int (nI n), .int mk, .int re, .int le, .int la])), (b1, .inl (cA, 2000, .inl g1)), (b2, .inl (cA, 2000, .inl g2)), (b3, .inl (cZ, 2000, .inl g3)), (b4, .inl (cA, 2001, .inl g4)), (b5, .inl (cA, 2000, .inl g5))] s.heap.size = A at hD ⊢
  have hA : ∀ q : Nat, s.heap.size ≤ q → A q := fun q h => by rw [← hAe]; exact Or.inr h
  have hS : va_S A s.heap s.heap [] := va_S.rf
  have hP : va_P (dC, dI) vwCl [(h1, .inr (1, [.ref b1, .ref b2, .ref b3, .ref b4, .ref b5, .int (nI n), .int mk, .int re, .int le, .int la])), (b1, .inl (cA, 2000, .inl g1)), (b2, .inl (cA, 2000, .inl g2)), (b3, .inl (cZ, 2000, .inl g3)), (b4, .inl (cA, 2001, .inl g4)), (b5, .inl (cA, 2000, .inl g5))] s.heap := hP
  have hl := lv_entry ([.ref h1, .int p1]) (n := 2) (Nat.le_of_ble_eq_true rfl)
  rw [lg_entry_eq]
  generalize (lg_sl ([.ref h1, .int p1]) ++ List.replicate (2 - (lg_sl ([.ref h1, .int p1])).length) Slot.unset).toArray = ls at hl ⊢
  have hl : lv_has ls 2 [(0, .ref h1), (1, .int p1)] := hl
  refine lv_iload_n hx hb dX1_reach_0 rfl (lv_at hl 1 rfl) ?_
  refine lv_iconst (v := 1) hx hb dX1_reach_1 (by decide) ?_
  refine lv_icmp_lt (tgt := 11) hx hb dX1_reach_2 (by decide) (fun hc1 => ?_) (fun hc1 => ?_)
  · refine lv_iconst (v := 0) hx hb dX1_reach_11 (by decide) ?_
    exact W.zret (v := 0) hx hb hr rfl (fun t ht hW => ⟨⟨0, (), rfl, rfl, by rw [ht]; exact hP, va_K.moved hW.alike hK, hD⟩, hS.F ht⟩) hS.2.2 dX1_reach_12
  · refine lv_iload_n hx hb dX1_reach_5 rfl (lv_at hl 1 rfl) ?_
    refine lv_ldc (v := 100000) hx hb hown (hts (.constant RX1 47 100000) (by decide +kernel)) dX1_reach_6 ?_
    refine lv_icmp_le (tgt := 13) hx hb dX1_reach_8 (by decide) (fun hc2 => ?_) (fun hc2 => ?_)
    · exact absurd hp (fun q => q.elim hc1 (fun z => z hc2))
    · refine lv_iconst (v := 0) hx hb dX1_reach_11 (by decide) ?_
      exact W.zret (v := 0) hx hb hr rfl (fun t ht hW => ⟨⟨0, (), rfl, rfl, by rw [ht]; exact hP, va_K.moved hW.alike hK, hD⟩, hS.F ht⟩) hS.2.2 dX1_reach_12
set_option maxHeartbeats 4000000 in
set_option maxRecDepth 100000 in
/-- reach(p) -/
theorem m_reach_ok (l : Launch) (dC : Nat → ClassId) (dI : Nat → Nat → Nat) (cA cZ : ClassId) (h1 b1 b2 b3 b4 b5 sz : Nat) (g1 g2 g3 g4 g5 : Nat → Int32) (n : Nat) (mk re le la p1 : Int32) (hp1 : ¬ p1 < 1) (hp2 : p1 ≤ 100000) : na_Mi (S := Unit) l yX1_reach wsX1_reach ({ frames := 0, cells := 0, slots := 0, locals := 0 }) (dC, dI) vwCl [(cA, .int), (cZ, .boolean)] sz [.ref h1, .int p1] [(h1, .inr (1, [.ref b1, .ref b2, .ref b3, .ref b4, .ref b5, .int (nI n), .int mk, .int re, .int le, .int la])), (b1, .inl (cA, 2000, .inl g1)), (b2, .inl (cA, 2000, .inl g2)), (b3, .inl (cZ, 2000, .inl g3)), (b4, .inl (cA, 2001, .inl g4)), (b5, .inl (cA, 2000, .inl g5))] (fun r _ => r = 1) (fun _ => [(h1, .inr (1, [.ref b1, .ref b2, .ref b3, .ref b4, .ref b5, .int (nI n), .int mk, .int p1, .int le, .int 0])), (b1, .inl (cA, 2000, .inl g1)), (b2, .inl (cA, 2000, .inl g2)), (b3, .inl (cZ, 2000, .inl g3)), (b4, .inl (cA, 2001, .inl g4)), (b5, .inl (cA, 2000, .inl g5))]) := by
  refine Met.ofW (cc := cX1_reach) (maxL := 2) (ret := (some .boolean)) (by decide) rfl ?_
  intro p e s m args below meth c s₁ B hml hv
  obtain ⟨rfl, hsz, hP, hK, hD0⟩ := hv
  have hx := B.exec
  have hb := B.bytes
  have hr := B.returns
  have hts := atoms_spec (ws := wsX1_reach) B.pre
  have hown : s.vm.findClass RX1 = some m.cls := findClass_of_methodNamed B.named
  have hlocks := B.notSynchronized
  subst hsz
  have hD := hD0.self (sz := s.heap.size)
  generalize hAe : va_A [(h1, .inr (1, [.ref b1, .ref b2, .ref b3, .ref b4, .ref b5, .int (nI n), .int mk, .int re, .int le, .int la])), (b1, .inl (cA, 2000, .inl g1)), (b2, .inl (cA, 2000, .inl g2)), (b3, .inl (cZ, 2000, .inl g3)), (b4, .inl (cA, 2001, .inl g4)), (b5, .inl (cA, 2000, .inl g5))] s.heap.size = A at hD ⊢
  have hA : ∀ q : Nat, s.heap.size ≤ q → A q := fun q h => by rw [← hAe]; exact Or.inr h
  have hS : va_S A s.heap s.heap [] := va_S.rf
  have hP : va_P (dC, dI) vwCl [(h1, .inr (1, [.ref b1, .ref b2, .ref b3, .ref b4, .ref b5, .int (nI n), .int mk, .int re, .int le, .int la])), (b1, .inl (cA, 2000, .inl g1)), (b2, .inl (cA, 2000, .inl g2)), (b3, .inl (cZ, 2000, .inl g3)), (b4, .inl (cA, 2001, .inl g4)), (b5, .inl (cA, 2000, .inl g5))] s.heap := hP
  have hl := lv_entry ([.ref h1, .int p1]) (n := 2) (Nat.le_of_ble_eq_true rfl)
  rw [lg_entry_eq]
  generalize (lg_sl ([.ref h1, .int p1]) ++ List.replicate (2 - (lg_sl ([.ref h1, .int p1])).length) Slot.unset).toArray = ls at hl ⊢
  have hl : lv_has ls 2 [(0, .ref h1), (1, .int p1)] := hl
  refine lv_iload_n hx hb dX1_reach_0 rfl (lv_at hl 1 rfl) ?_
  refine lv_iconst (v := 1) hx hb dX1_reach_1 (by decide) ?_
  refine lv_icmp_lt (tgt := 11) hx hb dX1_reach_2 (by decide) (fun hc1 => ?_) (fun hc1 => ?_)
  · exact absurd hc1 hp1
  · refine lv_iload_n hx hb dX1_reach_5 rfl (lv_at hl 1 rfl) ?_
    refine lv_ldc (v := 100000) hx hb hown (hts (.constant RX1 47 100000) (by decide +kernel)) dX1_reach_6 ?_
    refine lv_icmp_le (tgt := 13) hx hb dX1_reach_8 (by decide) (fun hc2 => ?_) (fun hc2 => ?_)
    · refine lv_aload_n hx hb dX1_reach_13 rfl (lv_at hl 0 rfl) ?_
      refine lv_iload_n hx hb dX1_reach_14 rfl (lv_at hl 1 rfl) ?_
      refine va_put (D := (dC, dI)) (ci := 1) (v := .int p1) (ty := .int) (C := RX1) (T := TX1) (N := 10) hx hb hts in_X1_reach tyX1 tyX1_ok nmX1 hown hK hP hD hS 0 rfl rfl 7 (by decide) (hts (.fieldLink RX1 26 "BranchLengthsModel" "reach" "I") (by decide +kernel)) (fun _ h9 => h9) rfl (by decide +kernel) rfl rfl (Nat.le_of_ble_eq_true rfl) dX1_reach_15 (fun H locs hP hD hS => ?_)
      have hP : va_P (dC, dI) vwCl [(h1, .inr (1, [.ref b1, .ref b2, .ref b3, .ref b4, .ref b5, .int (nI n), .int mk, .int p1, .int le, .int la])), (b1, .inl (cA, 2000, .inl g1)), (b2, .inl (cA, 2000, .inl g2)), (b3, .inl (cZ, 2000, .inl g3)), (b4, .inl (cA, 2001, .inl g4)), (b5, .inl (cA, 2000, .inl g5))] H := hP
      have hD : va_D A [(h1, .inr (1, [.ref b1, .ref b2, .ref b3, .ref b4, .ref b5, .int (nI n), .int mk, .int p1, .int le, .int la])), (b1, .inl (cA, 2000, .inl g1)), (b2, .inl (cA, 2000, .inl g2)), (b3, .inl (cZ, 2000, .inl g3)), (b4, .inl (cA, 2001, .inl g4)), (b5, .inl (cA, 2000, .inl g5))] := hD
      refine lv_aload_n hx hb dX1_reach_18 rfl (lv_at hl 0 rfl) ?_
      refine lv_iconst (v := 0) hx hb dX1_reach_19 (by decide) ?_
      refine va_put (D := (dC, dI)) (ci := 1) (v := .int 0) (ty := .boolean) (C := RX1) (T := TX1) (N := 10) hx hb hts in_X1_reach tyX1 tyX1_ok nmX1 hown hK hP hD hS 0 rfl rfl 9 (by decide) (hts (.fieldLink RX1 36 "BranchLengthsModel" "laid" "Z") (by decide +kernel)) (fun _ h9 => h9) rfl (by decide +kernel) rfl rfl (Nat.le_of_ble_eq_true rfl) dX1_reach_20 (fun H locs hP hD hS => ?_)
      have hP : va_P (dC, dI) vwCl [(h1, .inr (1, [.ref b1, .ref b2, .ref b3, .ref b4, .ref b5, .int (nI n), .int mk, .int p1, .int le, .int 0])), (b1, .inl (cA, 2000, .inl g1)), (b2, .inl (cA, 2000, .inl g2)), (b3, .inl (cZ, 2000, .inl g3)), (b4, .inl (cA, 2001, .inl g4)), (b5, .inl (cA, 2000, .inl g5))] H := hP
      have hD : va_D A [(h1, .inr (1, [.ref b1, .ref b2, .ref b3, .ref b4, .ref b5, .int (nI n), .int mk, .int p1, .int le, .int 0])), (b1, .inl (cA, 2000, .inl g1)), (b2, .inl (cA, 2000, .inl g2)), (b3, .inl (cZ, 2000, .inl g3)), (b4, .inl (cA, 2001, .inl g4)), (b5, .inl (cA, 2000, .inl g5))] := hD
      refine lv_iconst (v := 1) hx hb dX1_reach_23 (by decide) ?_
      exact W.zret (v := 1) hx hb hr rfl (fun t ht hW => ⟨⟨1, (), rfl, rfl, by rw [ht]; exact hP, va_K.moved hW.alike hK, hD⟩, hS.F ht⟩) hS.2.2 dX1_reach_24
    · exact absurd hp2 hc2
set_option maxHeartbeats 4000000 in
set_option maxRecDepth 100000 in
/-- least() -/
theorem m_least (l : Launch) (dC : Nat → ClassId) (dI : Nat → Nat → Nat) (cA cZ : ClassId) (h1 b1 b2 b3 b4 b5 sz : Nat) (g1 g2 g3 g4 g5 : Nat → Int32) (n : Nat) (mk re le la : Int32)  : na_Mi (S := Unit) l yX1_least wsX1_least ({ frames := 0, cells := 0, slots := 0, locals := 0 }) (dC, dI) vwCl [(cA, .int), (cZ, .boolean)] sz [.ref h1] [(h1, .inr (1, [.ref b1, .ref b2, .ref b3, .ref b4, .ref b5, .int (nI n), .int mk, .int re, .int le, .int la])), (b1, .inl (cA, 2000, .inl g1)), (b2, .inl (cA, 2000, .inl g2)), (b3, .inl (cZ, 2000, .inl g3)), (b4, .inl (cA, 2001, .inl g4)), (b5, .inl (cA, 2000, .inl g5))] (fun r _ => r = le) (fun _ => [(h1, .inr (1, [.ref b1, .ref b2, .ref b3, .ref b4, .ref b5, .int (nI n), .int mk, .int re, .int le, .int la])), (b1, .inl (cA, 2000, .inl g1)), (b2, .inl (cA, 2000, .inl g2)), (b3, .inl (cZ, 2000, .inl g3)), (b4, .inl (cA, 2001, .inl g4)), (b5, .inl (cA, 2000, .inl g5))]) := by
  refine Met.ofW (cc := cX1_least) (maxL := 1) (ret := (some .int)) (by decide) rfl ?_
  intro p e s m args below meth c s₁ B hml hv
  obtain ⟨rfl, hsz, hP, hK, hD0⟩ := hv
  have hx := B.exec
  have hb := B.bytes
  have hr := B.returns
  have hts := atoms_spec (ws := wsX1_least) B.pre
  have hown : s.vm.findClass RX1 = some m.cls := findClass_of_methodNamed B.named
  have hlocks := B.notSynchronized
  subst hsz
  have hD := hD0.self (sz := s.heap.size)
  generalize hAe : va_A [(h1, .inr (1, [.ref b1, .ref b2, .ref b3, .ref b4, .ref b5, .int (nI n), .int mk, .int re, .int le, .int la])), (b1, .inl (cA, 2000, .inl g1)), (b2, .inl (cA, 2000, .inl g2)), (b3, .inl (cZ, 2000, .inl g3)), (b4, .inl (cA, 2001, .inl g4)), (b5, .inl (cA, 2000, .inl g5))] s.heap.size = A at hD ⊢
  have hA : ∀ q : Nat, s.heap.size ≤ q → A q := fun q h => by rw [← hAe]; exact Or.inr h
  have hS : va_S A s.heap s.heap [] := va_S.rf
  have hP : va_P (dC, dI) vwCl [(h1, .inr (1, [.ref b1, .ref b2, .ref b3, .ref b4, .ref b5, .int (nI n), .int mk, .int re, .int le, .int la])), (b1, .inl (cA, 2000, .inl g1)), (b2, .inl (cA, 2000, .inl g2)), (b3, .inl (cZ, 2000, .inl g3)), (b4, .inl (cA, 2001, .inl g4)), (b5, .inl (cA, 2000, .inl g5))] s.heap := hP
  have hl := lv_entry ([.ref h1]) (n := 1) (Nat.le_of_ble_eq_true rfl)
  rw [lg_entry_eq]
  generalize (lg_sl ([.ref h1]) ++ List.replicate (1 - (lg_sl ([.ref h1])).length) Slot.unset).toArray = ls at hl ⊢
  have hl : lv_has ls 1 [(0, .ref h1)] := hl
  refine lv_aload_n hx hb dX1_least_0 rfl (lv_at hl 0 rfl) ?_
  refine va_get (D := (dC, dI)) (ci := 1) (v := .int le) (C := RX1) (T := TX1) (N := 10) hx hb hts in_X1_least hown hK hP 0 rfl rfl 8 (by decide) (hts (.fieldLink RX1 30 "BranchLengthsModel" "least" "I") (by decide +kernel)) (fun _ h9 => h9) rfl dX1_least_1 ?_
  exact W.iret (v := le) hx hb hr (fun t ht hW => ⟨⟨le, (), rfl, rfl, by rw [ht]; exact hP, va_K.moved hW.alike hK, hD⟩, hS.F ht⟩) hS.2.2 dX1_least_4
set_option maxHeartbeats 4000000 in
set_option maxRecDepth 100000 in
/-- items() -/
theorem m_items (l : Launch) (dC : Nat → ClassId) (dI : Nat → Nat → Nat) (cA cZ : ClassId) (h1 b1 b2 b3 b4 b5 sz : Nat) (g1 g2 g3 g4 g5 : Nat → Int32) (n : Nat) (mk re le la : Int32)  : na_Mi (S := Unit) l yX1_items wsX1_items ({ frames := 0, cells := 0, slots := 0, locals := 0 }) (dC, dI) vwCl [(cA, .int), (cZ, .boolean)] sz [.ref h1] [(h1, .inr (1, [.ref b1, .ref b2, .ref b3, .ref b4, .ref b5, .int (nI n), .int mk, .int re, .int le, .int la])), (b1, .inl (cA, 2000, .inl g1)), (b2, .inl (cA, 2000, .inl g2)), (b3, .inl (cZ, 2000, .inl g3)), (b4, .inl (cA, 2001, .inl g4)), (b5, .inl (cA, 2000, .inl g5))] (fun r _ => r = nI n) (fun _ => [(h1, .inr (1, [.ref b1, .ref b2, .ref b3, .ref b4, .ref b5, .int (nI n), .int mk, .int re, .int le, .int la])), (b1, .inl (cA, 2000, .inl g1)), (b2, .inl (cA, 2000, .inl g2)), (b3, .inl (cZ, 2000, .inl g3)), (b4, .inl (cA, 2001, .inl g4)), (b5, .inl (cA, 2000, .inl g5))]) := by
  refine Met.ofW (cc := cX1_items) (maxL := 1) (ret := (some .int)) (by decide) rfl ?_
  intro p e s m args below meth c s₁ B hml hv
  obtain ⟨rfl, hsz, hP, hK, hD0⟩ := hv
  have hx := B.exec
  have hb := B.bytes
  have hr := B.returns
  have hts := atoms_spec (ws := wsX1_items) B.pre
  have hown : s.vm.findClass RX1 = some m.cls := findClass_of_methodNamed B.named
  have hlocks := B.notSynchronized
  subst hsz
  have hD := hD0.self (sz := s.heap.size)
  generalize hAe : va_A [(h1, .inr (1, [.ref b1, .ref b2, .ref b3, .ref b4, .ref b5, .int (nI n), .int mk, .int re, .int le, .int la])), (b1, .inl (cA, 2000, .inl g1)), (b2, .inl (cA, 2000, .inl g2)), (b3, .inl (cZ, 2000, .inl g3)), (b4, .inl (cA, 2001, .inl g4)), (b5, .inl (cA, 2000, .inl g5))] s.heap.size = A at hD ⊢
  have hA : ∀ q : Nat, s.heap.size ≤ q → A q := fun q h => by rw [← hAe]; exact Or.inr h
  have hS : va_S A s.heap s.heap [] := va_S.rf
  have hP : va_P (dC, dI) vwCl [(h1, .inr (1, [.ref b1, .ref b2, .ref b3, .ref b4, .ref b5, .int (nI n), .int mk, .int re, .int le, .int la])), (b1, .inl (cA, 2000, .inl g1)), (b2, .inl (cA, 2000, .inl g2)), (b3, .inl (cZ, 2000, .inl g3)), (b4, .inl (cA, 2001, .inl g4)), (b5, .inl (cA, 2000, .inl g5))] s.heap := hP
  have hl := lv_entry ([.ref h1]) (n := 1) (Nat.le_of_ble_eq_true rfl)
  rw [lg_entry_eq]
  generalize (lg_sl ([.ref h1]) ++ List.replicate (1 - (lg_sl ([.ref h1])).length) Slot.unset).toArray = ls at hl ⊢
  have hl : lv_has ls 1 [(0, .ref h1)] := hl
  refine lv_aload_n hx hb dX1_items_0 rfl (lv_at hl 0 rfl) ?_
  refine va_get (D := (dC, dI)) (ci := 1) (v := .int (nI n)) (C := RX1) (T := TX1) (N := 10) hx hb hts in_X1_items hown hK hP 0 rfl rfl 5 (by decide) (hts (.fieldLink RX1 33 "BranchLengthsModel" "items" "I") (by decide +kernel)) (fun _ h9 => h9) rfl dX1_items_1 ?_
  exact W.iret (v := (nI n)) hx hb hr (fun t ht hW => ⟨⟨(nI n), (), rfl, rfl, by rw [ht]; exact hP, va_K.moved hW.alike hK, hD⟩, hS.F ht⟩) hS.2.2 dX1_items_4
set_option maxHeartbeats 4000000 in
set_option maxRecDepth 100000 in
/-- marks() -/
theorem m_marks (l : Launch) (dC : Nat → ClassId) (dI : Nat → Nat → Nat) (cA cZ : ClassId) (h1 b1 b2 b3 b4 b5 sz : Nat) (g1 g2 g3 g4 g5 : Nat → Int32) (n : Nat) (mk re le la : Int32)  : na_Mi (S := Unit) l yX1_marks wsX1_marks ({ frames := 0, cells := 0, slots := 0, locals := 0 }) (dC, dI) vwCl [(cA, .int), (cZ, .boolean)] sz [.ref h1] [(h1, .inr (1, [.ref b1, .ref b2, .ref b3, .ref b4, .ref b5, .int (nI n), .int mk, .int re, .int le, .int la])), (b1, .inl (cA, 2000, .inl g1)), (b2, .inl (cA, 2000, .inl g2)), (b3, .inl (cZ, 2000, .inl g3)), (b4, .inl (cA, 2001, .inl g4)), (b5, .inl (cA, 2000, .inl g5))] (fun r _ => r = mk) (fun _ => [(h1, .inr (1, [.ref b1, .ref b2, .ref b3, .ref b4, .ref b5, .int (nI n), .int mk, .int re, .int le, .int la])), (b1, .inl (cA, 2000, .inl g1)), (b2, .inl (cA, 2000, .inl g2)), (b3, .inl (cZ, 2000, .inl g3)), (b4, .inl (cA, 2001, .inl g4)), (b5, .inl (cA, 2000, .inl g5))]) := by
  refine Met.ofW (cc := cX1_marks) (maxL := 1) (ret := (some .int)) (by decide) rfl ?_
  intro p e s m args below meth c s₁ B hml hv
  obtain ⟨rfl, hsz, hP, hK, hD0⟩ := hv
  have hx := B.exec
  have hb := B.bytes
  have hr := B.returns
  have hts := atoms_spec (ws := wsX1_marks) B.pre
  have hown : s.vm.findClass RX1 = some m.cls := findClass_of_methodNamed B.named
  have hlocks := B.notSynchronized
  subst hsz
  have hD := hD0.self (sz := s.heap.size)
  generalize hAe : va_A [(h1, .inr (1, [.ref b1, .ref b2, .ref b3, .ref b4, .ref b5, .int (nI n), .int mk, .int re, .int le, .int la])), (b1, .inl (cA, 2000, .inl g1)), (b2, .inl (cA, 2000, .inl g2)), (b3, .inl (cZ, 2000, .inl g3)), (b4, .inl (cA, 2001, .inl g4)), (b5, .inl (cA, 2000, .inl g5))] s.heap.size = A at hD ⊢
  have hA : ∀ q : Nat, s.heap.size ≤ q → A q := fun q h => by rw [← hAe]; exact Or.inr h
  have hS : va_S A s.heap s.heap [] := va_S.rf
  have hP : va_P (dC, dI) vwCl [(h1, .inr (1, [.ref b1, .ref b2, .ref b3, .ref b4, .ref b5, .int (nI n), .int mk, .int re, .int le, .int la])), (b1, .inl (cA, 2000, .inl g1)), (b2, .inl (cA, 2000, .inl g2)), (b3, .inl (cZ, 2000, .inl g3)), (b4, .inl (cA, 2001, .inl g4)), (b5, .inl (cA, 2000, .inl g5))] s.heap := hP
  have hl := lv_entry ([.ref h1]) (n := 1) (Nat.le_of_ble_eq_true rfl)
  rw [lg_entry_eq]
  generalize (lg_sl ([.ref h1]) ++ List.replicate (1 - (lg_sl ([.ref h1])).length) Slot.unset).toArray = ls at hl ⊢
  have hl : lv_has ls 1 [(0, .ref h1)] := hl
  refine lv_aload_n hx hb dX1_marks_0 rfl (lv_at hl 0 rfl) ?_
  refine va_get (D := (dC, dI)) (ci := 1) (v := .int mk) (C := RX1) (T := TX1) (N := 10) hx hb hts in_X1_marks hown hK hP 0 rfl rfl 6 (by decide) (hts (.fieldLink RX1 44 "BranchLengthsModel" "marks" "I") (by decide +kernel)) (fun _ h9 => h9) rfl dX1_marks_1 ?_
  exact W.iret (v := mk) hx hb hr (fun t ht hW => ⟨⟨mk, (), rfl, rfl, by rw [ht]; exact hP, va_K.moved hW.alike hK, hD⟩, hS.F ht⟩) hS.2.2 dX1_marks_4
set_option maxHeartbeats 4000000 in
set_option maxRecDepth 100000 in
/-- clear() -/
theorem m_clear (l : Launch) (dC : Nat → ClassId) (dI : Nat → Nat → Nat) (cA cZ : ClassId) (h1 b1 b2 b3 b4 b5 sz : Nat) (g1 g2 g3 g4 g5 : Nat → Int32) (n : Nat) (mk re le la : Int32)  : na_Mv (S := Unit) l yX1_clear wsX1_clear ({ frames := 0, cells := 0, slots := 0, locals := 0 }) (dC, dI) vwCl [(cA, .int), (cZ, .boolean)] sz [.ref h1] [(h1, .inr (1, [.ref b1, .ref b2, .ref b3, .ref b4, .ref b5, .int (nI n), .int mk, .int re, .int le, .int la])), (b1, .inl (cA, 2000, .inl g1)), (b2, .inl (cA, 2000, .inl g2)), (b3, .inl (cZ, 2000, .inl g3)), (b4, .inl (cA, 2001, .inl g4)), (b5, .inl (cA, 2000, .inl g5))] (fun _ => True) (fun _ => [(h1, .inr (1, [.ref b1, .ref b2, .ref b3, .ref b4, .ref b5, .int (nI 0), .int (nI 0), .int re, .int le, .int 0])), (b1, .inl (cA, 2000, .inl g1)), (b2, .inl (cA, 2000, .inl g2)), (b3, .inl (cZ, 2000, .inl g3)), (b4, .inl (cA, 2001, .inl g4)), (b5, .inl (cA, 2000, .inl g5))]) := by
  refine Met.ofW (cc := cX1_clear) (maxL := 1) (ret := none) (by decide) rfl ?_
  intro p e s m args below meth c s₁ B hml hv
  obtain ⟨rfl, hsz, hP, hK, hD0⟩ := hv
  have hx := B.exec
  have hb := B.bytes
  have hr := B.returns
  have hts := atoms_spec (ws := wsX1_clear) B.pre
  have hown : s.vm.findClass RX1 = some m.cls := findClass_of_methodNamed B.named
  have hlocks := B.notSynchronized
  subst hsz
  have hD := hD0.self (sz := s.heap.size)
  generalize hAe : va_A [(h1, .inr (1, [.ref b1, .ref b2, .ref b3, .ref b4, .ref b5, .int (nI n), .int mk, .int re, .int le, .int la])), (b1, .inl (cA, 2000, .inl g1)), (b2, .inl (cA, 2000, .inl g2)), (b3, .inl (cZ, 2000, .inl g3)), (b4, .inl (cA, 2001, .inl g4)), (b5, .inl (cA, 2000, .inl g5))] s.heap.size = A at hD ⊢
  have hA : ∀ q : Nat, s.heap.size ≤ q → A q := fun q h => by rw [← hAe]; exact Or.inr h
  have hS : va_S A s.heap s.heap [] := va_S.rf
  have hP : va_P (dC, dI) vwCl [(h1, .inr (1, [.ref b1, .ref b2, .ref b3, .ref b4, .ref b5, .int (nI n), .int mk, .int re, .int le, .int la])), (b1, .inl (cA, 2000, .inl g1)), (b2, .inl (cA, 2000, .inl g2)), (b3, .inl (cZ, 2000, .inl g3)), (b4, .inl (cA, 2001, .inl g4)), (b5, .inl (cA, 2000, .inl g5))] s.heap := hP
  have hl := lv_entry ([.ref h1]) (n := 1) (Nat.le_of_ble_eq_true rfl)
  rw [lg_entry_eq]
  generalize (lg_sl ([.ref h1]) ++ List.replicate (1 - (lg_sl ([.ref h1])).length) Slot.unset).toArray = ls at hl ⊢
  have hl : lv_has ls 1 [(0, .ref h1)] := hl
  refine lv_aload_n hx hb dX1_clear_0 rfl (lv_at hl 0 rfl) ?_
  refine lv_iconst (v := nI 0) hx hb dX1_clear_1 (by decide) ?_
  refine va_put (D := (dC, dI)) (ci := 1) (v := .int (nI 0)) (ty := .int) (C := RX1) (T := TX1) (N := 10) hx hb hts in_X1_clear tyX1 tyX1_ok nmX1 hown hK hP hD hS 0 rfl rfl 5 (by decide) (hts (.fieldLink RX1 33 "BranchLengthsModel" "items" "I") (by decide +kernel)) (fun _ h9 => h9) rfl (by decide +kernel) rfl rfl (Nat.le_of_ble_eq_true rfl) dX1_clear_2 (fun H locs hP hD hS => ?_)
  have hP : va_P (dC, dI) vwCl [(h1, .inr (1, [.ref b1, .ref b2, .ref b3, .ref b4, .ref b5, .int (nI 0), .int mk, .int re, .int le, .int la])), (b1, .inl (cA, 2000, .inl g1)), (b2, .inl (cA, 2000, .inl g2)), (b3, .inl (cZ, 2000, .inl g3)), (b4, .inl (cA, 2001, .inl g4)), (b5, .inl (cA, 2000, .inl g5))] H := hP
  have hD : va_D A [(h1, .inr (1, [.ref b1, .ref b2, .ref b3, .ref b4, .ref b5, .int (nI 0), .int mk, .int re, .int le, .int la])), (b1, .inl (cA, 2000, .inl g1)), (b2, .inl (cA, 2000, .inl g2)), (b3, .inl (cZ, 2000, .inl g3)), (b4, .inl (cA, 2001, .inl g4)), (b5, .inl (cA, 2000, .inl g5))] := hD
  refine lv_aload_n hx hb dX1_clear_5 rfl (lv_at hl 0 rfl) ?_
  refine lv_iconst (v := nI 0) hx hb dX1_clear_6 (by decide) ?_
  refine va_put (D := (dC, dI)) (ci := 1) (v := .int (nI 0)) (ty := .int) (C := RX1) (T := TX1) (N := 10) hx hb hts in_X1_clear tyX1 tyX1_ok nmX1 hown hK hP hD hS 0 rfl rfl 6 (by decide) (hts (.fieldLink RX1 44 "BranchLengthsModel" "marks" "I") (by decide +kernel)) (fun _ h9 => h9) rfl (by decide +kernel) rfl rfl (Nat.le_of_ble_eq_true rfl) dX1_clear_7 (fun H locs hP hD hS => ?_)
  have hP : va_P (dC, dI) vwCl [(h1, .inr (1, [.ref b1, .ref b2, .ref b3, .ref b4, .ref b5, .int (nI 0), .int (nI 0), .int re, .int le, .int la])), (b1, .inl (cA, 2000, .inl g1)), (b2, .inl (cA, 2000, .inl g2)), (b3, .inl (cZ, 2000, .inl g3)), (b4, .inl (cA, 2001, .inl g4)), (b5, .inl (cA, 2000, .inl g5))] H := hP
  have hD : va_D A [(h1, .inr (1, [.ref b1, .ref b2, .ref b3, .ref b4, .ref b5, .int (nI 0), .int (nI 0), .int re, .int le, .int la])), (b1, .inl (cA, 2000, .inl g1)), (b2, .inl (cA, 2000, .inl g2)), (b3, .inl (cZ, 2000, .inl g3)), (b4, .inl (cA, 2001, .inl g4)), (b5, .inl (cA, 2000, .inl g5))] := hD
  refine lv_aload_n hx hb dX1_clear_10 rfl (lv_at hl 0 rfl) ?_
  refine lv_iconst (v := 0) hx hb dX1_clear_11 (by decide) ?_
  refine va_put (D := (dC, dI)) (ci := 1) (v := .int 0) (ty := .boolean) (C := RX1) (T := TX1) (N := 10) hx hb hts in_X1_clear tyX1 tyX1_ok nmX1 hown hK hP hD hS 0 rfl rfl 9 (by decide) (hts (.fieldLink RX1 36 "BranchLengthsModel" "laid" "Z") (by decide +kernel)) (fun _ h9 => h9) rfl (by decide +kernel) rfl rfl (Nat.le_of_ble_eq_true rfl) dX1_clear_12 (fun H locs hP hD hS => ?_)
  have hP : va_P (dC, dI) vwCl [(h1, .inr (1, [.ref b1, .ref b2, .ref b3, .ref b4, .ref b5, .int (nI 0), .int (nI 0), .int re, .int le, .int 0])), (b1, .inl (cA, 2000, .inl g1)), (b2, .inl (cA, 2000, .inl g2)), (b3, .inl (cZ, 2000, .inl g3)), (b4, .inl (cA, 2001, .inl g4)), (b5, .inl (cA, 2000, .inl g5))] H := hP
  have hD : va_D A [(h1, .inr (1, [.ref b1, .ref b2, .ref b3, .ref b4, .ref b5, .int (nI 0), .int (nI 0), .int re, .int le, .int 0])), (b1, .inl (cA, 2000, .inl g1)), (b2, .inl (cA, 2000, .inl g2)), (b3, .inl (cZ, 2000, .inl g3)), (b4, .inl (cA, 2001, .inl g4)), (b5, .inl (cA, 2000, .inl g5))] := hD
  exact W.vret hx hb hr (fun t ht hW => ⟨⟨(), rfl, trivial, by rw [ht]; exact hP, va_K.moved hW.alike hK, hD⟩, hS.F ht⟩) hS.2.2 dX1_clear_15
set_option maxHeartbeats 4000000 in
set_option maxRecDepth 100000 in
/-- place(p), none -/
theorem m_place_out (l : Launch) (dC : Nat → ClassId) (dI : Nat → Nat → Nat) (cA cZ : ClassId) (h1 b1 b2 b3 b4 b5 sz : Nat) (g1 g2 g3 g4 g5 : Nat → Int32) (n : Nat) (mk re le la p1 : Int32) (hp : la = 0 ∨ p1 < 0 ∨ nI n ≤ p1) : na_Mi (S := Unit) l yX1_place wsX1_place ({ frames := 0, cells := 0, slots := 0, locals := 0 }) (dC, dI) vwCl [(cA, .int), (cZ, .boolean)] sz [.ref h1, .int p1] [(h1, .inr (1, [.ref b1, .ref b2, .ref b3, .ref b4, .ref b5, .int (nI n), .int mk, .int re, .int le, .int la])), (b1, .inl (cA, 2000, .inl g1)), (b2, .inl (cA, 2000, .inl g2)), (b3, .inl (cZ, 2000, .inl g3)), (b4, .inl (cA, 2001, .inl g4)), (b5, .inl (cA, 2000, .inl g5))] (fun r _ => r = -1) (fun _ => [(h1, .inr (1, [.ref b1, .ref b2, .ref b3, .ref b4, .ref b5, .int (nI n), .int mk, .int re, .int le, .int la])), (b1, .inl (cA, 2000, .inl g1)), (b2, .inl (cA, 2000, .inl g2)), (b3, .inl (cZ, 2000, .inl g3)), (b4, .inl (cA, 2001, .inl g4)), (b5, .inl (cA, 2000, .inl g5))]) := by
  refine Met.ofW (cc := cX1_place) (maxL := 2) (ret := (some .int)) (by decide) rfl ?_
  intro p e s m args below meth c s₁ B hml hv
  obtain ⟨rfl, hsz, hP, hK, hD0⟩ := hv
  have hx := B.exec
  have hb := B.bytes
  have hr := B.returns
  have hts := atoms_spec (ws := wsX1_place) B.pre
  have hown : s.vm.findClass RX1 = some m.cls := findClass_of_methodNamed B.named
  have hlocks := B.notSynchronized
  subst hsz
  have hD := hD0.self (sz := s.heap.size)
  generalize hAe : va_A [(h1, .inr (1, [.ref b1, .ref b2, .ref b3, .ref b4, .ref b5, .int (nI n), .int mk, .int re, .int le, .int la])), (b1, .inl (cA, 2000, .inl g1)), (b2, .inl (cA, 2000, .inl g2)), (b3, .inl (cZ, 2000, .inl g3)), (b4, .inl (cA, 2001, .inl g4)), (b5, .inl (cA, 2000, .inl g5))] s.heap.size = A at hD ⊢
  have hA : ∀ q : Nat, s.heap.size ≤ q → A q := fun q h => by rw [← hAe]; exact Or.inr h
  have hS : va_S A s.heap s.heap [] := va_S.rf
  have hP : va_P (dC, dI) vwCl [(h1, .inr (1, [.ref b1, .ref b2, .ref b3, .ref b4, .ref b5, .int (nI n), .int mk, .int re, .int le, .int la])), (b1, .inl (cA, 2000, .inl g1)), (b2, .inl (cA, 2000, .inl g2)), (b3, .inl (cZ, 2000, .inl g3)), (b4, .inl (cA, 2001, .inl g4)), (b5, .inl (cA, 2000, .inl g5))] s.heap := hP
  have hl := lv_entry ([.ref h1, .int p1]) (n := 2) (Nat.le_of_ble_eq_true rfl)
  rw [lg_entry_eq]
  generalize (lg_sl ([.ref h1, .int p1]) ++ List.replicate (2 - (lg_sl ([.ref h1, .int p1])).length) Slot.unset).toArray = ls at hl ⊢
  have hl : lv_has ls 2 [(0, .ref h1), (1, .int p1)] := hl
  refine lv_aload_n hx hb dX1_place_0 rfl (lv_at hl 0 rfl) ?_
  refine va_get (D := (dC, dI)) (ci := 1) (v := .int la) (C := RX1) (T := TX1) (N := 10) hx hb hts in_X1_place hown hK hP 0 rfl rfl 9 (by decide) (hts (.fieldLink RX1 36 "BranchLengthsModel" "laid" "Z") (by decide +kernel)) (fun _ h9 => h9) rfl dX1_place_1 ?_
  refine lv_if_eq (tgt := 28) hx hb dX1_place_4 (by decide) (fun hc1 => ?_) (fun hc1 => ?_)
  · refine lv_iconst (v := -1) hx hb dX1_place_28 (by decide) ?_
    exact W.iret (v := (-1)) hx hb hr (fun t ht hW => ⟨⟨(-1), (), rfl, rfl, by rw [ht]; exact hP, va_K.moved hW.alike hK, hD⟩, hS.F ht⟩) hS.2.2 dX1_place_29
  · refine lv_iload_n hx hb dX1_place_7 rfl (lv_at hl 1 rfl) ?_
    refine lv_if_lt (tgt := 28) hx hb dX1_place_8 (by decide) (fun hc2 => ?_) (fun hc2 => ?_)
    · refine lv_iconst (v := -1) hx hb dX1_place_28 (by decide) ?_
      exact W.iret (v := (-1)) hx hb hr (fun t ht hW => ⟨⟨(-1), (), rfl, rfl, by rw [ht]; exact hP, va_K.moved hW.alike hK, hD⟩, hS.F ht⟩) hS.2.2 dX1_place_29
    · refine lv_iload_n hx hb dX1_place_11 rfl (lv_at hl 1 rfl) ?_
      refine lv_aload_n hx hb dX1_place_12 rfl (lv_at hl 0 rfl) ?_
      refine va_get (D := (dC, dI)) (ci := 1) (v := .int (nI n)) (C := RX1) (T := TX1) (N := 10) hx hb hts in_X1_place hown hK hP 0 rfl rfl 5 (by decide) (hts (.fieldLink RX1 33 "BranchLengthsModel" "items" "I") (by decide +kernel)) (fun _ h9 => h9) rfl dX1_place_13 ?_
      refine lv_icmp_ge (tgt := 28) hx hb dX1_place_16 (by decide) (fun hc3 => ?_) (fun hc3 => ?_)
      · refine lv_iconst (v := -1) hx hb dX1_place_28 (by decide) ?_
        exact W.iret (v := (-1)) hx hb hr (fun t ht hW => ⟨⟨(-1), (), rfl, rfl, by rw [ht]; exact hP, va_K.moved hW.alike hK, hD⟩, hS.F ht⟩) hS.2.2 dX1_place_29
      · exact absurd hp (fun q => q.elim hc1 (fun z => z.elim hc2 hc3))
set_option maxHeartbeats 4000000 in
set_option maxRecDepth 100000 in
/-- place(k) -/
theorem m_place_in (l : Launch) (dC : Nat → ClassId) (dI : Nat → Nat → Nat) (cA cZ : ClassId) (h1 b1 b2 b3 b4 b5 sz : Nat) (g1 g2 g3 g4 g5 : Nat → Int32) (n k : Nat) (mk re le la : Int32) (hk : k < n) (hn : n ≤ 2000) (hla : ¬ la = 0) : na_Mi (S := Unit) l yX1_place wsX1_place ({ frames := 0, cells := 0, slots := 0, locals := 0 }) (dC, dI) vwCl [(cA, .int), (cZ, .boolean)] sz [.ref h1, .int (nI k)] [(h1, .inr (1, [.ref b1, .ref b2, .ref b3, .ref b4, .ref b5, .int (nI n), .int mk, .int re, .int le, .int la])), (b1, .inl (cA, 2000, .inl g1)), (b2, .inl (cA, 2000, .inl g2)), (b3, .inl (cZ, 2000, .inl g3)), (b4, .inl (cA, 2001, .inl g4)), (b5, .inl (cA, 2000, .inl g5))] (fun r _ => r = g4 k) (fun _ => [(h1, .inr (1, [.ref b1, .ref b2, .ref b3, .ref b4, .ref b5, .int (nI n), .int mk, .int re, .int le, .int la])), (b1, .inl (cA, 2000, .inl g1)), (b2, .inl (cA, 2000, .inl g2)), (b3, .inl (cZ, 2000, .inl g3)), (b4, .inl (cA, 2001, .inl g4)), (b5, .inl (cA, 2000, .inl g5))]) := by
  refine Met.ofW (cc := cX1_place) (maxL := 2) (ret := (some .int)) (by decide) rfl ?_
  intro p e s m args below meth c s₁ B hml hv
  obtain ⟨rfl, hsz, hP, hK, hD0⟩ := hv
  have hx := B.exec
  have hb := B.bytes
  have hr := B.returns
  have hts := atoms_spec (ws := wsX1_place) B.pre
  have hown : s.vm.findClass RX1 = some m.cls := findClass_of_methodNamed B.named
  have hlocks := B.notSynchronized
  subst hsz
  have hD := hD0.self (sz := s.heap.size)
  generalize hAe : va_A [(h1, .inr (1, [.ref b1, .ref b2, .ref b3, .ref b4, .ref b5, .int (nI n), .int mk, .int re, .int le, .int la])), (b1, .inl (cA, 2000, .inl g1)), (b2, .inl (cA, 2000, .inl g2)), (b3, .inl (cZ, 2000, .inl g3)), (b4, .inl (cA, 2001, .inl g4)), (b5, .inl (cA, 2000, .inl g5))] s.heap.size = A at hD ⊢
  have hA : ∀ q : Nat, s.heap.size ≤ q → A q := fun q h => by rw [← hAe]; exact Or.inr h
  have hS : va_S A s.heap s.heap [] := va_S.rf
  have hP : va_P (dC, dI) vwCl [(h1, .inr (1, [.ref b1, .ref b2, .ref b3, .ref b4, .ref b5, .int (nI n), .int mk, .int re, .int le, .int la])), (b1, .inl (cA, 2000, .inl g1)), (b2, .inl (cA, 2000, .inl g2)), (b3, .inl (cZ, 2000, .inl g3)), (b4, .inl (cA, 2001, .inl g4)), (b5, .inl (cA, 2000, .inl g5))] s.heap := hP
  have hl := lv_entry ([.ref h1, .int (nI k)]) (n := 2) (Nat.le_of_ble_eq_true rfl)
  rw [lg_entry_eq]
  generalize (lg_sl ([.ref h1, .int (nI k)]) ++ List.replicate (2 - (lg_sl ([.ref h1, .int (nI k)])).length) Slot.unset).toArray = ls at hl ⊢
  have hl : lv_has ls 2 [(0, .ref h1), (1, .int (nI k))] := hl
  refine lv_aload_n hx hb dX1_place_0 rfl (lv_at hl 0 rfl) ?_
  refine va_get (D := (dC, dI)) (ci := 1) (v := .int la) (C := RX1) (T := TX1) (N := 10) hx hb hts in_X1_place hown hK hP 0 rfl rfl 9 (by decide) (hts (.fieldLink RX1 36 "BranchLengthsModel" "laid" "Z") (by decide +kernel)) (fun _ h9 => h9) rfl dX1_place_1 ?_
  refine lv_if_eq (tgt := 28) hx hb dX1_place_4 (by decide) (fun hc1 => ?_) (fun hc1 => ?_)
  · exact absurd hc1 hla
  · refine lv_iload_n hx hb dX1_place_7 rfl (lv_at hl 1 rfl) ?_
    refine lv_if_lt (tgt := 28) hx hb dX1_place_8 (by decide) (fun hc2 => ?_) (fun hc2 => ?_)
    · exact absurd hc2 (nI_pos (by omega))
    · refine lv_iload_n hx hb dX1_place_11 rfl (lv_at hl 1 rfl) ?_
      refine lv_aload_n hx hb dX1_place_12 rfl (lv_at hl 0 rfl) ?_
      refine va_get (D := (dC, dI)) (ci := 1) (v := .int (nI n)) (C := RX1) (T := TX1) (N := 10) hx hb hts in_X1_place hown hK hP 0 rfl rfl 5 (by decide) (hts (.fieldLink RX1 33 "BranchLengthsModel" "items" "I") (by decide +kernel)) (fun _ h9 => h9) rfl dX1_place_13 ?_
      refine lv_icmp_ge (tgt := 28) hx hb dX1_place_16 (by decide) (fun hc3 => ?_) (fun hc3 => ?_)
      · exact absurd hc3 (nI_ge hk (by omega))
      · refine lv_aload_n hx hb dX1_place_19 rfl (lv_at hl 0 rfl) ?_
        refine va_get (D := (dC, dI)) (ci := 1) (v := .ref b4) (C := RX1) (T := TX1) (N := 10) hx hb hts in_X1_place hown hK hP 0 rfl rfl 3 (by decide) (hts (.fieldLink RX1 20 "BranchLengthsModel" "places" "[I") (by decide +kernel)) (fun _ h9 => h9) rfl dX1_place_20 ?_
        refine lv_iload_n hx hb dX1_place_23 rfl (lv_at hl 1 rfl) ?_
        refine na_iald (k := k) hx hb hK hP 4 0 rfl rfl (by omega) (by decide) dX1_place_24 ?_
        refine lv_goto (tgt := 29) hx hb dX1_place_25 (by decide) ?_
        exact W.iret (v := (g4 k)) hx hb hr (fun t ht hW => ⟨⟨(g4 k), (), rfl, rfl, by rw [ht]; exact hP, va_K.moved hW.alike hK, hD⟩, hS.F ht⟩) hS.2.2 dX1_place_29
set_option maxHeartbeats 4000000 in
set_option maxRecDepth 100000 in
/-- isLong(p), none -/
theorem m_isLong_out (l : Launch) (dC : Nat → ClassId) (dI : Nat → Nat → Nat) (cA cZ : ClassId) (h1 b1 b2 b3 b4 b5 sz : Nat) (g1 g2 g3 g4 g5 : Nat → Int32) (n : Nat) (mk re le la p1 : Int32) (hp : la = 0 ∨ p1 < 0 ∨ nI n ≤ p1) : na_Mi (S := Unit) l yX1_isLong wsX1_isLong ({ frames := 0, cells := 0, slots := 0, locals := 0 }) (dC, dI) vwCl [(cA, .int), (cZ, .boolean)] sz [.ref h1, .int p1] [(h1, .inr (1, [.ref b1, .ref b2, .ref b3, .ref b4, .ref b5, .int (nI n), .int mk, .int re, .int le, .int la])), (b1, .inl (cA, 2000, .inl g1)), (b2, .inl (cA, 2000, .inl g2)), (b3, .inl (cZ, 2000, .inl g3)), (b4, .inl (cA, 2001, .inl g4)), (b5, .inl (cA, 2000, .inl g5))] (fun r _ => r = 0) (fun _ => [(h1, .inr (1, [.ref b1, .ref b2, .ref b3, .ref b4, .ref b5, .int (nI n), .int mk, .int re, .int le, .int la])), (b1, .inl (cA, 2000, .inl g1)), (b2, .inl (cA, 2000, .inl g2)), (b3, .inl (cZ, 2000, .inl g3)), (b4, .inl (cA, 2001, .inl g4)), (b5, .inl (cA, 2000, .inl g5))]) := by
  refine Met.ofW (cc := cX1_isLong) (maxL := 2) (ret := (some .boolean)) (by decide) rfl ?_
  intro p e s m args below meth c s₁ B hml hv
  obtain ⟨rfl, hsz, hP, hK, hD0⟩ := hv
  have hx := B.exec
  have hb := B.bytes
  have hr := B.returns
  have hts := atoms_spec (ws := wsX1_isLong) B.pre
  have hown : s.vm.findClass RX1 = some m.cls := findClass_of_methodNamed B.named
  have hlocks := B.notSynchronized
  subst hsz
  have hD := hD0.self (sz := s.heap.size)
  generalize hAe : va_A [(h1, .inr (1, [.ref b1, .ref b2, .ref b3, .ref b4, .ref b5, .int (nI n), .int mk, .int re, .int le, .int la])), (b1, .inl (cA, 2000, .inl g1)), (b2, .inl (cA, 2000, .inl g2)), (b3, .inl (cZ, 2000, .inl g3)), (b4, .inl (cA, 2001, .inl g4)), (b5, .inl (cA, 2000, .inl g5))] s.heap.size = A at hD ⊢
  have hA : ∀ q : Nat, s.heap.size ≤ q → A q := fun q h => by rw [← hAe]; exact Or.inr h
  have hS : va_S A s.heap s.heap [] := va_S.rf
  have hP : va_P (dC, dI) vwCl [(h1, .inr (1, [.ref b1, .ref b2, .ref b3, .ref b4, .ref b5, .int (nI n), .int mk, .int re, .int le, .int la])), (b1, .inl (cA, 2000, .inl g1)), (b2, .inl (cA, 2000, .inl g2)), (b3, .inl (cZ, 2000, .inl g3)), (b4, .inl (cA, 2001, .inl g4)), (b5, .inl (cA, 2000, .inl g5))] s.heap := hP
  have hl := lv_entry ([.ref h1, .int p1]) (n := 2) (Nat.le_of_ble_eq_true rfl)
  rw [lg_entry_eq]
  generalize (lg_sl ([.ref h1, .int p1]) ++ List.replicate (2 - (lg_sl ([.ref h1, .int p1])).length) Slot.unset).toArray = ls at hl ⊢
  have hl : lv_has ls 2 [(0, .ref h1), (1, .int p1)] := hl
  refine lv_aload_n hx hb dX1_isLong_0 rfl (lv_at hl 0 rfl) ?_
  refine va_get (D := (dC, dI)) (ci := 1) (v := .int la) (C := RX1) (T := TX1) (N := 10) hx hb hts in_X1_isLong hown hK hP 0 rfl rfl 9 (by decide) (hts (.fieldLink RX1 36 "BranchLengthsModel" "laid" "Z") (by decide +kernel)) (fun _ h9 => h9) rfl dX1_isLong_1 ?_
  refine lv_if_eq (tgt := 42) hx hb dX1_isLong_4 (by decide) (fun hc1 => ?_) (fun hc1 => ?_)
  · refine lv_iconst (v := 0) hx hb dX1_isLong_42 (by decide) ?_
    exact W.zret (v := 0) hx hb hr rfl (fun t ht hW => ⟨⟨0, (), rfl, rfl, by rw [ht]; exact hP, va_K.moved hW.alike hK, hD⟩, hS.F ht⟩) hS.2.2 dX1_isLong_43
  · refine lv_iload_n hx hb dX1_isLong_7 rfl (lv_at hl 1 rfl) ?_
    refine lv_if_lt (tgt := 42) hx hb dX1_isLong_8 (by decide) (fun hc2 => ?_) (fun hc2 => ?_)
    · refine lv_iconst (v := 0) hx hb dX1_isLong_42 (by decide) ?_
      exact W.zret (v := 0) hx hb hr rfl (fun t ht hW => ⟨⟨0, (), rfl, rfl, by rw [ht]; exact hP, va_K.moved hW.alike hK, hD⟩, hS.F ht⟩) hS.2.2 dX1_isLong_43
    · refine lv_iload_n hx hb dX1_isLong_11 rfl (lv_at hl 1 rfl) ?_
      refine lv_aload_n hx hb dX1_isLong_12 rfl (lv_at hl 0 rfl) ?_
      refine va_get (D := (dC, dI)) (ci := 1) (v := .int (nI n)) (C := RX1) (T := TX1) (N := 10) hx hb hts in_X1_isLong hown hK hP 0 rfl rfl 5 (by decide) (hts (.fieldLink RX1 33 "BranchLengthsModel" "items" "I") (by decide +kernel)) (fun _ h9 => h9) rfl dX1_isLong_13 ?_
      refine lv_icmp_ge (tgt := 42) hx hb dX1_isLong_16 (by decide) (fun hc3 => ?_) (fun hc3 => ?_)
      · refine lv_iconst (v := 0) hx hb dX1_isLong_42 (by decide) ?_
        exact W.zret (v := 0) hx hb hr rfl (fun t ht hW => ⟨⟨0, (), rfl, rfl, by rw [ht]; exact hP, va_K.moved hW.alike hK, hD⟩, hS.F ht⟩) hS.2.2 dX1_isLong_43
      · exact absurd hp (fun q => q.elim hc1 (fun z => z.elim hc2 hc3))
set_option maxHeartbeats 4000000 in
set_option maxRecDepth 100000 in
/-- isLong(k) -/
theorem m_isLong_in (l : Launch) (dC : Nat → ClassId) (dI : Nat → Nat → Nat) (cA cZ : ClassId) (h1 b1 b2 b3 b4 b5 sz : Nat) (g1 g2 g3 g4 g5 : Nat → Int32) (n k : Nat) (mk re le la : Int32) (hk : k < n) (hn : n ≤ 2000) (hla : ¬ la = 0) : na_Mi (S := Unit) l yX1_isLong wsX1_isLong ({ frames := 0, cells := 0, slots := 0, locals := 0 }) (dC, dI) vwCl [(cA, .int), (cZ, .boolean)] sz [.ref h1, .int (nI k)] [(h1, .inr (1, [.ref b1, .ref b2, .ref b3, .ref b4, .ref b5, .int (nI n), .int mk, .int re, .int le, .int la])), (b1, .inl (cA, 2000, .inl g1)), (b2, .inl (cA, 2000, .inl g2)), (b3, .inl (cZ, 2000, .inl g3)), (b4, .inl (cA, 2001, .inl g4)), (b5, .inl (cA, 2000, .inl g5))] (fun r _ => r = if (g1 k = 2 ∧ ¬ g3 k = 0) then 1 else 0) (fun _ => [(h1, .inr (1, [.ref b1, .ref b2, .ref b3, .ref b4, .ref b5, .int (nI n), .int mk, .int re, .int le, .int la])), (b1, .inl (cA, 2000, .inl g1)), (b2, .inl (cA, 2000, .inl g2)), (b3, .inl (cZ, 2000, .inl g3)), (b4, .inl (cA, 2001, .inl g4)), (b5, .inl (cA, 2000, .inl g5))]) := by
  refine Met.ofW (cc := cX1_isLong) (maxL := 2) (ret := (some .boolean)) (by decide) rfl ?_
  intro p e s m args below meth c s₁ B hml hv
  obtain ⟨rfl, hsz, hP, hK, hD0⟩ := hv
  have hx := B.exec
  have hb := B.bytes
  have hr := B.returns
  have hts := atoms_spec (ws := wsX1_isLong) B.pre
  have hown : s.vm.findClass RX1 = some m.cls := findClass_of_methodNamed B.named
  have hlocks := B.notSynchronized
  subst hsz
  have hD := hD0.self (sz := s.heap.size)
  generalize hAe : va_A [(h1, .inr (1, [.ref b1, .ref b2, .ref b3, .ref b4, .ref b5, .int (nI n), .int mk, .int re, .int le, .int la])), (b1, .inl (cA, 2000, .inl g1)), (b2, .inl (cA, 2000, .inl g2)), (b3, .inl (cZ, 2000, .inl g3)), (b4, .inl (cA, 2001, .inl g4)), (b5, .inl (cA, 2000, .inl g5))] s.heap.size = A at hD ⊢
  have hA : ∀ q : Nat, s.heap.size ≤ q → A q := fun q h => by rw [← hAe]; exact Or.inr h
  have hS : va_S A s.heap s.heap [] := va_S.rf
  have hP : va_P (dC, dI) vwCl [(h1, .inr (1, [.ref b1, .ref b2, .ref b3, .ref b4, .ref b5, .int (nI n), .int mk, .int re, .int le, .int la])), (b1, .inl (cA, 2000, .inl g1)), (b2, .inl (cA, 2000, .inl g2)), (b3, .inl (cZ, 2000, .inl g3)), (b4, .inl (cA, 2001, .inl g4)), (b5, .inl (cA, 2000, .inl g5))] s.heap := hP
  have hl := lv_entry ([.ref h1, .int (nI k)]) (n := 2) (Nat.le_of_ble_eq_true rfl)
  rw [lg_entry_eq]
  generalize (lg_sl ([.ref h1, .int (nI k)]) ++ List.replicate (2 - (lg_sl ([.ref h1, .int (nI k)])).length) Slot.unset).toArray = ls at hl ⊢
  have hl : lv_has ls 2 [(0, .ref h1), (1, .int (nI k))] := hl
  refine lv_aload_n hx hb dX1_isLong_0 rfl (lv_at hl 0 rfl) ?_
  refine va_get (D := (dC, dI)) (ci := 1) (v := .int la) (C := RX1) (T := TX1) (N := 10) hx hb hts in_X1_isLong hown hK hP 0 rfl rfl 9 (by decide) (hts (.fieldLink RX1 36 "BranchLengthsModel" "laid" "Z") (by decide +kernel)) (fun _ h9 => h9) rfl dX1_isLong_1 ?_
  refine lv_if_eq (tgt := 42) hx hb dX1_isLong_4 (by decide) (fun hc1 => ?_) (fun hc1 => ?_)
  · exact absurd hc1 hla
  · refine lv_iload_n hx hb dX1_isLong_7 rfl (lv_at hl 1 rfl) ?_
    refine lv_if_lt (tgt := 42) hx hb dX1_isLong_8 (by decide) (fun hc2 => ?_) (fun hc2 => ?_)
    · exact absurd hc2 (nI_pos (by omega))
    · refine lv_iload_n hx hb dX1_isLong_11 rfl (lv_at hl 1 rfl) ?_
      refine lv_aload_n hx hb dX1_isLong_12 rfl (lv_at hl 0 rfl) ?_
      refine va_get (D := (dC, dI)) (ci := 1) (v := .int (nI n)) (C := RX1) (T := TX1) (N := 10) hx hb hts in_X1_isLong hown hK hP 0 rfl rfl 5 (by decide) (hts (.fieldLink RX1 33 "BranchLengthsModel" "items" "I") (by decide +kernel)) (fun _ h9 => h9) rfl dX1_isLong_13 ?_
      refine lv_icmp_ge (tgt := 42) hx hb dX1_isLong_16 (by decide) (fun hc3 => ?_) (fun hc3 => ?_)
      · exact absurd hc3 (nI_ge hk (by omega))
      · refine lv_aload_n hx hb dX1_isLong_19 rfl (lv_at hl 0 rfl) ?_
        refine va_get (D := (dC, dI)) (ci := 1) (v := .ref b1) (C := RX1) (T := TX1) (N := 10) hx hb hts in_X1_isLong hown hK hP 0 rfl rfl 0 (by decide) (hts (.fieldLink RX1 9 "BranchLengthsModel" "kinds" "[I") (by decide +kernel)) (fun _ h9 => h9) rfl dX1_isLong_20 ?_
        refine lv_iload_n hx hb dX1_isLong_23 rfl (lv_at hl 1 rfl) ?_
        refine na_iald (k := k) hx hb hK hP 1 0 rfl rfl (by omega) (by decide) dX1_isLong_24 ?_
        refine lv_iconst (v := 2) hx hb dX1_isLong_25 (by decide) ?_
        refine lv_icmp_ne (tgt := 42) hx hb dX1_isLong_26 (by decide) (fun hc4 => ?_) (fun hc4 => ?_)
        · refine lv_iconst (v := 0) hx hb dX1_isLong_42 (by decide) ?_
          exact W.zret (v := 0) hx hb hr rfl (fun t ht hW => ⟨⟨0, (), rfl, (if_neg (fun z => hc4 z.1)).symm, by rw [ht]; exact hP, va_K.moved hW.alike hK, hD⟩, hS.F ht⟩) hS.2.2 dX1_isLong_43
        · refine lv_aload_n hx hb dX1_isLong_29 rfl (lv_at hl 0 rfl) ?_
          refine va_get (D := (dC, dI)) (ci := 1) (v := .ref b3) (C := RX1) (T := TX1) (N := 10) hx hb hts in_X1_isLong hown hK hP 0 rfl rfl 2 (by decide) (hts (.fieldLink RX1 16 "BranchLengthsModel" "longOnes" "[Z") (by decide +kernel)) (fun _ h9 => h9) rfl dX1_isLong_30 ?_
          refine lv_iload_n hx hb dX1_isLong_33 rfl (lv_at hl 1 rfl) ?_
          refine na_zald (k := k) hx hb hK hP 3 1 rfl rfl (by omega) (by decide) dX1_isLong_34 ?_
          refine lv_if_eq (tgt := 42) hx hb dX1_isLong_35 (by decide) (fun hc5 => ?_) (fun hc5 => ?_)
          · refine lv_iconst (v := 0) hx hb dX1_isLong_42 (by decide) ?_
            exact W.zret (v := 0) hx hb hr rfl (fun t ht hW => ⟨⟨0, (), rfl, (if_neg (fun z => z.2 hc5)).symm, by rw [ht]; exact hP, va_K.moved hW.alike hK, hD⟩, hS.F ht⟩) hS.2.2 dX1_isLong_43
          · refine lv_iconst (v := 1) hx hb dX1_isLong_38 (by decide) ?_
            refine lv_goto (tgt := 43) hx hb dX1_isLong_39 (by decide) ?_
            exact W.zret (v := 1) hx hb hr rfl (fun t ht hW => ⟨⟨1, (), rfl, (if_pos ⟨hc4, hc5⟩).symm, by rw [ht]; exact hP, va_K.moved hW.alike hK, hD⟩, hS.F ht⟩) hS.2.2 dX1_isLong_43
end
section
set_option maxHeartbeats 4000000 in
set_option maxRecDepth 100000 in
/-- addUp() -/
theorem m_addUp (l : Launch) (dC : Nat → ClassId) (dI : Nat → Nat → Nat) (cA cZ : ClassId) (h1 b1 b2 b3 b4 b5 sz : Nat) (g1 g2 g3 g4 g5 : Nat → Int32) (n : Nat) (mk re le la : Int32) (hn : n < 2000) : na_Mv (S := Unit) l yX1_addUp wsX1_addUp ({ frames := 0, cells := 0, slots := 0, locals := 0 }) (dC, dI) vwCl [(cA, .int), (cZ, .boolean)] sz [.ref h1] [(h1, .inr (1, [.ref b1, .ref b2, .ref b3, .ref b4, .ref b5, .int (nI n), .int mk, .int re, .int le, .int la])), (b1, .inl (cA, 2000, .inl g1)), (b2, .inl (cA, 2000, .inl g2)), (b3, .inl (cZ, 2000, .inl g3)), (b4, .inl (cA, 2001, .inl g4)), (b5, .inl (cA, 2000, .inl g5))] (fun _ => True) (fun _ => [(h1, .inr (1, [.ref b1, .ref b2, .ref b3, .ref b4, .ref b5, .int (nI n), .int mk, .int re, .int le, .int la])), (b1, .inl (cA, 2000, .inl g1)), (b2, .inl (cA, 2000, .inl g2)), (b3, .inl (cZ, 2000, .inl g3)), (b4, .inl (cA, 2001, .inl (mA (mV g1 g2 g3) g4 n))), (b5, .inl (cA, 2000, .inl g5))]) := by
  refine Met.ofW (cc := cX1_addUp) (maxL := 2) (ret := none) (by decide) rfl ?_
  intro p e s m args below meth c s₁ B hml hv
  obtain ⟨rfl, hsz, hP, hK, hD0⟩ := hv
  have hx := B.exec
  have hb := B.bytes
  have hr := B.returns
  have hts := atoms_spec (ws := wsX1_addUp) B.pre
  have hown : s.vm.findClass RX1 = some m.cls := findClass_of_methodNamed B.named
  have hlocks := B.notSynchronized
  subst hsz
  have hD := hD0.self (sz := s.heap.size)
  generalize hAe : va_A [(h1, .inr (1, [.ref b1, .ref b2, .ref b3, .ref b4, .ref b5, .int (nI n), .int mk, .int re, .int le, .int la])), (b1, .inl (cA, 2000, .inl g1)), (b2, .inl (cA, 2000, .inl g2)), (b3, .inl (cZ, 2000, .inl g3)), (b4, .inl (cA, 2001, .inl g4)), (b5, .inl (cA, 2000, .inl g5))] s.heap.size = A at hD ⊢
  have hA : ∀ q : Nat, s.heap.size ≤ q → A q := fun q h => by rw [← hAe]; exact Or.inr h
  have hS : va_S A s.heap s.heap [] := va_S.rf
  have hP : va_P (dC, dI) vwCl [(h1, .inr (1, [.ref b1, .ref b2, .ref b3, .ref b4, .ref b5, .int (nI n), .int mk, .int re, .int le, .int la])), (b1, .inl (cA, 2000, .inl g1)), (b2, .inl (cA, 2000, .inl g2)), (b3, .inl (cZ, 2000, .inl g3)), (b4, .inl (cA, 2001, .inl g4)), (b5, .inl (cA, 2000, .inl g5))] s.heap := hP
  have hl := lv_entry ([.ref h1]) (n := 2) (Nat.le_of_ble_eq_true rfl)
  rw [lg_entry_eq]
  generalize (lg_sl ([.ref h1]) ++ List.replicate (2 - (lg_sl ([.ref h1])).length) Slot.unset).toArray = ls at hl ⊢
  have hl : lv_has ls 2 [(0, .ref h1)] := hl
  refine lv_aload_n hx hb dX1_addUp_0 rfl (lv_at hl 0 rfl) ?_
  refine va_get (D := (dC, dI)) (ci := 1) (v := .ref b4) (C := RX1) (T := TX1) (N := 10) hx hb hts in_X1_addUp hown hK hP 0 rfl rfl 3 (by decide) (hts (.fieldLink RX1 20 "BranchLengthsModel" "places" "[I") (by decide +kernel)) (fun _ h9 => h9) rfl dX1_addUp_1 ?_
  refine lv_iconst (v := nI 0) hx hb dX1_addUp_4 (by decide) ?_
  refine lv_iconst (v := bx_sum (mV g1 g2 g3) 0) hx hb dX1_addUp_5 rfl ?_
  refine na_iast (k := 0) hx hb hK hP hD hS 4 0 rfl rfl (by decide) (by decide) (mA (mV g1 g2 g3) g4 0) (mA_0 (mV g1 g2 g3) g4) dX1_addUp_6 (fun H locs hP hD hS => ?_)
  have hP : va_P (dC, dI) vwCl [(h1, .inr (1, [.ref b1, .ref b2, .ref b3, .ref b4, .ref b5, .int (nI n), .int mk, .int re, .int le, .int la])), (b1, .inl (cA, 2000, .inl g1)), (b2, .inl (cA, 2000, .inl g2)), (b3, .inl (cZ, 2000, .inl g3)), (b4, .inl (cA, 2001, .inl (mA (mV g1 g2 g3) g4 0))), (b5, .inl (cA, 2000, .inl g5))] H := hP
  have hD : va_D A [(h1, .inr (1, [.ref b1, .ref b2, .ref b3, .ref b4, .ref b5, .int (nI n), .int mk, .int re, .int le, .int la])), (b1, .inl (cA, 2000, .inl g1)), (b2, .inl (cA, 2000, .inl g2)), (b3, .inl (cZ, 2000, .inl g3)), (b4, .inl (cA, 2001, .inl (mA (mV g1 g2 g3) g4 0))), (b5, .inl (cA, 2000, .inl g5))] := hD
  refine lv_iconst (v := nI 0) hx hb dX1_addUp_7 (by decide) ?_
  refine lv_istore_n (lv' := [(1, .int (nI 0)), (0, .ref h1)]) hx hb dX1_addUp_8 rfl hl (by decide) rfl (fun ls hl => ?_)
  refine na_loop (pc := 9) (fun (d : Nat) (k : Nat) (H : Heap) (locs : List Loc) (ls : Array Slot) => (k ≤ n ∧ d = n - k) ∧ va_P (dC, dI) vwCl [(h1, .inr (1, [.ref b1, .ref b2, .ref b3, .ref b4, .ref b5, .int (nI n), .int mk, .int re, .int le, .int la])), (b1, .inl (cA, 2000, .inl g1)), (b2, .inl (cA, 2000, .inl g2)), (b3, .inl (cZ, 2000, .inl g3)), (b4, .inl (cA, 2001, .inl (mA (mV g1 g2 g3) g4 k))), (b5, .inl (cA, 2000, .inl g5))] H ∧ va_D A [(h1, .inr (1, [.ref b1, .ref b2, .ref b3, .ref b4, .ref b5, .int (nI n), .int mk, .int re, .int le, .int la])), (b1, .inl (cA, 2000, .inl g1)), (b2, .inl (cA, 2000, .inl g2)), (b3, .inl (cZ, 2000, .inl g3)), (b4, .inl (cA, 2001, .inl (mA (mV g1 g2 g3) g4 k))), (b5, .inl (cA, 2000, .inl g5))] ∧ va_S A s.heap H locs ∧ lv_has ls 2 [(0, .ref h1), (1, .int (nI k))]) ?_ (n - 0) (0) ⟨⟨Nat.zero_le _, rfl⟩, hP, hD, hS, lv_sub hl [1, 0] rfl⟩
  intro d k H locs ls hI ih
  obtain ⟨⟨hkn, hd⟩, hP, hD, hS, hl⟩ := hI
  refine lv_iload_n hx hb dX1_addUp_9 rfl (lv_at hl 1 rfl) ?_
  refine lv_aload_n hx hb dX1_addUp_10 rfl (lv_at hl 0 rfl) ?_
  refine va_get (D := (dC, dI)) (ci := 1) (v := .int (nI n)) (C := RX1) (T := TX1) (N := 10) hx hb hts in_X1_addUp hown hK hP 0 rfl rfl 5 (by decide) (hts (.fieldLink RX1 33 "BranchLengthsModel" "items" "I") (by decide +kernel)) (fun _ h9 => h9) rfl dX1_addUp_11 ?_
  refine lv_icmp_ge (tgt := 84) hx hb dX1_addUp_14 (by decide) (fun hc => ?_) (fun hc => ?_)
  · have hkn' := na_ge (by omega) hkn hc
    subst hkn'
    exact W.vret hx hb hr (fun t ht hW => ⟨⟨(), rfl, trivial, by rw [ht]; exact hP, va_K.moved hW.alike hK, hD⟩, hS.F ht⟩) hS.2.2 dX1_addUp_84
  · have hlt := na_nge (by omega) hkn hc
    refine lv_aload_n hx hb dX1_addUp_17 rfl (lv_at hl 0 rfl) ?_
    refine va_get (D := (dC, dI)) (ci := 1) (v := .ref b4) (C := RX1) (T := TX1) (N := 10) hx hb hts in_X1_addUp hown hK hP 0 rfl rfl 3 (by decide) (hts (.fieldLink RX1 20 "BranchLengthsModel" "places" "[I") (by decide +kernel)) (fun _ h9 => h9) rfl dX1_addUp_18 ?_
    refine lv_iload_n hx hb dX1_addUp_21 rfl (lv_at hl 1 rfl) ?_
    refine lv_iconst (v := 1) hx hb dX1_addUp_22 (by decide) ?_
    refine lv_iadd hx hb dX1_addUp_23 ?_
    refine na_eqi (y := nI (k + 1)) (nI_1 k) ?_
    refine lv_aload_n hx hb dX1_addUp_24 rfl (lv_at hl 0 rfl) ?_
    refine va_get (D := (dC, dI)) (ci := 1) (v := .ref b4) (C := RX1) (T := TX1) (N := 10) hx hb hts in_X1_addUp hown hK hP 0 rfl rfl 3 (by decide) (hts (.fieldLink RX1 20 "BranchLengthsModel" "places" "[I") (by decide +kernel)) (fun _ h9 => h9) rfl dX1_addUp_25 ?_
    refine lv_iload_n hx hb dX1_addUp_28 rfl (lv_at hl 1 rfl) ?_
    refine na_iald (k := k) hx hb hK hP 4 0 rfl rfl (by omega) (by decide) dX1_addUp_29 ?_
    refine na_eqi (y := bx_sum (mV g1 g2 g3) k) (mA_at (mV g1 g2 g3) g4 k) ?_
    refine lv_aload_n hx hb dX1_addUp_30 rfl (lv_at hl 0 rfl) ?_
    refine va_get (D := (dC, dI)) (ci := 1) (v := .ref b1) (C := RX1) (T := TX1) (N := 10) hx hb hts in_X1_addUp hown hK hP 0 rfl rfl 0 (by decide) (hts (.fieldLink RX1 9 "BranchLengthsModel" "kinds" "[I") (by decide +kernel)) (fun _ h9 => h9) rfl dX1_addUp_31 ?_
    refine lv_iload_n hx hb dX1_addUp_34 rfl (lv_at hl 1 rfl) ?_
    refine na_iald (k := k) hx hb hK hP 1 0 rfl rfl (by omega) (by decide) dX1_addUp_35 ?_
    refine lv_if_ne (tgt := 48) hx hb dX1_addUp_36 (by decide) (fun hc2 => ?_) (fun hc2 => ?_)
    · refine lv_aload_n hx hb dX1_addUp_48 rfl (lv_at hl 0 rfl) ?_
      refine va_get (D := (dC, dI)) (ci := 1) (v := .ref b1) (C := RX1) (T := TX1) (N := 10) hx hb hts in_X1_addUp hown hK hP 0 rfl rfl 0 (by decide) (hts (.fieldLink RX1 9 "BranchLengthsModel" "kinds" "[I") (by decide +kernel)) (fun _ h9 => h9) rfl dX1_addUp_49 ?_
      refine lv_iload_n hx hb dX1_addUp_52 rfl (lv_at hl 1 rfl) ?_
      refine na_iald (k := k) hx hb hK hP 1 0 rfl rfl (by omega) (by decide) dX1_addUp_53 ?_
      refine lv_iconst (v := 1) hx hb dX1_addUp_54 (by decide) ?_
      refine lv_icmp_ne (tgt := 62) hx hb dX1_addUp_55 (by decide) (fun hc3 => ?_) (fun hc3 => ?_)
      · refine lv_aload_n hx hb dX1_addUp_62 rfl (lv_at hl 0 rfl) ?_
        refine va_get (D := (dC, dI)) (ci := 1) (v := .ref b3) (C := RX1) (T := TX1) (N := 10) hx hb hts in_X1_addUp hown hK hP 0 rfl rfl 2 (by decide) (hts (.fieldLink RX1 16 "BranchLengthsModel" "longOnes" "[Z") (by decide +kernel)) (fun _ h9 => h9) rfl dX1_addUp_63 ?_
        refine lv_iload_n hx hb dX1_addUp_66 rfl (lv_at hl 1 rfl) ?_
        refine na_zald (k := k) hx hb hK hP 3 1 rfl rfl (by omega) (by decide) dX1_addUp_67 ?_
        refine lv_if_eq (tgt := 75) hx hb dX1_addUp_68 (by decide) (fun hc4 => ?_) (fun hc4 => ?_)
        · have hv : mV g1 g2 g3 k = 1 := (if_neg hc2).trans ((if_neg hc3).trans (if_pos hc4))
          refine lv_iconst (v := 1) hx hb dX1_addUp_75 (by decide) ?_
          refine lv_iadd hx hb dX1_addUp_76 ?_
          refine na_eqi (y := bx_sum (mV g1 g2 g3) (k + 1)) (by show _ = bx_sum (mV g1 g2 g3) k + mV g1 g2 g3 k; rw [hv]) ?_
          refine na_iast (k := (k + 1)) hx hb hK hP hD hS 4 0 rfl rfl (by omega) (by decide) (mA (mV g1 g2 g3) g4 (k + 1)) (mA_s (mV g1 g2 g3) g4 k) dX1_addUp_77 (fun H locs hP hD hS => ?_)
          have hP : va_P (dC, dI) vwCl [(h1, .inr (1, [.ref b1, .ref b2, .ref b3, .ref b4, .ref b5, .int (nI n), .int mk, .int re, .int le, .int la])), (b1, .inl (cA, 2000, .inl g1)), (b2, .inl (cA, 2000, .inl g2)), (b3, .inl (cZ, 2000, .inl g3)), (b4, .inl (cA, 2001, .inl (mA (mV g1 g2 g3) g4 (k + 1)))), (b5, .inl (cA, 2000, .inl g5))] H := hP
          have hD : va_D A [(h1, .inr (1, [.ref b1, .ref b2, .ref b3, .ref b4, .ref b5, .int (nI n), .int mk, .int re, .int le, .int la])), (b1, .inl (cA, 2000, .inl g1)), (b2, .inl (cA, 2000, .inl g2)), (b3, .inl (cZ, 2000, .inl g3)), (b4, .inl (cA, 2001, .inl (mA (mV g1 g2 g3) g4 (k + 1)))), (b5, .inl (cA, 2000, .inl g5))] := hD
          refine lv_iinc (v := nI (k + 1)) (lv' := [(1, .int (nI (k + 1))), (0, .ref h1)]) hx hb dX1_addUp_78 hl (k := 1) rfl (nI_1 _) (by decide) rfl (fun ls hl => ?_)
          refine lv_goto (tgt := 9) hx hb dX1_addUp_81 (by decide) ?_
          exact ih (n - (k + 1)) (k + 1) _ _ _ (by omega) ⟨⟨by omega, rfl⟩, hP, hD, hS, lv_sub hl [1, 0] rfl⟩
        · have hv : mV g1 g2 g3 k = 2 := (if_neg hc2).trans ((if_neg hc3).trans (if_neg hc4))
          refine lv_iconst (v := 2) hx hb dX1_addUp_71 (by decide) ?_
          refine lv_goto (tgt := 76) hx hb dX1_addUp_72 (by decide) ?_
          refine lv_iadd hx hb dX1_addUp_76 ?_
          refine na_eqi (y := bx_sum (mV g1 g2 g3) (k + 1)) (by show _ = bx_sum (mV g1 g2 g3) k + mV g1 g2 g3 k; rw [hv]) ?_
          refine na_iast (k := (k + 1)) hx hb hK hP hD hS 4 0 rfl rfl (by omega) (by decide) (mA (mV g1 g2 g3) g4 (k + 1)) (mA_s (mV g1 g2 g3) g4 k) dX1_addUp_77 (fun H locs hP hD hS => ?_)
          have hP : va_P (dC, dI) vwCl [(h1, .inr (1, [.ref b1, .ref b2, .ref b3, .ref b4, .ref b5, .int (nI n), .int mk, .int re, .int le, .int la])), (b1, .inl (cA, 2000, .inl g1)), (b2, .inl (cA, 2000, .inl g2)), (b3, .inl (cZ, 2000, .inl g3)), (b4, .inl (cA, 2001, .inl (mA (mV g1 g2 g3) g4 (k + 1)))), (b5, .inl (cA, 2000, .inl g5))] H := hP
          have hD : va_D A [(h1, .inr (1, [.ref b1, .ref b2, .ref b3, .ref b4, .ref b5, .int (nI n), .int mk, .int re, .int le, .int la])), (b1, .inl (cA, 2000, .inl g1)), (b2, .inl (cA, 2000, .inl g2)), (b3, .inl (cZ, 2000, .inl g3)), (b4, .inl (cA, 2001, .inl (mA (mV g1 g2 g3) g4 (k + 1)))), (b5, .inl (cA, 2000, .inl g5))] := hD
          refine lv_iinc (v := nI (k + 1)) (lv' := [(1, .int (nI (k + 1))), (0, .ref h1)]) hx hb dX1_addUp_78 hl (k := 1) rfl (nI_1 _) (by decide) rfl (fun ls hl => ?_)
          refine lv_goto (tgt := 9) hx hb dX1_addUp_81 (by decide) ?_
          exact ih (n - (k + 1)) (k + 1) _ _ _ (by omega) ⟨⟨by omega, rfl⟩, hP, hD, hS, lv_sub hl [1, 0] rfl⟩
      · have hv : mV g1 g2 g3 k = 0 := (if_neg hc2).trans (if_pos hc3)
        refine lv_iconst (v := 0) hx hb dX1_addUp_58 (by decide) ?_
        refine lv_goto (tgt := 76) hx hb dX1_addUp_59 (by decide) ?_
        refine lv_iadd hx hb dX1_addUp_76 ?_
        refine na_eqi (y := bx_sum (mV g1 g2 g3) (k + 1)) (by show _ = bx_sum (mV g1 g2 g3) k + mV g1 g2 g3 k; rw [hv]) ?_
        refine na_iast (k := (k + 1)) hx hb hK hP hD hS 4 0 rfl rfl (by omega) (by decide) (mA (mV g1 g2 g3) g4 (k + 1)) (mA_s (mV g1 g2 g3) g4 k) dX1_addUp_77 (fun H locs hP hD hS => ?_)
        have hP : va_P (dC, dI) vwCl [(h1, .inr (1, [.ref b1, .ref b2, .ref b3, .ref b4, .ref b5, .int (nI n), .int mk, .int re, .int le, .int la])), (b1, .inl (cA, 2000, .inl g1)), (b2, .inl (cA, 2000, .inl g2)), (b3, .inl (cZ, 2000, .inl g3)), (b4, .inl (cA, 2001, .inl (mA (mV g1 g2 g3) g4 (k + 1)))), (b5, .inl (cA, 2000, .inl g5))] H := hP
        have hD : va_D A [(h1, .inr (1, [.ref b1, .ref b2, .ref b3, .ref b4, .ref b5, .int (nI n), .int mk, .int re, .int le, .int la])), (b1, .inl (cA, 2000, .inl g1)), (b2, .inl (cA, 2000, .inl g2)), (b3, .inl (cZ, 2000, .inl g3)), (b4, .inl (cA, 2001, .inl (mA (mV g1 g2 g3) g4 (k + 1)))), (b5, .inl (cA, 2000, .inl g5))] := hD
        refine lv_iinc (v := nI (k + 1)) (lv' := [(1, .int (nI (k + 1))), (0, .ref h1)]) hx hb dX1_addUp_78 hl (k := 1) rfl (nI_1 _) (by decide) rfl (fun ls hl => ?_)
        refine lv_goto (tgt := 9) hx hb dX1_addUp_81 (by decide) ?_
        exact ih (n - (k + 1)) (k + 1) _ _ _ (by omega) ⟨⟨by omega, rfl⟩, hP, hD, hS, lv_sub hl [1, 0] rfl⟩
    · have hv : mV g1 g2 g3 k = g2 k := if_pos hc2
      refine lv_aload_n hx hb dX1_addUp_39 rfl (lv_at hl 0 rfl) ?_
      refine va_get (D := (dC, dI)) (ci := 1) (v := .ref b2) (C := RX1) (T := TX1) (N := 10) hx hb hts in_X1_addUp hown hK hP 0 rfl rfl 1 (by decide) (hts (.fieldLink RX1 13 "BranchLengthsModel" "numbers" "[I") (by decide +kernel)) (fun _ h9 => h9) rfl dX1_addUp_40 ?_
      refine lv_iload_n hx hb dX1_addUp_43 rfl (lv_at hl 1 rfl) ?_
      refine na_iald (k := k) hx hb hK hP 2 0 rfl rfl (by omega) (by decide) dX1_addUp_44 ?_
      refine lv_goto (tgt := 76) hx hb dX1_addUp_45 (by decide) ?_
      refine lv_iadd hx hb dX1_addUp_76 ?_
      refine na_eqi (y := bx_sum (mV g1 g2 g3) (k + 1)) (by show _ = bx_sum (mV g1 g2 g3) k + mV g1 g2 g3 k; rw [hv]) ?_
      refine na_iast (k := (k + 1)) hx hb hK hP hD hS 4 0 rfl rfl (by omega) (by decide) (mA (mV g1 g2 g3) g4 (k + 1)) (mA_s (mV g1 g2 g3) g4 k) dX1_addUp_77 (fun H locs hP hD hS => ?_)
      have hP : va_P (dC, dI) vwCl [(h1, .inr (1, [.ref b1, .ref b2, .ref b3, .ref b4, .ref b5, .int (nI n), .int mk, .int re, .int le, .int la])), (b1, .inl (cA, 2000, .inl g1)), (b2, .inl (cA, 2000, .inl g2)), (b3, .inl (cZ, 2000, .inl g3)), (b4, .inl (cA, 2001, .inl (mA (mV g1 g2 g3) g4 (k + 1)))), (b5, .inl (cA, 2000, .inl g5))] H := hP
      have hD : va_D A [(h1, .inr (1, [.ref b1, .ref b2, .ref b3, .ref b4, .ref b5, .int (nI n), .int mk, .int re, .int le, .int la])), (b1, .inl (cA, 2000, .inl g1)), (b2, .inl (cA, 2000, .inl g2)), (b3, .inl (cZ, 2000, .inl g3)), (b4, .inl (cA, 2001, .inl (mA (mV g1 g2 g3) g4 (k + 1)))), (b5, .inl (cA, 2000, .inl g5))] := hD
      refine lv_iinc (v := nI (k + 1)) (lv' := [(1, .int (nI (k + 1))), (0, .ref h1)]) hx hb dX1_addUp_78 hl (k := 1) rfl (nI_1 _) (by decide) rfl (fun ls hl => ?_)
      refine lv_goto (tgt := 9) hx hb dX1_addUp_81 (by decide) ?_
      exact ih (n - (k + 1)) (k + 1) _ _ _ (by omega) ⟨⟨by omega, rfl⟩, hP, hD, hS, lv_sub hl [1, 0] rfl⟩
set_option maxHeartbeats 4000000 in
set_option maxRecDepth 100000 in
/-- reaches(k) -/
theorem m_reaches (l : Launch) (dC : Nat → ClassId) (dI : Nat → Nat → Nat) (cA cZ : ClassId) (h1 b1 b2 b3 b4 b5 sz : Nat) (g1 g2 g3 g4 g5 : Nat → Int32) (n k t q : Nat) (mk re le la : Int32) (hk : k < 2000) (ht : t < 2000) (hq : q < 2000) (e2 : g2 k = nI t) (e5 : g5 t = nI q) : na_Mi (S := Unit) l yX1_reaches wsX1_reaches ({ frames := 0, cells := 0, slots := 0, locals := 0 }) (dC, dI) vwCl [(cA, .int), (cZ, .boolean)] sz [.ref h1, .int (nI k)] [(h1, .inr (1, [.ref b1, .ref b2, .ref b3, .ref b4, .ref b5, .int (nI n), .int mk, .int re, .int le, .int la])), (b1, .inl (cA, 2000, .inl g1)), (b2, .inl (cA, 2000, .inl g2)), (b3, .inl (cZ, 2000, .inl g3)), (b4, .inl (cA, 2001, .inl g4)), (b5, .inl (cA, 2000, .inl g5))] (fun r _ => (r = 1 ∧ mRc g2 g3 g4 g5 re k) ∨ (r = 0 ∧ ¬ mRc g2 g3 g4 g5 re k)) (fun _ => [(h1, .inr (1, [.ref b1, .ref b2, .ref b3, .ref b4, .ref b5, .int (nI n), .int mk, .int re, .int le, .int la])), (b1, .inl (cA, 2000, .inl g1)), (b2, .inl (cA, 2000, .inl g2)), (b3, .inl (cZ, 2000, .inl g3)), (b4, .inl (cA, 2001, .inl g4)), (b5, .inl (cA, 2000, .inl g5))]) := by
  refine Met.ofW (cc := cX1_reaches) (maxL := 3) (ret := (some .boolean)) (by decide) rfl ?_
  intro p e s m args below meth c s₁ B hml hv
  obtain ⟨rfl, hsz, hP, hK, hD0⟩ := hv
  have hx := B.exec
  have hb := B.bytes
  have hr := B.returns
  have hts := atoms_spec (ws := wsX1_reaches) B.pre
  have hown : s.vm.findClass RX1 = some m.cls := findClass_of_methodNamed B.named
  have hlocks := B.notSynchronized
  subst hsz
  have hD := hD0.self (sz := s.heap.size)
  generalize hAe : va_A [(h1, .inr (1, [.ref b1, .ref b2, .ref b3, .ref b4, .ref b5, .int (nI n), .int mk, .int re, .int le, .int la])), (b1, .inl (cA, 2000, .inl g1)), (b2, .inl (cA, 2000, .inl g2)), (b3, .inl (cZ, 2000, .inl g3)), (b4, .inl (cA, 2001, .inl g4)), (b5, .inl (cA, 2000, .inl g5))] s.heap.size = A at hD ⊢
  have hA : ∀ q : Nat, s.heap.size ≤ q → A q := fun q h => by rw [← hAe]; exact Or.inr h
  have hS : va_S A s.heap s.heap [] := va_S.rf
  have hP : va_P (dC, dI) vwCl [(h1, .inr (1, [.ref b1, .ref b2, .ref b3, .ref b4, .ref b5, .int (nI n), .int mk, .int re, .int le, .int la])), (b1, .inl (cA, 2000, .inl g1)), (b2, .inl (cA, 2000, .inl g2)), (b3, .inl (cZ, 2000, .inl g3)), (b4, .inl (cA, 2001, .inl g4)), (b5, .inl (cA, 2000, .inl g5))] s.heap := hP
  have hl := lv_entry ([.ref h1, .int (nI k)]) (n := 3) (Nat.le_of_ble_eq_true rfl)
  rw [lg_entry_eq]
  generalize (lg_sl ([.ref h1, .int (nI k)]) ++ List.replicate (3 - (lg_sl ([.ref h1, .int (nI k)])).length) Slot.unset).toArray = ls at hl ⊢
  have hl : lv_has ls 3 [(0, .ref h1), (1, .int (nI k))] := hl
  have e9 : xTq g2 g5 k = q := by unfold xTq; rw [e2, nI_clamp (by omega), e5, nI_clamp (by omega)]
  refine lv_aload_n hx hb dX1_reaches_0 rfl (lv_at hl 0 rfl) ?_
  refine va_get (D := (dC, dI)) (ci := 1) (v := .ref b4) (C := RX1) (T := TX1) (N := 10) hx hb hts in_X1_reaches hown hK hP 0 rfl rfl 3 (by decide) (hts (.fieldLink RX1 20 "BranchLengthsModel" "places" "[I") (by decide +kernel)) (fun _ h9 => h9) rfl dX1_reaches_1 ?_
  refine lv_aload_n hx hb dX1_reaches_4 rfl (lv_at hl 0 rfl) ?_
  refine va_get (D := (dC, dI)) (ci := 1) (v := .ref b5) (C := RX1) (T := TX1) (N := 10) hx hb hts in_X1_reaches hown hK hP 0 rfl rfl 4 (by decide) (hts (.fieldLink RX1 23 "BranchLengthsModel" "markItems" "[I") (by decide +kernel)) (fun _ h9 => h9) rfl dX1_reaches_5 ?_
  refine lv_aload_n hx hb dX1_reaches_8 rfl (lv_at hl 0 rfl) ?_
  refine va_get (D := (dC, dI)) (ci := 1) (v := .ref b2) (C := RX1) (T := TX1) (N := 10) hx hb hts in_X1_reaches hown hK hP 0 rfl rfl 1 (by decide) (hts (.fieldLink RX1 13 "BranchLengthsModel" "numbers" "[I") (by decide +kernel)) (fun _ h9 => h9) rfl dX1_reaches_9 ?_
  refine lv_iload_n hx hb dX1_reaches_12 rfl (lv_at hl 1 rfl) ?_
  refine na_iald (k := k) hx hb hK hP 2 0 rfl rfl (by omega) (by decide) dX1_reaches_13 ?_
  refine na_eqi (y := nI t) (e2) ?_
  refine na_iald (k := t) hx hb hK hP 5 0 rfl rfl (by omega) (by decide) dX1_reaches_14 ?_
  refine na_eqi (y := nI q) (e5) ?_
  refine na_iald (k := q) hx hb hK hP 4 0 rfl rfl (by omega) (by decide) dX1_reaches_15 ?_
  refine lv_aload_n hx hb dX1_reaches_16 rfl (lv_at hl 0 rfl) ?_
  refine va_get (D := (dC, dI)) (ci := 1) (v := .ref b4) (C := RX1) (T := TX1) (N := 10) hx hb hts in_X1_reaches hown hK hP 0 rfl rfl 3 (by decide) (hts (.fieldLink RX1 20 "BranchLengthsModel" "places" "[I") (by decide +kernel)) (fun _ h9 => h9) rfl dX1_reaches_17 ?_
  refine lv_iload_n hx hb dX1_reaches_20 rfl (lv_at hl 1 rfl) ?_
  refine na_iald (k := k) hx hb hK hP 4 0 rfl rfl (by omega) (by decide) dX1_reaches_21 ?_
  refine lv_isub hx hb dX1_reaches_22 ?_
  refine lv_istore_n (lv' := [(2, .int ((g4 q) - (g4 k))), (0, .ref h1), (1, .int (nI k))]) hx hb dX1_reaches_23 rfl hl (by decide) rfl (fun ls hl => ?_)
  refine lv_aload_n hx hb dX1_reaches_24 rfl (lv_at hl 1 rfl) ?_
  refine va_get (D := (dC, dI)) (ci := 1) (v := .ref b3) (C := RX1) (T := TX1) (N := 10) hx hb hts in_X1_reaches hown hK hP 0 rfl rfl 2 (by decide) (hts (.fieldLink RX1 16 "BranchLengthsModel" "longOnes" "[Z") (by decide +kernel)) (fun _ h9 => h9) rfl dX1_reaches_25 ?_
  refine lv_iload_n hx hb dX1_reaches_28 rfl (lv_at hl 2 rfl) ?_
  refine na_zald (k := k) hx hb hK hP 3 1 rfl rfl (by omega) (by decide) dX1_reaches_29 ?_
  refine lv_if_ne (tgt := 50) hx hb dX1_reaches_30 (by decide) (fun hc0 => ?_) (fun hc0 => ?_)
  · refine lv_iconst (v := 1) hx hb dX1_reaches_50 (by decide) ?_
    refine lv_goto (tgt := 55) hx hb dX1_reaches_51 (by decide) ?_
    exact W.zret (v := 1) hx hb hr rfl (fun t ht hW => ⟨⟨1, (), rfl, Or.inl ⟨rfl, Or.inl hc0⟩, by rw [ht]; exact hP, va_K.moved hW.alike hK, hD⟩, hS.F ht⟩) hS.2.2 dX1_reaches_55
  · refine lv_iload_n hx hb dX1_reaches_33 rfl (lv_at hl 0 rfl) ?_
    refine lv_aload_n hx hb dX1_reaches_34 rfl (lv_at hl 1 rfl) ?_
    refine va_get (D := (dC, dI)) (ci := 1) (v := .int re) (C := RX1) (T := TX1) (N := 10) hx hb hts in_X1_reaches hown hK hP 0 rfl rfl 7 (by decide) (hts (.fieldLink RX1 26 "BranchLengthsModel" "reach" "I") (by decide +kernel)) (fun _ h9 => h9) rfl dX1_reaches_35 ?_
    refine lv_ineg hx hb dX1_reaches_38 ?_
    refine lv_icmp_lt (tgt := 54) hx hb dX1_reaches_39 (by decide) (fun hc1 => ?_) (fun hc1 => ?_)
    · refine lv_iconst (v := 0) hx hb dX1_reaches_54 (by decide) ?_
      exact W.zret (v := 0) hx hb hr rfl (fun t ht hW => ⟨⟨0, (), rfl, Or.inr ⟨rfl, fun z => z.elim (fun y => y hc0) (fun z => by unfold xRs at z; rw [e9, Bool.and_eq_true] at z; exact of_decide_eq_true z.1 hc1)⟩, by rw [ht]; exact hP, va_K.moved hW.alike hK, hD⟩, hS.F ht⟩) hS.2.2 dX1_reaches_55
    · refine lv_iload_n hx hb dX1_reaches_42 rfl (lv_at hl 0 rfl) ?_
      refine lv_aload_n hx hb dX1_reaches_43 rfl (lv_at hl 1 rfl) ?_
      refine va_get (D := (dC, dI)) (ci := 1) (v := .int re) (C := RX1) (T := TX1) (N := 10) hx hb hts in_X1_reaches hown hK hP 0 rfl rfl 7 (by decide) (hts (.fieldLink RX1 26 "BranchLengthsModel" "reach" "I") (by decide +kernel)) (fun _ h9 => h9) rfl dX1_reaches_44 ?_
      refine lv_icmp_gt (tgt := 54) hx hb dX1_reaches_47 (by decide) (fun hc2 => ?_) (fun hc2 => ?_)
      · refine lv_iconst (v := 0) hx hb dX1_reaches_54 (by decide) ?_
        exact W.zret (v := 0) hx hb hr rfl (fun t ht hW => ⟨⟨0, (), rfl, Or.inr ⟨rfl, fun z => z.elim (fun y => y hc0) (fun z => by unfold xRs at z; rw [e9, Bool.and_eq_true] at z; exact of_decide_eq_true z.2 hc2)⟩, by rw [ht]; exact hP, va_K.moved hW.alike hK, hD⟩, hS.F ht⟩) hS.2.2 dX1_reaches_55
      · refine lv_iconst (v := 1) hx hb dX1_reaches_50 (by decide) ?_
        refine lv_goto (tgt := 55) hx hb dX1_reaches_51 (by decide) ?_
        exact W.zret (v := 1) hx hb hr rfl (fun t ht hW => ⟨⟨1, (), rfl, Or.inl ⟨rfl, Or.inr (by unfold xRs; rw [e9, Bool.and_eq_true]; exact ⟨decide_eq_true hc1, decide_eq_true hc2⟩)⟩, by rw [ht]; exact hP, va_K.moved hW.alike hK, hD⟩, hS.F ht⟩) hS.2.2 dX1_reaches_55
set_option maxHeartbeats 4000000 in
set_option maxRecDepth 100000 in
/-- longs() -/
theorem m_longs (l : Launch) (dC : Nat → ClassId) (dI : Nat → Nat → Nat) (cA cZ : ClassId) (h1 b1 b2 b3 b4 b5 sz : Nat) (g1 g2 g3 g4 g5 : Nat → Int32) (n : Nat) (mk re le la : Int32) (hn : n ≤ 2000) : na_Mi (S := Unit) l yX1_longs wsX1_longs ({ frames := 0, cells := 0, slots := 0, locals := 0 }) (dC, dI) vwCl [(cA, .int), (cZ, .boolean)] sz [.ref h1] [(h1, .inr (1, [.ref b1, .ref b2, .ref b3, .ref b4, .ref b5, .int (nI n), .int mk, .int re, .int le, .int la])), (b1, .inl (cA, 2000, .inl g1)), (b2, .inl (cA, 2000, .inl g2)), (b3, .inl (cZ, 2000, .inl g3)), (b4, .inl (cA, 2001, .inl g4)), (b5, .inl (cA, 2000, .inl g5))] (fun r _ => r = if la = 0 then -1 else nI (cnt (fun j => decide (g1 j = 2) && decide (¬ g3 j = 0)) n)) (fun _ => [(h1, .inr (1, [.ref b1, .ref b2, .ref b3, .ref b4, .ref b5, .int (nI n), .int mk, .int re, .int le, .int la])), (b1, .inl (cA, 2000, .inl g1)), (b2, .inl (cA, 2000, .inl g2)), (b3, .inl (cZ, 2000, .inl g3)), (b4, .inl (cA, 2001, .inl g4)), (b5, .inl (cA, 2000, .inl g5))]) := by
  refine Met.ofW (cc := cX1_longs) (maxL := 3) (ret := (some .int)) (by decide) rfl ?_
  intro p e s m args below meth c s₁ B hml hv
  obtain ⟨rfl, hsz, hP, hK, hD0⟩ := hv
  have hx := B.exec
  have hb := B.bytes
  have hr := B.returns
  have hts := atoms_spec (ws := wsX1_longs) B.pre
  have hown : s.vm.findClass RX1 = some m.cls := findClass_of_methodNamed B.named
  have hlocks := B.notSynchronized
  subst hsz
  have hD := hD0.self (sz := s.heap.size)
  generalize hAe : va_A [(h1, .inr (1, [.ref b1, .ref b2, .ref b3, .ref b4, .ref b5, .int (nI n), .int mk, .int re, .int le, .int la])), (b1, .inl (cA, 2000, .inl g1)), (b2, .inl (cA, 2000, .inl g2)), (b3, .inl (cZ, 2000, .inl g3)), (b4, .inl (cA, 2001, .inl g4)), (b5, .inl (cA, 2000, .inl g5))] s.heap.size = A at hD ⊢
  have hA : ∀ q : Nat, s.heap.size ≤ q → A q := fun q h => by rw [← hAe]; exact Or.inr h
  have hS : va_S A s.heap s.heap [] := va_S.rf
  have hP : va_P (dC, dI) vwCl [(h1, .inr (1, [.ref b1, .ref b2, .ref b3, .ref b4, .ref b5, .int (nI n), .int mk, .int re, .int le, .int la])), (b1, .inl (cA, 2000, .inl g1)), (b2, .inl (cA, 2000, .inl g2)), (b3, .inl (cZ, 2000, .inl g3)), (b4, .inl (cA, 2001, .inl g4)), (b5, .inl (cA, 2000, .inl g5))] s.heap := hP
  have hl := lv_entry ([.ref h1]) (n := 3) (Nat.le_of_ble_eq_true rfl)
  rw [lg_entry_eq]
  generalize (lg_sl ([.ref h1]) ++ List.replicate (3 - (lg_sl ([.ref h1])).length) Slot.unset).toArray = ls at hl ⊢
  have hl : lv_has ls 3 [(0, .ref h1)] := hl
  refine lv_aload_n hx hb dX1_longs_0 rfl (lv_at hl 0 rfl) ?_
  refine va_get (D := (dC, dI)) (ci := 1) (v := .int la) (C := RX1) (T := TX1) (N := 10) hx hb hts in_X1_longs hown hK hP 0 rfl rfl 9 (by decide) (hts (.fieldLink RX1 36 "BranchLengthsModel" "laid" "Z") (by decide +kernel)) (fun _ h9 => h9) rfl dX1_longs_1 ?_
  refine lv_if_ne (tgt := 9) hx hb dX1_longs_4 (by decide) (fun hc1 => ?_) (fun hc1 => ?_)
  · refine lv_iconst (v := nI (cnt (fun j => decide (g1 j = 2) && decide (¬ g3 j = 0)) 0)) hx hb dX1_longs_9 rfl ?_
    refine lv_istore_n (lv' := [(1, .int (nI (cnt (fun j => decide (g1 j = 2) && decide (¬ g3 j = 0)) 0))), (0, .ref h1)]) hx hb dX1_longs_10 rfl hl (by decide) rfl (fun ls hl => ?_)
    refine lv_iconst (v := nI 0) hx hb dX1_longs_11 (by decide) ?_
    refine lv_istore_n (lv' := [(2, .int (nI 0)), (1, .int (nI (cnt (fun j => decide (g1 j = 2) && decide (¬ g3 j = 0)) 0))), (0, .ref h1)]) hx hb dX1_longs_12 rfl hl (by decide) rfl (fun ls hl => ?_)
    refine na_loop (pc := 13) (fun (d : Nat) (k : Nat) (H : Heap) (locs : List Loc) (ls : Array Slot) => (k ≤ n ∧ d = n - k) ∧ va_P (dC, dI) vwCl [(h1, .inr (1, [.ref b1, .ref b2, .ref b3, .ref b4, .ref b5, .int (nI n), .int mk, .int re, .int le, .int la])), (b1, .inl (cA, 2000, .inl g1)), (b2, .inl (cA, 2000, .inl g2)), (b3, .inl (cZ, 2000, .inl g3)), (b4, .inl (cA, 2001, .inl g4)), (b5, .inl (cA, 2000, .inl g5))] H ∧ va_D A [(h1, .inr (1, [.ref b1, .ref b2, .ref b3, .ref b4, .ref b5, .int (nI n), .int mk, .int re, .int le, .int la])), (b1, .inl (cA, 2000, .inl g1)), (b2, .inl (cA, 2000, .inl g2)), (b3, .inl (cZ, 2000, .inl g3)), (b4, .inl (cA, 2001, .inl g4)), (b5, .inl (cA, 2000, .inl g5))] ∧ va_S A s.heap H locs ∧ lv_has ls 3 [(0, .ref h1), (1, .int (nI (cnt (fun j => decide (g1 j = 2) && decide (¬ g3 j = 0)) k))), (2, .int (nI k))]) ?_ (n - 0) (0) ⟨⟨Nat.zero_le _, rfl⟩, hP, hD, hS, lv_sub hl [2, 1, 0] rfl⟩
    intro d k H locs ls hI ih
    obtain ⟨⟨hkn, hd⟩, hP, hD, hS, hl⟩ := hI
    refine lv_iload_n hx hb dX1_longs_13 rfl (lv_at hl 2 rfl) ?_
    refine lv_aload_n hx hb dX1_longs_14 rfl (lv_at hl 0 rfl) ?_
    refine va_get (D := (dC, dI)) (ci := 1) (v := .int (nI n)) (C := RX1) (T := TX1) (N := 10) hx hb hts in_X1_longs hown hK hP 0 rfl rfl 5 (by decide) (hts (.fieldLink RX1 33 "BranchLengthsModel" "items" "I") (by decide +kernel)) (fun _ h9 => h9) rfl dX1_longs_15 ?_
    refine lv_icmp_ge (tgt := 49) hx hb dX1_longs_18 (by decide) (fun hc => ?_) (fun hc => ?_)
    · have hkn' := na_ge (by omega) hkn hc
      subst hkn'
      refine lv_iload_n hx hb dX1_longs_49 rfl (lv_at hl 1 rfl) ?_
      exact W.iret (v := (nI (cnt (fun j => decide (g1 j = 2) && decide (¬ g3 j = 0)) n))) hx hb hr (fun t ht hW => ⟨⟨(nI (cnt (fun j => decide (g1 j = 2) && decide (¬ g3 j = 0)) n)), (), rfl, (if_neg hc1).symm, by rw [ht]; exact hP, va_K.moved hW.alike hK, hD⟩, hS.F ht⟩) hS.2.2 dX1_longs_50
    · have hlt := na_nge (by omega) hkn hc
      refine lv_aload_n hx hb dX1_longs_21 rfl (lv_at hl 0 rfl) ?_
      refine va_get (D := (dC, dI)) (ci := 1) (v := .ref b1) (C := RX1) (T := TX1) (N := 10) hx hb hts in_X1_longs hown hK hP 0 rfl rfl 0 (by decide) (hts (.fieldLink RX1 9 "BranchLengthsModel" "kinds" "[I") (by decide +kernel)) (fun _ h9 => h9) rfl dX1_longs_22 ?_
      refine lv_iload_n hx hb dX1_longs_25 rfl (lv_at hl 2 rfl) ?_
      refine na_iald (k := k) hx hb hK hP 1 0 rfl rfl (by omega) (by decide) dX1_longs_26 ?_
      refine lv_iconst (v := 2) hx hb dX1_longs_27 (by decide) ?_
      refine lv_icmp_ne (tgt := 43) hx hb dX1_longs_28 (by decide) (fun hc3 => ?_) (fun hc3 => ?_)
      · have ec : cnt (fun j => decide (g1 j = 2) && decide (¬ g3 j = 0)) k = cnt (fun j => decide (g1 j = 2) && decide (¬ g3 j = 0)) (k + 1) := (cnt_n (fun q => by rw [Bool.and_eq_true] at q; exact hc3 (of_decide_eq_true q.1))).symm
        refine lv_iinc (v := nI (k + 1)) (lv' := [(2, .int (nI (k + 1))), (0, .ref h1), (1, .int (nI (cnt (fun j => decide (g1 j = 2) && decide (¬ g3 j = 0)) k)))]) hx hb dX1_longs_43 hl (k := 2) rfl (nI_1 _) (by decide) rfl (fun ls hl => ?_)
        refine lv_goto (tgt := 13) hx hb dX1_longs_46 (by decide) ?_
        rw [ec] at hl
        exact ih (n - (k + 1)) (k + 1) _ _ _ (by omega) ⟨⟨by omega, rfl⟩, hP, hD, hS, lv_sub hl [1, 2, 0] rfl⟩
      · refine lv_aload_n hx hb dX1_longs_31 rfl (lv_at hl 0 rfl) ?_
        refine va_get (D := (dC, dI)) (ci := 1) (v := .ref b3) (C := RX1) (T := TX1) (N := 10) hx hb hts in_X1_longs hown hK hP 0 rfl rfl 2 (by decide) (hts (.fieldLink RX1 16 "BranchLengthsModel" "longOnes" "[Z") (by decide +kernel)) (fun _ h9 => h9) rfl dX1_longs_32 ?_
        refine lv_iload_n hx hb dX1_longs_35 rfl (lv_at hl 2 rfl) ?_
        refine na_zald (k := k) hx hb hK hP 3 1 rfl rfl (by omega) (by decide) dX1_longs_36 ?_
        refine lv_if_eq (tgt := 43) hx hb dX1_longs_37 (by decide) (fun hc4 => ?_) (fun hc4 => ?_)
        · have ec : cnt (fun j => decide (g1 j = 2) && decide (¬ g3 j = 0)) k = cnt (fun j => decide (g1 j = 2) && decide (¬ g3 j = 0)) (k + 1) := (cnt_n (fun q => by rw [Bool.and_eq_true] at q; exact of_decide_eq_true q.2 hc4)).symm
          refine lv_iinc (v := nI (k + 1)) (lv' := [(2, .int (nI (k + 1))), (0, .ref h1), (1, .int (nI (cnt (fun j => decide (g1 j = 2) && decide (¬ g3 j = 0)) k)))]) hx hb dX1_longs_43 hl (k := 2) rfl (nI_1 _) (by decide) rfl (fun ls hl => ?_)
          refine lv_goto (tgt := 13) hx hb dX1_longs_46 (by decide) ?_
          rw [ec] at hl
          exact ih (n - (k + 1)) (k + 1) _ _ _ (by omega) ⟨⟨by omega, rfl⟩, hP, hD, hS, lv_sub hl [1, 2, 0] rfl⟩
        · have ec : cnt (fun j => decide (g1 j = 2) && decide (¬ g3 j = 0)) k + 1 = cnt (fun j => decide (g1 j = 2) && decide (¬ g3 j = 0)) (k + 1) := (cnt_s (by rw [Bool.and_eq_true]; exact ⟨decide_eq_true hc3, decide_eq_true hc4⟩)).symm
          refine lv_iinc (v := nI (cnt (fun j => decide (g1 j = 2) && decide (¬ g3 j = 0)) k + 1)) (lv' := [(1, .int (nI (cnt (fun j => decide (g1 j = 2) && decide (¬ g3 j = 0)) k + 1))), (0, .ref h1), (2, .int (nI k))]) hx hb dX1_longs_40 hl (k := 1) rfl (nI_1 _) (by decide) rfl (fun ls hl => ?_)
          refine lv_iinc (v := nI (k + 1)) (lv' := [(2, .int (nI (k + 1))), (1, .int (nI (cnt (fun j => decide (g1 j = 2) && decide (¬ g3 j = 0)) k + 1))), (0, .ref h1)]) hx hb dX1_longs_43 hl (k := 2) rfl (nI_1 _) (by decide) rfl (fun ls hl => ?_)
          refine lv_goto (tgt := 13) hx hb dX1_longs_46 (by decide) ?_
          rw [ec] at hl
          exact ih (n - (k + 1)) (k + 1) _ _ _ (by omega) ⟨⟨by omega, rfl⟩, hP, hD, hS, lv_sub hl [2, 1, 0] rfl⟩
  · refine lv_iconst (v := -1) hx hb dX1_longs_7 (by decide) ?_
    exact W.iret (v := (-1)) hx hb hr (fun t ht hW => ⟨⟨(-1), (), rfl, (if_pos hc1).symm, by rw [ht]; exact hP, va_K.moved hW.alike hK, hD⟩, hS.F ht⟩) hS.2.2 dX1_longs_8
set_option maxHeartbeats 4000000 in
set_option maxRecDepth 100000 in
/-- BranchLengthsModel() -/
theorem m_init (l : Launch) (dC : Nat → ClassId) (dI : Nat → Nat → Nat) (h0 sz : Nat) : Met l yX1_init wsX1_init ({ frames := 1, cells := 5, slots := 10001, locals := 12 }) (va_Pc [.ref h0] (na_Pre (dC, dI) vwCl sz [(h0, .inr (1, [.null, .null, .null, .null, .null, .int 0, .int 0, .int 0, .int 0, .int 0]))] [])) (va_Qv (fun (_ : Unit) => True) (fun _ t => ∃ (b1 b2 b3 b4 b5 : Nat) (cA cZ : ClassId), na_End (dC, dI) vwCl (va_A [(h0, .inr (1, [.null, .null, .null, .null, .null, .int 0, .int 0, .int 0, .int 0, .int 0]))] sz) [(h0, .inr (1, [.ref b1, .ref b2, .ref b3, .ref b4, .ref b5, .int (nI 0), .int (nI 0), .int (nI 1000), .int (-1), .int 0])), (b1, .inl (cA, 2000, .inl (fun _ => 0))), (b2, .inl (cA, 2000, .inl (fun _ => 0))), (b3, .inl (cZ, 2000, .inl (fun _ => 0))), (b4, .inl (cA, 2001, .inl (fun _ => 0))), (b5, .inl (cA, 2000, .inl (fun _ => 0)))] [(cA, .int), (cZ, .boolean)] t) (va_A [(h0, .inr (1, [.null, .null, .null, .null, .null, .int 0, .int 0, .int 0, .int 0, .int 0]))] sz)) 5 10001 (va_A [(h0, .inr (1, [.null, .null, .null, .null, .null, .int 0, .int 0, .int 0, .int 0, .int 0]))] sz) := by
  refine Met.ofW (cc := cX1_init) (maxL := 1) (ret := none) (by decide) rfl ?_
  intro p e s m args below meth c s₁ B hml hv
  obtain ⟨rfl, hsz, hP, hK, hD0⟩ := hv
  have hx := B.exec
  have hb := B.bytes
  have hr := B.returns
  have hts := atoms_spec (ws := wsX1_init) B.pre
  have hown : s.vm.findClass RX1 = some m.cls := findClass_of_methodNamed B.named
  have hlocks := B.notSynchronized
  have hin : meth.name = "<init>" := (name_of_methodNamed B.named B.method).1
  subst hsz
  have hD := hD0.self (sz := s.heap.size)
  generalize hAe : va_A [(h0, .inr (1, [.null, .null, .null, .null, .null, .int 0, .int 0, .int 0, .int 0, .int 0]))] s.heap.size = A at hD ⊢
  have hA : ∀ q : Nat, s.heap.size ≤ q → A q := fun q h => by rw [← hAe]; exact Or.inr h
  have hS : va_S A s.heap s.heap [] := va_S.rf
  have hP : va_P (dC, dI) vwCl [(h0, .inr (1, [.null, .null, .null, .null, .null, .int 0, .int 0, .int 0, .int 0, .int 0]))] s.heap := hP
  have hl := lv_entry ([.ref h0]) (n := 1) (Nat.le_of_ble_eq_true rfl)
  rw [lg_entry_eq]
  generalize (lg_sl ([.ref h0]) ++ List.replicate (1 - (lg_sl ([.ref h0])).length) Slot.unset).toArray = ls at hl ⊢
  have hl : lv_has ls 1 [(0, .ref h0)] := hl
  refine lv_aload_n hx hb dX1_init_0 rfl (lv_at hl 0 rfl) ?_
  refine W.objInit hx hb hown (hts (.methodLink RX1 1 objectInit) (by decide +kernel)) (hts (.instanceMethod objectInit) (by decide +kernel)) (hts _ (List.mem_cons_of_mem _ (List.mem_append_left _ (List.mem_of_getElem? (i := 2) rfl)))) rfl (by rw [hml]; exact hl.1) rfl dX1_init_1 (Nat.le_of_ble_eq_true rfl) (Nat.le_of_ble_eq_true rfl) ?_
  refine W.eq (g2 := F0 m 4 ls []) rfl ?_
  refine lv_aload_n hx hb dX1_init_4 rfl (lv_at hl 0 rfl) ?_
  refine lv_sipush (v := 2000) hx hb dX1_init_5 (by decide) ?_
  refine va_newa (atype := .int) (n := 2000) (ty := .int) (N' := 2000) (a0 := (2000, .inl (fun _ => 0))) hx hb (hts (.arrayClass .int) (by decide +kernel)) rfl hK hP hD hS hA (fun _ => na_zero_I) (by decide) (by decide) (by decide) (show 0 + 1 ≤ 5 by omega) (show 0 + 2000 ≤ 10001 by omega) dX1_init_8 (fun b1 c_b1 H hK hP hD hS => ?_)
  have hP : va_P (dC, dI) vwCl [(h0, .inr (1, [.null, .null, .null, .null, .null, .int 0, .int 0, .int 0, .int 0, .int 0])), (b1, .inl (c_b1, 2000, .inl (fun _ => 0)))] H := hP
  have hD : va_D A [(h0, .inr (1, [.null, .null, .null, .null, .null, .int 0, .int 0, .int 0, .int 0, .int 0])), (b1, .inl (c_b1, 2000, .inl (fun _ => 0)))] := hD
  have hK : va_K (dC, dI) vwCl [(c_b1, .int)] s := hK
  refine W.widen (k := 1) (n := 2000) (by omega) (by omega) ?_
  refine va_putF (D := (dC, dI)) (ci := 1) (v := .ref b1) (ty := .array .int) (C := RX1) (T := TX1) (N := 10) hx hb hts in_X1_init tyX1 tyX1_ok nmX1 hown hK hP hD hS 0 rfl rfl 0 (by decide) (hts (.fieldLink RX1 9 "BranchLengthsModel" "kinds" "[I") (by decide +kernel)) (fun _ h9 => h9) rfl hin rfl (by decide +kernel) rfl rfl (Nat.le_of_ble_eq_true rfl) dX1_init_10 (fun H locs hP hD hS => ?_)
  have hP : va_P (dC, dI) vwCl [(h0, .inr (1, [.ref b1, .null, .null, .null, .null, .int 0, .int 0, .int 0, .int 0, .int 0])), (b1, .inl (c_b1, 2000, .inl (fun _ => 0)))] H := hP
  have hD : va_D A [(h0, .inr (1, [.ref b1, .null, .null, .null, .null, .int 0, .int 0, .int 0, .int 0, .int 0])), (b1, .inl (c_b1, 2000, .inl (fun _ => 0)))] := hD
  refine lv_aload_n hx hb dX1_init_13 rfl (lv_at hl 0 rfl) ?_
  refine lv_sipush (v := 2000) hx hb dX1_init_14 (by decide) ?_
  refine va_newa (atype := .int) (n := 2000) (ty := .int) (N' := 2000) (a0 := (2000, .inl (fun _ => 0))) hx hb (hts (.arrayClass .int) (by decide +kernel)) rfl hK hP hD hS hA (fun _ => na_zero_I) (by decide) (by decide) (by decide) (show 1 + 1 ≤ 5 by omega) (show 2000 + 2000 ≤ 10001 by omega) dX1_init_17 (fun b2 c_b2 H hK hP hD hS => ?_)
  have hP : va_P (dC, dI) vwCl [(h0, .inr (1, [.ref b1, .null, .null, .null, .null, .int 0, .int 0, .int 0, .int 0, .int 0])), (b1, .inl (c_b1, 2000, .inl (fun _ => 0))), (b2, .inl (c_b2, 2000, .inl (fun _ => 0)))] H := hP
  have hD : va_D A [(h0, .inr (1, [.ref b1, .null, .null, .null, .null, .int 0, .int 0, .int 0, .int 0, .int 0])), (b1, .inl (c_b1, 2000, .inl (fun _ => 0))), (b2, .inl (c_b2, 2000, .inl (fun _ => 0)))] := hD
  have hK : va_K (dC, dI) vwCl [(c_b1, .int), (c_b2, .int)] s := hK
  refine W.widen (k := 2) (n := 4000) (by omega) (by omega) ?_
  refine va_putF (D := (dC, dI)) (ci := 1) (v := .ref b2) (ty := .array .int) (C := RX1) (T := TX1) (N := 10) hx hb hts in_X1_init tyX1 tyX1_ok nmX1 hown hK hP hD hS 0 rfl rfl 1 (by decide) (hts (.fieldLink RX1 13 "BranchLengthsModel" "numbers" "[I") (by decide +kernel)) (fun _ h9 => h9) rfl hin rfl (by decide +kernel) rfl rfl (Nat.le_of_ble_eq_true rfl) dX1_init_19 (fun H locs hP hD hS => ?_)
  have hP : va_P (dC, dI) vwCl [(h0, .inr (1, [.ref b1, .ref b2, .null, .null, .null, .int 0, .int 0, .int 0, .int 0, .int 0])), (b1, .inl (c_b1, 2000, .inl (fun _ => 0))), (b2, .inl (c_b2, 2000, .inl (fun _ => 0)))] H := hP
  have hD : va_D A [(h0, .inr (1, [.ref b1, .ref b2, .null, .null, .null, .int 0, .int 0, .int 0, .int 0, .int 0])), (b1, .inl (c_b1, 2000, .inl (fun _ => 0))), (b2, .inl (c_b2, 2000, .inl (fun _ => 0)))] := hD
  refine lv_aload_n hx hb dX1_init_22 rfl (lv_at hl 0 rfl) ?_
  refine lv_sipush (v := 2000) hx hb dX1_init_23 (by decide) ?_
  refine va_newa (atype := .boolean) (n := 2000) (ty := .boolean) (N' := 2000) (a0 := (2000, .inl (fun _ => 0))) hx hb (hts (.arrayClass .boolean) (by decide +kernel)) rfl hK hP hD hS hA (fun _ => na_zero_Z) (by decide) (by decide) (by decide) (show 2 + 1 ≤ 5 by omega) (show 4000 + 2000 ≤ 10001 by omega) dX1_init_26 (fun b3 c_b3 H hK hP hD hS => ?_)
  have hP : va_P (dC, dI) vwCl [(h0, .inr (1, [.ref b1, .ref b2, .null, .null, .null, .int 0, .int 0, .int 0, .int 0, .int 0])), (b1, .inl (c_b1, 2000, .inl (fun _ => 0))), (b2, .inl (c_b2, 2000, .inl (fun _ => 0))), (b3, .inl (c_b3, 2000, .inl (fun _ => 0)))] H := hP
  have hD : va_D A [(h0, .inr (1, [.ref b1, .ref b2, .null, .null, .null, .int 0, .int 0, .int 0, .int 0, .int 0])), (b1, .inl (c_b1, 2000, .inl (fun _ => 0))), (b2, .inl (c_b2, 2000, .inl (fun _ => 0))), (b3, .inl (c_b3, 2000, .inl (fun _ => 0)))] := hD
  have hK : va_K (dC, dI) vwCl [(c_b1, .int), (c_b2, .int), (c_b3, .boolean)] s := hK
  refine W.widen (k := 3) (n := 6000) (by omega) (by omega) ?_
  refine va_putF (D := (dC, dI)) (ci := 1) (v := .ref b3) (ty := .array .boolean) (C := RX1) (T := TX1) (N := 10) hx hb hts in_X1_init tyX1 tyX1_ok nmX1 hown hK hP hD hS 0 rfl rfl 2 (by decide) (hts (.fieldLink RX1 16 "BranchLengthsModel" "longOnes" "[Z") (by decide +kernel)) (fun _ h9 => h9) rfl hin rfl (by decide +kernel) rfl rfl (Nat.le_of_ble_eq_true rfl) dX1_init_28 (fun H locs hP hD hS => ?_)
  have hP : va_P (dC, dI) vwCl [(h0, .inr (1, [.ref b1, .ref b2, .ref b3, .null, .null, .int 0, .int 0, .int 0, .int 0, .int 0])), (b1, .inl (c_b1, 2000, .inl (fun _ => 0))), (b2, .inl (c_b2, 2000, .inl (fun _ => 0))), (b3, .inl (c_b3, 2000, .inl (fun _ => 0)))] H := hP
  have hD : va_D A [(h0, .inr (1, [.ref b1, .ref b2, .ref b3, .null, .null, .int 0, .int 0, .int 0, .int 0, .int 0])), (b1, .inl (c_b1, 2000, .inl (fun _ => 0))), (b2, .inl (c_b2, 2000, .inl (fun _ => 0))), (b3, .inl (c_b3, 2000, .inl (fun _ => 0)))] := hD
  refine lv_aload_n hx hb dX1_init_31 rfl (lv_at hl 0 rfl) ?_
  refine lv_sipush (v := 2001) hx hb dX1_init_32 (by decide) ?_
  refine va_newa (atype := .int) (n := 2001) (ty := .int) (N' := 2001) (a0 := (2001, .inl (fun _ => 0))) hx hb (hts (.arrayClass .int) (by decide +kernel)) rfl hK hP hD hS hA (fun _ => na_zero_I) (by decide) (by decide) (by decide) (show 3 + 1 ≤ 5 by omega) (show 6000 + 2001 ≤ 10001 by omega) dX1_init_35 (fun b4 c_b4 H hK hP hD hS => ?_)
  have hP : va_P (dC, dI) vwCl [(h0, .inr (1, [.ref b1, .ref b2, .ref b3, .null, .null, .int 0, .int 0, .int 0, .int 0, .int 0])), (b1, .inl (c_b1, 2000, .inl (fun _ => 0))), (b2, .inl (c_b2, 2000, .inl (fun _ => 0))), (b3, .inl (c_b3, 2000, .inl (fun _ => 0))), (b4, .inl (c_b4, 2001, .inl (fun _ => 0)))] H := hP
  have hD : va_D A [(h0, .inr (1, [.ref b1, .ref b2, .ref b3, .null, .null, .int 0, .int 0, .int 0, .int 0, .int 0])), (b1, .inl (c_b1, 2000, .inl (fun _ => 0))), (b2, .inl (c_b2, 2000, .inl (fun _ => 0))), (b3, .inl (c_b3, 2000, .inl (fun _ => 0))), (b4, .inl (c_b4, 2001, .inl (fun _ => 0)))] := hD
  have hK : va_K (dC, dI) vwCl [(c_b1, .int), (c_b2, .int), (c_b3, .boolean), (c_b4, .int)] s := hK
  refine W.widen (k := 4) (n := 8001) (by omega) (by omega) ?_
  refine va_putF (D := (dC, dI)) (ci := 1) (v := .ref b4) (ty := .array .int) (C := RX1) (T := TX1) (N := 10) hx hb hts in_X1_init tyX1 tyX1_ok nmX1 hown hK hP hD hS 0 rfl rfl 3 (by decide) (hts (.fieldLink RX1 20 "BranchLengthsModel" "places" "[I") (by decide +kernel)) (fun _ h9 => h9) rfl hin rfl (by decide +kernel) rfl rfl (Nat.le_of_ble_eq_true rfl) dX1_init_37 (fun H locs hP hD hS => ?_)
  have hP : va_P (dC, dI) vwCl [(h0, .inr (1, [.ref b1, .ref b2, .ref b3, .ref b4, .null, .int 0, .int 0, .int 0, .int 0, .int 0])), (b1, .inl (c_b1, 2000, .inl (fun _ => 0))), (b2, .inl (c_b2, 2000, .inl (fun _ => 0))), (b3, .inl (c_b3, 2000, .inl (fun _ => 0))), (b4, .inl (c_b4, 2001, .inl (fun _ => 0)))] H := hP
  have hD : va_D A [(h0, .inr (1, [.ref b1, .ref b2, .ref b3, .ref b4, .null, .int 0, .int 0, .int 0, .int 0, .int 0])), (b1, .inl (c_b1, 2000, .inl (fun _ => 0))), (b2, .inl (c_b2, 2000, .inl (fun _ => 0))), (b3, .inl (c_b3, 2000, .inl (fun _ => 0))), (b4, .inl (c_b4, 2001, .inl (fun _ => 0)))] := hD
  refine lv_aload_n hx hb dX1_init_40 rfl (lv_at hl 0 rfl) ?_
  refine lv_sipush (v := 2000) hx hb dX1_init_41 (by decide) ?_
  refine va_newa (atype := .int) (n := 2000) (ty := .int) (N' := 2000) (a0 := (2000, .inl (fun _ => 0))) hx hb (hts (.arrayClass .int) (by decide +kernel)) rfl hK hP hD hS hA (fun _ => na_zero_I) (by decide) (by decide) (by decide) (show 4 + 1 ≤ 5 by omega) (show 8001 + 2000 ≤ 10001 by omega) dX1_init_44 (fun b5 c_b5 H hK hP hD hS => ?_)
  have hP : va_P (dC, dI) vwCl [(h0, .inr (1, [.ref b1, .ref b2, .ref b3, .ref b4, .null, .int 0, .int 0, .int 0, .int 0, .int 0])), (b1, .inl (c_b1, 2000, .inl (fun _ => 0))), (b2, .inl (c_b2, 2000, .inl (fun _ => 0))), (b3, .inl (c_b3, 2000, .inl (fun _ => 0))), (b4, .inl (c_b4, 2001, .inl (fun _ => 0))), (b5, .inl (c_b5, 2000, .inl (fun _ => 0)))] H := hP
  have hD : va_D A [(h0, .inr (1, [.ref b1, .ref b2, .ref b3, .ref b4, .null, .int 0, .int 0, .int 0, .int 0, .int 0])), (b1, .inl (c_b1, 2000, .inl (fun _ => 0))), (b2, .inl (c_b2, 2000, .inl (fun _ => 0))), (b3, .inl (c_b3, 2000, .inl (fun _ => 0))), (b4, .inl (c_b4, 2001, .inl (fun _ => 0))), (b5, .inl (c_b5, 2000, .inl (fun _ => 0)))] := hD
  have hK : va_K (dC, dI) vwCl [(c_b1, .int), (c_b2, .int), (c_b3, .boolean), (c_b4, .int), (c_b5, .int)] s := hK
  refine W.widen (k := 5) (n := 10001) (by omega) (by omega) ?_
  refine va_putF (D := (dC, dI)) (ci := 1) (v := .ref b5) (ty := .array .int) (C := RX1) (T := TX1) (N := 10) hx hb hts in_X1_init tyX1 tyX1_ok nmX1 hown hK hP hD hS 0 rfl rfl 4 (by decide) (hts (.fieldLink RX1 23 "BranchLengthsModel" "markItems" "[I") (by decide +kernel)) (fun _ h9 => h9) rfl hin rfl (by decide +kernel) rfl rfl (Nat.le_of_ble_eq_true rfl) dX1_init_46 (fun H locs hP hD hS => ?_)
  have hP : va_P (dC, dI) vwCl [(h0, .inr (1, [.ref b1, .ref b2, .ref b3, .ref b4, .ref b5, .int 0, .int 0, .int 0, .int 0, .int 0])), (b1, .inl (c_b1, 2000, .inl (fun _ => 0))), (b2, .inl (c_b2, 2000, .inl (fun _ => 0))), (b3, .inl (c_b3, 2000, .inl (fun _ => 0))), (b4, .inl (c_b4, 2001, .inl (fun _ => 0))), (b5, .inl (c_b5, 2000, .inl (fun _ => 0)))] H := hP
  have hD : va_D A [(h0, .inr (1, [.ref b1, .ref b2, .ref b3, .ref b4, .ref b5, .int 0, .int 0, .int 0, .int 0, .int 0])), (b1, .inl (c_b1, 2000, .inl (fun _ => 0))), (b2, .inl (c_b2, 2000, .inl (fun _ => 0))), (b3, .inl (c_b3, 2000, .inl (fun _ => 0))), (b4, .inl (c_b4, 2001, .inl (fun _ => 0))), (b5, .inl (c_b5, 2000, .inl (fun _ => 0)))] := hD
  refine lv_aload_n hx hb dX1_init_49 rfl (lv_at hl 0 rfl) ?_
  refine lv_sipush (v := nI 1000) hx hb dX1_init_50 (by decide) ?_
  refine va_put (D := (dC, dI)) (ci := 1) (v := .int (nI 1000)) (ty := .int) (C := RX1) (T := TX1) (N := 10) hx hb hts in_X1_init tyX1 tyX1_ok nmX1 hown hK hP hD hS 0 rfl rfl 7 (by decide) (hts (.fieldLink RX1 26 "BranchLengthsModel" "reach" "I") (by decide +kernel)) (fun _ h9 => h9) rfl (by decide +kernel) rfl rfl (Nat.le_of_ble_eq_true rfl) dX1_init_53 (fun H locs hP hD hS => ?_)
  have hP : va_P (dC, dI) vwCl [(h0, .inr (1, [.ref b1, .ref b2, .ref b3, .ref b4, .ref b5, .int 0, .int 0, .int (nI 1000), .int 0, .int 0])), (b1, .inl (c_b1, 2000, .inl (fun _ => 0))), (b2, .inl (c_b2, 2000, .inl (fun _ => 0))), (b3, .inl (c_b3, 2000, .inl (fun _ => 0))), (b4, .inl (c_b4, 2001, .inl (fun _ => 0))), (b5, .inl (c_b5, 2000, .inl (fun _ => 0)))] H := hP
  have hD : va_D A [(h0, .inr (1, [.ref b1, .ref b2, .ref b3, .ref b4, .ref b5, .int 0, .int 0, .int (nI 1000), .int 0, .int 0])), (b1, .inl (c_b1, 2000, .inl (fun _ => 0))), (b2, .inl (c_b2, 2000, .inl (fun _ => 0))), (b3, .inl (c_b3, 2000, .inl (fun _ => 0))), (b4, .inl (c_b4, 2001, .inl (fun _ => 0))), (b5, .inl (c_b5, 2000, .inl (fun _ => 0)))] := hD
  refine lv_aload_n hx hb dX1_init_56 rfl (lv_at hl 0 rfl) ?_
  refine lv_iconst (v := -1) hx hb dX1_init_57 (by decide) ?_
  refine va_put (D := (dC, dI)) (ci := 1) (v := .int (-1)) (ty := .int) (C := RX1) (T := TX1) (N := 10) hx hb hts in_X1_init tyX1 tyX1_ok nmX1 hown hK hP hD hS 0 rfl rfl 8 (by decide) (hts (.fieldLink RX1 30 "BranchLengthsModel" "least" "I") (by decide +kernel)) (fun _ h9 => h9) rfl (by decide +kernel) rfl rfl (Nat.le_of_ble_eq_true rfl) dX1_init_58 (fun H locs hP hD hS => ?_)
  have hP : va_P (dC, dI) vwCl [(h0, .inr (1, [.ref b1, .ref b2, .ref b3, .ref b4, .ref b5, .int 0, .int 0, .int (nI 1000), .int (-1), .int 0])), (b1, .inl (c_b1, 2000, .inl (fun _ => 0))), (b2, .inl (c_b2, 2000, .inl (fun _ => 0))), (b3, .inl (c_b3, 2000, .inl (fun _ => 0))), (b4, .inl (c_b4, 2001, .inl (fun _ => 0))), (b5, .inl (c_b5, 2000, .inl (fun _ => 0)))] H := hP
  have hD : va_D A [(h0, .inr (1, [.ref b1, .ref b2, .ref b3, .ref b4, .ref b5, .int 0, .int 0, .int (nI 1000), .int (-1), .int 0])), (b1, .inl (c_b1, 2000, .inl (fun _ => 0))), (b2, .inl (c_b2, 2000, .inl (fun _ => 0))), (b3, .inl (c_b3, 2000, .inl (fun _ => 0))), (b4, .inl (c_b4, 2001, .inl (fun _ => 0))), (b5, .inl (c_b5, 2000, .inl (fun _ => 0)))] := hD
  have hu1 : c_b1 = c_b2 := na_same_int hK (i := 0) (j := 1) rfl rfl
  subst hu1
  have hu3 : c_b1 = c_b4 := na_same_int hK (i := 0) (j := 3) rfl rfl
  subst hu3
  have hu4 : c_b1 = c_b5 := na_same_int hK (i := 0) (j := 4) rfl rfl
  subst hu4
  have hK9 := hK.sub (tys' := [(c_b1, .int), (c_b3, .boolean)]) [0, 2] rfl
  exact W.vret hx hb hr (fun t ht hW => ⟨⟨(), rfl, trivial, b1, b2, b3, b4, b5, c_b1, c_b3, by rw [ht]; exact hP, va_K.moved hW.alike hK9, hD⟩, hS.F ht⟩) hS.2.2 dX1_init_61
end
section
set_option maxHeartbeats 4000000 in
set_option maxRecDepth 100000 in
/-- lay() -/
theorem m_lay (l : Launch) (dC : Nat → ClassId) (dI : Nat → Nat → Nat) (cA cZ : ClassId) (h1 b1 b2 b3 b4 b5 sz : Nat) (g1 g2 g3 g4 g5 : Nat → Int32) (n K rr : Nat) (br : Nat → Bool) (b tg mi : Nat → Nat) (le la : Int32) (hM : MRow g1 g2 g5 n K br b tg mi) (hO : RowOk n K br b tg mi) (hr0 : rr ≤ 100000) : na_Mi (S := (Nat → Int32) × (Nat → Int32) × Int32 × Int32) l yX1_lay wsX1_lay ({ frames := 1, cells := 0, slots := 0, locals := 30 }) (dC, dI) vwCl [(cA, .int), (cZ, .boolean)] sz [.ref h1] [(h1, .inr (1, [.ref b1, .ref b2, .ref b3, .ref b4, .ref b5, .int (nI n), .int (nI K), .int (nI rr), .int le, .int la])), (b1, .inl (cA, 2000, .inl g1)), (b2, .inl (cA, 2000, .inl g2)), (b3, .inl (cZ, 2000, .inl g3)), (b4, .inl (cA, 2001, .inl g4)), (b5, .inl (cA, 2000, .inl g5))] (MLay n K rr br b tg mi g3 g4) (fun u => [(h1, .inr (1, [.ref b1, .ref b2, .ref b3, .ref b4, .ref b5, .int (nI n), .int (nI K), .int (nI rr), .int u.2.2.1, .int u.2.2.2])), (b1, .inl (cA, 2000, .inl g1)), (b2, .inl (cA, 2000, .inl g2)), (b3, .inl (cZ, 2000, .inl u.1)), (b4, .inl (cA, 2001, .inl u.2.1)), (b5, .inl (cA, 2000, .inl g5))]) := by
  refine Met.ofW (cc := cX1_lay) (maxL := 3) (ret := (some .int)) (by decide) rfl ?_
  intro p e s m args below meth c s₁ B hml hv
  obtain ⟨rfl, hsz, hP, hK, hD0⟩ := hv
  have hx := B.exec
  have hb := B.bytes
  have hr := B.returns
  have hts := atoms_spec (ws := wsX1_lay) B.pre
  have hown : s.vm.findClass RX1 = some m.cls := findClass_of_methodNamed B.named
  have hlocks := B.notSynchronized
  subst hsz
  have hD := hD0.self (sz := s.heap.size)
  generalize hAe : va_A [(h1, .inr (1, [.ref b1, .ref b2, .ref b3, .ref b4, .ref b5, .int (nI n), .int (nI K), .int (nI rr), .int le, .int la])), (b1, .inl (cA, 2000, .inl g1)), (b2, .inl (cA, 2000, .inl g2)), (b3, .inl (cZ, 2000, .inl g3)), (b4, .inl (cA, 2001, .inl g4)), (b5, .inl (cA, 2000, .inl g5))] s.heap.size = A at hD ⊢
  have hA : ∀ q : Nat, s.heap.size ≤ q → A q := fun q h => by rw [← hAe]; exact Or.inr h
  have hS : va_S A s.heap s.heap [] := va_S.rf
  have hP : va_P (dC, dI) vwCl [(h1, .inr (1, [.ref b1, .ref b2, .ref b3, .ref b4, .ref b5, .int (nI n), .int (nI K), .int (nI rr), .int le, .int la])), (b1, .inl (cA, 2000, .inl g1)), (b2, .inl (cA, 2000, .inl g2)), (b3, .inl (cZ, 2000, .inl g3)), (b4, .inl (cA, 2001, .inl g4)), (b5, .inl (cA, 2000, .inl g5))] s.heap := hP
  have hl := lv_entry ([.ref h1]) (n := 3) (Nat.le_of_ble_eq_true rfl)
  rw [lg_entry_eq]
  generalize (lg_sl ([.ref h1]) ++ List.replicate (3 - (lg_sl ([.ref h1])).length) Slot.unset).toArray = ls at hl ⊢
  have hl : lv_has ls 3 [(0, .ref h1)] := hl
  have hn : n ≤ 1024 := hO.1
  refine lv_aload_n hx hb dX1_lay_0 rfl (lv_at hl 0 rfl) ?_
  refine lv_iconst (v := 0) hx hb dX1_lay_1 (by decide) ?_
  refine va_put (D := (dC, dI)) (ci := 1) (v := .int 0) (ty := .boolean) (C := RX1) (T := TX1) (N := 10) hx hb hts in_X1_lay tyX1 tyX1_ok nmX1 hown hK hP hD hS 0 rfl rfl 9 (by decide) (hts (.fieldLink RX1 36 "BranchLengthsModel" "laid" "Z") (by decide +kernel)) (fun _ h9 => h9) rfl (by decide +kernel) rfl rfl (Nat.le_of_ble_eq_true rfl) dX1_lay_2 (fun H locs hP hD hS => ?_)
  have hP : va_P (dC, dI) vwCl [(h1, .inr (1, [.ref b1, .ref b2, .ref b3, .ref b4, .ref b5, .int (nI n), .int (nI K), .int (nI rr), .int le, .int 0])), (b1, .inl (cA, 2000, .inl g1)), (b2, .inl (cA, 2000, .inl g2)), (b3, .inl (cZ, 2000, .inl g3)), (b4, .inl (cA, 2001, .inl g4)), (b5, .inl (cA, 2000, .inl g5))] H := hP
  have hD : va_D A [(h1, .inr (1, [.ref b1, .ref b2, .ref b3, .ref b4, .ref b5, .int (nI n), .int (nI K), .int (nI rr), .int le, .int 0])), (b1, .inl (cA, 2000, .inl g1)), (b2, .inl (cA, 2000, .inl g2)), (b3, .inl (cZ, 2000, .inl g3)), (b4, .inl (cA, 2001, .inl g4)), (b5, .inl (cA, 2000, .inl g5))] := hD
  refine lv_aload_n hx hb dX1_lay_5 rfl (lv_at hl 0 rfl) ?_
  refine lv_iconst (v := -1) hx hb dX1_lay_6 (by decide) ?_
  refine va_put (D := (dC, dI)) (ci := 1) (v := .int (-1)) (ty := .int) (C := RX1) (T := TX1) (N := 10) hx hb hts in_X1_lay tyX1 tyX1_ok nmX1 hown hK hP hD hS 0 rfl rfl 8 (by decide) (hts (.fieldLink RX1 30 "BranchLengthsModel" "least" "I") (by decide +kernel)) (fun _ h9 => h9) rfl (by decide +kernel) rfl rfl (Nat.le_of_ble_eq_true rfl) dX1_lay_7 (fun H locs hP hD hS => ?_)
  have hP : va_P (dC, dI) vwCl [(h1, .inr (1, [.ref b1, .ref b2, .ref b3, .ref b4, .ref b5, .int (nI n), .int (nI K), .int (nI rr), .int (-1), .int 0])), (b1, .inl (cA, 2000, .inl g1)), (b2, .inl (cA, 2000, .inl g2)), (b3, .inl (cZ, 2000, .inl g3)), (b4, .inl (cA, 2001, .inl g4)), (b5, .inl (cA, 2000, .inl g5))] H := hP
  have hD : va_D A [(h1, .inr (1, [.ref b1, .ref b2, .ref b3, .ref b4, .ref b5, .int (nI n), .int (nI K), .int (nI rr), .int (-1), .int 0])), (b1, .inl (cA, 2000, .inl g1)), (b2, .inl (cA, 2000, .inl g2)), (b3, .inl (cZ, 2000, .inl g3)), (b4, .inl (cA, 2001, .inl g4)), (b5, .inl (cA, 2000, .inl g5))] := hD
  refine lv_iconst (v := nI 0) hx hb dX1_lay_10 (by decide) ?_
  refine lv_istore_n (lv' := [(1, .int (nI 0)), (0, .ref h1)]) hx hb dX1_lay_11 rfl hl (by decide) rfl (fun ls hl => ?_)
  refine na_loop (pc := 12) (fun (d : Nat) (k : Nat) (H : Heap) (locs : List Loc) (ls : Array Slot) => (k ≤ n ∧ d = n - k ∧ ∀ j, j < k → ¬ (g1 j = 2 ∧ ¬ g2 j < nI K)) ∧ va_P (dC, dI) vwCl [(h1, .inr (1, [.ref b1, .ref b2, .ref b3, .ref b4, .ref b5, .int (nI n), .int (nI K), .int (nI rr), .int (-1), .int 0])), (b1, .inl (cA, 2000, .inl g1)), (b2, .inl (cA, 2000, .inl g2)), (b3, .inl (cZ, 2000, .inl g3)), (b4, .inl (cA, 2001, .inl g4)), (b5, .inl (cA, 2000, .inl g5))] H ∧ va_D A [(h1, .inr (1, [.ref b1, .ref b2, .ref b3, .ref b4, .ref b5, .int (nI n), .int (nI K), .int (nI rr), .int (-1), .int 0])), (b1, .inl (cA, 2000, .inl g1)), (b2, .inl (cA, 2000, .inl g2)), (b3, .inl (cZ, 2000, .inl g3)), (b4, .inl (cA, 2001, .inl g4)), (b5, .inl (cA, 2000, .inl g5))] ∧ va_S A s.heap H locs ∧ lv_has ls 3 [(0, .ref h1), (1, .int (nI k))]) ?_ (n - 0) (0) ⟨⟨Nat.zero_le _, rfl, fun j h => absurd h (by omega)⟩, hP, hD, hS, lv_sub hl [1, 0] rfl⟩
  intro d k H locs ls hI ih
  obtain ⟨⟨hkn, hd, hinv⟩, hP, hD, hS, hl⟩ := hI
  refine lv_iload_n hx hb dX1_lay_12 rfl (lv_at hl 1 rfl) ?_
  refine lv_aload_n hx hb dX1_lay_13 rfl (lv_at hl 0 rfl) ?_
  refine va_get (D := (dC, dI)) (ci := 1) (v := .int (nI n)) (C := RX1) (T := TX1) (N := 10) hx hb hts in_X1_lay hown hK hP 0 rfl rfl 5 (by decide) (hts (.fieldLink RX1 33 "BranchLengthsModel" "items" "I") (by decide +kernel)) (fun _ h9 => h9) rfl dX1_lay_14 ?_
  refine lv_icmp_ge (tgt := 61) hx hb dX1_lay_17 (by decide) (fun hc => ?_) (fun hc => ?_)
  · have hkn' := na_ge (by omega) hkn hc
    subst hkn'
    have hA1 : LAll n K br tg := fun j hj hb => by
      rcases Nat.lt_or_ge (tg j) K with q | q
      · exact q
      · exact absurd ((mr_miss hM hO hj).mpr ⟨hb, q⟩) (hinv j hj)
    refine lv_aload_n hx hb dX1_lay_61 rfl (lv_at hl 0 rfl) ?_
    refine va_get (D := (dC, dI)) (ci := 1) (v := .int (-1)) (C := RX1) (T := TX1) (N := 10) hx hb hts in_X1_lay hown hK hP 0 rfl rfl 8 (by decide) (hts (.fieldLink RX1 30 "BranchLengthsModel" "least" "I") (by decide +kernel)) (fun _ h9 => h9) rfl dX1_lay_62 ?_
    refine lv_if_lt (tgt := 70) hx hb dX1_lay_65 (by decide) (fun hc2 => ?_) (fun hc2 => ?_)
    · refine lv_iconst (v := nI 0) hx hb dX1_lay_70 (by decide) ?_
      refine lv_istore_n (lv' := [(1, .int (nI 0)), (0, .ref h1)]) hx hb dX1_lay_71 rfl hl (by decide) rfl (fun ls hl => ?_)
      refine na_loop (pc := 72) (fun (d : Nat) (k : Nat) (H : Heap) (locs : List Loc) (ls : Array Slot) => (k ≤ n ∧ d = n - k) ∧ va_P (dC, dI) vwCl [(h1, .inr (1, [.ref b1, .ref b2, .ref b3, .ref b4, .ref b5, .int (nI n), .int (nI K), .int (nI rr), .int (-1), .int 0])), (b1, .inl (cA, 2000, .inl g1)), (b2, .inl (cA, 2000, .inl g2)), (b3, .inl (cZ, 2000, .inl (mZ g3 k))), (b4, .inl (cA, 2001, .inl g4)), (b5, .inl (cA, 2000, .inl g5))] H ∧ va_D A [(h1, .inr (1, [.ref b1, .ref b2, .ref b3, .ref b4, .ref b5, .int (nI n), .int (nI K), .int (nI rr), .int (-1), .int 0])), (b1, .inl (cA, 2000, .inl g1)), (b2, .inl (cA, 2000, .inl g2)), (b3, .inl (cZ, 2000, .inl (mZ g3 k))), (b4, .inl (cA, 2001, .inl g4)), (b5, .inl (cA, 2000, .inl g5))] ∧ va_S A s.heap H locs ∧ lv_has ls 3 [(0, .ref h1), (1, .int (nI k))]) ?_ (n - 0) (0) ⟨⟨Nat.zero_le _, rfl⟩, by rw [mZ_0]; exact hP, by rw [mZ_0]; exact hD, hS, lv_sub hl [1, 0] rfl⟩
      clear ih
      intro d k H locs ls hI ih
      obtain ⟨⟨hkn, hd⟩, hP, hD, hS, hl⟩ := hI
      refine lv_iload_n hx hb dX1_lay_72 rfl (lv_at hl 1 rfl) ?_
      refine lv_aload_n hx hb dX1_lay_73 rfl (lv_at hl 0 rfl) ?_
      refine va_get (D := (dC, dI)) (ci := 1) (v := .int (nI n)) (C := RX1) (T := TX1) (N := 10) hx hb hts in_X1_lay hown hK hP 0 rfl rfl 5 (by decide) (hts (.fieldLink RX1 33 "BranchLengthsModel" "items" "I") (by decide +kernel)) (fun _ h9 => h9) rfl dX1_lay_74 ?_
      refine lv_icmp_ge (tgt := 93) hx hb dX1_lay_77 (by decide) (fun hc => ?_) (fun hc => ?_)
      · have hkn' := na_ge (by omega) hkn hc
        subst hkn'
        clear ih
        rw [ml_0 n g3 br] at hP hD
        have hP : va_P (dC, dI) vwCl [(h1, .inr (1, [.ref b1, .ref b2, .ref b3, .ref b4, .ref b5, .int (nI n), .int (nI K), .int (nI rr), .int (-1), .int 0])), (b1, .inl (cA, 2000, .inl g1)), (b2, .inl (cA, 2000, .inl g2)), (b3, .inl (cZ, 2000, .inl (mL n g3 br (fun _ => false)))), (b4, .inl (cA, 2001, .inl g4)), (b5, .inl (cA, 2000, .inl g5))] H := hP
        have hD : va_D A [(h1, .inr (1, [.ref b1, .ref b2, .ref b3, .ref b4, .ref b5, .int (nI n), .int (nI K), .int (nI rr), .int (-1), .int 0])), (b1, .inl (cA, 2000, .inl g1)), (b2, .inl (cA, 2000, .inl g2)), (b3, .inl (cZ, 2000, .inl (mL n g3 br (fun _ => false)))), (b4, .inl (cA, 2001, .inl g4)), (b5, .inl (cA, 2000, .inl g5))] := hD
        refine lv_iconst (v := 1) hx hb dX1_lay_93 rfl ?_
        refine lv_istore_n (lv' := [(1, .int 1), (0, .ref h1)]) hx hb dX1_lay_94 rfl hl (by decide) rfl (fun ls hl => ?_)
        refine na_loop (pc := 95) (fun (d : Nat) (q : (Nat → Bool) × (Nat → Int32) × Bool) (H : Heap) (locs : List Loc) (ls : Array Slot) => ((d = if q.2.2 = true then n - cnt (brL br q.1) n + 1 else 0) ∧ Least n rr br b (fun j => mi (tg j)) q.1 ∧ (q.2.2 = false → Closd n rr br b (fun j => mi (tg j)) q.1 ∧ ∀ j, j ≤ n → q.2.1 j = nI (ps (wd br b q.1) j))) ∧ va_P (dC, dI) vwCl [(h1, .inr (1, [.ref b1, .ref b2, .ref b3, .ref b4, .ref b5, .int (nI n), .int (nI K), .int (nI rr), .int (-1), .int 0])), (b1, .inl (cA, 2000, .inl g1)), (b2, .inl (cA, 2000, .inl g2)), (b3, .inl (cZ, 2000, .inl (mL n g3 br q.1))), (b4, .inl (cA, 2001, .inl q.2.1)), (b5, .inl (cA, 2000, .inl g5))] H ∧ va_D A [(h1, .inr (1, [.ref b1, .ref b2, .ref b3, .ref b4, .ref b5, .int (nI n), .int (nI K), .int (nI rr), .int (-1), .int 0])), (b1, .inl (cA, 2000, .inl g1)), (b2, .inl (cA, 2000, .inl g2)), (b3, .inl (cZ, 2000, .inl (mL n g3 br q.1))), (b4, .inl (cA, 2001, .inl q.2.1)), (b5, .inl (cA, 2000, .inl g5))] ∧ va_S A s.heap H locs ∧ lv_has ls 3 [(0, .ref h1), (1, .int (if q.2.2 = true then 1 else 0))]) ?_ (n - cnt (brL br (fun _ => false)) n + 1) (((fun _ => false), g4, true)) ⟨⟨rfl, least_0 (fun _ _ _ => Bool.false_ne_true), fun q => absurd (show true = false from q) (by decide)⟩, hP, hD, hS, lv_sub hl [1, 0] rfl⟩
        intro d q H locs ls hI ih
        obtain ⟨L, g, mr⟩ := q
        obtain ⟨⟨hd, hle, hcl⟩, hP, hD, hS, hl⟩ := hI
        dsimp only at hd hle hcl hP hD hl
        have hP : va_P (dC, dI) vwCl [(h1, .inr (1, [.ref b1, .ref b2, .ref b3, .ref b4, .ref b5, .int (nI n), .int (nI K), .int (nI rr), .int (-1), .int 0])), (b1, .inl (cA, 2000, .inl g1)), (b2, .inl (cA, 2000, .inl g2)), (b3, .inl (cZ, 2000, .inl (mL n g3 br L))), (b4, .inl (cA, 2001, .inl g)), (b5, .inl (cA, 2000, .inl g5))] H := hP
        have hD : va_D A [(h1, .inr (1, [.ref b1, .ref b2, .ref b3, .ref b4, .ref b5, .int (nI n), .int (nI K), .int (nI rr), .int (-1), .int 0])), (b1, .inl (cA, 2000, .inl g1)), (b2, .inl (cA, 2000, .inl g2)), (b3, .inl (cZ, 2000, .inl (mL n g3 br L))), (b4, .inl (cA, 2001, .inl g)), (b5, .inl (cA, 2000, .inl g5))] := hD
        have hl : lv_has ls 3 [(0, .ref h1), (1, .int (if mr = true then 1 else 0))] := hl
        refine lv_iload_n hx hb dX1_lay_95 rfl (lv_at hl 1 rfl) ?_
        refine lv_if_eq (tgt := 154) hx hb dX1_lay_96 (by decide) (fun hc5 => ?_) (fun hc5 => ?_)
        · have hm : mr = false := by
            cases mr with
            | false => rfl
            | true => exact absurd hc5 (by decide)
          obtain ⟨hcl1, hcl2⟩ := hcl hm
          refine lv_aload_n hx hb dX1_lay_154 rfl (lv_at hl 0 rfl) ?_
          refine lv_iconst (v := 1) hx hb dX1_lay_155 (by decide) ?_
          refine va_put (D := (dC, dI)) (ci := 1) (v := .int 1) (ty := .boolean) (C := RX1) (T := TX1) (N := 10) hx hb hts in_X1_lay tyX1 tyX1_ok nmX1 hown hK hP hD hS 0 rfl rfl 9 (by decide) (hts (.fieldLink RX1 36 "BranchLengthsModel" "laid" "Z") (by decide +kernel)) (fun _ h9 => h9) rfl (by decide +kernel) rfl rfl (Nat.le_of_ble_eq_true rfl) dX1_lay_156 (fun H locs hP hD hS => ?_)
          have hP : va_P (dC, dI) vwCl [(h1, .inr (1, [.ref b1, .ref b2, .ref b3, .ref b4, .ref b5, .int (nI n), .int (nI K), .int (nI rr), .int (-1), .int 1])), (b1, .inl (cA, 2000, .inl g1)), (b2, .inl (cA, 2000, .inl g2)), (b3, .inl (cZ, 2000, .inl (mL n g3 br L))), (b4, .inl (cA, 2001, .inl g)), (b5, .inl (cA, 2000, .inl g5))] H := hP
          have hD : va_D A [(h1, .inr (1, [.ref b1, .ref b2, .ref b3, .ref b4, .ref b5, .int (nI n), .int (nI K), .int (nI rr), .int (-1), .int 1])), (b1, .inl (cA, 2000, .inl g1)), (b2, .inl (cA, 2000, .inl g2)), (b3, .inl (cZ, 2000, .inl (mL n g3 br L))), (b4, .inl (cA, 2001, .inl g)), (b5, .inl (cA, 2000, .inl g5))] := hD
          refine lv_aload_n hx hb dX1_lay_159 rfl (lv_at hl 0 rfl) ?_
          refine va_get (D := (dC, dI)) (ci := 1) (v := .ref b4) (C := RX1) (T := TX1) (N := 10) hx hb hts in_X1_lay hown hK hP 0 rfl rfl 3 (by decide) (hts (.fieldLink RX1 20 "BranchLengthsModel" "places" "[I") (by decide +kernel)) (fun _ h9 => h9) rfl dX1_lay_160 ?_
          refine lv_aload_n hx hb dX1_lay_163 rfl (lv_at hl 0 rfl) ?_
          refine va_get (D := (dC, dI)) (ci := 1) (v := .int (nI n)) (C := RX1) (T := TX1) (N := 10) hx hb hts in_X1_lay hown hK hP 0 rfl rfl 5 (by decide) (hts (.fieldLink RX1 33 "BranchLengthsModel" "items" "I") (by decide +kernel)) (fun _ h9 => h9) rfl dX1_lay_164 ?_
          refine na_iald (k := n) hx hb hK hP 4 0 rfl rfl (by omega) (by decide) dX1_lay_167 ?_
          refine na_eqi (y := nI (ps (wd br b L) n)) (hcl2 n (Nat.le_refl n)) ?_
          exact W.iret (v := (nI (ps (wd br b L) n))) hx hb hr (fun t ht hW => ⟨⟨(nI (ps (wd br b L) n)), (mL n g3 br L, g, -1, 1), rfl, Or.inr ⟨hA1, rfl, rfl, L, hcl1, hle, rfl, hcl2, fun j hj => if_pos hj⟩, by rw [ht]; exact hP, va_K.moved hW.alike hK, hD⟩, hS.F ht⟩) hS.2.2 dX1_lay_168
        · have hm : mr = true := by
            cases mr with
            | false => exact absurd rfl hc5
            | true => rfl
          rw [hm, if_pos rfl] at hd
          refine lv_aload_n hx hb dX1_lay_99 rfl (lv_at hl 0 rfl) ?_
          refine na_callv (As := []) (rest := []) (wc := [(h1, .inr (1, [.ref b1, .ref b2, .ref b3, .ref b4, .ref b5, .int (nI n), .int (nI K), .int (nI rr), .int (-1), .int 0])), (b1, .inl (cA, 2000, .inl g1)), (b2, .inl (cA, 2000, .inl g2)), (b3, .inl (cZ, 2000, .inl (mL n g3 br L))), (b4, .inl (cA, 2001, .inl g)), (b5, .inl (cA, 2000, .inl g5))]) (wr := []) (ci := 1) ⟨hx, hb, hml, hown, hts⟩ (m_addUp l dC dI cA cZ h1 b1 b2 b3 b4 b5 H.size g1 g2 (mL n g3 br L) g g5 n (nI K) (nI rr) (-1) 0 (by omega)) (cwV 0 hts gX1_lay_X1_addUp rfl rfl rfl (by decide +kernel) ⟨Nat.le_of_ble_eq_true rfl, Nat.le_of_ble_eq_true rfl⟩) hK hP hD hS hA [0, 1, 2, 3, 4, 5] [] rfl rfl rfl rfl (by decide) rfl rfl 0 rfl rfl hl.1 (Nat.le_of_ble_eq_true rfl) dX1_lay_100 ⟨Nat.le_of_ble_eq_true rfl, Nat.le_of_ble_eq_true rfl⟩ rfl (fun u H locs hw hP hD hS => ?_)
          have hP : va_P (dC, dI) vwCl [(h1, .inr (1, [.ref b1, .ref b2, .ref b3, .ref b4, .ref b5, .int (nI n), .int (nI K), .int (nI rr), .int (-1), .int 0])), (b1, .inl (cA, 2000, .inl g1)), (b2, .inl (cA, 2000, .inl g2)), (b3, .inl (cZ, 2000, .inl (mL n g3 br L))), (b4, .inl (cA, 2001, .inl (mA (mV g1 g2 (mL n g3 br L)) g n))), (b5, .inl (cA, 2000, .inl g5))] H := hP
          have hD : va_D A [(h1, .inr (1, [.ref b1, .ref b2, .ref b3, .ref b4, .ref b5, .int (nI n), .int (nI K), .int (nI rr), .int (-1), .int 0])), (b1, .inl (cA, 2000, .inl g1)), (b2, .inl (cA, 2000, .inl g2)), (b3, .inl (cZ, 2000, .inl (mL n g3 br L))), (b4, .inl (cA, 2001, .inl (mA (mV g1 g2 (mL n g3 br L)) g n))), (b5, .inl (cA, 2000, .inl g5))] := hD
          have h4 : ∀ j, j ≤ n → (mA (mV g1 g2 (mL n g3 br L)) g n) j = nI (ps (wd br b L) j) := mr_pl hM
          generalize mA (mV g1 g2 (mL n g3 br L)) g n = g6 at hP hD h4
          have hP : va_P (dC, dI) vwCl [(h1, .inr (1, [.ref b1, .ref b2, .ref b3, .ref b4, .ref b5, .int (nI n), .int (nI K), .int (nI rr), .int (-1), .int 0])), (b1, .inl (cA, 2000, .inl g1)), (b2, .inl (cA, 2000, .inl g2)), (b3, .inl (cZ, 2000, .inl (mL n g3 br L))), (b4, .inl (cA, 2001, .inl g6)), (b5, .inl (cA, 2000, .inl g5))] H := hP
          have hD : va_D A [(h1, .inr (1, [.ref b1, .ref b2, .ref b3, .ref b4, .ref b5, .int (nI n), .int (nI K), .int (nI rr), .int (-1), .int 0])), (b1, .inl (cA, 2000, .inl g1)), (b2, .inl (cA, 2000, .inl g2)), (b3, .inl (cZ, 2000, .inl (mL n g3 br L))), (b4, .inl (cA, 2001, .inl g6)), (b5, .inl (cA, 2000, .inl g5))] := hD
          refine lv_iconst (v := mo (mBad g1 g2 (mL n g3 br L) g6 g5 (nI rr)) 0) hx hb dX1_lay_103 rfl ?_
          refine lv_istore_n (lv' := [(1, .int (mo (mBad g1 g2 (mL n g3 br L) g6 g5 (nI rr)) 0)), (0, .ref h1)]) hx hb dX1_lay_104 rfl hl (by decide) rfl (fun ls hl => ?_)
          refine lv_iconst (v := nI 0) hx hb dX1_lay_105 (by decide) ?_
          refine lv_istore_n (lv' := [(2, .int (nI 0)), (1, .int (mo (mBad g1 g2 (mL n g3 br L) g6 g5 (nI rr)) 0)), (0, .ref h1)]) hx hb dX1_lay_106 rfl hl (by decide) rfl (fun ls hl => ?_)
          refine na_loop (pc := 107) (fun (d : Nat) (k : Nat) (H : Heap) (locs : List Loc) (ls : Array Slot) => (k ≤ n ∧ d = n - k) ∧ va_P (dC, dI) vwCl [(h1, .inr (1, [.ref b1, .ref b2, .ref b3, .ref b4, .ref b5, .int (nI n), .int (nI K), .int (nI rr), .int (-1), .int 0])), (b1, .inl (cA, 2000, .inl g1)), (b2, .inl (cA, 2000, .inl g2)), (b3, .inl (cZ, 2000, .inl (mS (mL n g3 br L) (mBad g1 g2 (mL n g3 br L) g6 g5 (nI rr)) k))), (b4, .inl (cA, 2001, .inl g6)), (b5, .inl (cA, 2000, .inl g5))] H ∧ va_D A [(h1, .inr (1, [.ref b1, .ref b2, .ref b3, .ref b4, .ref b5, .int (nI n), .int (nI K), .int (nI rr), .int (-1), .int 0])), (b1, .inl (cA, 2000, .inl g1)), (b2, .inl (cA, 2000, .inl g2)), (b3, .inl (cZ, 2000, .inl (mS (mL n g3 br L) (mBad g1 g2 (mL n g3 br L) g6 g5 (nI rr)) k))), (b4, .inl (cA, 2001, .inl g6)), (b5, .inl (cA, 2000, .inl g5))] ∧ va_S A s.heap H locs ∧ lv_has ls 3 [(0, .ref h1), (1, .int (mo (mBad g1 g2 (mL n g3 br L) g6 g5 (nI rr)) k)), (2, .int (nI k))]) ?_ (n - 0) (0) ⟨⟨Nat.zero_le _, rfl⟩, by rw [mS_0]; exact hP, by rw [mS_0]; exact hD, hS, lv_sub hl [2, 1, 0] rfl⟩
          intro d2 k H locs ls hI ih2
          obtain ⟨⟨hkn, hd2⟩, hP, hD, hS, hl⟩ := hI
          refine lv_iload_n hx hb dX1_lay_107 rfl (lv_at hl 2 rfl) ?_
          refine lv_aload_n hx hb dX1_lay_108 rfl (lv_at hl 0 rfl) ?_
          refine va_get (D := (dC, dI)) (ci := 1) (v := .int (nI n)) (C := RX1) (T := TX1) (N := 10) hx hb hts in_X1_lay hown hK hP 0 rfl rfl 5 (by decide) (hts (.fieldLink RX1 33 "BranchLengthsModel" "items" "I") (by decide +kernel)) (fun _ h9 => h9) rfl dX1_lay_109 ?_
          refine lv_icmp_ge (tgt := 151) hx hb dX1_lay_112 (by decide) (fun hc6 => ?_) (fun hc6 => ?_)
          · have hkn' := na_ge (by omega) hkn hc6
            subst hkn'
            refine lv_goto (tgt := 95) hx hb dX1_lay_151 (by decide) ?_
            by_cases h0c : cnt (mBad g1 g2 (mL n g3 br L) g6 g5 (nI rr)) n = 0
            · have e1 : mo (mBad g1 g2 (mL n g3 br L) g6 g5 (nI rr)) n = 0 := if_pos h0c
              rw [e1] at hl
              rw [mS_none h0c] at hP hD
              exact ih 0 (L, g6, false) _ _ _ (by omega) ⟨⟨rfl, hle, fun _ => ⟨m_closd_bad hM hO hA1 hr0 h4 h0c, h4⟩⟩, hP, hD, hS, lv_sub hl [0, 1] rfl⟩
            · have e1 : mo (mBad g1 g2 (mL n g3 br L) g6 g5 (nI rr)) n = 1 := if_neg h0c
              rw [e1] at hl
              rw [ml_s n g3 br L _ (fun j hj hq => ((mr_bad hM hO hA1 hr0 h4 hj).mp hq).1)] at hP hD
              have ecn := m_cnt_bad (g3 := g3) hM hO hA1 hr0 h4
              have hle9 := cnt_le (brL br (fun j => L j || mBad g1 g2 (mL n g3 br L) g6 g5 (nI rr) j)) n
              exact ih (n - cnt (brL br (fun j => L j || mBad g1 g2 (mL n g3 br L) g6 g5 (nI rr) j)) n + 1) ((fun j => L j || mBad g1 g2 (mL n g3 br L) g6 g5 (nI rr) j), g6, true) _ _ _ (by omega) ⟨⟨rfl, m_least_bad hM hO hA1 hr0 h4 hle, fun q => absurd (show true = false from q) (by decide)⟩, hP, hD, hS, lv_sub hl [0, 1] rfl⟩
          · have hlt := na_nge (by omega) hkn hc6
            refine lv_aload_n hx hb dX1_lay_115 rfl (lv_at hl 0 rfl) ?_
            refine va_get (D := (dC, dI)) (ci := 1) (v := .ref b1) (C := RX1) (T := TX1) (N := 10) hx hb hts in_X1_lay hown hK hP 0 rfl rfl 0 (by decide) (hts (.fieldLink RX1 9 "BranchLengthsModel" "kinds" "[I") (by decide +kernel)) (fun _ h9 => h9) rfl dX1_lay_116 ?_
            refine lv_iload_n hx hb dX1_lay_119 rfl (lv_at hl 2 rfl) ?_
            refine na_iald (k := k) hx hb hK hP 1 0 rfl rfl (by omega) (by decide) dX1_lay_120 ?_
            refine lv_iconst (v := 2) hx hb dX1_lay_121 (by decide) ?_
            refine lv_icmp_ne (tgt := 145) hx hb dX1_lay_122 (by decide) (fun hc7 => ?_) (fun hc7 => ?_)
            · have hbad : ¬ mBad g1 g2 (mL n g3 br L) g6 g5 (nI rr) k = true := fun q => hc7 (mBad_k.mp q).1
              refine lv_iinc (v := nI (k + 1)) (lv' := [(2, .int (nI (k + 1))), (0, .ref h1), (1, .int (mo (mBad g1 g2 (mL n g3 br L) g6 g5 (nI rr)) k))]) hx hb dX1_lay_145 hl (k := 2) rfl (nI_1 _) (by decide) rfl (fun ls hl => ?_)
              refine lv_goto (tgt := 107) hx hb dX1_lay_148 (by decide) ?_
              have hl := lv_sub hl (l' := [(0, .ref h1), (1, .int (mo (mBad g1 g2 (mL n g3 br L) g6 g5 (nI rr)) k)), (2, .int (nI (k + 1)))]) [1, 2, 0] rfl
              exact ih2 (n - (k + 1)) (k + 1) _ _ _ (by omega) ⟨⟨by omega, rfl⟩, by rw [← mS_n hbad]; exact hP, by rw [← mS_n hbad]; exact hD, hS, by rw [mo_n hbad]; exact hl⟩
            · obtain ⟨t, q, ht1, hq1, e2, e5⟩ := mr_tq hM hO hA1 hlt hc7
              refine lv_aload_n hx hb dX1_lay_125 rfl (lv_at hl 0 rfl) ?_
              refine lv_iload_n hx hb dX1_lay_126 rfl (lv_at hl 2 rfl) ?_
              refine na_calli (As := [.int (nI k)]) (rest := []) (wc := [(h1, .inr (1, [.ref b1, .ref b2, .ref b3, .ref b4, .ref b5, .int (nI n), .int (nI K), .int (nI rr), .int (-1), .int 0])), (b1, .inl (cA, 2000, .inl g1)), (b2, .inl (cA, 2000, .inl g2)), (b3, .inl (cZ, 2000, .inl (mS (mL n g3 br L) (mBad g1 g2 (mL n g3 br L) g6 g5 (nI rr)) k))), (b4, .inl (cA, 2001, .inl g6)), (b5, .inl (cA, 2000, .inl g5))]) (wr := []) (ci := 1) ⟨hx, hb, hml, hown, hts⟩ (m_reaches l dC dI cA cZ h1 b1 b2 b3 b4 b5 H.size g1 g2 (mS (mL n g3 br L) (mBad g1 g2 (mL n g3 br L) g6 g5 (nI rr)) k) g6 g5 n k t q (nI K) (nI rr) (-1) 0 (by omega) ht1 hq1 e2 e5) (cwV 1 hts gX1_lay_X1_reaches rfl rfl rfl (by decide +kernel) ⟨Nat.le_of_ble_eq_true rfl, Nat.le_of_ble_eq_true rfl⟩) hK hP hD hS hA [0, 1, 2, 3, 4, 5] [] rfl rfl rfl rfl (by decide) rfl rfl 0 rfl rfl hl.1 (Nat.le_of_ble_eq_true rfl) dX1_lay_127 ⟨Nat.le_of_ble_eq_true rfl, Nat.le_of_ble_eq_true rfl⟩ rfl (fun r u H locs hw hP hD hS => ?_)
              have hP : va_P (dC, dI) vwCl [(h1, .inr (1, [.ref b1, .ref b2, .ref b3, .ref b4, .ref b5, .int (nI n), .int (nI K), .int (nI rr), .int (-1), .int 0])), (b1, .inl (cA, 2000, .inl g1)), (b2, .inl (cA, 2000, .inl g2)), (b3, .inl (cZ, 2000, .inl (mS (mL n g3 br L) (mBad g1 g2 (mL n g3 br L) g6 g5 (nI rr)) k))), (b4, .inl (cA, 2001, .inl g6)), (b5, .inl (cA, 2000, .inl g5))] H := hP
              have hD : va_D A [(h1, .inr (1, [.ref b1, .ref b2, .ref b3, .ref b4, .ref b5, .int (nI n), .int (nI K), .int (nI rr), .int (-1), .int 0])), (b1, .inl (cA, 2000, .inl g1)), (b2, .inl (cA, 2000, .inl g2)), (b3, .inl (cZ, 2000, .inl (mS (mL n g3 br L) (mBad g1 g2 (mL n g3 br L) g6 g5 (nI rr)) k))), (b4, .inl (cA, 2001, .inl g6)), (b5, .inl (cA, 2000, .inl g5))] := hD
              have er : mRc g2 (mS (mL n g3 br L) (mBad g1 g2 (mL n g3 br L) g6 g5 (nI rr)) k) g6 g5 (nI rr) k ↔ mRc g2 (mL n g3 br L) g6 g5 (nI rr) k := by unfold mRc; rw [mS_at]
              refine lv_if_eq (tgt := 136) hx hb dX1_lay_130 (by decide) (fun hc8 => ?_) (fun hc8 => ?_)
              · have hbad : mBad g1 g2 (mL n g3 br L) g6 g5 (nI rr) k = true := mBad_k.mpr ⟨hc7, fun q => by
                  rcases hw with ⟨h8, h9⟩ | ⟨h8, h9⟩
                  · rw [hc8] at h8; exact absurd h8 (by decide)
                  · exact h9 (er.mpr q)⟩
                refine lv_aload_n hx hb dX1_lay_136 rfl (lv_at hl 0 rfl) ?_
                refine va_get (D := (dC, dI)) (ci := 1) (v := .ref b3) (C := RX1) (T := TX1) (N := 10) hx hb hts in_X1_lay hown hK hP 0 rfl rfl 2 (by decide) (hts (.fieldLink RX1 16 "BranchLengthsModel" "longOnes" "[Z") (by decide +kernel)) (fun _ h9 => h9) rfl dX1_lay_137 ?_
                refine lv_iload_n hx hb dX1_lay_140 rfl (lv_at hl 2 rfl) ?_
                refine lv_iconst (v := 1) hx hb dX1_lay_141 (by decide) ?_
                refine na_zast (k := k) hx hb hK hP hD hS 3 1 rfl rfl (by decide) (by omega) (by decide) (mS (mL n g3 br L) (mBad g1 g2 (mL n g3 br L) g6 g5 (nI rr)) (k + 1)) (mS_b hbad) dX1_lay_142 (fun H locs hP hD hS => ?_)
                have hP : va_P (dC, dI) vwCl [(h1, .inr (1, [.ref b1, .ref b2, .ref b3, .ref b4, .ref b5, .int (nI n), .int (nI K), .int (nI rr), .int (-1), .int 0])), (b1, .inl (cA, 2000, .inl g1)), (b2, .inl (cA, 2000, .inl g2)), (b3, .inl (cZ, 2000, .inl (mS (mL n g3 br L) (mBad g1 g2 (mL n g3 br L) g6 g5 (nI rr)) (k + 1)))), (b4, .inl (cA, 2001, .inl g6)), (b5, .inl (cA, 2000, .inl g5))] H := hP
                have hD : va_D A [(h1, .inr (1, [.ref b1, .ref b2, .ref b3, .ref b4, .ref b5, .int (nI n), .int (nI K), .int (nI rr), .int (-1), .int 0])), (b1, .inl (cA, 2000, .inl g1)), (b2, .inl (cA, 2000, .inl g2)), (b3, .inl (cZ, 2000, .inl (mS (mL n g3 br L) (mBad g1 g2 (mL n g3 br L) g6 g5 (nI rr)) (k + 1)))), (b4, .inl (cA, 2001, .inl g6)), (b5, .inl (cA, 2000, .inl g5))] := hD
                refine lv_iconst (v := 1) hx hb dX1_lay_143 rfl ?_
                refine lv_istore_n (lv' := [(1, .int 1), (0, .ref h1), (2, .int (nI k))]) hx hb dX1_lay_144 rfl hl (by decide) rfl (fun ls hl => ?_)
                refine lv_iinc (v := nI (k + 1)) (lv' := [(2, .int (nI (k + 1))), (1, .int 1), (0, .ref h1)]) hx hb dX1_lay_145 hl (k := 2) rfl (nI_1 _) (by decide) rfl (fun ls hl => ?_)
                refine lv_goto (tgt := 107) hx hb dX1_lay_148 (by decide) ?_
                have em : (1 : Int32) = mo (mBad g1 g2 (mL n g3 br L) g6 g5 (nI rr)) (k + 1) := (mo_b hbad).symm
                have hl := lv_sub hl (l' := [(0, .ref h1), (1, .int 1), (2, .int (nI (k + 1)))]) [2, 1, 0] rfl
                exact ih2 (n - (k + 1)) (k + 1) _ _ _ (by omega) ⟨⟨by omega, rfl⟩, hP, hD, hS, by rw [mo_b hbad]; exact hl⟩
              · have hbad : ¬ mBad g1 g2 (mL n g3 br L) g6 g5 (nI rr) k = true := fun q => by
                  rcases hw with ⟨h8, h9⟩ | ⟨h8, h9⟩
                  · exact (mBad_k.mp q).2 (er.mp h9)
                  · exact hc8 h8
                refine lv_goto (tgt := 145) hx hb dX1_lay_133 (by decide) ?_
                refine lv_iinc (v := nI (k + 1)) (lv' := [(2, .int (nI (k + 1))), (0, .ref h1), (1, .int (mo (mBad g1 g2 (mL n g3 br L) g6 g5 (nI rr)) k))]) hx hb dX1_lay_145 hl (k := 2) rfl (nI_1 _) (by decide) rfl (fun ls hl => ?_)
                refine lv_goto (tgt := 107) hx hb dX1_lay_148 (by decide) ?_
                have hl := lv_sub hl (l' := [(0, .ref h1), (1, .int (mo (mBad g1 g2 (mL n g3 br L) g6 g5 (nI rr)) k)), (2, .int (nI (k + 1)))]) [1, 2, 0] rfl
                exact ih2 (n - (k + 1)) (k + 1) _ _ _ (by omega) ⟨⟨by omega, rfl⟩, by rw [← mS_n hbad]; exact hP, by rw [← mS_n hbad]; exact hD, hS, by rw [mo_n hbad]; exact hl⟩
      · have hlt := na_nge (by omega) hkn hc
        refine lv_aload_n hx hb dX1_lay_80 rfl (lv_at hl 0 rfl) ?_
        refine va_get (D := (dC, dI)) (ci := 1) (v := .ref b3) (C := RX1) (T := TX1) (N := 10) hx hb hts in_X1_lay hown hK hP 0 rfl rfl 2 (by decide) (hts (.fieldLink RX1 16 "BranchLengthsModel" "longOnes" "[Z") (by decide +kernel)) (fun _ h9 => h9) rfl dX1_lay_81 ?_
        refine lv_iload_n hx hb dX1_lay_84 rfl (lv_at hl 1 rfl) ?_
        refine lv_iconst (v := 0) hx hb dX1_lay_85 (by decide) ?_
        refine na_zast (k := k) hx hb hK hP hD hS 3 1 rfl rfl (by decide) (by omega) (by decide) (mZ g3 (k + 1)) (mZ_s g3 k) dX1_lay_86 (fun H locs hP hD hS => ?_)
        have hP : va_P (dC, dI) vwCl [(h1, .inr (1, [.ref b1, .ref b2, .ref b3, .ref b4, .ref b5, .int (nI n), .int (nI K), .int (nI rr), .int (-1), .int 0])), (b1, .inl (cA, 2000, .inl g1)), (b2, .inl (cA, 2000, .inl g2)), (b3, .inl (cZ, 2000, .inl (mZ g3 (k + 1)))), (b4, .inl (cA, 2001, .inl g4)), (b5, .inl (cA, 2000, .inl g5))] H := hP
        have hD : va_D A [(h1, .inr (1, [.ref b1, .ref b2, .ref b3, .ref b4, .ref b5, .int (nI n), .int (nI K), .int (nI rr), .int (-1), .int 0])), (b1, .inl (cA, 2000, .inl g1)), (b2, .inl (cA, 2000, .inl g2)), (b3, .inl (cZ, 2000, .inl (mZ g3 (k + 1)))), (b4, .inl (cA, 2001, .inl g4)), (b5, .inl (cA, 2000, .inl g5))] := hD
        refine lv_iinc (v := nI (k + 1)) (lv' := [(1, .int (nI (k + 1))), (0, .ref h1)]) hx hb dX1_lay_87 hl (k := 1) rfl (nI_1 _) (by decide) rfl (fun ls hl => ?_)
        refine lv_goto (tgt := 72) hx hb dX1_lay_90 (by decide) ?_
        exact ih (n - (k + 1)) (k + 1) _ _ _ (by omega) ⟨⟨by omega, rfl⟩, hP, hD, hS, lv_sub hl [1, 0] rfl⟩
    · exact absurd (show (-1 : Int32) < 0 by decide) hc2
  · have hlt := na_nge (by omega) hkn hc
    refine lv_aload_n hx hb dX1_lay_20 rfl (lv_at hl 0 rfl) ?_
    refine va_get (D := (dC, dI)) (ci := 1) (v := .int (-1)) (C := RX1) (T := TX1) (N := 10) hx hb hts in_X1_lay hown hK hP 0 rfl rfl 8 (by decide) (hts (.fieldLink RX1 30 "BranchLengthsModel" "least" "I") (by decide +kernel)) (fun _ h9 => h9) rfl dX1_lay_21 ?_
    refine lv_if_ge (tgt := 61) hx hb dX1_lay_24 (by decide) (fun hc2 => ?_) (fun hc2 => ?_)
    · exact absurd hc2 (by decide)
    · refine lv_aload_n hx hb dX1_lay_27 rfl (lv_at hl 0 rfl) ?_
      refine va_get (D := (dC, dI)) (ci := 1) (v := .ref b1) (C := RX1) (T := TX1) (N := 10) hx hb hts in_X1_lay hown hK hP 0 rfl rfl 0 (by decide) (hts (.fieldLink RX1 9 "BranchLengthsModel" "kinds" "[I") (by decide +kernel)) (fun _ h9 => h9) rfl dX1_lay_28 ?_
      refine lv_iload_n hx hb dX1_lay_31 rfl (lv_at hl 1 rfl) ?_
      refine na_iald (k := k) hx hb hK hP 1 0 rfl rfl (by omega) (by decide) dX1_lay_32 ?_
      refine lv_iconst (v := 2) hx hb dX1_lay_33 (by decide) ?_
      refine lv_icmp_ne (tgt := 55) hx hb dX1_lay_34 (by decide) (fun hc3 => ?_) (fun hc3 => ?_)
      · refine lv_iinc (v := nI (k + 1)) (lv' := [(1, .int (nI (k + 1))), (0, .ref h1)]) hx hb dX1_lay_55 hl (k := 1) rfl (nI_1 _) (by decide) rfl (fun ls hl => ?_)
        refine lv_goto (tgt := 12) hx hb dX1_lay_58 (by decide) ?_
        exact ih (n - (k + 1)) (k + 1) _ _ _ (by omega) ⟨⟨by omega, rfl, lt_s hinv (fun q => hc3 q.1)⟩, hP, hD, hS, lv_sub hl [1, 0] rfl⟩
      · refine lv_aload_n hx hb dX1_lay_37 rfl (lv_at hl 0 rfl) ?_
        refine va_get (D := (dC, dI)) (ci := 1) (v := .ref b2) (C := RX1) (T := TX1) (N := 10) hx hb hts in_X1_lay hown hK hP 0 rfl rfl 1 (by decide) (hts (.fieldLink RX1 13 "BranchLengthsModel" "numbers" "[I") (by decide +kernel)) (fun _ h9 => h9) rfl dX1_lay_38 ?_
        refine lv_iload_n hx hb dX1_lay_41 rfl (lv_at hl 1 rfl) ?_
        refine na_iald (k := k) hx hb hK hP 2 0 rfl rfl (by omega) (by decide) dX1_lay_42 ?_
        refine lv_aload_n hx hb dX1_lay_43 rfl (lv_at hl 0 rfl) ?_
        refine va_get (D := (dC, dI)) (ci := 1) (v := .int (nI K)) (C := RX1) (T := TX1) (N := 10) hx hb hts in_X1_lay hown hK hP 0 rfl rfl 6 (by decide) (hts (.fieldLink RX1 44 "BranchLengthsModel" "marks" "I") (by decide +kernel)) (fun _ h9 => h9) rfl dX1_lay_44 ?_
        refine lv_icmp_lt (tgt := 55) hx hb dX1_lay_47 (by decide) (fun hc4 => ?_) (fun hc4 => ?_)
        · refine lv_iinc (v := nI (k + 1)) (lv' := [(1, .int (nI (k + 1))), (0, .ref h1)]) hx hb dX1_lay_55 hl (k := 1) rfl (nI_1 _) (by decide) rfl (fun ls hl => ?_)
          refine lv_goto (tgt := 12) hx hb dX1_lay_58 (by decide) ?_
          exact ih (n - (k + 1)) (k + 1) _ _ _ (by omega) ⟨⟨by omega, rfl, lt_s hinv (fun q => q.2 hc4)⟩, hP, hD, hS, lv_sub hl [1, 0] rfl⟩
        · have hmiss : LMiss n K br tg (nI k) := ⟨k, hlt, rfl, ((mr_miss hM hO hlt).mp ⟨hc3, hc4⟩).1, ((mr_miss hM hO hlt).mp ⟨hc3, hc4⟩).2, fun i hi hb => by
            rcases Nat.lt_or_ge (tg i) K with q | q
            · exact q
            · exact absurd ((mr_miss hM hO (by omega)).mpr ⟨hb, q⟩) (hinv i hi)⟩
          refine lv_aload_n hx hb dX1_lay_50 rfl (lv_at hl 0 rfl) ?_
          refine lv_iload_n hx hb dX1_lay_51 rfl (lv_at hl 1 rfl) ?_
          refine va_put (D := (dC, dI)) (ci := 1) (v := .int (nI k)) (ty := .int) (C := RX1) (T := TX1) (N := 10) hx hb hts in_X1_lay tyX1 tyX1_ok nmX1 hown hK hP hD hS 0 rfl rfl 8 (by decide) (hts (.fieldLink RX1 30 "BranchLengthsModel" "least" "I") (by decide +kernel)) (fun _ h9 => h9) rfl (by decide +kernel) rfl rfl (Nat.le_of_ble_eq_true rfl) dX1_lay_52 (fun H locs hP hD hS => ?_)
          have hP : va_P (dC, dI) vwCl [(h1, .inr (1, [.ref b1, .ref b2, .ref b3, .ref b4, .ref b5, .int (nI n), .int (nI K), .int (nI rr), .int (nI k), .int 0])), (b1, .inl (cA, 2000, .inl g1)), (b2, .inl (cA, 2000, .inl g2)), (b3, .inl (cZ, 2000, .inl g3)), (b4, .inl (cA, 2001, .inl g4)), (b5, .inl (cA, 2000, .inl g5))] H := hP
          have hD : va_D A [(h1, .inr (1, [.ref b1, .ref b2, .ref b3, .ref b4, .ref b5, .int (nI n), .int (nI K), .int (nI rr), .int (nI k), .int 0])), (b1, .inl (cA, 2000, .inl g1)), (b2, .inl (cA, 2000, .inl g2)), (b3, .inl (cZ, 2000, .inl g3)), (b4, .inl (cA, 2001, .inl g4)), (b5, .inl (cA, 2000, .inl g5))] := hD
          refine lv_iinc (v := nI (k + 1)) (lv' := [(1, .int (nI (k + 1))), (0, .ref h1)]) hx hb dX1_lay_55 hl (k := 1) rfl (nI_1 _) (by decide) rfl (fun ls hl => ?_)
          refine lv_goto (tgt := 12) hx hb dX1_lay_58 (by decide) ?_
          refine lv_iload_n hx hb dX1_lay_12 rfl (lv_at hl 0 rfl) ?_
          refine lv_aload_n hx hb dX1_lay_13 rfl (lv_at hl 1 rfl) ?_
          refine va_get (D := (dC, dI)) (ci := 1) (v := .int (nI n)) (C := RX1) (T := TX1) (N := 10) hx hb hts in_X1_lay hown hK hP 0 rfl rfl 5 (by decide) (hts (.fieldLink RX1 33 "BranchLengthsModel" "items" "I") (by decide +kernel)) (fun _ h9 => h9) rfl dX1_lay_14 ?_
          refine lv_icmp_ge (tgt := 61) hx hb dX1_lay_17 (by decide) (fun hc5 => ?_) (fun hc5 => ?_)
          · refine lv_aload_n hx hb dX1_lay_61 rfl (lv_at hl 1 rfl) ?_
            refine va_get (D := (dC, dI)) (ci := 1) (v := .int (nI k)) (C := RX1) (T := TX1) (N := 10) hx hb hts in_X1_lay hown hK hP 0 rfl rfl 8 (by decide) (hts (.fieldLink RX1 30 "BranchLengthsModel" "least" "I") (by decide +kernel)) (fun _ h9 => h9) rfl dX1_lay_62 ?_
            refine lv_if_lt (tgt := 70) hx hb dX1_lay_65 (by decide) (fun hc6 => ?_) (fun hc6 => ?_)
            · exact absurd hc6 (nI_pos (by omega))
            · refine lv_iconst (v := -1) hx hb dX1_lay_68 (by decide) ?_
              exact W.iret (v := (-1)) hx hb hr (fun t ht hW => ⟨⟨(-1), (g3, g4, nI k, 0), rfl, Or.inl ⟨hmiss, rfl, rfl⟩, by rw [ht]; exact hP, va_K.moved hW.alike hK, hD⟩, hS.F ht⟩) hS.2.2 dX1_lay_69
          · refine lv_aload_n hx hb dX1_lay_20 rfl (lv_at hl 1 rfl) ?_
            refine va_get (D := (dC, dI)) (ci := 1) (v := .int (nI k)) (C := RX1) (T := TX1) (N := 10) hx hb hts in_X1_lay hown hK hP 0 rfl rfl 8 (by decide) (hts (.fieldLink RX1 30 "BranchLengthsModel" "least" "I") (by decide +kernel)) (fun _ h9 => h9) rfl dX1_lay_21 ?_
            refine lv_if_ge (tgt := 61) hx hb dX1_lay_24 (by decide) (fun hc7 => ?_) (fun hc7 => ?_)
            · refine lv_aload_n hx hb dX1_lay_61 rfl (lv_at hl 1 rfl) ?_
              refine va_get (D := (dC, dI)) (ci := 1) (v := .int (nI k)) (C := RX1) (T := TX1) (N := 10) hx hb hts in_X1_lay hown hK hP 0 rfl rfl 8 (by decide) (hts (.fieldLink RX1 30 "BranchLengthsModel" "least" "I") (by decide +kernel)) (fun _ h9 => h9) rfl dX1_lay_62 ?_
              refine lv_if_lt (tgt := 70) hx hb dX1_lay_65 (by decide) (fun hc6 => ?_) (fun hc6 => ?_)
              · exact absurd hc6 (nI_pos (by omega))
              · refine lv_iconst (v := -1) hx hb dX1_lay_68 (by decide) ?_
                exact W.iret (v := (-1)) hx hb hr (fun t ht hW => ⟨⟨(-1), (g3, g4, nI k, 0), rfl, Or.inl ⟨hmiss, rfl, rfl⟩, by rw [ht]; exact hP, va_K.moved hW.alike hK, hD⟩, hS.F ht⟩) hS.2.2 dX1_lay_69
            · exact absurd (nI_pos' (by omega)) hc7
end
section
-- WHAT BOTH HOLD: the class's cells and the reference's tell one row, and one layout where it is laid out
def Inv (f1 f2 f3 f4 : Nat → Int32) (n K rr : Nat) (lc lo : Int32) (g1 g2 g3 g4 g5 : Nat → Int32) : Prop :=
  ∃ (br : Nat → Bool) (b tg mi : Nat → Nat), RowOk n K br b tg mi ∧ XRow f1 f2 f4 n K br b tg mi ∧ MRow g1 g2 g5 n K br b tg mi ∧ rr ≤ 100000 ∧
    (lo = 0 ∨ (lo = 1 ∧ ∃ L : Nat → Bool, (∀ j, j < n → f1 j = nI (wd br b L j)) ∧ (∀ j, j < n → f3 j = nI (ps (wd br b L) j)) ∧ lc = nI (cnt (brL br L) n) ∧ (∀ j, j < n → g4 j = nI (ps (wd br b L) j)) ∧ ∀ j, j < n → g3 j = if brL br L j = true then 1 else 0))
theorem inv_0 {f1 f2 f3 f4 : Nat → Int32} {rr : Nat} {lc : Int32} {g1 g2 g3 g4 g5 : Nat → Int32} (hr : rr ≤ 100000) : Inv f1 f2 f3 f4 0 0 rr lc 0 g1 g2 g3 g4 g5 :=
  ⟨fun _ => false, fun _ => 0, fun _ => 0, fun _ => 0, ⟨by omega, by omega, fun j h => absurd h (by omega), fun j h => absurd h (by omega), fun j h => absurd h (by omega)⟩, ⟨fun j h => absurd h (by omega), fun j h => absurd h (by omega), fun j h => absurd h (by omega)⟩, ⟨fun j h => absurd h (by omega), fun j h => absurd h (by omega), fun j h => absurd h (by omega)⟩, hr, Or.inl rfl⟩
def upB {α : Type} (f : Nat → α) (k : Nat) (x : α) : Nat → α := fun j => if j = k then x else f j
theorem upB_s {α : Type} {f : Nat → α} {k : Nat} {x : α} : upB f k x k = x := if_pos rfl
theorem upB_n {α : Type} {f : Nat → α} {k j : Nat} {x : α} (h : j ≠ k) : upB f k x j = f j := if_neg h
section
variable {f1 f2 f3 f4 : Nat → Int32} {n K rr : Nat} {lc lo : Int32} {g1 g2 g3 g4 g5 : Nat → Int32}
/-- one item more, that is no branch, of w words -/
theorem inv_word (h : Inv f1 f2 f3 f4 n K rr lc lo g1 g2 g3 g4 g5) (hn : n + 1 ≤ 1024) {w : Nat} (hw : w ≤ 4000) {x1 y1 y2 : Int32} (h1 : x1 = nI w) (h2 : (y1 = 0 ∧ y2 = nI w) ∨ (y1 = 1 ∧ w = 0)) : Inv (upd f1 n x1) (upd f2 n (-1)) f3 f4 (n + 1) K rr lc 0 (upd g1 n y1) (upd g2 n y2) g3 g4 g5 := by
  obtain ⟨br, b, tg, mi, ⟨o1, o2, o3, o4, o5⟩, ⟨x1', x2', x3'⟩, ⟨m1, m2, m3⟩, hr, -⟩ := h
  refine ⟨upB br n false, upB b n w, tg, mi, ⟨hn, by omega, fun j hj => ?_, fun j hj hb => ?_, fun t ht => ?_⟩, ⟨fun j hj hb => ?_, fun j hj hb => ?_, x3'⟩, ⟨fun j hj hb => ?_, fun j hj hb => ?_, m3⟩, hr, Or.inl rfl⟩
  · by_cases q : j = n
    · subst q; rw [upB_s]; exact hw
    · rw [upB_n q]; exact o3 j (by omega)
  · by_cases q : j = n
    · subst q; rw [upB_s] at hb; exact absurd hb (by decide)
    · rw [upB_n q] at hb; exact o4 j (by omega) hb
  · exact Nat.lt_succ_of_lt (o5 t ht)
  · by_cases q : j = n
    · subst q; rw [upB_s] at hb; exact absurd hb (by decide)
    · rw [upB_n q] at hb; rw [pk_un q, pk_un q]; exact x1' j (by omega) hb
  · by_cases q : j = n
    · subst q; rw [upB_s, pk_us, pk_us]; exact ⟨rfl, h1⟩
    · rw [upB_n q] at hb; rw [upB_n q, pk_un q, pk_un q]; exact x2' j (by omega) hb
  · by_cases q : j = n
    · subst q; rw [upB_s] at hb; exact absurd hb (by decide)
    · rw [upB_n q] at hb; rw [pk_un q, pk_un q]; exact m1 j (by omega) hb
  · by_cases q : j = n
    · subst q; rw [upB_s, pk_us, pk_us]; exact h2
    · rw [upB_n q] at hb; rw [upB_n q, pk_un q, pk_un q]; exact m2 j (by omega) hb
theorem inv_stretch (h : Inv f1 f2 f3 f4 n K rr lc lo g1 g2 g3 g4 g5) (hn : n + 1 ≤ 1024) {p : Int32} (h1 : ¬ p < 0) (h2 : p ≤ 4000) : Inv (upd f1 n p) (upd f2 n (-1)) f3 f4 (n + 1) K rr lc 0 (upd g1 n 0) (upd g2 n p) g3 g4 g5 := by
  obtain ⟨w, hw, e⟩ := nI_of2 (M := 4000) (n := 4000) (by decide) h1 h2
  exact inv_word h hn hw e (Or.inl ⟨rfl, e⟩)
theorem inv_mark (h : Inv f1 f2 f3 f4 n K rr lc lo g1 g2 g3 g4 g5) (hn : n + 1 ≤ 1024) : Inv (upd f1 n 0) (upd f2 n (-1)) f3 (upd f4 K (nI n)) (n + 1) (K + 1) rr lc 0 (upd g1 n 1) (upd g2 n 0) g3 g4 (upd g5 K (nI n)) := by
  obtain ⟨br, b, tg, mi, ⟨o1, o2, o3, o4, o5⟩, ⟨x1, x2, x3⟩, ⟨m1, m2, m3⟩, hr, -⟩ := inv_word h hn (w := 0) (x1 := 0) (y1 := 1) (y2 := 0) (by omega) rfl (Or.inr ⟨rfl, rfl⟩)
  obtain ⟨-, -, -, -, ⟨-, hK, -⟩, -⟩ := h
  refine ⟨br, b, tg, upB mi K n, ⟨o1, by omega, o3, o4, fun t ht => ?_⟩, ⟨x1, x2, fun t ht => ?_⟩, ⟨m1, m2, fun t ht => ?_⟩, hr, Or.inl rfl⟩
  · by_cases q : t = K
    · subst q; rw [upB_s]; omega
    · rw [upB_n q]; exact o5 t (by omega)
  · by_cases q : t = K
    · subst q; rw [upB_s, pk_us]
    · rw [upB_n q, pk_un q]; exact x3 t (by omega)
  · by_cases q : t = K
    · subst q; rw [upB_s, pk_us]
    · rw [upB_n q, pk_un q]; exact m3 t (by omega)
theorem inv_branch (h : Inv f1 f2 f3 f4 n K rr lc lo g1 g2 g3 g4 g5) (hn : n + 1 ≤ 1024) {p : Int32} (h1 : ¬ p < 0) : Inv (upd f1 n 1) (upd f2 n p) f3 f4 (n + 1) K rr lc 0 (upd g1 n 2) (upd g2 n p) g3 g4 g5 := by
  obtain ⟨w, hw, e⟩ := nI_of h1
  obtain ⟨br, b, tg, mi, ⟨o1, o2, o3, o4, o5⟩, ⟨x1', x2', x3'⟩, ⟨m1, m2, m3⟩, hr, -⟩ := h
  refine ⟨upB br n true, upB b n 0, upB tg n w, mi, ⟨hn, by omega, fun j hj => ?_, fun j hj hb => ?_, fun t ht => ?_⟩, ⟨fun j hj hb => ?_, fun j hj hb => ?_, x3'⟩, ⟨fun j hj hb => ?_, fun j hj hb => ?_, m3⟩, hr, Or.inl rfl⟩
  · by_cases q : j = n
    · subst q; rw [upB_s]; omega
    · rw [upB_n q]; exact o3 j (by omega)
  · by_cases q : j = n
    · subst q; rw [upB_s]; exact hw
    · rw [upB_n q] at hb ⊢; exact o4 j (by omega) hb
  · exact Nat.lt_succ_of_lt (o5 t ht)
  · by_cases q : j = n
    · subst q; rw [upB_s, pk_us, pk_us]; exact ⟨e, Or.inl rfl⟩
    · rw [upB_n q] at hb; rw [upB_n q, pk_un q, pk_un q]; exact x1' j (by omega) hb
  · by_cases q : j = n
    · subst q; rw [upB_s] at hb; exact absurd rfl hb
    · rw [upB_n q] at hb; rw [upB_n q, pk_un q, pk_un q]; exact x2' j (by omega) hb
  · by_cases q : j = n
    · subst q; rw [upB_s, pk_us, pk_us]; exact ⟨rfl, e⟩
    · rw [upB_n q] at hb; rw [upB_n q, pk_un q, pk_un q]; exact m1 j (by omega) hb
  · by_cases q : j = n
    · subst q; rw [upB_s] at hb; exact absurd rfl hb
    · rw [upB_n q] at hb; rw [upB_n q, pk_un q, pk_un q]; exact m2 j (by omega) hb
theorem inv_reach (h : Inv f1 f2 f3 f4 n K rr lc lo g1 g2 g3 g4 g5) {r2 : Nat} (hr2 : r2 ≤ 100000) : Inv f1 f2 f3 f4 n K r2 lc 0 g1 g2 g3 g4 g5 := by
  obtain ⟨br, b, tg, mi, o, x, m, hr, -⟩ := h
  exact ⟨br, b, tg, mi, o, x, m, hr2, Or.inl rfl⟩
theorem wd_congr {br : Nat → Bool} {b : Nat → Nat} {L L' : Nat → Bool} {n : Nat} (h : ∀ j, j < n → br j = true → L j = L' j) : ∀ j, j < n → wd br b L j = wd br b L' j := by
  intro j hj
  unfold wd
  by_cases hb : br j = true
  · rw [if_pos hb, if_pos hb, h j hj hb]
  · rw [if_neg hb, if_neg hb]
/-- lay() of both, from one row -/
theorem inv_lay {br : Nat → Bool} {b tg mi : Nat → Nat} (hO : RowOk n K br b tg mi) (hX : XRow f1 f2 f4 n K br b tg mi) (hM : MRow g1 g2 g5 n K br b tg mi) (hr : rr ≤ 100000) {r r' : Int32} {f1' f3' g3' g4' : Nat → Int32} {lc' ml' lo' le' la' : Int32} (h : XLay n K rr br b tg mi f1 f3 lc r (f1', f3', lc', ml', lo')) (h' : MLay n K rr br b tg mi g3 g4 r' (g3', g4', le', la')) : r = r' ∧ le' = ml' ∧ la' = lo' ∧ Inv f1' f2 f3' f4 n K rr lc' lo' g1 g2 g3' g4' g5 := by
  rcases h with ⟨a1, a2, a3, a4, a5, a6⟩ | ⟨a1, a2, a3, L, a4, a5, a6, a7, a8, a9⟩
  · rcases h' with ⟨c1, c2, c3⟩ | ⟨c1, -⟩
    · refine ⟨a2.trans c2.symm, lmiss_uniq c1 a1, c3.trans a6.symm, br, b, tg, mi, hO, ?_, hM, hr, Or.inl a6⟩
      rw [show f1' = f1 from a3]
      exact hX
    · exact absurd c1 (fun q => lmiss_all a1 q)
  · rcases h' with ⟨c1, -⟩ | ⟨c1, c2, c3, L', c4, c5, c6, c7, c8⟩
    · exact absurd a1 (fun q => lmiss_all c1 q)
    · have hu := lfp_uniq a4 a5 c4 c5
      have hw := wd_congr (b := b) hu
      have hp := ps_congr hw
      have a7 : f1' = xF n f1 br b L := a7
      have a8 : f3' = xG n f3 br b L := a8
      refine ⟨by rw [a6, c6, hp n (Nat.le_refl n)], c2.trans a2.symm, c3.trans a3.symm, br, b, tg, mi, hO, ⟨fun j hj hb => ?_, fun j hj hb => ?_, hX.2.2⟩, hM, hr, Or.inr ⟨a3, L, fun j hj => ?_, fun j hj => ?_, a9, fun j hj => ?_, fun j hj => ?_⟩⟩
      · refine ⟨(hX.1 j hj hb).1, ?_⟩
        rw [a7]
        unfold xF wd
        rw [if_pos hj, if_pos hb]
        by_cases hl : L j = true
        · rw [if_pos hl]; exact Or.inr rfl
        · rw [if_neg hl]; exact Or.inl rfl
      · refine ⟨(hX.2.1 j hj hb).1, ?_⟩
        rw [a7]
        unfold xF wd
        rw [if_pos hj, if_neg hb]
      · rw [a7]; exact if_pos hj
      · rw [a8]; exact if_pos hj
      · rw [hp j (by omega)]; exact c7 j (by omega)
      · rw [show g3' j = _ from c8 j hj]
        by_cases hb : br j = true
        · have e : brL br L' j = brL br L j := by unfold brL; rw [hu j hj hb]
          rw [e]
        · have e1 : brL br L' j = false := by unfold brL; cases q : br j <;> simp_all
          have e2 : brL br L j = false := by unfold brL; cases q : br j <;> simp_all
          rw [e1, e2]
theorem inv_place (h : Inv f1 f2 f3 f4 n K rr lc lo g1 g2 g3 g4 g5) (hl : ¬ lo = 0) {k : Nat} (hk : k < n) : f3 k = g4 k := by
  obtain ⟨br, b, tg, mi, o, x, m, hr, q | ⟨-, L, h1, h2, h3, h4, h5⟩⟩ := h
  · exact absurd q hl
  · rw [h2 k hk, h4 k hk]
theorem inv_isLong (h : Inv f1 f2 f3 f4 n K rr lc lo g1 g2 g3 g4 g5) (hl : ¬ lo = 0) {k : Nat} (hk : k < n) : (¬ f2 k = -1 ∧ f1 k = 2) ↔ (g1 k = 2 ∧ ¬ g3 k = 0) := by
  obtain ⟨br, b, tg, mi, o, x, m, hr, q | ⟨-, L, h1, h2, h3, h4, h5⟩⟩ := h
  · exact absurd q hl
  · rw [xr_br x o hk, mr_br m hk, h1 k hk, h5 k hk]
    by_cases hb : br k = true
    · unfold wd brL
      rw [if_pos hb, hb, Bool.true_and]
      by_cases hL : L k = true
      · rw [if_pos hL, if_pos hL]
        exact ⟨fun q => ⟨q.1, by decide⟩, fun q => ⟨q.1, rfl⟩⟩
      · rw [if_neg hL, if_neg hL]
        exact ⟨fun q => absurd q.2 (by decide), fun q => absurd rfl q.2⟩
    · exact ⟨fun q => absurd q.1 hb, fun q => absurd q.1 hb⟩
theorem inv_longs (h : Inv f1 f2 f3 f4 n K rr lc lo g1 g2 g3 g4 g5) (hl : ¬ lo = 0) : lc = nI (cnt (fun j => decide (g1 j = 2) && decide (¬ g3 j = 0)) n) := by
  obtain ⟨br, b, tg, mi, o, x, m, hr, q | ⟨-, L, h1, h2, h3, h4, h5⟩⟩ := h
  · exact absurd q hl
  · rw [h3]
    refine congrArg nI (cnt_congr (n := n) (fun j hj => ?_) n (Nat.le_refl n))
    have e := mr_br m hj
    rw [h5 j hj]
    by_cases hb : br j = true
    · rw [decide_eq_true (e.mpr hb), Bool.true_and]
      unfold brL
      rw [hb, Bool.true_and]
      cases hL : L j with
      | true => rfl
      | false => rfl
    · have e3 : decide (g1 j = 2) = false := decide_eq_false (fun q => hb (e.mp q))
      rw [e3, Bool.false_and]
      unfold brL
      cases q : br j with
      | true => exact absurd q hb
      | false => rfl
theorem inv_ok (h : Inv f1 f2 f3 f4 n K rr lc lo g1 g2 g3 g4 g5) : K ≤ n := by
  obtain ⟨-, -, -, -, ⟨-, hK, -⟩, -⟩ := h
  exact hK
end
/-- the law's own test: there are two ints more -/
theorem law_in {i L : Nat} (hL : L ≤ 1024) (hi : i ≤ L) (h : ¬ Int32.ofNat L - 2 < nI i) : i + 2 ≤ L := by
  have h : ¬ nI L - nI 2 < nI i := h
  rw [Int32.lt_iff_toInt_lt, pk_sub_toInt (by omega) (by omega), nI_toInt (by omega)] at h
  omega
section
variable {p : Program} {l : Launch} {e : Env} {R : Room} {s : State} {m : MethodId} {args : Array Value} {below : List Frame} {meth : Method} {c : Code} {H : Heap} {locs : List Loc} {cells slots : Nat} {Q : State → Prop}
variable {cc : ByteArray} {pc : Nat} {ls : Array Slot} {rest : List Value} {A : Nat → Prop} {H0 : Heap}
/-- the script's int at place k -/
theorem na_sld (hexec : p.tables.exec = Jvm.exec) (hb : c.code = cc) {b L : Nat} {xs : Nat → Int32} (hX : va_X b L xs s H0) (hbl : b < H0.size) (hbA : ¬ A b) (hS : va_S A H0 H locs) {k : Nat} (hk : k < L) (hL : L < 2 ^ 31) (hdg : decode cc pc = .ok (.iaload, 1))
    (kk : W p l e R s m args below meth c H locs cells slots Q (F0 m (pc + 1) ls (.int (xs k) :: rest))) : W p l e R s m args below meth c H locs cells slots Q (F0 m pc ls (.int (nI k) :: .ref b :: rest)) :=
  va_sld hexec hb hX hbl hbA hS (vp_in_nI hk hL) hdg (by rw [nI_clamp (by omega)]; exact kk)
end
end
section
/-! THE CLAIM OUT OF ONE WALK OF THE LAW'S BODY. Your part is whole_start (and what it stands on); all else here is the same for every law, but numbers. -/
def R_law : String := "BranchLengthsLaw"
def lw_P (b : Addr) (xs : List Int32) (args : Array Value) (s : State) : Prop := args = #[.ref b] ∧ s.IntsAt b xs ∧ xs.length ≤ 1024 ∧ (Jvm.Cond.and given_1 narrow_1).before args s = true
def lw_Q (_ : Array Value) (s : State) (o : Outcome) (t : State) : Prop := o = .returned (some (.int 1)) ∧ Framed s o t [] 11 18021
def lw_Z (below : List Frame) (a : Array Value) (s : State) : State → Prop := fun t => ∃ o, t.status = .running ∧ Ended t below o ∧ lw_Q a s o t
/-- the law's own end, with 1 on the stack, nothing written that was there before, its room as the claim has it -/
theorem lw_ret {p : Program} {l : Launch} {e : Env} {s : State} {m : MethodId} {below : List Frame} {meth : Method} {c : Code} {b : Nat} (hx : p.tables.exec = Jvm.exec) (hb : c.code = code) (hr : meth.sig.returnType = ret) (hlocks : meth.locks = false) {pc : Nat} {H : Heap} {ls : Array Slot} (hdg : decode code pc = .ok (.ireturn, 1)) : W p l e room_1 s m #[Value.ref b] below meth c H [] 11 18021 (lw_Z below #[Value.ref b] s) (F0 m pc ls [.int 1]) := by
  intro T hT X
  obtain ⟨fs, hret, hrun, hended, hW, hframe⟩ := X.leave (v := some (.int 1)) (hlocks := hlocks) (fun h => by rw [hr] at h; cases h)
  have hmeth' : T.vm.method? m = some meth := X.method'
  refine ⟨T.setFrames fs, ?_, .returned (some (.int 1)), hrun, hended, rfl, ⟨_, rfl⟩, hW, hframe⟩
  jvm_step X.here [X.here.top, hx, hb, hdg, hmeth', hr, ret, narrow_b1]
  (try refine ⟨rfl, ?_⟩); (try refine ⟨rfl, ?_⟩)
  first | (intro acts; rw [hret _ acts rfl rfl rfl]) | rw [hret _ _ rfl rfl rfl]
  exact Steps.refl _
/-- what holds at the law's entry: the machine, the code, the tables' words (any of lw_tbl by 'hts w (by decide +kernel)'), the script of L ints xs at the cell b, what the Statement gives of the start (any of its parts by flat_of_before) -/
def lw_At (p : Program) (s : State) (m : MethodId) (meth : Method) (c : Code) (b L : Nat) (xs : Nat → Int32) : Prop :=
  p.tables.exec = Jvm.exec ∧ c.code = code ∧ meth.sig.returnType = ret ∧ c.maxLocals = 4 ∧ s.vm.findClass R_law = some m.cls ∧ (∀ w ∈ lw_tbl, w.before #[Value.ref b] s = true) ∧ va_X b L xs s s.heap ∧ b < s.heap.size ∧ meth.locks = false ∧ (Jvm.Cond.and given_1 narrow_1).before #[Value.ref b] s = true
theorem na_ifc {P Q : Prop} [Decidable P] [Decidable Q] (h : P ↔ Q) : (if P then (1 : Int32) else 0) = if Q then 1 else 0 := by
  by_cases q : P
  · rw [if_pos q, if_pos (h.mp q)]
  · rw [if_neg q, if_neg (fun z => q (h.mpr z))]
theorem na_lt01 {x : Int32} (h : ¬ x < 1) : ¬ x < 0 := fun q => h (by
  rw [Int32.lt_iff_toInt_lt] at q ⊢
  have h1 : (1 : Int32).toInt = 1 := by decide
  have h0 : (0 : Int32).toInt = 0 := by decide
  omega)
set_option maxHeartbeats 8000000 in
set_option maxRecDepth 100000 in
/-- THE LAW'S LOOP: at its head, with i ints read, the class's cells and the reference's tell one row -/
theorem law_loop {p : Program} {l : Launch} {e : Env} {s : State} {m : MethodId} {below : List Frame} {meth : Method} {c : Code} {dC : Nat → ClassId} {dI : Nat → Nat → Nat} {cA cZ : ClassId} {ba L : Nat} {xs : Nat → Int32} (hL : L ≤ 1024) (C0 : lw_At p s m meth c ba L xs) {A : Nat → Prop} (hA : ∀ q, s.heap.size ≤ q → A q) (hAB : ∀ q, A q → s.heap.size ≤ q) (hK : va_K (dC, dI) vwCl [(cA, .int), (cZ, .boolean)] s) {h0 a1 a2 a3 a4 h1 b1 b2 b3 b4 b5 : Nat} {f1 f2 f3 f4 g1 g2 g3 g4 g5 : Nat → Int32} {rr : Nat} {lc ml lo : Int32} (hI0 : Inv f1 f2 f3 f4 0 0 rr lc lo g1 g2 g3 g4 g5) {H : Heap} {locs : List Loc} {ls : Array Slot} (hP : va_P (dC, dI) vwCl [(h0, .inr (0, [.ref a1, .ref a2, .ref a3, .ref a4, .int (nI 0), .int (nI 0), .int lc, .int (nI rr), .int ml, .int lo])), (a1, .inl (cA, 2000, .inl f1)), (a2, .inl (cA, 2000, .inl f2)), (a3, .inl (cA, 2000, .inl f3)), (a4, .inl (cA, 2000, .inl f4)), (h1, .inr (1, [.ref b1, .ref b2, .ref b3, .ref b4, .ref b5, .int (nI 0), .int (nI 0), .int (nI rr), .int ml, .int lo])), (b1, .inl (cA, 2000, .inl g1)), (b2, .inl (cA, 2000, .inl g2)), (b3, .inl (cZ, 2000, .inl g3)), (b4, .inl (cA, 2001, .inl g4)), (b5, .inl (cA, 2000, .inl g5))] H) (hD : va_D A [(h0, .inr (0, [.ref a1, .ref a2, .ref a3, .ref a4, .int (nI 0), .int (nI 0), .int lc, .int (nI rr), .int ml, .int lo])), (a1, .inl (cA, 2000, .inl f1)), (a2, .inl (cA, 2000, .inl f2)), (a3, .inl (cA, 2000, .inl f3)), (a4, .inl (cA, 2000, .inl f4)), (h1, .inr (1, [.ref b1, .ref b2, .ref b3, .ref b4, .ref b5, .int (nI 0), .int (nI 0), .int (nI rr), .int ml, .int lo])), (b1, .inl (cA, 2000, .inl g1)), (b2, .inl (cA, 2000, .inl g2)), (b3, .inl (cZ, 2000, .inl g3)), (b4, .inl (cA, 2001, .inl g4)), (b5, .inl (cA, 2000, .inl g5))]) (hS : va_S A s.heap H locs) (hl : lv_has ls 4 [(0, .ref ba), (1, .ref h0), (2, .ref h1), (3, .int (nI 0))]) : W p l e room_1 s m #[Value.ref ba] below meth c H locs 11 18021 (lw_Z below #[Value.ref ba] s) (F0 m 18 ls []) := by
  obtain ⟨hx, hb, hr, hml, hown, hts, hX, hbl, hlocks, hgv⟩ := C0
  have hbA : ¬ A ba := fun q => Nat.not_le.mpr hbl (hAB ba q)
  have hown : s.vm.findClass RL = some m.cls := hown
  have hts : ∀ w ∈ wsL_law, w.before #[Value.ref ba] s = true := fun w h => hts w (wsL_law_in w h)
  have hroom : 11 ≤ room_1.cells ∧ 18021 ≤ room_1.slots := by decide
  have hKX : va_K (dC, dI) vwCl [(cA, .int)] s := hK.sub [0] rfl
  refine na_loop (pc := 18) (fun (d : Nat) (i : Nat) (H : Heap) (locs : List Loc) (ls : Array Slot) => ∃ (f1 f2 f3 f4 g1 g2 g3 g4 g5 : Nat → Int32) (n K rr : Nat) (lc ml lo : Int32), (i ≤ L ∧ n ≤ i ∧ d = L - i ∧ Inv f1 f2 f3 f4 n K rr lc lo g1 g2 g3 g4 g5) ∧ va_P (dC, dI) vwCl [(h0, .inr (0, [.ref a1, .ref a2, .ref a3, .ref a4, .int (nI n), .int (nI K), .int lc, .int (nI rr), .int ml, .int lo])), (a1, .inl (cA, 2000, .inl f1)), (a2, .inl (cA, 2000, .inl f2)), (a3, .inl (cA, 2000, .inl f3)), (a4, .inl (cA, 2000, .inl f4)), (h1, .inr (1, [.ref b1, .ref b2, .ref b3, .ref b4, .ref b5, .int (nI n), .int (nI K), .int (nI rr), .int ml, .int lo])), (b1, .inl (cA, 2000, .inl g1)), (b2, .inl (cA, 2000, .inl g2)), (b3, .inl (cZ, 2000, .inl g3)), (b4, .inl (cA, 2001, .inl g4)), (b5, .inl (cA, 2000, .inl g5))] H ∧ va_D A [(h0, .inr (0, [.ref a1, .ref a2, .ref a3, .ref a4, .int (nI n), .int (nI K), .int lc, .int (nI rr), .int ml, .int lo])), (a1, .inl (cA, 2000, .inl f1)), (a2, .inl (cA, 2000, .inl f2)), (a3, .inl (cA, 2000, .inl f3)), (a4, .inl (cA, 2000, .inl f4)), (h1, .inr (1, [.ref b1, .ref b2, .ref b3, .ref b4, .ref b5, .int (nI n), .int (nI K), .int (nI rr), .int ml, .int lo])), (b1, .inl (cA, 2000, .inl g1)), (b2, .inl (cA, 2000, .inl g2)), (b3, .inl (cZ, 2000, .inl g3)), (b4, .inl (cA, 2001, .inl g4)), (b5, .inl (cA, 2000, .inl g5))] ∧ va_S A s.heap H locs ∧ lv_has ls 4 [(0, .ref ba), (1, .ref h0), (2, .ref h1), (3, .int (nI i))]) ?_ (L - 0) 0 ⟨f1, f2, f3, f4, g1, g2, g3, g4, g5, 0, 0, rr, lc, ml, lo, ⟨Nat.zero_le _, Nat.le_refl _, rfl, hI0⟩, hP, hD, hS, hl⟩
  clear hI0 hP hD hS hl f1 f2 f3 f4 g1 g2 g3 g4 g5 rr lc ml lo
  intro d i H locs ls hI ih
  obtain ⟨f1, f2, f3, f4, g1, g2, g3, g4, g5, n, K, rr, lc, ml, lo, ⟨hi, hni, hd, hI9⟩, hP, hD, hS, hl⟩ := hI
  have hKn := inv_ok hI9
  refine lv_iload_n hx hb dL_law_18 rfl (lv_at hl 3 rfl) ?_
  refine lv_aload_n hx hb dL_law_19 rfl (lv_at hl 0 rfl) ?_
  refine va_slen hx hb hX hbl hbA hS dL_law_20 ?_
  refine lv_iconst (v := 2) hx hb dL_law_21 (by decide) ?_
  refine lv_isub hx hb dL_law_22 ?_
  refine lv_icmp_gt (tgt := 306) hx hb dL_law_23 (by decide) (fun hc => ?_) (fun hc => ?_)
  · refine lv_iconst (v := 1) hx hb dL_law_306 (by decide) ?_
    refine va_forget (fun q hq => hAB _ (hS.2.2 q hq)) ?_
    exact lw_ret hx hb hr hlocks dL_law_307
  · have hin := law_in hL hi hc
    refine lv_aload_n hx hb dL_law_26 rfl (lv_at hl 0 rfl) ?_
    refine lv_iload_n hx hb dL_law_27 rfl (lv_at hl 3 rfl) ?_
    refine na_sld (k := i) hx hb hX hbl hbA hS (by omega) (by omega) dL_law_28 ?_
    refine lv_bipush (v := 15) hx hb dL_law_29 (by decide) ?_
    refine lv_iand hx hb dL_law_31 ?_
    obtain ⟨j, hj, ej⟩ := pk_andE (xs i) (m := 15) 4 (by decide)
    refine na_eqi (y := nI j) ej ?_
    clear ej
    rcases (show j = 0 ∨ j = 1 ∨ j = 2 ∨ j = 3 ∨ j = 4 ∨ j = 5 ∨ j = 6 ∨ j = 7 ∨ j = 8 ∨ j = 9 ∨ j = 10 ∨ j = 11 ∨ j = 12 ∨ j = 13 ∨ j = 14 ∨ j = 15 by omega) with rfl | rfl | rfl | rfl | rfl | rfl | rfl | rfl | rfl | rfl | rfl | rfl | rfl | rfl | rfl | rfl
    · refine lv_tableIn (off := 64) (tgt := 96) hx hb dL_law_32 (by decide) (by decide) (by decide) (by decide) ?_
      by_cases hp : (xs (i + 1)) < 0 ∨ ¬ (xs (i + 1)) ≤ 4000
      · refine lv_aload_n hx hb dL_law_96 rfl (lv_at hl 1 rfl) ?_
        refine lv_aload_n hx hb dL_law_97 rfl (lv_at hl 0 rfl) ?_
        refine lv_iload_n hx hb dL_law_98 rfl (lv_at hl 3 rfl) ?_
        refine lv_iconst (v := 1) hx hb dL_law_99 (by decide) ?_
        refine lv_iadd hx hb dL_law_100 ?_
        refine na_eqi (y := nI (i + 1)) (nI_1 i) ?_
        refine na_sld (k := (i + 1)) hx hb hX hbl hbA hS (by omega) (by omega) dL_law_101 ?_
        refine na_calli (As := [.int (xs (i + 1))]) (rest := []) (wc := [(h0, .inr (0, [.ref a1, .ref a2, .ref a3, .ref a4, .int (nI n), .int (nI K), .int lc, .int (nI rr), .int ml, .int lo])), (a1, .inl (cA, 2000, .inl f1)), (a2, .inl (cA, 2000, .inl f2)), (a3, .inl (cA, 2000, .inl f3)), (a4, .inl (cA, 2000, .inl f4))]) (wr := [(h1, .inr (1, [.ref b1, .ref b2, .ref b3, .ref b4, .ref b5, .int (nI n), .int (nI K), .int (nI rr), .int ml, .int lo])), (b1, .inl (cA, 2000, .inl g1)), (b2, .inl (cA, 2000, .inl g2)), (b3, .inl (cZ, 2000, .inl g3)), (b4, .inl (cA, 2001, .inl g4)), (b5, .inl (cA, 2000, .inl g5))]) (ci := 0) ⟨hx, hb, hml, hown, hts⟩ (c_stretch_no l dC dI cA h0 a1 a2 a3 a4 H.size f1 f2 f3 f4 n (nI K) lc (nI rr) ml lo (xs (i + 1)) hp) (cwV 1 hts gL_law_X0_stretch rfl rfl rfl (by decide +kernel) ⟨Nat.le_of_ble_eq_true rfl, Nat.le_of_ble_eq_true rfl⟩) hKX hP hD hS hA [0, 1, 2, 3, 4] [5, 6, 7, 8, 9, 10] rfl rfl rfl rfl (by decide) rfl rfl 0 rfl rfl hl.1 (Nat.le_of_ble_eq_true rfl) dL_law_102 hroom rfl (fun r1 u1 H locs hw1 hP hD hS => ?_)
        have hP : va_P (dC, dI) vwCl [(h1, .inr (1, [.ref b1, .ref b2, .ref b3, .ref b4, .ref b5, .int (nI n), .int (nI K), .int (nI rr), .int ml, .int lo])), (b1, .inl (cA, 2000, .inl g1)), (b2, .inl (cA, 2000, .inl g2)), (b3, .inl (cZ, 2000, .inl g3)), (b4, .inl (cA, 2001, .inl g4)), (b5, .inl (cA, 2000, .inl g5)), (h0, .inr (0, [.ref a1, .ref a2, .ref a3, .ref a4, .int (nI n), .int (nI K), .int lc, .int (nI rr), .int ml, .int lo])), (a1, .inl (cA, 2000, .inl f1)), (a2, .inl (cA, 2000, .inl f2)), (a3, .inl (cA, 2000, .inl f3)), (a4, .inl (cA, 2000, .inl f4))] H := hP
        have hD : va_D A [(h1, .inr (1, [.ref b1, .ref b2, .ref b3, .ref b4, .ref b5, .int (nI n), .int (nI K), .int (nI rr), .int ml, .int lo])), (b1, .inl (cA, 2000, .inl g1)), (b2, .inl (cA, 2000, .inl g2)), (b3, .inl (cZ, 2000, .inl g3)), (b4, .inl (cA, 2001, .inl g4)), (b5, .inl (cA, 2000, .inl g5)), (h0, .inr (0, [.ref a1, .ref a2, .ref a3, .ref a4, .int (nI n), .int (nI K), .int lc, .int (nI rr), .int ml, .int lo])), (a1, .inl (cA, 2000, .inl f1)), (a2, .inl (cA, 2000, .inl f2)), (a3, .inl (cA, 2000, .inl f3)), (a4, .inl (cA, 2000, .inl f4))] := hD
        subst hw1
        refine lv_aload_n hx hb dL_law_105 rfl (lv_at hl 2 rfl) ?_
        refine lv_aload_n hx hb dL_law_106 rfl (lv_at hl 0 rfl) ?_
        refine lv_iload_n hx hb dL_law_107 rfl (lv_at hl 3 rfl) ?_
        refine lv_iconst (v := 1) hx hb dL_law_108 (by decide) ?_
        refine lv_iadd hx hb dL_law_109 ?_
        refine na_eqi (y := nI (i + 1)) (nI_1 i) ?_
        refine na_sld (k := (i + 1)) hx hb hX hbl hbA hS (by omega) (by omega) dL_law_110 ?_
        refine na_calli (As := [.int (xs (i + 1))]) (rest := [.int (-1)]) (wc := [(h1, .inr (1, [.ref b1, .ref b2, .ref b3, .ref b4, .ref b5, .int (nI n), .int (nI K), .int (nI rr), .int ml, .int lo])), (b1, .inl (cA, 2000, .inl g1)), (b2, .inl (cA, 2000, .inl g2)), (b3, .inl (cZ, 2000, .inl g3)), (b4, .inl (cA, 2001, .inl g4)), (b5, .inl (cA, 2000, .inl g5))]) (wr := [(h0, .inr (0, [.ref a1, .ref a2, .ref a3, .ref a4, .int (nI n), .int (nI K), .int lc, .int (nI rr), .int ml, .int lo])), (a1, .inl (cA, 2000, .inl f1)), (a2, .inl (cA, 2000, .inl f2)), (a3, .inl (cA, 2000, .inl f3)), (a4, .inl (cA, 2000, .inl f4))]) (ci := 1) ⟨hx, hb, hml, hown, hts⟩ (m_stretch_no l dC dI cA cZ h1 b1 b2 b3 b4 b5 H.size g1 g2 g3 g4 g5 n (nI K) (nI rr) ml lo (xs (i + 1)) hp) (cwV 1 hts gL_law_X1_stretch rfl rfl rfl (by decide +kernel) ⟨Nat.le_of_ble_eq_true rfl, Nat.le_of_ble_eq_true rfl⟩) hK hP hD hS hA [0, 1, 2, 3, 4, 5] [6, 7, 8, 9, 10] rfl rfl rfl rfl (by decide) rfl rfl 0 rfl rfl hl.1 (Nat.le_of_ble_eq_true rfl) dL_law_111 hroom rfl (fun r2 u2 H locs hw2 hP hD hS => ?_)
        have hP : va_P (dC, dI) vwCl [(h0, .inr (0, [.ref a1, .ref a2, .ref a3, .ref a4, .int (nI n), .int (nI K), .int lc, .int (nI rr), .int ml, .int lo])), (a1, .inl (cA, 2000, .inl f1)), (a2, .inl (cA, 2000, .inl f2)), (a3, .inl (cA, 2000, .inl f3)), (a4, .inl (cA, 2000, .inl f4)), (h1, .inr (1, [.ref b1, .ref b2, .ref b3, .ref b4, .ref b5, .int (nI n), .int (nI K), .int (nI rr), .int ml, .int lo])), (b1, .inl (cA, 2000, .inl g1)), (b2, .inl (cA, 2000, .inl g2)), (b3, .inl (cZ, 2000, .inl g3)), (b4, .inl (cA, 2001, .inl g4)), (b5, .inl (cA, 2000, .inl g5))] H := hP
        have hD : va_D A [(h0, .inr (0, [.ref a1, .ref a2, .ref a3, .ref a4, .int (nI n), .int (nI K), .int lc, .int (nI rr), .int ml, .int lo])), (a1, .inl (cA, 2000, .inl f1)), (a2, .inl (cA, 2000, .inl f2)), (a3, .inl (cA, 2000, .inl f3)), (a4, .inl (cA, 2000, .inl f4)), (h1, .inr (1, [.ref b1, .ref b2, .ref b3, .ref b4, .ref b5, .int (nI n), .int (nI K), .int (nI rr), .int ml, .int lo])), (b1, .inl (cA, 2000, .inl g1)), (b2, .inl (cA, 2000, .inl g2)), (b3, .inl (cZ, 2000, .inl g3)), (b4, .inl (cA, 2001, .inl g4)), (b5, .inl (cA, 2000, .inl g5))] := hD
        subst hw2
        refine lv_icmp_eq (tgt := 300) hx hb dL_law_114 (by decide) (fun hcE => ?_) (fun hcE => ?_)
        · refine lv_iinc (v := nI (i + 2)) (lv' := [(3, .int (nI (i + 2))), (0, .ref ba), (1, .ref h0), (2, .ref h1)]) hx hb dL_law_300 hl (k := 3) rfl (show nI i + nI 2 = nI (i + 2) from nI_add i 2) (by decide) rfl (fun ls hl => ?_)
          refine lv_goto (tgt := 18) hx hb dL_law_303 (by decide) ?_
          exact ih (L - (i + 2)) (i + 2) _ _ _ (by omega) ⟨f1, f2, f3, f4, g1, g2, g3, g4, g5, n, K, rr, lc, ml, lo, ⟨by omega, by omega, rfl, hI9⟩, hP, hD, hS, lv_sub hl [1, 2, 3, 0] rfl⟩
        · exact absurd (rfl) hcE
      · have hp1 : ¬ (xs (i + 1)) < 0 := fun q => hp (Or.inl q)
        have hp2 : (xs (i + 1)) ≤ 4000 := Classical.byContradiction (fun q => hp (Or.inr q))
        refine lv_aload_n hx hb dL_law_96 rfl (lv_at hl 1 rfl) ?_
        refine lv_aload_n hx hb dL_law_97 rfl (lv_at hl 0 rfl) ?_
        refine lv_iload_n hx hb dL_law_98 rfl (lv_at hl 3 rfl) ?_
        refine lv_iconst (v := 1) hx hb dL_law_99 (by decide) ?_
        refine lv_iadd hx hb dL_law_100 ?_
        refine na_eqi (y := nI (i + 1)) (nI_1 i) ?_
        refine na_sld (k := (i + 1)) hx hb hX hbl hbA hS (by omega) (by omega) dL_law_101 ?_
        refine na_calli (As := [.int (xs (i + 1))]) (rest := []) (wc := [(h0, .inr (0, [.ref a1, .ref a2, .ref a3, .ref a4, .int (nI n), .int (nI K), .int lc, .int (nI rr), .int ml, .int lo])), (a1, .inl (cA, 2000, .inl f1)), (a2, .inl (cA, 2000, .inl f2)), (a3, .inl (cA, 2000, .inl f3)), (a4, .inl (cA, 2000, .inl f4))]) (wr := [(h1, .inr (1, [.ref b1, .ref b2, .ref b3, .ref b4, .ref b5, .int (nI n), .int (nI K), .int (nI rr), .int ml, .int lo])), (b1, .inl (cA, 2000, .inl g1)), (b2, .inl (cA, 2000, .inl g2)), (b3, .inl (cZ, 2000, .inl g3)), (b4, .inl (cA, 2001, .inl g4)), (b5, .inl (cA, 2000, .inl g5))]) (ci := 0) ⟨hx, hb, hml, hown, hts⟩ (c_stretch_ok l dC dI cA h0 a1 a2 a3 a4 H.size f1 f2 f3 f4 n (nI K) lc (nI rr) ml lo (xs (i + 1)) (by omega) hp1 hp2) (cwV 1 hts gL_law_X0_stretch rfl rfl rfl (by decide +kernel) ⟨Nat.le_of_ble_eq_true rfl, Nat.le_of_ble_eq_true rfl⟩) hKX hP hD hS hA [0, 1, 2, 3, 4] [5, 6, 7, 8, 9, 10] rfl rfl rfl rfl (by decide) rfl rfl 0 rfl rfl hl.1 (Nat.le_of_ble_eq_true rfl) dL_law_102 hroom rfl (fun r1 u1 H locs hw1 hP hD hS => ?_)
        have hP : va_P (dC, dI) vwCl [(h1, .inr (1, [.ref b1, .ref b2, .ref b3, .ref b4, .ref b5, .int (nI n), .int (nI K), .int (nI rr), .int ml, .int lo])), (b1, .inl (cA, 2000, .inl g1)), (b2, .inl (cA, 2000, .inl g2)), (b3, .inl (cZ, 2000, .inl g3)), (b4, .inl (cA, 2001, .inl g4)), (b5, .inl (cA, 2000, .inl g5)), (h0, .inr (0, [.ref a1, .ref a2, .ref a3, .ref a4, .int (nI (n + 1)), .int (nI K), .int lc, .int (nI rr), .int ml, .int 0])), (a1, .inl (cA, 2000, .inl (upd f1 n (xs (i + 1))))), (a2, .inl (cA, 2000, .inl (upd f2 n (-1)))), (a3, .inl (cA, 2000, .inl f3)), (a4, .inl (cA, 2000, .inl f4))] H := hP
        have hD : va_D A [(h1, .inr (1, [.ref b1, .ref b2, .ref b3, .ref b4, .ref b5, .int (nI n), .int (nI K), .int (nI rr), .int ml, .int lo])), (b1, .inl (cA, 2000, .inl g1)), (b2, .inl (cA, 2000, .inl g2)), (b3, .inl (cZ, 2000, .inl g3)), (b4, .inl (cA, 2001, .inl g4)), (b5, .inl (cA, 2000, .inl g5)), (h0, .inr (0, [.ref a1, .ref a2, .ref a3, .ref a4, .int (nI (n + 1)), .int (nI K), .int lc, .int (nI rr), .int ml, .int 0])), (a1, .inl (cA, 2000, .inl (upd f1 n (xs (i + 1))))), (a2, .inl (cA, 2000, .inl (upd f2 n (-1)))), (a3, .inl (cA, 2000, .inl f3)), (a4, .inl (cA, 2000, .inl f4))] := hD
        subst hw1
        refine lv_aload_n hx hb dL_law_105 rfl (lv_at hl 2 rfl) ?_
        refine lv_aload_n hx hb dL_law_106 rfl (lv_at hl 0 rfl) ?_
        refine lv_iload_n hx hb dL_law_107 rfl (lv_at hl 3 rfl) ?_
        refine lv_iconst (v := 1) hx hb dL_law_108 (by decide) ?_
        refine lv_iadd hx hb dL_law_109 ?_
        refine na_eqi (y := nI (i + 1)) (nI_1 i) ?_
        refine na_sld (k := (i + 1)) hx hb hX hbl hbA hS (by omega) (by omega) dL_law_110 ?_
        refine na_calli (As := [.int (xs (i + 1))]) (rest := [.int (nI n)]) (wc := [(h1, .inr (1, [.ref b1, .ref b2, .ref b3, .ref b4, .ref b5, .int (nI n), .int (nI K), .int (nI rr), .int ml, .int lo])), (b1, .inl (cA, 2000, .inl g1)), (b2, .inl (cA, 2000, .inl g2)), (b3, .inl (cZ, 2000, .inl g3)), (b4, .inl (cA, 2001, .inl g4)), (b5, .inl (cA, 2000, .inl g5))]) (wr := [(h0, .inr (0, [.ref a1, .ref a2, .ref a3, .ref a4, .int (nI (n + 1)), .int (nI K), .int lc, .int (nI rr), .int ml, .int 0])), (a1, .inl (cA, 2000, .inl (upd f1 n (xs (i + 1))))), (a2, .inl (cA, 2000, .inl (upd f2 n (-1)))), (a3, .inl (cA, 2000, .inl f3)), (a4, .inl (cA, 2000, .inl f4))]) (ci := 1) ⟨hx, hb, hml, hown, hts⟩ (m_stretch_ok l dC dI cA cZ h1 b1 b2 b3 b4 b5 H.size g1 g2 g3 g4 g5 n (nI K) (nI rr) ml lo (xs (i + 1)) (by omega) hp1 hp2) (cwV 1 hts gL_law_X1_stretch rfl rfl rfl (by decide +kernel) ⟨Nat.le_of_ble_eq_true rfl, Nat.le_of_ble_eq_true rfl⟩) hK hP hD hS hA [0, 1, 2, 3, 4, 5] [6, 7, 8, 9, 10] rfl rfl rfl rfl (by decide) rfl rfl 0 rfl rfl hl.1 (Nat.le_of_ble_eq_true rfl) dL_law_111 hroom rfl (fun r2 u2 H locs hw2 hP hD hS => ?_)
        have hP : va_P (dC, dI) vwCl [(h0, .inr (0, [.ref a1, .ref a2, .ref a3, .ref a4, .int (nI (n + 1)), .int (nI K), .int lc, .int (nI rr), .int ml, .int 0])), (a1, .inl (cA, 2000, .inl (upd f1 n (xs (i + 1))))), (a2, .inl (cA, 2000, .inl (upd f2 n (-1)))), (a3, .inl (cA, 2000, .inl f3)), (a4, .inl (cA, 2000, .inl f4)), (h1, .inr (1, [.ref b1, .ref b2, .ref b3, .ref b4, .ref b5, .int (nI (n + 1)), .int (nI K), .int (nI rr), .int ml, .int 0])), (b1, .inl (cA, 2000, .inl (upd g1 n 0))), (b2, .inl (cA, 2000, .inl (upd g2 n (xs (i + 1))))), (b3, .inl (cZ, 2000, .inl g3)), (b4, .inl (cA, 2001, .inl g4)), (b5, .inl (cA, 2000, .inl g5))] H := hP
        have hD : va_D A [(h0, .inr (0, [.ref a1, .ref a2, .ref a3, .ref a4, .int (nI (n + 1)), .int (nI K), .int lc, .int (nI rr), .int ml, .int 0])), (a1, .inl (cA, 2000, .inl (upd f1 n (xs (i + 1))))), (a2, .inl (cA, 2000, .inl (upd f2 n (-1)))), (a3, .inl (cA, 2000, .inl f3)), (a4, .inl (cA, 2000, .inl f4)), (h1, .inr (1, [.ref b1, .ref b2, .ref b3, .ref b4, .ref b5, .int (nI (n + 1)), .int (nI K), .int (nI rr), .int ml, .int 0])), (b1, .inl (cA, 2000, .inl (upd g1 n 0))), (b2, .inl (cA, 2000, .inl (upd g2 n (xs (i + 1))))), (b3, .inl (cZ, 2000, .inl g3)), (b4, .inl (cA, 2001, .inl g4)), (b5, .inl (cA, 2000, .inl g5))] := hD
        subst hw2
        refine lv_icmp_eq (tgt := 300) hx hb dL_law_114 (by decide) (fun hcE => ?_) (fun hcE => ?_)
        · refine lv_iinc (v := nI (i + 2)) (lv' := [(3, .int (nI (i + 2))), (0, .ref ba), (1, .ref h0), (2, .ref h1)]) hx hb dL_law_300 hl (k := 3) rfl (show nI i + nI 2 = nI (i + 2) from nI_add i 2) (by decide) rfl (fun ls hl => ?_)
          refine lv_goto (tgt := 18) hx hb dL_law_303 (by decide) ?_
          exact ih (L - (i + 2)) (i + 2) _ _ _ (by omega) ⟨upd f1 n (xs (i + 1)), upd f2 n (-1), f3, f4, upd g1 n 0, upd g2 n (xs (i + 1)), g3, g4, g5, n + 1, K, rr, lc, ml, 0, ⟨by omega, by omega, rfl, inv_stretch hI9 (by omega) hp1 hp2⟩, hP, hD, hS, lv_sub hl [1, 2, 3, 0] rfl⟩
        · exact absurd (rfl) hcE
    · refine lv_tableIn (off := 87) (tgt := 119) hx hb dL_law_32 (by decide) (by decide) (by decide) (by decide) ?_
      refine lv_aload_n hx hb dL_law_119 rfl (lv_at hl 1 rfl) ?_
      refine na_calli (As := []) (rest := []) (wc := [(h0, .inr (0, [.ref a1, .ref a2, .ref a3, .ref a4, .int (nI n), .int (nI K), .int lc, .int (nI rr), .int ml, .int lo])), (a1, .inl (cA, 2000, .inl f1)), (a2, .inl (cA, 2000, .inl f2)), (a3, .inl (cA, 2000, .inl f3)), (a4, .inl (cA, 2000, .inl f4))]) (wr := [(h1, .inr (1, [.ref b1, .ref b2, .ref b3, .ref b4, .ref b5, .int (nI n), .int (nI K), .int (nI rr), .int ml, .int lo])), (b1, .inl (cA, 2000, .inl g1)), (b2, .inl (cA, 2000, .inl g2)), (b3, .inl (cZ, 2000, .inl g3)), (b4, .inl (cA, 2001, .inl g4)), (b5, .inl (cA, 2000, .inl g5))]) (ci := 0) ⟨hx, hb, hml, hown, hts⟩ (c_mark l dC dI cA h0 a1 a2 a3 a4 H.size f1 f2 f3 f4 n K lc (nI rr) ml lo (by omega) (by omega)) (cwV 0 hts gL_law_X0_mark rfl rfl rfl (by decide +kernel) ⟨Nat.le_of_ble_eq_true rfl, Nat.le_of_ble_eq_true rfl⟩) hKX hP hD hS hA [0, 1, 2, 3, 4] [5, 6, 7, 8, 9, 10] rfl rfl rfl rfl (by decide) rfl rfl 0 rfl rfl hl.1 (Nat.le_of_ble_eq_true rfl) dL_law_120 hroom rfl (fun r1 u1 H locs hw1 hP hD hS => ?_)
      have hP : va_P (dC, dI) vwCl [(h1, .inr (1, [.ref b1, .ref b2, .ref b3, .ref b4, .ref b5, .int (nI n), .int (nI K), .int (nI rr), .int ml, .int lo])), (b1, .inl (cA, 2000, .inl g1)), (b2, .inl (cA, 2000, .inl g2)), (b3, .inl (cZ, 2000, .inl g3)), (b4, .inl (cA, 2001, .inl g4)), (b5, .inl (cA, 2000, .inl g5)), (h0, .inr (0, [.ref a1, .ref a2, .ref a3, .ref a4, .int (nI (n + 1)), .int (nI (K + 1)), .int lc, .int (nI rr), .int ml, .int 0])), (a1, .inl (cA, 2000, .inl (upd f1 n 0))), (a2, .inl (cA, 2000, .inl (upd f2 n (-1)))), (a3, .inl (cA, 2000, .inl f3)), (a4, .inl (cA, 2000, .inl (upd f4 K (nI n))))] H := hP
      have hD : va_D A [(h1, .inr (1, [.ref b1, .ref b2, .ref b3, .ref b4, .ref b5, .int (nI n), .int (nI K), .int (nI rr), .int ml, .int lo])), (b1, .inl (cA, 2000, .inl g1)), (b2, .inl (cA, 2000, .inl g2)), (b3, .inl (cZ, 2000, .inl g3)), (b4, .inl (cA, 2001, .inl g4)), (b5, .inl (cA, 2000, .inl g5)), (h0, .inr (0, [.ref a1, .ref a2, .ref a3, .ref a4, .int (nI (n + 1)), .int (nI (K + 1)), .int lc, .int (nI rr), .int ml, .int 0])), (a1, .inl (cA, 2000, .inl (upd f1 n 0))), (a2, .inl (cA, 2000, .inl (upd f2 n (-1)))), (a3, .inl (cA, 2000, .inl f3)), (a4, .inl (cA, 2000, .inl (upd f4 K (nI n))))] := hD
      subst hw1
      refine lv_aload_n hx hb dL_law_123 rfl (lv_at hl 2 rfl) ?_
      refine na_calli (As := []) (rest := [.int (nI n)]) (wc := [(h1, .inr (1, [.ref b1, .ref b2, .ref b3, .ref b4, .ref b5, .int (nI n), .int (nI K), .int (nI rr), .int ml, .int lo])), (b1, .inl (cA, 2000, .inl g1)), (b2, .inl (cA, 2000, .inl g2)), (b3, .inl (cZ, 2000, .inl g3)), (b4, .inl (cA, 2001, .inl g4)), (b5, .inl (cA, 2000, .inl g5))]) (wr := [(h0, .inr (0, [.ref a1, .ref a2, .ref a3, .ref a4, .int (nI (n + 1)), .int (nI (K + 1)), .int lc, .int (nI rr), .int ml, .int 0])), (a1, .inl (cA, 2000, .inl (upd f1 n 0))), (a2, .inl (cA, 2000, .inl (upd f2 n (-1)))), (a3, .inl (cA, 2000, .inl f3)), (a4, .inl (cA, 2000, .inl (upd f4 K (nI n))))]) (ci := 1) ⟨hx, hb, hml, hown, hts⟩ (m_mark l dC dI cA cZ h1 b1 b2 b3 b4 b5 H.size g1 g2 g3 g4 g5 n K (nI rr) ml lo (by omega) (by omega)) (cwV 0 hts gL_law_X1_mark rfl rfl rfl (by decide +kernel) ⟨Nat.le_of_ble_eq_true rfl, Nat.le_of_ble_eq_true rfl⟩) hK hP hD hS hA [0, 1, 2, 3, 4, 5] [6, 7, 8, 9, 10] rfl rfl rfl rfl (by decide) rfl rfl 0 rfl rfl hl.1 (Nat.le_of_ble_eq_true rfl) dL_law_124 hroom rfl (fun r2 u2 H locs hw2 hP hD hS => ?_)
      have hP : va_P (dC, dI) vwCl [(h0, .inr (0, [.ref a1, .ref a2, .ref a3, .ref a4, .int (nI (n + 1)), .int (nI (K + 1)), .int lc, .int (nI rr), .int ml, .int 0])), (a1, .inl (cA, 2000, .inl (upd f1 n 0))), (a2, .inl (cA, 2000, .inl (upd f2 n (-1)))), (a3, .inl (cA, 2000, .inl f3)), (a4, .inl (cA, 2000, .inl (upd f4 K (nI n)))), (h1, .inr (1, [.ref b1, .ref b2, .ref b3, .ref b4, .ref b5, .int (nI (n + 1)), .int (nI (K + 1)), .int (nI rr), .int ml, .int 0])), (b1, .inl (cA, 2000, .inl (upd g1 n 1))), (b2, .inl (cA, 2000, .inl (upd g2 n 0))), (b3, .inl (cZ, 2000, .inl g3)), (b4, .inl (cA, 2001, .inl g4)), (b5, .inl (cA, 2000, .inl (upd g5 K (nI n))))] H := hP
      have hD : va_D A [(h0, .inr (0, [.ref a1, .ref a2, .ref a3, .ref a4, .int (nI (n + 1)), .int (nI (K + 1)), .int lc, .int (nI rr), .int ml, .int 0])), (a1, .inl (cA, 2000, .inl (upd f1 n 0))), (a2, .inl (cA, 2000, .inl (upd f2 n (-1)))), (a3, .inl (cA, 2000, .inl f3)), (a4, .inl (cA, 2000, .inl (upd f4 K (nI n)))), (h1, .inr (1, [.ref b1, .ref b2, .ref b3, .ref b4, .ref b5, .int (nI (n + 1)), .int (nI (K + 1)), .int (nI rr), .int ml, .int 0])), (b1, .inl (cA, 2000, .inl (upd g1 n 1))), (b2, .inl (cA, 2000, .inl (upd g2 n 0))), (b3, .inl (cZ, 2000, .inl g3)), (b4, .inl (cA, 2001, .inl g4)), (b5, .inl (cA, 2000, .inl (upd g5 K (nI n))))] := hD
      subst hw2
      refine lv_icmp_eq (tgt := 300) hx hb dL_law_127 (by decide) (fun hcE => ?_) (fun hcE => ?_)
      · refine lv_iinc (v := nI (i + 2)) (lv' := [(3, .int (nI (i + 2))), (0, .ref ba), (1, .ref h0), (2, .ref h1)]) hx hb dL_law_300 hl (k := 3) rfl (show nI i + nI 2 = nI (i + 2) from nI_add i 2) (by decide) rfl (fun ls hl => ?_)
        refine lv_goto (tgt := 18) hx hb dL_law_303 (by decide) ?_
        exact ih (L - (i + 2)) (i + 2) _ _ _ (by omega) ⟨upd f1 n 0, upd f2 n (-1), f3, upd f4 K (nI n), upd g1 n 1, upd g2 n 0, g3, g4, upd g5 K (nI n), n + 1, K + 1, rr, lc, ml, 0, ⟨by omega, by omega, rfl, inv_mark hI9 (by omega)⟩, hP, hD, hS, lv_sub hl [1, 2, 3, 0] rfl⟩
      · exact absurd (rfl) hcE
    · refine lv_tableIn (off := 100) (tgt := 132) hx hb dL_law_32 (by decide) (by decide) (by decide) (by decide) ?_
      by_cases hp : (xs (i + 1)) < 0
      · refine lv_aload_n hx hb dL_law_132 rfl (lv_at hl 1 rfl) ?_
        refine lv_aload_n hx hb dL_law_133 rfl (lv_at hl 0 rfl) ?_
        refine lv_iload_n hx hb dL_law_134 rfl (lv_at hl 3 rfl) ?_
        refine lv_iconst (v := 1) hx hb dL_law_135 (by decide) ?_
        refine lv_iadd hx hb dL_law_136 ?_
        refine na_eqi (y := nI (i + 1)) (nI_1 i) ?_
        refine na_sld (k := (i + 1)) hx hb hX hbl hbA hS (by omega) (by omega) dL_law_137 ?_
        refine na_calli (As := [.int (xs (i + 1))]) (rest := []) (wc := [(h0, .inr (0, [.ref a1, .ref a2, .ref a3, .ref a4, .int (nI n), .int (nI K), .int lc, .int (nI rr), .int ml, .int lo])), (a1, .inl (cA, 2000, .inl f1)), (a2, .inl (cA, 2000, .inl f2)), (a3, .inl (cA, 2000, .inl f3)), (a4, .inl (cA, 2000, .inl f4))]) (wr := [(h1, .inr (1, [.ref b1, .ref b2, .ref b3, .ref b4, .ref b5, .int (nI n), .int (nI K), .int (nI rr), .int ml, .int lo])), (b1, .inl (cA, 2000, .inl g1)), (b2, .inl (cA, 2000, .inl g2)), (b3, .inl (cZ, 2000, .inl g3)), (b4, .inl (cA, 2001, .inl g4)), (b5, .inl (cA, 2000, .inl g5))]) (ci := 0) ⟨hx, hb, hml, hown, hts⟩ (c_branch_no l dC dI cA h0 a1 a2 a3 a4 H.size f1 f2 f3 f4 n (nI K) lc (nI rr) ml lo (xs (i + 1)) hp) (cwV 1 hts gL_law_X0_branch rfl rfl rfl (by decide +kernel) ⟨Nat.le_of_ble_eq_true rfl, Nat.le_of_ble_eq_true rfl⟩) hKX hP hD hS hA [0, 1, 2, 3, 4] [5, 6, 7, 8, 9, 10] rfl rfl rfl rfl (by decide) rfl rfl 0 rfl rfl hl.1 (Nat.le_of_ble_eq_true rfl) dL_law_138 hroom rfl (fun r1 u1 H locs hw1 hP hD hS => ?_)
        have hP : va_P (dC, dI) vwCl [(h1, .inr (1, [.ref b1, .ref b2, .ref b3, .ref b4, .ref b5, .int (nI n), .int (nI K), .int (nI rr), .int ml, .int lo])), (b1, .inl (cA, 2000, .inl g1)), (b2, .inl (cA, 2000, .inl g2)), (b3, .inl (cZ, 2000, .inl g3)), (b4, .inl (cA, 2001, .inl g4)), (b5, .inl (cA, 2000, .inl g5)), (h0, .inr (0, [.ref a1, .ref a2, .ref a3, .ref a4, .int (nI n), .int (nI K), .int lc, .int (nI rr), .int ml, .int lo])), (a1, .inl (cA, 2000, .inl f1)), (a2, .inl (cA, 2000, .inl f2)), (a3, .inl (cA, 2000, .inl f3)), (a4, .inl (cA, 2000, .inl f4))] H := hP
        have hD : va_D A [(h1, .inr (1, [.ref b1, .ref b2, .ref b3, .ref b4, .ref b5, .int (nI n), .int (nI K), .int (nI rr), .int ml, .int lo])), (b1, .inl (cA, 2000, .inl g1)), (b2, .inl (cA, 2000, .inl g2)), (b3, .inl (cZ, 2000, .inl g3)), (b4, .inl (cA, 2001, .inl g4)), (b5, .inl (cA, 2000, .inl g5)), (h0, .inr (0, [.ref a1, .ref a2, .ref a3, .ref a4, .int (nI n), .int (nI K), .int lc, .int (nI rr), .int ml, .int lo])), (a1, .inl (cA, 2000, .inl f1)), (a2, .inl (cA, 2000, .inl f2)), (a3, .inl (cA, 2000, .inl f3)), (a4, .inl (cA, 2000, .inl f4))] := hD
        subst hw1
        refine lv_aload_n hx hb dL_law_141 rfl (lv_at hl 2 rfl) ?_
        refine lv_aload_n hx hb dL_law_142 rfl (lv_at hl 0 rfl) ?_
        refine lv_iload_n hx hb dL_law_143 rfl (lv_at hl 3 rfl) ?_
        refine lv_iconst (v := 1) hx hb dL_law_144 (by decide) ?_
        refine lv_iadd hx hb dL_law_145 ?_
        refine na_eqi (y := nI (i + 1)) (nI_1 i) ?_
        refine na_sld (k := (i + 1)) hx hb hX hbl hbA hS (by omega) (by omega) dL_law_146 ?_
        refine na_calli (As := [.int (xs (i + 1))]) (rest := [.int (-1)]) (wc := [(h1, .inr (1, [.ref b1, .ref b2, .ref b3, .ref b4, .ref b5, .int (nI n), .int (nI K), .int (nI rr), .int ml, .int lo])), (b1, .inl (cA, 2000, .inl g1)), (b2, .inl (cA, 2000, .inl g2)), (b3, .inl (cZ, 2000, .inl g3)), (b4, .inl (cA, 2001, .inl g4)), (b5, .inl (cA, 2000, .inl g5))]) (wr := [(h0, .inr (0, [.ref a1, .ref a2, .ref a3, .ref a4, .int (nI n), .int (nI K), .int lc, .int (nI rr), .int ml, .int lo])), (a1, .inl (cA, 2000, .inl f1)), (a2, .inl (cA, 2000, .inl f2)), (a3, .inl (cA, 2000, .inl f3)), (a4, .inl (cA, 2000, .inl f4))]) (ci := 1) ⟨hx, hb, hml, hown, hts⟩ (m_branch_no l dC dI cA cZ h1 b1 b2 b3 b4 b5 H.size g1 g2 g3 g4 g5 n (nI K) (nI rr) ml lo (xs (i + 1)) hp) (cwV 1 hts gL_law_X1_branch rfl rfl rfl (by decide +kernel) ⟨Nat.le_of_ble_eq_true rfl, Nat.le_of_ble_eq_true rfl⟩) hK hP hD hS hA [0, 1, 2, 3, 4, 5] [6, 7, 8, 9, 10] rfl rfl rfl rfl (by decide) rfl rfl 0 rfl rfl hl.1 (Nat.le_of_ble_eq_true rfl) dL_law_147 hroom rfl (fun r2 u2 H locs hw2 hP hD hS => ?_)
        have hP : va_P (dC, dI) vwCl [(h0, .inr (0, [.ref a1, .ref a2, .ref a3, .ref a4, .int (nI n), .int (nI K), .int lc, .int (nI rr), .int ml, .int lo])), (a1, .inl (cA, 2000, .inl f1)), (a2, .inl (cA, 2000, .inl f2)), (a3, .inl (cA, 2000, .inl f3)), (a4, .inl (cA, 2000, .inl f4)), (h1, .inr (1, [.ref b1, .ref b2, .ref b3, .ref b4, .ref b5, .int (nI n), .int (nI K), .int (nI rr), .int ml, .int lo])), (b1, .inl (cA, 2000, .inl g1)), (b2, .inl (cA, 2000, .inl g2)), (b3, .inl (cZ, 2000, .inl g3)), (b4, .inl (cA, 2001, .inl g4)), (b5, .inl (cA, 2000, .inl g5))] H := hP
        have hD : va_D A [(h0, .inr (0, [.ref a1, .ref a2, .ref a3, .ref a4, .int (nI n), .int (nI K), .int lc, .int (nI rr), .int ml, .int lo])), (a1, .inl (cA, 2000, .inl f1)), (a2, .inl (cA, 2000, .inl f2)), (a3, .inl (cA, 2000, .inl f3)), (a4, .inl (cA, 2000, .inl f4)), (h1, .inr (1, [.ref b1, .ref b2, .ref b3, .ref b4, .ref b5, .int (nI n), .int (nI K), .int (nI rr), .int ml, .int lo])), (b1, .inl (cA, 2000, .inl g1)), (b2, .inl (cA, 2000, .inl g2)), (b3, .inl (cZ, 2000, .inl g3)), (b4, .inl (cA, 2001, .inl g4)), (b5, .inl (cA, 2000, .inl g5))] := hD
        subst hw2
        refine lv_icmp_eq (tgt := 300) hx hb dL_law_150 (by decide) (fun hcE => ?_) (fun hcE => ?_)
        · refine lv_iinc (v := nI (i + 2)) (lv' := [(3, .int (nI (i + 2))), (0, .ref ba), (1, .ref h0), (2, .ref h1)]) hx hb dL_law_300 hl (k := 3) rfl (show nI i + nI 2 = nI (i + 2) from nI_add i 2) (by decide) rfl (fun ls hl => ?_)
          refine lv_goto (tgt := 18) hx hb dL_law_303 (by decide) ?_
          exact ih (L - (i + 2)) (i + 2) _ _ _ (by omega) ⟨f1, f2, f3, f4, g1, g2, g3, g4, g5, n, K, rr, lc, ml, lo, ⟨by omega, by omega, rfl, hI9⟩, hP, hD, hS, lv_sub hl [1, 2, 3, 0] rfl⟩
        · exact absurd (rfl) hcE
      · refine lv_aload_n hx hb dL_law_132 rfl (lv_at hl 1 rfl) ?_
        refine lv_aload_n hx hb dL_law_133 rfl (lv_at hl 0 rfl) ?_
        refine lv_iload_n hx hb dL_law_134 rfl (lv_at hl 3 rfl) ?_
        refine lv_iconst (v := 1) hx hb dL_law_135 (by decide) ?_
        refine lv_iadd hx hb dL_law_136 ?_
        refine na_eqi (y := nI (i + 1)) (nI_1 i) ?_
        refine na_sld (k := (i + 1)) hx hb hX hbl hbA hS (by omega) (by omega) dL_law_137 ?_
        refine na_calli (As := [.int (xs (i + 1))]) (rest := []) (wc := [(h0, .inr (0, [.ref a1, .ref a2, .ref a3, .ref a4, .int (nI n), .int (nI K), .int lc, .int (nI rr), .int ml, .int lo])), (a1, .inl (cA, 2000, .inl f1)), (a2, .inl (cA, 2000, .inl f2)), (a3, .inl (cA, 2000, .inl f3)), (a4, .inl (cA, 2000, .inl f4))]) (wr := [(h1, .inr (1, [.ref b1, .ref b2, .ref b3, .ref b4, .ref b5, .int (nI n), .int (nI K), .int (nI rr), .int ml, .int lo])), (b1, .inl (cA, 2000, .inl g1)), (b2, .inl (cA, 2000, .inl g2)), (b3, .inl (cZ, 2000, .inl g3)), (b4, .inl (cA, 2001, .inl g4)), (b5, .inl (cA, 2000, .inl g5))]) (ci := 0) ⟨hx, hb, hml, hown, hts⟩ (c_branch_ok l dC dI cA h0 a1 a2 a3 a4 H.size f1 f2 f3 f4 n (nI K) lc (nI rr) ml lo (xs (i + 1)) (by omega) hp) (cwV 1 hts gL_law_X0_branch rfl rfl rfl (by decide +kernel) ⟨Nat.le_of_ble_eq_true rfl, Nat.le_of_ble_eq_true rfl⟩) hKX hP hD hS hA [0, 1, 2, 3, 4] [5, 6, 7, 8, 9, 10] rfl rfl rfl rfl (by decide) rfl rfl 0 rfl rfl hl.1 (Nat.le_of_ble_eq_true rfl) dL_law_138 hroom rfl (fun r1 u1 H locs hw1 hP hD hS => ?_)
        have hP : va_P (dC, dI) vwCl [(h1, .inr (1, [.ref b1, .ref b2, .ref b3, .ref b4, .ref b5, .int (nI n), .int (nI K), .int (nI rr), .int ml, .int lo])), (b1, .inl (cA, 2000, .inl g1)), (b2, .inl (cA, 2000, .inl g2)), (b3, .inl (cZ, 2000, .inl g3)), (b4, .inl (cA, 2001, .inl g4)), (b5, .inl (cA, 2000, .inl g5)), (h0, .inr (0, [.ref a1, .ref a2, .ref a3, .ref a4, .int (nI (n + 1)), .int (nI K), .int lc, .int (nI rr), .int ml, .int 0])), (a1, .inl (cA, 2000, .inl (upd f1 n 1))), (a2, .inl (cA, 2000, .inl (upd f2 n (xs (i + 1))))), (a3, .inl (cA, 2000, .inl f3)), (a4, .inl (cA, 2000, .inl f4))] H := hP
        have hD : va_D A [(h1, .inr (1, [.ref b1, .ref b2, .ref b3, .ref b4, .ref b5, .int (nI n), .int (nI K), .int (nI rr), .int ml, .int lo])), (b1, .inl (cA, 2000, .inl g1)), (b2, .inl (cA, 2000, .inl g2)), (b3, .inl (cZ, 2000, .inl g3)), (b4, .inl (cA, 2001, .inl g4)), (b5, .inl (cA, 2000, .inl g5)), (h0, .inr (0, [.ref a1, .ref a2, .ref a3, .ref a4, .int (nI (n + 1)), .int (nI K), .int lc, .int (nI rr), .int ml, .int 0])), (a1, .inl (cA, 2000, .inl (upd f1 n 1))), (a2, .inl (cA, 2000, .inl (upd f2 n (xs (i + 1))))), (a3, .inl (cA, 2000, .inl f3)), (a4, .inl (cA, 2000, .inl f4))] := hD
        subst hw1
        refine lv_aload_n hx hb dL_law_141 rfl (lv_at hl 2 rfl) ?_
        refine lv_aload_n hx hb dL_law_142 rfl (lv_at hl 0 rfl) ?_
        refine lv_iload_n hx hb dL_law_143 rfl (lv_at hl 3 rfl) ?_
        refine lv_iconst (v := 1) hx hb dL_law_144 (by decide) ?_
        refine lv_iadd hx hb dL_law_145 ?_
        refine na_eqi (y := nI (i + 1)) (nI_1 i) ?_
        refine na_sld (k := (i + 1)) hx hb hX hbl hbA hS (by omega) (by omega) dL_law_146 ?_
        refine na_calli (As := [.int (xs (i + 1))]) (rest := [.int (nI n)]) (wc := [(h1, .inr (1, [.ref b1, .ref b2, .ref b3, .ref b4, .ref b5, .int (nI n), .int (nI K), .int (nI rr), .int ml, .int lo])), (b1, .inl (cA, 2000, .inl g1)), (b2, .inl (cA, 2000, .inl g2)), (b3, .inl (cZ, 2000, .inl g3)), (b4, .inl (cA, 2001, .inl g4)), (b5, .inl (cA, 2000, .inl g5))]) (wr := [(h0, .inr (0, [.ref a1, .ref a2, .ref a3, .ref a4, .int (nI (n + 1)), .int (nI K), .int lc, .int (nI rr), .int ml, .int 0])), (a1, .inl (cA, 2000, .inl (upd f1 n 1))), (a2, .inl (cA, 2000, .inl (upd f2 n (xs (i + 1))))), (a3, .inl (cA, 2000, .inl f3)), (a4, .inl (cA, 2000, .inl f4))]) (ci := 1) ⟨hx, hb, hml, hown, hts⟩ (m_branch_ok l dC dI cA cZ h1 b1 b2 b3 b4 b5 H.size g1 g2 g3 g4 g5 n (nI K) (nI rr) ml lo (xs (i + 1)) (by omega) hp) (cwV 1 hts gL_law_X1_branch rfl rfl rfl (by decide +kernel) ⟨Nat.le_of_ble_eq_true rfl, Nat.le_of_ble_eq_true rfl⟩) hK hP hD hS hA [0, 1, 2, 3, 4, 5] [6, 7, 8, 9, 10] rfl rfl rfl rfl (by decide) rfl rfl 0 rfl rfl hl.1 (Nat.le_of_ble_eq_true rfl) dL_law_147 hroom rfl (fun r2 u2 H locs hw2 hP hD hS => ?_)
        have hP : va_P (dC, dI) vwCl [(h0, .inr (0, [.ref a1, .ref a2, .ref a3, .ref a4, .int (nI (n + 1)), .int (nI K), .int lc, .int (nI rr), .int ml, .int 0])), (a1, .inl (cA, 2000, .inl (upd f1 n 1))), (a2, .inl (cA, 2000, .inl (upd f2 n (xs (i + 1))))), (a3, .inl (cA, 2000, .inl f3)), (a4, .inl (cA, 2000, .inl f4)), (h1, .inr (1, [.ref b1, .ref b2, .ref b3, .ref b4, .ref b5, .int (nI (n + 1)), .int (nI K), .int (nI rr), .int ml, .int 0])), (b1, .inl (cA, 2000, .inl (upd g1 n 2))), (b2, .inl (cA, 2000, .inl (upd g2 n (xs (i + 1))))), (b3, .inl (cZ, 2000, .inl g3)), (b4, .inl (cA, 2001, .inl g4)), (b5, .inl (cA, 2000, .inl g5))] H := hP
        have hD : va_D A [(h0, .inr (0, [.ref a1, .ref a2, .ref a3, .ref a4, .int (nI (n + 1)), .int (nI K), .int lc, .int (nI rr), .int ml, .int 0])), (a1, .inl (cA, 2000, .inl (upd f1 n 1))), (a2, .inl (cA, 2000, .inl (upd f2 n (xs (i + 1))))), (a3, .inl (cA, 2000, .inl f3)), (a4, .inl (cA, 2000, .inl f4)), (h1, .inr (1, [.ref b1, .ref b2, .ref b3, .ref b4, .ref b5, .int (nI (n + 1)), .int (nI K), .int (nI rr), .int ml, .int 0])), (b1, .inl (cA, 2000, .inl (upd g1 n 2))), (b2, .inl (cA, 2000, .inl (upd g2 n (xs (i + 1))))), (b3, .inl (cZ, 2000, .inl g3)), (b4, .inl (cA, 2001, .inl g4)), (b5, .inl (cA, 2000, .inl g5))] := hD
        subst hw2
        refine lv_icmp_eq (tgt := 300) hx hb dL_law_150 (by decide) (fun hcE => ?_) (fun hcE => ?_)
        · refine lv_iinc (v := nI (i + 2)) (lv' := [(3, .int (nI (i + 2))), (0, .ref ba), (1, .ref h0), (2, .ref h1)]) hx hb dL_law_300 hl (k := 3) rfl (show nI i + nI 2 = nI (i + 2) from nI_add i 2) (by decide) rfl (fun ls hl => ?_)
          refine lv_goto (tgt := 18) hx hb dL_law_303 (by decide) ?_
          exact ih (L - (i + 2)) (i + 2) _ _ _ (by omega) ⟨upd f1 n 1, upd f2 n (xs (i + 1)), f3, f4, upd g1 n 2, upd g2 n (xs (i + 1)), g3, g4, g5, n + 1, K, rr, lc, ml, 0, ⟨by omega, by omega, rfl, inv_branch hI9 (by omega) hp⟩, hP, hD, hS, lv_sub hl [1, 2, 3, 0] rfl⟩
        · exact absurd (rfl) hcE
    · refine lv_tableIn (off := 123) (tgt := 155) hx hb dL_law_32 (by decide) (by decide) (by decide) (by decide) ?_
      by_cases hp : (xs (i + 1)) < 1 ∨ ¬ (xs (i + 1)) ≤ 100000
      · refine lv_aload_n hx hb dL_law_155 rfl (lv_at hl 1 rfl) ?_
        refine lv_aload_n hx hb dL_law_156 rfl (lv_at hl 0 rfl) ?_
        refine lv_iload_n hx hb dL_law_157 rfl (lv_at hl 3 rfl) ?_
        refine lv_iconst (v := 1) hx hb dL_law_158 (by decide) ?_
        refine lv_iadd hx hb dL_law_159 ?_
        refine na_eqi (y := nI (i + 1)) (nI_1 i) ?_
        refine na_sld (k := (i + 1)) hx hb hX hbl hbA hS (by omega) (by omega) dL_law_160 ?_
        refine na_calli (As := [.int (xs (i + 1))]) (rest := []) (wc := [(h0, .inr (0, [.ref a1, .ref a2, .ref a3, .ref a4, .int (nI n), .int (nI K), .int lc, .int (nI rr), .int ml, .int lo])), (a1, .inl (cA, 2000, .inl f1)), (a2, .inl (cA, 2000, .inl f2)), (a3, .inl (cA, 2000, .inl f3)), (a4, .inl (cA, 2000, .inl f4))]) (wr := [(h1, .inr (1, [.ref b1, .ref b2, .ref b3, .ref b4, .ref b5, .int (nI n), .int (nI K), .int (nI rr), .int ml, .int lo])), (b1, .inl (cA, 2000, .inl g1)), (b2, .inl (cA, 2000, .inl g2)), (b3, .inl (cZ, 2000, .inl g3)), (b4, .inl (cA, 2001, .inl g4)), (b5, .inl (cA, 2000, .inl g5))]) (ci := 0) ⟨hx, hb, hml, hown, hts⟩ (c_reach_no l dC dI cA h0 a1 a2 a3 a4 H.size f1 f2 f3 f4 n (nI K) lc (nI rr) ml lo (xs (i + 1)) hp) (cwV 1 hts gL_law_X0_reach rfl rfl rfl (by decide +kernel) ⟨Nat.le_of_ble_eq_true rfl, Nat.le_of_ble_eq_true rfl⟩) hKX hP hD hS hA [0, 1, 2, 3, 4] [5, 6, 7, 8, 9, 10] rfl rfl rfl rfl (by decide) rfl rfl 0 rfl rfl hl.1 (Nat.le_of_ble_eq_true rfl) dL_law_161 hroom rfl (fun r1 u1 H locs hw1 hP hD hS => ?_)
        have hP : va_P (dC, dI) vwCl [(h1, .inr (1, [.ref b1, .ref b2, .ref b3, .ref b4, .ref b5, .int (nI n), .int (nI K), .int (nI rr), .int ml, .int lo])), (b1, .inl (cA, 2000, .inl g1)), (b2, .inl (cA, 2000, .inl g2)), (b3, .inl (cZ, 2000, .inl g3)), (b4, .inl (cA, 2001, .inl g4)), (b5, .inl (cA, 2000, .inl g5)), (h0, .inr (0, [.ref a1, .ref a2, .ref a3, .ref a4, .int (nI n), .int (nI K), .int lc, .int (nI rr), .int ml, .int lo])), (a1, .inl (cA, 2000, .inl f1)), (a2, .inl (cA, 2000, .inl f2)), (a3, .inl (cA, 2000, .inl f3)), (a4, .inl (cA, 2000, .inl f4))] H := hP
        have hD : va_D A [(h1, .inr (1, [.ref b1, .ref b2, .ref b3, .ref b4, .ref b5, .int (nI n), .int (nI K), .int (nI rr), .int ml, .int lo])), (b1, .inl (cA, 2000, .inl g1)), (b2, .inl (cA, 2000, .inl g2)), (b3, .inl (cZ, 2000, .inl g3)), (b4, .inl (cA, 2001, .inl g4)), (b5, .inl (cA, 2000, .inl g5)), (h0, .inr (0, [.ref a1, .ref a2, .ref a3, .ref a4, .int (nI n), .int (nI K), .int lc, .int (nI rr), .int ml, .int lo])), (a1, .inl (cA, 2000, .inl f1)), (a2, .inl (cA, 2000, .inl f2)), (a3, .inl (cA, 2000, .inl f3)), (a4, .inl (cA, 2000, .inl f4))] := hD
        subst hw1
        refine lv_aload_n hx hb dL_law_164 rfl (lv_at hl 2 rfl) ?_
        refine lv_aload_n hx hb dL_law_165 rfl (lv_at hl 0 rfl) ?_
        refine lv_iload_n hx hb dL_law_166 rfl (lv_at hl 3 rfl) ?_
        refine lv_iconst (v := 1) hx hb dL_law_167 (by decide) ?_
        refine lv_iadd hx hb dL_law_168 ?_
        refine na_eqi (y := nI (i + 1)) (nI_1 i) ?_
        refine na_sld (k := (i + 1)) hx hb hX hbl hbA hS (by omega) (by omega) dL_law_169 ?_
        refine na_calli (As := [.int (xs (i + 1))]) (rest := [.int 0]) (wc := [(h1, .inr (1, [.ref b1, .ref b2, .ref b3, .ref b4, .ref b5, .int (nI n), .int (nI K), .int (nI rr), .int ml, .int lo])), (b1, .inl (cA, 2000, .inl g1)), (b2, .inl (cA, 2000, .inl g2)), (b3, .inl (cZ, 2000, .inl g3)), (b4, .inl (cA, 2001, .inl g4)), (b5, .inl (cA, 2000, .inl g5))]) (wr := [(h0, .inr (0, [.ref a1, .ref a2, .ref a3, .ref a4, .int (nI n), .int (nI K), .int lc, .int (nI rr), .int ml, .int lo])), (a1, .inl (cA, 2000, .inl f1)), (a2, .inl (cA, 2000, .inl f2)), (a3, .inl (cA, 2000, .inl f3)), (a4, .inl (cA, 2000, .inl f4))]) (ci := 1) ⟨hx, hb, hml, hown, hts⟩ (m_reach_no l dC dI cA cZ h1 b1 b2 b3 b4 b5 H.size g1 g2 g3 g4 g5 n (nI K) (nI rr) ml lo (xs (i + 1)) hp) (cwV 1 hts gL_law_X1_reach rfl rfl rfl (by decide +kernel) ⟨Nat.le_of_ble_eq_true rfl, Nat.le_of_ble_eq_true rfl⟩) hK hP hD hS hA [0, 1, 2, 3, 4, 5] [6, 7, 8, 9, 10] rfl rfl rfl rfl (by decide) rfl rfl 0 rfl rfl hl.1 (Nat.le_of_ble_eq_true rfl) dL_law_170 hroom rfl (fun r2 u2 H locs hw2 hP hD hS => ?_)
        have hP : va_P (dC, dI) vwCl [(h0, .inr (0, [.ref a1, .ref a2, .ref a3, .ref a4, .int (nI n), .int (nI K), .int lc, .int (nI rr), .int ml, .int lo])), (a1, .inl (cA, 2000, .inl f1)), (a2, .inl (cA, 2000, .inl f2)), (a3, .inl (cA, 2000, .inl f3)), (a4, .inl (cA, 2000, .inl f4)), (h1, .inr (1, [.ref b1, .ref b2, .ref b3, .ref b4, .ref b5, .int (nI n), .int (nI K), .int (nI rr), .int ml, .int lo])), (b1, .inl (cA, 2000, .inl g1)), (b2, .inl (cA, 2000, .inl g2)), (b3, .inl (cZ, 2000, .inl g3)), (b4, .inl (cA, 2001, .inl g4)), (b5, .inl (cA, 2000, .inl g5))] H := hP
        have hD : va_D A [(h0, .inr (0, [.ref a1, .ref a2, .ref a3, .ref a4, .int (nI n), .int (nI K), .int lc, .int (nI rr), .int ml, .int lo])), (a1, .inl (cA, 2000, .inl f1)), (a2, .inl (cA, 2000, .inl f2)), (a3, .inl (cA, 2000, .inl f3)), (a4, .inl (cA, 2000, .inl f4)), (h1, .inr (1, [.ref b1, .ref b2, .ref b3, .ref b4, .ref b5, .int (nI n), .int (nI K), .int (nI rr), .int ml, .int lo])), (b1, .inl (cA, 2000, .inl g1)), (b2, .inl (cA, 2000, .inl g2)), (b3, .inl (cZ, 2000, .inl g3)), (b4, .inl (cA, 2001, .inl g4)), (b5, .inl (cA, 2000, .inl g5))] := hD
        subst hw2
        refine lv_icmp_eq (tgt := 300) hx hb dL_law_173 (by decide) (fun hcE => ?_) (fun hcE => ?_)
        · refine lv_iinc (v := nI (i + 2)) (lv' := [(3, .int (nI (i + 2))), (0, .ref ba), (1, .ref h0), (2, .ref h1)]) hx hb dL_law_300 hl (k := 3) rfl (show nI i + nI 2 = nI (i + 2) from nI_add i 2) (by decide) rfl (fun ls hl => ?_)
          refine lv_goto (tgt := 18) hx hb dL_law_303 (by decide) ?_
          exact ih (L - (i + 2)) (i + 2) _ _ _ (by omega) ⟨f1, f2, f3, f4, g1, g2, g3, g4, g5, n, K, rr, lc, ml, lo, ⟨by omega, by omega, rfl, hI9⟩, hP, hD, hS, lv_sub hl [1, 2, 3, 0] rfl⟩
        · exact absurd (rfl) hcE
      · have hp1 : ¬ (xs (i + 1)) < 1 := fun q => hp (Or.inl q)
        have hp2 : (xs (i + 1)) ≤ 100000 := Classical.byContradiction (fun q => hp (Or.inr q))
        obtain ⟨r9, hr9, e9⟩ := nI_of2 (M := 100000) (n := 100000) (by decide) (na_lt01 hp1) hp2
        rw [e9] at hp1 hp2
        refine lv_aload_n hx hb dL_law_155 rfl (lv_at hl 1 rfl) ?_
        refine lv_aload_n hx hb dL_law_156 rfl (lv_at hl 0 rfl) ?_
        refine lv_iload_n hx hb dL_law_157 rfl (lv_at hl 3 rfl) ?_
        refine lv_iconst (v := 1) hx hb dL_law_158 (by decide) ?_
        refine lv_iadd hx hb dL_law_159 ?_
        refine na_eqi (y := nI (i + 1)) (nI_1 i) ?_
        refine na_sld (k := (i + 1)) hx hb hX hbl hbA hS (by omega) (by omega) dL_law_160 ?_
        refine na_eqi (y := nI r9) (e9) ?_
        refine na_calli (As := [.int (nI r9)]) (rest := []) (wc := [(h0, .inr (0, [.ref a1, .ref a2, .ref a3, .ref a4, .int (nI n), .int (nI K), .int lc, .int (nI rr), .int ml, .int lo])), (a1, .inl (cA, 2000, .inl f1)), (a2, .inl (cA, 2000, .inl f2)), (a3, .inl (cA, 2000, .inl f3)), (a4, .inl (cA, 2000, .inl f4))]) (wr := [(h1, .inr (1, [.ref b1, .ref b2, .ref b3, .ref b4, .ref b5, .int (nI n), .int (nI K), .int (nI rr), .int ml, .int lo])), (b1, .inl (cA, 2000, .inl g1)), (b2, .inl (cA, 2000, .inl g2)), (b3, .inl (cZ, 2000, .inl g3)), (b4, .inl (cA, 2001, .inl g4)), (b5, .inl (cA, 2000, .inl g5))]) (ci := 0) ⟨hx, hb, hml, hown, hts⟩ (c_reach_ok l dC dI cA h0 a1 a2 a3 a4 H.size f1 f2 f3 f4 n (nI K) lc (nI rr) ml lo (nI r9) hp1 hp2) (cwV 1 hts gL_law_X0_reach rfl rfl rfl (by decide +kernel) ⟨Nat.le_of_ble_eq_true rfl, Nat.le_of_ble_eq_true rfl⟩) hKX hP hD hS hA [0, 1, 2, 3, 4] [5, 6, 7, 8, 9, 10] rfl rfl rfl rfl (by decide) rfl rfl 0 rfl rfl hl.1 (Nat.le_of_ble_eq_true rfl) dL_law_161 hroom rfl (fun r1 u1 H locs hw1 hP hD hS => ?_)
        have hP : va_P (dC, dI) vwCl [(h1, .inr (1, [.ref b1, .ref b2, .ref b3, .ref b4, .ref b5, .int (nI n), .int (nI K), .int (nI rr), .int ml, .int lo])), (b1, .inl (cA, 2000, .inl g1)), (b2, .inl (cA, 2000, .inl g2)), (b3, .inl (cZ, 2000, .inl g3)), (b4, .inl (cA, 2001, .inl g4)), (b5, .inl (cA, 2000, .inl g5)), (h0, .inr (0, [.ref a1, .ref a2, .ref a3, .ref a4, .int (nI n), .int (nI K), .int lc, .int (nI r9), .int ml, .int 0])), (a1, .inl (cA, 2000, .inl f1)), (a2, .inl (cA, 2000, .inl f2)), (a3, .inl (cA, 2000, .inl f3)), (a4, .inl (cA, 2000, .inl f4))] H := hP
        have hD : va_D A [(h1, .inr (1, [.ref b1, .ref b2, .ref b3, .ref b4, .ref b5, .int (nI n), .int (nI K), .int (nI rr), .int ml, .int lo])), (b1, .inl (cA, 2000, .inl g1)), (b2, .inl (cA, 2000, .inl g2)), (b3, .inl (cZ, 2000, .inl g3)), (b4, .inl (cA, 2001, .inl g4)), (b5, .inl (cA, 2000, .inl g5)), (h0, .inr (0, [.ref a1, .ref a2, .ref a3, .ref a4, .int (nI n), .int (nI K), .int lc, .int (nI r9), .int ml, .int 0])), (a1, .inl (cA, 2000, .inl f1)), (a2, .inl (cA, 2000, .inl f2)), (a3, .inl (cA, 2000, .inl f3)), (a4, .inl (cA, 2000, .inl f4))] := hD
        subst hw1
        refine lv_aload_n hx hb dL_law_164 rfl (lv_at hl 2 rfl) ?_
        refine lv_aload_n hx hb dL_law_165 rfl (lv_at hl 0 rfl) ?_
        refine lv_iload_n hx hb dL_law_166 rfl (lv_at hl 3 rfl) ?_
        refine lv_iconst (v := 1) hx hb dL_law_167 (by decide) ?_
        refine lv_iadd hx hb dL_law_168 ?_
        refine na_eqi (y := nI (i + 1)) (nI_1 i) ?_
        refine na_sld (k := (i + 1)) hx hb hX hbl hbA hS (by omega) (by omega) dL_law_169 ?_
        refine na_eqi (y := nI r9) (e9) ?_
        refine na_calli (As := [.int (nI r9)]) (rest := [.int 1]) (wc := [(h1, .inr (1, [.ref b1, .ref b2, .ref b3, .ref b4, .ref b5, .int (nI n), .int (nI K), .int (nI rr), .int ml, .int lo])), (b1, .inl (cA, 2000, .inl g1)), (b2, .inl (cA, 2000, .inl g2)), (b3, .inl (cZ, 2000, .inl g3)), (b4, .inl (cA, 2001, .inl g4)), (b5, .inl (cA, 2000, .inl g5))]) (wr := [(h0, .inr (0, [.ref a1, .ref a2, .ref a3, .ref a4, .int (nI n), .int (nI K), .int lc, .int (nI r9), .int ml, .int 0])), (a1, .inl (cA, 2000, .inl f1)), (a2, .inl (cA, 2000, .inl f2)), (a3, .inl (cA, 2000, .inl f3)), (a4, .inl (cA, 2000, .inl f4))]) (ci := 1) ⟨hx, hb, hml, hown, hts⟩ (m_reach_ok l dC dI cA cZ h1 b1 b2 b3 b4 b5 H.size g1 g2 g3 g4 g5 n (nI K) (nI rr) ml lo (nI r9) hp1 hp2) (cwV 1 hts gL_law_X1_reach rfl rfl rfl (by decide +kernel) ⟨Nat.le_of_ble_eq_true rfl, Nat.le_of_ble_eq_true rfl⟩) hK hP hD hS hA [0, 1, 2, 3, 4, 5] [6, 7, 8, 9, 10] rfl rfl rfl rfl (by decide) rfl rfl 0 rfl rfl hl.1 (Nat.le_of_ble_eq_true rfl) dL_law_170 hroom rfl (fun r2 u2 H locs hw2 hP hD hS => ?_)
        have hP : va_P (dC, dI) vwCl [(h0, .inr (0, [.ref a1, .ref a2, .ref a3, .ref a4, .int (nI n), .int (nI K), .int lc, .int (nI r9), .int ml, .int 0])), (a1, .inl (cA, 2000, .inl f1)), (a2, .inl (cA, 2000, .inl f2)), (a3, .inl (cA, 2000, .inl f3)), (a4, .inl (cA, 2000, .inl f4)), (h1, .inr (1, [.ref b1, .ref b2, .ref b3, .ref b4, .ref b5, .int (nI n), .int (nI K), .int (nI r9), .int ml, .int 0])), (b1, .inl (cA, 2000, .inl g1)), (b2, .inl (cA, 2000, .inl g2)), (b3, .inl (cZ, 2000, .inl g3)), (b4, .inl (cA, 2001, .inl g4)), (b5, .inl (cA, 2000, .inl g5))] H := hP
        have hD : va_D A [(h0, .inr (0, [.ref a1, .ref a2, .ref a3, .ref a4, .int (nI n), .int (nI K), .int lc, .int (nI r9), .int ml, .int 0])), (a1, .inl (cA, 2000, .inl f1)), (a2, .inl (cA, 2000, .inl f2)), (a3, .inl (cA, 2000, .inl f3)), (a4, .inl (cA, 2000, .inl f4)), (h1, .inr (1, [.ref b1, .ref b2, .ref b3, .ref b4, .ref b5, .int (nI n), .int (nI K), .int (nI r9), .int ml, .int 0])), (b1, .inl (cA, 2000, .inl g1)), (b2, .inl (cA, 2000, .inl g2)), (b3, .inl (cZ, 2000, .inl g3)), (b4, .inl (cA, 2001, .inl g4)), (b5, .inl (cA, 2000, .inl g5))] := hD
        subst hw2
        refine lv_icmp_eq (tgt := 300) hx hb dL_law_173 (by decide) (fun hcE => ?_) (fun hcE => ?_)
        · refine lv_iinc (v := nI (i + 2)) (lv' := [(3, .int (nI (i + 2))), (0, .ref ba), (1, .ref h0), (2, .ref h1)]) hx hb dL_law_300 hl (k := 3) rfl (show nI i + nI 2 = nI (i + 2) from nI_add i 2) (by decide) rfl (fun ls hl => ?_)
          refine lv_goto (tgt := 18) hx hb dL_law_303 (by decide) ?_
          exact ih (L - (i + 2)) (i + 2) _ _ _ (by omega) ⟨f1, f2, f3, f4, g1, g2, g3, g4, g5, n, K, r9, lc, ml, 0, ⟨by omega, by omega, rfl, inv_reach hI9 hr9⟩, hP, hD, hS, lv_sub hl [1, 2, 3, 0] rfl⟩
        · exact absurd (rfl) hcE
    · refine lv_tableIn (off := 146) (tgt := 178) hx hb dL_law_32 (by decide) (by decide) (by decide) (by decide) ?_
      obtain ⟨br, b, tg, mi, hO, hXr, hMr, hrr, -⟩ := hI9
      refine lv_aload_n hx hb dL_law_178 rfl (lv_at hl 1 rfl) ?_
      refine na_calli (As := []) (rest := []) (wc := [(h0, .inr (0, [.ref a1, .ref a2, .ref a3, .ref a4, .int (nI n), .int (nI K), .int lc, .int (nI rr), .int ml, .int lo])), (a1, .inl (cA, 2000, .inl f1)), (a2, .inl (cA, 2000, .inl f2)), (a3, .inl (cA, 2000, .inl f3)), (a4, .inl (cA, 2000, .inl f4))]) (wr := [(h1, .inr (1, [.ref b1, .ref b2, .ref b3, .ref b4, .ref b5, .int (nI n), .int (nI K), .int (nI rr), .int ml, .int lo])), (b1, .inl (cA, 2000, .inl g1)), (b2, .inl (cA, 2000, .inl g2)), (b3, .inl (cZ, 2000, .inl g3)), (b4, .inl (cA, 2001, .inl g4)), (b5, .inl (cA, 2000, .inl g5))]) (ci := 0) ⟨hx, hb, hml, hown, hts⟩ (c_lay l dC dI cA h0 a1 a2 a3 a4 H.size f1 f2 f3 f4 n K rr br b tg mi lc ml lo hXr hO hrr) (cwV 0 hts gL_law_X0_lay rfl rfl rfl (by decide +kernel) ⟨Nat.le_of_ble_eq_true rfl, Nat.le_of_ble_eq_true rfl⟩) hKX hP hD hS hA [0, 1, 2, 3, 4] [5, 6, 7, 8, 9, 10] rfl rfl rfl rfl (by decide) rfl rfl 0 rfl rfl hl.1 (Nat.le_of_ble_eq_true rfl) dL_law_179 hroom rfl (fun r1 u1 H locs hw1 hP hD hS => ?_)
      have hP : va_P (dC, dI) vwCl [(h1, .inr (1, [.ref b1, .ref b2, .ref b3, .ref b4, .ref b5, .int (nI n), .int (nI K), .int (nI rr), .int ml, .int lo])), (b1, .inl (cA, 2000, .inl g1)), (b2, .inl (cA, 2000, .inl g2)), (b3, .inl (cZ, 2000, .inl g3)), (b4, .inl (cA, 2001, .inl g4)), (b5, .inl (cA, 2000, .inl g5)), (h0, .inr (0, [.ref a1, .ref a2, .ref a3, .ref a4, .int (nI n), .int (nI K), .int u1.2.2.1, .int (nI rr), .int u1.2.2.2.1, .int u1.2.2.2.2])), (a1, .inl (cA, 2000, .inl u1.1)), (a2, .inl (cA, 2000, .inl f2)), (a3, .inl (cA, 2000, .inl u1.2.1)), (a4, .inl (cA, 2000, .inl f4))] H := hP
      have hD : va_D A [(h1, .inr (1, [.ref b1, .ref b2, .ref b3, .ref b4, .ref b5, .int (nI n), .int (nI K), .int (nI rr), .int ml, .int lo])), (b1, .inl (cA, 2000, .inl g1)), (b2, .inl (cA, 2000, .inl g2)), (b3, .inl (cZ, 2000, .inl g3)), (b4, .inl (cA, 2001, .inl g4)), (b5, .inl (cA, 2000, .inl g5)), (h0, .inr (0, [.ref a1, .ref a2, .ref a3, .ref a4, .int (nI n), .int (nI K), .int u1.2.2.1, .int (nI rr), .int u1.2.2.2.1, .int u1.2.2.2.2])), (a1, .inl (cA, 2000, .inl u1.1)), (a2, .inl (cA, 2000, .inl f2)), (a3, .inl (cA, 2000, .inl u1.2.1)), (a4, .inl (cA, 2000, .inl f4))] := hD
      obtain ⟨f1', f3', lc', ml', lo'⟩ := u1
      dsimp only at hP hD
      have hP : va_P (dC, dI) vwCl [(h1, .inr (1, [.ref b1, .ref b2, .ref b3, .ref b4, .ref b5, .int (nI n), .int (nI K), .int (nI rr), .int ml, .int lo])), (b1, .inl (cA, 2000, .inl g1)), (b2, .inl (cA, 2000, .inl g2)), (b3, .inl (cZ, 2000, .inl g3)), (b4, .inl (cA, 2001, .inl g4)), (b5, .inl (cA, 2000, .inl g5)), (h0, .inr (0, [.ref a1, .ref a2, .ref a3, .ref a4, .int (nI n), .int (nI K), .int lc', .int (nI rr), .int ml', .int lo'])), (a1, .inl (cA, 2000, .inl f1')), (a2, .inl (cA, 2000, .inl f2)), (a3, .inl (cA, 2000, .inl f3')), (a4, .inl (cA, 2000, .inl f4))] H := hP
      have hD : va_D A [(h1, .inr (1, [.ref b1, .ref b2, .ref b3, .ref b4, .ref b5, .int (nI n), .int (nI K), .int (nI rr), .int ml, .int lo])), (b1, .inl (cA, 2000, .inl g1)), (b2, .inl (cA, 2000, .inl g2)), (b3, .inl (cZ, 2000, .inl g3)), (b4, .inl (cA, 2001, .inl g4)), (b5, .inl (cA, 2000, .inl g5)), (h0, .inr (0, [.ref a1, .ref a2, .ref a3, .ref a4, .int (nI n), .int (nI K), .int lc', .int (nI rr), .int ml', .int lo'])), (a1, .inl (cA, 2000, .inl f1')), (a2, .inl (cA, 2000, .inl f2)), (a3, .inl (cA, 2000, .inl f3')), (a4, .inl (cA, 2000, .inl f4))] := hD
      refine lv_aload_n hx hb dL_law_182 rfl (lv_at hl 2 rfl) ?_
      refine na_calli (As := []) (rest := [.int r1]) (wc := [(h1, .inr (1, [.ref b1, .ref b2, .ref b3, .ref b4, .ref b5, .int (nI n), .int (nI K), .int (nI rr), .int ml, .int lo])), (b1, .inl (cA, 2000, .inl g1)), (b2, .inl (cA, 2000, .inl g2)), (b3, .inl (cZ, 2000, .inl g3)), (b4, .inl (cA, 2001, .inl g4)), (b5, .inl (cA, 2000, .inl g5))]) (wr := [(h0, .inr (0, [.ref a1, .ref a2, .ref a3, .ref a4, .int (nI n), .int (nI K), .int lc', .int (nI rr), .int ml', .int lo'])), (a1, .inl (cA, 2000, .inl f1')), (a2, .inl (cA, 2000, .inl f2)), (a3, .inl (cA, 2000, .inl f3')), (a4, .inl (cA, 2000, .inl f4))]) (ci := 1) ⟨hx, hb, hml, hown, hts⟩ (m_lay l dC dI cA cZ h1 b1 b2 b3 b4 b5 H.size g1 g2 g3 g4 g5 n K rr br b tg mi ml lo hMr hO hrr) (cwV 0 hts gL_law_X1_lay rfl rfl rfl (by decide +kernel) ⟨Nat.le_of_ble_eq_true rfl, Nat.le_of_ble_eq_true rfl⟩) hK hP hD hS hA [0, 1, 2, 3, 4, 5] [6, 7, 8, 9, 10] rfl rfl rfl rfl (by decide) rfl rfl 0 rfl rfl hl.1 (Nat.le_of_ble_eq_true rfl) dL_law_183 hroom rfl (fun r2 u2 H locs hw2 hP hD hS => ?_)
      have hP : va_P (dC, dI) vwCl [(h0, .inr (0, [.ref a1, .ref a2, .ref a3, .ref a4, .int (nI n), .int (nI K), .int lc', .int (nI rr), .int ml', .int lo'])), (a1, .inl (cA, 2000, .inl f1')), (a2, .inl (cA, 2000, .inl f2)), (a3, .inl (cA, 2000, .inl f3')), (a4, .inl (cA, 2000, .inl f4)), (h1, .inr (1, [.ref b1, .ref b2, .ref b3, .ref b4, .ref b5, .int (nI n), .int (nI K), .int (nI rr), .int u2.2.2.1, .int u2.2.2.2])), (b1, .inl (cA, 2000, .inl g1)), (b2, .inl (cA, 2000, .inl g2)), (b3, .inl (cZ, 2000, .inl u2.1)), (b4, .inl (cA, 2001, .inl u2.2.1)), (b5, .inl (cA, 2000, .inl g5))] H := hP
      have hD : va_D A [(h0, .inr (0, [.ref a1, .ref a2, .ref a3, .ref a4, .int (nI n), .int (nI K), .int lc', .int (nI rr), .int ml', .int lo'])), (a1, .inl (cA, 2000, .inl f1')), (a2, .inl (cA, 2000, .inl f2)), (a3, .inl (cA, 2000, .inl f3')), (a4, .inl (cA, 2000, .inl f4)), (h1, .inr (1, [.ref b1, .ref b2, .ref b3, .ref b4, .ref b5, .int (nI n), .int (nI K), .int (nI rr), .int u2.2.2.1, .int u2.2.2.2])), (b1, .inl (cA, 2000, .inl g1)), (b2, .inl (cA, 2000, .inl g2)), (b3, .inl (cZ, 2000, .inl u2.1)), (b4, .inl (cA, 2001, .inl u2.2.1)), (b5, .inl (cA, 2000, .inl g5))] := hD
      obtain ⟨g3', g4', le', la'⟩ := u2
      dsimp only at hP hD
      obtain ⟨hq1, hq2, hq3, hI8⟩ := inv_lay (lc := lc) hO hXr hMr hrr hw1 hw2
      subst hq2
      subst hq3
      have hP : va_P (dC, dI) vwCl [(h0, .inr (0, [.ref a1, .ref a2, .ref a3, .ref a4, .int (nI n), .int (nI K), .int lc', .int (nI rr), .int le', .int la'])), (a1, .inl (cA, 2000, .inl f1')), (a2, .inl (cA, 2000, .inl f2)), (a3, .inl (cA, 2000, .inl f3')), (a4, .inl (cA, 2000, .inl f4)), (h1, .inr (1, [.ref b1, .ref b2, .ref b3, .ref b4, .ref b5, .int (nI n), .int (nI K), .int (nI rr), .int le', .int la'])), (b1, .inl (cA, 2000, .inl g1)), (b2, .inl (cA, 2000, .inl g2)), (b3, .inl (cZ, 2000, .inl g3')), (b4, .inl (cA, 2001, .inl g4')), (b5, .inl (cA, 2000, .inl g5))] H := hP
      have hD : va_D A [(h0, .inr (0, [.ref a1, .ref a2, .ref a3, .ref a4, .int (nI n), .int (nI K), .int lc', .int (nI rr), .int le', .int la'])), (a1, .inl (cA, 2000, .inl f1')), (a2, .inl (cA, 2000, .inl f2)), (a3, .inl (cA, 2000, .inl f3')), (a4, .inl (cA, 2000, .inl f4)), (h1, .inr (1, [.ref b1, .ref b2, .ref b3, .ref b4, .ref b5, .int (nI n), .int (nI K), .int (nI rr), .int le', .int la'])), (b1, .inl (cA, 2000, .inl g1)), (b2, .inl (cA, 2000, .inl g2)), (b3, .inl (cZ, 2000, .inl g3')), (b4, .inl (cA, 2001, .inl g4')), (b5, .inl (cA, 2000, .inl g5))] := hD
      refine lv_icmp_eq (tgt := 300) hx hb dL_law_186 (by decide) (fun hcE => ?_) (fun hcE => ?_)
      · refine lv_iinc (v := nI (i + 2)) (lv' := [(3, .int (nI (i + 2))), (0, .ref ba), (1, .ref h0), (2, .ref h1)]) hx hb dL_law_300 hl (k := 3) rfl (show nI i + nI 2 = nI (i + 2) from nI_add i 2) (by decide) rfl (fun ls hl => ?_)
        refine lv_goto (tgt := 18) hx hb dL_law_303 (by decide) ?_
        exact ih (L - (i + 2)) (i + 2) _ _ _ (by omega) ⟨f1', f2, f3', f4, g1, g2, g3', g4', g5, n, K, rr, lc', le', la', ⟨by omega, by omega, rfl, hI8⟩, hP, hD, hS, lv_sub hl [1, 2, 3, 0] rfl⟩
      · exact absurd (hq1) hcE
    · refine lv_tableIn (off := 159) (tgt := 191) hx hb dL_law_32 (by decide) (by decide) (by decide) (by decide) ?_
      refine lv_aload_n hx hb dL_law_191 rfl (lv_at hl 1 rfl) ?_
      refine na_calli (As := []) (rest := []) (wc := [(h0, .inr (0, [.ref a1, .ref a2, .ref a3, .ref a4, .int (nI n), .int (nI K), .int lc, .int (nI rr), .int ml, .int lo])), (a1, .inl (cA, 2000, .inl f1)), (a2, .inl (cA, 2000, .inl f2)), (a3, .inl (cA, 2000, .inl f3)), (a4, .inl (cA, 2000, .inl f4))]) (wr := [(h1, .inr (1, [.ref b1, .ref b2, .ref b3, .ref b4, .ref b5, .int (nI n), .int (nI K), .int (nI rr), .int ml, .int lo])), (b1, .inl (cA, 2000, .inl g1)), (b2, .inl (cA, 2000, .inl g2)), (b3, .inl (cZ, 2000, .inl g3)), (b4, .inl (cA, 2001, .inl g4)), (b5, .inl (cA, 2000, .inl g5))]) (ci := 0) ⟨hx, hb, hml, hown, hts⟩ (c_least l dC dI cA h0 a1 a2 a3 a4 H.size f1 f2 f3 f4 n (nI K) lc (nI rr) ml lo) (cwV 0 hts gL_law_X0_least rfl rfl rfl (by decide +kernel) ⟨Nat.le_of_ble_eq_true rfl, Nat.le_of_ble_eq_true rfl⟩) hKX hP hD hS hA [0, 1, 2, 3, 4] [5, 6, 7, 8, 9, 10] rfl rfl rfl rfl (by decide) rfl rfl 0 rfl rfl hl.1 (Nat.le_of_ble_eq_true rfl) dL_law_192 hroom rfl (fun r1 u1 H locs hw1 hP hD hS => ?_)
      have hP : va_P (dC, dI) vwCl [(h1, .inr (1, [.ref b1, .ref b2, .ref b3, .ref b4, .ref b5, .int (nI n), .int (nI K), .int (nI rr), .int ml, .int lo])), (b1, .inl (cA, 2000, .inl g1)), (b2, .inl (cA, 2000, .inl g2)), (b3, .inl (cZ, 2000, .inl g3)), (b4, .inl (cA, 2001, .inl g4)), (b5, .inl (cA, 2000, .inl g5)), (h0, .inr (0, [.ref a1, .ref a2, .ref a3, .ref a4, .int (nI n), .int (nI K), .int lc, .int (nI rr), .int ml, .int lo])), (a1, .inl (cA, 2000, .inl f1)), (a2, .inl (cA, 2000, .inl f2)), (a3, .inl (cA, 2000, .inl f3)), (a4, .inl (cA, 2000, .inl f4))] H := hP
      have hD : va_D A [(h1, .inr (1, [.ref b1, .ref b2, .ref b3, .ref b4, .ref b5, .int (nI n), .int (nI K), .int (nI rr), .int ml, .int lo])), (b1, .inl (cA, 2000, .inl g1)), (b2, .inl (cA, 2000, .inl g2)), (b3, .inl (cZ, 2000, .inl g3)), (b4, .inl (cA, 2001, .inl g4)), (b5, .inl (cA, 2000, .inl g5)), (h0, .inr (0, [.ref a1, .ref a2, .ref a3, .ref a4, .int (nI n), .int (nI K), .int lc, .int (nI rr), .int ml, .int lo])), (a1, .inl (cA, 2000, .inl f1)), (a2, .inl (cA, 2000, .inl f2)), (a3, .inl (cA, 2000, .inl f3)), (a4, .inl (cA, 2000, .inl f4))] := hD
      refine lv_aload_n hx hb dL_law_195 rfl (lv_at hl 2 rfl) ?_
      refine na_calli (As := []) (rest := [.int r1]) (wc := [(h1, .inr (1, [.ref b1, .ref b2, .ref b3, .ref b4, .ref b5, .int (nI n), .int (nI K), .int (nI rr), .int ml, .int lo])), (b1, .inl (cA, 2000, .inl g1)), (b2, .inl (cA, 2000, .inl g2)), (b3, .inl (cZ, 2000, .inl g3)), (b4, .inl (cA, 2001, .inl g4)), (b5, .inl (cA, 2000, .inl g5))]) (wr := [(h0, .inr (0, [.ref a1, .ref a2, .ref a3, .ref a4, .int (nI n), .int (nI K), .int lc, .int (nI rr), .int ml, .int lo])), (a1, .inl (cA, 2000, .inl f1)), (a2, .inl (cA, 2000, .inl f2)), (a3, .inl (cA, 2000, .inl f3)), (a4, .inl (cA, 2000, .inl f4))]) (ci := 1) ⟨hx, hb, hml, hown, hts⟩ (m_least l dC dI cA cZ h1 b1 b2 b3 b4 b5 H.size g1 g2 g3 g4 g5 n (nI K) (nI rr) ml lo) (cwV 0 hts gL_law_X1_least rfl rfl rfl (by decide +kernel) ⟨Nat.le_of_ble_eq_true rfl, Nat.le_of_ble_eq_true rfl⟩) hK hP hD hS hA [0, 1, 2, 3, 4, 5] [6, 7, 8, 9, 10] rfl rfl rfl rfl (by decide) rfl rfl 0 rfl rfl hl.1 (Nat.le_of_ble_eq_true rfl) dL_law_196 hroom rfl (fun r2 u2 H locs hw2 hP hD hS => ?_)
      have hP : va_P (dC, dI) vwCl [(h0, .inr (0, [.ref a1, .ref a2, .ref a3, .ref a4, .int (nI n), .int (nI K), .int lc, .int (nI rr), .int ml, .int lo])), (a1, .inl (cA, 2000, .inl f1)), (a2, .inl (cA, 2000, .inl f2)), (a3, .inl (cA, 2000, .inl f3)), (a4, .inl (cA, 2000, .inl f4)), (h1, .inr (1, [.ref b1, .ref b2, .ref b3, .ref b4, .ref b5, .int (nI n), .int (nI K), .int (nI rr), .int ml, .int lo])), (b1, .inl (cA, 2000, .inl g1)), (b2, .inl (cA, 2000, .inl g2)), (b3, .inl (cZ, 2000, .inl g3)), (b4, .inl (cA, 2001, .inl g4)), (b5, .inl (cA, 2000, .inl g5))] H := hP
      have hD : va_D A [(h0, .inr (0, [.ref a1, .ref a2, .ref a3, .ref a4, .int (nI n), .int (nI K), .int lc, .int (nI rr), .int ml, .int lo])), (a1, .inl (cA, 2000, .inl f1)), (a2, .inl (cA, 2000, .inl f2)), (a3, .inl (cA, 2000, .inl f3)), (a4, .inl (cA, 2000, .inl f4)), (h1, .inr (1, [.ref b1, .ref b2, .ref b3, .ref b4, .ref b5, .int (nI n), .int (nI K), .int (nI rr), .int ml, .int lo])), (b1, .inl (cA, 2000, .inl g1)), (b2, .inl (cA, 2000, .inl g2)), (b3, .inl (cZ, 2000, .inl g3)), (b4, .inl (cA, 2001, .inl g4)), (b5, .inl (cA, 2000, .inl g5))] := hD
      refine lv_icmp_eq (tgt := 300) hx hb dL_law_199 (by decide) (fun hcE => ?_) (fun hcE => ?_)
      · refine lv_iinc (v := nI (i + 2)) (lv' := [(3, .int (nI (i + 2))), (0, .ref ba), (1, .ref h0), (2, .ref h1)]) hx hb dL_law_300 hl (k := 3) rfl (show nI i + nI 2 = nI (i + 2) from nI_add i 2) (by decide) rfl (fun ls hl => ?_)
        refine lv_goto (tgt := 18) hx hb dL_law_303 (by decide) ?_
        exact ih (L - (i + 2)) (i + 2) _ _ _ (by omega) ⟨f1, f2, f3, f4, g1, g2, g3, g4, g5, n, K, rr, lc, ml, lo, ⟨by omega, by omega, rfl, hI9⟩, hP, hD, hS, lv_sub hl [1, 2, 3, 0] rfl⟩
      · exact absurd (hw1.trans hw2.symm) hcE
    · refine lv_tableIn (off := 172) (tgt := 204) hx hb dL_law_32 (by decide) (by decide) (by decide) (by decide) ?_
      by_cases hp : lo = 0 ∨ (xs (i + 1)) < 0 ∨ nI n ≤ (xs (i + 1))
      · refine lv_aload_n hx hb dL_law_204 rfl (lv_at hl 1 rfl) ?_
        refine lv_aload_n hx hb dL_law_205 rfl (lv_at hl 0 rfl) ?_
        refine lv_iload_n hx hb dL_law_206 rfl (lv_at hl 3 rfl) ?_
        refine lv_iconst (v := 1) hx hb dL_law_207 (by decide) ?_
        refine lv_iadd hx hb dL_law_208 ?_
        refine na_eqi (y := nI (i + 1)) (nI_1 i) ?_
        refine na_sld (k := (i + 1)) hx hb hX hbl hbA hS (by omega) (by omega) dL_law_209 ?_
        refine na_calli (As := [.int (xs (i + 1))]) (rest := []) (wc := [(h0, .inr (0, [.ref a1, .ref a2, .ref a3, .ref a4, .int (nI n), .int (nI K), .int lc, .int (nI rr), .int ml, .int lo])), (a1, .inl (cA, 2000, .inl f1)), (a2, .inl (cA, 2000, .inl f2)), (a3, .inl (cA, 2000, .inl f3)), (a4, .inl (cA, 2000, .inl f4))]) (wr := [(h1, .inr (1, [.ref b1, .ref b2, .ref b3, .ref b4, .ref b5, .int (nI n), .int (nI K), .int (nI rr), .int ml, .int lo])), (b1, .inl (cA, 2000, .inl g1)), (b2, .inl (cA, 2000, .inl g2)), (b3, .inl (cZ, 2000, .inl g3)), (b4, .inl (cA, 2001, .inl g4)), (b5, .inl (cA, 2000, .inl g5))]) (ci := 0) ⟨hx, hb, hml, hown, hts⟩ (c_place_out l dC dI cA h0 a1 a2 a3 a4 H.size f1 f2 f3 f4 n (nI K) lc (nI rr) ml lo (xs (i + 1)) hp) (cwV 1 hts gL_law_X0_place rfl rfl rfl (by decide +kernel) ⟨Nat.le_of_ble_eq_true rfl, Nat.le_of_ble_eq_true rfl⟩) hKX hP hD hS hA [0, 1, 2, 3, 4] [5, 6, 7, 8, 9, 10] rfl rfl rfl rfl (by decide) rfl rfl 0 rfl rfl hl.1 (Nat.le_of_ble_eq_true rfl) dL_law_210 hroom rfl (fun r1 u1 H locs hw1 hP hD hS => ?_)
        have hP : va_P (dC, dI) vwCl [(h1, .inr (1, [.ref b1, .ref b2, .ref b3, .ref b4, .ref b5, .int (nI n), .int (nI K), .int (nI rr), .int ml, .int lo])), (b1, .inl (cA, 2000, .inl g1)), (b2, .inl (cA, 2000, .inl g2)), (b3, .inl (cZ, 2000, .inl g3)), (b4, .inl (cA, 2001, .inl g4)), (b5, .inl (cA, 2000, .inl g5)), (h0, .inr (0, [.ref a1, .ref a2, .ref a3, .ref a4, .int (nI n), .int (nI K), .int lc, .int (nI rr), .int ml, .int lo])), (a1, .inl (cA, 2000, .inl f1)), (a2, .inl (cA, 2000, .inl f2)), (a3, .inl (cA, 2000, .inl f3)), (a4, .inl (cA, 2000, .inl f4))] H := hP
        have hD : va_D A [(h1, .inr (1, [.ref b1, .ref b2, .ref b3, .ref b4, .ref b5, .int (nI n), .int (nI K), .int (nI rr), .int ml, .int lo])), (b1, .inl (cA, 2000, .inl g1)), (b2, .inl (cA, 2000, .inl g2)), (b3, .inl (cZ, 2000, .inl g3)), (b4, .inl (cA, 2001, .inl g4)), (b5, .inl (cA, 2000, .inl g5)), (h0, .inr (0, [.ref a1, .ref a2, .ref a3, .ref a4, .int (nI n), .int (nI K), .int lc, .int (nI rr), .int ml, .int lo])), (a1, .inl (cA, 2000, .inl f1)), (a2, .inl (cA, 2000, .inl f2)), (a3, .inl (cA, 2000, .inl f3)), (a4, .inl (cA, 2000, .inl f4))] := hD
        subst hw1
        refine lv_aload_n hx hb dL_law_213 rfl (lv_at hl 2 rfl) ?_
        refine lv_aload_n hx hb dL_law_214 rfl (lv_at hl 0 rfl) ?_
        refine lv_iload_n hx hb dL_law_215 rfl (lv_at hl 3 rfl) ?_
        refine lv_iconst (v := 1) hx hb dL_law_216 (by decide) ?_
        refine lv_iadd hx hb dL_law_217 ?_
        refine na_eqi (y := nI (i + 1)) (nI_1 i) ?_
        refine na_sld (k := (i + 1)) hx hb hX hbl hbA hS (by omega) (by omega) dL_law_218 ?_
        refine na_calli (As := [.int (xs (i + 1))]) (rest := [.int (-1)]) (wc := [(h1, .inr (1, [.ref b1, .ref b2, .ref b3, .ref b4, .ref b5, .int (nI n), .int (nI K), .int (nI rr), .int ml, .int lo])), (b1, .inl (cA, 2000, .inl g1)), (b2, .inl (cA, 2000, .inl g2)), (b3, .inl (cZ, 2000, .inl g3)), (b4, .inl (cA, 2001, .inl g4)), (b5, .inl (cA, 2000, .inl g5))]) (wr := [(h0, .inr (0, [.ref a1, .ref a2, .ref a3, .ref a4, .int (nI n), .int (nI K), .int lc, .int (nI rr), .int ml, .int lo])), (a1, .inl (cA, 2000, .inl f1)), (a2, .inl (cA, 2000, .inl f2)), (a3, .inl (cA, 2000, .inl f3)), (a4, .inl (cA, 2000, .inl f4))]) (ci := 1) ⟨hx, hb, hml, hown, hts⟩ (m_place_out l dC dI cA cZ h1 b1 b2 b3 b4 b5 H.size g1 g2 g3 g4 g5 n (nI K) (nI rr) ml lo (xs (i + 1)) hp) (cwV 1 hts gL_law_X1_place rfl rfl rfl (by decide +kernel) ⟨Nat.le_of_ble_eq_true rfl, Nat.le_of_ble_eq_true rfl⟩) hK hP hD hS hA [0, 1, 2, 3, 4, 5] [6, 7, 8, 9, 10] rfl rfl rfl rfl (by decide) rfl rfl 0 rfl rfl hl.1 (Nat.le_of_ble_eq_true rfl) dL_law_219 hroom rfl (fun r2 u2 H locs hw2 hP hD hS => ?_)
        have hP : va_P (dC, dI) vwCl [(h0, .inr (0, [.ref a1, .ref a2, .ref a3, .ref a4, .int (nI n), .int (nI K), .int lc, .int (nI rr), .int ml, .int lo])), (a1, .inl (cA, 2000, .inl f1)), (a2, .inl (cA, 2000, .inl f2)), (a3, .inl (cA, 2000, .inl f3)), (a4, .inl (cA, 2000, .inl f4)), (h1, .inr (1, [.ref b1, .ref b2, .ref b3, .ref b4, .ref b5, .int (nI n), .int (nI K), .int (nI rr), .int ml, .int lo])), (b1, .inl (cA, 2000, .inl g1)), (b2, .inl (cA, 2000, .inl g2)), (b3, .inl (cZ, 2000, .inl g3)), (b4, .inl (cA, 2001, .inl g4)), (b5, .inl (cA, 2000, .inl g5))] H := hP
        have hD : va_D A [(h0, .inr (0, [.ref a1, .ref a2, .ref a3, .ref a4, .int (nI n), .int (nI K), .int lc, .int (nI rr), .int ml, .int lo])), (a1, .inl (cA, 2000, .inl f1)), (a2, .inl (cA, 2000, .inl f2)), (a3, .inl (cA, 2000, .inl f3)), (a4, .inl (cA, 2000, .inl f4)), (h1, .inr (1, [.ref b1, .ref b2, .ref b3, .ref b4, .ref b5, .int (nI n), .int (nI K), .int (nI rr), .int ml, .int lo])), (b1, .inl (cA, 2000, .inl g1)), (b2, .inl (cA, 2000, .inl g2)), (b3, .inl (cZ, 2000, .inl g3)), (b4, .inl (cA, 2001, .inl g4)), (b5, .inl (cA, 2000, .inl g5))] := hD
        subst hw2
        refine lv_icmp_eq (tgt := 300) hx hb dL_law_222 (by decide) (fun hcE => ?_) (fun hcE => ?_)
        · refine lv_iinc (v := nI (i + 2)) (lv' := [(3, .int (nI (i + 2))), (0, .ref ba), (1, .ref h0), (2, .ref h1)]) hx hb dL_law_300 hl (k := 3) rfl (show nI i + nI 2 = nI (i + 2) from nI_add i 2) (by decide) rfl (fun ls hl => ?_)
          refine lv_goto (tgt := 18) hx hb dL_law_303 (by decide) ?_
          exact ih (L - (i + 2)) (i + 2) _ _ _ (by omega) ⟨f1, f2, f3, f4, g1, g2, g3, g4, g5, n, K, rr, lc, ml, lo, ⟨by omega, by omega, rfl, hI9⟩, hP, hD, hS, lv_sub hl [1, 2, 3, 0] rfl⟩
        · exact absurd (rfl) hcE
      · have hlo : ¬ lo = 0 := fun q => hp (Or.inl q)
        obtain ⟨k, hk, ek⟩ : ∃ k : Nat, k < n ∧ (xs (i + 1)) = nI k := by
          rcases pk_ix (xs (i + 1)) (n := n) (by omega) with q | q | q
          · exact absurd (Or.inr (Or.inl q)) hp
          · exact absurd (Or.inr (Or.inr q)) hp
          · exact q
        refine lv_aload_n hx hb dL_law_204 rfl (lv_at hl 1 rfl) ?_
        refine lv_aload_n hx hb dL_law_205 rfl (lv_at hl 0 rfl) ?_
        refine lv_iload_n hx hb dL_law_206 rfl (lv_at hl 3 rfl) ?_
        refine lv_iconst (v := 1) hx hb dL_law_207 (by decide) ?_
        refine lv_iadd hx hb dL_law_208 ?_
        refine na_eqi (y := nI (i + 1)) (nI_1 i) ?_
        refine na_sld (k := (i + 1)) hx hb hX hbl hbA hS (by omega) (by omega) dL_law_209 ?_
        refine na_eqi (y := nI k) (ek) ?_
        refine na_calli (As := [.int (nI k)]) (rest := []) (wc := [(h0, .inr (0, [.ref a1, .ref a2, .ref a3, .ref a4, .int (nI n), .int (nI K), .int lc, .int (nI rr), .int ml, .int lo])), (a1, .inl (cA, 2000, .inl f1)), (a2, .inl (cA, 2000, .inl f2)), (a3, .inl (cA, 2000, .inl f3)), (a4, .inl (cA, 2000, .inl f4))]) (wr := [(h1, .inr (1, [.ref b1, .ref b2, .ref b3, .ref b4, .ref b5, .int (nI n), .int (nI K), .int (nI rr), .int ml, .int lo])), (b1, .inl (cA, 2000, .inl g1)), (b2, .inl (cA, 2000, .inl g2)), (b3, .inl (cZ, 2000, .inl g3)), (b4, .inl (cA, 2001, .inl g4)), (b5, .inl (cA, 2000, .inl g5))]) (ci := 0) ⟨hx, hb, hml, hown, hts⟩ (c_place_in l dC dI cA h0 a1 a2 a3 a4 H.size f1 f2 f3 f4 n k (nI K) lc (nI rr) ml lo hk (by omega) hlo) (cwV 1 hts gL_law_X0_place rfl rfl rfl (by decide +kernel) ⟨Nat.le_of_ble_eq_true rfl, Nat.le_of_ble_eq_true rfl⟩) hKX hP hD hS hA [0, 1, 2, 3, 4] [5, 6, 7, 8, 9, 10] rfl rfl rfl rfl (by decide) rfl rfl 0 rfl rfl hl.1 (Nat.le_of_ble_eq_true rfl) dL_law_210 hroom rfl (fun r1 u1 H locs hw1 hP hD hS => ?_)
        have hP : va_P (dC, dI) vwCl [(h1, .inr (1, [.ref b1, .ref b2, .ref b3, .ref b4, .ref b5, .int (nI n), .int (nI K), .int (nI rr), .int ml, .int lo])), (b1, .inl (cA, 2000, .inl g1)), (b2, .inl (cA, 2000, .inl g2)), (b3, .inl (cZ, 2000, .inl g3)), (b4, .inl (cA, 2001, .inl g4)), (b5, .inl (cA, 2000, .inl g5)), (h0, .inr (0, [.ref a1, .ref a2, .ref a3, .ref a4, .int (nI n), .int (nI K), .int lc, .int (nI rr), .int ml, .int lo])), (a1, .inl (cA, 2000, .inl f1)), (a2, .inl (cA, 2000, .inl f2)), (a3, .inl (cA, 2000, .inl f3)), (a4, .inl (cA, 2000, .inl f4))] H := hP
        have hD : va_D A [(h1, .inr (1, [.ref b1, .ref b2, .ref b3, .ref b4, .ref b5, .int (nI n), .int (nI K), .int (nI rr), .int ml, .int lo])), (b1, .inl (cA, 2000, .inl g1)), (b2, .inl (cA, 2000, .inl g2)), (b3, .inl (cZ, 2000, .inl g3)), (b4, .inl (cA, 2001, .inl g4)), (b5, .inl (cA, 2000, .inl g5)), (h0, .inr (0, [.ref a1, .ref a2, .ref a3, .ref a4, .int (nI n), .int (nI K), .int lc, .int (nI rr), .int ml, .int lo])), (a1, .inl (cA, 2000, .inl f1)), (a2, .inl (cA, 2000, .inl f2)), (a3, .inl (cA, 2000, .inl f3)), (a4, .inl (cA, 2000, .inl f4))] := hD
        refine lv_aload_n hx hb dL_law_213 rfl (lv_at hl 2 rfl) ?_
        refine lv_aload_n hx hb dL_law_214 rfl (lv_at hl 0 rfl) ?_
        refine lv_iload_n hx hb dL_law_215 rfl (lv_at hl 3 rfl) ?_
        refine lv_iconst (v := 1) hx hb dL_law_216 (by decide) ?_
        refine lv_iadd hx hb dL_law_217 ?_
        refine na_eqi (y := nI (i + 1)) (nI_1 i) ?_
        refine na_sld (k := (i + 1)) hx hb hX hbl hbA hS (by omega) (by omega) dL_law_218 ?_
        refine na_eqi (y := nI k) (ek) ?_
        refine na_calli (As := [.int (nI k)]) (rest := [.int r1]) (wc := [(h1, .inr (1, [.ref b1, .ref b2, .ref b3, .ref b4, .ref b5, .int (nI n), .int (nI K), .int (nI rr), .int ml, .int lo])), (b1, .inl (cA, 2000, .inl g1)), (b2, .inl (cA, 2000, .inl g2)), (b3, .inl (cZ, 2000, .inl g3)), (b4, .inl (cA, 2001, .inl g4)), (b5, .inl (cA, 2000, .inl g5))]) (wr := [(h0, .inr (0, [.ref a1, .ref a2, .ref a3, .ref a4, .int (nI n), .int (nI K), .int lc, .int (nI rr), .int ml, .int lo])), (a1, .inl (cA, 2000, .inl f1)), (a2, .inl (cA, 2000, .inl f2)), (a3, .inl (cA, 2000, .inl f3)), (a4, .inl (cA, 2000, .inl f4))]) (ci := 1) ⟨hx, hb, hml, hown, hts⟩ (m_place_in l dC dI cA cZ h1 b1 b2 b3 b4 b5 H.size g1 g2 g3 g4 g5 n k (nI K) (nI rr) ml lo hk (by omega) hlo) (cwV 1 hts gL_law_X1_place rfl rfl rfl (by decide +kernel) ⟨Nat.le_of_ble_eq_true rfl, Nat.le_of_ble_eq_true rfl⟩) hK hP hD hS hA [0, 1, 2, 3, 4, 5] [6, 7, 8, 9, 10] rfl rfl rfl rfl (by decide) rfl rfl 0 rfl rfl hl.1 (Nat.le_of_ble_eq_true rfl) dL_law_219 hroom rfl (fun r2 u2 H locs hw2 hP hD hS => ?_)
        have hP : va_P (dC, dI) vwCl [(h0, .inr (0, [.ref a1, .ref a2, .ref a3, .ref a4, .int (nI n), .int (nI K), .int lc, .int (nI rr), .int ml, .int lo])), (a1, .inl (cA, 2000, .inl f1)), (a2, .inl (cA, 2000, .inl f2)), (a3, .inl (cA, 2000, .inl f3)), (a4, .inl (cA, 2000, .inl f4)), (h1, .inr (1, [.ref b1, .ref b2, .ref b3, .ref b4, .ref b5, .int (nI n), .int (nI K), .int (nI rr), .int ml, .int lo])), (b1, .inl (cA, 2000, .inl g1)), (b2, .inl (cA, 2000, .inl g2)), (b3, .inl (cZ, 2000, .inl g3)), (b4, .inl (cA, 2001, .inl g4)), (b5, .inl (cA, 2000, .inl g5))] H := hP
        have hD : va_D A [(h0, .inr (0, [.ref a1, .ref a2, .ref a3, .ref a4, .int (nI n), .int (nI K), .int lc, .int (nI rr), .int ml, .int lo])), (a1, .inl (cA, 2000, .inl f1)), (a2, .inl (cA, 2000, .inl f2)), (a3, .inl (cA, 2000, .inl f3)), (a4, .inl (cA, 2000, .inl f4)), (h1, .inr (1, [.ref b1, .ref b2, .ref b3, .ref b4, .ref b5, .int (nI n), .int (nI K), .int (nI rr), .int ml, .int lo])), (b1, .inl (cA, 2000, .inl g1)), (b2, .inl (cA, 2000, .inl g2)), (b3, .inl (cZ, 2000, .inl g3)), (b4, .inl (cA, 2001, .inl g4)), (b5, .inl (cA, 2000, .inl g5))] := hD
        refine lv_icmp_eq (tgt := 300) hx hb dL_law_222 (by decide) (fun hcE => ?_) (fun hcE => ?_)
        · refine lv_iinc (v := nI (i + 2)) (lv' := [(3, .int (nI (i + 2))), (0, .ref ba), (1, .ref h0), (2, .ref h1)]) hx hb dL_law_300 hl (k := 3) rfl (show nI i + nI 2 = nI (i + 2) from nI_add i 2) (by decide) rfl (fun ls hl => ?_)
          refine lv_goto (tgt := 18) hx hb dL_law_303 (by decide) ?_
          exact ih (L - (i + 2)) (i + 2) _ _ _ (by omega) ⟨f1, f2, f3, f4, g1, g2, g3, g4, g5, n, K, rr, lc, ml, lo, ⟨by omega, by omega, rfl, hI9⟩, hP, hD, hS, lv_sub hl [1, 2, 3, 0] rfl⟩
        · exact absurd (hw1.trans ((inv_place hI9 hlo hk).trans hw2.symm)) hcE
    · refine lv_tableIn (off := 195) (tgt := 227) hx hb dL_law_32 (by decide) (by decide) (by decide) (by decide) ?_
      by_cases hp : lo = 0 ∨ (xs (i + 1)) < 0 ∨ nI n ≤ (xs (i + 1))
      · refine lv_aload_n hx hb dL_law_227 rfl (lv_at hl 1 rfl) ?_
        refine lv_aload_n hx hb dL_law_228 rfl (lv_at hl 0 rfl) ?_
        refine lv_iload_n hx hb dL_law_229 rfl (lv_at hl 3 rfl) ?_
        refine lv_iconst (v := 1) hx hb dL_law_230 (by decide) ?_
        refine lv_iadd hx hb dL_law_231 ?_
        refine na_eqi (y := nI (i + 1)) (nI_1 i) ?_
        refine na_sld (k := (i + 1)) hx hb hX hbl hbA hS (by omega) (by omega) dL_law_232 ?_
        refine na_calli (As := [.int (xs (i + 1))]) (rest := []) (wc := [(h0, .inr (0, [.ref a1, .ref a2, .ref a3, .ref a4, .int (nI n), .int (nI K), .int lc, .int (nI rr), .int ml, .int lo])), (a1, .inl (cA, 2000, .inl f1)), (a2, .inl (cA, 2000, .inl f2)), (a3, .inl (cA, 2000, .inl f3)), (a4, .inl (cA, 2000, .inl f4))]) (wr := [(h1, .inr (1, [.ref b1, .ref b2, .ref b3, .ref b4, .ref b5, .int (nI n), .int (nI K), .int (nI rr), .int ml, .int lo])), (b1, .inl (cA, 2000, .inl g1)), (b2, .inl (cA, 2000, .inl g2)), (b3, .inl (cZ, 2000, .inl g3)), (b4, .inl (cA, 2001, .inl g4)), (b5, .inl (cA, 2000, .inl g5))]) (ci := 0) ⟨hx, hb, hml, hown, hts⟩ (c_isLong_out l dC dI cA h0 a1 a2 a3 a4 H.size f1 f2 f3 f4 n (nI K) lc (nI rr) ml lo (xs (i + 1)) hp) (cwV 1 hts gL_law_X0_isLong rfl rfl rfl (by decide +kernel) ⟨Nat.le_of_ble_eq_true rfl, Nat.le_of_ble_eq_true rfl⟩) hKX hP hD hS hA [0, 1, 2, 3, 4] [5, 6, 7, 8, 9, 10] rfl rfl rfl rfl (by decide) rfl rfl 0 rfl rfl hl.1 (Nat.le_of_ble_eq_true rfl) dL_law_233 hroom rfl (fun r1 u1 H locs hw1 hP hD hS => ?_)
        have hP : va_P (dC, dI) vwCl [(h1, .inr (1, [.ref b1, .ref b2, .ref b3, .ref b4, .ref b5, .int (nI n), .int (nI K), .int (nI rr), .int ml, .int lo])), (b1, .inl (cA, 2000, .inl g1)), (b2, .inl (cA, 2000, .inl g2)), (b3, .inl (cZ, 2000, .inl g3)), (b4, .inl (cA, 2001, .inl g4)), (b5, .inl (cA, 2000, .inl g5)), (h0, .inr (0, [.ref a1, .ref a2, .ref a3, .ref a4, .int (nI n), .int (nI K), .int lc, .int (nI rr), .int ml, .int lo])), (a1, .inl (cA, 2000, .inl f1)), (a2, .inl (cA, 2000, .inl f2)), (a3, .inl (cA, 2000, .inl f3)), (a4, .inl (cA, 2000, .inl f4))] H := hP
        have hD : va_D A [(h1, .inr (1, [.ref b1, .ref b2, .ref b3, .ref b4, .ref b5, .int (nI n), .int (nI K), .int (nI rr), .int ml, .int lo])), (b1, .inl (cA, 2000, .inl g1)), (b2, .inl (cA, 2000, .inl g2)), (b3, .inl (cZ, 2000, .inl g3)), (b4, .inl (cA, 2001, .inl g4)), (b5, .inl (cA, 2000, .inl g5)), (h0, .inr (0, [.ref a1, .ref a2, .ref a3, .ref a4, .int (nI n), .int (nI K), .int lc, .int (nI rr), .int ml, .int lo])), (a1, .inl (cA, 2000, .inl f1)), (a2, .inl (cA, 2000, .inl f2)), (a3, .inl (cA, 2000, .inl f3)), (a4, .inl (cA, 2000, .inl f4))] := hD
        subst hw1
        refine lv_aload_n hx hb dL_law_236 rfl (lv_at hl 2 rfl) ?_
        refine lv_aload_n hx hb dL_law_237 rfl (lv_at hl 0 rfl) ?_
        refine lv_iload_n hx hb dL_law_238 rfl (lv_at hl 3 rfl) ?_
        refine lv_iconst (v := 1) hx hb dL_law_239 (by decide) ?_
        refine lv_iadd hx hb dL_law_240 ?_
        refine na_eqi (y := nI (i + 1)) (nI_1 i) ?_
        refine na_sld (k := (i + 1)) hx hb hX hbl hbA hS (by omega) (by omega) dL_law_241 ?_
        refine na_calli (As := [.int (xs (i + 1))]) (rest := [.int 0]) (wc := [(h1, .inr (1, [.ref b1, .ref b2, .ref b3, .ref b4, .ref b5, .int (nI n), .int (nI K), .int (nI rr), .int ml, .int lo])), (b1, .inl (cA, 2000, .inl g1)), (b2, .inl (cA, 2000, .inl g2)), (b3, .inl (cZ, 2000, .inl g3)), (b4, .inl (cA, 2001, .inl g4)), (b5, .inl (cA, 2000, .inl g5))]) (wr := [(h0, .inr (0, [.ref a1, .ref a2, .ref a3, .ref a4, .int (nI n), .int (nI K), .int lc, .int (nI rr), .int ml, .int lo])), (a1, .inl (cA, 2000, .inl f1)), (a2, .inl (cA, 2000, .inl f2)), (a3, .inl (cA, 2000, .inl f3)), (a4, .inl (cA, 2000, .inl f4))]) (ci := 1) ⟨hx, hb, hml, hown, hts⟩ (m_isLong_out l dC dI cA cZ h1 b1 b2 b3 b4 b5 H.size g1 g2 g3 g4 g5 n (nI K) (nI rr) ml lo (xs (i + 1)) hp) (cwV 1 hts gL_law_X1_isLong rfl rfl rfl (by decide +kernel) ⟨Nat.le_of_ble_eq_true rfl, Nat.le_of_ble_eq_true rfl⟩) hK hP hD hS hA [0, 1, 2, 3, 4, 5] [6, 7, 8, 9, 10] rfl rfl rfl rfl (by decide) rfl rfl 0 rfl rfl hl.1 (Nat.le_of_ble_eq_true rfl) dL_law_242 hroom rfl (fun r2 u2 H locs hw2 hP hD hS => ?_)
        have hP : va_P (dC, dI) vwCl [(h0, .inr (0, [.ref a1, .ref a2, .ref a3, .ref a4, .int (nI n), .int (nI K), .int lc, .int (nI rr), .int ml, .int lo])), (a1, .inl (cA, 2000, .inl f1)), (a2, .inl (cA, 2000, .inl f2)), (a3, .inl (cA, 2000, .inl f3)), (a4, .inl (cA, 2000, .inl f4)), (h1, .inr (1, [.ref b1, .ref b2, .ref b3, .ref b4, .ref b5, .int (nI n), .int (nI K), .int (nI rr), .int ml, .int lo])), (b1, .inl (cA, 2000, .inl g1)), (b2, .inl (cA, 2000, .inl g2)), (b3, .inl (cZ, 2000, .inl g3)), (b4, .inl (cA, 2001, .inl g4)), (b5, .inl (cA, 2000, .inl g5))] H := hP
        have hD : va_D A [(h0, .inr (0, [.ref a1, .ref a2, .ref a3, .ref a4, .int (nI n), .int (nI K), .int lc, .int (nI rr), .int ml, .int lo])), (a1, .inl (cA, 2000, .inl f1)), (a2, .inl (cA, 2000, .inl f2)), (a3, .inl (cA, 2000, .inl f3)), (a4, .inl (cA, 2000, .inl f4)), (h1, .inr (1, [.ref b1, .ref b2, .ref b3, .ref b4, .ref b5, .int (nI n), .int (nI K), .int (nI rr), .int ml, .int lo])), (b1, .inl (cA, 2000, .inl g1)), (b2, .inl (cA, 2000, .inl g2)), (b3, .inl (cZ, 2000, .inl g3)), (b4, .inl (cA, 2001, .inl g4)), (b5, .inl (cA, 2000, .inl g5))] := hD
        subst hw2
        refine lv_icmp_eq (tgt := 300) hx hb dL_law_245 (by decide) (fun hcE => ?_) (fun hcE => ?_)
        · refine lv_iinc (v := nI (i + 2)) (lv' := [(3, .int (nI (i + 2))), (0, .ref ba), (1, .ref h0), (2, .ref h1)]) hx hb dL_law_300 hl (k := 3) rfl (show nI i + nI 2 = nI (i + 2) from nI_add i 2) (by decide) rfl (fun ls hl => ?_)
          refine lv_goto (tgt := 18) hx hb dL_law_303 (by decide) ?_
          exact ih (L - (i + 2)) (i + 2) _ _ _ (by omega) ⟨f1, f2, f3, f4, g1, g2, g3, g4, g5, n, K, rr, lc, ml, lo, ⟨by omega, by omega, rfl, hI9⟩, hP, hD, hS, lv_sub hl [1, 2, 3, 0] rfl⟩
        · exact absurd (rfl) hcE
      · have hlo : ¬ lo = 0 := fun q => hp (Or.inl q)
        obtain ⟨k, hk, ek⟩ : ∃ k : Nat, k < n ∧ (xs (i + 1)) = nI k := by
          rcases pk_ix (xs (i + 1)) (n := n) (by omega) with q | q | q
          · exact absurd (Or.inr (Or.inl q)) hp
          · exact absurd (Or.inr (Or.inr q)) hp
          · exact q
        refine lv_aload_n hx hb dL_law_227 rfl (lv_at hl 1 rfl) ?_
        refine lv_aload_n hx hb dL_law_228 rfl (lv_at hl 0 rfl) ?_
        refine lv_iload_n hx hb dL_law_229 rfl (lv_at hl 3 rfl) ?_
        refine lv_iconst (v := 1) hx hb dL_law_230 (by decide) ?_
        refine lv_iadd hx hb dL_law_231 ?_
        refine na_eqi (y := nI (i + 1)) (nI_1 i) ?_
        refine na_sld (k := (i + 1)) hx hb hX hbl hbA hS (by omega) (by omega) dL_law_232 ?_
        refine na_eqi (y := nI k) (ek) ?_
        refine na_calli (As := [.int (nI k)]) (rest := []) (wc := [(h0, .inr (0, [.ref a1, .ref a2, .ref a3, .ref a4, .int (nI n), .int (nI K), .int lc, .int (nI rr), .int ml, .int lo])), (a1, .inl (cA, 2000, .inl f1)), (a2, .inl (cA, 2000, .inl f2)), (a3, .inl (cA, 2000, .inl f3)), (a4, .inl (cA, 2000, .inl f4))]) (wr := [(h1, .inr (1, [.ref b1, .ref b2, .ref b3, .ref b4, .ref b5, .int (nI n), .int (nI K), .int (nI rr), .int ml, .int lo])), (b1, .inl (cA, 2000, .inl g1)), (b2, .inl (cA, 2000, .inl g2)), (b3, .inl (cZ, 2000, .inl g3)), (b4, .inl (cA, 2001, .inl g4)), (b5, .inl (cA, 2000, .inl g5))]) (ci := 0) ⟨hx, hb, hml, hown, hts⟩ (c_isLong_in l dC dI cA h0 a1 a2 a3 a4 H.size f1 f2 f3 f4 n k (nI K) lc (nI rr) ml lo hk (by omega) hlo) (cwV 1 hts gL_law_X0_isLong rfl rfl rfl (by decide +kernel) ⟨Nat.le_of_ble_eq_true rfl, Nat.le_of_ble_eq_true rfl⟩) hKX hP hD hS hA [0, 1, 2, 3, 4] [5, 6, 7, 8, 9, 10] rfl rfl rfl rfl (by decide) rfl rfl 0 rfl rfl hl.1 (Nat.le_of_ble_eq_true rfl) dL_law_233 hroom rfl (fun r1 u1 H locs hw1 hP hD hS => ?_)
        have hP : va_P (dC, dI) vwCl [(h1, .inr (1, [.ref b1, .ref b2, .ref b3, .ref b4, .ref b5, .int (nI n), .int (nI K), .int (nI rr), .int ml, .int lo])), (b1, .inl (cA, 2000, .inl g1)), (b2, .inl (cA, 2000, .inl g2)), (b3, .inl (cZ, 2000, .inl g3)), (b4, .inl (cA, 2001, .inl g4)), (b5, .inl (cA, 2000, .inl g5)), (h0, .inr (0, [.ref a1, .ref a2, .ref a3, .ref a4, .int (nI n), .int (nI K), .int lc, .int (nI rr), .int ml, .int lo])), (a1, .inl (cA, 2000, .inl f1)), (a2, .inl (cA, 2000, .inl f2)), (a3, .inl (cA, 2000, .inl f3)), (a4, .inl (cA, 2000, .inl f4))] H := hP
        have hD : va_D A [(h1, .inr (1, [.ref b1, .ref b2, .ref b3, .ref b4, .ref b5, .int (nI n), .int (nI K), .int (nI rr), .int ml, .int lo])), (b1, .inl (cA, 2000, .inl g1)), (b2, .inl (cA, 2000, .inl g2)), (b3, .inl (cZ, 2000, .inl g3)), (b4, .inl (cA, 2001, .inl g4)), (b5, .inl (cA, 2000, .inl g5)), (h0, .inr (0, [.ref a1, .ref a2, .ref a3, .ref a4, .int (nI n), .int (nI K), .int lc, .int (nI rr), .int ml, .int lo])), (a1, .inl (cA, 2000, .inl f1)), (a2, .inl (cA, 2000, .inl f2)), (a3, .inl (cA, 2000, .inl f3)), (a4, .inl (cA, 2000, .inl f4))] := hD
        refine lv_aload_n hx hb dL_law_236 rfl (lv_at hl 2 rfl) ?_
        refine lv_aload_n hx hb dL_law_237 rfl (lv_at hl 0 rfl) ?_
        refine lv_iload_n hx hb dL_law_238 rfl (lv_at hl 3 rfl) ?_
        refine lv_iconst (v := 1) hx hb dL_law_239 (by decide) ?_
        refine lv_iadd hx hb dL_law_240 ?_
        refine na_eqi (y := nI (i + 1)) (nI_1 i) ?_
        refine na_sld (k := (i + 1)) hx hb hX hbl hbA hS (by omega) (by omega) dL_law_241 ?_
        refine na_eqi (y := nI k) (ek) ?_
        refine na_calli (As := [.int (nI k)]) (rest := [.int r1]) (wc := [(h1, .inr (1, [.ref b1, .ref b2, .ref b3, .ref b4, .ref b5, .int (nI n), .int (nI K), .int (nI rr), .int ml, .int lo])), (b1, .inl (cA, 2000, .inl g1)), (b2, .inl (cA, 2000, .inl g2)), (b3, .inl (cZ, 2000, .inl g3)), (b4, .inl (cA, 2001, .inl g4)), (b5, .inl (cA, 2000, .inl g5))]) (wr := [(h0, .inr (0, [.ref a1, .ref a2, .ref a3, .ref a4, .int (nI n), .int (nI K), .int lc, .int (nI rr), .int ml, .int lo])), (a1, .inl (cA, 2000, .inl f1)), (a2, .inl (cA, 2000, .inl f2)), (a3, .inl (cA, 2000, .inl f3)), (a4, .inl (cA, 2000, .inl f4))]) (ci := 1) ⟨hx, hb, hml, hown, hts⟩ (m_isLong_in l dC dI cA cZ h1 b1 b2 b3 b4 b5 H.size g1 g2 g3 g4 g5 n k (nI K) (nI rr) ml lo hk (by omega) hlo) (cwV 1 hts gL_law_X1_isLong rfl rfl rfl (by decide +kernel) ⟨Nat.le_of_ble_eq_true rfl, Nat.le_of_ble_eq_true rfl⟩) hK hP hD hS hA [0, 1, 2, 3, 4, 5] [6, 7, 8, 9, 10] rfl rfl rfl rfl (by decide) rfl rfl 0 rfl rfl hl.1 (Nat.le_of_ble_eq_true rfl) dL_law_242 hroom rfl (fun r2 u2 H locs hw2 hP hD hS => ?_)
        have hP : va_P (dC, dI) vwCl [(h0, .inr (0, [.ref a1, .ref a2, .ref a3, .ref a4, .int (nI n), .int (nI K), .int lc, .int (nI rr), .int ml, .int lo])), (a1, .inl (cA, 2000, .inl f1)), (a2, .inl (cA, 2000, .inl f2)), (a3, .inl (cA, 2000, .inl f3)), (a4, .inl (cA, 2000, .inl f4)), (h1, .inr (1, [.ref b1, .ref b2, .ref b3, .ref b4, .ref b5, .int (nI n), .int (nI K), .int (nI rr), .int ml, .int lo])), (b1, .inl (cA, 2000, .inl g1)), (b2, .inl (cA, 2000, .inl g2)), (b3, .inl (cZ, 2000, .inl g3)), (b4, .inl (cA, 2001, .inl g4)), (b5, .inl (cA, 2000, .inl g5))] H := hP
        have hD : va_D A [(h0, .inr (0, [.ref a1, .ref a2, .ref a3, .ref a4, .int (nI n), .int (nI K), .int lc, .int (nI rr), .int ml, .int lo])), (a1, .inl (cA, 2000, .inl f1)), (a2, .inl (cA, 2000, .inl f2)), (a3, .inl (cA, 2000, .inl f3)), (a4, .inl (cA, 2000, .inl f4)), (h1, .inr (1, [.ref b1, .ref b2, .ref b3, .ref b4, .ref b5, .int (nI n), .int (nI K), .int (nI rr), .int ml, .int lo])), (b1, .inl (cA, 2000, .inl g1)), (b2, .inl (cA, 2000, .inl g2)), (b3, .inl (cZ, 2000, .inl g3)), (b4, .inl (cA, 2001, .inl g4)), (b5, .inl (cA, 2000, .inl g5))] := hD
        refine lv_icmp_eq (tgt := 300) hx hb dL_law_245 (by decide) (fun hcE => ?_) (fun hcE => ?_)
        · refine lv_iinc (v := nI (i + 2)) (lv' := [(3, .int (nI (i + 2))), (0, .ref ba), (1, .ref h0), (2, .ref h1)]) hx hb dL_law_300 hl (k := 3) rfl (show nI i + nI 2 = nI (i + 2) from nI_add i 2) (by decide) rfl (fun ls hl => ?_)
          refine lv_goto (tgt := 18) hx hb dL_law_303 (by decide) ?_
          exact ih (L - (i + 2)) (i + 2) _ _ _ (by omega) ⟨f1, f2, f3, f4, g1, g2, g3, g4, g5, n, K, rr, lc, ml, lo, ⟨by omega, by omega, rfl, hI9⟩, hP, hD, hS, lv_sub hl [1, 2, 3, 0] rfl⟩
        · exact absurd (hw1.trans ((na_ifc (inv_isLong hI9 hlo hk)).trans hw2.symm)) hcE
    · refine lv_tableIn (off := 218) (tgt := 250) hx hb dL_law_32 (by decide) (by decide) (by decide) (by decide) ?_
      have hq1 : (if lo = 0 then -1 else lc) = (if lo = 0 then -1 else nI (cnt (fun j => decide (g1 j = 2) && decide (¬ g3 j = 0)) n)) := by
        by_cases q : lo = 0
        · rw [if_pos q, if_pos q]
        · rw [if_neg q, if_neg q]; exact inv_longs hI9 q
      refine lv_aload_n hx hb dL_law_250 rfl (lv_at hl 1 rfl) ?_
      refine na_calli (As := []) (rest := []) (wc := [(h0, .inr (0, [.ref a1, .ref a2, .ref a3, .ref a4, .int (nI n), .int (nI K), .int lc, .int (nI rr), .int ml, .int lo])), (a1, .inl (cA, 2000, .inl f1)), (a2, .inl (cA, 2000, .inl f2)), (a3, .inl (cA, 2000, .inl f3)), (a4, .inl (cA, 2000, .inl f4))]) (wr := [(h1, .inr (1, [.ref b1, .ref b2, .ref b3, .ref b4, .ref b5, .int (nI n), .int (nI K), .int (nI rr), .int ml, .int lo])), (b1, .inl (cA, 2000, .inl g1)), (b2, .inl (cA, 2000, .inl g2)), (b3, .inl (cZ, 2000, .inl g3)), (b4, .inl (cA, 2001, .inl g4)), (b5, .inl (cA, 2000, .inl g5))]) (ci := 0) ⟨hx, hb, hml, hown, hts⟩ (c_longs l dC dI cA h0 a1 a2 a3 a4 H.size f1 f2 f3 f4 n (nI K) lc (nI rr) ml lo) (cwV 0 hts gL_law_X0_longs rfl rfl rfl (by decide +kernel) ⟨Nat.le_of_ble_eq_true rfl, Nat.le_of_ble_eq_true rfl⟩) hKX hP hD hS hA [0, 1, 2, 3, 4] [5, 6, 7, 8, 9, 10] rfl rfl rfl rfl (by decide) rfl rfl 0 rfl rfl hl.1 (Nat.le_of_ble_eq_true rfl) dL_law_251 hroom rfl (fun r1 u1 H locs hw1 hP hD hS => ?_)
      have hP : va_P (dC, dI) vwCl [(h1, .inr (1, [.ref b1, .ref b2, .ref b3, .ref b4, .ref b5, .int (nI n), .int (nI K), .int (nI rr), .int ml, .int lo])), (b1, .inl (cA, 2000, .inl g1)), (b2, .inl (cA, 2000, .inl g2)), (b3, .inl (cZ, 2000, .inl g3)), (b4, .inl (cA, 2001, .inl g4)), (b5, .inl (cA, 2000, .inl g5)), (h0, .inr (0, [.ref a1, .ref a2, .ref a3, .ref a4, .int (nI n), .int (nI K), .int lc, .int (nI rr), .int ml, .int lo])), (a1, .inl (cA, 2000, .inl f1)), (a2, .inl (cA, 2000, .inl f2)), (a3, .inl (cA, 2000, .inl f3)), (a4, .inl (cA, 2000, .inl f4))] H := hP
      have hD : va_D A [(h1, .inr (1, [.ref b1, .ref b2, .ref b3, .ref b4, .ref b5, .int (nI n), .int (nI K), .int (nI rr), .int ml, .int lo])), (b1, .inl (cA, 2000, .inl g1)), (b2, .inl (cA, 2000, .inl g2)), (b3, .inl (cZ, 2000, .inl g3)), (b4, .inl (cA, 2001, .inl g4)), (b5, .inl (cA, 2000, .inl g5)), (h0, .inr (0, [.ref a1, .ref a2, .ref a3, .ref a4, .int (nI n), .int (nI K), .int lc, .int (nI rr), .int ml, .int lo])), (a1, .inl (cA, 2000, .inl f1)), (a2, .inl (cA, 2000, .inl f2)), (a3, .inl (cA, 2000, .inl f3)), (a4, .inl (cA, 2000, .inl f4))] := hD
      refine lv_aload_n hx hb dL_law_254 rfl (lv_at hl 2 rfl) ?_
      refine na_calli (As := []) (rest := [.int r1]) (wc := [(h1, .inr (1, [.ref b1, .ref b2, .ref b3, .ref b4, .ref b5, .int (nI n), .int (nI K), .int (nI rr), .int ml, .int lo])), (b1, .inl (cA, 2000, .inl g1)), (b2, .inl (cA, 2000, .inl g2)), (b3, .inl (cZ, 2000, .inl g3)), (b4, .inl (cA, 2001, .inl g4)), (b5, .inl (cA, 2000, .inl g5))]) (wr := [(h0, .inr (0, [.ref a1, .ref a2, .ref a3, .ref a4, .int (nI n), .int (nI K), .int lc, .int (nI rr), .int ml, .int lo])), (a1, .inl (cA, 2000, .inl f1)), (a2, .inl (cA, 2000, .inl f2)), (a3, .inl (cA, 2000, .inl f3)), (a4, .inl (cA, 2000, .inl f4))]) (ci := 1) ⟨hx, hb, hml, hown, hts⟩ (m_longs l dC dI cA cZ h1 b1 b2 b3 b4 b5 H.size g1 g2 g3 g4 g5 n (nI K) (nI rr) ml lo (by omega)) (cwV 0 hts gL_law_X1_longs rfl rfl rfl (by decide +kernel) ⟨Nat.le_of_ble_eq_true rfl, Nat.le_of_ble_eq_true rfl⟩) hK hP hD hS hA [0, 1, 2, 3, 4, 5] [6, 7, 8, 9, 10] rfl rfl rfl rfl (by decide) rfl rfl 0 rfl rfl hl.1 (Nat.le_of_ble_eq_true rfl) dL_law_255 hroom rfl (fun r2 u2 H locs hw2 hP hD hS => ?_)
      have hP : va_P (dC, dI) vwCl [(h0, .inr (0, [.ref a1, .ref a2, .ref a3, .ref a4, .int (nI n), .int (nI K), .int lc, .int (nI rr), .int ml, .int lo])), (a1, .inl (cA, 2000, .inl f1)), (a2, .inl (cA, 2000, .inl f2)), (a3, .inl (cA, 2000, .inl f3)), (a4, .inl (cA, 2000, .inl f4)), (h1, .inr (1, [.ref b1, .ref b2, .ref b3, .ref b4, .ref b5, .int (nI n), .int (nI K), .int (nI rr), .int ml, .int lo])), (b1, .inl (cA, 2000, .inl g1)), (b2, .inl (cA, 2000, .inl g2)), (b3, .inl (cZ, 2000, .inl g3)), (b4, .inl (cA, 2001, .inl g4)), (b5, .inl (cA, 2000, .inl g5))] H := hP
      have hD : va_D A [(h0, .inr (0, [.ref a1, .ref a2, .ref a3, .ref a4, .int (nI n), .int (nI K), .int lc, .int (nI rr), .int ml, .int lo])), (a1, .inl (cA, 2000, .inl f1)), (a2, .inl (cA, 2000, .inl f2)), (a3, .inl (cA, 2000, .inl f3)), (a4, .inl (cA, 2000, .inl f4)), (h1, .inr (1, [.ref b1, .ref b2, .ref b3, .ref b4, .ref b5, .int (nI n), .int (nI K), .int (nI rr), .int ml, .int lo])), (b1, .inl (cA, 2000, .inl g1)), (b2, .inl (cA, 2000, .inl g2)), (b3, .inl (cZ, 2000, .inl g3)), (b4, .inl (cA, 2001, .inl g4)), (b5, .inl (cA, 2000, .inl g5))] := hD
      refine lv_icmp_eq (tgt := 300) hx hb dL_law_258 (by decide) (fun hcE => ?_) (fun hcE => ?_)
      · refine lv_iinc (v := nI (i + 2)) (lv' := [(3, .int (nI (i + 2))), (0, .ref ba), (1, .ref h0), (2, .ref h1)]) hx hb dL_law_300 hl (k := 3) rfl (show nI i + nI 2 = nI (i + 2) from nI_add i 2) (by decide) rfl (fun ls hl => ?_)
        refine lv_goto (tgt := 18) hx hb dL_law_303 (by decide) ?_
        exact ih (L - (i + 2)) (i + 2) _ _ _ (by omega) ⟨f1, f2, f3, f4, g1, g2, g3, g4, g5, n, K, rr, lc, ml, lo, ⟨by omega, by omega, rfl, hI9⟩, hP, hD, hS, lv_sub hl [1, 2, 3, 0] rfl⟩
      · exact absurd (hw1.trans (hq1.trans hw2.symm)) hcE
    · refine lv_tableIn (off := 231) (tgt := 263) hx hb dL_law_32 (by decide) (by decide) (by decide) (by decide) ?_
      refine lv_aload_n hx hb dL_law_263 rfl (lv_at hl 1 rfl) ?_
      refine na_callv (As := []) (rest := []) (wc := [(h0, .inr (0, [.ref a1, .ref a2, .ref a3, .ref a4, .int (nI n), .int (nI K), .int lc, .int (nI rr), .int ml, .int lo])), (a1, .inl (cA, 2000, .inl f1)), (a2, .inl (cA, 2000, .inl f2)), (a3, .inl (cA, 2000, .inl f3)), (a4, .inl (cA, 2000, .inl f4))]) (wr := [(h1, .inr (1, [.ref b1, .ref b2, .ref b3, .ref b4, .ref b5, .int (nI n), .int (nI K), .int (nI rr), .int ml, .int lo])), (b1, .inl (cA, 2000, .inl g1)), (b2, .inl (cA, 2000, .inl g2)), (b3, .inl (cZ, 2000, .inl g3)), (b4, .inl (cA, 2001, .inl g4)), (b5, .inl (cA, 2000, .inl g5))]) (ci := 0) ⟨hx, hb, hml, hown, hts⟩ (c_clear l dC dI cA h0 a1 a2 a3 a4 H.size f1 f2 f3 f4 n (nI K) lc (nI rr) ml lo) (cwV 0 hts gL_law_X0_clear rfl rfl rfl (by decide +kernel) ⟨Nat.le_of_ble_eq_true rfl, Nat.le_of_ble_eq_true rfl⟩) hKX hP hD hS hA [0, 1, 2, 3, 4] [5, 6, 7, 8, 9, 10] rfl rfl rfl rfl (by decide) rfl rfl 0 rfl rfl hl.1 (Nat.le_of_ble_eq_true rfl) dL_law_264 hroom rfl (fun u1 H locs hw1 hP hD hS => ?_)
      have hP : va_P (dC, dI) vwCl [(h1, .inr (1, [.ref b1, .ref b2, .ref b3, .ref b4, .ref b5, .int (nI n), .int (nI K), .int (nI rr), .int ml, .int lo])), (b1, .inl (cA, 2000, .inl g1)), (b2, .inl (cA, 2000, .inl g2)), (b3, .inl (cZ, 2000, .inl g3)), (b4, .inl (cA, 2001, .inl g4)), (b5, .inl (cA, 2000, .inl g5)), (h0, .inr (0, [.ref a1, .ref a2, .ref a3, .ref a4, .int (nI 0), .int (nI 0), .int lc, .int (nI rr), .int ml, .int 0])), (a1, .inl (cA, 2000, .inl f1)), (a2, .inl (cA, 2000, .inl f2)), (a3, .inl (cA, 2000, .inl f3)), (a4, .inl (cA, 2000, .inl f4))] H := hP
      have hD : va_D A [(h1, .inr (1, [.ref b1, .ref b2, .ref b3, .ref b4, .ref b5, .int (nI n), .int (nI K), .int (nI rr), .int ml, .int lo])), (b1, .inl (cA, 2000, .inl g1)), (b2, .inl (cA, 2000, .inl g2)), (b3, .inl (cZ, 2000, .inl g3)), (b4, .inl (cA, 2001, .inl g4)), (b5, .inl (cA, 2000, .inl g5)), (h0, .inr (0, [.ref a1, .ref a2, .ref a3, .ref a4, .int (nI 0), .int (nI 0), .int lc, .int (nI rr), .int ml, .int 0])), (a1, .inl (cA, 2000, .inl f1)), (a2, .inl (cA, 2000, .inl f2)), (a3, .inl (cA, 2000, .inl f3)), (a4, .inl (cA, 2000, .inl f4))] := hD
      refine lv_aload_n hx hb dL_law_267 rfl (lv_at hl 2 rfl) ?_
      refine na_callv (As := []) (rest := []) (wc := [(h1, .inr (1, [.ref b1, .ref b2, .ref b3, .ref b4, .ref b5, .int (nI n), .int (nI K), .int (nI rr), .int ml, .int lo])), (b1, .inl (cA, 2000, .inl g1)), (b2, .inl (cA, 2000, .inl g2)), (b3, .inl (cZ, 2000, .inl g3)), (b4, .inl (cA, 2001, .inl g4)), (b5, .inl (cA, 2000, .inl g5))]) (wr := [(h0, .inr (0, [.ref a1, .ref a2, .ref a3, .ref a4, .int (nI 0), .int (nI 0), .int lc, .int (nI rr), .int ml, .int 0])), (a1, .inl (cA, 2000, .inl f1)), (a2, .inl (cA, 2000, .inl f2)), (a3, .inl (cA, 2000, .inl f3)), (a4, .inl (cA, 2000, .inl f4))]) (ci := 1) ⟨hx, hb, hml, hown, hts⟩ (m_clear l dC dI cA cZ h1 b1 b2 b3 b4 b5 H.size g1 g2 g3 g4 g5 n (nI K) (nI rr) ml lo) (cwV 0 hts gL_law_X1_clear rfl rfl rfl (by decide +kernel) ⟨Nat.le_of_ble_eq_true rfl, Nat.le_of_ble_eq_true rfl⟩) hK hP hD hS hA [0, 1, 2, 3, 4, 5] [6, 7, 8, 9, 10] rfl rfl rfl rfl (by decide) rfl rfl 0 rfl rfl hl.1 (Nat.le_of_ble_eq_true rfl) dL_law_268 hroom rfl (fun u2 H locs hw2 hP hD hS => ?_)
      have hP : va_P (dC, dI) vwCl [(h0, .inr (0, [.ref a1, .ref a2, .ref a3, .ref a4, .int (nI 0), .int (nI 0), .int lc, .int (nI rr), .int ml, .int 0])), (a1, .inl (cA, 2000, .inl f1)), (a2, .inl (cA, 2000, .inl f2)), (a3, .inl (cA, 2000, .inl f3)), (a4, .inl (cA, 2000, .inl f4)), (h1, .inr (1, [.ref b1, .ref b2, .ref b3, .ref b4, .ref b5, .int (nI 0), .int (nI 0), .int (nI rr), .int ml, .int 0])), (b1, .inl (cA, 2000, .inl g1)), (b2, .inl (cA, 2000, .inl g2)), (b3, .inl (cZ, 2000, .inl g3)), (b4, .inl (cA, 2001, .inl g4)), (b5, .inl (cA, 2000, .inl g5))] H := hP
      have hD : va_D A [(h0, .inr (0, [.ref a1, .ref a2, .ref a3, .ref a4, .int (nI 0), .int (nI 0), .int lc, .int (nI rr), .int ml, .int 0])), (a1, .inl (cA, 2000, .inl f1)), (a2, .inl (cA, 2000, .inl f2)), (a3, .inl (cA, 2000, .inl f3)), (a4, .inl (cA, 2000, .inl f4)), (h1, .inr (1, [.ref b1, .ref b2, .ref b3, .ref b4, .ref b5, .int (nI 0), .int (nI 0), .int (nI rr), .int ml, .int 0])), (b1, .inl (cA, 2000, .inl g1)), (b2, .inl (cA, 2000, .inl g2)), (b3, .inl (cZ, 2000, .inl g3)), (b4, .inl (cA, 2001, .inl g4)), (b5, .inl (cA, 2000, .inl g5))] := hD
      have hrr : rr ≤ 100000 := by obtain ⟨_, _, _, _, _, _, _, q, _⟩ := hI9; exact q
      refine lv_goto (tgt := 300) hx hb dL_law_271 (by decide) ?_
      refine lv_iinc (v := nI (i + 2)) (lv' := [(3, .int (nI (i + 2))), (0, .ref ba), (1, .ref h0), (2, .ref h1)]) hx hb dL_law_300 hl (k := 3) rfl (show nI i + nI 2 = nI (i + 2) from nI_add i 2) (by decide) rfl (fun ls hl => ?_)
      refine lv_goto (tgt := 18) hx hb dL_law_303 (by decide) ?_
      exact ih (L - (i + 2)) (i + 2) _ _ _ (by omega) ⟨f1, f2, f3, f4, g1, g2, g3, g4, g5, 0, 0, rr, lc, ml, 0, ⟨by omega, by omega, rfl, inv_0 hrr⟩, hP, hD, hS, lv_sub hl [1, 2, 3, 0] rfl⟩
    · refine lv_tableIn (off := 242) (tgt := 274) hx hb dL_law_32 (by decide) (by decide) (by decide) (by decide) ?_
      refine lv_aload_n hx hb dL_law_274 rfl (lv_at hl 1 rfl) ?_
      refine na_calli (As := []) (rest := []) (wc := [(h0, .inr (0, [.ref a1, .ref a2, .ref a3, .ref a4, .int (nI n), .int (nI K), .int lc, .int (nI rr), .int ml, .int lo])), (a1, .inl (cA, 2000, .inl f1)), (a2, .inl (cA, 2000, .inl f2)), (a3, .inl (cA, 2000, .inl f3)), (a4, .inl (cA, 2000, .inl f4))]) (wr := [(h1, .inr (1, [.ref b1, .ref b2, .ref b3, .ref b4, .ref b5, .int (nI n), .int (nI K), .int (nI rr), .int ml, .int lo])), (b1, .inl (cA, 2000, .inl g1)), (b2, .inl (cA, 2000, .inl g2)), (b3, .inl (cZ, 2000, .inl g3)), (b4, .inl (cA, 2001, .inl g4)), (b5, .inl (cA, 2000, .inl g5))]) (ci := 0) ⟨hx, hb, hml, hown, hts⟩ (c_items l dC dI cA h0 a1 a2 a3 a4 H.size f1 f2 f3 f4 n (nI K) lc (nI rr) ml lo) (cwV 0 hts gL_law_X0_items rfl rfl rfl (by decide +kernel) ⟨Nat.le_of_ble_eq_true rfl, Nat.le_of_ble_eq_true rfl⟩) hKX hP hD hS hA [0, 1, 2, 3, 4] [5, 6, 7, 8, 9, 10] rfl rfl rfl rfl (by decide) rfl rfl 0 rfl rfl hl.1 (Nat.le_of_ble_eq_true rfl) dL_law_275 hroom rfl (fun r1 u1 H locs hw1 hP hD hS => ?_)
      have hP : va_P (dC, dI) vwCl [(h1, .inr (1, [.ref b1, .ref b2, .ref b3, .ref b4, .ref b5, .int (nI n), .int (nI K), .int (nI rr), .int ml, .int lo])), (b1, .inl (cA, 2000, .inl g1)), (b2, .inl (cA, 2000, .inl g2)), (b3, .inl (cZ, 2000, .inl g3)), (b4, .inl (cA, 2001, .inl g4)), (b5, .inl (cA, 2000, .inl g5)), (h0, .inr (0, [.ref a1, .ref a2, .ref a3, .ref a4, .int (nI n), .int (nI K), .int lc, .int (nI rr), .int ml, .int lo])), (a1, .inl (cA, 2000, .inl f1)), (a2, .inl (cA, 2000, .inl f2)), (a3, .inl (cA, 2000, .inl f3)), (a4, .inl (cA, 2000, .inl f4))] H := hP
      have hD : va_D A [(h1, .inr (1, [.ref b1, .ref b2, .ref b3, .ref b4, .ref b5, .int (nI n), .int (nI K), .int (nI rr), .int ml, .int lo])), (b1, .inl (cA, 2000, .inl g1)), (b2, .inl (cA, 2000, .inl g2)), (b3, .inl (cZ, 2000, .inl g3)), (b4, .inl (cA, 2001, .inl g4)), (b5, .inl (cA, 2000, .inl g5)), (h0, .inr (0, [.ref a1, .ref a2, .ref a3, .ref a4, .int (nI n), .int (nI K), .int lc, .int (nI rr), .int ml, .int lo])), (a1, .inl (cA, 2000, .inl f1)), (a2, .inl (cA, 2000, .inl f2)), (a3, .inl (cA, 2000, .inl f3)), (a4, .inl (cA, 2000, .inl f4))] := hD
      subst hw1
      refine lv_aload_n hx hb dL_law_278 rfl (lv_at hl 2 rfl) ?_
      refine na_calli (As := []) (rest := [.int (nI n)]) (wc := [(h1, .inr (1, [.ref b1, .ref b2, .ref b3, .ref b4, .ref b5, .int (nI n), .int (nI K), .int (nI rr), .int ml, .int lo])), (b1, .inl (cA, 2000, .inl g1)), (b2, .inl (cA, 2000, .inl g2)), (b3, .inl (cZ, 2000, .inl g3)), (b4, .inl (cA, 2001, .inl g4)), (b5, .inl (cA, 2000, .inl g5))]) (wr := [(h0, .inr (0, [.ref a1, .ref a2, .ref a3, .ref a4, .int (nI n), .int (nI K), .int lc, .int (nI rr), .int ml, .int lo])), (a1, .inl (cA, 2000, .inl f1)), (a2, .inl (cA, 2000, .inl f2)), (a3, .inl (cA, 2000, .inl f3)), (a4, .inl (cA, 2000, .inl f4))]) (ci := 1) ⟨hx, hb, hml, hown, hts⟩ (m_items l dC dI cA cZ h1 b1 b2 b3 b4 b5 H.size g1 g2 g3 g4 g5 n (nI K) (nI rr) ml lo) (cwV 0 hts gL_law_X1_items rfl rfl rfl (by decide +kernel) ⟨Nat.le_of_ble_eq_true rfl, Nat.le_of_ble_eq_true rfl⟩) hK hP hD hS hA [0, 1, 2, 3, 4, 5] [6, 7, 8, 9, 10] rfl rfl rfl rfl (by decide) rfl rfl 0 rfl rfl hl.1 (Nat.le_of_ble_eq_true rfl) dL_law_279 hroom rfl (fun r2 u2 H locs hw2 hP hD hS => ?_)
      have hP : va_P (dC, dI) vwCl [(h0, .inr (0, [.ref a1, .ref a2, .ref a3, .ref a4, .int (nI n), .int (nI K), .int lc, .int (nI rr), .int ml, .int lo])), (a1, .inl (cA, 2000, .inl f1)), (a2, .inl (cA, 2000, .inl f2)), (a3, .inl (cA, 2000, .inl f3)), (a4, .inl (cA, 2000, .inl f4)), (h1, .inr (1, [.ref b1, .ref b2, .ref b3, .ref b4, .ref b5, .int (nI n), .int (nI K), .int (nI rr), .int ml, .int lo])), (b1, .inl (cA, 2000, .inl g1)), (b2, .inl (cA, 2000, .inl g2)), (b3, .inl (cZ, 2000, .inl g3)), (b4, .inl (cA, 2001, .inl g4)), (b5, .inl (cA, 2000, .inl g5))] H := hP
      have hD : va_D A [(h0, .inr (0, [.ref a1, .ref a2, .ref a3, .ref a4, .int (nI n), .int (nI K), .int lc, .int (nI rr), .int ml, .int lo])), (a1, .inl (cA, 2000, .inl f1)), (a2, .inl (cA, 2000, .inl f2)), (a3, .inl (cA, 2000, .inl f3)), (a4, .inl (cA, 2000, .inl f4)), (h1, .inr (1, [.ref b1, .ref b2, .ref b3, .ref b4, .ref b5, .int (nI n), .int (nI K), .int (nI rr), .int ml, .int lo])), (b1, .inl (cA, 2000, .inl g1)), (b2, .inl (cA, 2000, .inl g2)), (b3, .inl (cZ, 2000, .inl g3)), (b4, .inl (cA, 2001, .inl g4)), (b5, .inl (cA, 2000, .inl g5))] := hD
      subst hw2
      refine lv_icmp_eq (tgt := 300) hx hb dL_law_282 (by decide) (fun hcE => ?_) (fun hcE => ?_)
      · refine lv_iinc (v := nI (i + 2)) (lv' := [(3, .int (nI (i + 2))), (0, .ref ba), (1, .ref h0), (2, .ref h1)]) hx hb dL_law_300 hl (k := 3) rfl (show nI i + nI 2 = nI (i + 2) from nI_add i 2) (by decide) rfl (fun ls hl => ?_)
        refine lv_goto (tgt := 18) hx hb dL_law_303 (by decide) ?_
        exact ih (L - (i + 2)) (i + 2) _ _ _ (by omega) ⟨f1, f2, f3, f4, g1, g2, g3, g4, g5, n, K, rr, lc, ml, lo, ⟨by omega, by omega, rfl, hI9⟩, hP, hD, hS, lv_sub hl [1, 2, 3, 0] rfl⟩
      · exact absurd (rfl) hcE
    · refine lv_tableIn (off := 255) (tgt := 287) hx hb dL_law_32 (by decide) (by decide) (by decide) (by decide) ?_
      refine lv_aload_n hx hb dL_law_287 rfl (lv_at hl 1 rfl) ?_
      refine na_calli (As := []) (rest := []) (wc := [(h0, .inr (0, [.ref a1, .ref a2, .ref a3, .ref a4, .int (nI n), .int (nI K), .int lc, .int (nI rr), .int ml, .int lo])), (a1, .inl (cA, 2000, .inl f1)), (a2, .inl (cA, 2000, .inl f2)), (a3, .inl (cA, 2000, .inl f3)), (a4, .inl (cA, 2000, .inl f4))]) (wr := [(h1, .inr (1, [.ref b1, .ref b2, .ref b3, .ref b4, .ref b5, .int (nI n), .int (nI K), .int (nI rr), .int ml, .int lo])), (b1, .inl (cA, 2000, .inl g1)), (b2, .inl (cA, 2000, .inl g2)), (b3, .inl (cZ, 2000, .inl g3)), (b4, .inl (cA, 2001, .inl g4)), (b5, .inl (cA, 2000, .inl g5))]) (ci := 0) ⟨hx, hb, hml, hown, hts⟩ (c_marks l dC dI cA h0 a1 a2 a3 a4 H.size f1 f2 f3 f4 n (nI K) lc (nI rr) ml lo) (cwV 0 hts gL_law_X0_marks rfl rfl rfl (by decide +kernel) ⟨Nat.le_of_ble_eq_true rfl, Nat.le_of_ble_eq_true rfl⟩) hKX hP hD hS hA [0, 1, 2, 3, 4] [5, 6, 7, 8, 9, 10] rfl rfl rfl rfl (by decide) rfl rfl 0 rfl rfl hl.1 (Nat.le_of_ble_eq_true rfl) dL_law_288 hroom rfl (fun r1 u1 H locs hw1 hP hD hS => ?_)
      have hP : va_P (dC, dI) vwCl [(h1, .inr (1, [.ref b1, .ref b2, .ref b3, .ref b4, .ref b5, .int (nI n), .int (nI K), .int (nI rr), .int ml, .int lo])), (b1, .inl (cA, 2000, .inl g1)), (b2, .inl (cA, 2000, .inl g2)), (b3, .inl (cZ, 2000, .inl g3)), (b4, .inl (cA, 2001, .inl g4)), (b5, .inl (cA, 2000, .inl g5)), (h0, .inr (0, [.ref a1, .ref a2, .ref a3, .ref a4, .int (nI n), .int (nI K), .int lc, .int (nI rr), .int ml, .int lo])), (a1, .inl (cA, 2000, .inl f1)), (a2, .inl (cA, 2000, .inl f2)), (a3, .inl (cA, 2000, .inl f3)), (a4, .inl (cA, 2000, .inl f4))] H := hP
      have hD : va_D A [(h1, .inr (1, [.ref b1, .ref b2, .ref b3, .ref b4, .ref b5, .int (nI n), .int (nI K), .int (nI rr), .int ml, .int lo])), (b1, .inl (cA, 2000, .inl g1)), (b2, .inl (cA, 2000, .inl g2)), (b3, .inl (cZ, 2000, .inl g3)), (b4, .inl (cA, 2001, .inl g4)), (b5, .inl (cA, 2000, .inl g5)), (h0, .inr (0, [.ref a1, .ref a2, .ref a3, .ref a4, .int (nI n), .int (nI K), .int lc, .int (nI rr), .int ml, .int lo])), (a1, .inl (cA, 2000, .inl f1)), (a2, .inl (cA, 2000, .inl f2)), (a3, .inl (cA, 2000, .inl f3)), (a4, .inl (cA, 2000, .inl f4))] := hD
      subst hw1
      refine lv_aload_n hx hb dL_law_291 rfl (lv_at hl 2 rfl) ?_
      refine na_calli (As := []) (rest := [.int (nI K)]) (wc := [(h1, .inr (1, [.ref b1, .ref b2, .ref b3, .ref b4, .ref b5, .int (nI n), .int (nI K), .int (nI rr), .int ml, .int lo])), (b1, .inl (cA, 2000, .inl g1)), (b2, .inl (cA, 2000, .inl g2)), (b3, .inl (cZ, 2000, .inl g3)), (b4, .inl (cA, 2001, .inl g4)), (b5, .inl (cA, 2000, .inl g5))]) (wr := [(h0, .inr (0, [.ref a1, .ref a2, .ref a3, .ref a4, .int (nI n), .int (nI K), .int lc, .int (nI rr), .int ml, .int lo])), (a1, .inl (cA, 2000, .inl f1)), (a2, .inl (cA, 2000, .inl f2)), (a3, .inl (cA, 2000, .inl f3)), (a4, .inl (cA, 2000, .inl f4))]) (ci := 1) ⟨hx, hb, hml, hown, hts⟩ (m_marks l dC dI cA cZ h1 b1 b2 b3 b4 b5 H.size g1 g2 g3 g4 g5 n (nI K) (nI rr) ml lo) (cwV 0 hts gL_law_X1_marks rfl rfl rfl (by decide +kernel) ⟨Nat.le_of_ble_eq_true rfl, Nat.le_of_ble_eq_true rfl⟩) hK hP hD hS hA [0, 1, 2, 3, 4, 5] [6, 7, 8, 9, 10] rfl rfl rfl rfl (by decide) rfl rfl 0 rfl rfl hl.1 (Nat.le_of_ble_eq_true rfl) dL_law_292 hroom rfl (fun r2 u2 H locs hw2 hP hD hS => ?_)
      have hP : va_P (dC, dI) vwCl [(h0, .inr (0, [.ref a1, .ref a2, .ref a3, .ref a4, .int (nI n), .int (nI K), .int lc, .int (nI rr), .int ml, .int lo])), (a1, .inl (cA, 2000, .inl f1)), (a2, .inl (cA, 2000, .inl f2)), (a3, .inl (cA, 2000, .inl f3)), (a4, .inl (cA, 2000, .inl f4)), (h1, .inr (1, [.ref b1, .ref b2, .ref b3, .ref b4, .ref b5, .int (nI n), .int (nI K), .int (nI rr), .int ml, .int lo])), (b1, .inl (cA, 2000, .inl g1)), (b2, .inl (cA, 2000, .inl g2)), (b3, .inl (cZ, 2000, .inl g3)), (b4, .inl (cA, 2001, .inl g4)), (b5, .inl (cA, 2000, .inl g5))] H := hP
      have hD : va_D A [(h0, .inr (0, [.ref a1, .ref a2, .ref a3, .ref a4, .int (nI n), .int (nI K), .int lc, .int (nI rr), .int ml, .int lo])), (a1, .inl (cA, 2000, .inl f1)), (a2, .inl (cA, 2000, .inl f2)), (a3, .inl (cA, 2000, .inl f3)), (a4, .inl (cA, 2000, .inl f4)), (h1, .inr (1, [.ref b1, .ref b2, .ref b3, .ref b4, .ref b5, .int (nI n), .int (nI K), .int (nI rr), .int ml, .int lo])), (b1, .inl (cA, 2000, .inl g1)), (b2, .inl (cA, 2000, .inl g2)), (b3, .inl (cZ, 2000, .inl g3)), (b4, .inl (cA, 2001, .inl g4)), (b5, .inl (cA, 2000, .inl g5))] := hD
      subst hw2
      refine lv_icmp_eq (tgt := 300) hx hb dL_law_295 (by decide) (fun hcE => ?_) (fun hcE => ?_)
      · refine lv_iinc (v := nI (i + 2)) (lv' := [(3, .int (nI (i + 2))), (0, .ref ba), (1, .ref h0), (2, .ref h1)]) hx hb dL_law_300 hl (k := 3) rfl (show nI i + nI 2 = nI (i + 2) from nI_add i 2) (by decide) rfl (fun ls hl => ?_)
        refine lv_goto (tgt := 18) hx hb dL_law_303 (by decide) ?_
        exact ih (L - (i + 2)) (i + 2) _ _ _ (by omega) ⟨f1, f2, f3, f4, g1, g2, g3, g4, g5, n, K, rr, lc, ml, lo, ⟨by omega, by omega, rfl, hI9⟩, hP, hD, hS, lv_sub hl [1, 2, 3, 0] rfl⟩
      · exact absurd (rfl) hcE
    · refine lv_tableOut (tgt := 300) hx hb dL_law_32 (by decide) (by decide) ?_
      refine lv_iinc (v := nI (i + 2)) (lv' := [(3, .int (nI (i + 2))), (0, .ref ba), (1, .ref h0), (2, .ref h1)]) hx hb dL_law_300 hl (k := 3) rfl (show nI i + nI 2 = nI (i + 2) from nI_add i 2) (by decide) rfl (fun ls hl => ?_)
      refine lv_goto (tgt := 18) hx hb dL_law_303 (by decide) ?_
      exact ih (L - (i + 2)) (i + 2) _ _ _ (by omega) ⟨f1, f2, f3, f4, g1, g2, g3, g4, g5, n, K, rr, lc, ml, lo, ⟨by omega, by omega, rfl, hI9⟩, hP, hD, hS, lv_sub hl [1, 2, 3, 0] rfl⟩
    · refine lv_tableOut (tgt := 300) hx hb dL_law_32 (by decide) (by decide) ?_
      refine lv_iinc (v := nI (i + 2)) (lv' := [(3, .int (nI (i + 2))), (0, .ref ba), (1, .ref h0), (2, .ref h1)]) hx hb dL_law_300 hl (k := 3) rfl (show nI i + nI 2 = nI (i + 2) from nI_add i 2) (by decide) rfl (fun ls hl => ?_)
      refine lv_goto (tgt := 18) hx hb dL_law_303 (by decide) ?_
      exact ih (L - (i + 2)) (i + 2) _ _ _ (by omega) ⟨f1, f2, f3, f4, g1, g2, g3, g4, g5, n, K, rr, lc, ml, lo, ⟨by omega, by omega, rfl, hI9⟩, hP, hD, hS, lv_sub hl [1, 2, 3, 0] rfl⟩
    · refine lv_tableOut (tgt := 300) hx hb dL_law_32 (by decide) (by decide) ?_
      refine lv_iinc (v := nI (i + 2)) (lv' := [(3, .int (nI (i + 2))), (0, .ref ba), (1, .ref h0), (2, .ref h1)]) hx hb dL_law_300 hl (k := 3) rfl (show nI i + nI 2 = nI (i + 2) from nI_add i 2) (by decide) rfl (fun ls hl => ?_)
      refine lv_goto (tgt := 18) hx hb dL_law_303 (by decide) ?_
      exact ih (L - (i + 2)) (i + 2) _ _ _ (by omega) ⟨f1, f2, f3, f4, g1, g2, g3, g4, g5, n, K, rr, lc, ml, lo, ⟨by omega, by omega, rfl, hI9⟩, hP, hD, hS, lv_sub hl [1, 2, 3, 0] rfl⟩
    · refine lv_tableOut (tgt := 300) hx hb dL_law_32 (by decide) (by decide) ?_
      refine lv_iinc (v := nI (i + 2)) (lv' := [(3, .int (nI (i + 2))), (0, .ref ba), (1, .ref h0), (2, .ref h1)]) hx hb dL_law_300 hl (k := 3) rfl (show nI i + nI 2 = nI (i + 2) from nI_add i 2) (by decide) rfl (fun ls hl => ?_)
      refine lv_goto (tgt := 18) hx hb dL_law_303 (by decide) ?_
      exact ih (L - (i + 2)) (i + 2) _ _ _ (by omega) ⟨f1, f2, f3, f4, g1, g2, g3, g4, g5, n, K, rr, lc, ml, lo, ⟨by omega, by omega, rfl, hI9⟩, hP, hD, hS, lv_sub hl [1, 2, 3, 0] rfl⟩
end
section
set_option maxHeartbeats 8000000 in
set_option maxRecDepth 100000 in
/-- THE LAW, from its entry -/
theorem whole_start {p : Program} {e : Env} {s : State} {m : MethodId} {below : List Frame} {meth : Method} {c : Code} (l : Launch) {b L : Nat} {xs : Nat → Int32} (hL : L ≤ 1024) (C0 : lw_At p s m meth c b L xs) : W p l e room_1 s m #[Value.ref b] below meth c s.heap [] 0 0 (lw_Z below #[Value.ref b] s) (entryFrame m ([Value.ref b] : List Value).toArray 4) := by
  obtain ⟨hx, hb, hr, hml, hown, hts, hX, hbl, hlocks, hgv⟩ := id C0
  have hA : ∀ q : Nat, s.heap.size ≤ q → (fun q : Nat => s.heap.size ≤ q) q := fun _ h => h
  have hown : s.vm.findClass RL = some m.cls := hown
  have hts : ∀ w ∈ wsL_law, w.before #[Value.ref b] s = true := fun w h => hts w (wsL_law_in w h)
  obtain ⟨c0, iS0, hKn0⟩ := u_known (C := RX0) (T := TX0) (N := 10) (n := 10) hts inlX0 (hts (.instantiable RX0 10) (by decide +kernel))
  obtain ⟨c1, iS1, hKn1⟩ := u_known (C := RX1) (T := TX1) (N := 10) (n := 10) hts inlX1 (hts (.instantiable RX1 10) (by decide +kernel))
  obtain ⟨dC, dI, hKc⟩ : ∃ (dC : Nat → ClassId) (dI : Nat → Nat → Nat), ∀ (k : Nat) (q : vw_C), vwCl[k]? = some q → u_Kn s q.1 q.2.1 q.2.2 (dC k) (dI k) := by
    refine ⟨fun k => if k = 0 then c0 else c1, fun k => if k = 0 then iS0 else iS1, ?_⟩
    intro k q hq
    match k, hq with
    | 0, hq => cases hq; exact hKn0
    | 1, hq => cases hq; exact hKn1
    | k + 2, hq => simp [vwCl] at hq
  have hS : va_S (fun q : Nat => s.heap.size ≤ q) s.heap s.heap [] := va_S.rf
  have hK : va_K (dC, dI) vwCl [] s := ⟨hKc, fun k q h => by simp at h⟩
  have hP : va_P (dC, dI) vwCl [] s.heap := fun k q h => by simp at h
  have hD : va_D (fun q : Nat => s.heap.size ≤ q) [] := ⟨fun i j p q h => by simp at h, fun k q h => by simp at h⟩
  have hl := lv_entry ([.ref b]) (n := 4) (Nat.le_of_ble_eq_true rfl)
  rw [lg_entry_eq]
  generalize (lg_sl ([.ref b]) ++ List.replicate (4 - (lg_sl ([.ref b])).length) Slot.unset).toArray = ls at hl ⊢
  have hl : lv_has ls 4 [(0, .ref b)] := hl
  refine va_new (ci := 0) (fs := [.null, .null, .null, .null, .int 0, .int 0, .int 0, .int 0, .int 0, .int 0]) (C := RX0) (T := TX0) (N := 10) hx hb hts inlX0 tyX0 tyX0_ok hown (hts (.classLink RL 7 RX0) (by decide +kernel)) (hts (.instantiable RX0 10) (by decide +kernel)) (hts (.initialized RX0) (by decide +kernel)) hK hP hD hS hA rfl (fun j hj => by rcases (show j = 0 ∨ j = 1 ∨ j = 2 ∨ j = 3 ∨ j = 4 ∨ j = 5 ∨ j = 6 ∨ j = 7 ∨ j = 8 ∨ j = 9 by omega) with rfl | rfl | rfl | rfl | rfl | rfl | rfl | rfl | rfl | rfl <;> rfl) (show 0 + 1 ≤ 11 by omega) (show 0 + 10 ≤ 18021 by omega) dL_law_0 (fun h0 H hP hD hS => ?_)
  have hP : va_P (dC, dI) vwCl [(h0, .inr (0, [.null, .null, .null, .null, .int 0, .int 0, .int 0, .int 0, .int 0, .int 0]))] H := hP
  have hD : va_D (fun q : Nat => s.heap.size ≤ q) [(h0, .inr (0, [.null, .null, .null, .null, .int 0, .int 0, .int 0, .int 0, .int 0, .int 0]))] := hD
  refine W.widen (k := 1) (n := 10) (by omega) (by omega) ?_
  refine lv_dup hx hb dL_law_3 rfl ?_
  have hPc := hP.sub (ws' := [(h0, .inr (0, [.null, .null, .null, .null, .int 0, .int 0, .int 0, .int 0, .int 0, .int 0]))]) [0] rfl
  have hDc := hD.sub (ws' := [(h0, .inr (0, [.null, .null, .null, .null, .int 0, .int 0, .int 0, .int 0, .int 0, .int 0]))]) [0] (by decide) rfl
  have hKc := hK.sub (tys' := []) [] rfl
  have hFc := va_free (wc := [(h0, .inr (0, [.null, .null, .null, .null, .int 0, .int 0, .int 0, .int 0, .int 0, .int 0]))]) hD hS hA [0] rfl
  refine va_callv (va_runI (As := []) (rest := [.ref h0]) ⟨hx, hb, hml, hown, hts⟩ (c_xinit l dC dI h0 H.size) (cwI 0 hts gL_law_X0_init rfl rfl rfl (hts (.initialized RX0) (by decide +kernel)) (hts (.methodLink RL 9 yX0_init) (by decide +kernel)) (hts (.instanceMethod yX0_init) (by decide +kernel)) rfl (by decide +kernel) ⟨Nat.le_of_ble_eq_true rfl, Nat.le_of_ble_eq_true rfl⟩) ⟨na_blind, fun U hU hW => ⟨rfl, by rw [hU], by rw [hU]; exact hPc, va_K.moved hW.alike hKc, hDc.weaken (fun _ _ _ _ => trivial)⟩⟩ rfl rfl hl.1 rfl (lv_room (Nat.le_of_ble_eq_true rfl)) dL_law_4 ⟨show 1 + 4 ≤ 11 by omega, show 10 + 8000 ≤ 18021 by omega⟩) hS (fun q _ h => hFc q h) hFc (fun u t H1 locs ht hvm hw hB hz1 hk1 hS => ?_)
  obtain ⟨a1, a2, a3, a4, cA, hP1, hK1, hD1⟩ := hB
  rw [ht] at hP1
  have hK1 := va_K.moved hvm.symm hK1
  obtain ⟨hP, hD⟩ := va_join (wr := []) (w1 := [(h0, .inr (0, [.ref a1, .ref a2, .ref a3, .ref a4, .int (nI 0), .int (nI 0), .int 0, .int (nI 1000), .int (-1), .int 0])), (a1, .inl (cA, 2000, .inl (fun _ => 0))), (a2, .inl (cA, 2000, .inl (fun _ => 0))), (a3, .inl (cA, 2000, .inl (fun _ => 0))), (a4, .inl (cA, 2000, .inl (fun _ => 0)))]) hP hD [0] [] rfl rfl (by decide) (by decide) hk1 hFc hP1 hD1
  have hK := hK.app hK1
  generalize H1 = H at hP hS ⊢
  have hP : va_P (dC, dI) vwCl [(h0, .inr (0, [.ref a1, .ref a2, .ref a3, .ref a4, .int (nI 0), .int (nI 0), .int 0, .int (nI 1000), .int (-1), .int 0])), (a1, .inl (cA, 2000, .inl (fun _ => 0))), (a2, .inl (cA, 2000, .inl (fun _ => 0))), (a3, .inl (cA, 2000, .inl (fun _ => 0))), (a4, .inl (cA, 2000, .inl (fun _ => 0)))] H := hP
  have hD : va_D (fun q : Nat => s.heap.size ≤ q) [(h0, .inr (0, [.ref a1, .ref a2, .ref a3, .ref a4, .int (nI 0), .int (nI 0), .int 0, .int (nI 1000), .int (-1), .int 0])), (a1, .inl (cA, 2000, .inl (fun _ => 0))), (a2, .inl (cA, 2000, .inl (fun _ => 0))), (a3, .inl (cA, 2000, .inl (fun _ => 0))), (a4, .inl (cA, 2000, .inl (fun _ => 0)))] := hD
  refine W.widen (k := 5) (n := 8010) (by omega) (by omega) ?_
  have hK : va_K (dC, dI) vwCl [(cA, .int)] s := hK
  refine lv_astore_n (lv' := [(1, .ref h0), (0, .ref b)]) hx hb dL_law_7 rfl hl (by decide) rfl (fun ls hl => ?_)
  refine va_new (ci := 1) (fs := [.null, .null, .null, .null, .null, .int 0, .int 0, .int 0, .int 0, .int 0]) (C := RX1) (T := TX1) (N := 10) hx hb hts inlX1 tyX1 tyX1_ok hown (hts (.classLink RL 10 RX1) (by decide +kernel)) (hts (.instantiable RX1 10) (by decide +kernel)) (hts (.initialized RX1) (by decide +kernel)) hK hP hD hS hA rfl (fun j hj => by rcases (show j = 0 ∨ j = 1 ∨ j = 2 ∨ j = 3 ∨ j = 4 ∨ j = 5 ∨ j = 6 ∨ j = 7 ∨ j = 8 ∨ j = 9 by omega) with rfl | rfl | rfl | rfl | rfl | rfl | rfl | rfl | rfl | rfl <;> rfl) (show 5 + 1 ≤ 11 by omega) (show 8010 + 10 ≤ 18021 by omega) dL_law_8 (fun h1 H hP hD hS => ?_)
  have hP : va_P (dC, dI) vwCl [(h0, .inr (0, [.ref a1, .ref a2, .ref a3, .ref a4, .int (nI 0), .int (nI 0), .int 0, .int (nI 1000), .int (-1), .int 0])), (a1, .inl (cA, 2000, .inl (fun _ => 0))), (a2, .inl (cA, 2000, .inl (fun _ => 0))), (a3, .inl (cA, 2000, .inl (fun _ => 0))), (a4, .inl (cA, 2000, .inl (fun _ => 0))), (h1, .inr (1, [.null, .null, .null, .null, .null, .int 0, .int 0, .int 0, .int 0, .int 0]))] H := hP
  have hD : va_D (fun q : Nat => s.heap.size ≤ q) [(h0, .inr (0, [.ref a1, .ref a2, .ref a3, .ref a4, .int (nI 0), .int (nI 0), .int 0, .int (nI 1000), .int (-1), .int 0])), (a1, .inl (cA, 2000, .inl (fun _ => 0))), (a2, .inl (cA, 2000, .inl (fun _ => 0))), (a3, .inl (cA, 2000, .inl (fun _ => 0))), (a4, .inl (cA, 2000, .inl (fun _ => 0))), (h1, .inr (1, [.null, .null, .null, .null, .null, .int 0, .int 0, .int 0, .int 0, .int 0]))] := hD
  refine W.widen (k := 6) (n := 8020) (by omega) (by omega) ?_
  refine lv_dup hx hb dL_law_11 rfl ?_
  have hPc := hP.sub (ws' := [(h1, .inr (1, [.null, .null, .null, .null, .null, .int 0, .int 0, .int 0, .int 0, .int 0]))]) [5] rfl
  have hDc := hD.sub (ws' := [(h1, .inr (1, [.null, .null, .null, .null, .null, .int 0, .int 0, .int 0, .int 0, .int 0]))]) [5] (by decide) rfl
  have hKc := hK.sub (tys' := []) [] rfl
  have hFc := va_free (wc := [(h1, .inr (1, [.null, .null, .null, .null, .null, .int 0, .int 0, .int 0, .int 0, .int 0]))]) hD hS hA [5] rfl
  refine va_callv (va_runI (As := []) (rest := [.ref h1]) ⟨hx, hb, hml, hown, hts⟩ (m_init l dC dI h1 H.size) (cwI 0 hts gL_law_X1_init rfl rfl rfl (hts (.initialized RX1) (by decide +kernel)) (hts (.methodLink RL 12 yX1_init) (by decide +kernel)) (hts (.instanceMethod yX1_init) (by decide +kernel)) rfl (by decide +kernel) ⟨Nat.le_of_ble_eq_true rfl, Nat.le_of_ble_eq_true rfl⟩) ⟨na_blind, fun U hU hW => ⟨rfl, by rw [hU], by rw [hU]; exact hPc, va_K.moved hW.alike hKc, hDc.weaken (fun _ _ _ _ => trivial)⟩⟩ rfl rfl hl.1 rfl (lv_room (Nat.le_of_ble_eq_true rfl)) dL_law_12 ⟨show 6 + 5 ≤ 11 by omega, show 8020 + 10001 ≤ 18021 by omega⟩) hS (fun q _ h => hFc q h) hFc (fun u t H1 locs ht hvm hw hB hz1 hk1 hS => ?_)
  obtain ⟨b1, b2, b3, b4, b5, cB, cZ, hP1, hK1, hD1⟩ := hB
  rw [ht] at hP1
  have hK1 := va_K.moved hvm.symm hK1
  obtain ⟨hP, hD⟩ := va_join (wr := [(h0, .inr (0, [.ref a1, .ref a2, .ref a3, .ref a4, .int (nI 0), .int (nI 0), .int 0, .int (nI 1000), .int (-1), .int 0])), (a1, .inl (cA, 2000, .inl (fun _ => 0))), (a2, .inl (cA, 2000, .inl (fun _ => 0))), (a3, .inl (cA, 2000, .inl (fun _ => 0))), (a4, .inl (cA, 2000, .inl (fun _ => 0)))]) (w1 := [(h1, .inr (1, [.ref b1, .ref b2, .ref b3, .ref b4, .ref b5, .int (nI 0), .int (nI 0), .int (nI 1000), .int (-1), .int 0])), (b1, .inl (cB, 2000, .inl (fun _ => 0))), (b2, .inl (cB, 2000, .inl (fun _ => 0))), (b3, .inl (cZ, 2000, .inl (fun _ => 0))), (b4, .inl (cB, 2001, .inl (fun _ => 0))), (b5, .inl (cB, 2000, .inl (fun _ => 0)))]) hP hD [5] [0, 1, 2, 3, 4] rfl rfl (by decide) (by decide) hk1 hFc hP1 hD1
  have hK := hK.app hK1
  generalize H1 = H at hP hS ⊢
  have hP : va_P (dC, dI) vwCl [(h0, .inr (0, [.ref a1, .ref a2, .ref a3, .ref a4, .int (nI 0), .int (nI 0), .int 0, .int (nI 1000), .int (-1), .int 0])), (a1, .inl (cA, 2000, .inl (fun _ => 0))), (a2, .inl (cA, 2000, .inl (fun _ => 0))), (a3, .inl (cA, 2000, .inl (fun _ => 0))), (a4, .inl (cA, 2000, .inl (fun _ => 0))), (h1, .inr (1, [.ref b1, .ref b2, .ref b3, .ref b4, .ref b5, .int (nI 0), .int (nI 0), .int (nI 1000), .int (-1), .int 0])), (b1, .inl (cB, 2000, .inl (fun _ => 0))), (b2, .inl (cB, 2000, .inl (fun _ => 0))), (b3, .inl (cZ, 2000, .inl (fun _ => 0))), (b4, .inl (cB, 2001, .inl (fun _ => 0))), (b5, .inl (cB, 2000, .inl (fun _ => 0)))] H := hP
  have hD : va_D (fun q : Nat => s.heap.size ≤ q) [(h0, .inr (0, [.ref a1, .ref a2, .ref a3, .ref a4, .int (nI 0), .int (nI 0), .int 0, .int (nI 1000), .int (-1), .int 0])), (a1, .inl (cA, 2000, .inl (fun _ => 0))), (a2, .inl (cA, 2000, .inl (fun _ => 0))), (a3, .inl (cA, 2000, .inl (fun _ => 0))), (a4, .inl (cA, 2000, .inl (fun _ => 0))), (h1, .inr (1, [.ref b1, .ref b2, .ref b3, .ref b4, .ref b5, .int (nI 0), .int (nI 0), .int (nI 1000), .int (-1), .int 0])), (b1, .inl (cB, 2000, .inl (fun _ => 0))), (b2, .inl (cB, 2000, .inl (fun _ => 0))), (b3, .inl (cZ, 2000, .inl (fun _ => 0))), (b4, .inl (cB, 2001, .inl (fun _ => 0))), (b5, .inl (cB, 2000, .inl (fun _ => 0)))] := hD
  refine W.widen (k := 11) (n := 18021) (by omega) (by omega) ?_
  have hK : va_K (dC, dI) vwCl [(cA, .int), (cB, .int), (cZ, .boolean)] s := hK
  have hu : cA = cB := na_same_int hK (i := 0) (j := 1) rfl rfl
  subst hu
  have hK := hK.sub (tys' := [(cA, .int), (cZ, .boolean)]) [0, 2] rfl
  refine lv_astore_n (lv' := [(2, .ref h1), (1, .ref h0), (0, .ref b)]) hx hb dL_law_15 rfl hl (by decide) rfl (fun ls hl => ?_)
  refine lv_iconst (v := nI 0) hx hb dL_law_16 (by decide) ?_
  refine lv_istore_n (lv' := [(3, .int (nI 0)), (2, .ref h1), (1, .ref h0), (0, .ref b)]) hx hb dL_law_17 rfl hl (by decide) rfl (fun ls hl => ?_)
  exact law_loop hL C0 hA (fun _ h => h) hK (inv_0 (by omega)) hP hD hS (lv_sub hl [3, 2, 1, 0] rfl)
end
section
set_option maxHeartbeats 4000000 in
theorem lw_walk (l : Launch) (b : Addr) (xs : List Int32) : MetFree l x (headSpec (Jvm.Cond.code x code maxLocals ret :: tables_1) room_1) (lw_P b xs) (fun _ _ _ _ _ => True) lw_Q := by
  refine MetFree.of_bodyS (code := code) (maxLocals := maxLocals) (ret := ret) (by decide) ?_ ?_
  · intro args s m h hn
    obtain ⟨meth, c, h1, h2, h3, h4, h5, h6, -, -⟩ := Cond.code_spec hn (atoms_spec (ws := Jvm.Cond.code x code maxLocals ret :: tables_1) h _ List.mem_cons_self)
    exact ⟨meth, c, h1, h2, h3, h4, h5, h6⟩
  · intro p e s m args below meth c s₁ B hml0 hP _
    obtain ⟨rfl, hx, hbd, hgv⟩ := hP
    obtain ⟨scr, harrAt, hlist, hof, hsmall⟩ := hx
    obtain ⟨hcb, hkn, -, -⟩ := State.arrayAt?_spec harrAt
    have hown : s.vm.findClass R_law = some m.cls := findClass_of_methodNamed B.named
    have hts0 : ∀ c ∈ (Jvm.Cond.code x code maxLocals ret :: tables_1), c.before #[Value.ref b] s = true := atoms_spec (ws := Jvm.Cond.code x code maxLocals ret :: tables_1) B.pre
    have hts : ∀ w ∈ lw_tbl, w.before #[Value.ref b] s = true := k2_hts_sels lw_privs (fun w hw => hts0 w (List.mem_cons_of_mem _ hw)) lw_privs_ok
    have hml : c.maxLocals = 4 := B.maxLocals_eq (hts0 _ List.mem_cons_self)
    have X₀ : Stand p l e room_1 s m #[Value.ref b] below meth c s₁ [] 0 0 := Stand.of_body B
    have hh0 : s₁.heap = s.heap := by rw [B.state]; rfl
    have hsz : scr.slots.size = xs.length := by rw [← Array.length_toList, hlist, List.length_map]
    have hval : ∀ j : Nat, j < xs.length → scr.slots[j]? = some (.int (xs.getD j 0)) := fun j hj => by
      rw [← Array.getElem?_toList, hlist]
      simp [hj]
    have hbl : b < s.heap.size := (Array.getElem?_eq_some_iff.mp hcb).1
    have hX : va_X b xs.length (fun j => xs.getD j 0) s s.heap := ⟨scr, hcb, hof, hkn, hsz, hval⟩
    have K : W p l e room_1 s m #[Value.ref b] below meth c s₁.heap [] 0 0 (lw_Z below #[Value.ref b] s) (entryFrame m ([Value.ref b] : List Value).toArray 4) := by
      rw [hh0]
      exact whole_start l hbd ⟨B.exec, B.bytes, B.returns, hml, hown, hts, hX, hbl, B.notSynchronized, hgv⟩
    obtain ⟨t, a1, o, b1, b2, b3⟩ := K s₁ rfl X₀
    exact ⟨t, o, a1, b1, b2, b3⟩
theorem lw_pre_spec {args : Array Value} {s : State} (h : (Jvm.Cond.and given_1 narrow_1).before args s = true) (hr : rest_1_c.before args s = true) : ∃ (b : Addr) (xs : List Int32), lw_P b xs args s := by
  have hs := flat_of_before _ h
  have hq := flat_of_before _ hr
  have hc : (Cond.count 1).before args s = true := hs _ (by decide +kernel)
  have harr : (Cond.arrayOf (.arg 0) .int).before args s = true := hs _ (by decide +kernel)
  have hle : (Cond.le (.length (.arg 0)) (.int 1024)).before args s = true := hs _ (by decide +kernel)
  have hlen : (Cond.isInt (.length (.arg 0))).before args s = true := hq _ (by decide +kernel)
  have hall : (Cond.all (.arg 0) (.isInt (.elem (.arg 0) (.index 0)))).before args s = true := hq _ (by decide +kernel)
  obtain ⟨b, xs, hb, hx⟩ := State.ints_of_pre rfl harr hlen hall
  have hsm : xs.length < 2 ^ 31 := hx.choose_spec.2.2.2
  have hev : (Term.length (.arg 0)).eval args s none [] s = some (.int xs.length.toInt32) := hx.length_eval hb
  have hv := Cond.le_ints hev (show (Term.int 1024).eval args s none [] s = some (.int 1024) from rfl)
  have hd : xs.length.toInt32 ≤ 1024 := by
    simpa [Cond.before, Cond.holds, hv] using hle
  have hN : xs.length ≤ 1024 := (Int32.ofNat_le_ofNat hsm (by decide)).mp (show Int32.ofNat xs.length ≤ Int32.ofNat 1024 from hd)
  exact ⟨b, xs, Cond.one_arg hc (show args[0]? = some (.ref b) from hb), hx, hN, h⟩
theorem lw_comes (l : Launch) : Comes l x (Jvm.Cond.code x code maxLocals ret :: tables_1) room_1 (fun tb e args s => Calls_1 tb e args s ∧ rest_1 tb e args s ∧ Pre_1 tb e args s)
    (fun _ _ args s o t => lw_Q args s o t) := by
  intro p e ha hc hk s m args below hf hfit hheap happ hpre
  obtain ⟨b, xs, hP⟩ := lw_pre_spec hpre.2.2 hpre.2.1
  obtain ⟨k, o, h1, h2, h3, hQ⟩ := lw_walk l b xs p e ha hc hk s m args below hf ((Spec.applies_iff_loose hf).mp happ).1 hP trivial
  exact ⟨k, o, h1, h2, h3, hQ⟩
theorem lw_frame {s t : State} {o : Outcome} {args : Array Value} (h : Framed s o t [] 11 18021) :
    Framed s o t (fieldLocs frame_1_writes args s ++ arrayLocs frame_1_arrays args s ++ staticLocs frame_1_statics s) 11 18021 := h
theorem lw_limb (L : Cond) (hL : ∀ (args : Array Value) (s t : State), L.after args s (.returned (some (.int 1))) t = true) :
    ArmFor flags0 classFile x code maxLocals ret World_1 tables_1 room_1 Calls_1 rest_1 Pre_1
      (fun tb e a s o t => postC L tb e a s o t ∧ Framed s o t (fieldLocs frame_1_writes a s ++ arrayLocs frame_1_arrays a s ++ staticLocs frame_1_statics s) 11 18021) := by
  intro l _ _ _ p e ha hc hk s m args below hf hfit hheap happ hpre
  obtain ⟨k, o, h1, h2, h3, rfl, hF⟩ := lw_comes l p e ha hc hk s m args below hf hfit hheap happ hpre
  exact ⟨k, _, h1, h2, h3, hL args s _, lw_frame hF⟩
theorem i_vc : Claimed_1_1 ∧ Claimed_1_2 := ⟨lw_limb limb_1_1 (fun args s t => by simp [limb_1_1, Cond.after, Cond.holds, Cond.value]), lw_limb limb_1_2 (fun args s t => Cond.after_iff.mpr (by
  first | (rw [show limb_1_2 = Cond.eq .result (.int 1) from rfl, Cond.eq_ints (x := 1) (y := 1) rfl rfl]; simp; done) | (simp [limb_1_2, Cond.value, Term.eval]; done)))⟩
end
