-- ===== PART A: goes FIRST, ahead of the names: the tables' words, and 'selects' of the private methods out of them =====
/-- a private method of a class that the tables say can be made, by its rows of tables_1 -/
def lw_okq (q : MethodName × Nat) : Prop := (q.1.cls ≠ "java/lang/invoke/MethodHandle" ∧ q.1.cls ≠ "java/lang/invoke/VarHandle") ∧ Cond.instantiable q.1.cls q.2 ∈ tables_1 ∧ Cond.privateMethod q.1 ∈ tables_1 ∧ Cond.instanceMethod q.1 ∈ tables_1
theorem lw_p0 : lw_okq (⟨"BranchLengths", "append", "(II)I"⟩, 10) := ⟨⟨by decide +kernel, by decide +kernel⟩, List.mem_of_getElem? (i := 4) (by decide +kernel), List.mem_of_getElem? (i := 48) (by decide +kernel), List.mem_of_getElem? (i := 49) (by decide +kernel)⟩
theorem lw_p1 : lw_okq (⟨"BranchLengths", "firstMarkless", "()I"⟩, 10) := ⟨⟨by decide +kernel, by decide +kernel⟩, List.mem_of_getElem? (i := 4) (by decide +kernel), List.mem_of_getElem? (i := 69) (by decide +kernel), List.mem_of_getElem? (i := 70) (by decide +kernel)⟩
theorem lw_p2 : lw_okq (⟨"BranchLengths", "isBranch", "(I)Z"⟩, 10) := ⟨⟨by decide +kernel, by decide +kernel⟩, List.mem_of_getElem? (i := 4) (by decide +kernel), List.mem_of_getElem? (i := 73) (by decide +kernel), List.mem_of_getElem? (i := 74) (by decide +kernel)⟩
theorem lw_p3 : lw_okq (⟨"BranchLengths", "isMark", "(I)Z"⟩, 10) := ⟨⟨by decide +kernel, by decide +kernel⟩, List.mem_of_getElem? (i := 4) (by decide +kernel), List.mem_of_getElem? (i := 77) (by decide +kernel), List.mem_of_getElem? (i := 78) (by decide +kernel)⟩
theorem lw_p4 : lw_okq (⟨"BranchLengths", "shortenAll", "()V"⟩, 10) := ⟨⟨by decide +kernel, by decide +kernel⟩, List.mem_of_getElem? (i := 4) (by decide +kernel), List.mem_of_getElem? (i := 81) (by decide +kernel), List.mem_of_getElem? (i := 82) (by decide +kernel)⟩
theorem lw_p5 : lw_okq (⟨"BranchLengths", "setPlaces", "()I"⟩, 10) := ⟨⟨by decide +kernel, by decide +kernel⟩, List.mem_of_getElem? (i := 4) (by decide +kernel), List.mem_of_getElem? (i := 85) (by decide +kernel), List.mem_of_getElem? (i := 86) (by decide +kernel)⟩
theorem lw_p6 : lw_okq (⟨"BranchLengths", "lengthenUnreaching", "()I"⟩, 10) := ⟨⟨by decide +kernel, by decide +kernel⟩, List.mem_of_getElem? (i := 4) (by decide +kernel), List.mem_of_getElem? (i := 89) (by decide +kernel), List.mem_of_getElem? (i := 90) (by decide +kernel)⟩
theorem lw_p7 : lw_okq (⟨"BranchLengths", "reachesShort", "(I)Z"⟩, 10) := ⟨⟨by decide +kernel, by decide +kernel⟩, List.mem_of_getElem? (i := 4) (by decide +kernel), List.mem_of_getElem? (i := 93) (by decide +kernel), List.mem_of_getElem? (i := 94) (by decide +kernel)⟩
theorem lw_p8 : lw_okq (⟨"BranchLengths", "isItem", "(I)Z"⟩, 10) := ⟨⟨by decide +kernel, by decide +kernel⟩, List.mem_of_getElem? (i := 4) (by decide +kernel), List.mem_of_getElem? (i := 97) (by decide +kernel), List.mem_of_getElem? (i := 98) (by decide +kernel)⟩
theorem lw_p9 : lw_okq (⟨"BranchLengths", "isLaid", "(I)Z"⟩, 10) := ⟨⟨by decide +kernel, by decide +kernel⟩, List.mem_of_getElem? (i := 4) (by decide +kernel), List.mem_of_getElem? (i := 109) (by decide +kernel), List.mem_of_getElem? (i := 110) (by decide +kernel)⟩
theorem lw_p10 : lw_okq (⟨"BranchLengthsModel", "item", "(II)I"⟩, 10) := ⟨⟨by decide +kernel, by decide +kernel⟩, List.mem_of_getElem? (i := 133) (by decide +kernel), List.mem_of_getElem? (i := 175) (by decide +kernel), List.mem_of_getElem? (i := 176) (by decide +kernel)⟩
theorem lw_p11 : lw_okq (⟨"BranchLengthsModel", "addUp", "()V"⟩, 10) := ⟨⟨by decide +kernel, by decide +kernel⟩, List.mem_of_getElem? (i := 133) (by decide +kernel), List.mem_of_getElem? (i := 196) (by decide +kernel), List.mem_of_getElem? (i := 197) (by decide +kernel)⟩
theorem lw_p12 : lw_okq (⟨"BranchLengthsModel", "reaches", "(I)Z"⟩, 10) := ⟨⟨by decide +kernel, by decide +kernel⟩, List.mem_of_getElem? (i := 133) (by decide +kernel), List.mem_of_getElem? (i := 200) (by decide +kernel), List.mem_of_getElem? (i := 201) (by decide +kernel)⟩
def lw_privs_1 : List (MethodName × Nat) := [(⟨"BranchLengths", "append", "(II)I"⟩, 10), (⟨"BranchLengths", "firstMarkless", "()I"⟩, 10), (⟨"BranchLengths", "isBranch", "(I)Z"⟩, 10), (⟨"BranchLengths", "isMark", "(I)Z"⟩, 10), (⟨"BranchLengths", "shortenAll", "()V"⟩, 10), (⟨"BranchLengths", "setPlaces", "()I"⟩, 10), (⟨"BranchLengths", "lengthenUnreaching", "()I"⟩, 10), (⟨"BranchLengths", "reachesShort", "(I)Z"⟩, 10), (⟨"BranchLengths", "isItem", "(I)Z"⟩, 10), (⟨"BranchLengths", "isLaid", "(I)Z"⟩, 10), (⟨"BranchLengthsModel", "item", "(II)I"⟩, 10), (⟨"BranchLengthsModel", "addUp", "()V"⟩, 10), (⟨"BranchLengthsModel", "reaches", "(I)Z"⟩, 10)]
theorem lw_r1 : ∀ q ∈ lw_privs_1, lw_okq q := List.forall_mem_cons.mpr ⟨lw_p0, List.forall_mem_cons.mpr ⟨lw_p1, List.forall_mem_cons.mpr ⟨lw_p2, List.forall_mem_cons.mpr ⟨lw_p3, List.forall_mem_cons.mpr ⟨lw_p4, List.forall_mem_cons.mpr ⟨lw_p5, List.forall_mem_cons.mpr ⟨lw_p6, List.forall_mem_cons.mpr ⟨lw_p7, List.forall_mem_cons.mpr ⟨lw_p8, List.forall_mem_cons.mpr ⟨lw_p9, List.forall_mem_cons.mpr ⟨lw_p10, List.forall_mem_cons.mpr ⟨lw_p11, List.forall_mem_cons.mpr ⟨lw_p12, fun _ h => absurd h List.not_mem_nil⟩⟩⟩⟩⟩⟩⟩⟩⟩⟩⟩⟩⟩
def lw_privs : List (MethodName × Nat) := lw_privs_1
def lw_tbl : List Cond := k2_sels lw_privs ++ tables_1
theorem lw_privs_ok : ∀ q ∈ lw_privs, lw_okq q := lw_r1
-- ===== end of PART A; then your names; then what follows =====
/-! ===== BEGIN words of one list among another's, by their places ===== -/
theorem goodIn_r {big : List Cond} (ws : List Cond) (ps : List Nat) (hp : ws = ps.filterMap (fun i => big[i]?)) (h : ws.all goodWord = true) : GoodIn big ws := by
  intro w hw
  have h1 := List.all_eq_true.mp h w hw
  rw [hp] at hw
  obtain ⟨i, -, hi⟩ := List.mem_filterMap.mp hw
  have hm : w ∈ big := by first | exact List.mem_of_getElem? hi | exact List.getElem?_mem hi
  exact ⟨hm, good_of_word h1⟩
theorem goodIn_app {big a b : List Cond} (ha : GoodIn big a) (hb : GoodIn big b) : GoodIn big (a ++ b) := fun w h => (List.mem_append.mp h).elim (ha w) (hb w)
theorem goodIn_ca {big a b : List Cond} {c : Cond} (ha : GoodIn big (c :: a)) (hb : GoodIn big b) : GoodIn big (c :: (a ++ b)) := fun w h => (List.mem_cons.mp h).elim (fun e => ha w (List.mem_cons.mpr (Or.inl e))) (fun h => (List.mem_append.mp h).elim (fun h => ha w (List.mem_cons.mpr (Or.inr h))) (hb w))
theorem goodIn_sub {big ws : List Cond} (hm : ∀ w ∈ ws, w ∈ big) (h : ws.all goodWord = true) : GoodIn big ws := fun w hw => ⟨hm w hw, good_of_word (List.all_eq_true.mp h w hw)⟩
/-! ===== END ===== -/

/-! ===== BEGIN printed: names, fields, word lists, decode rows ===== -/
def RX0 : String := "BranchLengths"
def TX0 : u_T := fun k => match k with
  | 0 => ("BranchLengths", "words", "[I", true)
  | 1 => ("BranchLengths", "targets", "[I", true)
  | 2 => ("BranchLengths", "places", "[I", true)
  | 3 => ("BranchLengths", "markItems", "[I", true)
  | 4 => ("BranchLengths", "itemCount", "I", false)
  | 5 => ("BranchLengths", "markCount", "I", false)
  | 6 => ("BranchLengths", "longCount", "I", false)
  | 7 => ("BranchLengths", "reachNow", "I", false)
  | 8 => ("BranchLengths", "markless", "I", false)
  | _ => ("BranchLengths", "laidOut", "Z", false)
def tyX0 : Nat → FieldType := fun k => match k with
  | 0 => .array .int
  | 1 => .array .int
  | 2 => .array .int
  | 3 => .array .int
  | 4 => .int
  | 5 => .int
  | 6 => .int
  | 7 => .int
  | 8 => .int
  | _ => .boolean
abbrev wsX00 : List Cond := u_ws RX0 TX0 10
theorem nmX0 : ∀ a, a < 10 → ∀ b, b < 10 → a ≠ b → (TX0 a).2.1 ≠ (TX0 b).2.1 := by decide +kernel
theorem tyX0_ok : ∀ k, k < 10 → parseFieldDescriptor (TX0 k).2.2.1 = some (tyX0 k) := by decide +kernel
abbrev cX0_init : ByteArray := prog_1_method_1_code
def yX0_init : MethodName := ⟨RX0, "<init>", "()V"⟩
abbrev cX0_stretch : ByteArray := prog_1_method_2_code
def yX0_stretch : MethodName := ⟨RX0, "stretch", "(I)I"⟩
abbrev cX0_mark : ByteArray := prog_1_method_3_code
def yX0_mark : MethodName := ⟨RX0, "mark", "()I"⟩
abbrev cX0_branch : ByteArray := prog_1_method_4_code
def yX0_branch : MethodName := ⟨RX0, "branch", "(I)I"⟩
abbrev cX0_reach : ByteArray := prog_1_method_5_code
def yX0_reach : MethodName := ⟨RX0, "reach", "(I)Z"⟩
abbrev cX0_lay : ByteArray := prog_1_method_6_code
def yX0_lay : MethodName := ⟨RX0, "lay", "()I"⟩
abbrev cX0_least : ByteArray := prog_1_method_7_code
def yX0_least : MethodName := ⟨RX0, "least", "()I"⟩
abbrev cX0_place : ByteArray := prog_1_method_8_code
def yX0_place : MethodName := ⟨RX0, "place", "(I)I"⟩
abbrev cX0_isLong : ByteArray := prog_1_method_9_code
def yX0_isLong : MethodName := ⟨RX0, "isLong", "(I)Z"⟩
abbrev cX0_longs : ByteArray := prog_1_method_10_code
def yX0_longs : MethodName := ⟨RX0, "longs", "()I"⟩
abbrev cX0_clear : ByteArray := prog_1_method_11_code
def yX0_clear : MethodName := ⟨RX0, "clear", "()V"⟩
abbrev cX0_items : ByteArray := prog_1_method_12_code
def yX0_items : MethodName := ⟨RX0, "items", "()I"⟩
abbrev cX0_marks : ByteArray := prog_1_method_13_code
def yX0_marks : MethodName := ⟨RX0, "marks", "()I"⟩
abbrev cX0_append : ByteArray := prog_1_method_14_code
def yX0_append : MethodName := ⟨RX0, "append", "(II)I"⟩
abbrev cX0_isLaid : ByteArray := prog_1_method_15_code
def yX0_isLaid : MethodName := ⟨RX0, "isLaid", "(I)Z"⟩
abbrev cX0_isItem : ByteArray := prog_1_method_16_code
def yX0_isItem : MethodName := ⟨RX0, "isItem", "(I)Z"⟩
abbrev cX0_isMark : ByteArray := prog_1_method_17_code
def yX0_isMark : MethodName := ⟨RX0, "isMark", "(I)Z"⟩
abbrev cX0_isBranch : ByteArray := prog_1_method_18_code
def yX0_isBranch : MethodName := ⟨RX0, "isBranch", "(I)Z"⟩
abbrev cX0_firstMarkless : ByteArray := prog_1_method_19_code
def yX0_firstMarkless : MethodName := ⟨RX0, "firstMarkless", "()I"⟩
abbrev cX0_shortenAll : ByteArray := prog_1_method_20_code
def yX0_shortenAll : MethodName := ⟨RX0, "shortenAll", "()V"⟩
abbrev cX0_setPlaces : ByteArray := prog_1_method_21_code
def yX0_setPlaces : MethodName := ⟨RX0, "setPlaces", "()I"⟩
abbrev cX0_lengthenUnreaching : ByteArray := prog_1_method_22_code
def yX0_lengthenUnreaching : MethodName := ⟨RX0, "lengthenUnreaching", "()I"⟩
abbrev cX0_reachesShort : ByteArray := prog_1_method_23_code
def yX0_reachesShort : MethodName := ⟨RX0, "reachesShort", "(I)Z"⟩
def RX1 : String := "BranchLengthsModel"
def TX1 : u_T := fun k => match k with
  | 0 => ("BranchLengthsModel", "kinds", "[I", true)
  | 1 => ("BranchLengthsModel", "numbers", "[I", true)
  | 2 => ("BranchLengthsModel", "longOnes", "[Z", true)
  | 3 => ("BranchLengthsModel", "places", "[I", true)
  | 4 => ("BranchLengthsModel", "markItems", "[I", true)
  | 5 => ("BranchLengthsModel", "items", "I", false)
  | 6 => ("BranchLengthsModel", "marks", "I", false)
  | 7 => ("BranchLengthsModel", "reach", "I", false)
  | 8 => ("BranchLengthsModel", "least", "I", false)
  | _ => ("BranchLengthsModel", "laid", "Z", false)
def tyX1 : Nat → FieldType := fun k => match k with
  | 0 => .array .int
  | 1 => .array .int
  | 2 => .array .boolean
  | 3 => .array .int
  | 4 => .array .int
  | 5 => .int
  | 6 => .int
  | 7 => .int
  | 8 => .int
  | _ => .boolean
abbrev wsX10 : List Cond := u_ws RX1 TX1 10
theorem nmX1 : ∀ a, a < 10 → ∀ b, b < 10 → a ≠ b → (TX1 a).2.1 ≠ (TX1 b).2.1 := by decide +kernel
theorem tyX1_ok : ∀ k, k < 10 → parseFieldDescriptor (TX1 k).2.2.1 = some (tyX1 k) := by decide +kernel
abbrev cX1_init : ByteArray := prog_3_method_1_code
def yX1_init : MethodName := ⟨RX1, "<init>", "()V"⟩
abbrev cX1_item : ByteArray := prog_3_method_3_code
def yX1_item : MethodName := ⟨RX1, "item", "(II)I"⟩
abbrev cX1_stretch : ByteArray := prog_3_method_4_code
def yX1_stretch : MethodName := ⟨RX1, "stretch", "(I)I"⟩
abbrev cX1_mark : ByteArray := prog_3_method_5_code
def yX1_mark : MethodName := ⟨RX1, "mark", "()I"⟩
abbrev cX1_branch : ByteArray := prog_3_method_6_code
def yX1_branch : MethodName := ⟨RX1, "branch", "(I)I"⟩
abbrev cX1_reach : ByteArray := prog_3_method_7_code
def yX1_reach : MethodName := ⟨RX1, "reach", "(I)Z"⟩
abbrev cX1_addUp : ByteArray := prog_3_method_8_code
def yX1_addUp : MethodName := ⟨RX1, "addUp", "()V"⟩
abbrev cX1_reaches : ByteArray := prog_3_method_9_code
def yX1_reaches : MethodName := ⟨RX1, "reaches", "(I)Z"⟩
abbrev cX1_lay : ByteArray := prog_3_method_10_code
def yX1_lay : MethodName := ⟨RX1, "lay", "()I"⟩
abbrev cX1_least : ByteArray := prog_3_method_11_code
def yX1_least : MethodName := ⟨RX1, "least", "()I"⟩
abbrev cX1_place : ByteArray := prog_3_method_12_code
def yX1_place : MethodName := ⟨RX1, "place", "(I)I"⟩
abbrev cX1_isLong : ByteArray := prog_3_method_13_code
def yX1_isLong : MethodName := ⟨RX1, "isLong", "(I)Z"⟩
abbrev cX1_longs : ByteArray := prog_3_method_14_code
def yX1_longs : MethodName := ⟨RX1, "longs", "()I"⟩
abbrev cX1_clear : ByteArray := prog_3_method_15_code
def yX1_clear : MethodName := ⟨RX1, "clear", "()V"⟩
abbrev cX1_items : ByteArray := prog_3_method_16_code
def yX1_items : MethodName := ⟨RX1, "items", "()I"⟩
abbrev cX1_marks : ByteArray := prog_3_method_17_code
def yX1_marks : MethodName := ⟨RX1, "marks", "()I"⟩
def RL : String := "BranchLengthsLaw"
abbrev cL_law : ByteArray := code
def yL_law : MethodName := ⟨RL, "law", "([I)Z"⟩
def wsX0_init : List Cond := .code yX0_init cX0_init 1 none :: ([.methodLink RX0 1 objectInit, .instanceMethod objectInit, .code objectInit ⟨#[0xb1]⟩ 1 none, .arrayClass .int, .fieldLink RX0 9 "BranchLengths" "words" "[I", .fieldLink RX0 13 "BranchLengths" "targets" "[I", .fieldLink RX0 16 "BranchLengths" "places" "[I", .fieldLink RX0 19 "BranchLengths" "markItems" "[I", .fieldLink RX0 22 "BranchLengths" "itemCount" "I", .fieldLink RX0 26 "BranchLengths" "markCount" "I", .fieldLink RX0 29 "BranchLengths" "longCount" "I", .fieldLink RX0 32 "BranchLengths" "reachNow" "I", .fieldLink RX0 35 "BranchLengths" "markless" "I", .fieldLink RX0 38 "BranchLengths" "laidOut" "Z"] ++ wsX00)
def wsX0_append : List Cond := .code yX0_append cX0_append 4 (some .int) :: ([.fieldLink RX0 22 "BranchLengths" "itemCount" "I", .fieldLink RX0 9 "BranchLengths" "words" "[I", .fieldLink RX0 13 "BranchLengths" "targets" "[I", .fieldLink RX0 38 "BranchLengths" "laidOut" "Z"] ++ wsX00)
def wsX0_stretch : List Cond := .code yX0_stretch cX0_stretch 2 (some .int) :: ([.methodLink RX0 42 yX0_append, .instanceMethod yX0_append, .selects RX0 yX0_append yX0_append, .initialized RX0, .code yX0_append cX0_append 4 (some .int), .fieldLink RX0 22 "BranchLengths" "itemCount" "I", .fieldLink RX0 9 "BranchLengths" "words" "[I", .fieldLink RX0 13 "BranchLengths" "targets" "[I", .fieldLink RX0 38 "BranchLengths" "laidOut" "Z"] ++ wsX00)
def wsX0_mark : List Cond := .code yX0_mark cX0_mark 2 (some .int) :: ([.fieldLink RX0 26 "BranchLengths" "markCount" "I", .fieldLink RX0 19 "BranchLengths" "markItems" "[I", .methodLink RX0 42 yX0_append, .instanceMethod yX0_append, .selects RX0 yX0_append yX0_append, .initialized RX0, .code yX0_append cX0_append 4 (some .int), .fieldLink RX0 22 "BranchLengths" "itemCount" "I", .fieldLink RX0 9 "BranchLengths" "words" "[I", .fieldLink RX0 13 "BranchLengths" "targets" "[I", .fieldLink RX0 38 "BranchLengths" "laidOut" "Z"] ++ wsX00)
def wsX0_branch : List Cond := .code yX0_branch cX0_branch 2 (some .int) :: ([.methodLink RX0 42 yX0_append, .instanceMethod yX0_append, .selects RX0 yX0_append yX0_append, .initialized RX0, .code yX0_append cX0_append 4 (some .int), .fieldLink RX0 22 "BranchLengths" "itemCount" "I", .fieldLink RX0 9 "BranchLengths" "words" "[I", .fieldLink RX0 13 "BranchLengths" "targets" "[I", .fieldLink RX0 38 "BranchLengths" "laidOut" "Z"] ++ wsX00)
def wsX0_reach : List Cond := .code yX0_reach cX0_reach 2 (some .boolean) :: ([.constant RX0 46 (100000), .fieldLink RX0 32 "BranchLengths" "reachNow" "I", .fieldLink RX0 38 "BranchLengths" "laidOut" "Z"] ++ wsX00)
def wsX0_isBranch : List Cond := .code yX0_isBranch cX0_isBranch 2 (some .boolean) :: ([.fieldLink RX0 13 "BranchLengths" "targets" "[I"] ++ wsX00)
def wsX0_isMark : List Cond := .code yX0_isMark cX0_isMark 2 (some .boolean) :: ([.fieldLink RX0 26 "BranchLengths" "markCount" "I"] ++ wsX00)
def wsX0_firstMarkless : List Cond := .code yX0_firstMarkless cX0_firstMarkless 2 (some .int) :: ([.fieldLink RX0 22 "BranchLengths" "itemCount" "I", .fieldLink RX0 13 "BranchLengths" "targets" "[I", .methodLink RX0 64 yX0_isBranch, .instanceMethod yX0_isBranch, .selects RX0 yX0_isBranch yX0_isBranch, .initialized RX0, .code yX0_isBranch cX0_isBranch 2 (some .boolean), .methodLink RX0 70 yX0_isMark, .instanceMethod yX0_isMark, .selects RX0 yX0_isMark yX0_isMark, .code yX0_isMark cX0_isMark 2 (some .boolean), .fieldLink RX0 26 "BranchLengths" "markCount" "I"] ++ wsX00)
def wsX0_shortenAll : List Cond := .code yX0_shortenAll cX0_shortenAll 2 none :: ([.fieldLink RX0 22 "BranchLengths" "itemCount" "I", .fieldLink RX0 9 "BranchLengths" "words" "[I", .fieldLink RX0 29 "BranchLengths" "longCount" "I", .methodLink RX0 64 yX0_isBranch, .instanceMethod yX0_isBranch, .selects RX0 yX0_isBranch yX0_isBranch, .initialized RX0, .code yX0_isBranch cX0_isBranch 2 (some .boolean), .fieldLink RX0 13 "BranchLengths" "targets" "[I"] ++ wsX00)
def wsX0_setPlaces : List Cond := .code yX0_setPlaces cX0_setPlaces 3 (some .int) :: ([.fieldLink RX0 22 "BranchLengths" "itemCount" "I", .fieldLink RX0 16 "BranchLengths" "places" "[I", .fieldLink RX0 9 "BranchLengths" "words" "[I"] ++ wsX00)
def wsX0_isItem : List Cond := .code yX0_isItem cX0_isItem 2 (some .boolean) :: ([.fieldLink RX0 22 "BranchLengths" "itemCount" "I"] ++ wsX00)
def wsX0_reachesShort : List Cond := .code yX0_reachesShort cX0_reachesShort 4 (some .boolean) :: ([.fieldLink RX0 13 "BranchLengths" "targets" "[I", .fieldLink RX0 19 "BranchLengths" "markItems" "[I", .fieldLink RX0 16 "BranchLengths" "places" "[I", .fieldLink RX0 32 "BranchLengths" "reachNow" "I", .methodLink RX0 70 yX0_isMark, .instanceMethod yX0_isMark, .selects RX0 yX0_isMark yX0_isMark, .initialized RX0, .code yX0_isMark cX0_isMark 2 (some .boolean), .fieldLink RX0 26 "BranchLengths" "markCount" "I", .methodLink RX0 67 yX0_isItem, .instanceMethod yX0_isItem, .selects RX0 yX0_isItem yX0_isItem, .code yX0_isItem cX0_isItem 2 (some .boolean), .fieldLink RX0 22 "BranchLengths" "itemCount" "I"] ++ wsX00)
def wsX0_lengthenUnreaching : List Cond := .code yX0_lengthenUnreaching cX0_lengthenUnreaching 3 (some .int) :: ([.fieldLink RX0 22 "BranchLengths" "itemCount" "I", .fieldLink RX0 9 "BranchLengths" "words" "[I", .methodLink RX0 64 yX0_isBranch, .instanceMethod yX0_isBranch, .selects RX0 yX0_isBranch yX0_isBranch, .initialized RX0, .code yX0_isBranch cX0_isBranch 2 (some .boolean), .fieldLink RX0 13 "BranchLengths" "targets" "[I", .methodLink RX0 73 yX0_reachesShort, .instanceMethod yX0_reachesShort, .selects RX0 yX0_reachesShort yX0_reachesShort, .code yX0_reachesShort cX0_reachesShort 4 (some .boolean), .fieldLink RX0 19 "BranchLengths" "markItems" "[I", .fieldLink RX0 16 "BranchLengths" "places" "[I", .fieldLink RX0 32 "BranchLengths" "reachNow" "I", .methodLink RX0 70 yX0_isMark, .instanceMethod yX0_isMark, .selects RX0 yX0_isMark yX0_isMark, .code yX0_isMark cX0_isMark 2 (some .boolean), .fieldLink RX0 26 "BranchLengths" "markCount" "I", .methodLink RX0 67 yX0_isItem, .instanceMethod yX0_isItem, .selects RX0 yX0_isItem yX0_isItem, .code yX0_isItem cX0_isItem 2 (some .boolean)] ++ wsX00)
def wsX0_lay_r1 : List Cond := [Cond.fieldLink RX0 35 "BranchLengths" "markless" "I", Cond.fieldLink RX0 38 "BranchLengths" "laidOut" "Z", Cond.fieldLink RX0 22 "BranchLengths" "itemCount" "I", Cond.fieldLink RX0 29 "BranchLengths" "longCount" "I", Cond.methodLink RX0 47 yX0_firstMarkless, Cond.instanceMethod yX0_firstMarkless, Cond.selects RX0 yX0_firstMarkless yX0_firstMarkless, Cond.initialized RX0, Cond.code yX0_firstMarkless cX0_firstMarkless 2 (some .int), Cond.fieldLink RX0 13 "BranchLengths" "targets" "[I", Cond.methodLink RX0 64 yX0_isBranch, Cond.instanceMethod yX0_isBranch, Cond.selects RX0 yX0_isBranch yX0_isBranch, Cond.code yX0_isBranch cX0_isBranch 2 (some .boolean), Cond.methodLink RX0 70 yX0_isMark, Cond.instanceMethod yX0_isMark, Cond.selects RX0 yX0_isMark yX0_isMark, Cond.code yX0_isMark cX0_isMark 2 (some .boolean), Cond.fieldLink RX0 26 "BranchLengths" "markCount" "I", Cond.methodLink RX0 51 yX0_shortenAll, Cond.instanceMethod yX0_shortenAll, Cond.selects RX0 yX0_shortenAll yX0_shortenAll, Cond.code yX0_shortenAll cX0_shortenAll 2 none, Cond.fieldLink RX0 9 "BranchLengths" "words" "[I"]
def wsX0_lay_r2 : List Cond := [Cond.methodLink RX0 54 yX0_setPlaces, Cond.instanceMethod yX0_setPlaces, Cond.selects RX0 yX0_setPlaces yX0_setPlaces, Cond.code yX0_setPlaces cX0_setPlaces 3 (some .int), Cond.fieldLink RX0 16 "BranchLengths" "places" "[I", Cond.methodLink RX0 57 yX0_lengthenUnreaching, Cond.instanceMethod yX0_lengthenUnreaching, Cond.selects RX0 yX0_lengthenUnreaching yX0_lengthenUnreaching, Cond.code yX0_lengthenUnreaching cX0_lengthenUnreaching 3 (some .int), Cond.methodLink RX0 73 yX0_reachesShort, Cond.instanceMethod yX0_reachesShort, Cond.selects RX0 yX0_reachesShort yX0_reachesShort, Cond.code yX0_reachesShort cX0_reachesShort 4 (some .boolean), Cond.fieldLink RX0 19 "BranchLengths" "markItems" "[I", Cond.fieldLink RX0 32 "BranchLengths" "reachNow" "I", Cond.methodLink RX0 67 yX0_isItem, Cond.instanceMethod yX0_isItem, Cond.selects RX0 yX0_isItem yX0_isItem, Cond.code yX0_isItem cX0_isItem 2 (some .boolean)]
def wsX0_lay : List Cond := .code yX0_lay cX0_lay 4 (some .int) :: ((wsX0_lay_r1 ++ wsX0_lay_r2) ++ wsX00)
def wsX0_least : List Cond := .code yX0_least cX0_least 1 (some .int) :: ([.fieldLink RX0 35 "BranchLengths" "markless" "I"] ++ wsX00)
def wsX0_isLaid : List Cond := .code yX0_isLaid cX0_isLaid 2 (some .boolean) :: ([.fieldLink RX0 38 "BranchLengths" "laidOut" "Z", .methodLink RX0 67 yX0_isItem, .instanceMethod yX0_isItem, .selects RX0 yX0_isItem yX0_isItem, .initialized RX0, .code yX0_isItem cX0_isItem 2 (some .boolean), .fieldLink RX0 22 "BranchLengths" "itemCount" "I"] ++ wsX00)
def wsX0_place : List Cond := .code yX0_place cX0_place 2 (some .int) :: ([.fieldLink RX0 16 "BranchLengths" "places" "[I", .methodLink RX0 60 yX0_isLaid, .instanceMethod yX0_isLaid, .selects RX0 yX0_isLaid yX0_isLaid, .initialized RX0, .code yX0_isLaid cX0_isLaid 2 (some .boolean), .fieldLink RX0 38 "BranchLengths" "laidOut" "Z", .methodLink RX0 67 yX0_isItem, .instanceMethod yX0_isItem, .selects RX0 yX0_isItem yX0_isItem, .code yX0_isItem cX0_isItem 2 (some .boolean), .fieldLink RX0 22 "BranchLengths" "itemCount" "I"] ++ wsX00)
def wsX0_isLong : List Cond := .code yX0_isLong cX0_isLong 2 (some .boolean) :: ([.fieldLink RX0 9 "BranchLengths" "words" "[I", .methodLink RX0 60 yX0_isLaid, .instanceMethod yX0_isLaid, .selects RX0 yX0_isLaid yX0_isLaid, .initialized RX0, .code yX0_isLaid cX0_isLaid 2 (some .boolean), .fieldLink RX0 38 "BranchLengths" "laidOut" "Z", .methodLink RX0 67 yX0_isItem, .instanceMethod yX0_isItem, .selects RX0 yX0_isItem yX0_isItem, .code yX0_isItem cX0_isItem 2 (some .boolean), .fieldLink RX0 22 "BranchLengths" "itemCount" "I", .methodLink RX0 64 yX0_isBranch, .instanceMethod yX0_isBranch, .selects RX0 yX0_isBranch yX0_isBranch, .code yX0_isBranch cX0_isBranch 2 (some .boolean), .fieldLink RX0 13 "BranchLengths" "targets" "[I"] ++ wsX00)
def wsX0_longs : List Cond := .code yX0_longs cX0_longs 1 (some .int) :: ([.fieldLink RX0 38 "BranchLengths" "laidOut" "Z", .fieldLink RX0 29 "BranchLengths" "longCount" "I"] ++ wsX00)
def wsX0_clear : List Cond := .code yX0_clear cX0_clear 1 none :: ([.fieldLink RX0 22 "BranchLengths" "itemCount" "I", .fieldLink RX0 26 "BranchLengths" "markCount" "I", .fieldLink RX0 38 "BranchLengths" "laidOut" "Z"] ++ wsX00)
def wsX0_items : List Cond := .code yX0_items cX0_items 1 (some .int) :: ([.fieldLink RX0 22 "BranchLengths" "itemCount" "I"] ++ wsX00)
def wsX0_marks : List Cond := .code yX0_marks cX0_marks 1 (some .int) :: ([.fieldLink RX0 26 "BranchLengths" "markCount" "I"] ++ wsX00)
def wsX1_init : List Cond := .code yX1_init cX1_init 1 none :: ([.methodLink RX1 1 objectInit, .instanceMethod objectInit, .code objectInit ⟨#[0xb1]⟩ 1 none, .arrayClass .int, .fieldLink RX1 9 "BranchLengthsModel" "kinds" "[I", .fieldLink RX1 13 "BranchLengthsModel" "numbers" "[I", .arrayClass .boolean, .fieldLink RX1 16 "BranchLengthsModel" "longOnes" "[Z", .fieldLink RX1 20 "BranchLengthsModel" "places" "[I", .fieldLink RX1 23 "BranchLengthsModel" "markItems" "[I", .fieldLink RX1 26 "BranchLengthsModel" "reach" "I", .fieldLink RX1 30 "BranchLengthsModel" "least" "I"] ++ wsX10)
def wsX1_item : List Cond := .code yX1_item cX1_item 3 (some .int) :: ([.fieldLink RX1 33 "BranchLengthsModel" "items" "I", .fieldLink RX1 9 "BranchLengthsModel" "kinds" "[I", .fieldLink RX1 13 "BranchLengthsModel" "numbers" "[I", .fieldLink RX1 36 "BranchLengthsModel" "laid" "Z"] ++ wsX10)
def wsX1_stretch : List Cond := .code yX1_stretch cX1_stretch 2 (some .int) :: ([.methodLink RX1 40 yX1_item, .instanceMethod yX1_item, .selects RX1 yX1_item yX1_item, .initialized RX1, .code yX1_item cX1_item 3 (some .int), .fieldLink RX1 33 "BranchLengthsModel" "items" "I", .fieldLink RX1 9 "BranchLengthsModel" "kinds" "[I", .fieldLink RX1 13 "BranchLengthsModel" "numbers" "[I", .fieldLink RX1 36 "BranchLengthsModel" "laid" "Z"] ++ wsX10)
def wsX1_mark : List Cond := .code yX1_mark cX1_mark 2 (some .int) :: ([.fieldLink RX1 23 "BranchLengthsModel" "markItems" "[I", .fieldLink RX1 44 "BranchLengthsModel" "marks" "I", .methodLink RX1 40 yX1_item, .instanceMethod yX1_item, .selects RX1 yX1_item yX1_item, .initialized RX1, .code yX1_item cX1_item 3 (some .int), .fieldLink RX1 33 "BranchLengthsModel" "items" "I", .fieldLink RX1 9 "BranchLengthsModel" "kinds" "[I", .fieldLink RX1 13 "BranchLengthsModel" "numbers" "[I", .fieldLink RX1 36 "BranchLengthsModel" "laid" "Z"] ++ wsX10)
def wsX1_branch : List Cond := .code yX1_branch cX1_branch 2 (some .int) :: ([.methodLink RX1 40 yX1_item, .instanceMethod yX1_item, .selects RX1 yX1_item yX1_item, .initialized RX1, .code yX1_item cX1_item 3 (some .int), .fieldLink RX1 33 "BranchLengthsModel" "items" "I", .fieldLink RX1 9 "BranchLengthsModel" "kinds" "[I", .fieldLink RX1 13 "BranchLengthsModel" "numbers" "[I", .fieldLink RX1 36 "BranchLengthsModel" "laid" "Z"] ++ wsX10)
def wsX1_reach : List Cond := .code yX1_reach cX1_reach 2 (some .boolean) :: ([.constant RX1 47 (100000), .fieldLink RX1 26 "BranchLengthsModel" "reach" "I", .fieldLink RX1 36 "BranchLengthsModel" "laid" "Z"] ++ wsX10)
def wsX1_addUp : List Cond := .code yX1_addUp cX1_addUp 2 none :: ([.fieldLink RX1 20 "BranchLengthsModel" "places" "[I", .fieldLink RX1 33 "BranchLengthsModel" "items" "I", .fieldLink RX1 9 "BranchLengthsModel" "kinds" "[I", .fieldLink RX1 13 "BranchLengthsModel" "numbers" "[I", .fieldLink RX1 16 "BranchLengthsModel" "longOnes" "[Z"] ++ wsX10)
def wsX1_reaches : List Cond := .code yX1_reaches cX1_reaches 3 (some .boolean) :: ([.fieldLink RX1 20 "BranchLengthsModel" "places" "[I", .fieldLink RX1 23 "BranchLengthsModel" "markItems" "[I", .fieldLink RX1 13 "BranchLengthsModel" "numbers" "[I", .fieldLink RX1 16 "BranchLengthsModel" "longOnes" "[Z", .fieldLink RX1 26 "BranchLengthsModel" "reach" "I"] ++ wsX10)
def wsX1_lay : List Cond := .code yX1_lay cX1_lay 3 (some .int) :: ([.fieldLink RX1 36 "BranchLengthsModel" "laid" "Z", .fieldLink RX1 30 "BranchLengthsModel" "least" "I", .fieldLink RX1 33 "BranchLengthsModel" "items" "I", .fieldLink RX1 9 "BranchLengthsModel" "kinds" "[I", .fieldLink RX1 13 "BranchLengthsModel" "numbers" "[I", .fieldLink RX1 44 "BranchLengthsModel" "marks" "I", .fieldLink RX1 16 "BranchLengthsModel" "longOnes" "[Z", .fieldLink RX1 20 "BranchLengthsModel" "places" "[I", .methodLink RX1 48 yX1_addUp, .instanceMethod yX1_addUp, .selects RX1 yX1_addUp yX1_addUp, .initialized RX1, .code yX1_addUp cX1_addUp 2 none, .methodLink RX1 51 yX1_reaches, .instanceMethod yX1_reaches, .selects RX1 yX1_reaches yX1_reaches, .code yX1_reaches cX1_reaches 3 (some .boolean), .fieldLink RX1 23 "BranchLengthsModel" "markItems" "[I", .fieldLink RX1 26 "BranchLengthsModel" "reach" "I"] ++ wsX10)
def wsX1_least : List Cond := .code yX1_least cX1_least 1 (some .int) :: ([.fieldLink RX1 30 "BranchLengthsModel" "least" "I"] ++ wsX10)
def wsX1_place : List Cond := .code yX1_place cX1_place 2 (some .int) :: ([.fieldLink RX1 36 "BranchLengthsModel" "laid" "Z", .fieldLink RX1 33 "BranchLengthsModel" "items" "I", .fieldLink RX1 20 "BranchLengthsModel" "places" "[I"] ++ wsX10)
def wsX1_isLong : List Cond := .code yX1_isLong cX1_isLong 2 (some .boolean) :: ([.fieldLink RX1 36 "BranchLengthsModel" "laid" "Z", .fieldLink RX1 33 "BranchLengthsModel" "items" "I", .fieldLink RX1 9 "BranchLengthsModel" "kinds" "[I", .fieldLink RX1 16 "BranchLengthsModel" "longOnes" "[Z"] ++ wsX10)
def wsX1_longs : List Cond := .code yX1_longs cX1_longs 3 (some .int) :: ([.fieldLink RX1 36 "BranchLengthsModel" "laid" "Z", .fieldLink RX1 33 "BranchLengthsModel" "items" "I", .fieldLink RX1 9 "BranchLengthsModel" "kinds" "[I", .fieldLink RX1 16 "BranchLengthsModel" "longOnes" "[Z"] ++ wsX10)
def wsX1_clear : List Cond := .code yX1_clear cX1_clear 1 none :: ([.fieldLink RX1 33 "BranchLengthsModel" "items" "I", .fieldLink RX1 44 "BranchLengthsModel" "marks" "I", .fieldLink RX1 36 "BranchLengthsModel" "laid" "Z"] ++ wsX10)
def wsX1_items : List Cond := .code yX1_items cX1_items 1 (some .int) :: ([.fieldLink RX1 33 "BranchLengthsModel" "items" "I"] ++ wsX10)
def wsX1_marks : List Cond := .code yX1_marks cX1_marks 1 (some .int) :: ([.fieldLink RX1 44 "BranchLengthsModel" "marks" "I"] ++ wsX10)
def wsL_law_r1 : List Cond := [Cond.classLink RL 7 RX0, Cond.instantiable RX0 10, Cond.initialized RX0, Cond.classLink RL 10 RX1, Cond.instantiable RX1 10, Cond.initialized RX1, Cond.methodLink RL 9 yX0_init, Cond.instanceMethod yX0_init, Cond.code yX0_init cX0_init 1 none, Cond.methodLink RX0 1 objectInit, Cond.instanceMethod objectInit, Cond.code objectInit ⟨#[0xb1]⟩ 1 none, Cond.arrayClass .int, Cond.fieldLink RX0 9 "BranchLengths" "words" "[I", Cond.fieldLink RX0 13 "BranchLengths" "targets" "[I", Cond.fieldLink RX0 16 "BranchLengths" "places" "[I", Cond.fieldLink RX0 19 "BranchLengths" "markItems" "[I", Cond.fieldLink RX0 22 "BranchLengths" "itemCount" "I", Cond.fieldLink RX0 26 "BranchLengths" "markCount" "I", Cond.fieldLink RX0 29 "BranchLengths" "longCount" "I", Cond.fieldLink RX0 32 "BranchLengths" "reachNow" "I", Cond.fieldLink RX0 35 "BranchLengths" "markless" "I", Cond.fieldLink RX0 38 "BranchLengths" "laidOut" "Z", Cond.methodLink RL 12 yX1_init]
def wsL_law_r2 : List Cond := [Cond.instanceMethod yX1_init, Cond.code yX1_init cX1_init 1 none, Cond.methodLink RX1 1 objectInit, Cond.fieldLink RX1 9 "BranchLengthsModel" "kinds" "[I", Cond.fieldLink RX1 13 "BranchLengthsModel" "numbers" "[I", Cond.arrayClass .boolean, Cond.fieldLink RX1 16 "BranchLengthsModel" "longOnes" "[Z", Cond.fieldLink RX1 20 "BranchLengthsModel" "places" "[I", Cond.fieldLink RX1 23 "BranchLengthsModel" "markItems" "[I", Cond.fieldLink RX1 26 "BranchLengthsModel" "reach" "I", Cond.fieldLink RX1 30 "BranchLengthsModel" "least" "I", Cond.methodLink RL 13 yX0_stretch, Cond.instanceMethod yX0_stretch, Cond.selects RX0 yX0_stretch yX0_stretch, Cond.code yX0_stretch cX0_stretch 2 (some .int), Cond.methodLink RX0 42 yX0_append, Cond.instanceMethod yX0_append, Cond.selects RX0 yX0_append yX0_append, Cond.code yX0_append cX0_append 4 (some .int), Cond.methodLink RL 17 yX1_stretch, Cond.instanceMethod yX1_stretch, Cond.selects RX1 yX1_stretch yX1_stretch, Cond.code yX1_stretch cX1_stretch 2 (some .int), Cond.methodLink RX1 40 yX1_item]
def wsL_law_r3 : List Cond := [Cond.instanceMethod yX1_item, Cond.selects RX1 yX1_item yX1_item, Cond.code yX1_item cX1_item 3 (some .int), Cond.fieldLink RX1 33 "BranchLengthsModel" "items" "I", Cond.fieldLink RX1 36 "BranchLengthsModel" "laid" "Z", Cond.methodLink RL 18 yX0_mark, Cond.instanceMethod yX0_mark, Cond.selects RX0 yX0_mark yX0_mark, Cond.code yX0_mark cX0_mark 2 (some .int), Cond.methodLink RL 22 yX1_mark, Cond.instanceMethod yX1_mark, Cond.selects RX1 yX1_mark yX1_mark, Cond.code yX1_mark cX1_mark 2 (some .int), Cond.fieldLink RX1 44 "BranchLengthsModel" "marks" "I", Cond.methodLink RL 23 yX0_branch, Cond.instanceMethod yX0_branch, Cond.selects RX0 yX0_branch yX0_branch, Cond.code yX0_branch cX0_branch 2 (some .int), Cond.methodLink RL 26 yX1_branch, Cond.instanceMethod yX1_branch, Cond.selects RX1 yX1_branch yX1_branch, Cond.code yX1_branch cX1_branch 2 (some .int), Cond.methodLink RL 27 yX0_reach, Cond.instanceMethod yX0_reach]
def wsL_law_r4 : List Cond := [Cond.selects RX0 yX0_reach yX0_reach, Cond.code yX0_reach cX0_reach 2 (some .boolean), Cond.constant RX0 46 (100000), Cond.methodLink RL 31 yX1_reach, Cond.instanceMethod yX1_reach, Cond.selects RX1 yX1_reach yX1_reach, Cond.code yX1_reach cX1_reach 2 (some .boolean), Cond.constant RX1 47 (100000), Cond.methodLink RL 32 yX0_lay, Cond.instanceMethod yX0_lay, Cond.selects RX0 yX0_lay yX0_lay, Cond.code yX0_lay cX0_lay 4 (some .int), Cond.methodLink RX0 47 yX0_firstMarkless, Cond.instanceMethod yX0_firstMarkless, Cond.selects RX0 yX0_firstMarkless yX0_firstMarkless, Cond.code yX0_firstMarkless cX0_firstMarkless 2 (some .int), Cond.methodLink RX0 64 yX0_isBranch, Cond.instanceMethod yX0_isBranch, Cond.selects RX0 yX0_isBranch yX0_isBranch, Cond.code yX0_isBranch cX0_isBranch 2 (some .boolean), Cond.methodLink RX0 70 yX0_isMark, Cond.instanceMethod yX0_isMark, Cond.selects RX0 yX0_isMark yX0_isMark, Cond.code yX0_isMark cX0_isMark 2 (some .boolean)]
def wsL_law_r5 : List Cond := [Cond.methodLink RX0 51 yX0_shortenAll, Cond.instanceMethod yX0_shortenAll, Cond.selects RX0 yX0_shortenAll yX0_shortenAll, Cond.code yX0_shortenAll cX0_shortenAll 2 none, Cond.methodLink RX0 54 yX0_setPlaces, Cond.instanceMethod yX0_setPlaces, Cond.selects RX0 yX0_setPlaces yX0_setPlaces, Cond.code yX0_setPlaces cX0_setPlaces 3 (some .int), Cond.methodLink RX0 57 yX0_lengthenUnreaching, Cond.instanceMethod yX0_lengthenUnreaching, Cond.selects RX0 yX0_lengthenUnreaching yX0_lengthenUnreaching, Cond.code yX0_lengthenUnreaching cX0_lengthenUnreaching 3 (some .int), Cond.methodLink RX0 73 yX0_reachesShort, Cond.instanceMethod yX0_reachesShort, Cond.selects RX0 yX0_reachesShort yX0_reachesShort, Cond.code yX0_reachesShort cX0_reachesShort 4 (some .boolean), Cond.methodLink RX0 67 yX0_isItem, Cond.instanceMethod yX0_isItem, Cond.selects RX0 yX0_isItem yX0_isItem, Cond.code yX0_isItem cX0_isItem 2 (some .boolean), Cond.methodLink RL 35 yX1_lay, Cond.instanceMethod yX1_lay, Cond.selects RX1 yX1_lay yX1_lay, Cond.code yX1_lay cX1_lay 3 (some .int)]
def wsL_law_r6 : List Cond := [Cond.methodLink RX1 48 yX1_addUp, Cond.instanceMethod yX1_addUp, Cond.selects RX1 yX1_addUp yX1_addUp, Cond.code yX1_addUp cX1_addUp 2 none, Cond.methodLink RX1 51 yX1_reaches, Cond.instanceMethod yX1_reaches, Cond.selects RX1 yX1_reaches yX1_reaches, Cond.code yX1_reaches cX1_reaches 3 (some .boolean), Cond.methodLink RL 36 yX0_least, Cond.instanceMethod yX0_least, Cond.selects RX0 yX0_least yX0_least, Cond.code yX0_least cX0_least 1 (some .int), Cond.methodLink RL 39 yX1_least, Cond.instanceMethod yX1_least, Cond.selects RX1 yX1_least yX1_least, Cond.code yX1_least cX1_least 1 (some .int), Cond.methodLink RL 40 yX0_place, Cond.instanceMethod yX0_place, Cond.selects RX0 yX0_place yX0_place, Cond.code yX0_place cX0_place 2 (some .int), Cond.methodLink RX0 60 yX0_isLaid, Cond.instanceMethod yX0_isLaid, Cond.selects RX0 yX0_isLaid yX0_isLaid, Cond.code yX0_isLaid cX0_isLaid 2 (some .boolean)]
def wsL_law_r7 : List Cond := [Cond.methodLink RL 43 yX1_place, Cond.instanceMethod yX1_place, Cond.selects RX1 yX1_place yX1_place, Cond.code yX1_place cX1_place 2 (some .int), Cond.methodLink RL 44 yX0_isLong, Cond.instanceMethod yX0_isLong, Cond.selects RX0 yX0_isLong yX0_isLong, Cond.code yX0_isLong cX0_isLong 2 (some .boolean), Cond.methodLink RL 47 yX1_isLong, Cond.instanceMethod yX1_isLong, Cond.selects RX1 yX1_isLong yX1_isLong, Cond.code yX1_isLong cX1_isLong 2 (some .boolean), Cond.methodLink RL 48 yX0_longs, Cond.instanceMethod yX0_longs, Cond.selects RX0 yX0_longs yX0_longs, Cond.code yX0_longs cX0_longs 1 (some .int), Cond.methodLink RL 51 yX1_longs, Cond.instanceMethod yX1_longs, Cond.selects RX1 yX1_longs yX1_longs, Cond.code yX1_longs cX1_longs 3 (some .int), Cond.methodLink RL 52 yX0_clear, Cond.instanceMethod yX0_clear, Cond.selects RX0 yX0_clear yX0_clear, Cond.code yX0_clear cX0_clear 1 none]
def wsL_law_r8 : List Cond := [Cond.methodLink RL 55 yX1_clear, Cond.instanceMethod yX1_clear, Cond.selects RX1 yX1_clear yX1_clear, Cond.code yX1_clear cX1_clear 1 none, Cond.methodLink RL 56 yX0_items, Cond.instanceMethod yX0_items, Cond.selects RX0 yX0_items yX0_items, Cond.code yX0_items cX0_items 1 (some .int), Cond.methodLink RL 59 yX1_items, Cond.instanceMethod yX1_items, Cond.selects RX1 yX1_items yX1_items, Cond.code yX1_items cX1_items 1 (some .int), Cond.methodLink RL 60 yX0_marks, Cond.instanceMethod yX0_marks, Cond.selects RX0 yX0_marks yX0_marks, Cond.code yX0_marks cX0_marks 1 (some .int), Cond.methodLink RL 63 yX1_marks, Cond.instanceMethod yX1_marks, Cond.selects RX1 yX1_marks yX1_marks, Cond.code yX1_marks cX1_marks 1 (some .int)]
def wsL_law : List Cond := (wsL_law_r1 ++ (wsL_law_r2 ++ (wsL_law_r3 ++ (wsL_law_r4 ++ (wsL_law_r5 ++ (wsL_law_r6 ++ (wsL_law_r7 ++ wsL_law_r8))))))) ++ wsX00 ++ wsX10 ++ ([] : List Cond)
set_option maxRecDepth 20000 in
theorem wsL_law_in : ∀ w ∈ wsL_law, w ∈ lw_tbl := fun w h => (goodIn_p wsL_law [20, 23, 149, 59, 63, 186, 190, 67, 194, 71, 198, 75, 202, 80, 84, 88, 92, 96, 100, 104, 108, 112, 207, 211, 215, 116, 219, 120, 124, 223, 128, 227, 132, 231, 136, 235, 140, 239, 144, 243] (by decide +kernel) (by decide +kernel) w h).1
theorem inlX0 : ∀ w ∈ wsX00, w ∈ wsL_law := fun _ h => List.mem_append_left _ (List.mem_append_left _ (List.mem_append_right _ h))
theorem inX0 : ∀ w ∈ wsX00, w ∈ lw_tbl := fun w h => wsL_law_in w (inlX0 w h)
theorem inlX1 : ∀ w ∈ wsX10, w ∈ wsL_law := fun _ h => List.mem_append_left _ (List.mem_append_right _ h)
theorem inX1 : ∀ w ∈ wsX10, w ∈ lw_tbl := fun w h => wsL_law_in w (inlX1 w h)
theorem dX0_init_0 : decode cX0_init 0 = .ok (.aload_n 0, 1) := by decide +kernel
theorem dX0_init_1 : decode cX0_init 1 = .ok (.invokespecial 1, 3) := by decide +kernel
theorem dX0_init_4 : decode cX0_init 4 = .ok (.aload_n 0, 1) := by decide +kernel
theorem dX0_init_5 : decode cX0_init 5 = .ok (.sipush 2000, 3) := by decide +kernel
theorem dX0_init_8 : decode cX0_init 8 = .ok (.newarray .int, 2) := by decide +kernel
theorem dX0_init_10 : decode cX0_init 10 = .ok (.putfield 9, 3) := by decide +kernel
theorem dX0_init_13 : decode cX0_init 13 = .ok (.aload_n 0, 1) := by decide +kernel
theorem dX0_init_14 : decode cX0_init 14 = .ok (.sipush 2000, 3) := by decide +kernel
theorem dX0_init_17 : decode cX0_init 17 = .ok (.newarray .int, 2) := by decide +kernel
theorem dX0_init_19 : decode cX0_init 19 = .ok (.putfield 13, 3) := by decide +kernel
theorem dX0_init_22 : decode cX0_init 22 = .ok (.aload_n 0, 1) := by decide +kernel
theorem dX0_init_23 : decode cX0_init 23 = .ok (.sipush 2000, 3) := by decide +kernel
theorem dX0_init_26 : decode cX0_init 26 = .ok (.newarray .int, 2) := by decide +kernel
theorem dX0_init_28 : decode cX0_init 28 = .ok (.putfield 16, 3) := by decide +kernel
theorem dX0_init_31 : decode cX0_init 31 = .ok (.aload_n 0, 1) := by decide +kernel
theorem dX0_init_32 : decode cX0_init 32 = .ok (.sipush 2000, 3) := by decide +kernel
theorem dX0_init_35 : decode cX0_init 35 = .ok (.newarray .int, 2) := by decide +kernel
theorem dX0_init_37 : decode cX0_init 37 = .ok (.putfield 19, 3) := by decide +kernel
theorem dX0_init_40 : decode cX0_init 40 = .ok (.aload_n 0, 1) := by decide +kernel
theorem dX0_init_41 : decode cX0_init 41 = .ok (.iconst 0, 1) := by decide +kernel
theorem dX0_init_42 : decode cX0_init 42 = .ok (.putfield 22, 3) := by decide +kernel
theorem dX0_init_45 : decode cX0_init 45 = .ok (.aload_n 0, 1) := by decide +kernel
theorem dX0_init_46 : decode cX0_init 46 = .ok (.iconst 0, 1) := by decide +kernel
theorem dX0_init_47 : decode cX0_init 47 = .ok (.putfield 26, 3) := by decide +kernel
theorem dX0_init_50 : decode cX0_init 50 = .ok (.aload_n 0, 1) := by decide +kernel
theorem dX0_init_51 : decode cX0_init 51 = .ok (.iconst 0, 1) := by decide +kernel
theorem dX0_init_52 : decode cX0_init 52 = .ok (.putfield 29, 3) := by decide +kernel
theorem dX0_init_55 : decode cX0_init 55 = .ok (.aload_n 0, 1) := by decide +kernel
theorem dX0_init_56 : decode cX0_init 56 = .ok (.sipush 1000, 3) := by decide +kernel
theorem dX0_init_59 : decode cX0_init 59 = .ok (.putfield 32, 3) := by decide +kernel
theorem dX0_init_62 : decode cX0_init 62 = .ok (.aload_n 0, 1) := by decide +kernel
theorem dX0_init_63 : decode cX0_init 63 = .ok (.iconst (-1), 1) := by decide +kernel
theorem dX0_init_64 : decode cX0_init 64 = .ok (.putfield 35, 3) := by decide +kernel
theorem dX0_init_67 : decode cX0_init 67 = .ok (.aload_n 0, 1) := by decide +kernel
theorem dX0_init_68 : decode cX0_init 68 = .ok (.iconst 0, 1) := by decide +kernel
theorem dX0_init_69 : decode cX0_init 69 = .ok (.putfield 38, 3) := by decide +kernel
theorem dX0_init_72 : decode cX0_init 72 = .ok (.return_, 1) := by decide +kernel
set_option maxRecDepth 20000 in
theorem ggX0_stretch_X0_append : GoodIn wsX0_stretch wsX0_append := goodIn_r _ [5, 6, 7, 8, 9, 10, 11, 12, 13, 14, 15, 16, 17, 18, 19] (by decide +kernel) (by decide +kernel)
set_option maxRecDepth 20000 in
theorem gX0_stretch_X0_append : GoodIn wsX0_stretch (wsV RX0 42 RX0 yX0_append wsX0_append) := goodIn_app (goodIn_of _ (by decide +kernel)) ggX0_stretch_X0_append
theorem dX0_stretch_0 : decode cX0_stretch 0 = .ok (.iload_n 1, 1) := by decide +kernel
theorem dX0_stretch_1 : decode cX0_stretch 1 = .ok (.ifCond .lt 10, 3) := by decide +kernel
theorem dX0_stretch_4 : decode cX0_stretch 4 = .ok (.iload_n 1, 1) := by decide +kernel
theorem dX0_stretch_5 : decode cX0_stretch 5 = .ok (.sipush 4000, 3) := by decide +kernel
theorem dX0_stretch_8 : decode cX0_stretch 8 = .ok (.if_icmp .le 5, 3) := by decide +kernel
theorem dX0_stretch_11 : decode cX0_stretch 11 = .ok (.iconst (-1), 1) := by decide +kernel
theorem dX0_stretch_12 : decode cX0_stretch 12 = .ok (.ireturn, 1) := by decide +kernel
theorem dX0_stretch_13 : decode cX0_stretch 13 = .ok (.aload_n 0, 1) := by decide +kernel
theorem dX0_stretch_14 : decode cX0_stretch 14 = .ok (.iload_n 1, 1) := by decide +kernel
theorem dX0_stretch_15 : decode cX0_stretch 15 = .ok (.iconst (-1), 1) := by decide +kernel
theorem dX0_stretch_16 : decode cX0_stretch 16 = .ok (.invokevirtual 42, 3) := by decide +kernel
theorem dX0_stretch_19 : decode cX0_stretch 19 = .ok (.ireturn, 1) := by decide +kernel
set_option maxRecDepth 20000 in
theorem ggX0_mark_X0_append : GoodIn wsX0_mark wsX0_append := goodIn_r _ [7, 8, 9, 10, 11, 12, 13, 14, 15, 16, 17, 18, 19, 20, 21] (by decide +kernel) (by decide +kernel)
set_option maxRecDepth 20000 in
theorem gX0_mark_X0_append : GoodIn wsX0_mark (wsV RX0 42 RX0 yX0_append wsX0_append) := goodIn_app (goodIn_of _ (by decide +kernel)) ggX0_mark_X0_append
theorem dX0_mark_0 : decode cX0_mark 0 = .ok (.aload_n 0, 1) := by decide +kernel
theorem dX0_mark_1 : decode cX0_mark 1 = .ok (.getfield 26, 3) := by decide +kernel
theorem dX0_mark_4 : decode cX0_mark 4 = .ok (.sipush 2000, 3) := by decide +kernel
theorem dX0_mark_7 : decode cX0_mark 7 = .ok (.if_icmp .lt 5, 3) := by decide +kernel
theorem dX0_mark_10 : decode cX0_mark 10 = .ok (.iconst (-1), 1) := by decide +kernel
theorem dX0_mark_11 : decode cX0_mark 11 = .ok (.ireturn, 1) := by decide +kernel
theorem dX0_mark_12 : decode cX0_mark 12 = .ok (.aload_n 0, 1) := by decide +kernel
theorem dX0_mark_13 : decode cX0_mark 13 = .ok (.iconst 0, 1) := by decide +kernel
theorem dX0_mark_14 : decode cX0_mark 14 = .ok (.iconst (-1), 1) := by decide +kernel
theorem dX0_mark_15 : decode cX0_mark 15 = .ok (.invokevirtual 42, 3) := by decide +kernel
theorem dX0_mark_18 : decode cX0_mark 18 = .ok (.istore_n 1, 1) := by decide +kernel
theorem dX0_mark_19 : decode cX0_mark 19 = .ok (.iload_n 1, 1) := by decide +kernel
theorem dX0_mark_20 : decode cX0_mark 20 = .ok (.iconst (-1), 1) := by decide +kernel
theorem dX0_mark_21 : decode cX0_mark 21 = .ok (.if_icmp .eq 23, 3) := by decide +kernel
theorem dX0_mark_24 : decode cX0_mark 24 = .ok (.aload_n 0, 1) := by decide +kernel
theorem dX0_mark_25 : decode cX0_mark 25 = .ok (.getfield 19, 3) := by decide +kernel
theorem dX0_mark_28 : decode cX0_mark 28 = .ok (.aload_n 0, 1) := by decide +kernel
theorem dX0_mark_29 : decode cX0_mark 29 = .ok (.getfield 26, 3) := by decide +kernel
theorem dX0_mark_32 : decode cX0_mark 32 = .ok (.iload_n 1, 1) := by decide +kernel
theorem dX0_mark_33 : decode cX0_mark 33 = .ok (.iastore, 1) := by decide +kernel
theorem dX0_mark_34 : decode cX0_mark 34 = .ok (.aload_n 0, 1) := by decide +kernel
theorem dX0_mark_35 : decode cX0_mark 35 = .ok (.dup, 1) := by decide +kernel
theorem dX0_mark_36 : decode cX0_mark 36 = .ok (.getfield 26, 3) := by decide +kernel
theorem dX0_mark_39 : decode cX0_mark 39 = .ok (.iconst 1, 1) := by decide +kernel
theorem dX0_mark_40 : decode cX0_mark 40 = .ok (.iadd, 1) := by decide +kernel
theorem dX0_mark_41 : decode cX0_mark 41 = .ok (.putfield 26, 3) := by decide +kernel
theorem dX0_mark_44 : decode cX0_mark 44 = .ok (.iload_n 1, 1) := by decide +kernel
theorem dX0_mark_45 : decode cX0_mark 45 = .ok (.ireturn, 1) := by decide +kernel
set_option maxRecDepth 20000 in
theorem ggX0_branch_X0_append : GoodIn wsX0_branch wsX0_append := goodIn_r _ [5, 6, 7, 8, 9, 10, 11, 12, 13, 14, 15, 16, 17, 18, 19] (by decide +kernel) (by decide +kernel)
set_option maxRecDepth 20000 in
theorem gX0_branch_X0_append : GoodIn wsX0_branch (wsV RX0 42 RX0 yX0_append wsX0_append) := goodIn_app (goodIn_of _ (by decide +kernel)) ggX0_branch_X0_append
theorem dX0_branch_0 : decode cX0_branch 0 = .ok (.iload_n 1, 1) := by decide +kernel
theorem dX0_branch_1 : decode cX0_branch 1 = .ok (.ifCond .ge 5, 3) := by decide +kernel
theorem dX0_branch_4 : decode cX0_branch 4 = .ok (.iconst (-1), 1) := by decide +kernel
theorem dX0_branch_5 : decode cX0_branch 5 = .ok (.ireturn, 1) := by decide +kernel
theorem dX0_branch_6 : decode cX0_branch 6 = .ok (.aload_n 0, 1) := by decide +kernel
theorem dX0_branch_7 : decode cX0_branch 7 = .ok (.iconst 1, 1) := by decide +kernel
theorem dX0_branch_8 : decode cX0_branch 8 = .ok (.iload_n 1, 1) := by decide +kernel
theorem dX0_branch_9 : decode cX0_branch 9 = .ok (.invokevirtual 42, 3) := by decide +kernel
theorem dX0_branch_12 : decode cX0_branch 12 = .ok (.ireturn, 1) := by decide +kernel
theorem dX0_reach_0 : decode cX0_reach 0 = .ok (.iload_n 1, 1) := by decide +kernel
theorem dX0_reach_1 : decode cX0_reach 1 = .ok (.iconst 1, 1) := by decide +kernel
theorem dX0_reach_2 : decode cX0_reach 2 = .ok (.if_icmp .lt 9, 3) := by decide +kernel
theorem dX0_reach_5 : decode cX0_reach 5 = .ok (.iload_n 1, 1) := by decide +kernel
theorem dX0_reach_6 : decode cX0_reach 6 = .ok (.ldc 46, 2) := by decide +kernel
theorem dX0_reach_8 : decode cX0_reach 8 = .ok (.if_icmp .le 5, 3) := by decide +kernel
theorem dX0_reach_11 : decode cX0_reach 11 = .ok (.iconst 0, 1) := by decide +kernel
theorem dX0_reach_12 : decode cX0_reach 12 = .ok (.ireturn, 1) := by decide +kernel
theorem dX0_reach_13 : decode cX0_reach 13 = .ok (.aload_n 0, 1) := by decide +kernel
theorem dX0_reach_14 : decode cX0_reach 14 = .ok (.iload_n 1, 1) := by decide +kernel
theorem dX0_reach_15 : decode cX0_reach 15 = .ok (.putfield 32, 3) := by decide +kernel
theorem dX0_reach_18 : decode cX0_reach 18 = .ok (.aload_n 0, 1) := by decide +kernel
theorem dX0_reach_19 : decode cX0_reach 19 = .ok (.iconst 0, 1) := by decide +kernel
theorem dX0_reach_20 : decode cX0_reach 20 = .ok (.putfield 38, 3) := by decide +kernel
theorem dX0_reach_23 : decode cX0_reach 23 = .ok (.iconst 1, 1) := by decide +kernel
theorem dX0_reach_24 : decode cX0_reach 24 = .ok (.ireturn, 1) := by decide +kernel
set_option maxRecDepth 20000 in
theorem ggX0_lay_X0_firstMarkless : GoodIn wsX0_lay wsX0_firstMarkless := goodIn_r _ [9, 3, 10, 11, 12, 13, 8, 14, 15, 16, 17, 18, 19, 44, 45, 46, 47, 48, 49, 50, 51, 52, 53] (by decide +kernel) (by decide +kernel)
set_option maxRecDepth 20000 in
theorem gX0_lay_X0_firstMarkless : GoodIn wsX0_lay (wsV RX0 47 RX0 yX0_firstMarkless wsX0_firstMarkless) := goodIn_app (goodIn_of _ (by decide +kernel)) ggX0_lay_X0_firstMarkless
set_option maxRecDepth 20000 in
theorem ggX0_lay_X0_shortenAll : GoodIn wsX0_lay wsX0_shortenAll := goodIn_r _ [23, 3, 24, 4, 11, 12, 13, 8, 14, 10, 44, 45, 46, 47, 48, 49, 50, 51, 52, 53] (by decide +kernel) (by decide +kernel)
set_option maxRecDepth 20000 in
theorem gX0_lay_X0_shortenAll : GoodIn wsX0_lay (wsV RX0 51 RX0 yX0_shortenAll wsX0_shortenAll) := goodIn_app (goodIn_of _ (by decide +kernel)) ggX0_lay_X0_shortenAll
set_option maxRecDepth 20000 in
theorem ggX0_lay_X0_setPlaces : GoodIn wsX0_lay wsX0_setPlaces := goodIn_r _ [28, 3, 29, 24, 44, 45, 46, 47, 48, 49, 50, 51, 52, 53] (by decide +kernel) (by decide +kernel)
set_option maxRecDepth 20000 in
theorem gX0_lay_X0_setPlaces : GoodIn wsX0_lay (wsV RX0 54 RX0 yX0_setPlaces wsX0_setPlaces) := goodIn_app (goodIn_of _ (by decide +kernel)) ggX0_lay_X0_setPlaces
set_option maxRecDepth 20000 in
theorem ggX0_lay_X0_lengthenUnreaching : GoodIn wsX0_lay wsX0_lengthenUnreaching := goodIn_r _ [33, 3, 24, 11, 12, 13, 8, 14, 10, 34, 35, 36, 37, 38, 29, 39, 15, 16, 17, 18, 19, 40, 41, 42, 43, 44, 45, 46, 47, 48, 49, 50, 51, 52, 53] (by decide +kernel) (by decide +kernel)
set_option maxRecDepth 20000 in
theorem gX0_lay_X0_lengthenUnreaching : GoodIn wsX0_lay (wsV RX0 57 RX0 yX0_lengthenUnreaching wsX0_lengthenUnreaching) := goodIn_app (goodIn_of _ (by decide +kernel)) ggX0_lay_X0_lengthenUnreaching
theorem dX0_lay_0 : decode cX0_lay 0 = .ok (.aload_n 0, 1) := by decide +kernel
theorem dX0_lay_1 : decode cX0_lay 1 = .ok (.aload_n 0, 1) := by decide +kernel
theorem dX0_lay_2 : decode cX0_lay 2 = .ok (.invokevirtual 47, 3) := by decide +kernel
theorem dX0_lay_5 : decode cX0_lay 5 = .ok (.putfield 35, 3) := by decide +kernel
theorem dX0_lay_8 : decode cX0_lay 8 = .ok (.aload_n 0, 1) := by decide +kernel
theorem dX0_lay_9 : decode cX0_lay 9 = .ok (.aload_n 0, 1) := by decide +kernel
theorem dX0_lay_10 : decode cX0_lay 10 = .ok (.getfield 35, 3) := by decide +kernel
theorem dX0_lay_13 : decode cX0_lay 13 = .ok (.iconst (-1), 1) := by decide +kernel
theorem dX0_lay_14 : decode cX0_lay 14 = .ok (.if_icmp .ne 7, 3) := by decide +kernel
theorem dX0_lay_17 : decode cX0_lay 17 = .ok (.iconst 1, 1) := by decide +kernel
theorem dX0_lay_18 : decode cX0_lay 18 = .ok (.goto 4, 3) := by decide +kernel
theorem dX0_lay_21 : decode cX0_lay 21 = .ok (.iconst 0, 1) := by decide +kernel
theorem dX0_lay_22 : decode cX0_lay 22 = .ok (.putfield 38, 3) := by decide +kernel
theorem dX0_lay_25 : decode cX0_lay 25 = .ok (.aload_n 0, 1) := by decide +kernel
theorem dX0_lay_26 : decode cX0_lay 26 = .ok (.getfield 38, 3) := by decide +kernel
theorem dX0_lay_29 : decode cX0_lay 29 = .ok (.ifCond .ne 5, 3) := by decide +kernel
theorem dX0_lay_32 : decode cX0_lay 32 = .ok (.iconst (-1), 1) := by decide +kernel
theorem dX0_lay_33 : decode cX0_lay 33 = .ok (.ireturn, 1) := by decide +kernel
theorem dX0_lay_34 : decode cX0_lay 34 = .ok (.aload_n 0, 1) := by decide +kernel
theorem dX0_lay_35 : decode cX0_lay 35 = .ok (.invokevirtual 51, 3) := by decide +kernel
theorem dX0_lay_38 : decode cX0_lay 38 = .ok (.aload_n 0, 1) := by decide +kernel
theorem dX0_lay_39 : decode cX0_lay 39 = .ok (.invokevirtual 54, 3) := by decide +kernel
theorem dX0_lay_42 : decode cX0_lay 42 = .ok (.istore_n 1, 1) := by decide +kernel
theorem dX0_lay_43 : decode cX0_lay 43 = .ok (.iconst 0, 1) := by decide +kernel
theorem dX0_lay_44 : decode cX0_lay 44 = .ok (.istore_n 2, 1) := by decide +kernel
theorem dX0_lay_45 : decode cX0_lay 45 = .ok (.iload_n 2, 1) := by decide +kernel
theorem dX0_lay_46 : decode cX0_lay 46 = .ok (.aload_n 0, 1) := by decide +kernel
theorem dX0_lay_47 : decode cX0_lay 47 = .ok (.getfield 22, 3) := by decide +kernel
theorem dX0_lay_50 : decode cX0_lay 50 = .ok (.if_icmp .ge 36, 3) := by decide +kernel
theorem dX0_lay_53 : decode cX0_lay 53 = .ok (.aload_n 0, 1) := by decide +kernel
theorem dX0_lay_54 : decode cX0_lay 54 = .ok (.invokevirtual 57, 3) := by decide +kernel
theorem dX0_lay_57 : decode cX0_lay 57 = .ok (.istore_n 3, 1) := by decide +kernel
theorem dX0_lay_58 : decode cX0_lay 58 = .ok (.iload_n 3, 1) := by decide +kernel
theorem dX0_lay_59 : decode cX0_lay 59 = .ok (.ifCond .ne 6, 3) := by decide +kernel
theorem dX0_lay_62 : decode cX0_lay 62 = .ok (.goto 24, 3) := by decide +kernel
theorem dX0_lay_65 : decode cX0_lay 65 = .ok (.aload_n 0, 1) := by decide +kernel
theorem dX0_lay_66 : decode cX0_lay 66 = .ok (.dup, 1) := by decide +kernel
theorem dX0_lay_67 : decode cX0_lay 67 = .ok (.getfield 29, 3) := by decide +kernel
theorem dX0_lay_70 : decode cX0_lay 70 = .ok (.iload_n 3, 1) := by decide +kernel
theorem dX0_lay_71 : decode cX0_lay 71 = .ok (.iadd, 1) := by decide +kernel
theorem dX0_lay_72 : decode cX0_lay 72 = .ok (.putfield 29, 3) := by decide +kernel
theorem dX0_lay_75 : decode cX0_lay 75 = .ok (.aload_n 0, 1) := by decide +kernel
theorem dX0_lay_76 : decode cX0_lay 76 = .ok (.invokevirtual 54, 3) := by decide +kernel
theorem dX0_lay_79 : decode cX0_lay 79 = .ok (.istore_n 1, 1) := by decide +kernel
theorem dX0_lay_80 : decode cX0_lay 80 = .ok (.iinc 2 1, 3) := by decide +kernel
theorem dX0_lay_83 : decode cX0_lay 83 = .ok (.goto (-38), 3) := by decide +kernel
theorem dX0_lay_86 : decode cX0_lay 86 = .ok (.iload_n 1, 1) := by decide +kernel
theorem dX0_lay_87 : decode cX0_lay 87 = .ok (.ireturn, 1) := by decide +kernel
theorem dX0_least_0 : decode cX0_least 0 = .ok (.aload_n 0, 1) := by decide +kernel
theorem dX0_least_1 : decode cX0_least 1 = .ok (.getfield 35, 3) := by decide +kernel
theorem dX0_least_4 : decode cX0_least 4 = .ok (.ireturn, 1) := by decide +kernel
set_option maxRecDepth 20000 in
theorem ggX0_place_X0_isLaid : GoodIn wsX0_place wsX0_isLaid := goodIn_r _ [6, 7, 8, 9, 10, 5, 11, 12, 13, 14, 15, 16, 17, 18, 19, 20, 21, 22] (by decide +kernel) (by decide +kernel)
set_option maxRecDepth 20000 in
theorem gX0_place_X0_isLaid : GoodIn wsX0_place (wsV RX0 60 RX0 yX0_isLaid wsX0_isLaid) := goodIn_app (goodIn_of _ (by decide +kernel)) ggX0_place_X0_isLaid
theorem dX0_place_0 : decode cX0_place 0 = .ok (.aload_n 0, 1) := by decide +kernel
theorem dX0_place_1 : decode cX0_place 1 = .ok (.iload_n 1, 1) := by decide +kernel
theorem dX0_place_2 : decode cX0_place 2 = .ok (.invokevirtual 60, 3) := by decide +kernel
theorem dX0_place_5 : decode cX0_place 5 = .ok (.ifCond .eq 12, 3) := by decide +kernel
theorem dX0_place_8 : decode cX0_place 8 = .ok (.aload_n 0, 1) := by decide +kernel
theorem dX0_place_9 : decode cX0_place 9 = .ok (.getfield 16, 3) := by decide +kernel
theorem dX0_place_12 : decode cX0_place 12 = .ok (.iload_n 1, 1) := by decide +kernel
theorem dX0_place_13 : decode cX0_place 13 = .ok (.iaload, 1) := by decide +kernel
theorem dX0_place_14 : decode cX0_place 14 = .ok (.goto 4, 3) := by decide +kernel
theorem dX0_place_17 : decode cX0_place 17 = .ok (.iconst (-1), 1) := by decide +kernel
theorem dX0_place_18 : decode cX0_place 18 = .ok (.ireturn, 1) := by decide +kernel
set_option maxRecDepth 20000 in
theorem ggX0_isLong_X0_isLaid : GoodIn wsX0_isLong wsX0_isLaid := goodIn_r _ [6, 7, 8, 9, 10, 5, 11, 12, 18, 19, 20, 21, 22, 23, 24, 25, 26, 27] (by decide +kernel) (by decide +kernel)
set_option maxRecDepth 20000 in
theorem gX0_isLong_X0_isLaid : GoodIn wsX0_isLong (wsV RX0 60 RX0 yX0_isLaid wsX0_isLaid) := goodIn_app (goodIn_of _ (by decide +kernel)) ggX0_isLong_X0_isLaid
set_option maxRecDepth 20000 in
theorem ggX0_isLong_X0_isBranch : GoodIn wsX0_isLong wsX0_isBranch := goodIn_r _ [16, 17, 18, 19, 20, 21, 22, 23, 24, 25, 26, 27] (by decide +kernel) (by decide +kernel)
set_option maxRecDepth 20000 in
theorem gX0_isLong_X0_isBranch : GoodIn wsX0_isLong (wsV RX0 64 RX0 yX0_isBranch wsX0_isBranch) := goodIn_app (goodIn_of _ (by decide +kernel)) ggX0_isLong_X0_isBranch
theorem dX0_isLong_0 : decode cX0_isLong 0 = .ok (.aload_n 0, 1) := by decide +kernel
theorem dX0_isLong_1 : decode cX0_isLong 1 = .ok (.iload_n 1, 1) := by decide +kernel
theorem dX0_isLong_2 : decode cX0_isLong 2 = .ok (.invokevirtual 60, 3) := by decide +kernel
theorem dX0_isLong_5 : decode cX0_isLong 5 = .ok (.ifCond .eq 25, 3) := by decide +kernel
theorem dX0_isLong_8 : decode cX0_isLong 8 = .ok (.aload_n 0, 1) := by decide +kernel
theorem dX0_isLong_9 : decode cX0_isLong 9 = .ok (.iload_n 1, 1) := by decide +kernel
theorem dX0_isLong_10 : decode cX0_isLong 10 = .ok (.invokevirtual 64, 3) := by decide +kernel
theorem dX0_isLong_13 : decode cX0_isLong 13 = .ok (.ifCond .eq 17, 3) := by decide +kernel
theorem dX0_isLong_16 : decode cX0_isLong 16 = .ok (.aload_n 0, 1) := by decide +kernel
theorem dX0_isLong_17 : decode cX0_isLong 17 = .ok (.getfield 9, 3) := by decide +kernel
theorem dX0_isLong_20 : decode cX0_isLong 20 = .ok (.iload_n 1, 1) := by decide +kernel
theorem dX0_isLong_21 : decode cX0_isLong 21 = .ok (.iaload, 1) := by decide +kernel
theorem dX0_isLong_22 : decode cX0_isLong 22 = .ok (.iconst 2, 1) := by decide +kernel
theorem dX0_isLong_23 : decode cX0_isLong 23 = .ok (.if_icmp .ne 7, 3) := by decide +kernel
theorem dX0_isLong_26 : decode cX0_isLong 26 = .ok (.iconst 1, 1) := by decide +kernel
theorem dX0_isLong_27 : decode cX0_isLong 27 = .ok (.goto 4, 3) := by decide +kernel
theorem dX0_isLong_30 : decode cX0_isLong 30 = .ok (.iconst 0, 1) := by decide +kernel
theorem dX0_isLong_31 : decode cX0_isLong 31 = .ok (.ireturn, 1) := by decide +kernel
theorem dX0_longs_0 : decode cX0_longs 0 = .ok (.aload_n 0, 1) := by decide +kernel
theorem dX0_longs_1 : decode cX0_longs 1 = .ok (.getfield 38, 3) := by decide +kernel
theorem dX0_longs_4 : decode cX0_longs 4 = .ok (.ifCond .eq 10, 3) := by decide +kernel
theorem dX0_longs_7 : decode cX0_longs 7 = .ok (.aload_n 0, 1) := by decide +kernel
theorem dX0_longs_8 : decode cX0_longs 8 = .ok (.getfield 29, 3) := by decide +kernel
theorem dX0_longs_11 : decode cX0_longs 11 = .ok (.goto 4, 3) := by decide +kernel
theorem dX0_longs_14 : decode cX0_longs 14 = .ok (.iconst (-1), 1) := by decide +kernel
theorem dX0_longs_15 : decode cX0_longs 15 = .ok (.ireturn, 1) := by decide +kernel
theorem dX0_clear_0 : decode cX0_clear 0 = .ok (.aload_n 0, 1) := by decide +kernel
theorem dX0_clear_1 : decode cX0_clear 1 = .ok (.iconst 0, 1) := by decide +kernel
theorem dX0_clear_2 : decode cX0_clear 2 = .ok (.putfield 22, 3) := by decide +kernel
theorem dX0_clear_5 : decode cX0_clear 5 = .ok (.aload_n 0, 1) := by decide +kernel
theorem dX0_clear_6 : decode cX0_clear 6 = .ok (.iconst 0, 1) := by decide +kernel
theorem dX0_clear_7 : decode cX0_clear 7 = .ok (.putfield 26, 3) := by decide +kernel
theorem dX0_clear_10 : decode cX0_clear 10 = .ok (.aload_n 0, 1) := by decide +kernel
theorem dX0_clear_11 : decode cX0_clear 11 = .ok (.iconst 0, 1) := by decide +kernel
theorem dX0_clear_12 : decode cX0_clear 12 = .ok (.putfield 38, 3) := by decide +kernel
theorem dX0_clear_15 : decode cX0_clear 15 = .ok (.return_, 1) := by decide +kernel
theorem dX0_items_0 : decode cX0_items 0 = .ok (.aload_n 0, 1) := by decide +kernel
theorem dX0_items_1 : decode cX0_items 1 = .ok (.getfield 22, 3) := by decide +kernel
theorem dX0_items_4 : decode cX0_items 4 = .ok (.ireturn, 1) := by decide +kernel
theorem dX0_marks_0 : decode cX0_marks 0 = .ok (.aload_n 0, 1) := by decide +kernel
theorem dX0_marks_1 : decode cX0_marks 1 = .ok (.getfield 26, 3) := by decide +kernel
theorem dX0_marks_4 : decode cX0_marks 4 = .ok (.ireturn, 1) := by decide +kernel
theorem dX0_append_0 : decode cX0_append 0 = .ok (.aload_n 0, 1) := by decide +kernel
theorem dX0_append_1 : decode cX0_append 1 = .ok (.getfield 22, 3) := by decide +kernel
theorem dX0_append_4 : decode cX0_append 4 = .ok (.sipush 2000, 3) := by decide +kernel
theorem dX0_append_7 : decode cX0_append 7 = .ok (.if_icmp .lt 5, 3) := by decide +kernel
theorem dX0_append_10 : decode cX0_append 10 = .ok (.iconst (-1), 1) := by decide +kernel
theorem dX0_append_11 : decode cX0_append 11 = .ok (.ireturn, 1) := by decide +kernel
theorem dX0_append_12 : decode cX0_append 12 = .ok (.aload_n 0, 1) := by decide +kernel
theorem dX0_append_13 : decode cX0_append 13 = .ok (.getfield 22, 3) := by decide +kernel
theorem dX0_append_16 : decode cX0_append 16 = .ok (.istore_n 3, 1) := by decide +kernel
theorem dX0_append_17 : decode cX0_append 17 = .ok (.aload_n 0, 1) := by decide +kernel
theorem dX0_append_18 : decode cX0_append 18 = .ok (.getfield 9, 3) := by decide +kernel
theorem dX0_append_21 : decode cX0_append 21 = .ok (.iload_n 3, 1) := by decide +kernel
theorem dX0_append_22 : decode cX0_append 22 = .ok (.iload_n 1, 1) := by decide +kernel
theorem dX0_append_23 : decode cX0_append 23 = .ok (.iastore, 1) := by decide +kernel
theorem dX0_append_24 : decode cX0_append 24 = .ok (.aload_n 0, 1) := by decide +kernel
theorem dX0_append_25 : decode cX0_append 25 = .ok (.getfield 13, 3) := by decide +kernel
theorem dX0_append_28 : decode cX0_append 28 = .ok (.iload_n 3, 1) := by decide +kernel
theorem dX0_append_29 : decode cX0_append 29 = .ok (.iload_n 2, 1) := by decide +kernel
theorem dX0_append_30 : decode cX0_append 30 = .ok (.iastore, 1) := by decide +kernel
theorem dX0_append_31 : decode cX0_append 31 = .ok (.aload_n 0, 1) := by decide +kernel
theorem dX0_append_32 : decode cX0_append 32 = .ok (.dup, 1) := by decide +kernel
theorem dX0_append_33 : decode cX0_append 33 = .ok (.getfield 22, 3) := by decide +kernel
theorem dX0_append_36 : decode cX0_append 36 = .ok (.iconst 1, 1) := by decide +kernel
theorem dX0_append_37 : decode cX0_append 37 = .ok (.iadd, 1) := by decide +kernel
theorem dX0_append_38 : decode cX0_append 38 = .ok (.putfield 22, 3) := by decide +kernel
theorem dX0_append_41 : decode cX0_append 41 = .ok (.aload_n 0, 1) := by decide +kernel
theorem dX0_append_42 : decode cX0_append 42 = .ok (.iconst 0, 1) := by decide +kernel
theorem dX0_append_43 : decode cX0_append 43 = .ok (.putfield 38, 3) := by decide +kernel
theorem dX0_append_46 : decode cX0_append 46 = .ok (.iload_n 3, 1) := by decide +kernel
theorem dX0_append_47 : decode cX0_append 47 = .ok (.ireturn, 1) := by decide +kernel
set_option maxRecDepth 20000 in
theorem ggX0_isLaid_X0_isItem : GoodIn wsX0_isLaid wsX0_isItem := goodIn_r _ [6, 7, 8, 9, 10, 11, 12, 13, 14, 15, 16, 17] (by decide +kernel) (by decide +kernel)
set_option maxRecDepth 20000 in
theorem gX0_isLaid_X0_isItem : GoodIn wsX0_isLaid (wsV RX0 67 RX0 yX0_isItem wsX0_isItem) := goodIn_app (goodIn_of _ (by decide +kernel)) ggX0_isLaid_X0_isItem
theorem dX0_isLaid_0 : decode cX0_isLaid 0 = .ok (.aload_n 0, 1) := by decide +kernel
theorem dX0_isLaid_1 : decode cX0_isLaid 1 = .ok (.getfield 38, 3) := by decide +kernel
theorem dX0_isLaid_4 : decode cX0_isLaid 4 = .ok (.ifCond .eq 15, 3) := by decide +kernel
theorem dX0_isLaid_7 : decode cX0_isLaid 7 = .ok (.aload_n 0, 1) := by decide +kernel
theorem dX0_isLaid_8 : decode cX0_isLaid 8 = .ok (.iload_n 1, 1) := by decide +kernel
theorem dX0_isLaid_9 : decode cX0_isLaid 9 = .ok (.invokevirtual 67, 3) := by decide +kernel
theorem dX0_isLaid_12 : decode cX0_isLaid 12 = .ok (.ifCond .eq 7, 3) := by decide +kernel
theorem dX0_isLaid_15 : decode cX0_isLaid 15 = .ok (.iconst 1, 1) := by decide +kernel
theorem dX0_isLaid_16 : decode cX0_isLaid 16 = .ok (.goto 4, 3) := by decide +kernel
theorem dX0_isLaid_19 : decode cX0_isLaid 19 = .ok (.iconst 0, 1) := by decide +kernel
theorem dX0_isLaid_20 : decode cX0_isLaid 20 = .ok (.ireturn, 1) := by decide +kernel
theorem dX0_isItem_0 : decode cX0_isItem 0 = .ok (.iload_n 1, 1) := by decide +kernel
theorem dX0_isItem_1 : decode cX0_isItem 1 = .ok (.ifCond .lt 15, 3) := by decide +kernel
theorem dX0_isItem_4 : decode cX0_isItem 4 = .ok (.iload_n 1, 1) := by decide +kernel
theorem dX0_isItem_5 : decode cX0_isItem 5 = .ok (.aload_n 0, 1) := by decide +kernel
theorem dX0_isItem_6 : decode cX0_isItem 6 = .ok (.getfield 22, 3) := by decide +kernel
theorem dX0_isItem_9 : decode cX0_isItem 9 = .ok (.if_icmp .ge 7, 3) := by decide +kernel
theorem dX0_isItem_12 : decode cX0_isItem 12 = .ok (.iconst 1, 1) := by decide +kernel
theorem dX0_isItem_13 : decode cX0_isItem 13 = .ok (.goto 4, 3) := by decide +kernel
theorem dX0_isItem_16 : decode cX0_isItem 16 = .ok (.iconst 0, 1) := by decide +kernel
theorem dX0_isItem_17 : decode cX0_isItem 17 = .ok (.ireturn, 1) := by decide +kernel
theorem dX0_isMark_0 : decode cX0_isMark 0 = .ok (.iload_n 1, 1) := by decide +kernel
theorem dX0_isMark_1 : decode cX0_isMark 1 = .ok (.ifCond .lt 15, 3) := by decide +kernel
theorem dX0_isMark_4 : decode cX0_isMark 4 = .ok (.iload_n 1, 1) := by decide +kernel
theorem dX0_isMark_5 : decode cX0_isMark 5 = .ok (.aload_n 0, 1) := by decide +kernel
theorem dX0_isMark_6 : decode cX0_isMark 6 = .ok (.getfield 26, 3) := by decide +kernel
theorem dX0_isMark_9 : decode cX0_isMark 9 = .ok (.if_icmp .ge 7, 3) := by decide +kernel
theorem dX0_isMark_12 : decode cX0_isMark 12 = .ok (.iconst 1, 1) := by decide +kernel
theorem dX0_isMark_13 : decode cX0_isMark 13 = .ok (.goto 4, 3) := by decide +kernel
theorem dX0_isMark_16 : decode cX0_isMark 16 = .ok (.iconst 0, 1) := by decide +kernel
theorem dX0_isMark_17 : decode cX0_isMark 17 = .ok (.ireturn, 1) := by decide +kernel
theorem dX0_isBranch_0 : decode cX0_isBranch 0 = .ok (.aload_n 0, 1) := by decide +kernel
theorem dX0_isBranch_1 : decode cX0_isBranch 1 = .ok (.getfield 13, 3) := by decide +kernel
theorem dX0_isBranch_4 : decode cX0_isBranch 4 = .ok (.iload_n 1, 1) := by decide +kernel
theorem dX0_isBranch_5 : decode cX0_isBranch 5 = .ok (.iaload, 1) := by decide +kernel
theorem dX0_isBranch_6 : decode cX0_isBranch 6 = .ok (.iconst (-1), 1) := by decide +kernel
theorem dX0_isBranch_7 : decode cX0_isBranch 7 = .ok (.if_icmp .eq 7, 3) := by decide +kernel
theorem dX0_isBranch_10 : decode cX0_isBranch 10 = .ok (.iconst 1, 1) := by decide +kernel
theorem dX0_isBranch_11 : decode cX0_isBranch 11 = .ok (.goto 4, 3) := by decide +kernel
theorem dX0_isBranch_14 : decode cX0_isBranch 14 = .ok (.iconst 0, 1) := by decide +kernel
theorem dX0_isBranch_15 : decode cX0_isBranch 15 = .ok (.ireturn, 1) := by decide +kernel
set_option maxRecDepth 20000 in
theorem ggX0_firstMarkless_X0_isBranch : GoodIn wsX0_firstMarkless wsX0_isBranch := goodIn_r _ [7, 2, 13, 14, 15, 16, 17, 18, 19, 20, 21, 22] (by decide +kernel) (by decide +kernel)
set_option maxRecDepth 20000 in
theorem gX0_firstMarkless_X0_isBranch : GoodIn wsX0_firstMarkless (wsV RX0 64 RX0 yX0_isBranch wsX0_isBranch) := goodIn_app (goodIn_of _ (by decide +kernel)) ggX0_firstMarkless_X0_isBranch
set_option maxRecDepth 20000 in
theorem ggX0_firstMarkless_X0_isMark : GoodIn wsX0_firstMarkless wsX0_isMark := goodIn_r _ [11, 12, 13, 14, 15, 16, 17, 18, 19, 20, 21, 22] (by decide +kernel) (by decide +kernel)
set_option maxRecDepth 20000 in
theorem gX0_firstMarkless_X0_isMark : GoodIn wsX0_firstMarkless (wsV RX0 70 RX0 yX0_isMark wsX0_isMark) := goodIn_app (goodIn_of _ (by decide +kernel)) ggX0_firstMarkless_X0_isMark
theorem dX0_firstMarkless_0 : decode cX0_firstMarkless 0 = .ok (.iconst 0, 1) := by decide +kernel
theorem dX0_firstMarkless_1 : decode cX0_firstMarkless 1 = .ok (.istore_n 1, 1) := by decide +kernel
theorem dX0_firstMarkless_2 : decode cX0_firstMarkless 2 = .ok (.iload_n 1, 1) := by decide +kernel
theorem dX0_firstMarkless_3 : decode cX0_firstMarkless 3 = .ok (.aload_n 0, 1) := by decide +kernel
theorem dX0_firstMarkless_4 : decode cX0_firstMarkless 4 = .ok (.getfield 22, 3) := by decide +kernel
theorem dX0_firstMarkless_7 : decode cX0_firstMarkless 7 = .ok (.if_icmp .ge 32, 3) := by decide +kernel
theorem dX0_firstMarkless_10 : decode cX0_firstMarkless 10 = .ok (.aload_n 0, 1) := by decide +kernel
theorem dX0_firstMarkless_11 : decode cX0_firstMarkless 11 = .ok (.iload_n 1, 1) := by decide +kernel
theorem dX0_firstMarkless_12 : decode cX0_firstMarkless 12 = .ok (.invokevirtual 64, 3) := by decide +kernel
theorem dX0_firstMarkless_15 : decode cX0_firstMarkless 15 = .ok (.ifCond .eq 18, 3) := by decide +kernel
theorem dX0_firstMarkless_18 : decode cX0_firstMarkless 18 = .ok (.aload_n 0, 1) := by decide +kernel
theorem dX0_firstMarkless_19 : decode cX0_firstMarkless 19 = .ok (.aload_n 0, 1) := by decide +kernel
theorem dX0_firstMarkless_20 : decode cX0_firstMarkless 20 = .ok (.getfield 13, 3) := by decide +kernel
theorem dX0_firstMarkless_23 : decode cX0_firstMarkless 23 = .ok (.iload_n 1, 1) := by decide +kernel
theorem dX0_firstMarkless_24 : decode cX0_firstMarkless 24 = .ok (.iaload, 1) := by decide +kernel
theorem dX0_firstMarkless_25 : decode cX0_firstMarkless 25 = .ok (.invokevirtual 70, 3) := by decide +kernel
theorem dX0_firstMarkless_28 : decode cX0_firstMarkless 28 = .ok (.ifCond .ne 5, 3) := by decide +kernel
theorem dX0_firstMarkless_31 : decode cX0_firstMarkless 31 = .ok (.iload_n 1, 1) := by decide +kernel
theorem dX0_firstMarkless_32 : decode cX0_firstMarkless 32 = .ok (.ireturn, 1) := by decide +kernel
theorem dX0_firstMarkless_33 : decode cX0_firstMarkless 33 = .ok (.iinc 1 1, 3) := by decide +kernel
theorem dX0_firstMarkless_36 : decode cX0_firstMarkless 36 = .ok (.goto (-34), 3) := by decide +kernel
theorem dX0_firstMarkless_39 : decode cX0_firstMarkless 39 = .ok (.iconst (-1), 1) := by decide +kernel
theorem dX0_firstMarkless_40 : decode cX0_firstMarkless 40 = .ok (.ireturn, 1) := by decide +kernel
set_option maxRecDepth 20000 in
theorem ggX0_shortenAll_X0_isBranch : GoodIn wsX0_shortenAll wsX0_isBranch := goodIn_r _ [8, 9, 10, 11, 12, 13, 14, 15, 16, 17, 18, 19] (by decide +kernel) (by decide +kernel)
set_option maxRecDepth 20000 in
theorem gX0_shortenAll_X0_isBranch : GoodIn wsX0_shortenAll (wsV RX0 64 RX0 yX0_isBranch wsX0_isBranch) := goodIn_app (goodIn_of _ (by decide +kernel)) ggX0_shortenAll_X0_isBranch
theorem dX0_shortenAll_0 : decode cX0_shortenAll 0 = .ok (.iconst 0, 1) := by decide +kernel
theorem dX0_shortenAll_1 : decode cX0_shortenAll 1 = .ok (.istore_n 1, 1) := by decide +kernel
theorem dX0_shortenAll_2 : decode cX0_shortenAll 2 = .ok (.iload_n 1, 1) := by decide +kernel
theorem dX0_shortenAll_3 : decode cX0_shortenAll 3 = .ok (.aload_n 0, 1) := by decide +kernel
theorem dX0_shortenAll_4 : decode cX0_shortenAll 4 = .ok (.getfield 22, 3) := by decide +kernel
theorem dX0_shortenAll_7 : decode cX0_shortenAll 7 = .ok (.if_icmp .ge 24, 3) := by decide +kernel
theorem dX0_shortenAll_10 : decode cX0_shortenAll 10 = .ok (.aload_n 0, 1) := by decide +kernel
theorem dX0_shortenAll_11 : decode cX0_shortenAll 11 = .ok (.iload_n 1, 1) := by decide +kernel
theorem dX0_shortenAll_12 : decode cX0_shortenAll 12 = .ok (.invokevirtual 64, 3) := by decide +kernel
theorem dX0_shortenAll_15 : decode cX0_shortenAll 15 = .ok (.ifCond .eq 10, 3) := by decide +kernel
theorem dX0_shortenAll_18 : decode cX0_shortenAll 18 = .ok (.aload_n 0, 1) := by decide +kernel
theorem dX0_shortenAll_19 : decode cX0_shortenAll 19 = .ok (.getfield 9, 3) := by decide +kernel
theorem dX0_shortenAll_22 : decode cX0_shortenAll 22 = .ok (.iload_n 1, 1) := by decide +kernel
theorem dX0_shortenAll_23 : decode cX0_shortenAll 23 = .ok (.iconst 1, 1) := by decide +kernel
theorem dX0_shortenAll_24 : decode cX0_shortenAll 24 = .ok (.iastore, 1) := by decide +kernel
theorem dX0_shortenAll_25 : decode cX0_shortenAll 25 = .ok (.iinc 1 1, 3) := by decide +kernel
theorem dX0_shortenAll_28 : decode cX0_shortenAll 28 = .ok (.goto (-26), 3) := by decide +kernel
theorem dX0_shortenAll_31 : decode cX0_shortenAll 31 = .ok (.aload_n 0, 1) := by decide +kernel
theorem dX0_shortenAll_32 : decode cX0_shortenAll 32 = .ok (.iconst 0, 1) := by decide +kernel
theorem dX0_shortenAll_33 : decode cX0_shortenAll 33 = .ok (.putfield 29, 3) := by decide +kernel
theorem dX0_shortenAll_36 : decode cX0_shortenAll 36 = .ok (.return_, 1) := by decide +kernel
theorem dX0_setPlaces_0 : decode cX0_setPlaces 0 = .ok (.iconst 0, 1) := by decide +kernel
theorem dX0_setPlaces_1 : decode cX0_setPlaces 1 = .ok (.istore_n 1, 1) := by decide +kernel
theorem dX0_setPlaces_2 : decode cX0_setPlaces 2 = .ok (.iconst 0, 1) := by decide +kernel
theorem dX0_setPlaces_3 : decode cX0_setPlaces 3 = .ok (.istore_n 2, 1) := by decide +kernel
theorem dX0_setPlaces_4 : decode cX0_setPlaces 4 = .ok (.iload_n 2, 1) := by decide +kernel
theorem dX0_setPlaces_5 : decode cX0_setPlaces 5 = .ok (.aload_n 0, 1) := by decide +kernel
theorem dX0_setPlaces_6 : decode cX0_setPlaces 6 = .ok (.getfield 22, 3) := by decide +kernel
theorem dX0_setPlaces_9 : decode cX0_setPlaces 9 = .ok (.if_icmp .ge 25, 3) := by decide +kernel
theorem dX0_setPlaces_12 : decode cX0_setPlaces 12 = .ok (.aload_n 0, 1) := by decide +kernel
theorem dX0_setPlaces_13 : decode cX0_setPlaces 13 = .ok (.getfield 16, 3) := by decide +kernel
theorem dX0_setPlaces_16 : decode cX0_setPlaces 16 = .ok (.iload_n 2, 1) := by decide +kernel
theorem dX0_setPlaces_17 : decode cX0_setPlaces 17 = .ok (.iload_n 1, 1) := by decide +kernel
theorem dX0_setPlaces_18 : decode cX0_setPlaces 18 = .ok (.iastore, 1) := by decide +kernel
theorem dX0_setPlaces_19 : decode cX0_setPlaces 19 = .ok (.iload_n 1, 1) := by decide +kernel
theorem dX0_setPlaces_20 : decode cX0_setPlaces 20 = .ok (.aload_n 0, 1) := by decide +kernel
theorem dX0_setPlaces_21 : decode cX0_setPlaces 21 = .ok (.getfield 9, 3) := by decide +kernel
theorem dX0_setPlaces_24 : decode cX0_setPlaces 24 = .ok (.iload_n 2, 1) := by decide +kernel
theorem dX0_setPlaces_25 : decode cX0_setPlaces 25 = .ok (.iaload, 1) := by decide +kernel
theorem dX0_setPlaces_26 : decode cX0_setPlaces 26 = .ok (.iadd, 1) := by decide +kernel
theorem dX0_setPlaces_27 : decode cX0_setPlaces 27 = .ok (.istore_n 1, 1) := by decide +kernel
theorem dX0_setPlaces_28 : decode cX0_setPlaces 28 = .ok (.iinc 2 1, 3) := by decide +kernel
theorem dX0_setPlaces_31 : decode cX0_setPlaces 31 = .ok (.goto (-27), 3) := by decide +kernel
theorem dX0_setPlaces_34 : decode cX0_setPlaces 34 = .ok (.iload_n 1, 1) := by decide +kernel
theorem dX0_setPlaces_35 : decode cX0_setPlaces 35 = .ok (.ireturn, 1) := by decide +kernel
set_option maxRecDepth 20000 in
theorem ggX0_lengthenUnreaching_X0_isBranch : GoodIn wsX0_lengthenUnreaching wsX0_isBranch := goodIn_r _ [7, 8, 25, 26, 27, 28, 29, 30, 31, 32, 33, 34] (by decide +kernel) (by decide +kernel)
set_option maxRecDepth 20000 in
theorem gX0_lengthenUnreaching_X0_isBranch : GoodIn wsX0_lengthenUnreaching (wsV RX0 64 RX0 yX0_isBranch wsX0_isBranch) := goodIn_app (goodIn_of _ (by decide +kernel)) ggX0_lengthenUnreaching_X0_isBranch
set_option maxRecDepth 20000 in
theorem ggX0_lengthenUnreaching_X0_reachesShort : GoodIn wsX0_lengthenUnreaching wsX0_reachesShort := goodIn_r _ [12, 8, 13, 14, 15, 16, 17, 18, 6, 19, 20, 21, 22, 23, 24, 1, 25, 26, 27, 28, 29, 30, 31, 32, 33, 34] (by decide +kernel) (by decide +kernel)
set_option maxRecDepth 20000 in
theorem gX0_lengthenUnreaching_X0_reachesShort : GoodIn wsX0_lengthenUnreaching (wsV RX0 73 RX0 yX0_reachesShort wsX0_reachesShort) := goodIn_app (goodIn_of _ (by decide +kernel)) ggX0_lengthenUnreaching_X0_reachesShort
theorem dX0_lengthenUnreaching_0 : decode cX0_lengthenUnreaching 0 = .ok (.iconst 0, 1) := by decide +kernel
theorem dX0_lengthenUnreaching_1 : decode cX0_lengthenUnreaching 1 = .ok (.istore_n 1, 1) := by decide +kernel
theorem dX0_lengthenUnreaching_2 : decode cX0_lengthenUnreaching 2 = .ok (.iconst 0, 1) := by decide +kernel
theorem dX0_lengthenUnreaching_3 : decode cX0_lengthenUnreaching 3 = .ok (.istore_n 2, 1) := by decide +kernel
theorem dX0_lengthenUnreaching_4 : decode cX0_lengthenUnreaching 4 = .ok (.iload_n 2, 1) := by decide +kernel
theorem dX0_lengthenUnreaching_5 : decode cX0_lengthenUnreaching 5 = .ok (.aload_n 0, 1) := by decide +kernel
theorem dX0_lengthenUnreaching_6 : decode cX0_lengthenUnreaching 6 = .ok (.getfield 22, 3) := by decide +kernel
theorem dX0_lengthenUnreaching_9 : decode cX0_lengthenUnreaching 9 = .ok (.if_icmp .ge 45, 3) := by decide +kernel
theorem dX0_lengthenUnreaching_12 : decode cX0_lengthenUnreaching 12 = .ok (.aload_n 0, 1) := by decide +kernel
theorem dX0_lengthenUnreaching_13 : decode cX0_lengthenUnreaching 13 = .ok (.iload_n 2, 1) := by decide +kernel
theorem dX0_lengthenUnreaching_14 : decode cX0_lengthenUnreaching 14 = .ok (.invokevirtual 64, 3) := by decide +kernel
theorem dX0_lengthenUnreaching_17 : decode cX0_lengthenUnreaching 17 = .ok (.ifCond .eq 31, 3) := by decide +kernel
theorem dX0_lengthenUnreaching_20 : decode cX0_lengthenUnreaching 20 = .ok (.aload_n 0, 1) := by decide +kernel
theorem dX0_lengthenUnreaching_21 : decode cX0_lengthenUnreaching 21 = .ok (.getfield 9, 3) := by decide +kernel
theorem dX0_lengthenUnreaching_24 : decode cX0_lengthenUnreaching 24 = .ok (.iload_n 2, 1) := by decide +kernel
theorem dX0_lengthenUnreaching_25 : decode cX0_lengthenUnreaching 25 = .ok (.iaload, 1) := by decide +kernel
theorem dX0_lengthenUnreaching_26 : decode cX0_lengthenUnreaching 26 = .ok (.iconst 1, 1) := by decide +kernel
theorem dX0_lengthenUnreaching_27 : decode cX0_lengthenUnreaching 27 = .ok (.if_icmp .ne 21, 3) := by decide +kernel
theorem dX0_lengthenUnreaching_30 : decode cX0_lengthenUnreaching 30 = .ok (.aload_n 0, 1) := by decide +kernel
theorem dX0_lengthenUnreaching_31 : decode cX0_lengthenUnreaching 31 = .ok (.iload_n 2, 1) := by decide +kernel
theorem dX0_lengthenUnreaching_32 : decode cX0_lengthenUnreaching 32 = .ok (.invokevirtual 73, 3) := by decide +kernel
theorem dX0_lengthenUnreaching_35 : decode cX0_lengthenUnreaching 35 = .ok (.ifCond .ne 13, 3) := by decide +kernel
theorem dX0_lengthenUnreaching_38 : decode cX0_lengthenUnreaching 38 = .ok (.aload_n 0, 1) := by decide +kernel
theorem dX0_lengthenUnreaching_39 : decode cX0_lengthenUnreaching 39 = .ok (.getfield 9, 3) := by decide +kernel
theorem dX0_lengthenUnreaching_42 : decode cX0_lengthenUnreaching 42 = .ok (.iload_n 2, 1) := by decide +kernel
theorem dX0_lengthenUnreaching_43 : decode cX0_lengthenUnreaching 43 = .ok (.iconst 2, 1) := by decide +kernel
theorem dX0_lengthenUnreaching_44 : decode cX0_lengthenUnreaching 44 = .ok (.iastore, 1) := by decide +kernel
theorem dX0_lengthenUnreaching_45 : decode cX0_lengthenUnreaching 45 = .ok (.iinc 1 1, 3) := by decide +kernel
theorem dX0_lengthenUnreaching_48 : decode cX0_lengthenUnreaching 48 = .ok (.iinc 2 1, 3) := by decide +kernel
theorem dX0_lengthenUnreaching_51 : decode cX0_lengthenUnreaching 51 = .ok (.goto (-47), 3) := by decide +kernel
theorem dX0_lengthenUnreaching_54 : decode cX0_lengthenUnreaching 54 = .ok (.iload_n 1, 1) := by decide +kernel
theorem dX0_lengthenUnreaching_55 : decode cX0_lengthenUnreaching 55 = .ok (.ireturn, 1) := by decide +kernel
set_option maxRecDepth 20000 in
theorem ggX0_reachesShort_X0_isMark : GoodIn wsX0_reachesShort wsX0_isMark := goodIn_r _ [9, 10, 16, 17, 18, 19, 20, 21, 22, 23, 24, 25] (by decide +kernel) (by decide +kernel)
set_option maxRecDepth 20000 in
theorem gX0_reachesShort_X0_isMark : GoodIn wsX0_reachesShort (wsV RX0 70 RX0 yX0_isMark wsX0_isMark) := goodIn_app (goodIn_of _ (by decide +kernel)) ggX0_reachesShort_X0_isMark
set_option maxRecDepth 20000 in
theorem ggX0_reachesShort_X0_isItem : GoodIn wsX0_reachesShort wsX0_isItem := goodIn_r _ [14, 15, 16, 17, 18, 19, 20, 21, 22, 23, 24, 25] (by decide +kernel) (by decide +kernel)
set_option maxRecDepth 20000 in
theorem gX0_reachesShort_X0_isItem : GoodIn wsX0_reachesShort (wsV RX0 67 RX0 yX0_isItem wsX0_isItem) := goodIn_app (goodIn_of _ (by decide +kernel)) ggX0_reachesShort_X0_isItem
theorem dX0_reachesShort_0 : decode cX0_reachesShort 0 = .ok (.aload_n 0, 1) := by decide +kernel
theorem dX0_reachesShort_1 : decode cX0_reachesShort 1 = .ok (.getfield 13, 3) := by decide +kernel
theorem dX0_reachesShort_4 : decode cX0_reachesShort 4 = .ok (.iload_n 1, 1) := by decide +kernel
theorem dX0_reachesShort_5 : decode cX0_reachesShort 5 = .ok (.iaload, 1) := by decide +kernel
theorem dX0_reachesShort_6 : decode cX0_reachesShort 6 = .ok (.istore_n 2, 1) := by decide +kernel
theorem dX0_reachesShort_7 : decode cX0_reachesShort 7 = .ok (.aload_n 0, 1) := by decide +kernel
theorem dX0_reachesShort_8 : decode cX0_reachesShort 8 = .ok (.iload_n 2, 1) := by decide +kernel
theorem dX0_reachesShort_9 : decode cX0_reachesShort 9 = .ok (.invokevirtual 70, 3) := by decide +kernel
theorem dX0_reachesShort_12 : decode cX0_reachesShort 12 = .ok (.ifCond .eq 16, 3) := by decide +kernel
theorem dX0_reachesShort_15 : decode cX0_reachesShort 15 = .ok (.aload_n 0, 1) := by decide +kernel
theorem dX0_reachesShort_16 : decode cX0_reachesShort 16 = .ok (.aload_n 0, 1) := by decide +kernel
theorem dX0_reachesShort_17 : decode cX0_reachesShort 17 = .ok (.getfield 19, 3) := by decide +kernel
theorem dX0_reachesShort_20 : decode cX0_reachesShort 20 = .ok (.iload_n 2, 1) := by decide +kernel
theorem dX0_reachesShort_21 : decode cX0_reachesShort 21 = .ok (.iaload, 1) := by decide +kernel
theorem dX0_reachesShort_22 : decode cX0_reachesShort 22 = .ok (.invokevirtual 67, 3) := by decide +kernel
theorem dX0_reachesShort_25 : decode cX0_reachesShort 25 = .ok (.ifCond .ne 5, 3) := by decide +kernel
theorem dX0_reachesShort_28 : decode cX0_reachesShort 28 = .ok (.iconst 0, 1) := by decide +kernel
theorem dX0_reachesShort_29 : decode cX0_reachesShort 29 = .ok (.ireturn, 1) := by decide +kernel
theorem dX0_reachesShort_30 : decode cX0_reachesShort 30 = .ok (.aload_n 0, 1) := by decide +kernel
theorem dX0_reachesShort_31 : decode cX0_reachesShort 31 = .ok (.getfield 16, 3) := by decide +kernel
theorem dX0_reachesShort_34 : decode cX0_reachesShort 34 = .ok (.aload_n 0, 1) := by decide +kernel
theorem dX0_reachesShort_35 : decode cX0_reachesShort 35 = .ok (.getfield 19, 3) := by decide +kernel
theorem dX0_reachesShort_38 : decode cX0_reachesShort 38 = .ok (.iload_n 2, 1) := by decide +kernel
theorem dX0_reachesShort_39 : decode cX0_reachesShort 39 = .ok (.iaload, 1) := by decide +kernel
theorem dX0_reachesShort_40 : decode cX0_reachesShort 40 = .ok (.iaload, 1) := by decide +kernel
theorem dX0_reachesShort_41 : decode cX0_reachesShort 41 = .ok (.aload_n 0, 1) := by decide +kernel
theorem dX0_reachesShort_42 : decode cX0_reachesShort 42 = .ok (.getfield 16, 3) := by decide +kernel
theorem dX0_reachesShort_45 : decode cX0_reachesShort 45 = .ok (.iload_n 1, 1) := by decide +kernel
theorem dX0_reachesShort_46 : decode cX0_reachesShort 46 = .ok (.iaload, 1) := by decide +kernel
theorem dX0_reachesShort_47 : decode cX0_reachesShort 47 = .ok (.isub, 1) := by decide +kernel
theorem dX0_reachesShort_48 : decode cX0_reachesShort 48 = .ok (.istore_n 3, 1) := by decide +kernel
theorem dX0_reachesShort_49 : decode cX0_reachesShort 49 = .ok (.iload_n 3, 1) := by decide +kernel
theorem dX0_reachesShort_50 : decode cX0_reachesShort 50 = .ok (.aload_n 0, 1) := by decide +kernel
theorem dX0_reachesShort_51 : decode cX0_reachesShort 51 = .ok (.getfield 32, 3) := by decide +kernel
theorem dX0_reachesShort_54 : decode cX0_reachesShort 54 = .ok (.ineg, 1) := by decide +kernel
theorem dX0_reachesShort_55 : decode cX0_reachesShort 55 = .ok (.if_icmp .lt 15, 3) := by decide +kernel
theorem dX0_reachesShort_58 : decode cX0_reachesShort 58 = .ok (.iload_n 3, 1) := by decide +kernel
theorem dX0_reachesShort_59 : decode cX0_reachesShort 59 = .ok (.aload_n 0, 1) := by decide +kernel
theorem dX0_reachesShort_60 : decode cX0_reachesShort 60 = .ok (.getfield 32, 3) := by decide +kernel
theorem dX0_reachesShort_63 : decode cX0_reachesShort 63 = .ok (.if_icmp .gt 7, 3) := by decide +kernel
theorem dX0_reachesShort_66 : decode cX0_reachesShort 66 = .ok (.iconst 1, 1) := by decide +kernel
theorem dX0_reachesShort_67 : decode cX0_reachesShort 67 = .ok (.goto 4, 3) := by decide +kernel
theorem dX0_reachesShort_70 : decode cX0_reachesShort 70 = .ok (.iconst 0, 1) := by decide +kernel
theorem dX0_reachesShort_71 : decode cX0_reachesShort 71 = .ok (.ireturn, 1) := by decide +kernel
theorem dX1_init_0 : decode cX1_init 0 = .ok (.aload_n 0, 1) := by decide +kernel
theorem dX1_init_1 : decode cX1_init 1 = .ok (.invokespecial 1, 3) := by decide +kernel
theorem dX1_init_4 : decode cX1_init 4 = .ok (.aload_n 0, 1) := by decide +kernel
theorem dX1_init_5 : decode cX1_init 5 = .ok (.sipush 2000, 3) := by decide +kernel
theorem dX1_init_8 : decode cX1_init 8 = .ok (.newarray .int, 2) := by decide +kernel
theorem dX1_init_10 : decode cX1_init 10 = .ok (.putfield 9, 3) := by decide +kernel
theorem dX1_init_13 : decode cX1_init 13 = .ok (.aload_n 0, 1) := by decide +kernel
theorem dX1_init_14 : decode cX1_init 14 = .ok (.sipush 2000, 3) := by decide +kernel
theorem dX1_init_17 : decode cX1_init 17 = .ok (.newarray .int, 2) := by decide +kernel
theorem dX1_init_19 : decode cX1_init 19 = .ok (.putfield 13, 3) := by decide +kernel
theorem dX1_init_22 : decode cX1_init 22 = .ok (.aload_n 0, 1) := by decide +kernel
theorem dX1_init_23 : decode cX1_init 23 = .ok (.sipush 2000, 3) := by decide +kernel
theorem dX1_init_26 : decode cX1_init 26 = .ok (.newarray .boolean, 2) := by decide +kernel
theorem dX1_init_28 : decode cX1_init 28 = .ok (.putfield 16, 3) := by decide +kernel
theorem dX1_init_31 : decode cX1_init 31 = .ok (.aload_n 0, 1) := by decide +kernel
theorem dX1_init_32 : decode cX1_init 32 = .ok (.sipush 2001, 3) := by decide +kernel
theorem dX1_init_35 : decode cX1_init 35 = .ok (.newarray .int, 2) := by decide +kernel
theorem dX1_init_37 : decode cX1_init 37 = .ok (.putfield 20, 3) := by decide +kernel
theorem dX1_init_40 : decode cX1_init 40 = .ok (.aload_n 0, 1) := by decide +kernel
theorem dX1_init_41 : decode cX1_init 41 = .ok (.sipush 2000, 3) := by decide +kernel
theorem dX1_init_44 : decode cX1_init 44 = .ok (.newarray .int, 2) := by decide +kernel
theorem dX1_init_46 : decode cX1_init 46 = .ok (.putfield 23, 3) := by decide +kernel
theorem dX1_init_49 : decode cX1_init 49 = .ok (.aload_n 0, 1) := by decide +kernel
theorem dX1_init_50 : decode cX1_init 50 = .ok (.sipush 1000, 3) := by decide +kernel
theorem dX1_init_53 : decode cX1_init 53 = .ok (.putfield 26, 3) := by decide +kernel
theorem dX1_init_56 : decode cX1_init 56 = .ok (.aload_n 0, 1) := by decide +kernel
theorem dX1_init_57 : decode cX1_init 57 = .ok (.iconst (-1), 1) := by decide +kernel
theorem dX1_init_58 : decode cX1_init 58 = .ok (.putfield 30, 3) := by decide +kernel
theorem dX1_init_61 : decode cX1_init 61 = .ok (.return_, 1) := by decide +kernel
theorem dX1_item_0 : decode cX1_item 0 = .ok (.aload_n 0, 1) := by decide +kernel
theorem dX1_item_1 : decode cX1_item 1 = .ok (.getfield 33, 3) := by decide +kernel
theorem dX1_item_4 : decode cX1_item 4 = .ok (.sipush 2000, 3) := by decide +kernel
theorem dX1_item_7 : decode cX1_item 7 = .ok (.if_icmp .ne 5, 3) := by decide +kernel
theorem dX1_item_10 : decode cX1_item 10 = .ok (.iconst (-1), 1) := by decide +kernel
theorem dX1_item_11 : decode cX1_item 11 = .ok (.ireturn, 1) := by decide +kernel
theorem dX1_item_12 : decode cX1_item 12 = .ok (.aload_n 0, 1) := by decide +kernel
theorem dX1_item_13 : decode cX1_item 13 = .ok (.getfield 9, 3) := by decide +kernel
theorem dX1_item_16 : decode cX1_item 16 = .ok (.aload_n 0, 1) := by decide +kernel
theorem dX1_item_17 : decode cX1_item 17 = .ok (.getfield 33, 3) := by decide +kernel
theorem dX1_item_20 : decode cX1_item 20 = .ok (.iload_n 1, 1) := by decide +kernel
theorem dX1_item_21 : decode cX1_item 21 = .ok (.iastore, 1) := by decide +kernel
theorem dX1_item_22 : decode cX1_item 22 = .ok (.aload_n 0, 1) := by decide +kernel
theorem dX1_item_23 : decode cX1_item 23 = .ok (.getfield 13, 3) := by decide +kernel
theorem dX1_item_26 : decode cX1_item 26 = .ok (.aload_n 0, 1) := by decide +kernel
theorem dX1_item_27 : decode cX1_item 27 = .ok (.getfield 33, 3) := by decide +kernel
theorem dX1_item_30 : decode cX1_item 30 = .ok (.iload_n 2, 1) := by decide +kernel
theorem dX1_item_31 : decode cX1_item 31 = .ok (.iastore, 1) := by decide +kernel
theorem dX1_item_32 : decode cX1_item 32 = .ok (.aload_n 0, 1) := by decide +kernel
theorem dX1_item_33 : decode cX1_item 33 = .ok (.iconst 0, 1) := by decide +kernel
theorem dX1_item_34 : decode cX1_item 34 = .ok (.putfield 36, 3) := by decide +kernel
theorem dX1_item_37 : decode cX1_item 37 = .ok (.aload_n 0, 1) := by decide +kernel
theorem dX1_item_38 : decode cX1_item 38 = .ok (.dup, 1) := by decide +kernel
theorem dX1_item_39 : decode cX1_item 39 = .ok (.getfield 33, 3) := by decide +kernel
theorem dX1_item_42 : decode cX1_item 42 = .ok (.iconst 1, 1) := by decide +kernel
theorem dX1_item_43 : decode cX1_item 43 = .ok (.iadd, 1) := by decide +kernel
theorem dX1_item_44 : decode cX1_item 44 = .ok (.putfield 33, 3) := by decide +kernel
theorem dX1_item_47 : decode cX1_item 47 = .ok (.aload_n 0, 1) := by decide +kernel
theorem dX1_item_48 : decode cX1_item 48 = .ok (.getfield 33, 3) := by decide +kernel
theorem dX1_item_51 : decode cX1_item 51 = .ok (.iconst 1, 1) := by decide +kernel
theorem dX1_item_52 : decode cX1_item 52 = .ok (.isub, 1) := by decide +kernel
theorem dX1_item_53 : decode cX1_item 53 = .ok (.ireturn, 1) := by decide +kernel
set_option maxRecDepth 20000 in
theorem ggX1_stretch_X1_item : GoodIn wsX1_stretch wsX1_item := goodIn_r _ [5, 6, 7, 8, 9, 10, 11, 12, 13, 14, 15, 16, 17, 18, 19] (by decide +kernel) (by decide +kernel)
set_option maxRecDepth 20000 in
theorem gX1_stretch_X1_item : GoodIn wsX1_stretch (wsV RX1 40 RX1 yX1_item wsX1_item) := goodIn_app (goodIn_of _ (by decide +kernel)) ggX1_stretch_X1_item
theorem dX1_stretch_0 : decode cX1_stretch 0 = .ok (.iload_n 1, 1) := by decide +kernel
theorem dX1_stretch_1 : decode cX1_stretch 1 = .ok (.ifCond .lt 10, 3) := by decide +kernel
theorem dX1_stretch_4 : decode cX1_stretch 4 = .ok (.iload_n 1, 1) := by decide +kernel
theorem dX1_stretch_5 : decode cX1_stretch 5 = .ok (.sipush 4000, 3) := by decide +kernel
theorem dX1_stretch_8 : decode cX1_stretch 8 = .ok (.if_icmp .le 7, 3) := by decide +kernel
theorem dX1_stretch_11 : decode cX1_stretch 11 = .ok (.iconst (-1), 1) := by decide +kernel
theorem dX1_stretch_12 : decode cX1_stretch 12 = .ok (.goto 9, 3) := by decide +kernel
theorem dX1_stretch_15 : decode cX1_stretch 15 = .ok (.aload_n 0, 1) := by decide +kernel
theorem dX1_stretch_16 : decode cX1_stretch 16 = .ok (.iconst 0, 1) := by decide +kernel
theorem dX1_stretch_17 : decode cX1_stretch 17 = .ok (.iload_n 1, 1) := by decide +kernel
theorem dX1_stretch_18 : decode cX1_stretch 18 = .ok (.invokevirtual 40, 3) := by decide +kernel
theorem dX1_stretch_21 : decode cX1_stretch 21 = .ok (.ireturn, 1) := by decide +kernel
set_option maxRecDepth 20000 in
theorem ggX1_mark_X1_item : GoodIn wsX1_mark wsX1_item := goodIn_r _ [7, 8, 9, 10, 11, 12, 13, 14, 15, 16, 17, 18, 19, 20, 21] (by decide +kernel) (by decide +kernel)
set_option maxRecDepth 20000 in
theorem gX1_mark_X1_item : GoodIn wsX1_mark (wsV RX1 40 RX1 yX1_item wsX1_item) := goodIn_app (goodIn_of _ (by decide +kernel)) ggX1_mark_X1_item
theorem dX1_mark_0 : decode cX1_mark 0 = .ok (.aload_n 0, 1) := by decide +kernel
theorem dX1_mark_1 : decode cX1_mark 1 = .ok (.iconst 1, 1) := by decide +kernel
theorem dX1_mark_2 : decode cX1_mark 2 = .ok (.iconst 0, 1) := by decide +kernel
theorem dX1_mark_3 : decode cX1_mark 3 = .ok (.invokevirtual 40, 3) := by decide +kernel
theorem dX1_mark_6 : decode cX1_mark 6 = .ok (.istore_n 1, 1) := by decide +kernel
theorem dX1_mark_7 : decode cX1_mark 7 = .ok (.iload_n 1, 1) := by decide +kernel
theorem dX1_mark_8 : decode cX1_mark 8 = .ok (.ifCond .ge 5, 3) := by decide +kernel
theorem dX1_mark_11 : decode cX1_mark 11 = .ok (.iconst (-1), 1) := by decide +kernel
theorem dX1_mark_12 : decode cX1_mark 12 = .ok (.ireturn, 1) := by decide +kernel
theorem dX1_mark_13 : decode cX1_mark 13 = .ok (.aload_n 0, 1) := by decide +kernel
theorem dX1_mark_14 : decode cX1_mark 14 = .ok (.getfield 23, 3) := by decide +kernel
theorem dX1_mark_17 : decode cX1_mark 17 = .ok (.aload_n 0, 1) := by decide +kernel
theorem dX1_mark_18 : decode cX1_mark 18 = .ok (.getfield 44, 3) := by decide +kernel
theorem dX1_mark_21 : decode cX1_mark 21 = .ok (.iload_n 1, 1) := by decide +kernel
theorem dX1_mark_22 : decode cX1_mark 22 = .ok (.iastore, 1) := by decide +kernel
theorem dX1_mark_23 : decode cX1_mark 23 = .ok (.aload_n 0, 1) := by decide +kernel
theorem dX1_mark_24 : decode cX1_mark 24 = .ok (.dup, 1) := by decide +kernel
theorem dX1_mark_25 : decode cX1_mark 25 = .ok (.getfield 44, 3) := by decide +kernel
theorem dX1_mark_28 : decode cX1_mark 28 = .ok (.iconst 1, 1) := by decide +kernel
theorem dX1_mark_29 : decode cX1_mark 29 = .ok (.iadd, 1) := by decide +kernel
theorem dX1_mark_30 : decode cX1_mark 30 = .ok (.putfield 44, 3) := by decide +kernel
theorem dX1_mark_33 : decode cX1_mark 33 = .ok (.iload_n 1, 1) := by decide +kernel
theorem dX1_mark_34 : decode cX1_mark 34 = .ok (.ireturn, 1) := by decide +kernel
set_option maxRecDepth 20000 in
theorem ggX1_branch_X1_item : GoodIn wsX1_branch wsX1_item := goodIn_r _ [5, 6, 7, 8, 9, 10, 11, 12, 13, 14, 15, 16, 17, 18, 19] (by decide +kernel) (by decide +kernel)
set_option maxRecDepth 20000 in
theorem gX1_branch_X1_item : GoodIn wsX1_branch (wsV RX1 40 RX1 yX1_item wsX1_item) := goodIn_app (goodIn_of _ (by decide +kernel)) ggX1_branch_X1_item
theorem dX1_branch_0 : decode cX1_branch 0 = .ok (.iload_n 1, 1) := by decide +kernel
theorem dX1_branch_1 : decode cX1_branch 1 = .ok (.ifCond .ge 7, 3) := by decide +kernel
theorem dX1_branch_4 : decode cX1_branch 4 = .ok (.iconst (-1), 1) := by decide +kernel
theorem dX1_branch_5 : decode cX1_branch 5 = .ok (.goto 9, 3) := by decide +kernel
theorem dX1_branch_8 : decode cX1_branch 8 = .ok (.aload_n 0, 1) := by decide +kernel
theorem dX1_branch_9 : decode cX1_branch 9 = .ok (.iconst 2, 1) := by decide +kernel
theorem dX1_branch_10 : decode cX1_branch 10 = .ok (.iload_n 1, 1) := by decide +kernel
theorem dX1_branch_11 : decode cX1_branch 11 = .ok (.invokevirtual 40, 3) := by decide +kernel
theorem dX1_branch_14 : decode cX1_branch 14 = .ok (.ireturn, 1) := by decide +kernel
theorem dX1_reach_0 : decode cX1_reach 0 = .ok (.iload_n 1, 1) := by decide +kernel
theorem dX1_reach_1 : decode cX1_reach 1 = .ok (.iconst 1, 1) := by decide +kernel
theorem dX1_reach_2 : decode cX1_reach 2 = .ok (.if_icmp .lt 9, 3) := by decide +kernel
theorem dX1_reach_5 : decode cX1_reach 5 = .ok (.iload_n 1, 1) := by decide +kernel
theorem dX1_reach_6 : decode cX1_reach 6 = .ok (.ldc 47, 2) := by decide +kernel
theorem dX1_reach_8 : decode cX1_reach 8 = .ok (.if_icmp .le 5, 3) := by decide +kernel
theorem dX1_reach_11 : decode cX1_reach 11 = .ok (.iconst 0, 1) := by decide +kernel
theorem dX1_reach_12 : decode cX1_reach 12 = .ok (.ireturn, 1) := by decide +kernel
theorem dX1_reach_13 : decode cX1_reach 13 = .ok (.aload_n 0, 1) := by decide +kernel
theorem dX1_reach_14 : decode cX1_reach 14 = .ok (.iload_n 1, 1) := by decide +kernel
theorem dX1_reach_15 : decode cX1_reach 15 = .ok (.putfield 26, 3) := by decide +kernel
theorem dX1_reach_18 : decode cX1_reach 18 = .ok (.aload_n 0, 1) := by decide +kernel
theorem dX1_reach_19 : decode cX1_reach 19 = .ok (.iconst 0, 1) := by decide +kernel
theorem dX1_reach_20 : decode cX1_reach 20 = .ok (.putfield 36, 3) := by decide +kernel
theorem dX1_reach_23 : decode cX1_reach 23 = .ok (.iconst 1, 1) := by decide +kernel
theorem dX1_reach_24 : decode cX1_reach 24 = .ok (.ireturn, 1) := by decide +kernel
theorem dX1_addUp_0 : decode cX1_addUp 0 = .ok (.aload_n 0, 1) := by decide +kernel
theorem dX1_addUp_1 : decode cX1_addUp 1 = .ok (.getfield 20, 3) := by decide +kernel
theorem dX1_addUp_4 : decode cX1_addUp 4 = .ok (.iconst 0, 1) := by decide +kernel
theorem dX1_addUp_5 : decode cX1_addUp 5 = .ok (.iconst 0, 1) := by decide +kernel
theorem dX1_addUp_6 : decode cX1_addUp 6 = .ok (.iastore, 1) := by decide +kernel
theorem dX1_addUp_7 : decode cX1_addUp 7 = .ok (.iconst 0, 1) := by decide +kernel
theorem dX1_addUp_8 : decode cX1_addUp 8 = .ok (.istore_n 1, 1) := by decide +kernel
theorem dX1_addUp_9 : decode cX1_addUp 9 = .ok (.iload_n 1, 1) := by decide +kernel
theorem dX1_addUp_10 : decode cX1_addUp 10 = .ok (.aload_n 0, 1) := by decide +kernel
theorem dX1_addUp_11 : decode cX1_addUp 11 = .ok (.getfield 33, 3) := by decide +kernel
theorem dX1_addUp_14 : decode cX1_addUp 14 = .ok (.if_icmp .ge 70, 3) := by decide +kernel
theorem dX1_addUp_17 : decode cX1_addUp 17 = .ok (.aload_n 0, 1) := by decide +kernel
theorem dX1_addUp_18 : decode cX1_addUp 18 = .ok (.getfield 20, 3) := by decide +kernel
theorem dX1_addUp_21 : decode cX1_addUp 21 = .ok (.iload_n 1, 1) := by decide +kernel
theorem dX1_addUp_22 : decode cX1_addUp 22 = .ok (.iconst 1, 1) := by decide +kernel
theorem dX1_addUp_23 : decode cX1_addUp 23 = .ok (.iadd, 1) := by decide +kernel
theorem dX1_addUp_24 : decode cX1_addUp 24 = .ok (.aload_n 0, 1) := by decide +kernel
theorem dX1_addUp_25 : decode cX1_addUp 25 = .ok (.getfield 20, 3) := by decide +kernel
theorem dX1_addUp_28 : decode cX1_addUp 28 = .ok (.iload_n 1, 1) := by decide +kernel
theorem dX1_addUp_29 : decode cX1_addUp 29 = .ok (.iaload, 1) := by decide +kernel
theorem dX1_addUp_30 : decode cX1_addUp 30 = .ok (.aload_n 0, 1) := by decide +kernel
theorem dX1_addUp_31 : decode cX1_addUp 31 = .ok (.getfield 9, 3) := by decide +kernel
theorem dX1_addUp_34 : decode cX1_addUp 34 = .ok (.iload_n 1, 1) := by decide +kernel
theorem dX1_addUp_35 : decode cX1_addUp 35 = .ok (.iaload, 1) := by decide +kernel
theorem dX1_addUp_36 : decode cX1_addUp 36 = .ok (.ifCond .ne 12, 3) := by decide +kernel
theorem dX1_addUp_39 : decode cX1_addUp 39 = .ok (.aload_n 0, 1) := by decide +kernel
theorem dX1_addUp_40 : decode cX1_addUp 40 = .ok (.getfield 13, 3) := by decide +kernel
theorem dX1_addUp_43 : decode cX1_addUp 43 = .ok (.iload_n 1, 1) := by decide +kernel
theorem dX1_addUp_44 : decode cX1_addUp 44 = .ok (.iaload, 1) := by decide +kernel
theorem dX1_addUp_45 : decode cX1_addUp 45 = .ok (.goto 31, 3) := by decide +kernel
theorem dX1_addUp_48 : decode cX1_addUp 48 = .ok (.aload_n 0, 1) := by decide +kernel
theorem dX1_addUp_49 : decode cX1_addUp 49 = .ok (.getfield 9, 3) := by decide +kernel
theorem dX1_addUp_52 : decode cX1_addUp 52 = .ok (.iload_n 1, 1) := by decide +kernel
theorem dX1_addUp_53 : decode cX1_addUp 53 = .ok (.iaload, 1) := by decide +kernel
theorem dX1_addUp_54 : decode cX1_addUp 54 = .ok (.iconst 1, 1) := by decide +kernel
theorem dX1_addUp_55 : decode cX1_addUp 55 = .ok (.if_icmp .ne 7, 3) := by decide +kernel
theorem dX1_addUp_58 : decode cX1_addUp 58 = .ok (.iconst 0, 1) := by decide +kernel
theorem dX1_addUp_59 : decode cX1_addUp 59 = .ok (.goto 17, 3) := by decide +kernel
theorem dX1_addUp_62 : decode cX1_addUp 62 = .ok (.aload_n 0, 1) := by decide +kernel
theorem dX1_addUp_63 : decode cX1_addUp 63 = .ok (.getfield 16, 3) := by decide +kernel
theorem dX1_addUp_66 : decode cX1_addUp 66 = .ok (.iload_n 1, 1) := by decide +kernel
theorem dX1_addUp_67 : decode cX1_addUp 67 = .ok (.baload, 1) := by decide +kernel
theorem dX1_addUp_68 : decode cX1_addUp 68 = .ok (.ifCond .eq 7, 3) := by decide +kernel
theorem dX1_addUp_71 : decode cX1_addUp 71 = .ok (.iconst 2, 1) := by decide +kernel
theorem dX1_addUp_72 : decode cX1_addUp 72 = .ok (.goto 4, 3) := by decide +kernel
theorem dX1_addUp_75 : decode cX1_addUp 75 = .ok (.iconst 1, 1) := by decide +kernel
theorem dX1_addUp_76 : decode cX1_addUp 76 = .ok (.iadd, 1) := by decide +kernel
theorem dX1_addUp_77 : decode cX1_addUp 77 = .ok (.iastore, 1) := by decide +kernel
theorem dX1_addUp_78 : decode cX1_addUp 78 = .ok (.iinc 1 1, 3) := by decide +kernel
theorem dX1_addUp_81 : decode cX1_addUp 81 = .ok (.goto (-72), 3) := by decide +kernel
theorem dX1_addUp_84 : decode cX1_addUp 84 = .ok (.return_, 1) := by decide +kernel
theorem dX1_reaches_0 : decode cX1_reaches 0 = .ok (.aload_n 0, 1) := by decide +kernel
theorem dX1_reaches_1 : decode cX1_reaches 1 = .ok (.getfield 20, 3) := by decide +kernel
theorem dX1_reaches_4 : decode cX1_reaches 4 = .ok (.aload_n 0, 1) := by decide +kernel
theorem dX1_reaches_5 : decode cX1_reaches 5 = .ok (.getfield 23, 3) := by decide +kernel
theorem dX1_reaches_8 : decode cX1_reaches 8 = .ok (.aload_n 0, 1) := by decide +kernel
theorem dX1_reaches_9 : decode cX1_reaches 9 = .ok (.getfield 13, 3) := by decide +kernel
theorem dX1_reaches_12 : decode cX1_reaches 12 = .ok (.iload_n 1, 1) := by decide +kernel
theorem dX1_reaches_13 : decode cX1_reaches 13 = .ok (.iaload, 1) := by decide +kernel
theorem dX1_reaches_14 : decode cX1_reaches 14 = .ok (.iaload, 1) := by decide +kernel
theorem dX1_reaches_15 : decode cX1_reaches 15 = .ok (.iaload, 1) := by decide +kernel
theorem dX1_reaches_16 : decode cX1_reaches 16 = .ok (.aload_n 0, 1) := by decide +kernel
theorem dX1_reaches_17 : decode cX1_reaches 17 = .ok (.getfield 20, 3) := by decide +kernel
theorem dX1_reaches_20 : decode cX1_reaches 20 = .ok (.iload_n 1, 1) := by decide +kernel
theorem dX1_reaches_21 : decode cX1_reaches 21 = .ok (.iaload, 1) := by decide +kernel
theorem dX1_reaches_22 : decode cX1_reaches 22 = .ok (.isub, 1) := by decide +kernel
theorem dX1_reaches_23 : decode cX1_reaches 23 = .ok (.istore_n 2, 1) := by decide +kernel
theorem dX1_reaches_24 : decode cX1_reaches 24 = .ok (.aload_n 0, 1) := by decide +kernel
theorem dX1_reaches_25 : decode cX1_reaches 25 = .ok (.getfield 16, 3) := by decide +kernel
theorem dX1_reaches_28 : decode cX1_reaches 28 = .ok (.iload_n 1, 1) := by decide +kernel
theorem dX1_reaches_29 : decode cX1_reaches 29 = .ok (.baload, 1) := by decide +kernel
theorem dX1_reaches_30 : decode cX1_reaches 30 = .ok (.ifCond .ne 20, 3) := by decide +kernel
theorem dX1_reaches_33 : decode cX1_reaches 33 = .ok (.iload_n 2, 1) := by decide +kernel
theorem dX1_reaches_34 : decode cX1_reaches 34 = .ok (.aload_n 0, 1) := by decide +kernel
theorem dX1_reaches_35 : decode cX1_reaches 35 = .ok (.getfield 26, 3) := by decide +kernel
theorem dX1_reaches_38 : decode cX1_reaches 38 = .ok (.ineg, 1) := by decide +kernel
theorem dX1_reaches_39 : decode cX1_reaches 39 = .ok (.if_icmp .lt 15, 3) := by decide +kernel
theorem dX1_reaches_42 : decode cX1_reaches 42 = .ok (.iload_n 2, 1) := by decide +kernel
theorem dX1_reaches_43 : decode cX1_reaches 43 = .ok (.aload_n 0, 1) := by decide +kernel
theorem dX1_reaches_44 : decode cX1_reaches 44 = .ok (.getfield 26, 3) := by decide +kernel
theorem dX1_reaches_47 : decode cX1_reaches 47 = .ok (.if_icmp .gt 7, 3) := by decide +kernel
theorem dX1_reaches_50 : decode cX1_reaches 50 = .ok (.iconst 1, 1) := by decide +kernel
theorem dX1_reaches_51 : decode cX1_reaches 51 = .ok (.goto 4, 3) := by decide +kernel
theorem dX1_reaches_54 : decode cX1_reaches 54 = .ok (.iconst 0, 1) := by decide +kernel
theorem dX1_reaches_55 : decode cX1_reaches 55 = .ok (.ireturn, 1) := by decide +kernel
set_option maxRecDepth 20000 in
theorem ggX1_lay_X1_addUp : GoodIn wsX1_lay wsX1_addUp := goodIn_r _ [13, 8, 3, 4, 5, 7, 20, 21, 22, 23, 24, 25, 26, 27, 28, 29] (by decide +kernel) (by decide +kernel)
set_option maxRecDepth 20000 in
theorem gX1_lay_X1_addUp : GoodIn wsX1_lay (wsV RX1 48 RX1 yX1_addUp wsX1_addUp) := goodIn_app (goodIn_of _ (by decide +kernel)) ggX1_lay_X1_addUp
set_option maxRecDepth 20000 in
theorem ggX1_lay_X1_reaches : GoodIn wsX1_lay wsX1_reaches := goodIn_r _ [17, 8, 18, 5, 7, 19, 20, 21, 22, 23, 24, 25, 26, 27, 28, 29] (by decide +kernel) (by decide +kernel)
set_option maxRecDepth 20000 in
theorem gX1_lay_X1_reaches : GoodIn wsX1_lay (wsV RX1 51 RX1 yX1_reaches wsX1_reaches) := goodIn_app (goodIn_of _ (by decide +kernel)) ggX1_lay_X1_reaches
theorem dX1_lay_0 : decode cX1_lay 0 = .ok (.aload_n 0, 1) := by decide +kernel
theorem dX1_lay_1 : decode cX1_lay 1 = .ok (.iconst 0, 1) := by decide +kernel
theorem dX1_lay_2 : decode cX1_lay 2 = .ok (.putfield 36, 3) := by decide +kernel
theorem dX1_lay_5 : decode cX1_lay 5 = .ok (.aload_n 0, 1) := by decide +kernel
theorem dX1_lay_6 : decode cX1_lay 6 = .ok (.iconst (-1), 1) := by decide +kernel
theorem dX1_lay_7 : decode cX1_lay 7 = .ok (.putfield 30, 3) := by decide +kernel
theorem dX1_lay_10 : decode cX1_lay 10 = .ok (.iconst 0, 1) := by decide +kernel
theorem dX1_lay_11 : decode cX1_lay 11 = .ok (.istore_n 1, 1) := by decide +kernel
theorem dX1_lay_12 : decode cX1_lay 12 = .ok (.iload_n 1, 1) := by decide +kernel
theorem dX1_lay_13 : decode cX1_lay 13 = .ok (.aload_n 0, 1) := by decide +kernel
theorem dX1_lay_14 : decode cX1_lay 14 = .ok (.getfield 33, 3) := by decide +kernel
theorem dX1_lay_17 : decode cX1_lay 17 = .ok (.if_icmp .ge 44, 3) := by decide +kernel
theorem dX1_lay_20 : decode cX1_lay 20 = .ok (.aload_n 0, 1) := by decide +kernel
theorem dX1_lay_21 : decode cX1_lay 21 = .ok (.getfield 30, 3) := by decide +kernel
theorem dX1_lay_24 : decode cX1_lay 24 = .ok (.ifCond .ge 37, 3) := by decide +kernel
theorem dX1_lay_27 : decode cX1_lay 27 = .ok (.aload_n 0, 1) := by decide +kernel
theorem dX1_lay_28 : decode cX1_lay 28 = .ok (.getfield 9, 3) := by decide +kernel
theorem dX1_lay_31 : decode cX1_lay 31 = .ok (.iload_n 1, 1) := by decide +kernel
theorem dX1_lay_32 : decode cX1_lay 32 = .ok (.iaload, 1) := by decide +kernel
theorem dX1_lay_33 : decode cX1_lay 33 = .ok (.iconst 2, 1) := by decide +kernel
theorem dX1_lay_34 : decode cX1_lay 34 = .ok (.if_icmp .ne 21, 3) := by decide +kernel
theorem dX1_lay_37 : decode cX1_lay 37 = .ok (.aload_n 0, 1) := by decide +kernel
theorem dX1_lay_38 : decode cX1_lay 38 = .ok (.getfield 13, 3) := by decide +kernel
theorem dX1_lay_41 : decode cX1_lay 41 = .ok (.iload_n 1, 1) := by decide +kernel
theorem dX1_lay_42 : decode cX1_lay 42 = .ok (.iaload, 1) := by decide +kernel
theorem dX1_lay_43 : decode cX1_lay 43 = .ok (.aload_n 0, 1) := by decide +kernel
theorem dX1_lay_44 : decode cX1_lay 44 = .ok (.getfield 44, 3) := by decide +kernel
theorem dX1_lay_47 : decode cX1_lay 47 = .ok (.if_icmp .lt 8, 3) := by decide +kernel
theorem dX1_lay_50 : decode cX1_lay 50 = .ok (.aload_n 0, 1) := by decide +kernel
theorem dX1_lay_51 : decode cX1_lay 51 = .ok (.iload_n 1, 1) := by decide +kernel
theorem dX1_lay_52 : decode cX1_lay 52 = .ok (.putfield 30, 3) := by decide +kernel
theorem dX1_lay_55 : decode cX1_lay 55 = .ok (.iinc 1 1, 3) := by decide +kernel
theorem dX1_lay_58 : decode cX1_lay 58 = .ok (.goto (-46), 3) := by decide +kernel
theorem dX1_lay_61 : decode cX1_lay 61 = .ok (.aload_n 0, 1) := by decide +kernel
theorem dX1_lay_62 : decode cX1_lay 62 = .ok (.getfield 30, 3) := by decide +kernel
theorem dX1_lay_65 : decode cX1_lay 65 = .ok (.ifCond .lt 5, 3) := by decide +kernel
theorem dX1_lay_68 : decode cX1_lay 68 = .ok (.iconst (-1), 1) := by decide +kernel
theorem dX1_lay_69 : decode cX1_lay 69 = .ok (.ireturn, 1) := by decide +kernel
theorem dX1_lay_70 : decode cX1_lay 70 = .ok (.iconst 0, 1) := by decide +kernel
theorem dX1_lay_71 : decode cX1_lay 71 = .ok (.istore_n 1, 1) := by decide +kernel
theorem dX1_lay_72 : decode cX1_lay 72 = .ok (.iload_n 1, 1) := by decide +kernel
theorem dX1_lay_73 : decode cX1_lay 73 = .ok (.aload_n 0, 1) := by decide +kernel
theorem dX1_lay_74 : decode cX1_lay 74 = .ok (.getfield 33, 3) := by decide +kernel
theorem dX1_lay_77 : decode cX1_lay 77 = .ok (.if_icmp .ge 16, 3) := by decide +kernel
theorem dX1_lay_80 : decode cX1_lay 80 = .ok (.aload_n 0, 1) := by decide +kernel
theorem dX1_lay_81 : decode cX1_lay 81 = .ok (.getfield 16, 3) := by decide +kernel
theorem dX1_lay_84 : decode cX1_lay 84 = .ok (.iload_n 1, 1) := by decide +kernel
theorem dX1_lay_85 : decode cX1_lay 85 = .ok (.iconst 0, 1) := by decide +kernel
theorem dX1_lay_86 : decode cX1_lay 86 = .ok (.bastore, 1) := by decide +kernel
theorem dX1_lay_87 : decode cX1_lay 87 = .ok (.iinc 1 1, 3) := by decide +kernel
theorem dX1_lay_90 : decode cX1_lay 90 = .ok (.goto (-18), 3) := by decide +kernel
theorem dX1_lay_93 : decode cX1_lay 93 = .ok (.iconst 1, 1) := by decide +kernel
theorem dX1_lay_94 : decode cX1_lay 94 = .ok (.istore_n 1, 1) := by decide +kernel
theorem dX1_lay_95 : decode cX1_lay 95 = .ok (.iload_n 1, 1) := by decide +kernel
theorem dX1_lay_96 : decode cX1_lay 96 = .ok (.ifCond .eq 58, 3) := by decide +kernel
theorem dX1_lay_99 : decode cX1_lay 99 = .ok (.aload_n 0, 1) := by decide +kernel
theorem dX1_lay_100 : decode cX1_lay 100 = .ok (.invokevirtual 48, 3) := by decide +kernel
theorem dX1_lay_103 : decode cX1_lay 103 = .ok (.iconst 0, 1) := by decide +kernel
theorem dX1_lay_104 : decode cX1_lay 104 = .ok (.istore_n 1, 1) := by decide +kernel
theorem dX1_lay_105 : decode cX1_lay 105 = .ok (.iconst 0, 1) := by decide +kernel
theorem dX1_lay_106 : decode cX1_lay 106 = .ok (.istore_n 2, 1) := by decide +kernel
theorem dX1_lay_107 : decode cX1_lay 107 = .ok (.iload_n 2, 1) := by decide +kernel
theorem dX1_lay_108 : decode cX1_lay 108 = .ok (.aload_n 0, 1) := by decide +kernel
theorem dX1_lay_109 : decode cX1_lay 109 = .ok (.getfield 33, 3) := by decide +kernel
theorem dX1_lay_112 : decode cX1_lay 112 = .ok (.if_icmp .ge 39, 3) := by decide +kernel
theorem dX1_lay_115 : decode cX1_lay 115 = .ok (.aload_n 0, 1) := by decide +kernel
theorem dX1_lay_116 : decode cX1_lay 116 = .ok (.getfield 9, 3) := by decide +kernel
theorem dX1_lay_119 : decode cX1_lay 119 = .ok (.iload_n 2, 1) := by decide +kernel
theorem dX1_lay_120 : decode cX1_lay 120 = .ok (.iaload, 1) := by decide +kernel
theorem dX1_lay_121 : decode cX1_lay 121 = .ok (.iconst 2, 1) := by decide +kernel
theorem dX1_lay_122 : decode cX1_lay 122 = .ok (.if_icmp .ne 23, 3) := by decide +kernel
theorem dX1_lay_125 : decode cX1_lay 125 = .ok (.aload_n 0, 1) := by decide +kernel
theorem dX1_lay_126 : decode cX1_lay 126 = .ok (.iload_n 2, 1) := by decide +kernel
theorem dX1_lay_127 : decode cX1_lay 127 = .ok (.invokevirtual 51, 3) := by decide +kernel
theorem dX1_lay_130 : decode cX1_lay 130 = .ok (.ifCond .eq 6, 3) := by decide +kernel
theorem dX1_lay_133 : decode cX1_lay 133 = .ok (.goto 12, 3) := by decide +kernel
theorem dX1_lay_136 : decode cX1_lay 136 = .ok (.aload_n 0, 1) := by decide +kernel
theorem dX1_lay_137 : decode cX1_lay 137 = .ok (.getfield 16, 3) := by decide +kernel
theorem dX1_lay_140 : decode cX1_lay 140 = .ok (.iload_n 2, 1) := by decide +kernel
theorem dX1_lay_141 : decode cX1_lay 141 = .ok (.iconst 1, 1) := by decide +kernel
theorem dX1_lay_142 : decode cX1_lay 142 = .ok (.bastore, 1) := by decide +kernel
theorem dX1_lay_143 : decode cX1_lay 143 = .ok (.iconst 1, 1) := by decide +kernel
theorem dX1_lay_144 : decode cX1_lay 144 = .ok (.istore_n 1, 1) := by decide +kernel
theorem dX1_lay_145 : decode cX1_lay 145 = .ok (.iinc 2 1, 3) := by decide +kernel
theorem dX1_lay_148 : decode cX1_lay 148 = .ok (.goto (-41), 3) := by decide +kernel
theorem dX1_lay_151 : decode cX1_lay 151 = .ok (.goto (-56), 3) := by decide +kernel
theorem dX1_lay_154 : decode cX1_lay 154 = .ok (.aload_n 0, 1) := by decide +kernel
theorem dX1_lay_155 : decode cX1_lay 155 = .ok (.iconst 1, 1) := by decide +kernel
theorem dX1_lay_156 : decode cX1_lay 156 = .ok (.putfield 36, 3) := by decide +kernel
theorem dX1_lay_159 : decode cX1_lay 159 = .ok (.aload_n 0, 1) := by decide +kernel
theorem dX1_lay_160 : decode cX1_lay 160 = .ok (.getfield 20, 3) := by decide +kernel
theorem dX1_lay_163 : decode cX1_lay 163 = .ok (.aload_n 0, 1) := by decide +kernel
theorem dX1_lay_164 : decode cX1_lay 164 = .ok (.getfield 33, 3) := by decide +kernel
theorem dX1_lay_167 : decode cX1_lay 167 = .ok (.iaload, 1) := by decide +kernel
theorem dX1_lay_168 : decode cX1_lay 168 = .ok (.ireturn, 1) := by decide +kernel
theorem dX1_least_0 : decode cX1_least 0 = .ok (.aload_n 0, 1) := by decide +kernel
theorem dX1_least_1 : decode cX1_least 1 = .ok (.getfield 30, 3) := by decide +kernel
theorem dX1_least_4 : decode cX1_least 4 = .ok (.ireturn, 1) := by decide +kernel
theorem dX1_place_0 : decode cX1_place 0 = .ok (.aload_n 0, 1) := by decide +kernel
theorem dX1_place_1 : decode cX1_place 1 = .ok (.getfield 36, 3) := by decide +kernel
theorem dX1_place_4 : decode cX1_place 4 = .ok (.ifCond .eq 24, 3) := by decide +kernel
theorem dX1_place_7 : decode cX1_place 7 = .ok (.iload_n 1, 1) := by decide +kernel
theorem dX1_place_8 : decode cX1_place 8 = .ok (.ifCond .lt 20, 3) := by decide +kernel
theorem dX1_place_11 : decode cX1_place 11 = .ok (.iload_n 1, 1) := by decide +kernel
theorem dX1_place_12 : decode cX1_place 12 = .ok (.aload_n 0, 1) := by decide +kernel
theorem dX1_place_13 : decode cX1_place 13 = .ok (.getfield 33, 3) := by decide +kernel
theorem dX1_place_16 : decode cX1_place 16 = .ok (.if_icmp .ge 12, 3) := by decide +kernel
theorem dX1_place_19 : decode cX1_place 19 = .ok (.aload_n 0, 1) := by decide +kernel
theorem dX1_place_20 : decode cX1_place 20 = .ok (.getfield 20, 3) := by decide +kernel
theorem dX1_place_23 : decode cX1_place 23 = .ok (.iload_n 1, 1) := by decide +kernel
theorem dX1_place_24 : decode cX1_place 24 = .ok (.iaload, 1) := by decide +kernel
theorem dX1_place_25 : decode cX1_place 25 = .ok (.goto 4, 3) := by decide +kernel
theorem dX1_place_28 : decode cX1_place 28 = .ok (.iconst (-1), 1) := by decide +kernel
theorem dX1_place_29 : decode cX1_place 29 = .ok (.ireturn, 1) := by decide +kernel
theorem dX1_isLong_0 : decode cX1_isLong 0 = .ok (.aload_n 0, 1) := by decide +kernel
theorem dX1_isLong_1 : decode cX1_isLong 1 = .ok (.getfield 36, 3) := by decide +kernel
theorem dX1_isLong_4 : decode cX1_isLong 4 = .ok (.ifCond .eq 38, 3) := by decide +kernel
theorem dX1_isLong_7 : decode cX1_isLong 7 = .ok (.iload_n 1, 1) := by decide +kernel
theorem dX1_isLong_8 : decode cX1_isLong 8 = .ok (.ifCond .lt 34, 3) := by decide +kernel
theorem dX1_isLong_11 : decode cX1_isLong 11 = .ok (.iload_n 1, 1) := by decide +kernel
theorem dX1_isLong_12 : decode cX1_isLong 12 = .ok (.aload_n 0, 1) := by decide +kernel
theorem dX1_isLong_13 : decode cX1_isLong 13 = .ok (.getfield 33, 3) := by decide +kernel
theorem dX1_isLong_16 : decode cX1_isLong 16 = .ok (.if_icmp .ge 26, 3) := by decide +kernel
theorem dX1_isLong_19 : decode cX1_isLong 19 = .ok (.aload_n 0, 1) := by decide +kernel
theorem dX1_isLong_20 : decode cX1_isLong 20 = .ok (.getfield 9, 3) := by decide +kernel
theorem dX1_isLong_23 : decode cX1_isLong 23 = .ok (.iload_n 1, 1) := by decide +kernel
theorem dX1_isLong_24 : decode cX1_isLong 24 = .ok (.iaload, 1) := by decide +kernel
theorem dX1_isLong_25 : decode cX1_isLong 25 = .ok (.iconst 2, 1) := by decide +kernel
theorem dX1_isLong_26 : decode cX1_isLong 26 = .ok (.if_icmp .ne 16, 3) := by decide +kernel
theorem dX1_isLong_29 : decode cX1_isLong 29 = .ok (.aload_n 0, 1) := by decide +kernel
theorem dX1_isLong_30 : decode cX1_isLong 30 = .ok (.getfield 16, 3) := by decide +kernel
theorem dX1_isLong_33 : decode cX1_isLong 33 = .ok (.iload_n 1, 1) := by decide +kernel
theorem dX1_isLong_34 : decode cX1_isLong 34 = .ok (.baload, 1) := by decide +kernel
theorem dX1_isLong_35 : decode cX1_isLong 35 = .ok (.ifCond .eq 7, 3) := by decide +kernel
theorem dX1_isLong_38 : decode cX1_isLong 38 = .ok (.iconst 1, 1) := by decide +kernel
theorem dX1_isLong_39 : decode cX1_isLong 39 = .ok (.goto 4, 3) := by decide +kernel
theorem dX1_isLong_42 : decode cX1_isLong 42 = .ok (.iconst 0, 1) := by decide +kernel
theorem dX1_isLong_43 : decode cX1_isLong 43 = .ok (.ireturn, 1) := by decide +kernel
theorem dX1_longs_0 : decode cX1_longs 0 = .ok (.aload_n 0, 1) := by decide +kernel
theorem dX1_longs_1 : decode cX1_longs 1 = .ok (.getfield 36, 3) := by decide +kernel
theorem dX1_longs_4 : decode cX1_longs 4 = .ok (.ifCond .ne 5, 3) := by decide +kernel
theorem dX1_longs_7 : decode cX1_longs 7 = .ok (.iconst (-1), 1) := by decide +kernel
theorem dX1_longs_8 : decode cX1_longs 8 = .ok (.ireturn, 1) := by decide +kernel
theorem dX1_longs_9 : decode cX1_longs 9 = .ok (.iconst 0, 1) := by decide +kernel
theorem dX1_longs_10 : decode cX1_longs 10 = .ok (.istore_n 1, 1) := by decide +kernel
theorem dX1_longs_11 : decode cX1_longs 11 = .ok (.iconst 0, 1) := by decide +kernel
theorem dX1_longs_12 : decode cX1_longs 12 = .ok (.istore_n 2, 1) := by decide +kernel
theorem dX1_longs_13 : decode cX1_longs 13 = .ok (.iload_n 2, 1) := by decide +kernel
theorem dX1_longs_14 : decode cX1_longs 14 = .ok (.aload_n 0, 1) := by decide +kernel
theorem dX1_longs_15 : decode cX1_longs 15 = .ok (.getfield 33, 3) := by decide +kernel
theorem dX1_longs_18 : decode cX1_longs 18 = .ok (.if_icmp .ge 31, 3) := by decide +kernel
theorem dX1_longs_21 : decode cX1_longs 21 = .ok (.aload_n 0, 1) := by decide +kernel
theorem dX1_longs_22 : decode cX1_longs 22 = .ok (.getfield 9, 3) := by decide +kernel
theorem dX1_longs_25 : decode cX1_longs 25 = .ok (.iload_n 2, 1) := by decide +kernel
theorem dX1_longs_26 : decode cX1_longs 26 = .ok (.iaload, 1) := by decide +kernel
theorem dX1_longs_27 : decode cX1_longs 27 = .ok (.iconst 2, 1) := by decide +kernel
theorem dX1_longs_28 : decode cX1_longs 28 = .ok (.if_icmp .ne 15, 3) := by decide +kernel
theorem dX1_longs_31 : decode cX1_longs 31 = .ok (.aload_n 0, 1) := by decide +kernel
theorem dX1_longs_32 : decode cX1_longs 32 = .ok (.getfield 16, 3) := by decide +kernel
theorem dX1_longs_35 : decode cX1_longs 35 = .ok (.iload_n 2, 1) := by decide +kernel
theorem dX1_longs_36 : decode cX1_longs 36 = .ok (.baload, 1) := by decide +kernel
theorem dX1_longs_37 : decode cX1_longs 37 = .ok (.ifCond .eq 6, 3) := by decide +kernel
theorem dX1_longs_40 : decode cX1_longs 40 = .ok (.iinc 1 1, 3) := by decide +kernel
theorem dX1_longs_43 : decode cX1_longs 43 = .ok (.iinc 2 1, 3) := by decide +kernel
theorem dX1_longs_46 : decode cX1_longs 46 = .ok (.goto (-33), 3) := by decide +kernel
theorem dX1_longs_49 : decode cX1_longs 49 = .ok (.iload_n 1, 1) := by decide +kernel
theorem dX1_longs_50 : decode cX1_longs 50 = .ok (.ireturn, 1) := by decide +kernel
theorem dX1_clear_0 : decode cX1_clear 0 = .ok (.aload_n 0, 1) := by decide +kernel
theorem dX1_clear_1 : decode cX1_clear 1 = .ok (.iconst 0, 1) := by decide +kernel
theorem dX1_clear_2 : decode cX1_clear 2 = .ok (.putfield 33, 3) := by decide +kernel
theorem dX1_clear_5 : decode cX1_clear 5 = .ok (.aload_n 0, 1) := by decide +kernel
theorem dX1_clear_6 : decode cX1_clear 6 = .ok (.iconst 0, 1) := by decide +kernel
theorem dX1_clear_7 : decode cX1_clear 7 = .ok (.putfield 44, 3) := by decide +kernel
theorem dX1_clear_10 : decode cX1_clear 10 = .ok (.aload_n 0, 1) := by decide +kernel
theorem dX1_clear_11 : decode cX1_clear 11 = .ok (.iconst 0, 1) := by decide +kernel
theorem dX1_clear_12 : decode cX1_clear 12 = .ok (.putfield 36, 3) := by decide +kernel
theorem dX1_clear_15 : decode cX1_clear 15 = .ok (.return_, 1) := by decide +kernel
theorem dX1_items_0 : decode cX1_items 0 = .ok (.aload_n 0, 1) := by decide +kernel
theorem dX1_items_1 : decode cX1_items 1 = .ok (.getfield 33, 3) := by decide +kernel
theorem dX1_items_4 : decode cX1_items 4 = .ok (.ireturn, 1) := by decide +kernel
theorem dX1_marks_0 : decode cX1_marks 0 = .ok (.aload_n 0, 1) := by decide +kernel
theorem dX1_marks_1 : decode cX1_marks 1 = .ok (.getfield 44, 3) := by decide +kernel
theorem dX1_marks_4 : decode cX1_marks 4 = .ok (.ireturn, 1) := by decide +kernel
set_option maxRecDepth 20000 in
theorem ggL_law_X0_init : GoodIn wsL_law wsX0_init := goodIn_r _ [8, 9, 10, 11, 12, 13, 14, 15, 16, 17, 18, 19, 20, 21, 22, 188, 189, 190, 191, 192, 193, 194, 195, 196, 197] (by decide +kernel) (by decide +kernel)
set_option maxRecDepth 20000 in
theorem gL_law_X0_init : GoodIn wsL_law (wsX0_init) := ggL_law_X0_init
set_option maxRecDepth 20000 in
theorem ggL_law_X1_init : GoodIn wsL_law wsX1_init := goodIn_r _ [25, 26, 10, 11, 12, 27, 28, 29, 30, 31, 32, 33, 34, 198, 199, 200, 201, 202, 203, 204, 205, 206, 207] (by decide +kernel) (by decide +kernel)
set_option maxRecDepth 20000 in
theorem gL_law_X1_init : GoodIn wsL_law (wsX1_init) := ggL_law_X1_init
set_option maxRecDepth 20000 in
theorem ggL_law_X0_stretch : GoodIn wsL_law wsX0_stretch := goodIn_r _ [38, 39, 40, 41, 2, 42, 17, 13, 14, 22, 188, 189, 190, 191, 192, 193, 194, 195, 196, 197] (by decide +kernel) (by decide +kernel)
set_option maxRecDepth 20000 in
theorem gL_law_X0_stretch : GoodIn wsL_law (wsV RL 13 RX0 yX0_stretch wsX0_stretch) := goodIn_app (goodIn_of _ (by decide +kernel)) ggL_law_X0_stretch
set_option maxRecDepth 20000 in
theorem ggL_law_X1_stretch : GoodIn wsL_law wsX1_stretch := goodIn_r _ [46, 47, 48, 49, 5, 50, 51, 27, 28, 52, 198, 199, 200, 201, 202, 203, 204, 205, 206, 207] (by decide +kernel) (by decide +kernel)
set_option maxRecDepth 20000 in
theorem gL_law_X1_stretch : GoodIn wsL_law (wsV RL 17 RX1 yX1_stretch wsX1_stretch) := goodIn_app (goodIn_of _ (by decide +kernel)) ggL_law_X1_stretch
set_option maxRecDepth 20000 in
theorem ggL_law_X0_mark : GoodIn wsL_law wsX0_mark := goodIn_r _ [56, 18, 16, 39, 40, 41, 2, 42, 17, 13, 14, 22, 188, 189, 190, 191, 192, 193, 194, 195, 196, 197] (by decide +kernel) (by decide +kernel)
set_option maxRecDepth 20000 in
theorem gL_law_X0_mark : GoodIn wsL_law (wsV RL 18 RX0 yX0_mark wsX0_mark) := goodIn_app (goodIn_of _ (by decide +kernel)) ggL_law_X0_mark
set_option maxRecDepth 20000 in
theorem ggL_law_X1_mark : GoodIn wsL_law wsX1_mark := goodIn_r _ [60, 32, 61, 47, 48, 49, 5, 50, 51, 27, 28, 52, 198, 199, 200, 201, 202, 203, 204, 205, 206, 207] (by decide +kernel) (by decide +kernel)
set_option maxRecDepth 20000 in
theorem gL_law_X1_mark : GoodIn wsL_law (wsV RL 22 RX1 yX1_mark wsX1_mark) := goodIn_app (goodIn_of _ (by decide +kernel)) ggL_law_X1_mark
set_option maxRecDepth 20000 in
theorem ggL_law_X0_branch : GoodIn wsL_law wsX0_branch := goodIn_r _ [65, 39, 40, 41, 2, 42, 17, 13, 14, 22, 188, 189, 190, 191, 192, 193, 194, 195, 196, 197] (by decide +kernel) (by decide +kernel)
set_option maxRecDepth 20000 in
theorem gL_law_X0_branch : GoodIn wsL_law (wsV RL 23 RX0 yX0_branch wsX0_branch) := goodIn_app (goodIn_of _ (by decide +kernel)) ggL_law_X0_branch
set_option maxRecDepth 20000 in
theorem ggL_law_X1_branch : GoodIn wsL_law wsX1_branch := goodIn_r _ [69, 47, 48, 49, 5, 50, 51, 27, 28, 52, 198, 199, 200, 201, 202, 203, 204, 205, 206, 207] (by decide +kernel) (by decide +kernel)
set_option maxRecDepth 20000 in
theorem gL_law_X1_branch : GoodIn wsL_law (wsV RL 26 RX1 yX1_branch wsX1_branch) := goodIn_app (goodIn_of _ (by decide +kernel)) ggL_law_X1_branch
set_option maxRecDepth 20000 in
theorem ggL_law_X0_reach : GoodIn wsL_law wsX0_reach := goodIn_r _ [73, 74, 20, 22, 188, 189, 190, 191, 192, 193, 194, 195, 196, 197] (by decide +kernel) (by decide +kernel)
set_option maxRecDepth 20000 in
theorem gL_law_X0_reach : GoodIn wsL_law (wsV RL 27 RX0 yX0_reach wsX0_reach) := goodIn_app (goodIn_of _ (by decide +kernel)) ggL_law_X0_reach
set_option maxRecDepth 20000 in
theorem ggL_law_X1_reach : GoodIn wsL_law wsX1_reach := goodIn_r _ [78, 79, 33, 52, 198, 199, 200, 201, 202, 203, 204, 205, 206, 207] (by decide +kernel) (by decide +kernel)
set_option maxRecDepth 20000 in
theorem gL_law_X1_reach : GoodIn wsL_law (wsV RL 31 RX1 yX1_reach wsX1_reach) := goodIn_app (goodIn_of _ (by decide +kernel)) ggL_law_X1_reach
set_option maxRecDepth 20000 in
theorem ggL_law_X0_lay : GoodIn wsL_law wsX0_lay := goodIn_r _ [83, 21, 22, 17, 19, 84, 85, 86, 2, 87, 14, 88, 89, 90, 91, 92, 93, 94, 95, 18, 96, 97, 98, 99, 13, 100, 101, 102, 103, 15, 104, 105, 106, 107, 108, 109, 110, 111, 16, 20, 112, 113, 114, 115, 188, 189, 190, 191, 192, 193, 194, 195, 196, 197] (by decide +kernel) (by decide +kernel)
set_option maxRecDepth 20000 in
theorem gL_law_X0_lay : GoodIn wsL_law (wsV RL 32 RX0 yX0_lay wsX0_lay) := goodIn_app (goodIn_of _ (by decide +kernel)) ggL_law_X0_lay
set_option maxRecDepth 20000 in
theorem ggL_law_X1_lay : GoodIn wsL_law wsX1_lay := goodIn_r _ [119, 52, 34, 51, 27, 28, 61, 30, 31, 120, 121, 122, 5, 123, 124, 125, 126, 127, 32, 33, 198, 199, 200, 201, 202, 203, 204, 205, 206, 207] (by decide +kernel) (by decide +kernel)
set_option maxRecDepth 20000 in
theorem gL_law_X1_lay : GoodIn wsL_law (wsV RL 35 RX1 yX1_lay wsX1_lay) := goodIn_app (goodIn_of _ (by decide +kernel)) ggL_law_X1_lay
set_option maxRecDepth 20000 in
theorem ggL_law_X0_least : GoodIn wsL_law wsX0_least := goodIn_r _ [131, 21, 188, 189, 190, 191, 192, 193, 194, 195, 196, 197] (by decide +kernel) (by decide +kernel)
set_option maxRecDepth 20000 in
theorem gL_law_X0_least : GoodIn wsL_law (wsV RL 36 RX0 yX0_least wsX0_least) := goodIn_app (goodIn_of _ (by decide +kernel)) ggL_law_X0_least
set_option maxRecDepth 20000 in
theorem ggL_law_X1_least : GoodIn wsL_law wsX1_least := goodIn_r _ [135, 34, 198, 199, 200, 201, 202, 203, 204, 205, 206, 207] (by decide +kernel) (by decide +kernel)
set_option maxRecDepth 20000 in
theorem gL_law_X1_least : GoodIn wsL_law (wsV RL 39 RX1 yX1_least wsX1_least) := goodIn_app (goodIn_of _ (by decide +kernel)) ggL_law_X1_least
set_option maxRecDepth 20000 in
theorem ggL_law_X0_place : GoodIn wsL_law wsX0_place := goodIn_r _ [139, 15, 140, 141, 142, 2, 143, 22, 112, 113, 114, 115, 17, 188, 189, 190, 191, 192, 193, 194, 195, 196, 197] (by decide +kernel) (by decide +kernel)
set_option maxRecDepth 20000 in
theorem gL_law_X0_place : GoodIn wsL_law (wsV RL 40 RX0 yX0_place wsX0_place) := goodIn_app (goodIn_of _ (by decide +kernel)) ggL_law_X0_place
set_option maxRecDepth 20000 in
theorem ggL_law_X1_place : GoodIn wsL_law wsX1_place := goodIn_r _ [147, 52, 51, 31, 198, 199, 200, 201, 202, 203, 204, 205, 206, 207] (by decide +kernel) (by decide +kernel)
set_option maxRecDepth 20000 in
theorem gL_law_X1_place : GoodIn wsL_law (wsV RL 43 RX1 yX1_place wsX1_place) := goodIn_app (goodIn_of _ (by decide +kernel)) ggL_law_X1_place
set_option maxRecDepth 20000 in
theorem ggL_law_X0_isLong : GoodIn wsL_law wsX0_isLong := goodIn_r _ [151, 13, 140, 141, 142, 2, 143, 22, 112, 113, 114, 115, 17, 88, 89, 90, 91, 14, 188, 189, 190, 191, 192, 193, 194, 195, 196, 197] (by decide +kernel) (by decide +kernel)
set_option maxRecDepth 20000 in
theorem gL_law_X0_isLong : GoodIn wsL_law (wsV RL 44 RX0 yX0_isLong wsX0_isLong) := goodIn_app (goodIn_of _ (by decide +kernel)) ggL_law_X0_isLong
set_option maxRecDepth 20000 in
theorem ggL_law_X1_isLong : GoodIn wsL_law wsX1_isLong := goodIn_r _ [155, 52, 51, 27, 30, 198, 199, 200, 201, 202, 203, 204, 205, 206, 207] (by decide +kernel) (by decide +kernel)
set_option maxRecDepth 20000 in
theorem gL_law_X1_isLong : GoodIn wsL_law (wsV RL 47 RX1 yX1_isLong wsX1_isLong) := goodIn_app (goodIn_of _ (by decide +kernel)) ggL_law_X1_isLong
set_option maxRecDepth 20000 in
theorem ggL_law_X0_longs : GoodIn wsL_law wsX0_longs := goodIn_r _ [159, 22, 19, 188, 189, 190, 191, 192, 193, 194, 195, 196, 197] (by decide +kernel) (by decide +kernel)
set_option maxRecDepth 20000 in
theorem gL_law_X0_longs : GoodIn wsL_law (wsV RL 48 RX0 yX0_longs wsX0_longs) := goodIn_app (goodIn_of _ (by decide +kernel)) ggL_law_X0_longs
set_option maxRecDepth 20000 in
theorem ggL_law_X1_longs : GoodIn wsL_law wsX1_longs := goodIn_r _ [163, 52, 51, 27, 30, 198, 199, 200, 201, 202, 203, 204, 205, 206, 207] (by decide +kernel) (by decide +kernel)
set_option maxRecDepth 20000 in
theorem gL_law_X1_longs : GoodIn wsL_law (wsV RL 51 RX1 yX1_longs wsX1_longs) := goodIn_app (goodIn_of _ (by decide +kernel)) ggL_law_X1_longs
set_option maxRecDepth 20000 in
theorem ggL_law_X0_clear : GoodIn wsL_law wsX0_clear := goodIn_r _ [167, 17, 18, 22, 188, 189, 190, 191, 192, 193, 194, 195, 196, 197] (by decide +kernel) (by decide +kernel)
set_option maxRecDepth 20000 in
theorem gL_law_X0_clear : GoodIn wsL_law (wsV RL 52 RX0 yX0_clear wsX0_clear) := goodIn_app (goodIn_of _ (by decide +kernel)) ggL_law_X0_clear
set_option maxRecDepth 20000 in
theorem ggL_law_X1_clear : GoodIn wsL_law wsX1_clear := goodIn_r _ [171, 51, 61, 52, 198, 199, 200, 201, 202, 203, 204, 205, 206, 207] (by decide +kernel) (by decide +kernel)
set_option maxRecDepth 20000 in
theorem gL_law_X1_clear : GoodIn wsL_law (wsV RL 55 RX1 yX1_clear wsX1_clear) := goodIn_app (goodIn_of _ (by decide +kernel)) ggL_law_X1_clear
set_option maxRecDepth 20000 in
theorem ggL_law_X0_items : GoodIn wsL_law wsX0_items := goodIn_r _ [175, 17, 188, 189, 190, 191, 192, 193, 194, 195, 196, 197] (by decide +kernel) (by decide +kernel)
set_option maxRecDepth 20000 in
theorem gL_law_X0_items : GoodIn wsL_law (wsV RL 56 RX0 yX0_items wsX0_items) := goodIn_app (goodIn_of _ (by decide +kernel)) ggL_law_X0_items
set_option maxRecDepth 20000 in
theorem ggL_law_X1_items : GoodIn wsL_law wsX1_items := goodIn_r _ [179, 51, 198, 199, 200, 201, 202, 203, 204, 205, 206, 207] (by decide +kernel) (by decide +kernel)
set_option maxRecDepth 20000 in
theorem gL_law_X1_items : GoodIn wsL_law (wsV RL 59 RX1 yX1_items wsX1_items) := goodIn_app (goodIn_of _ (by decide +kernel)) ggL_law_X1_items
set_option maxRecDepth 20000 in
theorem ggL_law_X0_marks : GoodIn wsL_law wsX0_marks := goodIn_r _ [183, 18, 188, 189, 190, 191, 192, 193, 194, 195, 196, 197] (by decide +kernel) (by decide +kernel)
set_option maxRecDepth 20000 in
theorem gL_law_X0_marks : GoodIn wsL_law (wsV RL 60 RX0 yX0_marks wsX0_marks) := goodIn_app (goodIn_of _ (by decide +kernel)) ggL_law_X0_marks
set_option maxRecDepth 20000 in
theorem ggL_law_X1_marks : GoodIn wsL_law wsX1_marks := goodIn_r _ [187, 61, 198, 199, 200, 201, 202, 203, 204, 205, 206, 207] (by decide +kernel) (by decide +kernel)
set_option maxRecDepth 20000 in
theorem gL_law_X1_marks : GoodIn wsL_law (wsV RL 63 RX1 yX1_marks wsX1_marks) := goodIn_app (goodIn_of _ (by decide +kernel)) ggL_law_X1_marks
theorem dL_law_0 : decode cL_law 0 = .ok (.new 7, 3) := by decide +kernel
theorem dL_law_3 : decode cL_law 3 = .ok (.dup, 1) := by decide +kernel
theorem dL_law_4 : decode cL_law 4 = .ok (.invokespecial 9, 3) := by decide +kernel
theorem dL_law_7 : decode cL_law 7 = .ok (.astore_n 1, 1) := by decide +kernel
theorem dL_law_8 : decode cL_law 8 = .ok (.new 10, 3) := by decide +kernel
theorem dL_law_11 : decode cL_law 11 = .ok (.dup, 1) := by decide +kernel
theorem dL_law_12 : decode cL_law 12 = .ok (.invokespecial 12, 3) := by decide +kernel
theorem dL_law_15 : decode cL_law 15 = .ok (.astore_n 2, 1) := by decide +kernel
theorem dL_law_16 : decode cL_law 16 = .ok (.iconst 0, 1) := by decide +kernel
theorem dL_law_17 : decode cL_law 17 = .ok (.istore_n 3, 1) := by decide +kernel
theorem dL_law_18 : decode cL_law 18 = .ok (.iload_n 3, 1) := by decide +kernel
theorem dL_law_19 : decode cL_law 19 = .ok (.aload_n 0, 1) := by decide +kernel
theorem dL_law_20 : decode cL_law 20 = .ok (.arraylength, 1) := by decide +kernel
theorem dL_law_21 : decode cL_law 21 = .ok (.iconst 2, 1) := by decide +kernel
theorem dL_law_22 : decode cL_law 22 = .ok (.isub, 1) := by decide +kernel
theorem dL_law_23 : decode cL_law 23 = .ok (.if_icmp .gt 283, 3) := by decide +kernel
theorem dL_law_26 : decode cL_law 26 = .ok (.aload_n 0, 1) := by decide +kernel
theorem dL_law_27 : decode cL_law 27 = .ok (.iload_n 3, 1) := by decide +kernel
theorem dL_law_28 : decode cL_law 28 = .ok (.iaload, 1) := by decide +kernel
theorem dL_law_29 : decode cL_law 29 = .ok (.bipush 15, 2) := by decide +kernel
theorem dL_law_31 : decode cL_law 31 = .ok (.iand, 1) := by decide +kernel
theorem dL_law_32 : decode cL_law 32 = .ok (.tableswitch 268 0 11 #[64, 87, 100, 123, 146, 159, 172, 195, 218, 231, 242, 255], 64) := by decide +kernel
theorem dL_law_96 : decode cL_law 96 = .ok (.aload_n 1, 1) := by decide +kernel
theorem dL_law_97 : decode cL_law 97 = .ok (.aload_n 0, 1) := by decide +kernel
theorem dL_law_98 : decode cL_law 98 = .ok (.iload_n 3, 1) := by decide +kernel
theorem dL_law_99 : decode cL_law 99 = .ok (.iconst 1, 1) := by decide +kernel
theorem dL_law_100 : decode cL_law 100 = .ok (.iadd, 1) := by decide +kernel
theorem dL_law_101 : decode cL_law 101 = .ok (.iaload, 1) := by decide +kernel
theorem dL_law_102 : decode cL_law 102 = .ok (.invokevirtual 13, 3) := by decide +kernel
theorem dL_law_105 : decode cL_law 105 = .ok (.aload_n 2, 1) := by decide +kernel
theorem dL_law_106 : decode cL_law 106 = .ok (.aload_n 0, 1) := by decide +kernel
theorem dL_law_107 : decode cL_law 107 = .ok (.iload_n 3, 1) := by decide +kernel
theorem dL_law_108 : decode cL_law 108 = .ok (.iconst 1, 1) := by decide +kernel
theorem dL_law_109 : decode cL_law 109 = .ok (.iadd, 1) := by decide +kernel
theorem dL_law_110 : decode cL_law 110 = .ok (.iaload, 1) := by decide +kernel
theorem dL_law_111 : decode cL_law 111 = .ok (.invokevirtual 17, 3) := by decide +kernel
theorem dL_law_114 : decode cL_law 114 = .ok (.if_icmp .eq 186, 3) := by decide +kernel
theorem dL_law_117 : decode cL_law 117 = .ok (.iconst 0, 1) := by decide +kernel
theorem dL_law_118 : decode cL_law 118 = .ok (.ireturn, 1) := by decide +kernel
theorem dL_law_119 : decode cL_law 119 = .ok (.aload_n 1, 1) := by decide +kernel
theorem dL_law_120 : decode cL_law 120 = .ok (.invokevirtual 18, 3) := by decide +kernel
theorem dL_law_123 : decode cL_law 123 = .ok (.aload_n 2, 1) := by decide +kernel
theorem dL_law_124 : decode cL_law 124 = .ok (.invokevirtual 22, 3) := by decide +kernel
theorem dL_law_127 : decode cL_law 127 = .ok (.if_icmp .eq 173, 3) := by decide +kernel
theorem dL_law_130 : decode cL_law 130 = .ok (.iconst 0, 1) := by decide +kernel
theorem dL_law_131 : decode cL_law 131 = .ok (.ireturn, 1) := by decide +kernel
theorem dL_law_132 : decode cL_law 132 = .ok (.aload_n 1, 1) := by decide +kernel
theorem dL_law_133 : decode cL_law 133 = .ok (.aload_n 0, 1) := by decide +kernel
theorem dL_law_134 : decode cL_law 134 = .ok (.iload_n 3, 1) := by decide +kernel
theorem dL_law_135 : decode cL_law 135 = .ok (.iconst 1, 1) := by decide +kernel
theorem dL_law_136 : decode cL_law 136 = .ok (.iadd, 1) := by decide +kernel
theorem dL_law_137 : decode cL_law 137 = .ok (.iaload, 1) := by decide +kernel
theorem dL_law_138 : decode cL_law 138 = .ok (.invokevirtual 23, 3) := by decide +kernel
theorem dL_law_141 : decode cL_law 141 = .ok (.aload_n 2, 1) := by decide +kernel
theorem dL_law_142 : decode cL_law 142 = .ok (.aload_n 0, 1) := by decide +kernel
theorem dL_law_143 : decode cL_law 143 = .ok (.iload_n 3, 1) := by decide +kernel
theorem dL_law_144 : decode cL_law 144 = .ok (.iconst 1, 1) := by decide +kernel
theorem dL_law_145 : decode cL_law 145 = .ok (.iadd, 1) := by decide +kernel
theorem dL_law_146 : decode cL_law 146 = .ok (.iaload, 1) := by decide +kernel
theorem dL_law_147 : decode cL_law 147 = .ok (.invokevirtual 26, 3) := by decide +kernel
theorem dL_law_150 : decode cL_law 150 = .ok (.if_icmp .eq 150, 3) := by decide +kernel
theorem dL_law_153 : decode cL_law 153 = .ok (.iconst 0, 1) := by decide +kernel
theorem dL_law_154 : decode cL_law 154 = .ok (.ireturn, 1) := by decide +kernel
theorem dL_law_155 : decode cL_law 155 = .ok (.aload_n 1, 1) := by decide +kernel
theorem dL_law_156 : decode cL_law 156 = .ok (.aload_n 0, 1) := by decide +kernel
theorem dL_law_157 : decode cL_law 157 = .ok (.iload_n 3, 1) := by decide +kernel
theorem dL_law_158 : decode cL_law 158 = .ok (.iconst 1, 1) := by decide +kernel
theorem dL_law_159 : decode cL_law 159 = .ok (.iadd, 1) := by decide +kernel
theorem dL_law_160 : decode cL_law 160 = .ok (.iaload, 1) := by decide +kernel
theorem dL_law_161 : decode cL_law 161 = .ok (.invokevirtual 27, 3) := by decide +kernel
theorem dL_law_164 : decode cL_law 164 = .ok (.aload_n 2, 1) := by decide +kernel
theorem dL_law_165 : decode cL_law 165 = .ok (.aload_n 0, 1) := by decide +kernel
theorem dL_law_166 : decode cL_law 166 = .ok (.iload_n 3, 1) := by decide +kernel
theorem dL_law_167 : decode cL_law 167 = .ok (.iconst 1, 1) := by decide +kernel
theorem dL_law_168 : decode cL_law 168 = .ok (.iadd, 1) := by decide +kernel
theorem dL_law_169 : decode cL_law 169 = .ok (.iaload, 1) := by decide +kernel
theorem dL_law_170 : decode cL_law 170 = .ok (.invokevirtual 31, 3) := by decide +kernel
theorem dL_law_173 : decode cL_law 173 = .ok (.if_icmp .eq 127, 3) := by decide +kernel
theorem dL_law_176 : decode cL_law 176 = .ok (.iconst 0, 1) := by decide +kernel
theorem dL_law_177 : decode cL_law 177 = .ok (.ireturn, 1) := by decide +kernel
theorem dL_law_178 : decode cL_law 178 = .ok (.aload_n 1, 1) := by decide +kernel
theorem dL_law_179 : decode cL_law 179 = .ok (.invokevirtual 32, 3) := by decide +kernel
theorem dL_law_182 : decode cL_law 182 = .ok (.aload_n 2, 1) := by decide +kernel
theorem dL_law_183 : decode cL_law 183 = .ok (.invokevirtual 35, 3) := by decide +kernel
theorem dL_law_186 : decode cL_law 186 = .ok (.if_icmp .eq 114, 3) := by decide +kernel
theorem dL_law_189 : decode cL_law 189 = .ok (.iconst 0, 1) := by decide +kernel
theorem dL_law_190 : decode cL_law 190 = .ok (.ireturn, 1) := by decide +kernel
theorem dL_law_191 : decode cL_law 191 = .ok (.aload_n 1, 1) := by decide +kernel
theorem dL_law_192 : decode cL_law 192 = .ok (.invokevirtual 36, 3) := by decide +kernel
theorem dL_law_195 : decode cL_law 195 = .ok (.aload_n 2, 1) := by decide +kernel
theorem dL_law_196 : decode cL_law 196 = .ok (.invokevirtual 39, 3) := by decide +kernel
theorem dL_law_199 : decode cL_law 199 = .ok (.if_icmp .eq 101, 3) := by decide +kernel
theorem dL_law_202 : decode cL_law 202 = .ok (.iconst 0, 1) := by decide +kernel
theorem dL_law_203 : decode cL_law 203 = .ok (.ireturn, 1) := by decide +kernel
theorem dL_law_204 : decode cL_law 204 = .ok (.aload_n 1, 1) := by decide +kernel
theorem dL_law_205 : decode cL_law 205 = .ok (.aload_n 0, 1) := by decide +kernel
theorem dL_law_206 : decode cL_law 206 = .ok (.iload_n 3, 1) := by decide +kernel
theorem dL_law_207 : decode cL_law 207 = .ok (.iconst 1, 1) := by decide +kernel
theorem dL_law_208 : decode cL_law 208 = .ok (.iadd, 1) := by decide +kernel
theorem dL_law_209 : decode cL_law 209 = .ok (.iaload, 1) := by decide +kernel
theorem dL_law_210 : decode cL_law 210 = .ok (.invokevirtual 40, 3) := by decide +kernel
theorem dL_law_213 : decode cL_law 213 = .ok (.aload_n 2, 1) := by decide +kernel
theorem dL_law_214 : decode cL_law 214 = .ok (.aload_n 0, 1) := by decide +kernel
theorem dL_law_215 : decode cL_law 215 = .ok (.iload_n 3, 1) := by decide +kernel
theorem dL_law_216 : decode cL_law 216 = .ok (.iconst 1, 1) := by decide +kernel
theorem dL_law_217 : decode cL_law 217 = .ok (.iadd, 1) := by decide +kernel
theorem dL_law_218 : decode cL_law 218 = .ok (.iaload, 1) := by decide +kernel
theorem dL_law_219 : decode cL_law 219 = .ok (.invokevirtual 43, 3) := by decide +kernel
theorem dL_law_222 : decode cL_law 222 = .ok (.if_icmp .eq 78, 3) := by decide +kernel
theorem dL_law_225 : decode cL_law 225 = .ok (.iconst 0, 1) := by decide +kernel
theorem dL_law_226 : decode cL_law 226 = .ok (.ireturn, 1) := by decide +kernel
theorem dL_law_227 : decode cL_law 227 = .ok (.aload_n 1, 1) := by decide +kernel
theorem dL_law_228 : decode cL_law 228 = .ok (.aload_n 0, 1) := by decide +kernel
theorem dL_law_229 : decode cL_law 229 = .ok (.iload_n 3, 1) := by decide +kernel
theorem dL_law_230 : decode cL_law 230 = .ok (.iconst 1, 1) := by decide +kernel
theorem dL_law_231 : decode cL_law 231 = .ok (.iadd, 1) := by decide +kernel
theorem dL_law_232 : decode cL_law 232 = .ok (.iaload, 1) := by decide +kernel
theorem dL_law_233 : decode cL_law 233 = .ok (.invokevirtual 44, 3) := by decide +kernel
theorem dL_law_236 : decode cL_law 236 = .ok (.aload_n 2, 1) := by decide +kernel
theorem dL_law_237 : decode cL_law 237 = .ok (.aload_n 0, 1) := by decide +kernel
theorem dL_law_238 : decode cL_law 238 = .ok (.iload_n 3, 1) := by decide +kernel
theorem dL_law_239 : decode cL_law 239 = .ok (.iconst 1, 1) := by decide +kernel
theorem dL_law_240 : decode cL_law 240 = .ok (.iadd, 1) := by decide +kernel
theorem dL_law_241 : decode cL_law 241 = .ok (.iaload, 1) := by decide +kernel
theorem dL_law_242 : decode cL_law 242 = .ok (.invokevirtual 47, 3) := by decide +kernel
theorem dL_law_245 : decode cL_law 245 = .ok (.if_icmp .eq 55, 3) := by decide +kernel
theorem dL_law_248 : decode cL_law 248 = .ok (.iconst 0, 1) := by decide +kernel
theorem dL_law_249 : decode cL_law 249 = .ok (.ireturn, 1) := by decide +kernel
theorem dL_law_250 : decode cL_law 250 = .ok (.aload_n 1, 1) := by decide +kernel
theorem dL_law_251 : decode cL_law 251 = .ok (.invokevirtual 48, 3) := by decide +kernel
theorem dL_law_254 : decode cL_law 254 = .ok (.aload_n 2, 1) := by decide +kernel
theorem dL_law_255 : decode cL_law 255 = .ok (.invokevirtual 51, 3) := by decide +kernel
theorem dL_law_258 : decode cL_law 258 = .ok (.if_icmp .eq 42, 3) := by decide +kernel
theorem dL_law_261 : decode cL_law 261 = .ok (.iconst 0, 1) := by decide +kernel
theorem dL_law_262 : decode cL_law 262 = .ok (.ireturn, 1) := by decide +kernel
theorem dL_law_263 : decode cL_law 263 = .ok (.aload_n 1, 1) := by decide +kernel
theorem dL_law_264 : decode cL_law 264 = .ok (.invokevirtual 52, 3) := by decide +kernel
theorem dL_law_267 : decode cL_law 267 = .ok (.aload_n 2, 1) := by decide +kernel
theorem dL_law_268 : decode cL_law 268 = .ok (.invokevirtual 55, 3) := by decide +kernel
theorem dL_law_271 : decode cL_law 271 = .ok (.goto 29, 3) := by decide +kernel
theorem dL_law_274 : decode cL_law 274 = .ok (.aload_n 1, 1) := by decide +kernel
theorem dL_law_275 : decode cL_law 275 = .ok (.invokevirtual 56, 3) := by decide +kernel
theorem dL_law_278 : decode cL_law 278 = .ok (.aload_n 2, 1) := by decide +kernel
theorem dL_law_279 : decode cL_law 279 = .ok (.invokevirtual 59, 3) := by decide +kernel
theorem dL_law_282 : decode cL_law 282 = .ok (.if_icmp .eq 18, 3) := by decide +kernel
theorem dL_law_285 : decode cL_law 285 = .ok (.iconst 0, 1) := by decide +kernel
theorem dL_law_286 : decode cL_law 286 = .ok (.ireturn, 1) := by decide +kernel
theorem dL_law_287 : decode cL_law 287 = .ok (.aload_n 1, 1) := by decide +kernel
theorem dL_law_288 : decode cL_law 288 = .ok (.invokevirtual 60, 3) := by decide +kernel
theorem dL_law_291 : decode cL_law 291 = .ok (.aload_n 2, 1) := by decide +kernel
theorem dL_law_292 : decode cL_law 292 = .ok (.invokevirtual 63, 3) := by decide +kernel
theorem dL_law_295 : decode cL_law 295 = .ok (.if_icmp .eq 5, 3) := by decide +kernel
theorem dL_law_298 : decode cL_law 298 = .ok (.iconst 0, 1) := by decide +kernel
theorem dL_law_299 : decode cL_law 299 = .ok (.ireturn, 1) := by decide +kernel
theorem dL_law_300 : decode cL_law 300 = .ok (.iinc 3 2, 3) := by decide +kernel
theorem dL_law_303 : decode cL_law 303 = .ok (.goto (-285), 3) := by decide +kernel
theorem dL_law_306 : decode cL_law 306 = .ok (.iconst 1, 1) := by decide +kernel
theorem dL_law_307 : decode cL_law 307 = .ok (.ireturn, 1) := by decide +kernel
abbrev vwCl : List vw_C := [(RX0, TX0, 10), (RX1, TX1, 10)]
/-! ===== END printed: names ===== -/
