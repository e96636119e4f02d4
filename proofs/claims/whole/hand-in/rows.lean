section
-- ===== PART A: goes FIRST, ahead of the names: the tables' words, and 'selects' of the private methods out of them =====
/-- a private method of a class that the tables say can be made, by its rows of tables_1 -/
def lw_okq (q : MethodName × Nat) : Prop := (q.1.cls ≠ "java/lang/invoke/MethodHandle" ∧ q.1.cls ≠ "java/lang/invoke/VarHandle") ∧ Cond.instantiable q.1.cls q.2 ∈ tables_1 ∧ Cond.privateMethod q.1 ∈ tables_1 ∧ Cond.instanceMethod q.1 ∈ tables_1
theorem lw_p0 : lw_okq (⟨"ResidueTransforms", "reduce", "(IJ)V"⟩, 2) := ⟨⟨by decide +kernel, by decide +kernel⟩, List.mem_of_getElem? (i := 5) (by decide +kernel), List.mem_of_getElem? (i := 55) (by decide +kernel), List.mem_of_getElem? (i := 56) (by decide +kernel)⟩
theorem lw_p1 : lw_okq (⟨"ResidueTransforms", "reorder", "(I)V"⟩, 2) := ⟨⟨by decide +kernel, by decide +kernel⟩, List.mem_of_getElem? (i := 5) (by decide +kernel), List.mem_of_getElem? (i := 65) (by decide +kernel), List.mem_of_getElem? (i := 66) (by decide +kernel)⟩
theorem lw_p2 : lw_okq (⟨"ResidueTransforms", "joinHalves", "(IJI)V"⟩, 2) := ⟨⟨by decide +kernel, by decide +kernel⟩, List.mem_of_getElem? (i := 5) (by decide +kernel), List.mem_of_getElem? (i := 75) (by decide +kernel), List.mem_of_getElem? (i := 76) (by decide +kernel)⟩
theorem lw_p3 : lw_okq (⟨"ResidueTransforms", "joinPairs", "(IIIJJ)V"⟩, 2) := ⟨⟨by decide +kernel, by decide +kernel⟩, List.mem_of_getElem? (i := 5) (by decide +kernel), List.mem_of_getElem? (i := 79) (by decide +kernel), List.mem_of_getElem? (i := 80) (by decide +kernel)⟩
theorem lw_p4 : lw_okq (⟨"ResidueTransforms", "scale", "(IJJ)V"⟩, 2) := ⟨⟨by decide +kernel, by decide +kernel⟩, List.mem_of_getElem? (i := 5) (by decide +kernel), List.mem_of_getElem? (i := 83) (by decide +kernel), List.mem_of_getElem? (i := 84) (by decide +kernel)⟩
def lw_privs_1 : List (MethodName × Nat) := [(⟨"ResidueTransforms", "reduce", "(IJ)V"⟩, 2), (⟨"ResidueTransforms", "reorder", "(I)V"⟩, 2), (⟨"ResidueTransforms", "joinHalves", "(IJI)V"⟩, 2), (⟨"ResidueTransforms", "joinPairs", "(IIIJJ)V"⟩, 2), (⟨"ResidueTransforms", "scale", "(IJJ)V"⟩, 2)]
theorem lw_r1 : ∀ q ∈ lw_privs_1, lw_okq q := List.forall_mem_cons.mpr ⟨lw_p0, List.forall_mem_cons.mpr ⟨lw_p1, List.forall_mem_cons.mpr ⟨lw_p2, List.forall_mem_cons.mpr ⟨lw_p3, List.forall_mem_cons.mpr ⟨lw_p4, fun _ h => absurd h List.not_mem_nil⟩⟩⟩⟩⟩
def lw_privs : List (MethodName × Nat) := lw_privs_1
def lw_tbl : List Cond := k2_sels lw_privs ++ tables_1
theorem lw_privs_ok : ∀ q ∈ lw_privs, lw_okq q := lw_r1
/-! ===== BEGIN words of one list among another's, by their places ===== -/
theorem goodIn_r {big : List Cond} (ws : List Cond) (ps : List Nat) (hp : ws = ps.filterMap (fun i => big[i]?)) (h : ws.all goodWord = true) : GoodIn big ws := by
  intro w hw
  have h1 := List.all_eq_true.mp h w hw
  rw [hp] at hw
  obtain ⟨i, -, hi⟩ := List.mem_filterMap.mp hw
  have hm : w ∈ big := by first | exact List.mem_of_getElem? hi | exact List.getElem?_mem hi
  exact ⟨hm, good_of_word h1⟩
theorem goodIn_app {big a b : List Cond} (ha : GoodIn big a) (hb : GoodIn big b) : GoodIn big (a ++ b) := fun w h => (List.mem_append.mp h).elim (ha w) (hb w)
theorem goodIn_ca {big a b : List Cond} {c : Cond} (ha : GoodIn big (c :: a)) (hb : GoodIn big b) : GoodIn big (c :: (a ++ b)) := fun w h => (List.mem_cons.mp h).elim (fun e => ha w (List.mem_cons.mpr (Or.inl e))) (fun h => (List.mem_append.mp h).elim (fun h => ha w (List.mem_cons.mpr (Or.inr h))) (hb w))
theorem goodIn_sub {big ws : List Cond} (hm : ∀ w ∈ ws, w ∈ big) (h : ws.all goodWord = true) : GoodIn big ws := fun w hw => ⟨hm w hw, good_of_word (List.all_eq_true.mp h w hw)⟩
/-! ===== END ===== -/

/-! ===== BEGIN printed: names, fields, word lists, decode rows ===== -/
def RX0 : String := "ResidueTransforms"
def TX0 : u_T := fun k => match k with
  | 0 => ("ResidueTransforms", "row", "[J", true)
  | _ => ("ResidueTransforms", "kept", "[J", true)
def tyX0 : Nat → FieldType := fun k => match k with
  | 0 => .array .long
  | _ => .array .long
abbrev wsX00 : List Cond := u_ws RX0 TX0 2
theorem nmX0 : ∀ a, a < 2 → ∀ b, b < 2 → a ≠ b → (TX0 a).2.1 ≠ (TX0 b).2.1 := by decide +kernel
theorem tyX0_ok : ∀ k, k < 2 → parseFieldDescriptor (TX0 k).2.2.1 = some (tyX0 k) := by decide +kernel
abbrev cX0_init : ByteArray := prog_1_method_1_code
def yX0_init : MethodName := ⟨RX0, "<init>", "()V"⟩
abbrev cX0_put : ByteArray := prog_1_method_2_code
def yX0_put : MethodName := ⟨RX0, "put", "(IJ)Z"⟩
abbrev cX0_get : ByteArray := prog_1_method_3_code
def yX0_get : MethodName := ⟨RX0, "get", "(I)J"⟩
abbrev cX0_transform : ByteArray := prog_1_method_4_code
def yX0_transform : MethodName := ⟨RX0, "transform", "(IIZ)I"⟩
abbrev cX0_keep : ByteArray := prog_1_method_5_code
def yX0_keep : MethodName := ⟨RX0, "keep", "(I)Z"⟩
abbrev cX0_times : ByteArray := prog_1_method_6_code
def yX0_times : MethodName := ⟨RX0, "times", "(II)I"⟩
abbrev cX0_root : ByteArray := prog_1_method_7_code
def yX0_root : MethodName := ⟨RX0, "root", "(II)J"⟩
abbrev cX0_isPlace : ByteArray := prog_1_method_8_code
def yX0_isPlace : MethodName := ⟨RX0, "isPlace", "(I)Z"⟩
abbrev cX0_isCount : ByteArray := prog_1_method_9_code
def yX0_isCount : MethodName := ⟨RX0, "isCount", "(I)Z"⟩
abbrev cX0_isSize : ByteArray := prog_1_method_10_code
def yX0_isSize : MethodName := ⟨RX0, "isSize", "(I)Z"⟩
abbrev cX0_isUsablePrime : ByteArray := prog_1_method_11_code
def yX0_isUsablePrime : MethodName := ⟨RX0, "isUsablePrime", "(I)Z"⟩
abbrev cX0_refusalOf : ByteArray := prog_1_method_12_code
def yX0_refusalOf : MethodName := ⟨RX0, "refusalOf", "(II)I"⟩
abbrev cX0_rootOfUnity : ByteArray := prog_1_method_13_code
def yX0_rootOfUnity : MethodName := ⟨RX0, "rootOfUnity", "(II)J"⟩
abbrev cX0_rest : ByteArray := prog_1_method_14_code
def yX0_rest : MethodName := ⟨RX0, "rest", "(JJ)J"⟩
abbrev cX0_product : ByteArray := prog_1_method_15_code
def yX0_product : MethodName := ⟨RX0, "product", "(JJJ)J"⟩
abbrev cX0_power : ByteArray := prog_1_method_16_code
def yX0_power : MethodName := ⟨RX0, "power", "(JIJ)J"⟩
abbrev cX0_inverse : ByteArray := prog_1_method_17_code
def yX0_inverse : MethodName := ⟨RX0, "inverse", "(JI)J"⟩
abbrev cX0_reduce : ByteArray := prog_1_method_18_code
def yX0_reduce : MethodName := ⟨RX0, "reduce", "(IJ)V"⟩
abbrev cX0_scale : ByteArray := prog_1_method_19_code
def yX0_scale : MethodName := ⟨RX0, "scale", "(IJJ)V"⟩
abbrev cX0_reorder : ByteArray := prog_1_method_20_code
def yX0_reorder : MethodName := ⟨RX0, "reorder", "(I)V"⟩
abbrev cX0_mirrored : ByteArray := prog_1_method_21_code
def yX0_mirrored : MethodName := ⟨RX0, "mirrored", "(II)I"⟩
abbrev cX0_joinHalves : ByteArray := prog_1_method_22_code
def yX0_joinHalves : MethodName := ⟨RX0, "joinHalves", "(IJI)V"⟩
abbrev cX0_joinPairs : ByteArray := prog_1_method_23_code
def yX0_joinPairs : MethodName := ⟨RX0, "joinPairs", "(IIIJJ)V"⟩
def RX1 : String := "ResidueTransformsModel"
def TX1 : u_T := fun k => match k with
  | 0 => ("ResidueTransformsModel", "row", "[J", true)
  | 1 => ("ResidueTransformsModel", "kept", "[J", true)
  | 2 => ("ResidueTransformsModel", "work", "[J", true)
  | _ => ("ResidueTransformsModel", "keptSize", "I", false)
def tyX1 : Nat → FieldType := fun k => match k with
  | 0 => .array .long
  | 1 => .array .long
  | 2 => .array .long
  | _ => .int
abbrev wsX10 : List Cond := u_ws RX1 TX1 4
theorem nmX1 : ∀ a, a < 4 → ∀ b, b < 4 → a ≠ b → (TX1 a).2.1 ≠ (TX1 b).2.1 := by decide +kernel
theorem tyX1_ok : ∀ k, k < 4 → parseFieldDescriptor (TX1 k).2.2.1 = some (tyX1 k) := by decide +kernel
abbrev cX1_init : ByteArray := prog_3_method_1_code
def yX1_init : MethodName := ⟨RX1, "<init>", "()V"⟩
abbrev cX1_put : ByteArray := prog_3_method_3_code
def yX1_put : MethodName := ⟨RX1, "put", "(IJ)Z"⟩
abbrev cX1_get : ByteArray := prog_3_method_4_code
def yX1_get : MethodName := ⟨RX1, "get", "(I)J"⟩
abbrev cX1_refused : ByteArray := prog_3_method_5_code
def yX1_refused : MethodName := ⟨RX1, "refused", "(II)I"⟩
abbrev cX1_isPrime : ByteArray := prog_3_method_6_code
def yX1_isPrime : MethodName := ⟨RX1, "isPrime", "(I)Z"⟩
abbrev cX1_rest : ByteArray := prog_3_method_7_code
def yX1_rest : MethodName := ⟨RX1, "rest", "(JI)J"⟩
abbrev cX1_power : ByteArray := prog_3_method_8_code
def yX1_power : MethodName := ⟨RX1, "power", "(JJI)J"⟩
abbrev cX1_rootOf : ByteArray := prog_3_method_9_code
def yX1_rootOf : MethodName := ⟨RX1, "rootOf", "(II)J"⟩
abbrev cX1_root : ByteArray := prog_3_method_10_code
def yX1_root : MethodName := ⟨RX1, "root", "(II)J"⟩
abbrev cX1_transform : ByteArray := prog_3_method_11_code
def yX1_transform : MethodName := ⟨RX1, "transform", "(IIZ)I"⟩
abbrev cX1_keep : ByteArray := prog_3_method_12_code
def yX1_keep : MethodName := ⟨RX1, "keep", "(I)Z"⟩
abbrev cX1_times : ByteArray := prog_3_method_13_code
def yX1_times : MethodName := ⟨RX1, "times", "(II)I"⟩
def RJ9 : String := "java/lang/Math"
def TJ9 : u_T := fun k => match k with
  | _ => ("", "", "", false)
def tyJ9 : Nat → FieldType := fun k => match k with
  | _ => .int
abbrev wsJ90 : List Cond := u_ws RJ9 TJ9 0
theorem nmJ9 : ∀ a, a < 0 → ∀ b, b < 0 → a ≠ b → (TJ9 a).2.1 ≠ (TJ9 b).2.1 := by decide +kernel
theorem tyJ9_ok : ∀ k, k < 0 → parseFieldDescriptor (TJ9 k).2.2.1 = some (tyJ9 k) := by decide +kernel
abbrev cJ9_floorMod_f86c9 : ByteArray := prog_4_method_52_code
def yJ9_floorMod_f86c9 : MethodName := ⟨RJ9, "floorMod", "(JJ)J"⟩
def RL : String := "ResidueTransformsLaw"
abbrev cL_law : ByteArray := code
def yL_law : MethodName := ⟨RL, "law", "([I)Z"⟩
def wsX0_init : List Cond := .code yX0_init cX0_init 1 none :: ([.methodLink RX0 1 objectInit, .instanceMethod objectInit, .code objectInit ⟨#[0xb1]⟩ 1 none, .arrayClass .long, .fieldLink RX0 9 "ResidueTransforms" "row" "[J", .fieldLink RX0 13 "ResidueTransforms" "kept" "[J"] ++ wsX00)
def wsX0_isPlace : List Cond := .code yX0_isPlace cX0_isPlace 1 (some .boolean) :: ([])
def wsX0_put : List Cond := .code yX0_put cX0_put 4 (some .boolean) :: ([.fieldLink RX0 9 "ResidueTransforms" "row" "[J", .methodLink RX0 16 yX0_isPlace, .static yX0_isPlace, .initialized RX0, .code yX0_isPlace cX0_isPlace 1 (some .boolean)] ++ wsX00)
def wsX0_get : List Cond := .code yX0_get cX0_get 2 (some .long) :: ([.fieldLink RX0 9 "ResidueTransforms" "row" "[J", .methodLink RX0 16 yX0_isPlace, .static yX0_isPlace, .initialized RX0, .code yX0_isPlace cX0_isPlace 1 (some .boolean)] ++ wsX00)
def wsX0_isSize : List Cond := .code yX0_isSize cX0_isSize 1 (some .boolean) :: ([])
def wsX0_isUsablePrime : List Cond := .code yX0_isUsablePrime cX0_isUsablePrime 2 (some .boolean) :: ([.constant RX0 62 (1000000007)])
def wsX0_refusalOf : List Cond := .code yX0_refusalOf cX0_refusalOf 2 (some .int) :: ([.methodLink RX0 63 yX0_isSize, .static yX0_isSize, .initialized RX0, .code yX0_isSize cX0_isSize 1 (some .boolean), .methodLink RX0 51 yX0_isUsablePrime, .static yX0_isUsablePrime, .code yX0_isUsablePrime cX0_isUsablePrime 2 (some .boolean), .constant RX0 62 (1000000007)])
def wsX0_product : List Cond := .code yX0_product cX0_product 6 (some .long) :: ([])
def wsX0_power : List Cond := .code yX0_power cX0_power 10 (some .long) :: ([.methodLink RX0 58 yX0_product, .static yX0_product, .initialized RX0, .code yX0_product cX0_product 6 (some .long)])
def wsX0_rootOfUnity : List Cond := .code yX0_rootOfUnity cX0_rootOfUnity 5 (some .long) :: ([.methodLink RX0 66 yX0_power, .static yX0_power, .initialized RX0, .code yX0_power cX0_power 10 (some .long), .methodLink RX0 58 yX0_product, .static yX0_product, .code yX0_product cX0_product 6 (some .long)])
def wsJ9_floorMod_f86c9 : List Cond := .code yJ9_floorMod_f86c9 cJ9_floorMod_f86c9 6 (some .long) :: ([])
def wsX0_rest : List Cond := .code yX0_rest cX0_rest 4 (some .long) :: ([.methodLink RX0 70 yJ9_floorMod_f86c9, .static yJ9_floorMod_f86c9, .initialized RJ9, .code yJ9_floorMod_f86c9 cJ9_floorMod_f86c9 6 (some .long)])
def wsX0_reduce : List Cond := .code yX0_reduce cX0_reduce 5 none :: ([.fieldLink RX0 9 "ResidueTransforms" "row" "[J", .methodLink RX0 54 yX0_rest, .static yX0_rest, .initialized RX0, .code yX0_rest cX0_rest 4 (some .long), .methodLink RX0 70 yJ9_floorMod_f86c9, .static yJ9_floorMod_f86c9, .initialized RJ9, .code yJ9_floorMod_f86c9 cJ9_floorMod_f86c9 6 (some .long)] ++ wsX00)
def wsX0_mirrored : List Cond := .code yX0_mirrored cX0_mirrored 5 (some .int) :: ([])
def wsX0_reorder : List Cond := .code yX0_reorder cX0_reorder 6 none :: ([.fieldLink RX0 9 "ResidueTransforms" "row" "[J", .methodLink RX0 75 yX0_mirrored, .static yX0_mirrored, .initialized RX0, .code yX0_mirrored cX0_mirrored 5 (some .int)] ++ wsX00)
def wsX0_inverse : List Cond := .code yX0_inverse cX0_inverse 3 (some .long) :: ([.methodLink RX0 66 yX0_power, .static yX0_power, .initialized RX0, .code yX0_power cX0_power 10 (some .long), .methodLink RX0 58 yX0_product, .static yX0_product, .code yX0_product cX0_product 6 (some .long)])
def wsX0_joinPairs : List Cond := .code yX0_joinPairs cX0_joinPairs 13 none :: ([.fieldLink RX0 9 "ResidueTransforms" "row" "[J", .methodLink RX0 58 yX0_product, .static yX0_product, .initialized RX0, .code yX0_product cX0_product 6 (some .long)] ++ wsX00)
def wsX0_joinHalves : List Cond := .code yX0_joinHalves cX0_joinHalves 11 none :: ([.methodLink RX0 66 yX0_power, .static yX0_power, .initialized RX0, .code yX0_power cX0_power 10 (some .long), .methodLink RX0 58 yX0_product, .static yX0_product, .code yX0_product cX0_product 6 (some .long), .methodLink RX0 78 yX0_joinPairs, .instanceMethod yX0_joinPairs, .selects RX0 yX0_joinPairs yX0_joinPairs, .code yX0_joinPairs cX0_joinPairs 13 none, .fieldLink RX0 9 "ResidueTransforms" "row" "[J"] ++ wsX00)
def wsX0_scale : List Cond := .code yX0_scale cX0_scale 7 none :: ([.fieldLink RX0 9 "ResidueTransforms" "row" "[J", .methodLink RX0 58 yX0_product, .static yX0_product, .initialized RX0, .code yX0_product cX0_product 6 (some .long)] ++ wsX00)
def wsX0_transform_r1 : List Cond := [Cond.methodLink RX0 20 yX0_refusalOf, Cond.static yX0_refusalOf, Cond.initialized RX0, Cond.code yX0_refusalOf cX0_refusalOf 2 (some .int), Cond.methodLink RX0 63 yX0_isSize, Cond.static yX0_isSize, Cond.code yX0_isSize cX0_isSize 1 (some .boolean), Cond.methodLink RX0 51 yX0_isUsablePrime, Cond.static yX0_isUsablePrime, Cond.code yX0_isUsablePrime cX0_isUsablePrime 2 (some .boolean), Cond.constant RX0 62 (1000000007), Cond.methodLink RX0 24 yX0_rootOfUnity, Cond.static yX0_rootOfUnity, Cond.code yX0_rootOfUnity cX0_rootOfUnity 5 (some .long), Cond.methodLink RX0 66 yX0_power, Cond.static yX0_power, Cond.code yX0_power cX0_power 10 (some .long), Cond.methodLink RX0 58 yX0_product, Cond.static yX0_product, Cond.code yX0_product cX0_product 6 (some .long), Cond.methodLink RX0 28 yX0_reduce, Cond.instanceMethod yX0_reduce, Cond.selects RX0 yX0_reduce yX0_reduce, Cond.code yX0_reduce cX0_reduce 5 none]
def wsX0_transform_r2 : List Cond := [Cond.fieldLink RX0 9 "ResidueTransforms" "row" "[J", Cond.methodLink RX0 54 yX0_rest, Cond.static yX0_rest, Cond.code yX0_rest cX0_rest 4 (some .long), Cond.methodLink RX0 70 yJ9_floorMod_f86c9, Cond.static yJ9_floorMod_f86c9, Cond.initialized RJ9, Cond.code yJ9_floorMod_f86c9 cJ9_floorMod_f86c9 6 (some .long), Cond.methodLink RX0 32 yX0_reorder, Cond.instanceMethod yX0_reorder, Cond.selects RX0 yX0_reorder yX0_reorder, Cond.code yX0_reorder cX0_reorder 6 none, Cond.methodLink RX0 75 yX0_mirrored, Cond.static yX0_mirrored, Cond.code yX0_mirrored cX0_mirrored 5 (some .int), Cond.methodLink RX0 36 yX0_inverse, Cond.static yX0_inverse, Cond.code yX0_inverse cX0_inverse 3 (some .long), Cond.methodLink RX0 40 yX0_joinHalves, Cond.instanceMethod yX0_joinHalves, Cond.selects RX0 yX0_joinHalves yX0_joinHalves, Cond.code yX0_joinHalves cX0_joinHalves 11 none, Cond.methodLink RX0 78 yX0_joinPairs, Cond.instanceMethod yX0_joinPairs]
def wsX0_transform_r3 : List Cond := [Cond.selects RX0 yX0_joinPairs yX0_joinPairs, Cond.code yX0_joinPairs cX0_joinPairs 13 none, Cond.methodLink RX0 44 yX0_scale, Cond.instanceMethod yX0_scale, Cond.selects RX0 yX0_scale yX0_scale, Cond.code yX0_scale cX0_scale 7 none]
def wsX0_transform : List Cond := .code yX0_transform cX0_transform 7 (some .int) :: ((wsX0_transform_r1 ++ (wsX0_transform_r2 ++ wsX0_transform_r3)) ++ wsX00)
def wsX0_isCount : List Cond := .code yX0_isCount cX0_isCount 1 (some .boolean) :: ([])
def wsX0_keep : List Cond := .code yX0_keep cX0_keep 3 (some .boolean) :: ([.fieldLink RX0 13 "ResidueTransforms" "kept" "[J", .fieldLink RX0 9 "ResidueTransforms" "row" "[J", .methodLink RX0 48 yX0_isCount, .static yX0_isCount, .initialized RX0, .code yX0_isCount cX0_isCount 1 (some .boolean)] ++ wsX00)
def wsX0_times : List Cond := .code yX0_times cX0_times 4 (some .int) :: ([.fieldLink RX0 9 "ResidueTransforms" "row" "[J", .fieldLink RX0 13 "ResidueTransforms" "kept" "[J", .methodLink RX0 48 yX0_isCount, .static yX0_isCount, .initialized RX0, .code yX0_isCount cX0_isCount 1 (some .boolean), .methodLink RX0 51 yX0_isUsablePrime, .static yX0_isUsablePrime, .code yX0_isUsablePrime cX0_isUsablePrime 2 (some .boolean), .constant RX0 62 (1000000007), .methodLink RX0 54 yX0_rest, .static yX0_rest, .code yX0_rest cX0_rest 4 (some .long), .methodLink RX0 70 yJ9_floorMod_f86c9, .static yJ9_floorMod_f86c9, .initialized RJ9, .code yJ9_floorMod_f86c9 cJ9_floorMod_f86c9 6 (some .long), .methodLink RX0 58 yX0_product, .static yX0_product, .code yX0_product cX0_product 6 (some .long)] ++ wsX00)
def wsX0_root : List Cond := .code yX0_root cX0_root 3 (some .long) :: ([.methodLink RX0 20 yX0_refusalOf, .static yX0_refusalOf, .initialized RX0, .code yX0_refusalOf cX0_refusalOf 2 (some .int), .methodLink RX0 63 yX0_isSize, .static yX0_isSize, .code yX0_isSize cX0_isSize 1 (some .boolean), .methodLink RX0 51 yX0_isUsablePrime, .static yX0_isUsablePrime, .code yX0_isUsablePrime cX0_isUsablePrime 2 (some .boolean), .constant RX0 62 (1000000007), .methodLink RX0 24 yX0_rootOfUnity, .static yX0_rootOfUnity, .code yX0_rootOfUnity cX0_rootOfUnity 5 (some .long), .methodLink RX0 66 yX0_power, .static yX0_power, .code yX0_power cX0_power 10 (some .long), .methodLink RX0 58 yX0_product, .static yX0_product, .code yX0_product cX0_product 6 (some .long)])
def wsX1_init : List Cond := .code yX1_init cX1_init 1 none :: ([.methodLink RX1 1 objectInit, .instanceMethod objectInit, .code objectInit ⟨#[0xb1]⟩ 1 none, .arrayClass .long, .fieldLink RX1 9 "ResidueTransformsModel" "row" "[J", .fieldLink RX1 13 "ResidueTransformsModel" "kept" "[J", .fieldLink RX1 16 "ResidueTransformsModel" "work" "[J"] ++ wsX10)
def wsX1_put : List Cond := .code yX1_put cX1_put 4 (some .boolean) :: ([.fieldLink RX1 9 "ResidueTransformsModel" "row" "[J"] ++ wsX10)
def wsX1_get : List Cond := .code yX1_get cX1_get 2 (some .long) :: ([.fieldLink RX1 9 "ResidueTransformsModel" "row" "[J"] ++ wsX10)
def wsX1_isPrime : List Cond := .code yX1_isPrime cX1_isPrime 2 (some .boolean) :: ([.constant RX1 23 (1000000007)])
def wsX1_refused : List Cond := .code yX1_refused cX1_refused 2 (some .int) :: ([.methodLink RX1 19 yX1_isPrime, .static yX1_isPrime, .initialized RX1, .code yX1_isPrime cX1_isPrime 2 (some .boolean), .constant RX1 23 (1000000007)])
def wsX1_rest : List Cond := .code yX1_rest cX1_rest 3 (some .long) :: ([])
def wsX1_power : List Cond := .code yX1_power cX1_power 11 (some .long) :: ([.constantLong RX1 24 (2)])
def wsX1_rootOf : List Cond := .code yX1_rootOf cX1_rootOf 6 (some .long) :: ([.constantLong RX1 24 (2), .methodLink RX1 26 yX1_power, .static yX1_power, .initialized RX1, .code yX1_power cX1_power 11 (some .long)])
def wsX1_root : List Cond := .code yX1_root cX1_root 3 (some .long) :: ([.methodLink RX1 30 yX1_refused, .static yX1_refused, .initialized RX1, .code yX1_refused cX1_refused 2 (some .int), .methodLink RX1 19 yX1_isPrime, .static yX1_isPrime, .code yX1_isPrime cX1_isPrime 2 (some .boolean), .constant RX1 23 (1000000007), .methodLink RX1 34 yX1_rootOf, .static yX1_rootOf, .code yX1_rootOf cX1_rootOf 6 (some .long), .constantLong RX1 24 (2), .methodLink RX1 26 yX1_power, .static yX1_power, .code yX1_power cX1_power 11 (some .long)])
def wsX1_transform : List Cond := .code yX1_transform cX1_transform 17 (some .int) :: ([.fieldLink RX1 16 "ResidueTransformsModel" "work" "[J", .fieldLink RX1 9 "ResidueTransformsModel" "row" "[J", .methodLink RX1 30 yX1_refused, .static yX1_refused, .initialized RX1, .code yX1_refused cX1_refused 2 (some .int), .methodLink RX1 19 yX1_isPrime, .static yX1_isPrime, .code yX1_isPrime cX1_isPrime 2 (some .boolean), .constant RX1 23 (1000000007), .methodLink RX1 34 yX1_rootOf, .static yX1_rootOf, .code yX1_rootOf cX1_rootOf 6 (some .long), .constantLong RX1 24 (2), .methodLink RX1 26 yX1_power, .static yX1_power, .code yX1_power cX1_power 11 (some .long), .methodLink RX1 38 yX1_rest, .static yX1_rest, .code yX1_rest cX1_rest 3 (some .long)] ++ wsX10)
def wsX1_keep : List Cond := .code yX1_keep cX1_keep 3 (some .boolean) :: ([.fieldLink RX1 13 "ResidueTransformsModel" "kept" "[J", .fieldLink RX1 9 "ResidueTransformsModel" "row" "[J", .fieldLink RX1 42 "ResidueTransformsModel" "keptSize" "I"] ++ wsX10)
def wsX1_times : List Cond := .code yX1_times cX1_times 4 (some .int) :: ([.fieldLink RX1 9 "ResidueTransformsModel" "row" "[J", .fieldLink RX1 42 "ResidueTransformsModel" "keptSize" "I", .fieldLink RX1 13 "ResidueTransformsModel" "kept" "[J", .methodLink RX1 19 yX1_isPrime, .static yX1_isPrime, .initialized RX1, .code yX1_isPrime cX1_isPrime 2 (some .boolean), .constant RX1 23 (1000000007), .methodLink RX1 38 yX1_rest, .static yX1_rest, .code yX1_rest cX1_rest 3 (some .long)] ++ wsX10)
def wsL_law_r1 : List Cond := [Cond.classLink RL 7 RX0, Cond.instantiable RX0 2, Cond.initialized RX0, Cond.classLink RL 10 RX1, Cond.instantiable RX1 4, Cond.initialized RX1, Cond.constantLong RL 13 (4294967295), Cond.methodLink RL 9 yX0_init, Cond.instanceMethod yX0_init, Cond.code yX0_init cX0_init 1 none, Cond.methodLink RX0 1 objectInit, Cond.instanceMethod objectInit, Cond.code objectInit ⟨#[0xb1]⟩ 1 none, Cond.arrayClass .long, Cond.fieldLink RX0 9 "ResidueTransforms" "row" "[J", Cond.fieldLink RX0 13 "ResidueTransforms" "kept" "[J", Cond.methodLink RL 12 yX1_init, Cond.instanceMethod yX1_init, Cond.code yX1_init cX1_init 1 none, Cond.methodLink RX1 1 objectInit, Cond.fieldLink RX1 9 "ResidueTransformsModel" "row" "[J", Cond.fieldLink RX1 13 "ResidueTransformsModel" "kept" "[J", Cond.fieldLink RX1 16 "ResidueTransformsModel" "work" "[J", Cond.methodLink RL 15 yX0_put]
def wsL_law_r2 : List Cond := [Cond.instanceMethod yX0_put, Cond.selects RX0 yX0_put yX0_put, Cond.code yX0_put cX0_put 4 (some .boolean), Cond.methodLink RX0 16 yX0_isPlace, Cond.static yX0_isPlace, Cond.code yX0_isPlace cX0_isPlace 1 (some .boolean), Cond.methodLink RL 19 yX1_put, Cond.instanceMethod yX1_put, Cond.selects RX1 yX1_put yX1_put, Cond.code yX1_put cX1_put 4 (some .boolean), Cond.methodLink RL 20 yX0_get, Cond.instanceMethod yX0_get, Cond.selects RX0 yX0_get yX0_get, Cond.code yX0_get cX0_get 2 (some .long), Cond.methodLink RL 24 yX1_get, Cond.instanceMethod yX1_get, Cond.selects RX1 yX1_get yX1_get, Cond.code yX1_get cX1_get 2 (some .long), Cond.methodLink RL 25 yX0_transform, Cond.instanceMethod yX0_transform, Cond.selects RX0 yX0_transform yX0_transform, Cond.code yX0_transform cX0_transform 7 (some .int), Cond.methodLink RX0 20 yX0_refusalOf, Cond.static yX0_refusalOf]
def wsL_law_r3 : List Cond := [Cond.code yX0_refusalOf cX0_refusalOf 2 (some .int), Cond.methodLink RX0 63 yX0_isSize, Cond.static yX0_isSize, Cond.code yX0_isSize cX0_isSize 1 (some .boolean), Cond.methodLink RX0 51 yX0_isUsablePrime, Cond.static yX0_isUsablePrime, Cond.code yX0_isUsablePrime cX0_isUsablePrime 2 (some .boolean), Cond.constant RX0 62 (1000000007), Cond.methodLink RX0 24 yX0_rootOfUnity, Cond.static yX0_rootOfUnity, Cond.code yX0_rootOfUnity cX0_rootOfUnity 5 (some .long), Cond.methodLink RX0 66 yX0_power, Cond.static yX0_power, Cond.code yX0_power cX0_power 10 (some .long), Cond.methodLink RX0 58 yX0_product, Cond.static yX0_product, Cond.code yX0_product cX0_product 6 (some .long), Cond.methodLink RX0 28 yX0_reduce, Cond.instanceMethod yX0_reduce, Cond.selects RX0 yX0_reduce yX0_reduce, Cond.code yX0_reduce cX0_reduce 5 none, Cond.methodLink RX0 54 yX0_rest, Cond.static yX0_rest, Cond.code yX0_rest cX0_rest 4 (some .long)]
def wsL_law_r4 : List Cond := [Cond.methodLink RX0 70 yJ9_floorMod_f86c9, Cond.static yJ9_floorMod_f86c9, Cond.initialized RJ9, Cond.code yJ9_floorMod_f86c9 cJ9_floorMod_f86c9 6 (some .long), Cond.methodLink RX0 32 yX0_reorder, Cond.instanceMethod yX0_reorder, Cond.selects RX0 yX0_reorder yX0_reorder, Cond.code yX0_reorder cX0_reorder 6 none, Cond.methodLink RX0 75 yX0_mirrored, Cond.static yX0_mirrored, Cond.code yX0_mirrored cX0_mirrored 5 (some .int), Cond.methodLink RX0 36 yX0_inverse, Cond.static yX0_inverse, Cond.code yX0_inverse cX0_inverse 3 (some .long), Cond.methodLink RX0 40 yX0_joinHalves, Cond.instanceMethod yX0_joinHalves, Cond.selects RX0 yX0_joinHalves yX0_joinHalves, Cond.code yX0_joinHalves cX0_joinHalves 11 none, Cond.methodLink RX0 78 yX0_joinPairs, Cond.instanceMethod yX0_joinPairs, Cond.selects RX0 yX0_joinPairs yX0_joinPairs, Cond.code yX0_joinPairs cX0_joinPairs 13 none, Cond.methodLink RX0 44 yX0_scale, Cond.instanceMethod yX0_scale]
def wsL_law_r5 : List Cond := [Cond.selects RX0 yX0_scale yX0_scale, Cond.code yX0_scale cX0_scale 7 none, Cond.methodLink RL 29 yX1_transform, Cond.instanceMethod yX1_transform, Cond.selects RX1 yX1_transform yX1_transform, Cond.code yX1_transform cX1_transform 17 (some .int), Cond.methodLink RX1 30 yX1_refused, Cond.static yX1_refused, Cond.code yX1_refused cX1_refused 2 (some .int), Cond.methodLink RX1 19 yX1_isPrime, Cond.static yX1_isPrime, Cond.code yX1_isPrime cX1_isPrime 2 (some .boolean), Cond.constant RX1 23 (1000000007), Cond.methodLink RX1 34 yX1_rootOf, Cond.static yX1_rootOf, Cond.code yX1_rootOf cX1_rootOf 6 (some .long), Cond.constantLong RX1 24 (2), Cond.methodLink RX1 26 yX1_power, Cond.static yX1_power, Cond.code yX1_power cX1_power 11 (some .long), Cond.methodLink RX1 38 yX1_rest, Cond.static yX1_rest, Cond.code yX1_rest cX1_rest 3 (some .long), Cond.methodLink RL 30 yX0_keep]
def wsL_law_r6 : List Cond := [Cond.instanceMethod yX0_keep, Cond.selects RX0 yX0_keep yX0_keep, Cond.code yX0_keep cX0_keep 3 (some .boolean), Cond.methodLink RX0 48 yX0_isCount, Cond.static yX0_isCount, Cond.code yX0_isCount cX0_isCount 1 (some .boolean), Cond.methodLink RL 34 yX1_keep, Cond.instanceMethod yX1_keep, Cond.selects RX1 yX1_keep yX1_keep, Cond.code yX1_keep cX1_keep 3 (some .boolean), Cond.fieldLink RX1 42 "ResidueTransformsModel" "keptSize" "I", Cond.methodLink RL 35 yX0_times, Cond.instanceMethod yX0_times, Cond.selects RX0 yX0_times yX0_times, Cond.code yX0_times cX0_times 4 (some .int), Cond.methodLink RL 39 yX1_times, Cond.instanceMethod yX1_times, Cond.selects RX1 yX1_times yX1_times, Cond.code yX1_times cX1_times 4 (some .int), Cond.methodLink RL 40 yX0_root, Cond.instanceMethod yX0_root, Cond.selects RX0 yX0_root yX0_root, Cond.code yX0_root cX0_root 3 (some .long), Cond.methodLink RL 44 yX1_root]
def wsL_law_r7 : List Cond := [Cond.instanceMethod yX1_root, Cond.selects RX1 yX1_root yX1_root, Cond.code yX1_root cX1_root 3 (some .long)]
def wsL_law : List Cond := (wsL_law_r1 ++ (wsL_law_r2 ++ (wsL_law_r3 ++ (wsL_law_r4 ++ (wsL_law_r5 ++ (wsL_law_r6 ++ wsL_law_r7)))))) ++ wsX00 ++ wsX10 ++ ([] : List Cond)
set_option maxRecDepth 20000 in
theorem wsL_law_in : ∀ w ∈ wsL_law, w ∈ lw_tbl := fun w h => (goodIn_p wsL_law [13, 16, 110, 28, 31, 128, 35, 132, 39, 42, 45, 48, 52, 55, 58, 62, 65, 68, 72, 75, 78, 82, 86, 90, 154, 139, 142, 146, 150, 157, 94, 97, 161, 101, 165, 105, 136] (by decide +kernel) (by decide +kernel) w h).1
theorem inlX0 : ∀ w ∈ wsX00, w ∈ wsL_law := fun _ h => List.mem_append_left _ (List.mem_append_left _ (List.mem_append_right _ h))
theorem inX0 : ∀ w ∈ wsX00, w ∈ lw_tbl := fun w h => wsL_law_in w (inlX0 w h)
theorem inlX1 : ∀ w ∈ wsX10, w ∈ wsL_law := fun _ h => List.mem_append_left _ (List.mem_append_right _ h)
theorem inX1 : ∀ w ∈ wsX10, w ∈ lw_tbl := fun w h => wsL_law_in w (inlX1 w h)
theorem inJ9 : ∀ w ∈ wsJ90, w ∈ lw_tbl := by decide +kernel
theorem dX0_init_0 : decode cX0_init 0 = .ok (.aload_n 0, 1) := by decide +kernel
theorem dX0_init_1 : decode cX0_init 1 = .ok (.invokespecial 1, 3) := by decide +kernel
theorem dX0_init_4 : decode cX0_init 4 = .ok (.aload_n 0, 1) := by decide +kernel
theorem dX0_init_5 : decode cX0_init 5 = .ok (.sipush 1024, 3) := by decide +kernel
theorem dX0_init_8 : decode cX0_init 8 = .ok (.newarray .long, 2) := by decide +kernel
theorem dX0_init_10 : decode cX0_init 10 = .ok (.putfield 9, 3) := by decide +kernel
theorem dX0_init_13 : decode cX0_init 13 = .ok (.aload_n 0, 1) := by decide +kernel
theorem dX0_init_14 : decode cX0_init 14 = .ok (.sipush 1024, 3) := by decide +kernel
theorem dX0_init_17 : decode cX0_init 17 = .ok (.newarray .long, 2) := by decide +kernel
theorem dX0_init_19 : decode cX0_init 19 = .ok (.putfield 13, 3) := by decide +kernel
theorem dX0_init_22 : decode cX0_init 22 = .ok (.return_, 1) := by decide +kernel
set_option maxRecDepth 20000 in
theorem ggX0_put_X0_isPlace : GoodIn wsX0_put wsX0_isPlace := goodIn_r _ [5] (by decide +kernel) (by decide +kernel)
set_option maxRecDepth 20000 in
theorem gX0_put_X0_isPlace : GoodIn wsX0_put (va_wsS RX0 16 yX0_isPlace wsX0_isPlace) := goodIn_app (goodIn_of _ (by decide +kernel)) ggX0_put_X0_isPlace
theorem dX0_put_0 : decode cX0_put 0 = .ok (.iload_n 1, 1) := by decide +kernel
theorem dX0_put_1 : decode cX0_put 1 = .ok (.invokestatic 16, 3) := by decide +kernel
theorem dX0_put_4 : decode cX0_put 4 = .ok (.ifCond .ne 5, 3) := by decide +kernel
theorem dX0_put_7 : decode cX0_put 7 = .ok (.iconst 0, 1) := by decide +kernel
theorem dX0_put_8 : decode cX0_put 8 = .ok (.ireturn, 1) := by decide +kernel
theorem dX0_put_9 : decode cX0_put 9 = .ok (.aload_n 0, 1) := by decide +kernel
theorem dX0_put_10 : decode cX0_put 10 = .ok (.getfield 9, 3) := by decide +kernel
theorem dX0_put_13 : decode cX0_put 13 = .ok (.iload_n 1, 1) := by decide +kernel
theorem dX0_put_14 : decode cX0_put 14 = .ok (.lload_n 2, 1) := by decide +kernel
theorem dX0_put_15 : decode cX0_put 15 = .ok (.lastore, 1) := by decide +kernel
theorem dX0_put_16 : decode cX0_put 16 = .ok (.iconst 1, 1) := by decide +kernel
theorem dX0_put_17 : decode cX0_put 17 = .ok (.ireturn, 1) := by decide +kernel
set_option maxRecDepth 20000 in
theorem ggX0_get_X0_isPlace : GoodIn wsX0_get wsX0_isPlace := goodIn_r _ [5] (by decide +kernel) (by decide +kernel)
set_option maxRecDepth 20000 in
theorem gX0_get_X0_isPlace : GoodIn wsX0_get (va_wsS RX0 16 yX0_isPlace wsX0_isPlace) := goodIn_app (goodIn_of _ (by decide +kernel)) ggX0_get_X0_isPlace
theorem dX0_get_0 : decode cX0_get 0 = .ok (.iload_n 1, 1) := by decide +kernel
theorem dX0_get_1 : decode cX0_get 1 = .ok (.invokestatic 16, 3) := by decide +kernel
theorem dX0_get_4 : decode cX0_get 4 = .ok (.ifCond .eq 12, 3) := by decide +kernel
theorem dX0_get_7 : decode cX0_get 7 = .ok (.aload_n 0, 1) := by decide +kernel
theorem dX0_get_8 : decode cX0_get 8 = .ok (.getfield 9, 3) := by decide +kernel
theorem dX0_get_11 : decode cX0_get 11 = .ok (.iload_n 1, 1) := by decide +kernel
theorem dX0_get_12 : decode cX0_get 12 = .ok (.laload, 1) := by decide +kernel
theorem dX0_get_13 : decode cX0_get 13 = .ok (.goto 4, 3) := by decide +kernel
theorem dX0_get_16 : decode cX0_get 16 = .ok (.lconst 0, 1) := by decide +kernel
theorem dX0_get_17 : decode cX0_get 17 = .ok (.lreturn, 1) := by decide +kernel
set_option maxRecDepth 20000 in
theorem ggX0_transform_X0_refusalOf : GoodIn wsX0_transform wsX0_refusalOf := goodIn_r _ [4, 5, 6, 3, 7, 8, 9, 10, 11] (by decide +kernel) (by decide +kernel)
set_option maxRecDepth 20000 in
theorem gX0_transform_X0_refusalOf : GoodIn wsX0_transform (va_wsS RX0 20 yX0_refusalOf wsX0_refusalOf) := goodIn_app (goodIn_of _ (by decide +kernel)) ggX0_transform_X0_refusalOf
set_option maxRecDepth 20000 in
theorem ggX0_transform_X0_rootOfUnity : GoodIn wsX0_transform wsX0_rootOfUnity := goodIn_r _ [14, 15, 16, 3, 17, 18, 19, 20] (by decide +kernel) (by decide +kernel)
set_option maxRecDepth 20000 in
theorem gX0_transform_X0_rootOfUnity : GoodIn wsX0_transform (va_wsS RX0 24 yX0_rootOfUnity wsX0_rootOfUnity) := goodIn_app (goodIn_of _ (by decide +kernel)) ggX0_transform_X0_rootOfUnity
set_option maxRecDepth 20000 in
theorem ggX0_transform_X0_reduce : GoodIn wsX0_transform wsX0_reduce := goodIn_r _ [24, 25, 26, 27, 3, 28, 29, 30, 31, 32, 55, 56] (by decide +kernel) (by decide +kernel)
set_option maxRecDepth 20000 in
theorem gX0_transform_X0_reduce : GoodIn wsX0_transform (wsV RX0 28 RX0 yX0_reduce wsX0_reduce) := goodIn_app (goodIn_of _ (by decide +kernel)) ggX0_transform_X0_reduce
set_option maxRecDepth 20000 in
theorem ggX0_transform_X0_reorder : GoodIn wsX0_transform wsX0_reorder := goodIn_r _ [36, 25, 37, 38, 3, 39, 55, 56] (by decide +kernel) (by decide +kernel)
set_option maxRecDepth 20000 in
theorem gX0_transform_X0_reorder : GoodIn wsX0_transform (wsV RX0 32 RX0 yX0_reorder wsX0_reorder) := goodIn_app (goodIn_of _ (by decide +kernel)) ggX0_transform_X0_reorder
set_option maxRecDepth 20000 in
theorem ggX0_transform_X0_inverse : GoodIn wsX0_transform wsX0_inverse := goodIn_r _ [42, 15, 16, 3, 17, 18, 19, 20] (by decide +kernel) (by decide +kernel)
set_option maxRecDepth 20000 in
theorem gX0_transform_X0_inverse : GoodIn wsX0_transform (va_wsS RX0 36 yX0_inverse wsX0_inverse) := goodIn_app (goodIn_of _ (by decide +kernel)) ggX0_transform_X0_inverse
set_option maxRecDepth 20000 in
theorem ggX0_transform_X0_joinHalves : GoodIn wsX0_transform wsX0_joinHalves := goodIn_r _ [46, 15, 16, 3, 17, 18, 19, 20, 47, 48, 49, 50, 25, 55, 56] (by decide +kernel) (by decide +kernel)
set_option maxRecDepth 20000 in
theorem gX0_transform_X0_joinHalves : GoodIn wsX0_transform (wsV RX0 40 RX0 yX0_joinHalves wsX0_joinHalves) := goodIn_app (goodIn_of _ (by decide +kernel)) ggX0_transform_X0_joinHalves
set_option maxRecDepth 20000 in
theorem ggX0_transform_X0_scale : GoodIn wsX0_transform wsX0_scale := goodIn_r _ [54, 25, 18, 19, 3, 20, 55, 56] (by decide +kernel) (by decide +kernel)
set_option maxRecDepth 20000 in
theorem gX0_transform_X0_scale : GoodIn wsX0_transform (wsV RX0 44 RX0 yX0_scale wsX0_scale) := goodIn_app (goodIn_of _ (by decide +kernel)) ggX0_transform_X0_scale
theorem dX0_transform_0 : decode cX0_transform 0 = .ok (.iload_n 1, 1) := by decide +kernel
theorem dX0_transform_1 : decode cX0_transform 1 = .ok (.iload_n 2, 1) := by decide +kernel
theorem dX0_transform_2 : decode cX0_transform 2 = .ok (.invokestatic 20, 3) := by decide +kernel
theorem dX0_transform_5 : decode cX0_transform 5 = .ok (.istore 4, 2) := by decide +kernel
theorem dX0_transform_7 : decode cX0_transform 7 = .ok (.iload 4, 2) := by decide +kernel
theorem dX0_transform_9 : decode cX0_transform 9 = .ok (.ifCond .eq 6, 3) := by decide +kernel
theorem dX0_transform_12 : decode cX0_transform 12 = .ok (.iload 4, 2) := by decide +kernel
theorem dX0_transform_14 : decode cX0_transform 14 = .ok (.ireturn, 1) := by decide +kernel
theorem dX0_transform_15 : decode cX0_transform 15 = .ok (.iload_n 1, 1) := by decide +kernel
theorem dX0_transform_16 : decode cX0_transform 16 = .ok (.iload_n 2, 1) := by decide +kernel
theorem dX0_transform_17 : decode cX0_transform 17 = .ok (.invokestatic 24, 3) := by decide +kernel
theorem dX0_transform_20 : decode cX0_transform 20 = .ok (.lstore 5, 2) := by decide +kernel
theorem dX0_transform_22 : decode cX0_transform 22 = .ok (.aload_n 0, 1) := by decide +kernel
theorem dX0_transform_23 : decode cX0_transform 23 = .ok (.iload_n 1, 1) := by decide +kernel
theorem dX0_transform_24 : decode cX0_transform 24 = .ok (.iload_n 2, 1) := by decide +kernel
theorem dX0_transform_25 : decode cX0_transform 25 = .ok (.i2l, 1) := by decide +kernel
theorem dX0_transform_26 : decode cX0_transform 26 = .ok (.invokevirtual 28, 3) := by decide +kernel
theorem dX0_transform_29 : decode cX0_transform 29 = .ok (.aload_n 0, 1) := by decide +kernel
theorem dX0_transform_30 : decode cX0_transform 30 = .ok (.iload_n 1, 1) := by decide +kernel
theorem dX0_transform_31 : decode cX0_transform 31 = .ok (.invokevirtual 32, 3) := by decide +kernel
theorem dX0_transform_34 : decode cX0_transform 34 = .ok (.iload_n 3, 1) := by decide +kernel
theorem dX0_transform_35 : decode cX0_transform 35 = .ok (.ifCond .eq 31, 3) := by decide +kernel
theorem dX0_transform_38 : decode cX0_transform 38 = .ok (.aload_n 0, 1) := by decide +kernel
theorem dX0_transform_39 : decode cX0_transform 39 = .ok (.iload_n 1, 1) := by decide +kernel
theorem dX0_transform_40 : decode cX0_transform 40 = .ok (.lload 5, 2) := by decide +kernel
theorem dX0_transform_42 : decode cX0_transform 42 = .ok (.iload_n 2, 1) := by decide +kernel
theorem dX0_transform_43 : decode cX0_transform 43 = .ok (.invokestatic 36, 3) := by decide +kernel
theorem dX0_transform_46 : decode cX0_transform 46 = .ok (.iload_n 2, 1) := by decide +kernel
theorem dX0_transform_47 : decode cX0_transform 47 = .ok (.invokevirtual 40, 3) := by decide +kernel
theorem dX0_transform_50 : decode cX0_transform 50 = .ok (.aload_n 0, 1) := by decide +kernel
theorem dX0_transform_51 : decode cX0_transform 51 = .ok (.iload_n 1, 1) := by decide +kernel
theorem dX0_transform_52 : decode cX0_transform 52 = .ok (.iload_n 1, 1) := by decide +kernel
theorem dX0_transform_53 : decode cX0_transform 53 = .ok (.i2l, 1) := by decide +kernel
theorem dX0_transform_54 : decode cX0_transform 54 = .ok (.iload_n 2, 1) := by decide +kernel
theorem dX0_transform_55 : decode cX0_transform 55 = .ok (.invokestatic 36, 3) := by decide +kernel
theorem dX0_transform_58 : decode cX0_transform 58 = .ok (.iload_n 2, 1) := by decide +kernel
theorem dX0_transform_59 : decode cX0_transform 59 = .ok (.i2l, 1) := by decide +kernel
theorem dX0_transform_60 : decode cX0_transform 60 = .ok (.invokevirtual 44, 3) := by decide +kernel
theorem dX0_transform_63 : decode cX0_transform 63 = .ok (.goto 11, 3) := by decide +kernel
theorem dX0_transform_66 : decode cX0_transform 66 = .ok (.aload_n 0, 1) := by decide +kernel
theorem dX0_transform_67 : decode cX0_transform 67 = .ok (.iload_n 1, 1) := by decide +kernel
theorem dX0_transform_68 : decode cX0_transform 68 = .ok (.lload 5, 2) := by decide +kernel
theorem dX0_transform_70 : decode cX0_transform 70 = .ok (.iload_n 2, 1) := by decide +kernel
theorem dX0_transform_71 : decode cX0_transform 71 = .ok (.invokevirtual 40, 3) := by decide +kernel
theorem dX0_transform_74 : decode cX0_transform 74 = .ok (.iconst 0, 1) := by decide +kernel
theorem dX0_transform_75 : decode cX0_transform 75 = .ok (.ireturn, 1) := by decide +kernel
set_option maxRecDepth 20000 in
theorem ggX0_keep_X0_isCount : GoodIn wsX0_keep wsX0_isCount := goodIn_r _ [6] (by decide +kernel) (by decide +kernel)
set_option maxRecDepth 20000 in
theorem gX0_keep_X0_isCount : GoodIn wsX0_keep (va_wsS RX0 48 yX0_isCount wsX0_isCount) := goodIn_app (goodIn_of _ (by decide +kernel)) ggX0_keep_X0_isCount
theorem dX0_keep_0 : decode cX0_keep 0 = .ok (.iload_n 1, 1) := by decide +kernel
theorem dX0_keep_1 : decode cX0_keep 1 = .ok (.invokestatic 48, 3) := by decide +kernel
theorem dX0_keep_4 : decode cX0_keep 4 = .ok (.ifCond .ne 5, 3) := by decide +kernel
theorem dX0_keep_7 : decode cX0_keep 7 = .ok (.iconst 0, 1) := by decide +kernel
theorem dX0_keep_8 : decode cX0_keep 8 = .ok (.ireturn, 1) := by decide +kernel
theorem dX0_keep_9 : decode cX0_keep 9 = .ok (.iconst 0, 1) := by decide +kernel
theorem dX0_keep_10 : decode cX0_keep 10 = .ok (.istore_n 2, 1) := by decide +kernel
theorem dX0_keep_11 : decode cX0_keep 11 = .ok (.iload_n 2, 1) := by decide +kernel
theorem dX0_keep_12 : decode cX0_keep 12 = .ok (.sipush 1024, 3) := by decide +kernel
theorem dX0_keep_15 : decode cX0_keep 15 = .ok (.if_icmp .ge 30, 3) := by decide +kernel
theorem dX0_keep_18 : decode cX0_keep 18 = .ok (.aload_n 0, 1) := by decide +kernel
theorem dX0_keep_19 : decode cX0_keep 19 = .ok (.getfield 13, 3) := by decide +kernel
theorem dX0_keep_22 : decode cX0_keep 22 = .ok (.iload_n 2, 1) := by decide +kernel
theorem dX0_keep_23 : decode cX0_keep 23 = .ok (.iload_n 2, 1) := by decide +kernel
theorem dX0_keep_24 : decode cX0_keep 24 = .ok (.iload_n 1, 1) := by decide +kernel
theorem dX0_keep_25 : decode cX0_keep 25 = .ok (.if_icmp .ge 12, 3) := by decide +kernel
theorem dX0_keep_28 : decode cX0_keep 28 = .ok (.aload_n 0, 1) := by decide +kernel
theorem dX0_keep_29 : decode cX0_keep 29 = .ok (.getfield 9, 3) := by decide +kernel
theorem dX0_keep_32 : decode cX0_keep 32 = .ok (.iload_n 2, 1) := by decide +kernel
theorem dX0_keep_33 : decode cX0_keep 33 = .ok (.laload, 1) := by decide +kernel
theorem dX0_keep_34 : decode cX0_keep 34 = .ok (.goto 4, 3) := by decide +kernel
theorem dX0_keep_37 : decode cX0_keep 37 = .ok (.lconst 0, 1) := by decide +kernel
theorem dX0_keep_38 : decode cX0_keep 38 = .ok (.lastore, 1) := by decide +kernel
theorem dX0_keep_39 : decode cX0_keep 39 = .ok (.iinc 2 1, 3) := by decide +kernel
theorem dX0_keep_42 : decode cX0_keep 42 = .ok (.goto (-31), 3) := by decide +kernel
theorem dX0_keep_45 : decode cX0_keep 45 = .ok (.iconst 1, 1) := by decide +kernel
theorem dX0_keep_46 : decode cX0_keep 46 = .ok (.ireturn, 1) := by decide +kernel
set_option maxRecDepth 20000 in
theorem ggX0_times_X0_isCount : GoodIn wsX0_times wsX0_isCount := goodIn_r _ [6] (by decide +kernel) (by decide +kernel)
set_option maxRecDepth 20000 in
theorem gX0_times_X0_isCount : GoodIn wsX0_times (va_wsS RX0 48 yX0_isCount wsX0_isCount) := goodIn_app (goodIn_of _ (by decide +kernel)) ggX0_times_X0_isCount
set_option maxRecDepth 20000 in
theorem ggX0_times_X0_isUsablePrime : GoodIn wsX0_times wsX0_isUsablePrime := goodIn_r _ [9, 10] (by decide +kernel) (by decide +kernel)
set_option maxRecDepth 20000 in
theorem gX0_times_X0_isUsablePrime : GoodIn wsX0_times (va_wsS RX0 51 yX0_isUsablePrime wsX0_isUsablePrime) := goodIn_app (goodIn_of _ (by decide +kernel)) ggX0_times_X0_isUsablePrime
set_option maxRecDepth 20000 in
theorem ggX0_times_X0_rest : GoodIn wsX0_times wsX0_rest := goodIn_r _ [13, 14, 15, 16, 17] (by decide +kernel) (by decide +kernel)
set_option maxRecDepth 20000 in
theorem gX0_times_X0_rest : GoodIn wsX0_times (va_wsS RX0 54 yX0_rest wsX0_rest) := goodIn_app (goodIn_of _ (by decide +kernel)) ggX0_times_X0_rest
set_option maxRecDepth 20000 in
theorem ggX0_times_X0_product : GoodIn wsX0_times wsX0_product := goodIn_r _ [20] (by decide +kernel) (by decide +kernel)
set_option maxRecDepth 20000 in
theorem gX0_times_X0_product : GoodIn wsX0_times (va_wsS RX0 58 yX0_product wsX0_product) := goodIn_app (goodIn_of _ (by decide +kernel)) ggX0_times_X0_product
theorem dX0_times_0 : decode cX0_times 0 = .ok (.iload_n 1, 1) := by decide +kernel
theorem dX0_times_1 : decode cX0_times 1 = .ok (.invokestatic 48, 3) := by decide +kernel
theorem dX0_times_4 : decode cX0_times 4 = .ok (.ifCond .ne 5, 3) := by decide +kernel
theorem dX0_times_7 : decode cX0_times 7 = .ok (.iconst (-1), 1) := by decide +kernel
theorem dX0_times_8 : decode cX0_times 8 = .ok (.ireturn, 1) := by decide +kernel
theorem dX0_times_9 : decode cX0_times 9 = .ok (.iload_n 2, 1) := by decide +kernel
theorem dX0_times_10 : decode cX0_times 10 = .ok (.invokestatic 51, 3) := by decide +kernel
theorem dX0_times_13 : decode cX0_times 13 = .ok (.ifCond .ne 6, 3) := by decide +kernel
theorem dX0_times_16 : decode cX0_times 16 = .ok (.bipush (-2), 2) := by decide +kernel
theorem dX0_times_18 : decode cX0_times 18 = .ok (.ireturn, 1) := by decide +kernel
theorem dX0_times_19 : decode cX0_times 19 = .ok (.iconst 0, 1) := by decide +kernel
theorem dX0_times_20 : decode cX0_times 20 = .ok (.istore_n 3, 1) := by decide +kernel
theorem dX0_times_21 : decode cX0_times 21 = .ok (.iload_n 3, 1) := by decide +kernel
theorem dX0_times_22 : decode cX0_times 22 = .ok (.iload_n 1, 1) := by decide +kernel
theorem dX0_times_23 : decode cX0_times 23 = .ok (.if_icmp .ge 42, 3) := by decide +kernel
theorem dX0_times_26 : decode cX0_times 26 = .ok (.aload_n 0, 1) := by decide +kernel
theorem dX0_times_27 : decode cX0_times 27 = .ok (.getfield 9, 3) := by decide +kernel
theorem dX0_times_30 : decode cX0_times 30 = .ok (.iload_n 3, 1) := by decide +kernel
theorem dX0_times_31 : decode cX0_times 31 = .ok (.aload_n 0, 1) := by decide +kernel
theorem dX0_times_32 : decode cX0_times 32 = .ok (.getfield 9, 3) := by decide +kernel
theorem dX0_times_35 : decode cX0_times 35 = .ok (.iload_n 3, 1) := by decide +kernel
theorem dX0_times_36 : decode cX0_times 36 = .ok (.laload, 1) := by decide +kernel
theorem dX0_times_37 : decode cX0_times 37 = .ok (.iload_n 2, 1) := by decide +kernel
theorem dX0_times_38 : decode cX0_times 38 = .ok (.i2l, 1) := by decide +kernel
theorem dX0_times_39 : decode cX0_times 39 = .ok (.invokestatic 54, 3) := by decide +kernel
theorem dX0_times_42 : decode cX0_times 42 = .ok (.aload_n 0, 1) := by decide +kernel
theorem dX0_times_43 : decode cX0_times 43 = .ok (.getfield 13, 3) := by decide +kernel
theorem dX0_times_46 : decode cX0_times 46 = .ok (.iload_n 3, 1) := by decide +kernel
theorem dX0_times_47 : decode cX0_times 47 = .ok (.laload, 1) := by decide +kernel
theorem dX0_times_48 : decode cX0_times 48 = .ok (.iload_n 2, 1) := by decide +kernel
theorem dX0_times_49 : decode cX0_times 49 = .ok (.i2l, 1) := by decide +kernel
theorem dX0_times_50 : decode cX0_times 50 = .ok (.invokestatic 54, 3) := by decide +kernel
theorem dX0_times_53 : decode cX0_times 53 = .ok (.iload_n 2, 1) := by decide +kernel
theorem dX0_times_54 : decode cX0_times 54 = .ok (.i2l, 1) := by decide +kernel
theorem dX0_times_55 : decode cX0_times 55 = .ok (.invokestatic 58, 3) := by decide +kernel
theorem dX0_times_58 : decode cX0_times 58 = .ok (.lastore, 1) := by decide +kernel
theorem dX0_times_59 : decode cX0_times 59 = .ok (.iinc 3 1, 3) := by decide +kernel
theorem dX0_times_62 : decode cX0_times 62 = .ok (.goto (-41), 3) := by decide +kernel
theorem dX0_times_65 : decode cX0_times 65 = .ok (.iconst 0, 1) := by decide +kernel
theorem dX0_times_66 : decode cX0_times 66 = .ok (.ireturn, 1) := by decide +kernel
set_option maxRecDepth 20000 in
theorem ggX0_root_X0_refusalOf : GoodIn wsX0_root wsX0_refusalOf := goodIn_r _ [4, 5, 6, 3, 7, 8, 9, 10, 11] (by decide +kernel) (by decide +kernel)
set_option maxRecDepth 20000 in
theorem gX0_root_X0_refusalOf : GoodIn wsX0_root (va_wsS RX0 20 yX0_refusalOf wsX0_refusalOf) := goodIn_app (goodIn_of _ (by decide +kernel)) ggX0_root_X0_refusalOf
set_option maxRecDepth 20000 in
theorem ggX0_root_X0_rootOfUnity : GoodIn wsX0_root wsX0_rootOfUnity := goodIn_r _ [14, 15, 16, 3, 17, 18, 19, 20] (by decide +kernel) (by decide +kernel)
set_option maxRecDepth 20000 in
theorem gX0_root_X0_rootOfUnity : GoodIn wsX0_root (va_wsS RX0 24 yX0_rootOfUnity wsX0_rootOfUnity) := goodIn_app (goodIn_of _ (by decide +kernel)) ggX0_root_X0_rootOfUnity
theorem dX0_root_0 : decode cX0_root 0 = .ok (.iload_n 1, 1) := by decide +kernel
theorem dX0_root_1 : decode cX0_root 1 = .ok (.iload_n 2, 1) := by decide +kernel
theorem dX0_root_2 : decode cX0_root 2 = .ok (.invokestatic 20, 3) := by decide +kernel
theorem dX0_root_5 : decode cX0_root 5 = .ok (.ifCond .ne 11, 3) := by decide +kernel
theorem dX0_root_8 : decode cX0_root 8 = .ok (.iload_n 1, 1) := by decide +kernel
theorem dX0_root_9 : decode cX0_root 9 = .ok (.iload_n 2, 1) := by decide +kernel
theorem dX0_root_10 : decode cX0_root 10 = .ok (.invokestatic 24, 3) := by decide +kernel
theorem dX0_root_13 : decode cX0_root 13 = .ok (.goto 4, 3) := by decide +kernel
theorem dX0_root_16 : decode cX0_root 16 = .ok (.lconst 0, 1) := by decide +kernel
theorem dX0_root_17 : decode cX0_root 17 = .ok (.lreturn, 1) := by decide +kernel
theorem dX0_isPlace_0 : decode cX0_isPlace 0 = .ok (.iload_n 0, 1) := by decide +kernel
theorem dX0_isPlace_1 : decode cX0_isPlace 1 = .ok (.ifCond .lt 14, 3) := by decide +kernel
theorem dX0_isPlace_4 : decode cX0_isPlace 4 = .ok (.iload_n 0, 1) := by decide +kernel
theorem dX0_isPlace_5 : decode cX0_isPlace 5 = .ok (.sipush 1024, 3) := by decide +kernel
theorem dX0_isPlace_8 : decode cX0_isPlace 8 = .ok (.if_icmp .ge 7, 3) := by decide +kernel
theorem dX0_isPlace_11 : decode cX0_isPlace 11 = .ok (.iconst 1, 1) := by decide +kernel
theorem dX0_isPlace_12 : decode cX0_isPlace 12 = .ok (.goto 4, 3) := by decide +kernel
theorem dX0_isPlace_15 : decode cX0_isPlace 15 = .ok (.iconst 0, 1) := by decide +kernel
theorem dX0_isPlace_16 : decode cX0_isPlace 16 = .ok (.ireturn, 1) := by decide +kernel
theorem dX0_isCount_0 : decode cX0_isCount 0 = .ok (.iload_n 0, 1) := by decide +kernel
theorem dX0_isCount_1 : decode cX0_isCount 1 = .ok (.ifCond .lt 14, 3) := by decide +kernel
theorem dX0_isCount_4 : decode cX0_isCount 4 = .ok (.iload_n 0, 1) := by decide +kernel
theorem dX0_isCount_5 : decode cX0_isCount 5 = .ok (.sipush 1024, 3) := by decide +kernel
theorem dX0_isCount_8 : decode cX0_isCount 8 = .ok (.if_icmp .gt 7, 3) := by decide +kernel
theorem dX0_isCount_11 : decode cX0_isCount 11 = .ok (.iconst 1, 1) := by decide +kernel
theorem dX0_isCount_12 : decode cX0_isCount 12 = .ok (.goto 4, 3) := by decide +kernel
theorem dX0_isCount_15 : decode cX0_isCount 15 = .ok (.iconst 0, 1) := by decide +kernel
theorem dX0_isCount_16 : decode cX0_isCount 16 = .ok (.ireturn, 1) := by decide +kernel
theorem dX0_isSize_0 : decode cX0_isSize 0 = .ok (.iload_n 0, 1) := by decide +kernel
theorem dX0_isSize_1 : decode cX0_isSize 1 = .ok (.iconst 1, 1) := by decide +kernel
theorem dX0_isSize_2 : decode cX0_isSize 2 = .ok (.if_icmp .lt 22, 3) := by decide +kernel
theorem dX0_isSize_5 : decode cX0_isSize 5 = .ok (.iload_n 0, 1) := by decide +kernel
theorem dX0_isSize_6 : decode cX0_isSize 6 = .ok (.sipush 1024, 3) := by decide +kernel
theorem dX0_isSize_9 : decode cX0_isSize 9 = .ok (.if_icmp .gt 15, 3) := by decide +kernel
theorem dX0_isSize_12 : decode cX0_isSize 12 = .ok (.iload_n 0, 1) := by decide +kernel
theorem dX0_isSize_13 : decode cX0_isSize 13 = .ok (.iload_n 0, 1) := by decide +kernel
theorem dX0_isSize_14 : decode cX0_isSize 14 = .ok (.iconst 1, 1) := by decide +kernel
theorem dX0_isSize_15 : decode cX0_isSize 15 = .ok (.isub, 1) := by decide +kernel
theorem dX0_isSize_16 : decode cX0_isSize 16 = .ok (.iand, 1) := by decide +kernel
theorem dX0_isSize_17 : decode cX0_isSize 17 = .ok (.ifCond .ne 7, 3) := by decide +kernel
theorem dX0_isSize_20 : decode cX0_isSize 20 = .ok (.iconst 1, 1) := by decide +kernel
theorem dX0_isSize_21 : decode cX0_isSize 21 = .ok (.goto 4, 3) := by decide +kernel
theorem dX0_isSize_24 : decode cX0_isSize 24 = .ok (.iconst 0, 1) := by decide +kernel
theorem dX0_isSize_25 : decode cX0_isSize 25 = .ok (.ireturn, 1) := by decide +kernel
theorem dX0_isUsablePrime_0 : decode cX0_isUsablePrime 0 = .ok (.iload_n 0, 1) := by decide +kernel
theorem dX0_isUsablePrime_1 : decode cX0_isUsablePrime 1 = .ok (.iconst 3, 1) := by decide +kernel
theorem dX0_isUsablePrime_2 : decode cX0_isUsablePrime 2 = .ok (.if_icmp .lt 15, 3) := by decide +kernel
theorem dX0_isUsablePrime_5 : decode cX0_isUsablePrime 5 = .ok (.iload_n 0, 1) := by decide +kernel
theorem dX0_isUsablePrime_6 : decode cX0_isUsablePrime 6 = .ok (.ldc 62, 2) := by decide +kernel
theorem dX0_isUsablePrime_8 : decode cX0_isUsablePrime 8 = .ok (.if_icmp .gt 9, 3) := by decide +kernel
theorem dX0_isUsablePrime_11 : decode cX0_isUsablePrime 11 = .ok (.iload_n 0, 1) := by decide +kernel
theorem dX0_isUsablePrime_12 : decode cX0_isUsablePrime 12 = .ok (.iconst 2, 1) := by decide +kernel
theorem dX0_isUsablePrime_13 : decode cX0_isUsablePrime 13 = .ok (.irem, 1) := by decide +kernel
theorem dX0_isUsablePrime_14 : decode cX0_isUsablePrime 14 = .ok (.ifCond .ne 5, 3) := by decide +kernel
theorem dX0_isUsablePrime_17 : decode cX0_isUsablePrime 17 = .ok (.iconst 0, 1) := by decide +kernel
theorem dX0_isUsablePrime_18 : decode cX0_isUsablePrime 18 = .ok (.ireturn, 1) := by decide +kernel
theorem dX0_isUsablePrime_19 : decode cX0_isUsablePrime 19 = .ok (.iconst 3, 1) := by decide +kernel
theorem dX0_isUsablePrime_20 : decode cX0_isUsablePrime 20 = .ok (.istore_n 1, 1) := by decide +kernel
theorem dX0_isUsablePrime_21 : decode cX0_isUsablePrime 21 = .ok (.iload_n 1, 1) := by decide +kernel
theorem dX0_isUsablePrime_22 : decode cX0_isUsablePrime 22 = .ok (.iload_n 1, 1) := by decide +kernel
theorem dX0_isUsablePrime_23 : decode cX0_isUsablePrime 23 = .ok (.imul, 1) := by decide +kernel
theorem dX0_isUsablePrime_24 : decode cX0_isUsablePrime 24 = .ok (.iload_n 0, 1) := by decide +kernel
theorem dX0_isUsablePrime_25 : decode cX0_isUsablePrime 25 = .ok (.if_icmp .gt 17, 3) := by decide +kernel
theorem dX0_isUsablePrime_28 : decode cX0_isUsablePrime 28 = .ok (.iload_n 0, 1) := by decide +kernel
theorem dX0_isUsablePrime_29 : decode cX0_isUsablePrime 29 = .ok (.iload_n 1, 1) := by decide +kernel
theorem dX0_isUsablePrime_30 : decode cX0_isUsablePrime 30 = .ok (.irem, 1) := by decide +kernel
theorem dX0_isUsablePrime_31 : decode cX0_isUsablePrime 31 = .ok (.ifCond .ne 5, 3) := by decide +kernel
theorem dX0_isUsablePrime_34 : decode cX0_isUsablePrime 34 = .ok (.iconst 0, 1) := by decide +kernel
theorem dX0_isUsablePrime_35 : decode cX0_isUsablePrime 35 = .ok (.ireturn, 1) := by decide +kernel
theorem dX0_isUsablePrime_36 : decode cX0_isUsablePrime 36 = .ok (.iinc 1 2, 3) := by decide +kernel
theorem dX0_isUsablePrime_39 : decode cX0_isUsablePrime 39 = .ok (.goto (-18), 3) := by decide +kernel
theorem dX0_isUsablePrime_42 : decode cX0_isUsablePrime 42 = .ok (.iconst 1, 1) := by decide +kernel
theorem dX0_isUsablePrime_43 : decode cX0_isUsablePrime 43 = .ok (.ireturn, 1) := by decide +kernel
set_option maxRecDepth 20000 in
theorem ggX0_refusalOf_X0_isSize : GoodIn wsX0_refusalOf wsX0_isSize := goodIn_r _ [4] (by decide +kernel) (by decide +kernel)
set_option maxRecDepth 20000 in
theorem gX0_refusalOf_X0_isSize : GoodIn wsX0_refusalOf (va_wsS RX0 63 yX0_isSize wsX0_isSize) := goodIn_app (goodIn_of _ (by decide +kernel)) ggX0_refusalOf_X0_isSize
set_option maxRecDepth 20000 in
theorem ggX0_refusalOf_X0_isUsablePrime : GoodIn wsX0_refusalOf wsX0_isUsablePrime := goodIn_r _ [7, 8] (by decide +kernel) (by decide +kernel)
set_option maxRecDepth 20000 in
theorem gX0_refusalOf_X0_isUsablePrime : GoodIn wsX0_refusalOf (va_wsS RX0 51 yX0_isUsablePrime wsX0_isUsablePrime) := goodIn_app (goodIn_of _ (by decide +kernel)) ggX0_refusalOf_X0_isUsablePrime
theorem dX0_refusalOf_0 : decode cX0_refusalOf 0 = .ok (.iload_n 0, 1) := by decide +kernel
theorem dX0_refusalOf_1 : decode cX0_refusalOf 1 = .ok (.invokestatic 63, 3) := by decide +kernel
theorem dX0_refusalOf_4 : decode cX0_refusalOf 4 = .ok (.ifCond .ne 5, 3) := by decide +kernel
theorem dX0_refusalOf_7 : decode cX0_refusalOf 7 = .ok (.iconst (-1), 1) := by decide +kernel
theorem dX0_refusalOf_8 : decode cX0_refusalOf 8 = .ok (.ireturn, 1) := by decide +kernel
theorem dX0_refusalOf_9 : decode cX0_refusalOf 9 = .ok (.iload_n 1, 1) := by decide +kernel
theorem dX0_refusalOf_10 : decode cX0_refusalOf 10 = .ok (.invokestatic 51, 3) := by decide +kernel
theorem dX0_refusalOf_13 : decode cX0_refusalOf 13 = .ok (.ifCond .ne 6, 3) := by decide +kernel
theorem dX0_refusalOf_16 : decode cX0_refusalOf 16 = .ok (.bipush (-2), 2) := by decide +kernel
theorem dX0_refusalOf_18 : decode cX0_refusalOf 18 = .ok (.ireturn, 1) := by decide +kernel
theorem dX0_refusalOf_19 : decode cX0_refusalOf 19 = .ok (.iload_n 1, 1) := by decide +kernel
theorem dX0_refusalOf_20 : decode cX0_refusalOf 20 = .ok (.iconst 1, 1) := by decide +kernel
theorem dX0_refusalOf_21 : decode cX0_refusalOf 21 = .ok (.isub, 1) := by decide +kernel
theorem dX0_refusalOf_22 : decode cX0_refusalOf 22 = .ok (.iload_n 0, 1) := by decide +kernel
theorem dX0_refusalOf_23 : decode cX0_refusalOf 23 = .ok (.irem, 1) := by decide +kernel
theorem dX0_refusalOf_24 : decode cX0_refusalOf 24 = .ok (.ifCond .ne 7, 3) := by decide +kernel
theorem dX0_refusalOf_27 : decode cX0_refusalOf 27 = .ok (.iconst 0, 1) := by decide +kernel
theorem dX0_refusalOf_28 : decode cX0_refusalOf 28 = .ok (.goto 5, 3) := by decide +kernel
theorem dX0_refusalOf_31 : decode cX0_refusalOf 31 = .ok (.bipush (-3), 2) := by decide +kernel
theorem dX0_refusalOf_33 : decode cX0_refusalOf 33 = .ok (.ireturn, 1) := by decide +kernel
set_option maxRecDepth 20000 in
theorem ggX0_rootOfUnity_X0_power : GoodIn wsX0_rootOfUnity wsX0_power := goodIn_r _ [4, 5, 6, 3, 7] (by decide +kernel) (by decide +kernel)
set_option maxRecDepth 20000 in
theorem gX0_rootOfUnity_X0_power : GoodIn wsX0_rootOfUnity (va_wsS RX0 66 yX0_power wsX0_power) := goodIn_app (goodIn_of _ (by decide +kernel)) ggX0_rootOfUnity_X0_power
theorem dX0_rootOfUnity_0 : decode cX0_rootOfUnity 0 = .ok (.iload_n 0, 1) := by decide +kernel
theorem dX0_rootOfUnity_1 : decode cX0_rootOfUnity 1 = .ok (.iconst 1, 1) := by decide +kernel
theorem dX0_rootOfUnity_2 : decode cX0_rootOfUnity 2 = .ok (.if_icmp .gt 5, 3) := by decide +kernel
theorem dX0_rootOfUnity_5 : decode cX0_rootOfUnity 5 = .ok (.lconst 1, 1) := by decide +kernel
theorem dX0_rootOfUnity_6 : decode cX0_rootOfUnity 6 = .ok (.lreturn, 1) := by decide +kernel
theorem dX0_rootOfUnity_7 : decode cX0_rootOfUnity 7 = .ok (.iconst 2, 1) := by decide +kernel
theorem dX0_rootOfUnity_8 : decode cX0_rootOfUnity 8 = .ok (.istore_n 2, 1) := by decide +kernel
theorem dX0_rootOfUnity_9 : decode cX0_rootOfUnity 9 = .ok (.iload_n 2, 1) := by decide +kernel
theorem dX0_rootOfUnity_10 : decode cX0_rootOfUnity 10 = .ok (.iload_n 1, 1) := by decide +kernel
theorem dX0_rootOfUnity_11 : decode cX0_rootOfUnity 11 = .ok (.if_icmp .ge 41, 3) := by decide +kernel
theorem dX0_rootOfUnity_14 : decode cX0_rootOfUnity 14 = .ok (.iload_n 2, 1) := by decide +kernel
theorem dX0_rootOfUnity_15 : decode cX0_rootOfUnity 15 = .ok (.i2l, 1) := by decide +kernel
theorem dX0_rootOfUnity_16 : decode cX0_rootOfUnity 16 = .ok (.iload_n 1, 1) := by decide +kernel
theorem dX0_rootOfUnity_17 : decode cX0_rootOfUnity 17 = .ok (.iconst 1, 1) := by decide +kernel
theorem dX0_rootOfUnity_18 : decode cX0_rootOfUnity 18 = .ok (.isub, 1) := by decide +kernel
theorem dX0_rootOfUnity_19 : decode cX0_rootOfUnity 19 = .ok (.iload_n 0, 1) := by decide +kernel
theorem dX0_rootOfUnity_20 : decode cX0_rootOfUnity 20 = .ok (.idiv, 1) := by decide +kernel
theorem dX0_rootOfUnity_21 : decode cX0_rootOfUnity 21 = .ok (.iload_n 1, 1) := by decide +kernel
theorem dX0_rootOfUnity_22 : decode cX0_rootOfUnity 22 = .ok (.i2l, 1) := by decide +kernel
theorem dX0_rootOfUnity_23 : decode cX0_rootOfUnity 23 = .ok (.invokestatic 66, 3) := by decide +kernel
theorem dX0_rootOfUnity_26 : decode cX0_rootOfUnity 26 = .ok (.lstore_n 3, 1) := by decide +kernel
theorem dX0_rootOfUnity_27 : decode cX0_rootOfUnity 27 = .ok (.lload_n 3, 1) := by decide +kernel
theorem dX0_rootOfUnity_28 : decode cX0_rootOfUnity 28 = .ok (.iload_n 0, 1) := by decide +kernel
theorem dX0_rootOfUnity_29 : decode cX0_rootOfUnity 29 = .ok (.iconst 2, 1) := by decide +kernel
theorem dX0_rootOfUnity_30 : decode cX0_rootOfUnity 30 = .ok (.idiv, 1) := by decide +kernel
theorem dX0_rootOfUnity_31 : decode cX0_rootOfUnity 31 = .ok (.iload_n 1, 1) := by decide +kernel
theorem dX0_rootOfUnity_32 : decode cX0_rootOfUnity 32 = .ok (.i2l, 1) := by decide +kernel
theorem dX0_rootOfUnity_33 : decode cX0_rootOfUnity 33 = .ok (.invokestatic 66, 3) := by decide +kernel
theorem dX0_rootOfUnity_36 : decode cX0_rootOfUnity 36 = .ok (.iload_n 1, 1) := by decide +kernel
theorem dX0_rootOfUnity_37 : decode cX0_rootOfUnity 37 = .ok (.iconst 1, 1) := by decide +kernel
theorem dX0_rootOfUnity_38 : decode cX0_rootOfUnity 38 = .ok (.isub, 1) := by decide +kernel
theorem dX0_rootOfUnity_39 : decode cX0_rootOfUnity 39 = .ok (.i2l, 1) := by decide +kernel
theorem dX0_rootOfUnity_40 : decode cX0_rootOfUnity 40 = .ok (.lcmp, 1) := by decide +kernel
theorem dX0_rootOfUnity_41 : decode cX0_rootOfUnity 41 = .ok (.ifCond .ne 5, 3) := by decide +kernel
theorem dX0_rootOfUnity_44 : decode cX0_rootOfUnity 44 = .ok (.lload_n 3, 1) := by decide +kernel
theorem dX0_rootOfUnity_45 : decode cX0_rootOfUnity 45 = .ok (.lreturn, 1) := by decide +kernel
theorem dX0_rootOfUnity_46 : decode cX0_rootOfUnity 46 = .ok (.iinc 2 1, 3) := by decide +kernel
theorem dX0_rootOfUnity_49 : decode cX0_rootOfUnity 49 = .ok (.goto (-40), 3) := by decide +kernel
theorem dX0_rootOfUnity_52 : decode cX0_rootOfUnity 52 = .ok (.lconst 0, 1) := by decide +kernel
theorem dX0_rootOfUnity_53 : decode cX0_rootOfUnity 53 = .ok (.lreturn, 1) := by decide +kernel
set_option maxRecDepth 20000 in
theorem ggX0_rest_J9_floorMod_f86c9 : GoodIn wsX0_rest wsJ9_floorMod_f86c9 := goodIn_r _ [4] (by decide +kernel) (by decide +kernel)
set_option maxRecDepth 20000 in
theorem gX0_rest_J9_floorMod_f86c9 : GoodIn wsX0_rest (va_wsS RX0 70 yJ9_floorMod_f86c9 wsJ9_floorMod_f86c9) := goodIn_app (goodIn_of _ (by decide +kernel)) ggX0_rest_J9_floorMod_f86c9
theorem dX0_rest_0 : decode cX0_rest 0 = .ok (.lload_n 0, 1) := by decide +kernel
theorem dX0_rest_1 : decode cX0_rest 1 = .ok (.lload_n 2, 1) := by decide +kernel
theorem dX0_rest_2 : decode cX0_rest 2 = .ok (.invokestatic 70, 3) := by decide +kernel
theorem dX0_rest_5 : decode cX0_rest 5 = .ok (.lreturn, 1) := by decide +kernel
theorem dX0_product_0 : decode cX0_product 0 = .ok (.lload_n 0, 1) := by decide +kernel
theorem dX0_product_1 : decode cX0_product 1 = .ok (.lload_n 2, 1) := by decide +kernel
theorem dX0_product_2 : decode cX0_product 2 = .ok (.lmul, 1) := by decide +kernel
theorem dX0_product_3 : decode cX0_product 3 = .ok (.lload 4, 2) := by decide +kernel
theorem dX0_product_5 : decode cX0_product 5 = .ok (.lrem, 1) := by decide +kernel
theorem dX0_product_6 : decode cX0_product 6 = .ok (.lreturn, 1) := by decide +kernel
set_option maxRecDepth 20000 in
theorem ggX0_power_X0_product : GoodIn wsX0_power wsX0_product := goodIn_r _ [4] (by decide +kernel) (by decide +kernel)
set_option maxRecDepth 20000 in
theorem gX0_power_X0_product : GoodIn wsX0_power (va_wsS RX0 58 yX0_product wsX0_product) := goodIn_app (goodIn_of _ (by decide +kernel)) ggX0_power_X0_product
theorem dX0_power_0 : decode cX0_power 0 = .ok (.lconst 1, 1) := by decide +kernel
theorem dX0_power_1 : decode cX0_power 1 = .ok (.lstore 5, 2) := by decide +kernel
theorem dX0_power_3 : decode cX0_power 3 = .ok (.lload_n 0, 1) := by decide +kernel
theorem dX0_power_4 : decode cX0_power 4 = .ok (.lstore 7, 2) := by decide +kernel
theorem dX0_power_6 : decode cX0_power 6 = .ok (.iload_n 2, 1) := by decide +kernel
theorem dX0_power_7 : decode cX0_power 7 = .ok (.istore 9, 2) := by decide +kernel
theorem dX0_power_9 : decode cX0_power 9 = .ok (.iload 9, 2) := by decide +kernel
theorem dX0_power_11 : decode cX0_power 11 = .ok (.ifCond .le 40, 3) := by decide +kernel
theorem dX0_power_14 : decode cX0_power 14 = .ok (.iload 9, 2) := by decide +kernel
theorem dX0_power_16 : decode cX0_power 16 = .ok (.iconst 1, 1) := by decide +kernel
theorem dX0_power_17 : decode cX0_power 17 = .ok (.iand, 1) := by decide +kernel
theorem dX0_power_18 : decode cX0_power 18 = .ok (.iconst 1, 1) := by decide +kernel
theorem dX0_power_19 : decode cX0_power 19 = .ok (.if_icmp .ne 13, 3) := by decide +kernel
theorem dX0_power_22 : decode cX0_power 22 = .ok (.lload 5, 2) := by decide +kernel
theorem dX0_power_24 : decode cX0_power 24 = .ok (.lload 7, 2) := by decide +kernel
theorem dX0_power_26 : decode cX0_power 26 = .ok (.lload_n 3, 1) := by decide +kernel
theorem dX0_power_27 : decode cX0_power 27 = .ok (.invokestatic 58, 3) := by decide +kernel
theorem dX0_power_30 : decode cX0_power 30 = .ok (.lstore 5, 2) := by decide +kernel
theorem dX0_power_32 : decode cX0_power 32 = .ok (.lload 7, 2) := by decide +kernel
theorem dX0_power_34 : decode cX0_power 34 = .ok (.lload 7, 2) := by decide +kernel
theorem dX0_power_36 : decode cX0_power 36 = .ok (.lload_n 3, 1) := by decide +kernel
theorem dX0_power_37 : decode cX0_power 37 = .ok (.invokestatic 58, 3) := by decide +kernel
theorem dX0_power_40 : decode cX0_power 40 = .ok (.lstore 7, 2) := by decide +kernel
theorem dX0_power_42 : decode cX0_power 42 = .ok (.iload 9, 2) := by decide +kernel
theorem dX0_power_44 : decode cX0_power 44 = .ok (.iconst 1, 1) := by decide +kernel
theorem dX0_power_45 : decode cX0_power 45 = .ok (.ishr, 1) := by decide +kernel
theorem dX0_power_46 : decode cX0_power 46 = .ok (.istore 9, 2) := by decide +kernel
theorem dX0_power_48 : decode cX0_power 48 = .ok (.goto (-39), 3) := by decide +kernel
theorem dX0_power_51 : decode cX0_power 51 = .ok (.lload 5, 2) := by decide +kernel
theorem dX0_power_53 : decode cX0_power 53 = .ok (.lreturn, 1) := by decide +kernel
set_option maxRecDepth 20000 in
theorem ggX0_inverse_X0_power : GoodIn wsX0_inverse wsX0_power := goodIn_r _ [4, 5, 6, 3, 7] (by decide +kernel) (by decide +kernel)
set_option maxRecDepth 20000 in
theorem gX0_inverse_X0_power : GoodIn wsX0_inverse (va_wsS RX0 66 yX0_power wsX0_power) := goodIn_app (goodIn_of _ (by decide +kernel)) ggX0_inverse_X0_power
theorem dX0_inverse_0 : decode cX0_inverse 0 = .ok (.lload_n 0, 1) := by decide +kernel
theorem dX0_inverse_1 : decode cX0_inverse 1 = .ok (.iload_n 2, 1) := by decide +kernel
theorem dX0_inverse_2 : decode cX0_inverse 2 = .ok (.iconst 2, 1) := by decide +kernel
theorem dX0_inverse_3 : decode cX0_inverse 3 = .ok (.isub, 1) := by decide +kernel
theorem dX0_inverse_4 : decode cX0_inverse 4 = .ok (.iload_n 2, 1) := by decide +kernel
theorem dX0_inverse_5 : decode cX0_inverse 5 = .ok (.i2l, 1) := by decide +kernel
theorem dX0_inverse_6 : decode cX0_inverse 6 = .ok (.invokestatic 66, 3) := by decide +kernel
theorem dX0_inverse_9 : decode cX0_inverse 9 = .ok (.lreturn, 1) := by decide +kernel
set_option maxRecDepth 20000 in
theorem ggX0_reduce_X0_rest : GoodIn wsX0_reduce wsX0_rest := goodIn_r _ [5, 6, 7, 8, 9] (by decide +kernel) (by decide +kernel)
set_option maxRecDepth 20000 in
theorem gX0_reduce_X0_rest : GoodIn wsX0_reduce (va_wsS RX0 54 yX0_rest wsX0_rest) := goodIn_app (goodIn_of _ (by decide +kernel)) ggX0_reduce_X0_rest
theorem dX0_reduce_0 : decode cX0_reduce 0 = .ok (.iconst 0, 1) := by decide +kernel
theorem dX0_reduce_1 : decode cX0_reduce 1 = .ok (.istore 4, 2) := by decide +kernel
theorem dX0_reduce_3 : decode cX0_reduce 3 = .ok (.iload 4, 2) := by decide +kernel
theorem dX0_reduce_5 : decode cX0_reduce 5 = .ok (.iload_n 1, 1) := by decide +kernel
theorem dX0_reduce_6 : decode cX0_reduce 6 = .ok (.if_icmp .ge 27, 3) := by decide +kernel
theorem dX0_reduce_9 : decode cX0_reduce 9 = .ok (.aload_n 0, 1) := by decide +kernel
theorem dX0_reduce_10 : decode cX0_reduce 10 = .ok (.getfield 9, 3) := by decide +kernel
theorem dX0_reduce_13 : decode cX0_reduce 13 = .ok (.iload 4, 2) := by decide +kernel
theorem dX0_reduce_15 : decode cX0_reduce 15 = .ok (.aload_n 0, 1) := by decide +kernel
theorem dX0_reduce_16 : decode cX0_reduce 16 = .ok (.getfield 9, 3) := by decide +kernel
theorem dX0_reduce_19 : decode cX0_reduce 19 = .ok (.iload 4, 2) := by decide +kernel
theorem dX0_reduce_21 : decode cX0_reduce 21 = .ok (.laload, 1) := by decide +kernel
theorem dX0_reduce_22 : decode cX0_reduce 22 = .ok (.lload_n 2, 1) := by decide +kernel
theorem dX0_reduce_23 : decode cX0_reduce 23 = .ok (.invokestatic 54, 3) := by decide +kernel
theorem dX0_reduce_26 : decode cX0_reduce 26 = .ok (.lastore, 1) := by decide +kernel
theorem dX0_reduce_27 : decode cX0_reduce 27 = .ok (.iinc 4 1, 3) := by decide +kernel
theorem dX0_reduce_30 : decode cX0_reduce 30 = .ok (.goto (-27), 3) := by decide +kernel
theorem dX0_reduce_33 : decode cX0_reduce 33 = .ok (.return_, 1) := by decide +kernel
set_option maxRecDepth 20000 in
theorem ggX0_scale_X0_product : GoodIn wsX0_scale wsX0_product := goodIn_r _ [5] (by decide +kernel) (by decide +kernel)
set_option maxRecDepth 20000 in
theorem gX0_scale_X0_product : GoodIn wsX0_scale (va_wsS RX0 58 yX0_product wsX0_product) := goodIn_app (goodIn_of _ (by decide +kernel)) ggX0_scale_X0_product
theorem dX0_scale_0 : decode cX0_scale 0 = .ok (.iconst 0, 1) := by decide +kernel
theorem dX0_scale_1 : decode cX0_scale 1 = .ok (.istore 6, 2) := by decide +kernel
theorem dX0_scale_3 : decode cX0_scale 3 = .ok (.iload 6, 2) := by decide +kernel
theorem dX0_scale_5 : decode cX0_scale 5 = .ok (.iload_n 1, 1) := by decide +kernel
theorem dX0_scale_6 : decode cX0_scale 6 = .ok (.if_icmp .ge 29, 3) := by decide +kernel
theorem dX0_scale_9 : decode cX0_scale 9 = .ok (.aload_n 0, 1) := by decide +kernel
theorem dX0_scale_10 : decode cX0_scale 10 = .ok (.getfield 9, 3) := by decide +kernel
theorem dX0_scale_13 : decode cX0_scale 13 = .ok (.iload 6, 2) := by decide +kernel
theorem dX0_scale_15 : decode cX0_scale 15 = .ok (.aload_n 0, 1) := by decide +kernel
theorem dX0_scale_16 : decode cX0_scale 16 = .ok (.getfield 9, 3) := by decide +kernel
theorem dX0_scale_19 : decode cX0_scale 19 = .ok (.iload 6, 2) := by decide +kernel
theorem dX0_scale_21 : decode cX0_scale 21 = .ok (.laload, 1) := by decide +kernel
theorem dX0_scale_22 : decode cX0_scale 22 = .ok (.lload_n 2, 1) := by decide +kernel
theorem dX0_scale_23 : decode cX0_scale 23 = .ok (.lload 4, 2) := by decide +kernel
theorem dX0_scale_25 : decode cX0_scale 25 = .ok (.invokestatic 58, 3) := by decide +kernel
theorem dX0_scale_28 : decode cX0_scale 28 = .ok (.lastore, 1) := by decide +kernel
theorem dX0_scale_29 : decode cX0_scale 29 = .ok (.iinc 6 1, 3) := by decide +kernel
theorem dX0_scale_32 : decode cX0_scale 32 = .ok (.goto (-29), 3) := by decide +kernel
theorem dX0_scale_35 : decode cX0_scale 35 = .ok (.return_, 1) := by decide +kernel
set_option maxRecDepth 20000 in
theorem ggX0_reorder_X0_mirrored : GoodIn wsX0_reorder wsX0_mirrored := goodIn_r _ [5] (by decide +kernel) (by decide +kernel)
set_option maxRecDepth 20000 in
theorem gX0_reorder_X0_mirrored : GoodIn wsX0_reorder (va_wsS RX0 75 yX0_mirrored wsX0_mirrored) := goodIn_app (goodIn_of _ (by decide +kernel)) ggX0_reorder_X0_mirrored
theorem dX0_reorder_0 : decode cX0_reorder 0 = .ok (.iconst 0, 1) := by decide +kernel
theorem dX0_reorder_1 : decode cX0_reorder 1 = .ok (.istore_n 2, 1) := by decide +kernel
theorem dX0_reorder_2 : decode cX0_reorder 2 = .ok (.iload_n 2, 1) := by decide +kernel
theorem dX0_reorder_3 : decode cX0_reorder 3 = .ok (.iload_n 1, 1) := by decide +kernel
theorem dX0_reorder_4 : decode cX0_reorder 4 = .ok (.if_icmp .ge 48, 3) := by decide +kernel
theorem dX0_reorder_7 : decode cX0_reorder 7 = .ok (.iload_n 2, 1) := by decide +kernel
theorem dX0_reorder_8 : decode cX0_reorder 8 = .ok (.iload_n 1, 1) := by decide +kernel
theorem dX0_reorder_9 : decode cX0_reorder 9 = .ok (.invokestatic 75, 3) := by decide +kernel
theorem dX0_reorder_12 : decode cX0_reorder 12 = .ok (.istore_n 3, 1) := by decide +kernel
theorem dX0_reorder_13 : decode cX0_reorder 13 = .ok (.iload_n 2, 1) := by decide +kernel
theorem dX0_reorder_14 : decode cX0_reorder 14 = .ok (.iload_n 3, 1) := by decide +kernel
theorem dX0_reorder_15 : decode cX0_reorder 15 = .ok (.if_icmp .ge 31, 3) := by decide +kernel
theorem dX0_reorder_18 : decode cX0_reorder 18 = .ok (.aload_n 0, 1) := by decide +kernel
theorem dX0_reorder_19 : decode cX0_reorder 19 = .ok (.getfield 9, 3) := by decide +kernel
theorem dX0_reorder_22 : decode cX0_reorder 22 = .ok (.iload_n 2, 1) := by decide +kernel
theorem dX0_reorder_23 : decode cX0_reorder 23 = .ok (.laload, 1) := by decide +kernel
theorem dX0_reorder_24 : decode cX0_reorder 24 = .ok (.lstore 4, 2) := by decide +kernel
theorem dX0_reorder_26 : decode cX0_reorder 26 = .ok (.aload_n 0, 1) := by decide +kernel
theorem dX0_reorder_27 : decode cX0_reorder 27 = .ok (.getfield 9, 3) := by decide +kernel
theorem dX0_reorder_30 : decode cX0_reorder 30 = .ok (.iload_n 2, 1) := by decide +kernel
theorem dX0_reorder_31 : decode cX0_reorder 31 = .ok (.aload_n 0, 1) := by decide +kernel
theorem dX0_reorder_32 : decode cX0_reorder 32 = .ok (.getfield 9, 3) := by decide +kernel
theorem dX0_reorder_35 : decode cX0_reorder 35 = .ok (.iload_n 3, 1) := by decide +kernel
theorem dX0_reorder_36 : decode cX0_reorder 36 = .ok (.laload, 1) := by decide +kernel
theorem dX0_reorder_37 : decode cX0_reorder 37 = .ok (.lastore, 1) := by decide +kernel
theorem dX0_reorder_38 : decode cX0_reorder 38 = .ok (.aload_n 0, 1) := by decide +kernel
theorem dX0_reorder_39 : decode cX0_reorder 39 = .ok (.getfield 9, 3) := by decide +kernel
theorem dX0_reorder_42 : decode cX0_reorder 42 = .ok (.iload_n 3, 1) := by decide +kernel
theorem dX0_reorder_43 : decode cX0_reorder 43 = .ok (.lload 4, 2) := by decide +kernel
theorem dX0_reorder_45 : decode cX0_reorder 45 = .ok (.lastore, 1) := by decide +kernel
theorem dX0_reorder_46 : decode cX0_reorder 46 = .ok (.iinc 2 1, 3) := by decide +kernel
theorem dX0_reorder_49 : decode cX0_reorder 49 = .ok (.goto (-47), 3) := by decide +kernel
theorem dX0_reorder_52 : decode cX0_reorder 52 = .ok (.return_, 1) := by decide +kernel
theorem dX0_mirrored_0 : decode cX0_mirrored 0 = .ok (.iconst 0, 1) := by decide +kernel
theorem dX0_mirrored_1 : decode cX0_mirrored 1 = .ok (.istore_n 2, 1) := by decide +kernel
theorem dX0_mirrored_2 : decode cX0_mirrored 2 = .ok (.iload_n 0, 1) := by decide +kernel
theorem dX0_mirrored_3 : decode cX0_mirrored 3 = .ok (.istore_n 3, 1) := by decide +kernel
theorem dX0_mirrored_4 : decode cX0_mirrored 4 = .ok (.iconst 1, 1) := by decide +kernel
theorem dX0_mirrored_5 : decode cX0_mirrored 5 = .ok (.istore 4, 2) := by decide +kernel
theorem dX0_mirrored_7 : decode cX0_mirrored 7 = .ok (.iload 4, 2) := by decide +kernel
theorem dX0_mirrored_9 : decode cX0_mirrored 9 = .ok (.iload_n 1, 1) := by decide +kernel
theorem dX0_mirrored_10 : decode cX0_mirrored 10 = .ok (.if_icmp .ge 24, 3) := by decide +kernel
theorem dX0_mirrored_13 : decode cX0_mirrored 13 = .ok (.iload_n 2, 1) := by decide +kernel
theorem dX0_mirrored_14 : decode cX0_mirrored 14 = .ok (.iconst 1, 1) := by decide +kernel
theorem dX0_mirrored_15 : decode cX0_mirrored 15 = .ok (.ishl, 1) := by decide +kernel
theorem dX0_mirrored_16 : decode cX0_mirrored 16 = .ok (.iload_n 3, 1) := by decide +kernel
theorem dX0_mirrored_17 : decode cX0_mirrored 17 = .ok (.iconst 1, 1) := by decide +kernel
theorem dX0_mirrored_18 : decode cX0_mirrored 18 = .ok (.iand, 1) := by decide +kernel
theorem dX0_mirrored_19 : decode cX0_mirrored 19 = .ok (.ior, 1) := by decide +kernel
theorem dX0_mirrored_20 : decode cX0_mirrored 20 = .ok (.istore_n 2, 1) := by decide +kernel
theorem dX0_mirrored_21 : decode cX0_mirrored 21 = .ok (.iload_n 3, 1) := by decide +kernel
theorem dX0_mirrored_22 : decode cX0_mirrored 22 = .ok (.iconst 1, 1) := by decide +kernel
theorem dX0_mirrored_23 : decode cX0_mirrored 23 = .ok (.ishr, 1) := by decide +kernel
theorem dX0_mirrored_24 : decode cX0_mirrored 24 = .ok (.istore_n 3, 1) := by decide +kernel
theorem dX0_mirrored_25 : decode cX0_mirrored 25 = .ok (.iload 4, 2) := by decide +kernel
theorem dX0_mirrored_27 : decode cX0_mirrored 27 = .ok (.iconst 1, 1) := by decide +kernel
theorem dX0_mirrored_28 : decode cX0_mirrored 28 = .ok (.ishl, 1) := by decide +kernel
theorem dX0_mirrored_29 : decode cX0_mirrored 29 = .ok (.istore 4, 2) := by decide +kernel
theorem dX0_mirrored_31 : decode cX0_mirrored 31 = .ok (.goto (-24), 3) := by decide +kernel
theorem dX0_mirrored_34 : decode cX0_mirrored 34 = .ok (.iload_n 2, 1) := by decide +kernel
theorem dX0_mirrored_35 : decode cX0_mirrored 35 = .ok (.ireturn, 1) := by decide +kernel
set_option maxRecDepth 20000 in
theorem ggX0_joinHalves_X0_power : GoodIn wsX0_joinHalves wsX0_power := goodIn_r _ [4, 5, 6, 3, 7] (by decide +kernel) (by decide +kernel)
set_option maxRecDepth 20000 in
theorem gX0_joinHalves_X0_power : GoodIn wsX0_joinHalves (va_wsS RX0 66 yX0_power wsX0_power) := goodIn_app (goodIn_of _ (by decide +kernel)) ggX0_joinHalves_X0_power
set_option maxRecDepth 20000 in
theorem ggX0_joinHalves_X0_joinPairs : GoodIn wsX0_joinHalves wsX0_joinPairs := goodIn_r _ [11, 12, 5, 6, 3, 7, 13, 14] (by decide +kernel) (by decide +kernel)
set_option maxRecDepth 20000 in
theorem gX0_joinHalves_X0_joinPairs : GoodIn wsX0_joinHalves (wsV RX0 78 RX0 yX0_joinPairs wsX0_joinPairs) := goodIn_app (goodIn_of _ (by decide +kernel)) ggX0_joinHalves_X0_joinPairs
set_option maxRecDepth 20000 in
theorem ggX0_joinHalves_X0_product : GoodIn wsX0_joinHalves wsX0_product := goodIn_r _ [7] (by decide +kernel) (by decide +kernel)
set_option maxRecDepth 20000 in
theorem gX0_joinHalves_X0_product : GoodIn wsX0_joinHalves (va_wsS RX0 58 yX0_product wsX0_product) := goodIn_app (goodIn_of _ (by decide +kernel)) ggX0_joinHalves_X0_product
theorem dX0_joinHalves_0 : decode cX0_joinHalves 0 = .ok (.iconst 1, 1) := by decide +kernel
theorem dX0_joinHalves_1 : decode cX0_joinHalves 1 = .ok (.istore 5, 2) := by decide +kernel
theorem dX0_joinHalves_3 : decode cX0_joinHalves 3 = .ok (.iload 5, 2) := by decide +kernel
theorem dX0_joinHalves_5 : decode cX0_joinHalves 5 = .ok (.iload_n 1, 1) := by decide +kernel
theorem dX0_joinHalves_6 : decode cX0_joinHalves 6 = .ok (.if_icmp .ge 72, 3) := by decide +kernel
theorem dX0_joinHalves_9 : decode cX0_joinHalves 9 = .ok (.lload_n 2, 1) := by decide +kernel
theorem dX0_joinHalves_10 : decode cX0_joinHalves 10 = .ok (.iload_n 1, 1) := by decide +kernel
theorem dX0_joinHalves_11 : decode cX0_joinHalves 11 = .ok (.iconst 2, 1) := by decide +kernel
theorem dX0_joinHalves_12 : decode cX0_joinHalves 12 = .ok (.iload 5, 2) := by decide +kernel
theorem dX0_joinHalves_14 : decode cX0_joinHalves 14 = .ok (.imul, 1) := by decide +kernel
theorem dX0_joinHalves_15 : decode cX0_joinHalves 15 = .ok (.idiv, 1) := by decide +kernel
theorem dX0_joinHalves_16 : decode cX0_joinHalves 16 = .ok (.iload 4, 2) := by decide +kernel
theorem dX0_joinHalves_18 : decode cX0_joinHalves 18 = .ok (.i2l, 1) := by decide +kernel
theorem dX0_joinHalves_19 : decode cX0_joinHalves 19 = .ok (.invokestatic 66, 3) := by decide +kernel
theorem dX0_joinHalves_22 : decode cX0_joinHalves 22 = .ok (.lstore 6, 2) := by decide +kernel
theorem dX0_joinHalves_24 : decode cX0_joinHalves 24 = .ok (.lconst 1, 1) := by decide +kernel
theorem dX0_joinHalves_25 : decode cX0_joinHalves 25 = .ok (.lstore 8, 2) := by decide +kernel
theorem dX0_joinHalves_27 : decode cX0_joinHalves 27 = .ok (.iconst 0, 1) := by decide +kernel
theorem dX0_joinHalves_28 : decode cX0_joinHalves 28 = .ok (.istore 10, 2) := by decide +kernel
theorem dX0_joinHalves_30 : decode cX0_joinHalves 30 = .ok (.iload 10, 2) := by decide +kernel
theorem dX0_joinHalves_32 : decode cX0_joinHalves 32 = .ok (.iload 5, 2) := by decide +kernel
theorem dX0_joinHalves_34 : decode cX0_joinHalves 34 = .ok (.if_icmp .ge 35, 3) := by decide +kernel
theorem dX0_joinHalves_37 : decode cX0_joinHalves 37 = .ok (.aload_n 0, 1) := by decide +kernel
theorem dX0_joinHalves_38 : decode cX0_joinHalves 38 = .ok (.iload_n 1, 1) := by decide +kernel
theorem dX0_joinHalves_39 : decode cX0_joinHalves 39 = .ok (.iload 5, 2) := by decide +kernel
theorem dX0_joinHalves_41 : decode cX0_joinHalves 41 = .ok (.iload 10, 2) := by decide +kernel
theorem dX0_joinHalves_43 : decode cX0_joinHalves 43 = .ok (.lload 8, 2) := by decide +kernel
theorem dX0_joinHalves_45 : decode cX0_joinHalves 45 = .ok (.iload 4, 2) := by decide +kernel
theorem dX0_joinHalves_47 : decode cX0_joinHalves 47 = .ok (.i2l, 1) := by decide +kernel
theorem dX0_joinHalves_48 : decode cX0_joinHalves 48 = .ok (.invokevirtual 78, 3) := by decide +kernel
theorem dX0_joinHalves_51 : decode cX0_joinHalves 51 = .ok (.lload 8, 2) := by decide +kernel
theorem dX0_joinHalves_53 : decode cX0_joinHalves 53 = .ok (.lload 6, 2) := by decide +kernel
theorem dX0_joinHalves_55 : decode cX0_joinHalves 55 = .ok (.iload 4, 2) := by decide +kernel
theorem dX0_joinHalves_57 : decode cX0_joinHalves 57 = .ok (.i2l, 1) := by decide +kernel
theorem dX0_joinHalves_58 : decode cX0_joinHalves 58 = .ok (.invokestatic 58, 3) := by decide +kernel
theorem dX0_joinHalves_61 : decode cX0_joinHalves 61 = .ok (.lstore 8, 2) := by decide +kernel
theorem dX0_joinHalves_63 : decode cX0_joinHalves 63 = .ok (.iinc 10 1, 3) := by decide +kernel
theorem dX0_joinHalves_66 : decode cX0_joinHalves 66 = .ok (.goto (-36), 3) := by decide +kernel
theorem dX0_joinHalves_69 : decode cX0_joinHalves 69 = .ok (.iload 5, 2) := by decide +kernel
theorem dX0_joinHalves_71 : decode cX0_joinHalves 71 = .ok (.iconst 1, 1) := by decide +kernel
theorem dX0_joinHalves_72 : decode cX0_joinHalves 72 = .ok (.ishl, 1) := by decide +kernel
theorem dX0_joinHalves_73 : decode cX0_joinHalves 73 = .ok (.istore 5, 2) := by decide +kernel
theorem dX0_joinHalves_75 : decode cX0_joinHalves 75 = .ok (.goto (-72), 3) := by decide +kernel
theorem dX0_joinHalves_78 : decode cX0_joinHalves 78 = .ok (.return_, 1) := by decide +kernel
set_option maxRecDepth 20000 in
theorem ggX0_joinPairs_X0_product : GoodIn wsX0_joinPairs wsX0_product := goodIn_r _ [5] (by decide +kernel) (by decide +kernel)
set_option maxRecDepth 20000 in
theorem gX0_joinPairs_X0_product : GoodIn wsX0_joinPairs (va_wsS RX0 58 yX0_product wsX0_product) := goodIn_app (goodIn_of _ (by decide +kernel)) ggX0_joinPairs_X0_product
theorem dX0_joinPairs_0 : decode cX0_joinPairs 0 = .ok (.iload_n 3, 1) := by decide +kernel
theorem dX0_joinPairs_1 : decode cX0_joinPairs 1 = .ok (.istore 8, 2) := by decide +kernel
theorem dX0_joinPairs_3 : decode cX0_joinPairs 3 = .ok (.iload 8, 2) := by decide +kernel
theorem dX0_joinPairs_5 : decode cX0_joinPairs 5 = .ok (.iload_n 2, 1) := by decide +kernel
theorem dX0_joinPairs_6 : decode cX0_joinPairs 6 = .ok (.iadd, 1) := by decide +kernel
theorem dX0_joinPairs_7 : decode cX0_joinPairs 7 = .ok (.iload_n 1, 1) := by decide +kernel
theorem dX0_joinPairs_8 : decode cX0_joinPairs 8 = .ok (.if_icmp .ge 76, 3) := by decide +kernel
theorem dX0_joinPairs_11 : decode cX0_joinPairs 11 = .ok (.aload_n 0, 1) := by decide +kernel
theorem dX0_joinPairs_12 : decode cX0_joinPairs 12 = .ok (.getfield 9, 3) := by decide +kernel
theorem dX0_joinPairs_15 : decode cX0_joinPairs 15 = .ok (.iload 8, 2) := by decide +kernel
theorem dX0_joinPairs_17 : decode cX0_joinPairs 17 = .ok (.laload, 1) := by decide +kernel
theorem dX0_joinPairs_18 : decode cX0_joinPairs 18 = .ok (.lstore 9, 2) := by decide +kernel
theorem dX0_joinPairs_20 : decode cX0_joinPairs 20 = .ok (.aload_n 0, 1) := by decide +kernel
theorem dX0_joinPairs_21 : decode cX0_joinPairs 21 = .ok (.getfield 9, 3) := by decide +kernel
theorem dX0_joinPairs_24 : decode cX0_joinPairs 24 = .ok (.iload 8, 2) := by decide +kernel
theorem dX0_joinPairs_26 : decode cX0_joinPairs 26 = .ok (.iload_n 2, 1) := by decide +kernel
theorem dX0_joinPairs_27 : decode cX0_joinPairs 27 = .ok (.iadd, 1) := by decide +kernel
theorem dX0_joinPairs_28 : decode cX0_joinPairs 28 = .ok (.laload, 1) := by decide +kernel
theorem dX0_joinPairs_29 : decode cX0_joinPairs 29 = .ok (.lload 4, 2) := by decide +kernel
theorem dX0_joinPairs_31 : decode cX0_joinPairs 31 = .ok (.lload 6, 2) := by decide +kernel
theorem dX0_joinPairs_33 : decode cX0_joinPairs 33 = .ok (.invokestatic 58, 3) := by decide +kernel
theorem dX0_joinPairs_36 : decode cX0_joinPairs 36 = .ok (.lstore 11, 2) := by decide +kernel
theorem dX0_joinPairs_38 : decode cX0_joinPairs 38 = .ok (.aload_n 0, 1) := by decide +kernel
theorem dX0_joinPairs_39 : decode cX0_joinPairs 39 = .ok (.getfield 9, 3) := by decide +kernel
theorem dX0_joinPairs_42 : decode cX0_joinPairs 42 = .ok (.iload 8, 2) := by decide +kernel
theorem dX0_joinPairs_44 : decode cX0_joinPairs 44 = .ok (.lload 9, 2) := by decide +kernel
theorem dX0_joinPairs_46 : decode cX0_joinPairs 46 = .ok (.lload 11, 2) := by decide +kernel
theorem dX0_joinPairs_48 : decode cX0_joinPairs 48 = .ok (.ladd, 1) := by decide +kernel
theorem dX0_joinPairs_49 : decode cX0_joinPairs 49 = .ok (.lload 6, 2) := by decide +kernel
theorem dX0_joinPairs_51 : decode cX0_joinPairs 51 = .ok (.lrem, 1) := by decide +kernel
theorem dX0_joinPairs_52 : decode cX0_joinPairs 52 = .ok (.lastore, 1) := by decide +kernel
theorem dX0_joinPairs_53 : decode cX0_joinPairs 53 = .ok (.aload_n 0, 1) := by decide +kernel
theorem dX0_joinPairs_54 : decode cX0_joinPairs 54 = .ok (.getfield 9, 3) := by decide +kernel
theorem dX0_joinPairs_57 : decode cX0_joinPairs 57 = .ok (.iload 8, 2) := by decide +kernel
theorem dX0_joinPairs_59 : decode cX0_joinPairs 59 = .ok (.iload_n 2, 1) := by decide +kernel
theorem dX0_joinPairs_60 : decode cX0_joinPairs 60 = .ok (.iadd, 1) := by decide +kernel
theorem dX0_joinPairs_61 : decode cX0_joinPairs 61 = .ok (.lload 9, 2) := by decide +kernel
theorem dX0_joinPairs_63 : decode cX0_joinPairs 63 = .ok (.lload 11, 2) := by decide +kernel
theorem dX0_joinPairs_65 : decode cX0_joinPairs 65 = .ok (.lsub, 1) := by decide +kernel
theorem dX0_joinPairs_66 : decode cX0_joinPairs 66 = .ok (.lload 6, 2) := by decide +kernel
theorem dX0_joinPairs_68 : decode cX0_joinPairs 68 = .ok (.ladd, 1) := by decide +kernel
theorem dX0_joinPairs_69 : decode cX0_joinPairs 69 = .ok (.lload 6, 2) := by decide +kernel
theorem dX0_joinPairs_71 : decode cX0_joinPairs 71 = .ok (.lrem, 1) := by decide +kernel
theorem dX0_joinPairs_72 : decode cX0_joinPairs 72 = .ok (.lastore, 1) := by decide +kernel
theorem dX0_joinPairs_73 : decode cX0_joinPairs 73 = .ok (.iload 8, 2) := by decide +kernel
theorem dX0_joinPairs_75 : decode cX0_joinPairs 75 = .ok (.iconst 2, 1) := by decide +kernel
theorem dX0_joinPairs_76 : decode cX0_joinPairs 76 = .ok (.iload_n 2, 1) := by decide +kernel
theorem dX0_joinPairs_77 : decode cX0_joinPairs 77 = .ok (.imul, 1) := by decide +kernel
theorem dX0_joinPairs_78 : decode cX0_joinPairs 78 = .ok (.iadd, 1) := by decide +kernel
theorem dX0_joinPairs_79 : decode cX0_joinPairs 79 = .ok (.istore 8, 2) := by decide +kernel
theorem dX0_joinPairs_81 : decode cX0_joinPairs 81 = .ok (.goto (-78), 3) := by decide +kernel
theorem dX0_joinPairs_84 : decode cX0_joinPairs 84 = .ok (.return_, 1) := by decide +kernel
theorem dX1_init_0 : decode cX1_init 0 = .ok (.aload_n 0, 1) := by decide +kernel
theorem dX1_init_1 : decode cX1_init 1 = .ok (.invokespecial 1, 3) := by decide +kernel
theorem dX1_init_4 : decode cX1_init 4 = .ok (.aload_n 0, 1) := by decide +kernel
theorem dX1_init_5 : decode cX1_init 5 = .ok (.sipush 1024, 3) := by decide +kernel
theorem dX1_init_8 : decode cX1_init 8 = .ok (.newarray .long, 2) := by decide +kernel
theorem dX1_init_10 : decode cX1_init 10 = .ok (.putfield 9, 3) := by decide +kernel
theorem dX1_init_13 : decode cX1_init 13 = .ok (.aload_n 0, 1) := by decide +kernel
theorem dX1_init_14 : decode cX1_init 14 = .ok (.sipush 1024, 3) := by decide +kernel
theorem dX1_init_17 : decode cX1_init 17 = .ok (.newarray .long, 2) := by decide +kernel
theorem dX1_init_19 : decode cX1_init 19 = .ok (.putfield 13, 3) := by decide +kernel
theorem dX1_init_22 : decode cX1_init 22 = .ok (.aload_n 0, 1) := by decide +kernel
theorem dX1_init_23 : decode cX1_init 23 = .ok (.sipush 1024, 3) := by decide +kernel
theorem dX1_init_26 : decode cX1_init 26 = .ok (.newarray .long, 2) := by decide +kernel
theorem dX1_init_28 : decode cX1_init 28 = .ok (.putfield 16, 3) := by decide +kernel
theorem dX1_init_31 : decode cX1_init 31 = .ok (.return_, 1) := by decide +kernel
theorem dX1_put_0 : decode cX1_put 0 = .ok (.iload_n 1, 1) := by decide +kernel
theorem dX1_put_1 : decode cX1_put 1 = .ok (.ifCond .lt 10, 3) := by decide +kernel
theorem dX1_put_4 : decode cX1_put 4 = .ok (.iload_n 1, 1) := by decide +kernel
theorem dX1_put_5 : decode cX1_put 5 = .ok (.sipush 1024, 3) := by decide +kernel
theorem dX1_put_8 : decode cX1_put 8 = .ok (.if_icmp .lt 5, 3) := by decide +kernel
theorem dX1_put_11 : decode cX1_put 11 = .ok (.iconst 0, 1) := by decide +kernel
theorem dX1_put_12 : decode cX1_put 12 = .ok (.ireturn, 1) := by decide +kernel
theorem dX1_put_13 : decode cX1_put 13 = .ok (.aload_n 0, 1) := by decide +kernel
theorem dX1_put_14 : decode cX1_put 14 = .ok (.getfield 9, 3) := by decide +kernel
theorem dX1_put_17 : decode cX1_put 17 = .ok (.iload_n 1, 1) := by decide +kernel
theorem dX1_put_18 : decode cX1_put 18 = .ok (.lload_n 2, 1) := by decide +kernel
theorem dX1_put_19 : decode cX1_put 19 = .ok (.lastore, 1) := by decide +kernel
theorem dX1_put_20 : decode cX1_put 20 = .ok (.iconst 1, 1) := by decide +kernel
theorem dX1_put_21 : decode cX1_put 21 = .ok (.ireturn, 1) := by decide +kernel
theorem dX1_get_0 : decode cX1_get 0 = .ok (.iload_n 1, 1) := by decide +kernel
theorem dX1_get_1 : decode cX1_get 1 = .ok (.ifCond .lt 19, 3) := by decide +kernel
theorem dX1_get_4 : decode cX1_get 4 = .ok (.iload_n 1, 1) := by decide +kernel
theorem dX1_get_5 : decode cX1_get 5 = .ok (.sipush 1024, 3) := by decide +kernel
theorem dX1_get_8 : decode cX1_get 8 = .ok (.if_icmp .ge 12, 3) := by decide +kernel
theorem dX1_get_11 : decode cX1_get 11 = .ok (.aload_n 0, 1) := by decide +kernel
theorem dX1_get_12 : decode cX1_get 12 = .ok (.getfield 9, 3) := by decide +kernel
theorem dX1_get_15 : decode cX1_get 15 = .ok (.iload_n 1, 1) := by decide +kernel
theorem dX1_get_16 : decode cX1_get 16 = .ok (.laload, 1) := by decide +kernel
theorem dX1_get_17 : decode cX1_get 17 = .ok (.goto 4, 3) := by decide +kernel
theorem dX1_get_20 : decode cX1_get 20 = .ok (.lconst 0, 1) := by decide +kernel
theorem dX1_get_21 : decode cX1_get 21 = .ok (.lreturn, 1) := by decide +kernel
set_option maxRecDepth 20000 in
theorem ggX1_refused_X1_isPrime : GoodIn wsX1_refused wsX1_isPrime := goodIn_r _ [4, 5] (by decide +kernel) (by decide +kernel)
set_option maxRecDepth 20000 in
theorem gX1_refused_X1_isPrime : GoodIn wsX1_refused (va_wsS RX1 19 yX1_isPrime wsX1_isPrime) := goodIn_app (goodIn_of _ (by decide +kernel)) ggX1_refused_X1_isPrime
theorem dX1_refused_0 : decode cX1_refused 0 = .ok (.iload_n 0, 1) := by decide +kernel
theorem dX1_refused_1 : decode cX1_refused 1 = .ok (.iconst 1, 1) := by decide +kernel
theorem dX1_refused_2 : decode cX1_refused 2 = .ok (.if_icmp .lt 18, 3) := by decide +kernel
theorem dX1_refused_5 : decode cX1_refused 5 = .ok (.iload_n 0, 1) := by decide +kernel
theorem dX1_refused_6 : decode cX1_refused 6 = .ok (.sipush 1024, 3) := by decide +kernel
theorem dX1_refused_9 : decode cX1_refused 9 = .ok (.if_icmp .gt 11, 3) := by decide +kernel
theorem dX1_refused_12 : decode cX1_refused 12 = .ok (.iload_n 0, 1) := by decide +kernel
theorem dX1_refused_13 : decode cX1_refused 13 = .ok (.iload_n 0, 1) := by decide +kernel
theorem dX1_refused_14 : decode cX1_refused 14 = .ok (.iconst 1, 1) := by decide +kernel
theorem dX1_refused_15 : decode cX1_refused 15 = .ok (.isub, 1) := by decide +kernel
theorem dX1_refused_16 : decode cX1_refused 16 = .ok (.iand, 1) := by decide +kernel
theorem dX1_refused_17 : decode cX1_refused 17 = .ok (.ifCond .eq 5, 3) := by decide +kernel
theorem dX1_refused_20 : decode cX1_refused 20 = .ok (.iconst (-1), 1) := by decide +kernel
theorem dX1_refused_21 : decode cX1_refused 21 = .ok (.ireturn, 1) := by decide +kernel
theorem dX1_refused_22 : decode cX1_refused 22 = .ok (.iload_n 1, 1) := by decide +kernel
theorem dX1_refused_23 : decode cX1_refused 23 = .ok (.invokestatic 19, 3) := by decide +kernel
theorem dX1_refused_26 : decode cX1_refused 26 = .ok (.ifCond .ne 6, 3) := by decide +kernel
theorem dX1_refused_29 : decode cX1_refused 29 = .ok (.bipush (-2), 2) := by decide +kernel
theorem dX1_refused_31 : decode cX1_refused 31 = .ok (.ireturn, 1) := by decide +kernel
theorem dX1_refused_32 : decode cX1_refused 32 = .ok (.iload_n 1, 1) := by decide +kernel
theorem dX1_refused_33 : decode cX1_refused 33 = .ok (.iconst 1, 1) := by decide +kernel
theorem dX1_refused_34 : decode cX1_refused 34 = .ok (.isub, 1) := by decide +kernel
theorem dX1_refused_35 : decode cX1_refused 35 = .ok (.iload_n 0, 1) := by decide +kernel
theorem dX1_refused_36 : decode cX1_refused 36 = .ok (.irem, 1) := by decide +kernel
theorem dX1_refused_37 : decode cX1_refused 37 = .ok (.ifCond .eq 8, 3) := by decide +kernel
theorem dX1_refused_40 : decode cX1_refused 40 = .ok (.bipush (-3), 2) := by decide +kernel
theorem dX1_refused_42 : decode cX1_refused 42 = .ok (.goto 4, 3) := by decide +kernel
theorem dX1_refused_45 : decode cX1_refused 45 = .ok (.iconst 0, 1) := by decide +kernel
theorem dX1_refused_46 : decode cX1_refused 46 = .ok (.ireturn, 1) := by decide +kernel
theorem dX1_isPrime_0 : decode cX1_isPrime 0 = .ok (.iload_n 0, 1) := by decide +kernel
theorem dX1_isPrime_1 : decode cX1_isPrime 1 = .ok (.iconst 3, 1) := by decide +kernel
theorem dX1_isPrime_2 : decode cX1_isPrime 2 = .ok (.if_icmp .lt 9, 3) := by decide +kernel
theorem dX1_isPrime_5 : decode cX1_isPrime 5 = .ok (.iload_n 0, 1) := by decide +kernel
theorem dX1_isPrime_6 : decode cX1_isPrime 6 = .ok (.ldc 23, 2) := by decide +kernel
theorem dX1_isPrime_8 : decode cX1_isPrime 8 = .ok (.if_icmp .le 5, 3) := by decide +kernel
theorem dX1_isPrime_11 : decode cX1_isPrime 11 = .ok (.iconst 0, 1) := by decide +kernel
theorem dX1_isPrime_12 : decode cX1_isPrime 12 = .ok (.ireturn, 1) := by decide +kernel
theorem dX1_isPrime_13 : decode cX1_isPrime 13 = .ok (.iconst 2, 1) := by decide +kernel
theorem dX1_isPrime_14 : decode cX1_isPrime 14 = .ok (.istore_n 1, 1) := by decide +kernel
theorem dX1_isPrime_15 : decode cX1_isPrime 15 = .ok (.iload_n 1, 1) := by decide +kernel
theorem dX1_isPrime_16 : decode cX1_isPrime 16 = .ok (.i2l, 1) := by decide +kernel
theorem dX1_isPrime_17 : decode cX1_isPrime 17 = .ok (.iload_n 1, 1) := by decide +kernel
theorem dX1_isPrime_18 : decode cX1_isPrime 18 = .ok (.i2l, 1) := by decide +kernel
theorem dX1_isPrime_19 : decode cX1_isPrime 19 = .ok (.lmul, 1) := by decide +kernel
theorem dX1_isPrime_20 : decode cX1_isPrime 20 = .ok (.iload_n 0, 1) := by decide +kernel
theorem dX1_isPrime_21 : decode cX1_isPrime 21 = .ok (.i2l, 1) := by decide +kernel
theorem dX1_isPrime_22 : decode cX1_isPrime 22 = .ok (.lcmp, 1) := by decide +kernel
theorem dX1_isPrime_23 : decode cX1_isPrime 23 = .ok (.ifCond .gt 17, 3) := by decide +kernel
theorem dX1_isPrime_26 : decode cX1_isPrime 26 = .ok (.iload_n 0, 1) := by decide +kernel
theorem dX1_isPrime_27 : decode cX1_isPrime 27 = .ok (.iload_n 1, 1) := by decide +kernel
theorem dX1_isPrime_28 : decode cX1_isPrime 28 = .ok (.irem, 1) := by decide +kernel
theorem dX1_isPrime_29 : decode cX1_isPrime 29 = .ok (.ifCond .ne 5, 3) := by decide +kernel
theorem dX1_isPrime_32 : decode cX1_isPrime 32 = .ok (.iconst 0, 1) := by decide +kernel
theorem dX1_isPrime_33 : decode cX1_isPrime 33 = .ok (.ireturn, 1) := by decide +kernel
theorem dX1_isPrime_34 : decode cX1_isPrime 34 = .ok (.iinc 1 1, 3) := by decide +kernel
theorem dX1_isPrime_37 : decode cX1_isPrime 37 = .ok (.goto (-22), 3) := by decide +kernel
theorem dX1_isPrime_40 : decode cX1_isPrime 40 = .ok (.iconst 1, 1) := by decide +kernel
theorem dX1_isPrime_41 : decode cX1_isPrime 41 = .ok (.ireturn, 1) := by decide +kernel
theorem dX1_rest_0 : decode cX1_rest 0 = .ok (.lload_n 0, 1) := by decide +kernel
theorem dX1_rest_1 : decode cX1_rest 1 = .ok (.iload_n 2, 1) := by decide +kernel
theorem dX1_rest_2 : decode cX1_rest 2 = .ok (.i2l, 1) := by decide +kernel
theorem dX1_rest_3 : decode cX1_rest 3 = .ok (.lrem, 1) := by decide +kernel
theorem dX1_rest_4 : decode cX1_rest 4 = .ok (.iload_n 2, 1) := by decide +kernel
theorem dX1_rest_5 : decode cX1_rest 5 = .ok (.i2l, 1) := by decide +kernel
theorem dX1_rest_6 : decode cX1_rest 6 = .ok (.ladd, 1) := by decide +kernel
theorem dX1_rest_7 : decode cX1_rest 7 = .ok (.iload_n 2, 1) := by decide +kernel
theorem dX1_rest_8 : decode cX1_rest 8 = .ok (.i2l, 1) := by decide +kernel
theorem dX1_rest_9 : decode cX1_rest 9 = .ok (.lrem, 1) := by decide +kernel
theorem dX1_rest_10 : decode cX1_rest 10 = .ok (.lreturn, 1) := by decide +kernel
theorem dX1_power_0 : decode cX1_power 0 = .ok (.lconst 1, 1) := by decide +kernel
theorem dX1_power_1 : decode cX1_power 1 = .ok (.lstore 5, 2) := by decide +kernel
theorem dX1_power_3 : decode cX1_power 3 = .ok (.lload_n 0, 1) := by decide +kernel
theorem dX1_power_4 : decode cX1_power 4 = .ok (.iload 4, 2) := by decide +kernel
theorem dX1_power_6 : decode cX1_power 6 = .ok (.i2l, 1) := by decide +kernel
theorem dX1_power_7 : decode cX1_power 7 = .ok (.lrem, 1) := by decide +kernel
theorem dX1_power_8 : decode cX1_power 8 = .ok (.lstore 7, 2) := by decide +kernel
theorem dX1_power_10 : decode cX1_power 10 = .ok (.lload_n 2, 1) := by decide +kernel
theorem dX1_power_11 : decode cX1_power 11 = .ok (.lstore 9, 2) := by decide +kernel
theorem dX1_power_13 : decode cX1_power 13 = .ok (.lload 9, 2) := by decide +kernel
theorem dX1_power_15 : decode cX1_power 15 = .ok (.lconst 0, 1) := by decide +kernel
theorem dX1_power_16 : decode cX1_power 16 = .ok (.lcmp, 1) := by decide +kernel
theorem dX1_power_17 : decode cX1_power 17 = .ok (.ifCond .le 47, 3) := by decide +kernel
theorem dX1_power_20 : decode cX1_power 20 = .ok (.lload 9, 2) := by decide +kernel
theorem dX1_power_22 : decode cX1_power 22 = .ok (.ldc2_w 24, 3) := by decide +kernel
theorem dX1_power_25 : decode cX1_power 25 = .ok (.lrem, 1) := by decide +kernel
theorem dX1_power_26 : decode cX1_power 26 = .ok (.lconst 1, 1) := by decide +kernel
theorem dX1_power_27 : decode cX1_power 27 = .ok (.lcmp, 1) := by decide +kernel
theorem dX1_power_28 : decode cX1_power 28 = .ok (.ifCond .ne 14, 3) := by decide +kernel
theorem dX1_power_31 : decode cX1_power 31 = .ok (.lload 5, 2) := by decide +kernel
theorem dX1_power_33 : decode cX1_power 33 = .ok (.lload 7, 2) := by decide +kernel
theorem dX1_power_35 : decode cX1_power 35 = .ok (.lmul, 1) := by decide +kernel
theorem dX1_power_36 : decode cX1_power 36 = .ok (.iload 4, 2) := by decide +kernel
theorem dX1_power_38 : decode cX1_power 38 = .ok (.i2l, 1) := by decide +kernel
theorem dX1_power_39 : decode cX1_power 39 = .ok (.lrem, 1) := by decide +kernel
theorem dX1_power_40 : decode cX1_power 40 = .ok (.lstore 5, 2) := by decide +kernel
theorem dX1_power_42 : decode cX1_power 42 = .ok (.lload 7, 2) := by decide +kernel
theorem dX1_power_44 : decode cX1_power 44 = .ok (.lload 7, 2) := by decide +kernel
theorem dX1_power_46 : decode cX1_power 46 = .ok (.lmul, 1) := by decide +kernel
theorem dX1_power_47 : decode cX1_power 47 = .ok (.iload 4, 2) := by decide +kernel
theorem dX1_power_49 : decode cX1_power 49 = .ok (.i2l, 1) := by decide +kernel
theorem dX1_power_50 : decode cX1_power 50 = .ok (.lrem, 1) := by decide +kernel
theorem dX1_power_51 : decode cX1_power 51 = .ok (.lstore 7, 2) := by decide +kernel
theorem dX1_power_53 : decode cX1_power 53 = .ok (.lload 9, 2) := by decide +kernel
theorem dX1_power_55 : decode cX1_power 55 = .ok (.ldc2_w 24, 3) := by decide +kernel
theorem dX1_power_58 : decode cX1_power 58 = .ok (.ldiv, 1) := by decide +kernel
theorem dX1_power_59 : decode cX1_power 59 = .ok (.lstore 9, 2) := by decide +kernel
theorem dX1_power_61 : decode cX1_power 61 = .ok (.goto (-48), 3) := by decide +kernel
theorem dX1_power_64 : decode cX1_power 64 = .ok (.lload 5, 2) := by decide +kernel
theorem dX1_power_66 : decode cX1_power 66 = .ok (.lreturn, 1) := by decide +kernel
set_option maxRecDepth 20000 in
theorem ggX1_rootOf_X1_power : GoodIn wsX1_rootOf wsX1_power := goodIn_r _ [5, 1] (by decide +kernel) (by decide +kernel)
set_option maxRecDepth 20000 in
theorem gX1_rootOf_X1_power : GoodIn wsX1_rootOf (va_wsS RX1 26 yX1_power wsX1_power) := goodIn_app (goodIn_of _ (by decide +kernel)) ggX1_rootOf_X1_power
theorem dX1_rootOf_0 : decode cX1_rootOf 0 = .ok (.iload_n 0, 1) := by decide +kernel
theorem dX1_rootOf_1 : decode cX1_rootOf 1 = .ok (.iconst 1, 1) := by decide +kernel
theorem dX1_rootOf_2 : decode cX1_rootOf 2 = .ok (.if_icmp .ne 5, 3) := by decide +kernel
theorem dX1_rootOf_5 : decode cX1_rootOf 5 = .ok (.lconst 1, 1) := by decide +kernel
theorem dX1_rootOf_6 : decode cX1_rootOf 6 = .ok (.lreturn, 1) := by decide +kernel
theorem dX1_rootOf_7 : decode cX1_rootOf 7 = .ok (.lconst 1, 1) := by decide +kernel
theorem dX1_rootOf_8 : decode cX1_rootOf 8 = .ok (.lstore_n 2, 1) := by decide +kernel
theorem dX1_rootOf_9 : decode cX1_rootOf 9 = .ok (.ldc2_w 24, 3) := by decide +kernel
theorem dX1_rootOf_12 : decode cX1_rootOf 12 = .ok (.lstore 4, 2) := by decide +kernel
theorem dX1_rootOf_14 : decode cX1_rootOf 14 = .ok (.lload_n 2, 1) := by decide +kernel
theorem dX1_rootOf_15 : decode cX1_rootOf 15 = .ok (.iload_n 0, 1) := by decide +kernel
theorem dX1_rootOf_16 : decode cX1_rootOf 16 = .ok (.iconst 2, 1) := by decide +kernel
theorem dX1_rootOf_17 : decode cX1_rootOf 17 = .ok (.idiv, 1) := by decide +kernel
theorem dX1_rootOf_18 : decode cX1_rootOf 18 = .ok (.i2l, 1) := by decide +kernel
theorem dX1_rootOf_19 : decode cX1_rootOf 19 = .ok (.iload_n 1, 1) := by decide +kernel
theorem dX1_rootOf_20 : decode cX1_rootOf 20 = .ok (.invokestatic 26, 3) := by decide +kernel
theorem dX1_rootOf_23 : decode cX1_rootOf 23 = .ok (.iload_n 1, 1) := by decide +kernel
theorem dX1_rootOf_24 : decode cX1_rootOf 24 = .ok (.iconst 1, 1) := by decide +kernel
theorem dX1_rootOf_25 : decode cX1_rootOf 25 = .ok (.isub, 1) := by decide +kernel
theorem dX1_rootOf_26 : decode cX1_rootOf 26 = .ok (.i2l, 1) := by decide +kernel
theorem dX1_rootOf_27 : decode cX1_rootOf 27 = .ok (.lcmp, 1) := by decide +kernel
theorem dX1_rootOf_28 : decode cX1_rootOf 28 = .ok (.ifCond .eq 25, 3) := by decide +kernel
theorem dX1_rootOf_31 : decode cX1_rootOf 31 = .ok (.lload 4, 2) := by decide +kernel
theorem dX1_rootOf_33 : decode cX1_rootOf 33 = .ok (.iload_n 1, 1) := by decide +kernel
theorem dX1_rootOf_34 : decode cX1_rootOf 34 = .ok (.iconst 1, 1) := by decide +kernel
theorem dX1_rootOf_35 : decode cX1_rootOf 35 = .ok (.isub, 1) := by decide +kernel
theorem dX1_rootOf_36 : decode cX1_rootOf 36 = .ok (.iload_n 0, 1) := by decide +kernel
theorem dX1_rootOf_37 : decode cX1_rootOf 37 = .ok (.idiv, 1) := by decide +kernel
theorem dX1_rootOf_38 : decode cX1_rootOf 38 = .ok (.i2l, 1) := by decide +kernel
theorem dX1_rootOf_39 : decode cX1_rootOf 39 = .ok (.iload_n 1, 1) := by decide +kernel
theorem dX1_rootOf_40 : decode cX1_rootOf 40 = .ok (.invokestatic 26, 3) := by decide +kernel
theorem dX1_rootOf_43 : decode cX1_rootOf 43 = .ok (.lstore_n 2, 1) := by decide +kernel
theorem dX1_rootOf_44 : decode cX1_rootOf 44 = .ok (.lload 4, 2) := by decide +kernel
theorem dX1_rootOf_46 : decode cX1_rootOf 46 = .ok (.lconst 1, 1) := by decide +kernel
theorem dX1_rootOf_47 : decode cX1_rootOf 47 = .ok (.ladd, 1) := by decide +kernel
theorem dX1_rootOf_48 : decode cX1_rootOf 48 = .ok (.lstore 4, 2) := by decide +kernel
theorem dX1_rootOf_50 : decode cX1_rootOf 50 = .ok (.goto (-36), 3) := by decide +kernel
theorem dX1_rootOf_53 : decode cX1_rootOf 53 = .ok (.lload_n 2, 1) := by decide +kernel
theorem dX1_rootOf_54 : decode cX1_rootOf 54 = .ok (.lreturn, 1) := by decide +kernel
set_option maxRecDepth 20000 in
theorem ggX1_root_X1_refused : GoodIn wsX1_root wsX1_refused := goodIn_r _ [4, 5, 6, 3, 7, 8] (by decide +kernel) (by decide +kernel)
set_option maxRecDepth 20000 in
theorem gX1_root_X1_refused : GoodIn wsX1_root (va_wsS RX1 30 yX1_refused wsX1_refused) := goodIn_app (goodIn_of _ (by decide +kernel)) ggX1_root_X1_refused
set_option maxRecDepth 20000 in
theorem ggX1_root_X1_rootOf : GoodIn wsX1_root wsX1_rootOf := goodIn_r _ [11, 12, 13, 14, 3, 15] (by decide +kernel) (by decide +kernel)
set_option maxRecDepth 20000 in
theorem gX1_root_X1_rootOf : GoodIn wsX1_root (va_wsS RX1 34 yX1_rootOf wsX1_rootOf) := goodIn_app (goodIn_of _ (by decide +kernel)) ggX1_root_X1_rootOf
theorem dX1_root_0 : decode cX1_root 0 = .ok (.iload_n 1, 1) := by decide +kernel
theorem dX1_root_1 : decode cX1_root 1 = .ok (.iload_n 2, 1) := by decide +kernel
theorem dX1_root_2 : decode cX1_root 2 = .ok (.invokestatic 30, 3) := by decide +kernel
theorem dX1_root_5 : decode cX1_root 5 = .ok (.ifCond .ge 7, 3) := by decide +kernel
theorem dX1_root_8 : decode cX1_root 8 = .ok (.lconst 0, 1) := by decide +kernel
theorem dX1_root_9 : decode cX1_root 9 = .ok (.goto 8, 3) := by decide +kernel
theorem dX1_root_12 : decode cX1_root 12 = .ok (.iload_n 1, 1) := by decide +kernel
theorem dX1_root_13 : decode cX1_root 13 = .ok (.iload_n 2, 1) := by decide +kernel
theorem dX1_root_14 : decode cX1_root 14 = .ok (.invokestatic 34, 3) := by decide +kernel
theorem dX1_root_17 : decode cX1_root 17 = .ok (.lreturn, 1) := by decide +kernel
set_option maxRecDepth 20000 in
theorem ggX1_transform_X1_refused : GoodIn wsX1_transform wsX1_refused := goodIn_r _ [6, 7, 8, 5, 9, 10] (by decide +kernel) (by decide +kernel)
set_option maxRecDepth 20000 in
theorem gX1_transform_X1_refused : GoodIn wsX1_transform (va_wsS RX1 30 yX1_refused wsX1_refused) := goodIn_app (goodIn_of _ (by decide +kernel)) ggX1_transform_X1_refused
set_option maxRecDepth 20000 in
theorem ggX1_transform_X1_rootOf : GoodIn wsX1_transform wsX1_rootOf := goodIn_r _ [13, 14, 15, 16, 5, 17] (by decide +kernel) (by decide +kernel)
set_option maxRecDepth 20000 in
theorem gX1_transform_X1_rootOf : GoodIn wsX1_transform (va_wsS RX1 34 yX1_rootOf wsX1_rootOf) := goodIn_app (goodIn_of _ (by decide +kernel)) ggX1_transform_X1_rootOf
set_option maxRecDepth 20000 in
theorem ggX1_transform_X1_power : GoodIn wsX1_transform wsX1_power := goodIn_r _ [17, 14] (by decide +kernel) (by decide +kernel)
set_option maxRecDepth 20000 in
theorem gX1_transform_X1_power : GoodIn wsX1_transform (va_wsS RX1 26 yX1_power wsX1_power) := goodIn_app (goodIn_of _ (by decide +kernel)) ggX1_transform_X1_power
set_option maxRecDepth 20000 in
theorem ggX1_transform_X1_rest : GoodIn wsX1_transform wsX1_rest := goodIn_r _ [20] (by decide +kernel) (by decide +kernel)
set_option maxRecDepth 20000 in
theorem gX1_transform_X1_rest : GoodIn wsX1_transform (va_wsS RX1 38 yX1_rest wsX1_rest) := goodIn_app (goodIn_of _ (by decide +kernel)) ggX1_transform_X1_rest
theorem dX1_transform_0 : decode cX1_transform 0 = .ok (.iload_n 1, 1) := by decide +kernel
theorem dX1_transform_1 : decode cX1_transform 1 = .ok (.iload_n 2, 1) := by decide +kernel
theorem dX1_transform_2 : decode cX1_transform 2 = .ok (.invokestatic 30, 3) := by decide +kernel
theorem dX1_transform_5 : decode cX1_transform 5 = .ok (.istore 4, 2) := by decide +kernel
theorem dX1_transform_7 : decode cX1_transform 7 = .ok (.iload 4, 2) := by decide +kernel
theorem dX1_transform_9 : decode cX1_transform 9 = .ok (.ifCond .ge 6, 3) := by decide +kernel
theorem dX1_transform_12 : decode cX1_transform 12 = .ok (.iload 4, 2) := by decide +kernel
theorem dX1_transform_14 : decode cX1_transform 14 = .ok (.ireturn, 1) := by decide +kernel
theorem dX1_transform_15 : decode cX1_transform 15 = .ok (.iload_n 1, 1) := by decide +kernel
theorem dX1_transform_16 : decode cX1_transform 16 = .ok (.iload_n 2, 1) := by decide +kernel
theorem dX1_transform_17 : decode cX1_transform 17 = .ok (.invokestatic 34, 3) := by decide +kernel
theorem dX1_transform_20 : decode cX1_transform 20 = .ok (.lstore 5, 2) := by decide +kernel
theorem dX1_transform_22 : decode cX1_transform 22 = .ok (.iload_n 3, 1) := by decide +kernel
theorem dX1_transform_23 : decode cX1_transform 23 = .ok (.ifCond .eq 15, 3) := by decide +kernel
theorem dX1_transform_26 : decode cX1_transform 26 = .ok (.lload 5, 2) := by decide +kernel
theorem dX1_transform_28 : decode cX1_transform 28 = .ok (.iload_n 2, 1) := by decide +kernel
theorem dX1_transform_29 : decode cX1_transform 29 = .ok (.iconst 2, 1) := by decide +kernel
theorem dX1_transform_30 : decode cX1_transform 30 = .ok (.isub, 1) := by decide +kernel
theorem dX1_transform_31 : decode cX1_transform 31 = .ok (.i2l, 1) := by decide +kernel
theorem dX1_transform_32 : decode cX1_transform 32 = .ok (.iload_n 2, 1) := by decide +kernel
theorem dX1_transform_33 : decode cX1_transform 33 = .ok (.invokestatic 26, 3) := by decide +kernel
theorem dX1_transform_36 : decode cX1_transform 36 = .ok (.lstore 5, 2) := by decide +kernel
theorem dX1_transform_38 : decode cX1_transform 38 = .ok (.iconst 0, 1) := by decide +kernel
theorem dX1_transform_39 : decode cX1_transform 39 = .ok (.istore 7, 2) := by decide +kernel
theorem dX1_transform_41 : decode cX1_transform 41 = .ok (.iload 7, 2) := by decide +kernel
theorem dX1_transform_43 : decode cX1_transform 43 = .ok (.iload_n 1, 1) := by decide +kernel
theorem dX1_transform_44 : decode cX1_transform 44 = .ok (.if_icmp .ge 27, 3) := by decide +kernel
theorem dX1_transform_47 : decode cX1_transform 47 = .ok (.aload_n 0, 1) := by decide +kernel
theorem dX1_transform_48 : decode cX1_transform 48 = .ok (.getfield 16, 3) := by decide +kernel
theorem dX1_transform_51 : decode cX1_transform 51 = .ok (.iload 7, 2) := by decide +kernel
theorem dX1_transform_53 : decode cX1_transform 53 = .ok (.aload_n 0, 1) := by decide +kernel
theorem dX1_transform_54 : decode cX1_transform 54 = .ok (.getfield 9, 3) := by decide +kernel
theorem dX1_transform_57 : decode cX1_transform 57 = .ok (.iload 7, 2) := by decide +kernel
theorem dX1_transform_59 : decode cX1_transform 59 = .ok (.laload, 1) := by decide +kernel
theorem dX1_transform_60 : decode cX1_transform 60 = .ok (.iload_n 2, 1) := by decide +kernel
theorem dX1_transform_61 : decode cX1_transform 61 = .ok (.invokestatic 38, 3) := by decide +kernel
theorem dX1_transform_64 : decode cX1_transform 64 = .ok (.lastore, 1) := by decide +kernel
theorem dX1_transform_65 : decode cX1_transform 65 = .ok (.iinc 7 1, 3) := by decide +kernel
theorem dX1_transform_68 : decode cX1_transform 68 = .ok (.goto (-27), 3) := by decide +kernel
theorem dX1_transform_71 : decode cX1_transform 71 = .ok (.iload_n 3, 1) := by decide +kernel
theorem dX1_transform_72 : decode cX1_transform 72 = .ok (.ifCond .eq 16, 3) := by decide +kernel
theorem dX1_transform_75 : decode cX1_transform 75 = .ok (.iload_n 1, 1) := by decide +kernel
theorem dX1_transform_76 : decode cX1_transform 76 = .ok (.i2l, 1) := by decide +kernel
theorem dX1_transform_77 : decode cX1_transform 77 = .ok (.iload_n 2, 1) := by decide +kernel
theorem dX1_transform_78 : decode cX1_transform 78 = .ok (.iconst 2, 1) := by decide +kernel
theorem dX1_transform_79 : decode cX1_transform 79 = .ok (.isub, 1) := by decide +kernel
theorem dX1_transform_80 : decode cX1_transform 80 = .ok (.i2l, 1) := by decide +kernel
theorem dX1_transform_81 : decode cX1_transform 81 = .ok (.iload_n 2, 1) := by decide +kernel
theorem dX1_transform_82 : decode cX1_transform 82 = .ok (.invokestatic 26, 3) := by decide +kernel
theorem dX1_transform_85 : decode cX1_transform 85 = .ok (.goto 4, 3) := by decide +kernel
theorem dX1_transform_88 : decode cX1_transform 88 = .ok (.lconst 1, 1) := by decide +kernel
theorem dX1_transform_89 : decode cX1_transform 89 = .ok (.lstore 7, 2) := by decide +kernel
theorem dX1_transform_91 : decode cX1_transform 91 = .ok (.lconst 1, 1) := by decide +kernel
theorem dX1_transform_92 : decode cX1_transform 92 = .ok (.lstore 9, 2) := by decide +kernel
theorem dX1_transform_94 : decode cX1_transform 94 = .ok (.iconst 0, 1) := by decide +kernel
theorem dX1_transform_95 : decode cX1_transform 95 = .ok (.istore 11, 2) := by decide +kernel
theorem dX1_transform_97 : decode cX1_transform 97 = .ok (.iload 11, 2) := by decide +kernel
theorem dX1_transform_99 : decode cX1_transform 99 = .ok (.iload_n 1, 1) := by decide +kernel
theorem dX1_transform_100 : decode cX1_transform 100 = .ok (.if_icmp .ge 83, 3) := by decide +kernel
theorem dX1_transform_103 : decode cX1_transform 103 = .ok (.lconst 0, 1) := by decide +kernel
theorem dX1_transform_104 : decode cX1_transform 104 = .ok (.lstore 12, 2) := by decide +kernel
theorem dX1_transform_106 : decode cX1_transform 106 = .ok (.lconst 1, 1) := by decide +kernel
theorem dX1_transform_107 : decode cX1_transform 107 = .ok (.lstore 14, 2) := by decide +kernel
theorem dX1_transform_109 : decode cX1_transform 109 = .ok (.iconst 0, 1) := by decide +kernel
theorem dX1_transform_110 : decode cX1_transform 110 = .ok (.istore 16, 2) := by decide +kernel
theorem dX1_transform_112 : decode cX1_transform 112 = .ok (.iload 16, 2) := by decide +kernel
theorem dX1_transform_114 : decode cX1_transform 114 = .ok (.iload_n 1, 1) := by decide +kernel
theorem dX1_transform_115 : decode cX1_transform 115 = .ok (.if_icmp .ge 37, 3) := by decide +kernel
theorem dX1_transform_118 : decode cX1_transform 118 = .ok (.lload 12, 2) := by decide +kernel
theorem dX1_transform_120 : decode cX1_transform 120 = .ok (.aload_n 0, 1) := by decide +kernel
theorem dX1_transform_121 : decode cX1_transform 121 = .ok (.getfield 16, 3) := by decide +kernel
theorem dX1_transform_124 : decode cX1_transform 124 = .ok (.iload 16, 2) := by decide +kernel
theorem dX1_transform_126 : decode cX1_transform 126 = .ok (.laload, 1) := by decide +kernel
theorem dX1_transform_127 : decode cX1_transform 127 = .ok (.lload 14, 2) := by decide +kernel
theorem dX1_transform_129 : decode cX1_transform 129 = .ok (.lmul, 1) := by decide +kernel
theorem dX1_transform_130 : decode cX1_transform 130 = .ok (.ladd, 1) := by decide +kernel
theorem dX1_transform_131 : decode cX1_transform 131 = .ok (.iload_n 2, 1) := by decide +kernel
theorem dX1_transform_132 : decode cX1_transform 132 = .ok (.i2l, 1) := by decide +kernel
theorem dX1_transform_133 : decode cX1_transform 133 = .ok (.lrem, 1) := by decide +kernel
theorem dX1_transform_134 : decode cX1_transform 134 = .ok (.lstore 12, 2) := by decide +kernel
theorem dX1_transform_136 : decode cX1_transform 136 = .ok (.lload 14, 2) := by decide +kernel
theorem dX1_transform_138 : decode cX1_transform 138 = .ok (.lload 9, 2) := by decide +kernel
theorem dX1_transform_140 : decode cX1_transform 140 = .ok (.lmul, 1) := by decide +kernel
theorem dX1_transform_141 : decode cX1_transform 141 = .ok (.iload_n 2, 1) := by decide +kernel
theorem dX1_transform_142 : decode cX1_transform 142 = .ok (.i2l, 1) := by decide +kernel
theorem dX1_transform_143 : decode cX1_transform 143 = .ok (.lrem, 1) := by decide +kernel
theorem dX1_transform_144 : decode cX1_transform 144 = .ok (.lstore 14, 2) := by decide +kernel
theorem dX1_transform_146 : decode cX1_transform 146 = .ok (.iinc 16 1, 3) := by decide +kernel
theorem dX1_transform_149 : decode cX1_transform 149 = .ok (.goto (-37), 3) := by decide +kernel
theorem dX1_transform_152 : decode cX1_transform 152 = .ok (.aload_n 0, 1) := by decide +kernel
theorem dX1_transform_153 : decode cX1_transform 153 = .ok (.getfield 9, 3) := by decide +kernel
theorem dX1_transform_156 : decode cX1_transform 156 = .ok (.iload 11, 2) := by decide +kernel
theorem dX1_transform_158 : decode cX1_transform 158 = .ok (.lload 12, 2) := by decide +kernel
theorem dX1_transform_160 : decode cX1_transform 160 = .ok (.lload 7, 2) := by decide +kernel
theorem dX1_transform_162 : decode cX1_transform 162 = .ok (.lmul, 1) := by decide +kernel
theorem dX1_transform_163 : decode cX1_transform 163 = .ok (.iload_n 2, 1) := by decide +kernel
theorem dX1_transform_164 : decode cX1_transform 164 = .ok (.i2l, 1) := by decide +kernel
theorem dX1_transform_165 : decode cX1_transform 165 = .ok (.lrem, 1) := by decide +kernel
theorem dX1_transform_166 : decode cX1_transform 166 = .ok (.lastore, 1) := by decide +kernel
theorem dX1_transform_167 : decode cX1_transform 167 = .ok (.lload 9, 2) := by decide +kernel
theorem dX1_transform_169 : decode cX1_transform 169 = .ok (.lload 5, 2) := by decide +kernel
theorem dX1_transform_171 : decode cX1_transform 171 = .ok (.lmul, 1) := by decide +kernel
theorem dX1_transform_172 : decode cX1_transform 172 = .ok (.iload_n 2, 1) := by decide +kernel
theorem dX1_transform_173 : decode cX1_transform 173 = .ok (.i2l, 1) := by decide +kernel
theorem dX1_transform_174 : decode cX1_transform 174 = .ok (.lrem, 1) := by decide +kernel
theorem dX1_transform_175 : decode cX1_transform 175 = .ok (.lstore 9, 2) := by decide +kernel
theorem dX1_transform_177 : decode cX1_transform 177 = .ok (.iinc 11 1, 3) := by decide +kernel
theorem dX1_transform_180 : decode cX1_transform 180 = .ok (.goto (-83), 3) := by decide +kernel
theorem dX1_transform_183 : decode cX1_transform 183 = .ok (.iconst 0, 1) := by decide +kernel
theorem dX1_transform_184 : decode cX1_transform 184 = .ok (.ireturn, 1) := by decide +kernel
theorem dX1_keep_0 : decode cX1_keep 0 = .ok (.iload_n 1, 1) := by decide +kernel
theorem dX1_keep_1 : decode cX1_keep 1 = .ok (.ifCond .lt 10, 3) := by decide +kernel
theorem dX1_keep_4 : decode cX1_keep 4 = .ok (.iload_n 1, 1) := by decide +kernel
theorem dX1_keep_5 : decode cX1_keep 5 = .ok (.sipush 1024, 3) := by decide +kernel
theorem dX1_keep_8 : decode cX1_keep 8 = .ok (.if_icmp .le 5, 3) := by decide +kernel
theorem dX1_keep_11 : decode cX1_keep 11 = .ok (.iconst 0, 1) := by decide +kernel
theorem dX1_keep_12 : decode cX1_keep 12 = .ok (.ireturn, 1) := by decide +kernel
theorem dX1_keep_13 : decode cX1_keep 13 = .ok (.iconst 0, 1) := by decide +kernel
theorem dX1_keep_14 : decode cX1_keep 14 = .ok (.istore_n 2, 1) := by decide +kernel
theorem dX1_keep_15 : decode cX1_keep 15 = .ok (.iload_n 2, 1) := by decide +kernel
theorem dX1_keep_16 : decode cX1_keep 16 = .ok (.iload_n 1, 1) := by decide +kernel
theorem dX1_keep_17 : decode cX1_keep 17 = .ok (.if_icmp .ge 21, 3) := by decide +kernel
theorem dX1_keep_20 : decode cX1_keep 20 = .ok (.aload_n 0, 1) := by decide +kernel
theorem dX1_keep_21 : decode cX1_keep 21 = .ok (.getfield 13, 3) := by decide +kernel
theorem dX1_keep_24 : decode cX1_keep 24 = .ok (.iload_n 2, 1) := by decide +kernel
theorem dX1_keep_25 : decode cX1_keep 25 = .ok (.aload_n 0, 1) := by decide +kernel
theorem dX1_keep_26 : decode cX1_keep 26 = .ok (.getfield 9, 3) := by decide +kernel
theorem dX1_keep_29 : decode cX1_keep 29 = .ok (.iload_n 2, 1) := by decide +kernel
theorem dX1_keep_30 : decode cX1_keep 30 = .ok (.laload, 1) := by decide +kernel
theorem dX1_keep_31 : decode cX1_keep 31 = .ok (.lastore, 1) := by decide +kernel
theorem dX1_keep_32 : decode cX1_keep 32 = .ok (.iinc 2 1, 3) := by decide +kernel
theorem dX1_keep_35 : decode cX1_keep 35 = .ok (.goto (-20), 3) := by decide +kernel
theorem dX1_keep_38 : decode cX1_keep 38 = .ok (.aload_n 0, 1) := by decide +kernel
theorem dX1_keep_39 : decode cX1_keep 39 = .ok (.iload_n 1, 1) := by decide +kernel
theorem dX1_keep_40 : decode cX1_keep 40 = .ok (.putfield 42, 3) := by decide +kernel
theorem dX1_keep_43 : decode cX1_keep 43 = .ok (.iconst 1, 1) := by decide +kernel
theorem dX1_keep_44 : decode cX1_keep 44 = .ok (.ireturn, 1) := by decide +kernel
set_option maxRecDepth 20000 in
theorem ggX1_times_X1_isPrime : GoodIn wsX1_times wsX1_isPrime := goodIn_r _ [7, 8] (by decide +kernel) (by decide +kernel)
set_option maxRecDepth 20000 in
theorem gX1_times_X1_isPrime : GoodIn wsX1_times (va_wsS RX1 19 yX1_isPrime wsX1_isPrime) := goodIn_app (goodIn_of _ (by decide +kernel)) ggX1_times_X1_isPrime
set_option maxRecDepth 20000 in
theorem ggX1_times_X1_rest : GoodIn wsX1_times wsX1_rest := goodIn_r _ [11] (by decide +kernel) (by decide +kernel)
set_option maxRecDepth 20000 in
theorem gX1_times_X1_rest : GoodIn wsX1_times (va_wsS RX1 38 yX1_rest wsX1_rest) := goodIn_app (goodIn_of _ (by decide +kernel)) ggX1_times_X1_rest
theorem dX1_times_0 : decode cX1_times 0 = .ok (.iload_n 1, 1) := by decide +kernel
theorem dX1_times_1 : decode cX1_times 1 = .ok (.ifCond .lt 10, 3) := by decide +kernel
theorem dX1_times_4 : decode cX1_times 4 = .ok (.iload_n 1, 1) := by decide +kernel
theorem dX1_times_5 : decode cX1_times 5 = .ok (.sipush 1024, 3) := by decide +kernel
theorem dX1_times_8 : decode cX1_times 8 = .ok (.if_icmp .le 5, 3) := by decide +kernel
theorem dX1_times_11 : decode cX1_times 11 = .ok (.iconst (-1), 1) := by decide +kernel
theorem dX1_times_12 : decode cX1_times 12 = .ok (.ireturn, 1) := by decide +kernel
theorem dX1_times_13 : decode cX1_times 13 = .ok (.iload_n 2, 1) := by decide +kernel
theorem dX1_times_14 : decode cX1_times 14 = .ok (.invokestatic 19, 3) := by decide +kernel
theorem dX1_times_17 : decode cX1_times 17 = .ok (.ifCond .ne 6, 3) := by decide +kernel
theorem dX1_times_20 : decode cX1_times 20 = .ok (.bipush (-2), 2) := by decide +kernel
theorem dX1_times_22 : decode cX1_times 22 = .ok (.ireturn, 1) := by decide +kernel
theorem dX1_times_23 : decode cX1_times 23 = .ok (.iconst 0, 1) := by decide +kernel
theorem dX1_times_24 : decode cX1_times 24 = .ok (.istore_n 3, 1) := by decide +kernel
theorem dX1_times_25 : decode cX1_times 25 = .ok (.iload_n 3, 1) := by decide +kernel
theorem dX1_times_26 : decode cX1_times 26 = .ok (.iload_n 1, 1) := by decide +kernel
theorem dX1_times_27 : decode cX1_times 27 = .ok (.if_icmp .ge 51, 3) := by decide +kernel
theorem dX1_times_30 : decode cX1_times 30 = .ok (.aload_n 0, 1) := by decide +kernel
theorem dX1_times_31 : decode cX1_times 31 = .ok (.getfield 9, 3) := by decide +kernel
theorem dX1_times_34 : decode cX1_times 34 = .ok (.iload_n 3, 1) := by decide +kernel
theorem dX1_times_35 : decode cX1_times 35 = .ok (.iload_n 3, 1) := by decide +kernel
theorem dX1_times_36 : decode cX1_times 36 = .ok (.aload_n 0, 1) := by decide +kernel
theorem dX1_times_37 : decode cX1_times 37 = .ok (.getfield 42, 3) := by decide +kernel
theorem dX1_times_40 : decode cX1_times 40 = .ok (.if_icmp .ge 30, 3) := by decide +kernel
theorem dX1_times_43 : decode cX1_times 43 = .ok (.aload_n 0, 1) := by decide +kernel
theorem dX1_times_44 : decode cX1_times 44 = .ok (.getfield 9, 3) := by decide +kernel
theorem dX1_times_47 : decode cX1_times 47 = .ok (.iload_n 3, 1) := by decide +kernel
theorem dX1_times_48 : decode cX1_times 48 = .ok (.laload, 1) := by decide +kernel
theorem dX1_times_49 : decode cX1_times 49 = .ok (.iload_n 2, 1) := by decide +kernel
theorem dX1_times_50 : decode cX1_times 50 = .ok (.invokestatic 38, 3) := by decide +kernel
theorem dX1_times_53 : decode cX1_times 53 = .ok (.aload_n 0, 1) := by decide +kernel
theorem dX1_times_54 : decode cX1_times 54 = .ok (.getfield 13, 3) := by decide +kernel
theorem dX1_times_57 : decode cX1_times 57 = .ok (.iload_n 3, 1) := by decide +kernel
theorem dX1_times_58 : decode cX1_times 58 = .ok (.laload, 1) := by decide +kernel
theorem dX1_times_59 : decode cX1_times 59 = .ok (.iload_n 2, 1) := by decide +kernel
theorem dX1_times_60 : decode cX1_times 60 = .ok (.invokestatic 38, 3) := by decide +kernel
theorem dX1_times_63 : decode cX1_times 63 = .ok (.lmul, 1) := by decide +kernel
theorem dX1_times_64 : decode cX1_times 64 = .ok (.iload_n 2, 1) := by decide +kernel
theorem dX1_times_65 : decode cX1_times 65 = .ok (.i2l, 1) := by decide +kernel
theorem dX1_times_66 : decode cX1_times 66 = .ok (.lrem, 1) := by decide +kernel
theorem dX1_times_67 : decode cX1_times 67 = .ok (.goto 4, 3) := by decide +kernel
theorem dX1_times_70 : decode cX1_times 70 = .ok (.lconst 0, 1) := by decide +kernel
theorem dX1_times_71 : decode cX1_times 71 = .ok (.lastore, 1) := by decide +kernel
theorem dX1_times_72 : decode cX1_times 72 = .ok (.iinc 3 1, 3) := by decide +kernel
theorem dX1_times_75 : decode cX1_times 75 = .ok (.goto (-50), 3) := by decide +kernel
theorem dX1_times_78 : decode cX1_times 78 = .ok (.iconst 0, 1) := by decide +kernel
theorem dX1_times_79 : decode cX1_times 79 = .ok (.ireturn, 1) := by decide +kernel
theorem dJ9_floorMod_f86c9_0 : decode cJ9_floorMod_f86c9 0 = .ok (.lload_n 0, 1) := by decide +kernel
theorem dJ9_floorMod_f86c9_1 : decode cJ9_floorMod_f86c9 1 = .ok (.lload_n 2, 1) := by decide +kernel
theorem dJ9_floorMod_f86c9_2 : decode cJ9_floorMod_f86c9 2 = .ok (.lrem, 1) := by decide +kernel
theorem dJ9_floorMod_f86c9_3 : decode cJ9_floorMod_f86c9 3 = .ok (.lstore 4, 2) := by decide +kernel
theorem dJ9_floorMod_f86c9_5 : decode cJ9_floorMod_f86c9 5 = .ok (.lload_n 0, 1) := by decide +kernel
theorem dJ9_floorMod_f86c9_6 : decode cJ9_floorMod_f86c9 6 = .ok (.lload_n 2, 1) := by decide +kernel
theorem dJ9_floorMod_f86c9_7 : decode cJ9_floorMod_f86c9 7 = .ok (.lxor, 1) := by decide +kernel
theorem dJ9_floorMod_f86c9_8 : decode cJ9_floorMod_f86c9 8 = .ok (.lconst 0, 1) := by decide +kernel
theorem dJ9_floorMod_f86c9_9 : decode cJ9_floorMod_f86c9 9 = .ok (.lcmp, 1) := by decide +kernel
theorem dJ9_floorMod_f86c9_10 : decode cJ9_floorMod_f86c9 10 = .ok (.ifCond .ge 15, 3) := by decide +kernel
theorem dJ9_floorMod_f86c9_13 : decode cJ9_floorMod_f86c9 13 = .ok (.lload 4, 2) := by decide +kernel
theorem dJ9_floorMod_f86c9_15 : decode cJ9_floorMod_f86c9 15 = .ok (.lconst 0, 1) := by decide +kernel
theorem dJ9_floorMod_f86c9_16 : decode cJ9_floorMod_f86c9 16 = .ok (.lcmp, 1) := by decide +kernel
theorem dJ9_floorMod_f86c9_17 : decode cJ9_floorMod_f86c9 17 = .ok (.ifCond .eq 8, 3) := by decide +kernel
theorem dJ9_floorMod_f86c9_20 : decode cJ9_floorMod_f86c9 20 = .ok (.lload 4, 2) := by decide +kernel
theorem dJ9_floorMod_f86c9_22 : decode cJ9_floorMod_f86c9 22 = .ok (.lload_n 2, 1) := by decide +kernel
theorem dJ9_floorMod_f86c9_23 : decode cJ9_floorMod_f86c9 23 = .ok (.ladd, 1) := by decide +kernel
theorem dJ9_floorMod_f86c9_24 : decode cJ9_floorMod_f86c9 24 = .ok (.lreturn, 1) := by decide +kernel
theorem dJ9_floorMod_f86c9_25 : decode cJ9_floorMod_f86c9 25 = .ok (.lload 4, 2) := by decide +kernel
theorem dJ9_floorMod_f86c9_27 : decode cJ9_floorMod_f86c9 27 = .ok (.lreturn, 1) := by decide +kernel
set_option maxRecDepth 20000 in
theorem ggL_law_X0_init : GoodIn wsL_law wsX0_init := goodIn_r _ [9, 10, 11, 12, 13, 14, 15, 147, 148] (by decide +kernel) (by decide +kernel)
set_option maxRecDepth 20000 in
theorem gL_law_X0_init : GoodIn wsL_law (wsX0_init) := ggL_law_X0_init
set_option maxRecDepth 20000 in
theorem ggL_law_X1_init : GoodIn wsL_law wsX1_init := goodIn_r _ [18, 19, 11, 12, 13, 20, 21, 22, 149, 150, 151, 152] (by decide +kernel) (by decide +kernel)
set_option maxRecDepth 20000 in
theorem gL_law_X1_init : GoodIn wsL_law (wsX1_init) := ggL_law_X1_init
set_option maxRecDepth 20000 in
theorem ggL_law_X0_put : GoodIn wsL_law wsX0_put := goodIn_r _ [26, 14, 27, 28, 2, 29, 147, 148] (by decide +kernel) (by decide +kernel)
set_option maxRecDepth 20000 in
theorem gL_law_X0_put : GoodIn wsL_law (wsV RL 15 RX0 yX0_put wsX0_put) := goodIn_app (goodIn_of _ (by decide +kernel)) ggL_law_X0_put
set_option maxRecDepth 20000 in
theorem ggL_law_X1_put : GoodIn wsL_law wsX1_put := goodIn_r _ [33, 20, 149, 150, 151, 152] (by decide +kernel) (by decide +kernel)
set_option maxRecDepth 20000 in
theorem gL_law_X1_put : GoodIn wsL_law (wsV RL 19 RX1 yX1_put wsX1_put) := goodIn_app (goodIn_of _ (by decide +kernel)) ggL_law_X1_put
set_option maxRecDepth 20000 in
theorem ggL_law_X0_get : GoodIn wsL_law wsX0_get := goodIn_r _ [37, 14, 27, 28, 2, 29, 147, 148] (by decide +kernel) (by decide +kernel)
set_option maxRecDepth 20000 in
theorem gL_law_X0_get : GoodIn wsL_law (wsV RL 20 RX0 yX0_get wsX0_get) := goodIn_app (goodIn_of _ (by decide +kernel)) ggL_law_X0_get
set_option maxRecDepth 20000 in
theorem ggL_law_X1_get : GoodIn wsL_law wsX1_get := goodIn_r _ [41, 20, 149, 150, 151, 152] (by decide +kernel) (by decide +kernel)
set_option maxRecDepth 20000 in
theorem gL_law_X1_get : GoodIn wsL_law (wsV RL 24 RX1 yX1_get wsX1_get) := goodIn_app (goodIn_of _ (by decide +kernel)) ggL_law_X1_get
set_option maxRecDepth 20000 in
theorem ggL_law_X0_transform : GoodIn wsL_law wsX0_transform := goodIn_r _ [45, 46, 47, 2, 48, 49, 50, 51, 52, 53, 54, 55, 56, 57, 58, 59, 60, 61, 62, 63, 64, 65, 66, 67, 68, 14, 69, 70, 71, 72, 73, 74, 75, 76, 77, 78, 79, 80, 81, 82, 83, 84, 85, 86, 87, 88, 89, 90, 91, 92, 93, 94, 95, 96, 97, 147, 148] (by decide +kernel) (by decide +kernel)
set_option maxRecDepth 20000 in
theorem gL_law_X0_transform : GoodIn wsL_law (wsV RL 25 RX0 yX0_transform wsX0_transform) := goodIn_app (goodIn_of _ (by decide +kernel)) ggL_law_X0_transform
set_option maxRecDepth 20000 in
theorem ggL_law_X1_transform : GoodIn wsL_law wsX1_transform := goodIn_r _ [101, 22, 20, 102, 103, 5, 104, 105, 106, 107, 108, 109, 110, 111, 112, 113, 114, 115, 116, 117, 118, 149, 150, 151, 152] (by decide +kernel) (by decide +kernel)
set_option maxRecDepth 20000 in
theorem gL_law_X1_transform : GoodIn wsL_law (wsV RL 29 RX1 yX1_transform wsX1_transform) := goodIn_app (goodIn_of _ (by decide +kernel)) ggL_law_X1_transform
set_option maxRecDepth 20000 in
theorem ggL_law_X0_keep : GoodIn wsL_law wsX0_keep := goodIn_r _ [122, 15, 14, 123, 124, 2, 125, 147, 148] (by decide +kernel) (by decide +kernel)
set_option maxRecDepth 20000 in
theorem gL_law_X0_keep : GoodIn wsL_law (wsV RL 30 RX0 yX0_keep wsX0_keep) := goodIn_app (goodIn_of _ (by decide +kernel)) ggL_law_X0_keep
set_option maxRecDepth 20000 in
theorem ggL_law_X1_keep : GoodIn wsL_law wsX1_keep := goodIn_r _ [129, 21, 20, 130, 149, 150, 151, 152] (by decide +kernel) (by decide +kernel)
set_option maxRecDepth 20000 in
theorem gL_law_X1_keep : GoodIn wsL_law (wsV RL 34 RX1 yX1_keep wsX1_keep) := goodIn_app (goodIn_of _ (by decide +kernel)) ggL_law_X1_keep
set_option maxRecDepth 20000 in
theorem ggL_law_X0_times : GoodIn wsL_law wsX0_times := goodIn_r _ [134, 14, 15, 123, 124, 2, 125, 52, 53, 54, 55, 69, 70, 71, 72, 73, 74, 75, 62, 63, 64, 147, 148] (by decide +kernel) (by decide +kernel)
set_option maxRecDepth 20000 in
theorem gL_law_X0_times : GoodIn wsL_law (wsV RL 35 RX0 yX0_times wsX0_times) := goodIn_app (goodIn_of _ (by decide +kernel)) ggL_law_X0_times
set_option maxRecDepth 20000 in
theorem ggL_law_X1_times : GoodIn wsL_law wsX1_times := goodIn_r _ [138, 20, 130, 21, 105, 106, 5, 107, 108, 116, 117, 118, 149, 150, 151, 152] (by decide +kernel) (by decide +kernel)
set_option maxRecDepth 20000 in
theorem gL_law_X1_times : GoodIn wsL_law (wsV RL 39 RX1 yX1_times wsX1_times) := goodIn_app (goodIn_of _ (by decide +kernel)) ggL_law_X1_times
set_option maxRecDepth 20000 in
theorem ggL_law_X0_root : GoodIn wsL_law wsX0_root := goodIn_r _ [142, 46, 47, 2, 48, 49, 50, 51, 52, 53, 54, 55, 56, 57, 58, 59, 60, 61, 62, 63, 64] (by decide +kernel) (by decide +kernel)
set_option maxRecDepth 20000 in
theorem gL_law_X0_root : GoodIn wsL_law (wsV RL 40 RX0 yX0_root wsX0_root) := goodIn_app (goodIn_of _ (by decide +kernel)) ggL_law_X0_root
set_option maxRecDepth 20000 in
theorem ggL_law_X1_root : GoodIn wsL_law wsX1_root := goodIn_r _ [146, 102, 103, 5, 104, 105, 106, 107, 108, 109, 110, 111, 112, 113, 114, 115] (by decide +kernel) (by decide +kernel)
set_option maxRecDepth 20000 in
theorem gL_law_X1_root : GoodIn wsL_law (wsV RL 44 RX1 yX1_root wsX1_root) := goodIn_app (goodIn_of _ (by decide +kernel)) ggL_law_X1_root
theorem dL_law_0 : decode cL_law 0 = .ok (.new 7, 3) := by decide +kernel
theorem dL_law_3 : decode cL_law 3 = .ok (.dup, 1) := by decide +kernel
theorem dL_law_4 : decode cL_law 4 = .ok (.invokespecial 9, 3) := by decide +kernel
theorem dL_law_7 : decode cL_law 7 = .ok (.astore_n 1, 1) := by decide +kernel
theorem dL_law_8 : decode cL_law 8 = .ok (.new 10, 3) := by decide +kernel
theorem dL_law_11 : decode cL_law 11 = .ok (.dup, 1) := by decide +kernel
theorem dL_law_12 : decode cL_law 12 = .ok (.invokespecial 12, 3) := by decide +kernel
theorem dL_law_15 : decode cL_law 15 = .ok (.astore_n 2, 1) := by decide +kernel
theorem dL_law_16 : decode cL_law 16 = .ok (.iconst 0, 1) := by decide +kernel
theorem dL_law_17 : decode cL_law 17 = .ok (.istore_n 3, 1) := by decide +kernel
theorem dL_law_18 : decode cL_law 18 = .ok (.iload_n 3, 1) := by decide +kernel
theorem dL_law_19 : decode cL_law 19 = .ok (.aload_n 0, 1) := by decide +kernel
theorem dL_law_20 : decode cL_law 20 = .ok (.arraylength, 1) := by decide +kernel
theorem dL_law_21 : decode cL_law 21 = .ok (.iconst 4, 1) := by decide +kernel
theorem dL_law_22 : decode cL_law 22 = .ok (.isub, 1) := by decide +kernel
theorem dL_law_23 : decode cL_law 23 = .ok (.if_icmp .gt 291, 3) := by decide +kernel
theorem dL_law_26 : decode cL_law 26 = .ok (.aload_n 0, 1) := by decide +kernel
theorem dL_law_27 : decode cL_law 27 = .ok (.iload_n 3, 1) := by decide +kernel
theorem dL_law_28 : decode cL_law 28 = .ok (.iaload, 1) := by decide +kernel
theorem dL_law_29 : decode cL_law 29 = .ok (.bipush 7, 2) := by decide +kernel
theorem dL_law_31 : decode cL_law 31 = .ok (.iand, 1) := by decide +kernel
theorem dL_law_32 : decode cL_law 32 = .ok (.tableswitch 276 0 5 #[40, 103, 127, 186, 209, 242], 40) := by decide +kernel
theorem dL_law_72 : decode cL_law 72 = .ok (.aload_n 1, 1) := by decide +kernel
theorem dL_law_73 : decode cL_law 73 = .ok (.aload_n 0, 1) := by decide +kernel
theorem dL_law_74 : decode cL_law 74 = .ok (.iload_n 3, 1) := by decide +kernel
theorem dL_law_75 : decode cL_law 75 = .ok (.iconst 1, 1) := by decide +kernel
theorem dL_law_76 : decode cL_law 76 = .ok (.iadd, 1) := by decide +kernel
theorem dL_law_77 : decode cL_law 77 = .ok (.iaload, 1) := by decide +kernel
theorem dL_law_78 : decode cL_law 78 = .ok (.aload_n 0, 1) := by decide +kernel
theorem dL_law_79 : decode cL_law 79 = .ok (.iload_n 3, 1) := by decide +kernel
theorem dL_law_80 : decode cL_law 80 = .ok (.iconst 2, 1) := by decide +kernel
theorem dL_law_81 : decode cL_law 81 = .ok (.iadd, 1) := by decide +kernel
theorem dL_law_82 : decode cL_law 82 = .ok (.iaload, 1) := by decide +kernel
theorem dL_law_83 : decode cL_law 83 = .ok (.i2l, 1) := by decide +kernel
theorem dL_law_84 : decode cL_law 84 = .ok (.bipush 32, 2) := by decide +kernel
theorem dL_law_86 : decode cL_law 86 = .ok (.lshl, 1) := by decide +kernel
theorem dL_law_87 : decode cL_law 87 = .ok (.aload_n 0, 1) := by decide +kernel
theorem dL_law_88 : decode cL_law 88 = .ok (.iload_n 3, 1) := by decide +kernel
theorem dL_law_89 : decode cL_law 89 = .ok (.iconst 3, 1) := by decide +kernel
theorem dL_law_90 : decode cL_law 90 = .ok (.iadd, 1) := by decide +kernel
theorem dL_law_91 : decode cL_law 91 = .ok (.iaload, 1) := by decide +kernel
theorem dL_law_92 : decode cL_law 92 = .ok (.i2l, 1) := by decide +kernel
theorem dL_law_93 : decode cL_law 93 = .ok (.ldc2_w 13, 3) := by decide +kernel
theorem dL_law_96 : decode cL_law 96 = .ok (.land, 1) := by decide +kernel
theorem dL_law_97 : decode cL_law 97 = .ok (.lor, 1) := by decide +kernel
theorem dL_law_98 : decode cL_law 98 = .ok (.invokevirtual 15, 3) := by decide +kernel
theorem dL_law_101 : decode cL_law 101 = .ok (.aload_n 2, 1) := by decide +kernel
theorem dL_law_102 : decode cL_law 102 = .ok (.aload_n 0, 1) := by decide +kernel
theorem dL_law_103 : decode cL_law 103 = .ok (.iload_n 3, 1) := by decide +kernel
theorem dL_law_104 : decode cL_law 104 = .ok (.iconst 1, 1) := by decide +kernel
theorem dL_law_105 : decode cL_law 105 = .ok (.iadd, 1) := by decide +kernel
theorem dL_law_106 : decode cL_law 106 = .ok (.iaload, 1) := by decide +kernel
theorem dL_law_107 : decode cL_law 107 = .ok (.aload_n 0, 1) := by decide +kernel
theorem dL_law_108 : decode cL_law 108 = .ok (.iload_n 3, 1) := by decide +kernel
theorem dL_law_109 : decode cL_law 109 = .ok (.iconst 2, 1) := by decide +kernel
theorem dL_law_110 : decode cL_law 110 = .ok (.iadd, 1) := by decide +kernel
theorem dL_law_111 : decode cL_law 111 = .ok (.iaload, 1) := by decide +kernel
theorem dL_law_112 : decode cL_law 112 = .ok (.i2l, 1) := by decide +kernel
theorem dL_law_113 : decode cL_law 113 = .ok (.bipush 32, 2) := by decide +kernel
theorem dL_law_115 : decode cL_law 115 = .ok (.lshl, 1) := by decide +kernel
theorem dL_law_116 : decode cL_law 116 = .ok (.aload_n 0, 1) := by decide +kernel
theorem dL_law_117 : decode cL_law 117 = .ok (.iload_n 3, 1) := by decide +kernel
theorem dL_law_118 : decode cL_law 118 = .ok (.iconst 3, 1) := by decide +kernel
theorem dL_law_119 : decode cL_law 119 = .ok (.iadd, 1) := by decide +kernel
theorem dL_law_120 : decode cL_law 120 = .ok (.iaload, 1) := by decide +kernel
theorem dL_law_121 : decode cL_law 121 = .ok (.i2l, 1) := by decide +kernel
theorem dL_law_122 : decode cL_law 122 = .ok (.ldc2_w 13, 3) := by decide +kernel
theorem dL_law_125 : decode cL_law 125 = .ok (.land, 1) := by decide +kernel
theorem dL_law_126 : decode cL_law 126 = .ok (.lor, 1) := by decide +kernel
theorem dL_law_127 : decode cL_law 127 = .ok (.invokevirtual 19, 3) := by decide +kernel
theorem dL_law_130 : decode cL_law 130 = .ok (.if_icmp .eq 178, 3) := by decide +kernel
theorem dL_law_133 : decode cL_law 133 = .ok (.iconst 0, 1) := by decide +kernel
theorem dL_law_134 : decode cL_law 134 = .ok (.ireturn, 1) := by decide +kernel
theorem dL_law_135 : decode cL_law 135 = .ok (.aload_n 1, 1) := by decide +kernel
theorem dL_law_136 : decode cL_law 136 = .ok (.aload_n 0, 1) := by decide +kernel
theorem dL_law_137 : decode cL_law 137 = .ok (.iload_n 3, 1) := by decide +kernel
theorem dL_law_138 : decode cL_law 138 = .ok (.iconst 1, 1) := by decide +kernel
theorem dL_law_139 : decode cL_law 139 = .ok (.iadd, 1) := by decide +kernel
theorem dL_law_140 : decode cL_law 140 = .ok (.iaload, 1) := by decide +kernel
theorem dL_law_141 : decode cL_law 141 = .ok (.invokevirtual 20, 3) := by decide +kernel
theorem dL_law_144 : decode cL_law 144 = .ok (.aload_n 2, 1) := by decide +kernel
theorem dL_law_145 : decode cL_law 145 = .ok (.aload_n 0, 1) := by decide +kernel
theorem dL_law_146 : decode cL_law 146 = .ok (.iload_n 3, 1) := by decide +kernel
theorem dL_law_147 : decode cL_law 147 = .ok (.iconst 1, 1) := by decide +kernel
theorem dL_law_148 : decode cL_law 148 = .ok (.iadd, 1) := by decide +kernel
theorem dL_law_149 : decode cL_law 149 = .ok (.iaload, 1) := by decide +kernel
theorem dL_law_150 : decode cL_law 150 = .ok (.invokevirtual 24, 3) := by decide +kernel
theorem dL_law_153 : decode cL_law 153 = .ok (.lcmp, 1) := by decide +kernel
theorem dL_law_154 : decode cL_law 154 = .ok (.ifCond .eq 154, 3) := by decide +kernel
theorem dL_law_157 : decode cL_law 157 = .ok (.iconst 0, 1) := by decide +kernel
theorem dL_law_158 : decode cL_law 158 = .ok (.ireturn, 1) := by decide +kernel
theorem dL_law_159 : decode cL_law 159 = .ok (.aload_n 1, 1) := by decide +kernel
theorem dL_law_160 : decode cL_law 160 = .ok (.aload_n 0, 1) := by decide +kernel
theorem dL_law_161 : decode cL_law 161 = .ok (.iload_n 3, 1) := by decide +kernel
theorem dL_law_162 : decode cL_law 162 = .ok (.iconst 1, 1) := by decide +kernel
theorem dL_law_163 : decode cL_law 163 = .ok (.iadd, 1) := by decide +kernel
theorem dL_law_164 : decode cL_law 164 = .ok (.iaload, 1) := by decide +kernel
theorem dL_law_165 : decode cL_law 165 = .ok (.aload_n 0, 1) := by decide +kernel
theorem dL_law_166 : decode cL_law 166 = .ok (.iload_n 3, 1) := by decide +kernel
theorem dL_law_167 : decode cL_law 167 = .ok (.iconst 2, 1) := by decide +kernel
theorem dL_law_168 : decode cL_law 168 = .ok (.iadd, 1) := by decide +kernel
theorem dL_law_169 : decode cL_law 169 = .ok (.iaload, 1) := by decide +kernel
theorem dL_law_170 : decode cL_law 170 = .ok (.aload_n 0, 1) := by decide +kernel
theorem dL_law_171 : decode cL_law 171 = .ok (.iload_n 3, 1) := by decide +kernel
theorem dL_law_172 : decode cL_law 172 = .ok (.iconst 3, 1) := by decide +kernel
theorem dL_law_173 : decode cL_law 173 = .ok (.iadd, 1) := by decide +kernel
theorem dL_law_174 : decode cL_law 174 = .ok (.iaload, 1) := by decide +kernel
theorem dL_law_175 : decode cL_law 175 = .ok (.ifCond .eq 7, 3) := by decide +kernel
theorem dL_law_178 : decode cL_law 178 = .ok (.iconst 1, 1) := by decide +kernel
theorem dL_law_179 : decode cL_law 179 = .ok (.goto 4, 3) := by decide +kernel
theorem dL_law_182 : decode cL_law 182 = .ok (.iconst 0, 1) := by decide +kernel
theorem dL_law_183 : decode cL_law 183 = .ok (.invokevirtual 25, 3) := by decide +kernel
theorem dL_law_186 : decode cL_law 186 = .ok (.aload_n 2, 1) := by decide +kernel
theorem dL_law_187 : decode cL_law 187 = .ok (.aload_n 0, 1) := by decide +kernel
theorem dL_law_188 : decode cL_law 188 = .ok (.iload_n 3, 1) := by decide +kernel
theorem dL_law_189 : decode cL_law 189 = .ok (.iconst 1, 1) := by decide +kernel
theorem dL_law_190 : decode cL_law 190 = .ok (.iadd, 1) := by decide +kernel
theorem dL_law_191 : decode cL_law 191 = .ok (.iaload, 1) := by decide +kernel
theorem dL_law_192 : decode cL_law 192 = .ok (.aload_n 0, 1) := by decide +kernel
theorem dL_law_193 : decode cL_law 193 = .ok (.iload_n 3, 1) := by decide +kernel
theorem dL_law_194 : decode cL_law 194 = .ok (.iconst 2, 1) := by decide +kernel
theorem dL_law_195 : decode cL_law 195 = .ok (.iadd, 1) := by decide +kernel
theorem dL_law_196 : decode cL_law 196 = .ok (.iaload, 1) := by decide +kernel
theorem dL_law_197 : decode cL_law 197 = .ok (.aload_n 0, 1) := by decide +kernel
theorem dL_law_198 : decode cL_law 198 = .ok (.iload_n 3, 1) := by decide +kernel
theorem dL_law_199 : decode cL_law 199 = .ok (.iconst 3, 1) := by decide +kernel
theorem dL_law_200 : decode cL_law 200 = .ok (.iadd, 1) := by decide +kernel
theorem dL_law_201 : decode cL_law 201 = .ok (.iaload, 1) := by decide +kernel
theorem dL_law_202 : decode cL_law 202 = .ok (.ifCond .eq 7, 3) := by decide +kernel
theorem dL_law_205 : decode cL_law 205 = .ok (.iconst 1, 1) := by decide +kernel
theorem dL_law_206 : decode cL_law 206 = .ok (.goto 4, 3) := by decide +kernel
theorem dL_law_209 : decode cL_law 209 = .ok (.iconst 0, 1) := by decide +kernel
theorem dL_law_210 : decode cL_law 210 = .ok (.invokevirtual 29, 3) := by decide +kernel
theorem dL_law_213 : decode cL_law 213 = .ok (.if_icmp .eq 95, 3) := by decide +kernel
theorem dL_law_216 : decode cL_law 216 = .ok (.iconst 0, 1) := by decide +kernel
theorem dL_law_217 : decode cL_law 217 = .ok (.ireturn, 1) := by decide +kernel
theorem dL_law_218 : decode cL_law 218 = .ok (.aload_n 1, 1) := by decide +kernel
theorem dL_law_219 : decode cL_law 219 = .ok (.aload_n 0, 1) := by decide +kernel
theorem dL_law_220 : decode cL_law 220 = .ok (.iload_n 3, 1) := by decide +kernel
theorem dL_law_221 : decode cL_law 221 = .ok (.iconst 1, 1) := by decide +kernel
theorem dL_law_222 : decode cL_law 222 = .ok (.iadd, 1) := by decide +kernel
theorem dL_law_223 : decode cL_law 223 = .ok (.iaload, 1) := by decide +kernel
theorem dL_law_224 : decode cL_law 224 = .ok (.invokevirtual 30, 3) := by decide +kernel
theorem dL_law_227 : decode cL_law 227 = .ok (.aload_n 2, 1) := by decide +kernel
theorem dL_law_228 : decode cL_law 228 = .ok (.aload_n 0, 1) := by decide +kernel
theorem dL_law_229 : decode cL_law 229 = .ok (.iload_n 3, 1) := by decide +kernel
theorem dL_law_230 : decode cL_law 230 = .ok (.iconst 1, 1) := by decide +kernel
theorem dL_law_231 : decode cL_law 231 = .ok (.iadd, 1) := by decide +kernel
theorem dL_law_232 : decode cL_law 232 = .ok (.iaload, 1) := by decide +kernel
theorem dL_law_233 : decode cL_law 233 = .ok (.invokevirtual 34, 3) := by decide +kernel
theorem dL_law_236 : decode cL_law 236 = .ok (.if_icmp .eq 72, 3) := by decide +kernel
theorem dL_law_239 : decode cL_law 239 = .ok (.iconst 0, 1) := by decide +kernel
theorem dL_law_240 : decode cL_law 240 = .ok (.ireturn, 1) := by decide +kernel
theorem dL_law_241 : decode cL_law 241 = .ok (.aload_n 1, 1) := by decide +kernel
theorem dL_law_242 : decode cL_law 242 = .ok (.aload_n 0, 1) := by decide +kernel
theorem dL_law_243 : decode cL_law 243 = .ok (.iload_n 3, 1) := by decide +kernel
theorem dL_law_244 : decode cL_law 244 = .ok (.iconst 1, 1) := by decide +kernel
theorem dL_law_245 : decode cL_law 245 = .ok (.iadd, 1) := by decide +kernel
theorem dL_law_246 : decode cL_law 246 = .ok (.iaload, 1) := by decide +kernel
theorem dL_law_247 : decode cL_law 247 = .ok (.aload_n 0, 1) := by decide +kernel
theorem dL_law_248 : decode cL_law 248 = .ok (.iload_n 3, 1) := by decide +kernel
theorem dL_law_249 : decode cL_law 249 = .ok (.iconst 2, 1) := by decide +kernel
theorem dL_law_250 : decode cL_law 250 = .ok (.iadd, 1) := by decide +kernel
theorem dL_law_251 : decode cL_law 251 = .ok (.iaload, 1) := by decide +kernel
theorem dL_law_252 : decode cL_law 252 = .ok (.invokevirtual 35, 3) := by decide +kernel
theorem dL_law_255 : decode cL_law 255 = .ok (.aload_n 2, 1) := by decide +kernel
theorem dL_law_256 : decode cL_law 256 = .ok (.aload_n 0, 1) := by decide +kernel
theorem dL_law_257 : decode cL_law 257 = .ok (.iload_n 3, 1) := by decide +kernel
theorem dL_law_258 : decode cL_law 258 = .ok (.iconst 1, 1) := by decide +kernel
theorem dL_law_259 : decode cL_law 259 = .ok (.iadd, 1) := by decide +kernel
theorem dL_law_260 : decode cL_law 260 = .ok (.iaload, 1) := by decide +kernel
theorem dL_law_261 : decode cL_law 261 = .ok (.aload_n 0, 1) := by decide +kernel
theorem dL_law_262 : decode cL_law 262 = .ok (.iload_n 3, 1) := by decide +kernel
theorem dL_law_263 : decode cL_law 263 = .ok (.iconst 2, 1) := by decide +kernel
theorem dL_law_264 : decode cL_law 264 = .ok (.iadd, 1) := by decide +kernel
theorem dL_law_265 : decode cL_law 265 = .ok (.iaload, 1) := by decide +kernel
theorem dL_law_266 : decode cL_law 266 = .ok (.invokevirtual 39, 3) := by decide +kernel
theorem dL_law_269 : decode cL_law 269 = .ok (.if_icmp .eq 39, 3) := by decide +kernel
theorem dL_law_272 : decode cL_law 272 = .ok (.iconst 0, 1) := by decide +kernel
theorem dL_law_273 : decode cL_law 273 = .ok (.ireturn, 1) := by decide +kernel
theorem dL_law_274 : decode cL_law 274 = .ok (.aload_n 1, 1) := by decide +kernel
theorem dL_law_275 : decode cL_law 275 = .ok (.aload_n 0, 1) := by decide +kernel
theorem dL_law_276 : decode cL_law 276 = .ok (.iload_n 3, 1) := by decide +kernel
theorem dL_law_277 : decode cL_law 277 = .ok (.iconst 1, 1) := by decide +kernel
theorem dL_law_278 : decode cL_law 278 = .ok (.iadd, 1) := by decide +kernel
theorem dL_law_279 : decode cL_law 279 = .ok (.iaload, 1) := by decide +kernel
theorem dL_law_280 : decode cL_law 280 = .ok (.aload_n 0, 1) := by decide +kernel
theorem dL_law_281 : decode cL_law 281 = .ok (.iload_n 3, 1) := by decide +kernel
theorem dL_law_282 : decode cL_law 282 = .ok (.iconst 2, 1) := by decide +kernel
theorem dL_law_283 : decode cL_law 283 = .ok (.iadd, 1) := by decide +kernel
theorem dL_law_284 : decode cL_law 284 = .ok (.iaload, 1) := by decide +kernel
theorem dL_law_285 : decode cL_law 285 = .ok (.invokevirtual 40, 3) := by decide +kernel
theorem dL_law_288 : decode cL_law 288 = .ok (.aload_n 2, 1) := by decide +kernel
theorem dL_law_289 : decode cL_law 289 = .ok (.aload_n 0, 1) := by decide +kernel
theorem dL_law_290 : decode cL_law 290 = .ok (.iload_n 3, 1) := by decide +kernel
theorem dL_law_291 : decode cL_law 291 = .ok (.iconst 1, 1) := by decide +kernel
theorem dL_law_292 : decode cL_law 292 = .ok (.iadd, 1) := by decide +kernel
theorem dL_law_293 : decode cL_law 293 = .ok (.iaload, 1) := by decide +kernel
theorem dL_law_294 : decode cL_law 294 = .ok (.aload_n 0, 1) := by decide +kernel
theorem dL_law_295 : decode cL_law 295 = .ok (.iload_n 3, 1) := by decide +kernel
theorem dL_law_296 : decode cL_law 296 = .ok (.iconst 2, 1) := by decide +kernel
theorem dL_law_297 : decode cL_law 297 = .ok (.iadd, 1) := by decide +kernel
theorem dL_law_298 : decode cL_law 298 = .ok (.iaload, 1) := by decide +kernel
theorem dL_law_299 : decode cL_law 299 = .ok (.invokevirtual 44, 3) := by decide +kernel
theorem dL_law_302 : decode cL_law 302 = .ok (.lcmp, 1) := by decide +kernel
theorem dL_law_303 : decode cL_law 303 = .ok (.ifCond .eq 5, 3) := by decide +kernel
theorem dL_law_306 : decode cL_law 306 = .ok (.iconst 0, 1) := by decide +kernel
theorem dL_law_307 : decode cL_law 307 = .ok (.ireturn, 1) := by decide +kernel
theorem dL_law_308 : decode cL_law 308 = .ok (.iinc 3 4, 3) := by decide +kernel
theorem dL_law_311 : decode cL_law 311 = .ok (.goto (-293), 3) := by decide +kernel
theorem dL_law_314 : decode cL_law 314 = .ok (.iconst 1, 1) := by decide +kernel
theorem dL_law_315 : decode cL_law 315 = .ok (.ireturn, 1) := by decide +kernel
abbrev vwCl : List vw_C := [(RX0, TX0, 2), (RX1, TX1, 4)]
end
section
/-! pure mathematics: congruence, sums, binomials, Fermat, an h without a root, bits in reverse, the transform by halves -/
def zc (P : Nat) (a b : Int) : Prop := (P : Int) ∣ a - b
theorem zc_rf {P : Nat} (a : Int) : zc P a a := ⟨0, by grind⟩
theorem zc_sy {P : Nat} {a b : Int} (h : zc P a b) : zc P b a := by
  obtain ⟨k, hk⟩ := h
  exact ⟨-k, by grind⟩
theorem zc_tr {P : Nat} {a b c : Int} (h1 : zc P a b) (h2 : zc P b c) : zc P a c := by
  obtain ⟨k, hk⟩ := h1
  obtain ⟨j, hj⟩ := h2
  exact ⟨k + j, by grind⟩
theorem zc_add {P : Nat} {a b c d : Int} (h1 : zc P a b) (h2 : zc P c d) : zc P (a + c) (b + d) := by
  obtain ⟨k, hk⟩ := h1
  obtain ⟨j, hj⟩ := h2
  exact ⟨k + j, by grind⟩
theorem zc_sub {P : Nat} {a b c d : Int} (h1 : zc P a b) (h2 : zc P c d) : zc P (a - c) (b - d) := by
  obtain ⟨k, hk⟩ := h1
  obtain ⟨j, hj⟩ := h2
  exact ⟨k - j, by grind⟩
theorem zc_mul {P : Nat} {a b c d : Int} (h1 : zc P a b) (h2 : zc P c d) : zc P (a * c) (b * d) := by
  obtain ⟨k, hk⟩ := h1
  obtain ⟨j, hj⟩ := h2
  refine ⟨k * c + b * j, ?_⟩
  have e1 : a * c - b * d = (a - b) * c + b * (c - d) := by grind
  rw [e1, hk, hj]
  grind
theorem zc_pow {P : Nat} {a b : Int} (h : zc P a b) (n : Nat) : zc P (a ^ n) (b ^ n) := by
  induction n with
  | zero => rw [Int.pow_zero, Int.pow_zero]; exact zc_rf 1
  | succ n ih => rw [Int.pow_succ, Int.pow_succ]; exact zc_mul ih h
theorem zc_mod (P a : Nat) : zc P ((a % P : Nat) : Int) (a : Int) := by
  refine ⟨-((a / P : Nat) : Int), ?_⟩
  have h : P * (a / P) + a % P = a := Nat.div_add_mod a P
  have h2 : (P : Int) * ((a / P : Nat) : Int) + ((a % P : Nat) : Int) = (a : Int) := by exact_mod_cast h
  grind
theorem zc_modeq {P a b : Nat} (h : zc P (a : Int) (b : Int)) : a % P = b % P := by
  have h2 : ((a : Int) - b) % (P : Int) = 0 := Int.emod_eq_zero_of_dvd h
  have h3 := Int.emod_eq_emod_iff_emod_sub_eq_zero.mpr h2
  exact_mod_cast h3
theorem zc_eq {P a b : Nat} (ha : a < P) (hb : b < P) (h : zc P (a : Int) (b : Int)) : a = b := by
  have := zc_modeq h
  rwa [Nat.mod_eq_of_lt ha, Nat.mod_eq_of_lt hb] at this
theorem zc_of_modeq {P a b : Nat} (h : a % P = b % P) : zc P (a : Int) (b : Int) := by
  refine zc_tr (zc_sy (zc_mod P a)) ?_
  rw [h]
  exact zc_mod P b
theorem zc_p1 {P : Nat} (h : 1 ≤ P) : zc P ((P - 1 : Nat) : Int) (-1) := ⟨1, by omega⟩
def zs (f : Nat → Int) : Nat → Int
  | 0 => 0
  | n + 1 => zs f n + f n
theorem zs_congr {f g : Nat → Int} {n : Nat} (h : ∀ i, i < n → f i = g i) : zs f n = zs g n := by
  induction n with
  | zero => rfl
  | succ n ih =>
    show zs f n + f n = zs g n + g n
    rw [ih (fun i hi => h i (by omega)), h n (by omega)]
theorem zs_cg {P : Nat} {f g : Nat → Int} {n : Nat} (h : ∀ i, i < n → zc P (f i) (g i)) : zc P (zs f n) (zs g n) := by
  induction n with
  | zero => exact zc_rf 0
  | succ n ih => exact zc_add (ih (fun i hi => h i (by omega))) (h n (by omega))
theorem zs_add (f g : Nat → Int) (n : Nat) : zs (fun i => f i + g i) n = zs f n + zs g n := by
  induction n with
  | zero => rfl
  | succ n ih =>
    show zs _ n + (f n + g n) = zs f n + f n + (zs g n + g n)
    rw [ih]; grind
theorem zs_mul (c : Int) (f : Nat → Int) (n : Nat) : zs (fun i => c * f i) n = c * zs f n := by
  induction n with
  | zero => exact (Int.mul_zero c).symm
  | succ n ih =>
    show zs _ n + c * f n = c * (zs f n + f n)
    rw [ih]; grind
theorem zs_shift (f : Nat → Int) (n : Nat) : zs f (n + 1) = f 0 + zs (fun i => f (i + 1)) n := by
  induction n with
  | zero => show (0 : Int) + f 0 = f 0 + 0; omega
  | succ n ih =>
    show zs f (n + 1) + f (n + 1) = f 0 + (zs (fun i => f (i + 1)) n + f (n + 1))
    rw [ih]; omega
theorem zs_eo (f : Nat → Int) (n : Nat) : zs f (2 * n) = zs (fun i => f (2 * i)) n + zs (fun i => f (2 * i + 1)) n := by
  induction n with
  | zero => rfl
  | succ n ih =>
    show zs f (2 * n) + f (2 * n) + f (2 * n + 1) = (zs _ n + f (2 * n)) + (zs _ n + f (2 * n + 1))
    rw [ih]; omega
def zb : Nat → Nat → Nat
  | _, 0 => 1
  | 0, _ + 1 => 0
  | n + 1, k + 1 => zb n k + zb n (k + 1)
theorem zb_0 (n : Nat) : zb n 0 = 1 := by cases n <;> rfl
theorem zb_gt : ∀ (n k : Nat), n < k → zb n k = 0 := by
  intro n
  induction n with
  | zero => intro k h; cases k with
    | zero => omega
    | succ k => rfl
  | succ n ih => intro k h; cases k with
    | zero => omega
    | succ k =>
      show zb n k + zb n (k + 1) = 0
      rw [ih k (by omega), ih (k + 1) (by omega)]
theorem zb_self (n : Nat) : zb n n = 1 := by
  induction n with
  | zero => rfl
  | succ n ih =>
    show zb n n + zb n (n + 1) = 1
    rw [ih, zb_gt n (n + 1) (by omega)]
theorem zb_id : ∀ (n k : Nat), (k + 1) * zb (n + 1) (k + 1) = (n + 1) * zb n k := by
  intro n
  induction n with
  | zero =>
    intro k
    cases k with
    | zero => rfl
    | succ k =>
      have h1 : zb (0 + 1) (k + 1 + 1) = 0 := zb_gt _ _ (by omega)
      have h2 : zb 0 (k + 1) = 0 := rfl
      rw [h1, h2]; simp
  | succ n ih =>
    intro k
    have e : zb (n + 1 + 1) (k + 1) = zb (n + 1) k + zb (n + 1) (k + 1) := rfl
    rw [e]
    cases k with
    | zero =>
      have h1 := ih 0
      rw [zb_0] at h1
      rw [zb_0]
      grind
    | succ k =>
      have h1 := ih k
      have h2 := ih (k + 1)
      have e2 : zb (n + 1) (k + 1) = zb n k + zb n (k + 1) := rfl
      grind
theorem z_binom (x : Int) : ∀ n : Nat, (x + 1) ^ n = zs (fun k => (zb n k : Int) * x ^ k) (n + 1) := by
  intro n
  induction n with
  | zero => rw [Int.pow_zero]; show (1 : Int) = 0 + ((zb 0 0 : Nat) : Int) * x ^ 0; rw [Int.pow_zero, zb_0]; rfl
  | succ n ih =>
    have h1 : zs (fun k => (zb (n + 1) k : Int) * x ^ k) (n + 1 + 1) = 1 + zs (fun k => ((zb n k : Int) * x ^ (k + 1)) + ((zb n (k + 1) : Int) * x ^ (k + 1))) (n + 1) := by
      rw [zs_shift]
      have e0 : ((zb (n + 1) 0 : Nat) : Int) * x ^ 0 = 1 := by rw [zb_0]; simp
      rw [e0]
      refine congrArg (fun y => 1 + y) (zs_congr fun i _ => ?_)
      have e : zb (n + 1) (i + 1) = zb n i + zb n (i + 1) := rfl
      rw [e]
      have e3 : ((zb n i + zb n (i + 1) : Nat) : Int) = (zb n i : Int) + (zb n (i + 1) : Int) := Int.natCast_add _ _
      rw [e3]; grind
    have h2 : zs (fun k => (zb n k : Int) * x ^ k) (n + 1 + 1) = 1 + zs (fun k => (zb n (k + 1) : Int) * x ^ (k + 1)) (n + 1) := by
      rw [zs_shift]
      have e0 : ((zb n 0 : Nat) : Int) * x ^ 0 = 1 := by rw [zb_0]; simp
      rw [e0]
    have h3 : zs (fun k => (zb n k : Int) * x ^ k) (n + 1 + 1) = zs (fun k => (zb n k : Int) * x ^ k) (n + 1) := by
      show zs _ (n + 1) + ((zb n (n + 1) : Nat) : Int) * x ^ (n + 1) = _
      rw [zb_gt n (n + 1) (by omega)]; simp
    have h4 : zs (fun k => (zb n k : Int) * x ^ (k + 1)) (n + 1) = x * zs (fun k => (zb n k : Int) * x ^ k) (n + 1) := by
      rw [← zs_mul]
      refine zs_congr fun i _ => ?_
      rw [Int.pow_succ]; grind
    rw [h1, zs_add, h4, Int.pow_succ, ih]
    rw [h3] at h2
    grind
def zpr (P : Nat) : Prop := 2 ≤ P ∧ ∀ d, d ∣ P → d = 1 ∨ d = P
theorem z_euclid {P : Nat} (hp : zpr P) {a b : Int} (h : (P : Int) ∣ a * b) : (P : Int) ∣ a ∨ (P : Int) ∣ b := by
  have h1 : P ∣ a.natAbs * b.natAbs := by
    rw [← Int.natAbs_mul]
    exact Int.ofNat_dvd_left.mp h
  by_cases ha : P ∣ a.natAbs
  · exact Or.inl (Int.ofNat_dvd_left.mpr ha)
  · right
    refine Int.ofNat_dvd_left.mpr ?_
    have hc : Nat.Coprime P a.natAbs := by
      rcases hp.2 (Nat.gcd P a.natAbs) (Nat.gcd_dvd_left _ _) with q | q
      · exact q
      · exact absurd (q ▸ Nat.gcd_dvd_right P a.natAbs) ha
    exact hc.dvd_of_dvd_mul_left h1
theorem z_nd {P : Nat} {y : Int} (h0 : y ≠ 0) (h1 : -(P : Int) < y) (h2 : y < (P : Int)) : ¬ (P : Int) ∣ y := by
  intro h
  have h3 := Int.ofNat_dvd_left.mp h
  have h4 : y.natAbs < P := by omega
  have h5 : 0 < y.natAbs := by omega
  exact absurd (Nat.le_of_dvd h5 h3) (by omega)
theorem z_fermat {P : Nat} (hp : zpr P) : ∀ a : Nat, zc P ((a : Int) ^ P) (a : Int) := by
  intro a
  obtain ⟨m, rfl⟩ : ∃ m, P = m + 1 := ⟨P - 1, by have := hp.1; omega⟩
  induction a with
  | zero => rw [Int.pow_succ]; simp; exact zc_rf 0
  | succ a ih =>
    have e : ((a + 1 : Nat) : Int) = (a : Int) + 1 := Int.natCast_add _ _
    rw [e, z_binom]
    have e2 : zs (fun k => (zb (m + 1) k : Int) * (a : Int) ^ k) (m + 1 + 1) = zs (fun k => (zb (m + 1) k : Int) * (a : Int) ^ k) (m + 1) + ((zb (m + 1) (m + 1) : Nat) : Int) * (a : Int) ^ (m + 1) := rfl
    rw [e2, zb_self, zs_shift, zb_0]
    have h0 : zc (m + 1) (zs (fun i => ((zb (m + 1) (i + 1) : Nat) : Int) * (a : Int) ^ (i + 1)) m) (zs (fun _ => 0) m) := by
      refine zs_cg fun i hi => ?_
      have hd : ((m + 1 : Nat) : Int) ∣ ((zb (m + 1) (i + 1) : Nat) : Int) := by
        have h1 : ((m + 1 : Nat) : Int) ∣ ((i + 1 : Nat) : Int) * ((zb (m + 1) (i + 1) : Nat) : Int) := by
          rw [← Int.natCast_mul, zb_id, Int.natCast_mul]
          exact ⟨_, rfl⟩
        rcases z_euclid hp h1 with q | q
        · exact absurd q (z_nd (by omega) (by omega) (by omega))
        · exact q
      obtain ⟨k, hk⟩ := hd
      exact ⟨k * (a : Int) ^ (i + 1), by rw [hk]; grind⟩
    have h1 : zs (fun _ => (0 : Int)) m = 0 := by
      have := zs_mul 0 (fun _ => 0) m
      simpa using this
    rw [h1] at h0
    have h2 := zc_add (zc_add (zc_rf (P := m + 1) (((1 : Nat) : Int) * (a : Int) ^ 0)) h0) (zc_mul (zc_rf (P := m + 1) ((1 : Nat) : Int)) ih)
    refine zc_tr h2 ?_
    refine ⟨0, ?_⟩
    simp
    omega
def zq : Nat → (Int → Int) → Prop
  | 0, f => ∀ x, f x = 1
  | d + 1, f => ∀ a, ∃ g, zq d g ∧ ∀ x, f x - f a = (x - a) * g x
theorem zq_lin : ∀ (d : Nat) (f g : Int → Int) (c : Int), zq (d + 1) f → zq d g → zq (d + 1) (fun x => f x + c * g x) := by
  intro d
  induction d with
  | zero =>
    intro f g c hf hg a
    obtain ⟨f1, h1, h2⟩ := hf a
    refine ⟨f1, h1, fun x => ?_⟩
    have e1 : g x = 1 := hg x
    have e2 : g a = 1 := hg a
    have e3 := h2 x
    show f x + c * g x - (f a + c * g a) = (x - a) * f1 x
    rw [e1, e2, ← e3]; grind
  | succ d ih =>
    intro f g c hf hg a
    obtain ⟨f1, h1, h2⟩ := hf a
    obtain ⟨g1, k1, k2⟩ := hg a
    refine ⟨fun x => f1 x + c * g1 x, ih f1 g1 c h1 k1, fun x => ?_⟩
    have e3 := h2 x
    have e4 := k2 x
    show f x + c * g x - (f a + c * g a) = (x - a) * (f1 x + c * g1 x)
    grind
theorem zq_mulx : ∀ (d : Nat) (f : Int → Int), zq d f → zq (d + 1) (fun x => f x * x) := by
  intro d
  cases d with
  | zero =>
    intro f hf a
    refine ⟨f, hf, fun x => ?_⟩
    have e1 : f x = 1 := hf x
    have e2 : f a = 1 := hf a
    show f x * x - f a * a = (x - a) * f x
    rw [e1, e2]; grind
  | succ d =>
    intro f hf a
    obtain ⟨g, h1, h2⟩ := hf a
    refine ⟨fun x => f x + a * g x, zq_lin d f g a hf h1, fun x => ?_⟩
    have e3 := h2 x
    show f x * x - f a * a = (x - a) * (f x + a * g x)
    grind
theorem zq_pow : ∀ m : Nat, zq m (fun x => x ^ m) := by
  intro m
  induction m with
  | zero => intro x; exact Int.pow_zero x
  | succ m ih =>
    have h := zq_mulx m _ ih
    have e : (fun x : Int => x ^ (m + 1)) = (fun x => x ^ m * x) := funext fun x => Int.pow_succ x m
    rw [e]; exact h
theorem zq_sh {d : Nat} {f : Int → Int} (c : Int) (h : zq (d + 1) f) : zq (d + 1) (fun x => f x - c) := by
  intro a
  obtain ⟨g, h1, h2⟩ := h a
  refine ⟨g, h1, fun x => ?_⟩
  have := h2 x
  show f x - c - (f a - c) = _
  rw [← this]; omega
theorem zq_root {P : Nat} (hp : zpr P) : ∀ (d : Nat) (f : Int → Int), zq d f → d < P → ∀ lo : Int, (∀ i : Nat, i ≤ d → (P : Int) ∣ f (lo + i)) → False := by
  intro d
  induction d with
  | zero =>
    intro f hf hd lo h
    have h1 := h 0 (by omega)
    rw [show f (lo + ((0 : Nat) : Int)) = 1 from hf _] at h1
    exact z_nd (by decide) (by have := hp.1; omega) (by have := hp.1; omega) h1
  | succ d ih =>
    intro f hf hd lo h
    obtain ⟨g, h1, h2⟩ := hf (lo + ((d + 1 : Nat) : Int))
    refine ih g h1 (by omega) lo fun i hi => ?_
    have e := h2 (lo + i)
    have h3 : (P : Int) ∣ (lo + (i : Int) - (lo + ((d + 1 : Nat) : Int))) * g (lo + i) := by
      rw [← e]
      exact Int.dvd_sub (h i (by omega)) (h (d + 1) (by omega))
    rcases z_euclid hp h3 with q | q
    · exact absurd q (z_nd (by omega) (by omega) (by omega))
    · exact q
theorem z_nonres {P : Nat} (hp : zpr P) (h3 : 3 ≤ P) {m : Nat} (hm : 2 * m + 1 = P) : ∃ h : Nat, 2 ≤ h ∧ h < P ∧ zc P ((h : Int) ^ m) (-1) := by
  refine Classical.byContradiction fun hno => ?_
  have key : ∀ h : Nat, 1 ≤ h → h < P → (P : Int) ∣ (h : Int) ^ m - 1 := by
    intro h h1 h2
    by_cases e : h = 1
    · subst e; rw [show ((1 : Nat) : Int) = 1 from rfl, Int.one_pow]; exact ⟨0, by omega⟩
    have hf := z_fermat hp h
    have e1 : (h : Int) ^ P - h = (h : Int) * (((h : Int) ^ m - 1) * ((h : Int) ^ m + 1)) := by
      rw [← hm, Int.pow_succ, Nat.mul_comm 2 m, Int.pow_mul]
      grind
    have hf2 : (P : Int) ∣ (h : Int) ^ P - h := hf
    rw [e1] at hf2
    rcases z_euclid hp hf2 with q | q
    · exact absurd q (z_nd (by omega) (by omega) (by omega))
    · rcases z_euclid hp q with r | r
      · exact r
      · exact absurd ⟨h, by omega, h2, by show (P : Int) ∣ (h : Int) ^ m - (-1); rw [Int.sub_neg]; exact r⟩ hno
  obtain ⟨m', rfl⟩ : ∃ k, m = k + 1 := ⟨m - 1, by omega⟩
  refine zq_root hp (m' + 1) (fun x => x ^ (m' + 1) - 1) (zq_sh 1 (zq_pow (m' + 1))) (by omega) 1 fun i hi => ?_
  have := key (i + 1) (by omega) (by omega)
  have e : ((i + 1 : Nat) : Int) = 1 + (i : Int) := by omega
  rw [e] at this
  exact this

/-- a number without a divisor up to its root is prime -/
def ztd (P : Nat) : Prop := ∀ d, 2 ≤ d → d * d ≤ P → ¬ d ∣ P
theorem ztd_pr {P : Nat} (h2 : 2 ≤ P) (h : ztd P) : zpr P := by
  refine ⟨h2, fun d hd => ?_⟩
  obtain ⟨e, he⟩ := hd
  by_cases d1 : d = 1
  · exact Or.inl d1
  by_cases dp : d = P
  · exact Or.inr dp
  exfalso
  have d0 : d ≠ 0 := by intro q; subst q; simp at he; omega
  have e0 : e ≠ 0 := by intro q; subst q; simp at he; omega
  have e1 : e ≠ 1 := by intro q; subst q; simp at he; omega
  by_cases hc : d * d ≤ P
  · exact h d (by omega) hc ⟨e, he⟩
  · have hlt : e < d := by
      rcases Nat.lt_or_ge e d with q | q
      · exact q
      · exact absurd (by rw [he]; exact Nat.mul_le_mul_left d q) hc
    refine h e (by omega) ?_ ⟨d, by rw [he, Nat.mul_comm]⟩
    rw [he]
    exact Nat.mul_le_mul_right e (Nat.le_of_lt hlt)
def zhit (N P h : Nat) : Prop := (h ^ ((P - 1) / N) % P) ^ (N / 2) % P = P - 1
def zW (N P w : Nat) : Prop := (N = 1 ∧ w = 1) ∨ (2 ≤ N ∧ ∃ h, 2 ≤ h ∧ h < P ∧ zhit N P h ∧ (∀ j, 2 ≤ j → j < h → ¬ zhit N P j) ∧ w = h ^ ((P - 1) / N) % P)
theorem zW_lt {N P w : Nat} (hP : 3 ≤ P) (h : zW N P w) : w < P := by
  rcases h with ⟨-, rfl⟩ | ⟨-, h, -, -, -, -, rfl⟩
  · omega
  · exact Nat.mod_lt _ (by omega)
theorem zW_half {N P w : Nat} (hN : 2 ≤ N) (h : zW N P w) : w ^ (N / 2) % P = P - 1 := by
  rcases h with ⟨h1, -⟩ | ⟨-, h, -, -, hh, -, rfl⟩
  · omega
  · exact hh
theorem zW_ex {N' P : Nat} (hp : zpr P) (h3 : 3 ≤ P) (hd : 2 * N' ∣ P - 1) (hN : 1 ≤ N') : ∃ w, zW (2 * N') P w := by
  obtain ⟨q, hq⟩ := hd
  have hm : 2 * (N' * q) + 1 = P := by rw [← Nat.mul_assoc]; omega
  obtain ⟨h, a1, a2, a3⟩ := z_nonres hp h3 hm
  have hh : zhit (2 * N') P h := by
    unfold zhit
    have e1 : (P - 1) / (2 * N') = q := by rw [hq]; exact Nat.mul_div_cancel_left q (by omega)
    have e2 : 2 * N' / 2 = N' := Nat.mul_div_cancel_left N' (by omega)
    rw [e1, e2]
    have e3 : zc P (((h ^ q % P) ^ N' : Nat) : Int) ((P - 1 : Nat) : Int) := by
      refine zc_tr ?_ (zc_sy (zc_p1 (by omega)))
      refine zc_tr ?_ a3
      rw [Nat.mul_comm N' q, Int.pow_mul, Int.natCast_pow]
      refine zc_pow ?_ N'
      refine zc_tr (zc_mod P (h ^ q)) ?_
      rw [Int.natCast_pow]
      exact zc_rf _
    rw [zc_modeq e3]
    exact Nat.mod_eq_of_lt (by omega)
  obtain ⟨k, ⟨k1, k2⟩, k3⟩ := pk_least (fun h => 2 ≤ h ∧ zhit (2 * N') P h) ⟨h, a1, hh⟩
  have hkh : k ≤ h := by
    rcases Nat.lt_or_ge h k with c | c
    · exact absurd ⟨a1, hh⟩ (k3 h c)
    · exact c
  exact ⟨_, Or.inr ⟨by omega, k, k1, by omega, k2, fun j j1 j2 j3 => k3 j j2 ⟨j1, j3⟩, rfl⟩⟩
theorem zW_un {N P w v : Nat} (h : zW N P w) (g : zW N P v) : w = v := by
  rcases h with ⟨a, rfl⟩ | ⟨a, h, a1, a2, a3, a4, rfl⟩
  · rcases g with ⟨-, rfl⟩ | ⟨b, -⟩
    · rfl
    · omega
  · rcases g with ⟨b, -⟩ | ⟨b, k, b1, b2, b3, b4, rfl⟩
    · omega
    · have : h = k := by
        rcases Nat.lt_trichotomy h k with c | c | c
        · exact absurd a3 (b4 h a1 c)
        · exact c
        · exact absurd b3 (a4 k b1 c)
      rw [this]
end
section
/-! bits in reverse, and the transform by halves -/
def zr : Nat → Nat → Nat
  | 0, _ => 0
  | s + 1, k => 2 * zr s k + k / 2 ^ s % 2
theorem zr_low (b c : Nat) (hc : c < 2) : ∀ m : Nat, zr (m + 1) (2 * b + c) = c * 2 ^ m + zr m b := by
  intro m
  induction m with
  | zero =>
    show 2 * 0 + (2 * b + c) / 2 ^ 0 % 2 = c * 2 ^ 0 + 0
    rw [Nat.pow_zero, Nat.div_one]; omega
  | succ m ih =>
    show 2 * zr (m + 1) (2 * b + c) + (2 * b + c) / 2 ^ (m + 1) % 2 = c * 2 ^ (m + 1) + (2 * zr m b + b / 2 ^ m % 2)
    have e : (2 * b + c) / 2 ^ (m + 1) = b / 2 ^ m := by
      rw [Nat.pow_succ', ← Nat.div_div_eq_div_mul]
      congr 1; omega
    rw [ih, e, Nat.pow_succ]; grind
theorem zr_hi (c : Nat) : ∀ (m k : Nat), zr m (k + c * 2 ^ m) = zr m k := by
  intro m
  induction m generalizing c with
  | zero => intro k; rfl
  | succ m ih =>
    intro k
    show 2 * zr m (k + c * 2 ^ (m + 1)) + (k + c * 2 ^ (m + 1)) / 2 ^ m % 2 = 2 * zr m k + k / 2 ^ m % 2
    have e : c * 2 ^ (m + 1) = (2 * c) * 2 ^ m := by rw [Nat.pow_succ]; grind
    rw [e, ih (2 * c) k, Nat.add_mul_div_right _ _ (Nat.two_pow_pos m)]
    omega
theorem zr_lt : ∀ m k : Nat, zr m k < 2 ^ m := by
  intro m k
  induction m with
  | zero => exact Nat.one_pos
  | succ m ih =>
    show 2 * zr m k + k / 2 ^ m % 2 < 2 ^ (m + 1)
    rw [Nat.pow_succ]; omega
theorem zr_inv : ∀ m k : Nat, k < 2 ^ m → zr m (zr m k) = k := by
  intro m
  induction m with
  | zero => intro k h; rw [Nat.pow_zero] at h; show 0 = k; omega
  | succ m ih =>
    intro k h
    have e : k = 2 * (k / 2) + k % 2 := by omega
    have e1 : zr (m + 1) k = k % 2 * 2 ^ m + zr m (k / 2) := by
      have := zr_low (k / 2) (k % 2) (by omega) m
      rwa [← e] at this
    have hk : k / 2 < 2 ^ m := by rw [Nat.pow_succ] at h; omega
    rw [e1]
    show 2 * zr m (k % 2 * 2 ^ m + zr m (k / 2)) + (k % 2 * 2 ^ m + zr m (k / 2)) / 2 ^ m % 2 = k
    rw [Nat.add_comm (k % 2 * 2 ^ m), zr_hi, ih _ hk, Nat.add_mul_div_right _ _ (Nat.two_pow_pos m), Nat.div_eq_of_lt (zr_lt m _)]
    omega
def zu (G : Nat → Nat) (i v : Nat) : Nat → Nat := fun t => if t = i then v else G t
theorem zu_s {G : Nat → Nat} {i v : Nat} : zu G i v i = v := by simp [zu]
theorem zu_n {G : Nat → Nat} {i v t : Nat} (h : t ≠ i) : zu G i v t = G t := by simp [zu, h]
/-- reorder: the state at k = i -/
def zo (L : Nat) (G : Nat → Nat) : Nat → (Nat → Nat)
  | 0 => G
  | i + 1 => if i < zr L i then zu (zu (zo L G i) i (zo L G i (zr L i))) (zr L i) (zo L G i i) else zo L G i
theorem zo_at {L : Nat} {G : Nat → Nat} : ∀ i : Nat, i ≤ 2 ^ L → ∀ j, j < 2 ^ L → zo L G i j = if j < i ∨ zr L j < i then G (zr L j) else G j := by
  intro i
  induction i with
  | zero => intro _ j hj; rw [if_neg (by omega)]; rfl
  | succ i ih =>
    intro hi j hj
    have ih := ih (by omega)
    have hm : zr L i < 2 ^ L := zr_lt L i
    have hinv : zr L (zr L i) = i := zr_inv L i (by omega)
    have hjj : zr L (zr L j) = j := zr_inv L j hj
    show (if i < zr L i then zu (zu (zo L G i) i (zo L G i (zr L i))) (zr L i) (zo L G i i) else zo L G i) j = _
    by_cases c : i < zr L i
    · rw [if_pos c]
      by_cases j1 : j = zr L i
      · subst j1
        rw [zu_s, ih i (by omega), if_neg (by omega), hinv, if_pos (Or.inr (by omega))]
      · rw [zu_n j1]
        by_cases j2 : j = i
        · subst j2
          rw [zu_s, ih _ hm, hinv, if_neg (by omega), if_pos (Or.inl (by omega))]
        · rw [zu_n j2, ih j hj]
          have : zr L j ≠ i := by intro q; exact j1 (by rw [← q, hjj])
          by_cases d : j < i ∨ zr L j < i
          · rw [if_pos d, if_pos (by omega)]
          · rw [if_neg d, if_neg (by omega)]
    · rw [if_neg c, ih j hj]
      by_cases d : j < i ∨ zr L j < i
      · rw [if_pos d, if_pos (by omega)]
      · rw [if_neg d]
        by_cases j2 : j = i
        · subst j2
          have : zr L j = j := by omega
          rw [if_pos (by omega), this]
        · have : zr L j ≠ i := by
            intro q
            have : zr L i = j := by rw [← q, hjj]
            omega
          rw [if_neg (by omega)]
theorem zo_end {L : Nat} {G : Nat → Nat} {j : Nat} (hj : j < 2 ^ L) : zo L G (2 ^ L) j = G (zr L j) := by
  rw [zo_at _ (Nat.le_refl _) j hj, if_pos (Or.inl hj)]
/-- one pair joined; all pairs of one place; all places of one level; all levels -/
def zp1 (P h fac k : Nat) (G : Nat → Nat) : Nat → Nat := zu (zu G k ((G k + G (k + h) * fac % P) % P)) (k + h) ((G k + P - G (k + h) * fac % P) % P)
def zps (P h fac j : Nat) (G : Nat → Nat) : Nat → (Nat → Nat)
  | 0 => G
  | b + 1 => zp1 P h fac (b * (2 * h) + j) (zps P h fac j G b)
def zlv (P h st B : Nat) (G : Nat → Nat) : Nat → (Nat → Nat)
  | 0 => G
  | j + 1 => zps P h (st ^ j % P) j (zlv P h st B G j) B
def zft (P N w : Nat) (G : Nat → Nat) : Nat → (Nat → Nat)
  | 0 => G
  | s + 1 => zlv P (2 ^ s) (w ^ (N / (2 * 2 ^ s)) % P) (N / (2 * 2 ^ s)) (zft P N w G s) (2 ^ s)
theorem z_ml {b B : Nat} (H : Nat) (h : b < B) : b * H + H ≤ B * H := by
  have := Nat.mul_le_mul_right H (show b + 1 ≤ B from h)
  rwa [Nat.add_mul, Nat.one_mul] at this
theorem zps_at {P h fac j : Nat} {G : Nat → Nat} (hj : j < h) : ∀ B : Nat,
    (∀ b, b < B → zps P h fac j G B (b * (2 * h) + j) = (G (b * (2 * h) + j) + G (b * (2 * h) + j + h) * fac % P) % P ∧ zps P h fac j G B (b * (2 * h) + j + h) = (G (b * (2 * h) + j) + P - G (b * (2 * h) + j + h) * fac % P) % P) ∧
    (∀ t, (∀ b, b < B → t ≠ b * (2 * h) + j ∧ t ≠ b * (2 * h) + j + h) → zps P h fac j G B t = G t) := by
  intro B
  induction B with
  | zero => exact ⟨fun b hb => absurd hb (by omega), fun t _ => rfl⟩
  | succ B ih =>
    obtain ⟨i1, i2⟩ := ih
    have o1 : zps P h fac j G B (B * (2 * h) + j) = G (B * (2 * h) + j) := i2 _ fun b hb => by
      have := z_ml (2 * h) hb
      omega
    have o2 : zps P h fac j G B (B * (2 * h) + j + h) = G (B * (2 * h) + j + h) := i2 _ fun b hb => by
      have := z_ml (2 * h) hb
      omega
    refine ⟨fun b hb => ?_, fun t ht => ?_⟩
    · by_cases e : b = B
      · subst e
        constructor
        · show zu (zu (zps P h fac j G b) _ _) _ _ _ = _
          rw [zu_n (by omega), zu_s, o1, o2]
        · show zu (zu (zps P h fac j G b) _ _) _ _ _ = _
          rw [zu_s, o1, o2]
      · have hb2 : b < B := by omega
        have := z_ml (2 * h) hb2
        constructor
        · show zu (zu (zps P h fac j G B) _ _) _ _ _ = _
          rw [zu_n (by omega), zu_n (by omega)]
          exact (i1 b hb2).1
        · show zu (zu (zps P h fac j G B) _ _) _ _ _ = _
          rw [zu_n (by omega), zu_n (by omega)]
          exact (i1 b hb2).2
    · show zu (zu (zps P h fac j G B) _ _) _ _ _ = _
      rw [zu_n (ht B (by omega)).2, zu_n (ht B (by omega)).1]
      exact i2 t fun b hb => ht b (by omega)
theorem zlv_at {P h st B : Nat} {G : Nat → Nat} : ∀ j : Nat, j ≤ h → ∀ b r, b < B → r < h →
    (r < j → zlv P h st B G j (b * (2 * h) + r) = (G (b * (2 * h) + r) + G (b * (2 * h) + r + h) * (st ^ r % P) % P) % P ∧ zlv P h st B G j (b * (2 * h) + r + h) = (G (b * (2 * h) + r) + P - G (b * (2 * h) + r + h) * (st ^ r % P) % P) % P) ∧
    (j ≤ r → zlv P h st B G j (b * (2 * h) + r) = G (b * (2 * h) + r) ∧ zlv P h st B G j (b * (2 * h) + r + h) = G (b * (2 * h) + r + h)) := by
  intro j
  induction j with
  | zero => intro _ b r hb hr; exact ⟨fun h => absurd h (by omega), fun _ => ⟨rfl, rfl⟩⟩
  | succ j ih =>
    intro hj b r hb hr
    have ih := ih (by omega)
    obtain ⟨p1, p2⟩ := zps_at (P := P) (fac := st ^ j % P) (G := zlv P h st B G j) (show j < h by omega) B
    have far : r ≠ j → ∀ b', b' < B → (b * (2 * h) + r ≠ b' * (2 * h) + j ∧ b * (2 * h) + r ≠ b' * (2 * h) + j + h) ∧ (b * (2 * h) + r + h ≠ b' * (2 * h) + j ∧ b * (2 * h) + r + h ≠ b' * (2 * h) + j + h) := by
      intro hrj b' hb'
      rcases Nat.lt_trichotomy b b' with c | c | c
      · have := z_ml (2 * h) c; omega
      · subst c; omega
      · have := z_ml (2 * h) c; omega
    refine ⟨fun hr2 => ?_, fun hr2 => ?_⟩
    · by_cases e : r = j
      · subst e
        obtain ⟨q1, q2⟩ := p1 b hb
        obtain ⟨-, i2⟩ := ih b r hb hr
        obtain ⟨v1, v2⟩ := i2 (Nat.le_refl _)
        rw [v1, v2] at q1 q2
        exact ⟨q1, q2⟩
      · obtain ⟨i1, -⟩ := ih b r hb hr
        obtain ⟨v1, v2⟩ := i1 (by omega)
        constructor
        · show zps P h (st ^ j % P) j (zlv P h st B G j) B _ = _
          rw [p2 _ fun b' hb' => (far e b' hb').1, v1]
        · show zps P h (st ^ j % P) j (zlv P h st B G j) B _ = _
          rw [p2 _ fun b' hb' => (far e b' hb').2, v2]
    · obtain ⟨-, i2⟩ := ih b r hb hr
      obtain ⟨v1, v2⟩ := i2 (by omega)
      have e : r ≠ j := by omega
      constructor
      · show zps P h (st ^ j % P) j (zlv P h st B G j) B _ = _
        rw [p2 _ fun b' hb' => (far e b' hb').1, v1]
      · show zps P h (st ^ j % P) j (zlv P h st B G j) B _ = _
        rw [p2 _ fun b' hb' => (far e b' hb').2, v2]
theorem z_n1 {P a b c : Nat} (hP : 0 < P) {x y : Int} (ha : zc P (a : Int) x) (hb : zc P ((b : Int) * (c : Int)) y) : zc P (((a + b * c % P) % P : Nat) : Int) (x + y) := by
  refine zc_tr (zc_mod P _) ?_
  rw [Int.natCast_add]
  refine zc_add ha (zc_tr (zc_mod P _) ?_)
  rw [Int.natCast_mul]; exact hb
theorem z_n2 {P a b c : Nat} (hP : 0 < P) {x y : Int} (ha : zc P (a : Int) x) (hb : zc P ((b : Int) * (c : Int)) y) : zc P (((a + P - b * c % P) % P : Nat) : Int) (x - y) := by
  refine zc_tr (zc_mod P _) ?_
  have hlt := Nat.mod_lt (b * c) hP
  have e : ((a + P - b * c % P : Nat) : Int) = (a : Int) + (P : Int) - ((b * c % P : Nat) : Int) := by omega
  rw [e]
  have h1 : zc P ((a : Int) + (P : Int)) x := zc_tr ⟨1, by omega⟩ ha
  refine zc_sub h1 (zc_tr (zc_mod P _) ?_)
  rw [Int.natCast_mul]; exact hb
/-- the level s of the transform: blocks of 2^s, each the transform of every 2^m-th number -/
theorem zft_at {P L w : Nat} {a : Nat → Nat} (hP : 0 < P) (hw : L ≠ 0 → zc P ((w : Int) ^ (2 ^ (L - 1))) (-1)) {G : Nat → Nat} (hG : ∀ j, j < 2 ^ L → G j = a (zr L j)) (ha : ∀ j, j < 2 ^ L → a j < P) :
    ∀ s m : Nat, s + m = L → ∀ b j, b < 2 ^ m → j < 2 ^ s → zft P (2 ^ L) w G s (b * 2 ^ s + j) < P ∧
      zc P ((zft P (2 ^ L) w G s (b * 2 ^ s + j) : Nat) : Int) (zs (fun t => ((a (zr m b + t * 2 ^ m) : Nat) : Int) * (w : Int) ^ (2 ^ m * (t * j))) (2 ^ s)) := by
  intro s
  induction s with
  | zero =>
    intro m hm b j hb hj
    have hm : m = L := by omega
    subst hm
    have j0 : j = 0 := by rw [Nat.pow_zero] at hj; omega
    subst j0
    rw [Nat.pow_zero, Nat.mul_one, Nat.add_zero]
    show G b < P ∧ zc P ((G b : Nat) : Int) (0 + ((a (zr m b + 0 * 2 ^ m) : Nat) : Int) * (w : Int) ^ (2 ^ m * (0 * 0)))
    rw [hG b hb]
    refine ⟨ha _ (zr_lt _ _), ?_⟩
    simp
    exact zc_rf _
  | succ s ih =>
    intro m hm b j hb hj
    have ih := ih (m + 1) (by omega)
    have hN : 2 ^ L / (2 * 2 ^ s) = 2 ^ m := by
      rw [← Nat.pow_succ', Nat.pow_div (by omega) (by omega)]
      congr 1; omega
    have hw1 : zc P ((w : Int) ^ (2 ^ m * 2 ^ s)) (-1) := by
      have := hw (by omega)
      rw [← Nat.pow_add]
      have e : m + s = L - 1 := by omega
      rw [e]; exact this
    have hst : ∀ r : Nat, zc P (((w ^ 2 ^ m % P) ^ r % P : Nat) : Int) ((w : Int) ^ (2 ^ m * r)) := by
      intro r
      refine zc_tr (zc_mod P _) ?_
      rw [Int.natCast_pow, Int.pow_mul]
      refine zc_pow (zc_tr (zc_mod P _) ?_) r
      rw [Int.natCast_pow]; exact zc_rf _
    have ev : ∀ r, r < 2 ^ s → zc P ((zft P (2 ^ L) w G s (b * (2 * 2 ^ s) + r) : Nat) : Int) (zs (fun u => ((a (zr m b + 2 * u * 2 ^ m) : Nat) : Int) * (w : Int) ^ (2 ^ m * (2 * u * r))) (2 ^ s)) := by
      intro r hr
      have h1 := (ih (2 * b) r (by rw [Nat.pow_succ]; omega) hr).2
      have e1 : 2 * b * 2 ^ s = b * (2 * 2 ^ s) := by grind
      have e2 : zr (m + 1) (2 * b) = zr m b := by have := zr_low b 0 (by omega) m; simpa using this
      rw [e1, e2] at h1
      refine zc_tr h1 ?_
      refine zs_cg fun u _ => ?_
      have e3 : u * 2 ^ (m + 1) = 2 * u * 2 ^ m := by rw [Nat.pow_succ]; grind
      have e4 : 2 ^ (m + 1) * (u * r) = 2 ^ m * (2 * u * r) := by rw [Nat.pow_succ]; grind
      rw [e3, e4]; exact zc_rf _
    have od : ∀ r, r < 2 ^ s → zc P ((zft P (2 ^ L) w G s (b * (2 * 2 ^ s) + r + 2 ^ s) : Nat) : Int) (zs (fun u => ((a (zr m b + (2 * u + 1) * 2 ^ m) : Nat) : Int) * (w : Int) ^ (2 ^ m * (2 * u * r))) (2 ^ s)) := by
      intro r hr
      have h1 := (ih (2 * b + 1) r (by rw [Nat.pow_succ]; omega) hr).2
      have e1 : (2 * b + 1) * 2 ^ s + r = b * (2 * 2 ^ s) + r + 2 ^ s := by grind
      have e2 : zr (m + 1) (2 * b + 1) = 2 ^ m + zr m b := by have := zr_low b 1 (by omega) m; simpa using this
      rw [e1, e2] at h1
      refine zc_tr h1 ?_
      refine zs_cg fun u _ => ?_
      have e3 : 2 ^ m + zr m b + u * 2 ^ (m + 1) = zr m b + (2 * u + 1) * 2 ^ m := by rw [Nat.pow_succ]; grind
      have e4 : 2 ^ (m + 1) * (u * r) = 2 ^ m * (2 * u * r) := by rw [Nat.pow_succ]; grind
      rw [e3, e4]; exact zc_rf _
    have tgt : ∀ r, r < 2 ^ s → (zft P (2 ^ L) w G (s + 1) (b * (2 * 2 ^ s) + r) < P ∧ zc P ((zft P (2 ^ L) w G (s + 1) (b * (2 * 2 ^ s) + r) : Nat) : Int) (zs (fun t => ((a (zr m b + t * 2 ^ m) : Nat) : Int) * (w : Int) ^ (2 ^ m * (t * r))) (2 * 2 ^ s))) ∧
        (zft P (2 ^ L) w G (s + 1) (b * (2 * 2 ^ s) + r + 2 ^ s) < P ∧ zc P ((zft P (2 ^ L) w G (s + 1) (b * (2 * 2 ^ s) + r + 2 ^ s) : Nat) : Int) (zs (fun t => ((a (zr m b + t * 2 ^ m) : Nat) : Int) * (w : Int) ^ (2 ^ m * (t * (r + 2 ^ s)))) (2 * 2 ^ s))) := by
      intro r hr
      obtain ⟨v, -⟩ := zlv_at (P := P) (h := 2 ^ s) (st := w ^ 2 ^ m % P) (B := 2 ^ m) (G := zft P (2 ^ L) w G s) (2 ^ s) (Nat.le_refl _) b r hb hr
      obtain ⟨v1, v2⟩ := v hr
      have d : zft P (2 ^ L) w G (s + 1) = zlv P (2 ^ s) (w ^ 2 ^ m % P) (2 ^ m) (zft P (2 ^ L) w G s) (2 ^ s) := by
        show zlv P (2 ^ s) (w ^ (2 ^ L / (2 * 2 ^ s)) % P) (2 ^ L / (2 * 2 ^ s)) (zft P (2 ^ L) w G s) (2 ^ s) = _
        rw [hN]
      have hO : zc P (((zft P (2 ^ L) w G s (b * (2 * 2 ^ s) + r + 2 ^ s) : Nat) : Int) * (((w ^ 2 ^ m % P) ^ r % P : Nat) : Int)) (zs (fun u => ((a (zr m b + (2 * u + 1) * 2 ^ m) : Nat) : Int) * (w : Int) ^ (2 ^ m * ((2 * u + 1) * r))) (2 ^ s)) := by
        refine zc_tr (zc_mul (od r hr) (hst r)) ?_
        rw [Int.mul_comm, ← zs_mul]
        refine zs_cg fun u _ => ?_
        have e4 : 2 ^ m * ((2 * u + 1) * r) = 2 ^ m * r + 2 ^ m * (2 * u * r) := by grind
        rw [e4, Int.pow_add]
        exact ⟨0, by grind⟩
      rw [d]
      refine ⟨⟨?_, ?_⟩, ?_, ?_⟩
      · rw [v1]; exact Nat.mod_lt _ hP
      · rw [v1, zs_eo]
        exact z_n1 hP (ev r hr) hO
      · rw [v2]; exact Nat.mod_lt _ hP
      · rw [v2, zs_eo]
        refine zc_tr (z_n2 hP (ev r hr) hO) ?_
        have e5 : ∀ A B : Int, A - B = A + (-1) * B := by intro A B; omega
        rw [e5, ← zs_mul]
        refine zc_add (zs_cg fun u _ => ?_) (zs_cg fun u _ => ?_)
        · have e6 : 2 ^ m * (2 * u * (r + 2 ^ s)) = 2 ^ m * (2 * u * r) + 2 ^ m * 2 ^ s * 2 * u := by grind
          rw [e6, Int.pow_add, Int.pow_mul (n := 2 ^ m * 2 ^ s * 2), Int.pow_mul (n := 2 ^ m * 2 ^ s)]
          have h7 := zc_pow (zc_pow hw1 2) u
          rw [show ((-1 : Int) ^ 2) = 1 from rfl, Int.one_pow] at h7
          have h8 := zc_mul (zc_rf (P := P) (((a (zr m b + 2 * u * 2 ^ m) : Nat) : Int) * (w : Int) ^ (2 ^ m * (2 * u * r)))) (zc_sy h7)
          rw [Int.mul_one, Int.mul_assoc] at h8
          exact h8
        · have e6 : 2 ^ m * ((2 * u + 1) * (r + 2 ^ s)) = 2 ^ m * ((2 * u + 1) * r) + (2 ^ m * 2 ^ s * 2 * u + 2 ^ m * 2 ^ s) := by grind
          rw [e6, Int.pow_add, Int.pow_add, Int.pow_mul (n := 2 ^ m * 2 ^ s * 2), Int.pow_mul (n := 2 ^ m * 2 ^ s)]
          have h7 := zc_pow (zc_pow hw1 2) u
          rw [show ((-1 : Int) ^ 2) = 1 from rfl, Int.one_pow] at h7
          have h8 := zc_mul (zc_rf (P := P) (((a (zr m b + (2 * u + 1) * 2 ^ m) : Nat) : Int) * (w : Int) ^ (2 ^ m * ((2 * u + 1) * r)))) (zc_sy (zc_mul h7 hw1))
          refine zc_tr ?_ (zc_tr h8 ?_)
          · exact ⟨0, by grind⟩
          · exact ⟨0, by grind⟩
    have hh : b * 2 ^ (s + 1) = b * (2 * 2 ^ s) := by rw [Nat.pow_succ']
    rw [hh, Nat.pow_succ']
    rw [Nat.pow_succ'] at hj
    by_cases c : j < 2 ^ s
    · exact (tgt j c).1
    · obtain ⟨r, rfl⟩ : ∃ r, j = r + 2 ^ s := ⟨j - 2 ^ s, by omega⟩
      have := (tgt r (by omega)).2
      rw [Nat.add_assoc] at this
      exact this
/-- the transform by halves is the transform -/
theorem zft_end {P L w : Nat} {a : Nat → Nat} (hP : 0 < P) (hw : L ≠ 0 → zc P ((w : Int) ^ (2 ^ (L - 1))) (-1)) {G : Nat → Nat} (hG : ∀ j, j < 2 ^ L → G j = a (zr L j)) (ha : ∀ j, j < 2 ^ L → a j < P) {j : Nat} (hj : j < 2 ^ L) :
    zft P (2 ^ L) w G L j < P ∧ zc P ((zft P (2 ^ L) w G L j : Nat) : Int) (zs (fun t => ((a t : Nat) : Int) * (w : Int) ^ (t * j)) (2 ^ L)) := by
  have h := zft_at hP hw hG ha L 0 (by omega) 0 j (by simp) hj
  rw [Nat.zero_mul, Nat.zero_add] at h
  refine ⟨h.1, zc_tr h.2 ?_⟩
  refine zs_cg fun t _ => ?_
  have e : zr 0 0 + t * 2 ^ 0 = t := by show 0 + t * 1 = t; omega
  rw [e, Nat.pow_zero, Nat.one_mul]
  exact zc_rf _
end
section
/-! numbers of the machine: remainders, rows of numbers below P inside rows of longs, the reference's sums -/
theorem zl_of {v : Int64} {k : Nat} (hk : k < 2 ^ 63) (h : v.toInt = (k : Int)) : v = lN k := Int64.toInt_inj.mp (by rw [h, pk_lT hk])
def zrs (P : Nat) (v : Int64) : Nat := (v.toInt % (P : Int)).toNat
theorem zrs_lt {P : Nat} (h : 0 < P) (v : Int64) : zrs P v < P := by
  unfold zrs
  have h1 := Int.emod_nonneg v.toInt (show (P : Int) ≠ 0 by omega)
  have h2 := Int.emod_lt_of_pos v.toInt (show (0 : Int) < P by omega)
  omega
theorem zrs_i {P : Nat} (h : 0 < P) (v : Int64) : ((zrs P v : Nat) : Int) = v.toInt % (P : Int) := by
  unfold zrs
  have h1 := Int.emod_nonneg v.toInt (show (P : Int) ≠ 0 by omega)
  omega
theorem z_tm_nonpos {a : Int} (b : Int) (h : a ≤ 0) : a.tmod b ≤ 0 := by
  have h1 := Int.tmod_nonneg b (show 0 ≤ -a by omega)
  rw [Int.neg_tmod] at h1
  omega
theorem zrem_toInt (v : Int64) {P : Nat} (h0 : 0 < P) (h : P < 2 ^ 31) : (v - v / lN P * lN P).toInt = v.toInt.tmod (P : Int) := by
  have hP : (lN P).toInt = (P : Int) := lN_toInt h
  have hne : lN P ≠ -1 := by
    intro q
    rw [q] at hP
    have : (-1 : Int64).toInt = -1 := by decide
    omega
  have hd := Int64.toInt_div_of_ne_right v (lN P) hne
  rw [hP] at hd
  have e := Int.tmod_add_tdiv_mul v.toInt P
  have b1 := Int.tmod_lt_of_pos v.toInt (show (0 : Int) < P by omega)
  have b2 := Int.lt_tmod_of_pos v.toInt (show (0 : Int) < P by omega)
  have l1 := v.le_toInt
  have l2 := v.toInt_lt
  have b3 : 0 ≤ v.toInt → 0 ≤ v.toInt.tmod P := fun q => Int.tmod_nonneg _ q
  have b4 : v.toInt ≤ 0 → v.toInt.tmod P ≤ 0 := fun q => z_tm_nonpos _ q
  have hm : (v / lN P * lN P).toInt = v.toInt.tdiv P * P := by
    rw [Int64.toInt_mul, hd, hP]
    exact Int.bmod_eq_of_le (by omega) (by omega)
  rw [Int64.toInt_sub, hm, Int.bmod_eq_of_le (by omega) (by omega)]
  omega
theorem zfm_pos {v : Int64} {P : Nat} (h0 : 0 < P) (h : P < 2 ^ 31) (hv : ¬ v < 0) : v - v / lN P * lN P = lN (zrs P v) := by
  have hv2 : 0 ≤ v.toInt := by
    rw [Int64.lt_iff_toInt_lt] at hv
    have : (0 : Int64).toInt = 0 := by decide
    omega
  have hlt := zrs_lt h0 v
  refine zl_of (by omega) ?_
  rw [zrem_toInt v h0 h, zrs_i h0, Int.tmod_eq_emod_of_nonneg hv2]
theorem zfm_zero {v : Int64} {P : Nat} (h0 : 0 < P) (h : P < 2 ^ 31) (hr : v - v / lN P * lN P = 0) : v - v / lN P * lN P = lN (zrs P v) := by
  have hlt := zrs_lt h0 v
  refine zl_of (by omega) ?_
  have h1 := zrem_toInt v h0 h
  rw [hr] at h1
  have h2 : v.toInt.tmod (P : Int) = 0 := by rw [← h1]; decide
  have h3 : (P : Int) ∣ v.toInt := Int.dvd_of_tmod_eq_zero h2
  rw [zrem_toInt v h0 h, zrs_i h0, h2, Int.emod_eq_zero_of_dvd h3]
theorem z_em {P : Nat} (h0 : 0 < P) (a : Int) : (a.tmod P + P) % (P : Int) = a % (P : Int) := by
  have e := Int.tmod_add_tdiv_mul a P
  have e2 : a = a.tmod P + P + P * (a.tdiv P - 1) := by grind
  conv => rhs; rw [e2]
  rw [Int.add_mul_emod_self_left]
theorem zfm_neg {v : Int64} {P : Nat} (h0 : 0 < P) (h : P < 2 ^ 31) (hv : v < 0) (hr : ¬ v - v / lN P * lN P = 0) : v - v / lN P * lN P + lN P = lN (zrs P v) := by
  have hv2 : v.toInt < 0 := by
    rw [Int64.lt_iff_toInt_lt] at hv
    have : (0 : Int64).toInt = 0 := by decide
    omega
  have hlt := zrs_lt h0 v
  have h1 := zrem_toInt v h0 h
  have b2 := Int.lt_tmod_of_pos v.toInt (show (0 : Int) < P by omega)
  have b4 := z_tm_nonpos (P : Int) (show v.toInt ≤ 0 by omega)
  have b5 : v.toInt.tmod (P : Int) ≠ 0 := by
    intro q
    rw [q] at h1
    exact hr (Int64.toInt_inj.mp (by rw [h1]; decide))
  refine zl_of (by omega) ?_
  rw [Int64.toInt_add, h1, lN_toInt h, zrs_i h0, ← z_em h0, Int.emod_eq_of_lt (by omega) (by omega)]
  exact Int.bmod_eq_of_le (by omega) (by omega)
theorem zfm_ref {v : Int64} {P : Nat} (h0 : 0 < P) (h : P < 2 ^ 31) : (v - v / lN P * lN P + lN P) - (v - v / lN P * lN P + lN P) / lN P * lN P = lN (zrs P v) := by
  have h1 := zrem_toInt v h0 h
  have b1 := Int.tmod_lt_of_pos v.toInt (show (0 : Int) < P by omega)
  have b2 := Int.lt_tmod_of_pos v.toInt (show (0 : Int) < P by omega)
  have e1 : v - v / lN P * lN P + lN P = lN (v.toInt.tmod P + P).toNat := by
    refine zl_of (by omega) ?_
    rw [Int64.toInt_add, h1, lN_toInt h, Int.bmod_eq_of_le (by omega) (by omega)]
    omega
  rw [e1, pk_lRem (by omega) h0 (by omega)]
  refine congrArg lN ?_
  have e2 : (((v.toInt.tmod P + P).toNat % P : Nat) : Int) = ((zrs P v : Nat) : Int) := by
    rw [Int.natCast_emod, Int.toNat_of_nonneg (by omega), z_em h0, zrs_i h0]
  exact_mod_cast e2
theorem z_neg_msb (v : Int64) : v < 0 ↔ v.toBitVec.msb = true := by
  rw [Int64.lt_iff_toInt_lt, BitVec.msb_eq_toInt]
  have : (0 : Int64).toInt = 0 := by decide
  rw [this]
  simp
theorem z_xor_neg (v : Int64) {P : Nat} (h : P < 2 ^ 31) : (v ^^^ lN P) < 0 ↔ v < 0 := by
  rw [z_neg_msb, z_neg_msb, Int64.toBitVec_xor, BitVec.msb_xor]
  have h2 : (lN P).toBitVec.msb = false := by
    cases hc : (lN P).toBitVec.msb with
    | false => rfl
    | true =>
      have h3 := (z_neg_msb (lN P)).mpr hc
      rw [Int64.lt_iff_toInt_lt, lN_toInt h] at h3
      have : (0 : Int64).toInt = 0 := by decide
      omega
  rw [h2]; simp
/-- products below P -/
theorem z_pr {P a b : Nat} (hP : P ≤ 1000000007) (ha : a < P) (hb : b < P) : lN a * lN b - lN a * lN b / lN P * lN P = lN (a * b % P) := by
  have h1 : a * b ≤ 1000000007 * 1000000007 := Nat.mul_le_mul (by omega) (by omega)
  rw [lN_mul, pk_lRem (by omega) (by omega) (by omega)]
/-- a row whose first n numbers are small -/
def zem (n : Nat) (G : Nat → Nat) (f : Nat → Int64) : Nat → Int64 := fun j => if j < n then lN (G j) else f j
theorem zem_in {n : Nat} {G : Nat → Nat} {f : Nat → Int64} {j : Nat} (h : j < n) : zem n G f j = lN (G j) := by simp [zem, h]
theorem zem_up {n : Nat} {G : Nat → Nat} {f : Nat → Int64} {i v : Nat} (h : i < n) : vp_updL (zem n G f) i (lN v) = zem n (zu G i v) f := by
  funext j
  unfold vp_updL zem zu
  by_cases e : j = i
  · subst e; simp [h]
  · simp [e]
theorem zem_ex {n : Nat} {G G' : Nat → Nat} {f : Nat → Int64} (h : ∀ j, j < n → G j = G' j) : zem n G f = zem n G' f := by
  funext j
  unfold zem
  by_cases e : j < n
  · simp [e, h j e]
  · simp [e]
/-- rows that a loop has come through up to i -/
def zpt (i : Nat) (a b : Nat → Int64) : Nat → Int64 := fun j => if j < i then a j else b j
theorem zpt_0 (a b : Nat → Int64) : zpt 0 a b = b := by funext j; simp [zpt]
theorem zpt_up {i : Nat} {a b : Nat → Int64} {v : Int64} (h : v = a i) : vp_updL (zpt i a b) i v = zpt (i + 1) a b := by
  funext j
  unfold vp_updL zpt
  by_cases e : j = i
  · subst e; simp [h]
  · by_cases e2 : j < i
    · simp [e, e2, Nat.lt_succ_of_lt e2]
    · have : ¬ j < i + 1 := by omega
      simp [e, e2, this]
theorem zpt_at {i : Nat} {a b : Nat → Int64} : zpt i a b i = b i := by simp [zpt]
/-- the reference's sum -/
def zm (P st : Nat) (a : Nat → Nat) : Nat → Nat
  | 0 => 0
  | j + 1 => (zm P st a j + a j * (st ^ j % P)) % P
theorem zm_lt {P st : Nat} {a : Nat → Nat} (hP : 0 < P) (n : Nat) : zm P st a n < P := by
  cases n with
  | zero => exact hP
  | succ n => exact Nat.mod_lt _ hP
theorem zm_cg {P st : Nat} {a : Nat → Nat} : ∀ n : Nat, zc P ((zm P st a n : Nat) : Int) (zs (fun t => ((a t : Nat) : Int) * (st : Int) ^ t) n) := by
  intro n
  induction n with
  | zero => exact zc_rf 0
  | succ n ih =>
    refine zc_tr (zc_mod P _) ?_
    rw [Int.natCast_add, Int.natCast_mul]
    refine zc_add ih (zc_mul (zc_rf _) (zc_tr (zc_mod P _) ?_))
    rw [Int.natCast_pow]
    exact zc_rf _
theorem zm_ex {P st : Nat} {a b : Nat → Nat} {n : Nat} (h : ∀ j, j < n → a j = b j) : ∀ k, k ≤ n → zm P st a k = zm P st b k := by
  intro k
  induction k with
  | zero => intro _; rfl
  | succ k ih =>
    intro hk
    show (zm P st a k + a k * (st ^ k % P)) % P = (zm P st b k + b k * (st ^ k % P)) % P
    rw [ih (by omega), h k (by omega)]
/-- both ways to the transform meet -/
theorem z_meet {P L w : Nat} {a : Nat → Nat} (hP : 0 < P) (hw : L ≠ 0 → zc P ((w : Int) ^ (2 ^ (L - 1))) (-1)) (ha : ∀ j, j < 2 ^ L → a j < P) {k : Nat} (hk : k < 2 ^ L) :
    zft P (2 ^ L) w (zo L a (2 ^ L)) L k = zm P (w ^ k % P) a (2 ^ L) := by
  obtain ⟨h1, h2⟩ := zft_end hP hw (G := zo L a (2 ^ L)) (fun j hj => zo_end hj) ha hk
  refine zc_eq h1 (zm_lt hP _) (zc_tr h2 (zc_sy (zc_tr (zm_cg _) ?_)))
  refine zs_cg fun t _ => ?_
  refine zc_mul (zc_rf _) ?_
  rw [Nat.mul_comm t k, Int.pow_mul]
  refine zc_pow (zc_tr (zc_mod P _) ?_) t
  rw [Int.natCast_pow]
  exact zc_rf _
theorem z_pw {P a : Nat} (k : Nat) : a ^ k % P * a % P = a ^ (k + 1) % P := by
  rw [Nat.pow_succ, Nat.mod_mul_mod]
theorem z_pw2 {P a : Nat} (k : Nat) : a ^ k % P * (a % P) % P = a ^ (k + 1) % P := by
  rw [Nat.pow_succ, ← Nat.mul_mod]
/-- w to the p - 2, halved to -1 as w is -/
theorem z_inv_half {P L w : Nat} (hP : 3 ≤ P) (hodd : P % 2 = 1) (hw : L ≠ 0 → w ^ (2 ^ L / 2) % P = P - 1) : L ≠ 0 → zc P (((w ^ (P - 2) % P : Nat) : Int) ^ (2 ^ (L - 1))) (-1) := by
  intro hL
  have e : 2 ^ L / 2 = 2 ^ (L - 1) := by
    obtain ⟨k, rfl⟩ : ∃ k, L = k + 1 := ⟨L - 1, by omega⟩
    rw [Nat.pow_succ, Nat.mul_div_cancel _ (by omega)]; rfl
  have h1 := hw hL
  rw [e] at h1
  have h2 : zc P ((w : Int) ^ (2 ^ (L - 1))) (-1) := by
    refine zc_tr (zc_sy ?_) (zc_p1 (P := P) (by omega))
    rw [← h1]
    refine zc_tr (zc_mod P _) ?_
    rw [Int.natCast_pow]; exact zc_rf _
  have h3 := zc_pow (zc_mod P (w ^ (P - 2))) (2 ^ (L - 1))
  refine zc_tr h3 ?_
  rw [Int.natCast_pow, ← Int.pow_mul, Nat.mul_comm, Int.pow_mul]
  refine zc_tr (zc_pow h2 (P - 2)) ?_
  obtain ⟨q, hq⟩ : ∃ q, P - 2 = 2 * q + 1 := ⟨(P - 3) / 2, by omega⟩
  rw [hq, Int.pow_succ, Int.pow_mul, show ((-1 : Int) ^ 2) = 1 from rfl, Int.one_pow]
  exact zc_rf _
theorem z_half {P L w : Nat} (hP : 3 ≤ P) (hw : L ≠ 0 → w ^ (2 ^ L / 2) % P = P - 1) : L ≠ 0 → zc P ((w : Int) ^ (2 ^ (L - 1))) (-1) := by
  intro hL
  have e : 2 ^ L / 2 = 2 ^ (L - 1) := by
    obtain ⟨k, rfl⟩ : ∃ k, L = k + 1 := ⟨L - 1, by omega⟩
    rw [Nat.pow_succ, Nat.mul_div_cancel _ (by omega)]; rfl
  have h1 := hw hL
  rw [e] at h1
  refine zc_tr (zc_sy ?_) (zc_p1 (P := P) (by omega))
  rw [← h1]
  refine zc_tr (zc_mod P _) ?_
  rw [Int.natCast_pow]; exact zc_rf _
end
section
/-! short rows over the kit's: tops renamed, arrays of longs at a place, calls, entries, ends -/
section WR
variable {p : Program} {l : Launch} {e : Env} {R : Room} {s : State} {m : MethodId} {args : Array Value} {below : List Frame} {meth : Method} {c : Code} {H : Heap} {locs : List Loc} {cells slots : Nat} {Q : State → Prop}
variable {cc : ByteArray} {pc : Nat} {ls : Array Slot} {rest : List Value} {D : va_G} {A : Nat → Prop} {a : Nat} {tys : List (ClassId × FieldType)} {ws : va_W} {H0 : Heap}
theorem kt_i {x v : Int32} (h : x = v) (k : W p l e R s m args below meth c H locs cells slots Q (F0 m pc ls (.int v :: rest))) : W p l e R s m args below meth c H locs cells slots Q (F0 m pc ls (.int x :: rest)) := h ▸ k
theorem kt_l {x v : Int64} (h : x = v) (k : W p l e R s m args below meth c H locs cells slots Q (F0 m pc ls (.long v :: rest))) : W p l e R s m args below meth c H locs cells slots Q (F0 m pc ls (.long x :: rest)) := h ▸ k
theorem ka_ld (hx : p.tables.exec = Jvm.exec) (hb : c.code = cc) (hK : va_K D vwCl tys s) (hP : va_P D vwCl ws H) (q0 t0 : Nat) {cA : ClassId} {n : Nat} {f : Nat → Int64} (ha : ws[q0]? = some (a, .inl (cA, n, .inr (.inl f)))) (ht : tys[t0]? = some (cA, .long)) {i : Nat} (hi : i < n) (hn : n < 2 ^ 31) (hdg : decode cc pc = .ok (.laload, 1))
    (kk : W p l e R s m args below meth c H locs cells slots Q (F0 m (pc + 1) ls (.long (f i) :: rest))) : W p l e R s m args below meth c H locs cells slots Q (F0 m pc ls (.int (nI i) :: .ref a :: rest)) :=
  va_lald hx hb hK hP q0 t0 ha ht (vp_in_nI hi hn) hdg (by rw [nI_clamp (by omega)]; exact kk)
theorem ka_st (hx : p.tables.exec = Jvm.exec) (hb : c.code = cc) (hK : va_K D vwCl tys s) (hP : va_P D vwCl ws H) (hD : va_D A ws) (hS : va_S A H0 H locs) (q0 t0 : Nat) {cA : ClassId} {n : Nat} {f : Nat → Int64} (ha : ws[q0]? = some (a, .inl (cA, n, .inr (.inl f)))) (ht : tys[t0]? = some (cA, .long)) {i : Nat} {v : Int64} (hi : i < n) (hn : n < 2 ^ 31) (hdg : decode cc pc = .ok (.lastore, 1)) {w1 : va_W} (hw1 : ws.set q0 (a, .inl (cA, n, .inr (.inl (vp_updL f i v)))) = w1)
    (kk : ∀ (H1 : Heap) (locs1 : List Loc), va_P D vwCl w1 H1 → va_D A w1 → va_S A H0 H1 locs1 → W p l e R s m args below meth c H1 locs1 cells slots Q (F0 m (pc + 1) ls rest)) : W p l e R s m args below meth c H locs cells slots Q (F0 m pc ls (.long v :: .int (nI i) :: .ref a :: rest)) := by
  subst hw1
  refine va_last hx hb hK hP hD hS q0 t0 ha ht (vp_in_nI hi hn) hdg (fun H1 locs1 a1 a2 a3 => ?_)
  rw [nI_clamp (by omega)] at a1 a2
  exact kk H1 locs1 a1 a2 a3
/-- a static method that touches no cell -/
theorem kc_l {y : MethodName} {bytes : ByteArray} {maxL nL n index : Nat} {ret : Option FieldType} {wk Ts : List Cond} {rm : Room} {own : String} {As st : List Value} {post : Int64 → Prop}
    (S : CallFix p m c cc nL s args Ts own) (hM : Met l y wk rm (va_Pc As (fun _ => True)) (vp_Sl post) 0 0 (fun _ => False)) (cw : CallB R s args own index y bytes maxL ret wk rm 0 0 n ∧ (Cond.static y).before args s = true)
    (hn : As.length = n) (hsize : ls.size = nL) (hst : st = As.reverse ++ rest) (hW : (rest.map fun v => v.category).sum ≤ 8) (hdg : decode cc pc = .ok (.invokestatic index, 3)) (hf : cells ≤ R.cells ∧ slots ≤ R.slots)
    (kk : ∀ r : Int64, post r → W p l e R s m args below meth c H locs cells slots Q (F0 m (pc + 3) ls (.long r :: rest))) : W p l e R s m args below meth c H locs cells slots Q (F0 m pc ls st) := by
  subst hst
  exact vp_callSl (W.runS S hM cw ⟨fun _ _ _ _ q => ⟨q.1, trivial⟩, fun _ _ _ => ⟨rfl, trivial⟩⟩ rfl hn hsize rfl (lv_room (m := m) (pc := pc) (ls := ls) (rest := As.reverse ++ rest) hW) hdg hf) kk
theorem kc_lv {y : MethodName} {bytes : ByteArray} {maxL nL n index : Nat} {ret : Option FieldType} {wk Ts : List Cond} {rm : Room} {own : String} {As st : List Value} {v : Int64}
    (S : CallFix p m c cc nL s args Ts own) (hM : Met l y wk rm (va_Pc As (fun _ => True)) (vp_Sl (fun r => r = v)) 0 0 (fun _ => False)) (cw : CallB R s args own index y bytes maxL ret wk rm 0 0 n ∧ (Cond.static y).before args s = true)
    (hn : As.length = n) (hsize : ls.size = nL) (hst : st = As.reverse ++ rest) (hW : (rest.map fun v => v.category).sum ≤ 8) (hdg : decode cc pc = .ok (.invokestatic index, 3)) (hf : cells ≤ R.cells ∧ slots ≤ R.slots)
    (kk : W p l e R s m args below meth c H locs cells slots Q (F0 m (pc + 3) ls (.long v :: rest))) : W p l e R s m args below meth c H locs cells slots Q (F0 m pc ls st) :=
  kc_l S hM cw hn hsize hst hW hdg hf (fun r hr => by subst hr; exact kk)
theorem kc_i {y : MethodName} {bytes : ByteArray} {maxL nL n index : Nat} {ret : Option FieldType} {wk Ts : List Cond} {rm : Room} {own : String} {As st : List Value} {post : Int32 → Prop}
    (S : CallFix p m c cc nL s args Ts own) (hM : Met l y wk rm (va_Pc As (fun _ => True)) (vp_Si post) 0 0 (fun _ => False)) (cw : CallB R s args own index y bytes maxL ret wk rm 0 0 n ∧ (Cond.static y).before args s = true)
    (hn : As.length = n) (hsize : ls.size = nL) (hst : st = As.reverse ++ rest) (hW : (rest.map fun v => v.category).sum ≤ 8) (hdg : decode cc pc = .ok (.invokestatic index, 3)) (hf : cells ≤ R.cells ∧ slots ≤ R.slots)
    (kk : ∀ r : Int32, post r → W p l e R s m args below meth c H locs cells slots Q (F0 m (pc + 3) ls (.int r :: rest))) : W p l e R s m args below meth c H locs cells slots Q (F0 m pc ls st) := by
  subst hst
  exact vp_callSi (W.runS S hM cw ⟨fun _ _ _ _ q => ⟨q.1, trivial⟩, fun _ _ _ => ⟨rfl, trivial⟩⟩ rfl hn hsize rfl (lv_room (m := m) (pc := pc) (ls := ls) (rest := As.reverse ++ rest) hW) hdg hf) kk
theorem kc_iv {y : MethodName} {bytes : ByteArray} {maxL nL n index : Nat} {ret : Option FieldType} {wk Ts : List Cond} {rm : Room} {own : String} {As st : List Value} {v : Int32}
    (S : CallFix p m c cc nL s args Ts own) (hM : Met l y wk rm (va_Pc As (fun _ => True)) (vp_Si (fun r => r = v)) 0 0 (fun _ => False)) (cw : CallB R s args own index y bytes maxL ret wk rm 0 0 n ∧ (Cond.static y).before args s = true)
    (hn : As.length = n) (hsize : ls.size = nL) (hst : st = As.reverse ++ rest) (hW : (rest.map fun v => v.category).sum ≤ 8) (hdg : decode cc pc = .ok (.invokestatic index, 3)) (hf : cells ≤ R.cells ∧ slots ≤ R.slots)
    (kk : W p l e R s m args below meth c H locs cells slots Q (F0 m (pc + 3) ls (.int v :: rest))) : W p l e R s m args below meth c H locs cells slots Q (F0 m pc ls st) :=
  kc_i S hM cw hn hsize hst hW hdg hf (fun r hr => by subst hr; exact kk)
/-- contracts over a world -/
def kPre (D : va_G) (tys : List (ClassId × FieldType)) (av : List Value) (sz : Nat) (wc : va_W) : Array Value → State → Prop := va_Pc av (fun U => U.heap.size = sz ∧ va_P D vwCl wc U.heap ∧ va_K D vwCl tys U ∧ va_D (fun _ => True) wc)
def kAt (D : va_G) (tys : List (ClassId × FieldType)) (sz : Nat) (wc : va_W) (w : va_W) (t : State) : Prop := va_P D vwCl w t.heap ∧ va_K D vwCl tys t ∧ va_D (va_A wc sz) w
def kQv (D : va_G) (tys : List (ClassId × FieldType)) (sz : Nat) (wc : va_W) (post : va_W → Prop) : Array Value → State → Outcome → State → Prop := va_Qv post (kAt D tys sz wc) (va_A wc sz)
def kQi (D : va_G) (tys : List (ClassId × FieldType)) (sz : Nat) (wc : va_W) (post : Int32 → va_W → Prop) : Array Value → State → Outcome → State → Prop := va_Qi post (kAt D tys sz wc) (va_A wc sz)
def kQl (D : va_G) (tys : List (ClassId × FieldType)) (sz : Nat) (wc : va_W) (post : Int64 → va_W → Prop) : Array Value → State → Outcome → State → Prop := va_Ql post (kAt D tys sz wc) (va_A wc sz)
theorem kPre_blind {av : List Value} {sz : Nat} {wc : va_W} : FrameBlind (kPre D tys av sz wc) := fun a U g mk q => by
  obtain ⟨q0, q1, qP, qK, qD⟩ := q
  exact ⟨q0, q1, qP, va_K.moved (u := U) (U := U.calling g mk a) (Vm.Alike.refl U.vm) qK, qD⟩
section WV
variable {y : MethodName} {bytes : ByteArray} {maxL nL n index ci : Nat} {ret : Option FieldType} {wk Ts : List Cond} {rm : Room} {own : String} {As st : List Value} {wc wr : va_W} {tysC : List (ClassId × FieldType)} {b : Nat} {fs : List Value} {q : vw_C}
theorem kv_v {post : va_W → Prop} (S : CallFix p m c cc nL s args Ts own) (hM : Met l y wk rm (kPre D tysC (.ref b :: As) H.size wc) (kQv D tysC H.size wc post) 0 0 (va_A wc H.size)) (cw : CallW R s args own q.1 index y bytes maxL ret wk rm 0 0 n)
    (hK : va_K D vwCl tys s) (hKc : va_K D vwCl tysC s) (hP : va_P D vwCl ws H) (hD : va_D A ws) (hS : va_S A H0 H locs) (hA : ∀ q, H0.size ≤ q → A q) (isC isR : List Nat) (hC : isC.map (fun i => ws[i]?) = wc.map some) (hR : isR.map (fun i => ws[i]?) = wr.map some) (hnd : va_nd isR = true) (hdis : ∀ i ∈ isR, i ∉ isC) (hPc : va_P D vwCl wc H) (hDc : va_D A wc) (hc : vwCl[ci]? = some q) (he : wc[0]? = some (b, .inr (ci, fs)))
    (hn : As.length = n) (hsize : ls.size = nL) (hst : st = As.reverse ++ .ref b :: rest) (hW : (rest.map fun v => v.category).sum ≤ 8) (hdg : decode cc pc = .ok (.invokevirtual index, 3)) (hf : cells ≤ R.cells ∧ slots ≤ R.slots)
    (kk : ∀ (w : va_W) (H1 : Heap) (locs1 : List Loc), post w → va_P D vwCl (wr ++ w) H1 → va_D A (wr ++ w) → va_S A H0 H1 locs1 → W p l e R s m args below meth c H1 locs1 cells slots Q (F0 m (pc + 3) ls rest)) : W p l e R s m args below meth c H locs cells slots Q (F0 m pc ls st) := by
  subst hst
  have hFc := va_free (wc := wc) hD hS hA isC hC
  refine va_callv (va_runV S hM cw ⟨kPre_blind, va_recv hKc hPc (ci := ci) (q0 := 0) hc he, fun U hU hW => ⟨rfl, by rw [hU], by rw [hU]; exact hPc, va_K.moved hW.alike hKc, hDc.weaken (fun _ _ _ _ => trivial)⟩⟩ rfl hn hsize rfl (lv_room (m := m) (pc := pc) (ls := ls) (rest := As.reverse ++ .ref b :: rest) hW) hdg hf) hS (fun q _ h => hFc q h) hFc (fun u t H1 locs1 ht hvm hw hB hz1 hk1 hS1 => ?_)
  obtain ⟨hP1, -, hD1⟩ := hB
  rw [ht] at hP1
  obtain ⟨hP2, hD2⟩ := va_join hP hD isC isR hC hR hnd hdis hk1 hFc hP1 hD1
  exact kk u H1 locs1 hw hP2 hD2 hS1
theorem kv_i {post : Int32 → va_W → Prop} (S : CallFix p m c cc nL s args Ts own) (hM : Met l y wk rm (kPre D tysC (.ref b :: As) H.size wc) (kQi D tysC H.size wc post) 0 0 (va_A wc H.size)) (cw : CallW R s args own q.1 index y bytes maxL ret wk rm 0 0 n)
    (hK : va_K D vwCl tys s) (hKc : va_K D vwCl tysC s) (hP : va_P D vwCl ws H) (hD : va_D A ws) (hS : va_S A H0 H locs) (hA : ∀ q, H0.size ≤ q → A q) (isC isR : List Nat) (hC : isC.map (fun i => ws[i]?) = wc.map some) (hR : isR.map (fun i => ws[i]?) = wr.map some) (hnd : va_nd isR = true) (hdis : ∀ i ∈ isR, i ∉ isC) (hPc : va_P D vwCl wc H) (hDc : va_D A wc) (hc : vwCl[ci]? = some q) (he : wc[0]? = some (b, .inr (ci, fs)))
    (hn : As.length = n) (hsize : ls.size = nL) (hst : st = As.reverse ++ .ref b :: rest) (hW : (rest.map fun v => v.category).sum ≤ 8) (hdg : decode cc pc = .ok (.invokevirtual index, 3)) (hf : cells ≤ R.cells ∧ slots ≤ R.slots)
    (kk : ∀ (r : Int32) (w : va_W) (H1 : Heap) (locs1 : List Loc), post r w → va_P D vwCl (wr ++ w) H1 → va_D A (wr ++ w) → va_S A H0 H1 locs1 → W p l e R s m args below meth c H1 locs1 cells slots Q (F0 m (pc + 3) ls (.int r :: rest))) : W p l e R s m args below meth c H locs cells slots Q (F0 m pc ls st) := by
  subst hst
  have hFc := va_free (wc := wc) hD hS hA isC hC
  refine va_calli (va_runV S hM cw ⟨kPre_blind, va_recv hKc hPc (ci := ci) (q0 := 0) hc he, fun U hU hW => ⟨rfl, by rw [hU], by rw [hU]; exact hPc, va_K.moved hW.alike hKc, hDc.weaken (fun _ _ _ _ => trivial)⟩⟩ rfl hn hsize rfl (lv_room (m := m) (pc := pc) (ls := ls) (rest := As.reverse ++ .ref b :: rest) hW) hdg hf) hS (fun q _ h => hFc q h) hFc (fun r u t H1 locs1 ht hvm hw hB hz1 hk1 hS1 => ?_)
  obtain ⟨hP1, -, hD1⟩ := hB
  rw [ht] at hP1
  obtain ⟨hP2, hD2⟩ := va_join hP hD isC isR hC hR hnd hdis hk1 hFc hP1 hD1
  exact kk r u H1 locs1 hw hP2 hD2 hS1
theorem kv_l {post : Int64 → va_W → Prop} (S : CallFix p m c cc nL s args Ts own) (hM : Met l y wk rm (kPre D tysC (.ref b :: As) H.size wc) (kQl D tysC H.size wc post) 0 0 (va_A wc H.size)) (cw : CallW R s args own q.1 index y bytes maxL ret wk rm 0 0 n)
    (hK : va_K D vwCl tys s) (hKc : va_K D vwCl tysC s) (hP : va_P D vwCl ws H) (hD : va_D A ws) (hS : va_S A H0 H locs) (hA : ∀ q, H0.size ≤ q → A q) (isC isR : List Nat) (hC : isC.map (fun i => ws[i]?) = wc.map some) (hR : isR.map (fun i => ws[i]?) = wr.map some) (hnd : va_nd isR = true) (hdis : ∀ i ∈ isR, i ∉ isC) (hPc : va_P D vwCl wc H) (hDc : va_D A wc) (hc : vwCl[ci]? = some q) (he : wc[0]? = some (b, .inr (ci, fs)))
    (hn : As.length = n) (hsize : ls.size = nL) (hst : st = As.reverse ++ .ref b :: rest) (hW : (rest.map fun v => v.category).sum ≤ 8) (hdg : decode cc pc = .ok (.invokevirtual index, 3)) (hf : cells ≤ R.cells ∧ slots ≤ R.slots)
    (kk : ∀ (r : Int64) (w : va_W) (H1 : Heap) (locs1 : List Loc), post r w → va_P D vwCl (wr ++ w) H1 → va_D A (wr ++ w) → va_S A H0 H1 locs1 → W p l e R s m args below meth c H1 locs1 cells slots Q (F0 m (pc + 3) ls (.long r :: rest))) : W p l e R s m args below meth c H locs cells slots Q (F0 m pc ls st) := by
  subst hst
  have hFc := va_free (wc := wc) hD hS hA isC hC
  refine va_calll (va_runV S hM cw ⟨kPre_blind, va_recv hKc hPc (ci := ci) (q0 := 0) hc he, fun U hU hW => ⟨rfl, by rw [hU], by rw [hU]; exact hPc, va_K.moved hW.alike hKc, hDc.weaken (fun _ _ _ _ => trivial)⟩⟩ rfl hn hsize rfl (lv_room (m := m) (pc := pc) (ls := ls) (rest := As.reverse ++ .ref b :: rest) hW) hdg hf) hS (fun q _ h => hFc q h) hFc (fun r u t H1 locs1 ht hvm hw hB hz1 hk1 hS1 => ?_)
  obtain ⟨hP1, -, hD1⟩ := hB
  rw [ht] at hP1
  obtain ⟨hP2, hD2⟩ := va_join hP hD isC isR hC hR hnd hdis hk1 hFc hP1 hD1
  exact kk r u H1 locs1 hw hP2 hD2 hS1
end WV
/-- ends -/
theorem kr_v {post : va_W → Prop} {wc w : va_W} {sz : Nat} (hx : p.tables.exec = Jvm.exec) (hb : c.code = cc) (hr : meth.sig.returnType = none) (hlocks : meth.locks = false) (hK : va_K D vwCl tys s) (hP : va_P D vwCl w H) (hD : va_D (va_A wc sz) w) (hS : va_S (va_A wc sz) s.heap H locs) (hq : post w) (hdg : decode cc pc = .ok (.return_, 1)) : W p l e R s m args below meth c H locs cells slots (MQ below (kQv D tys sz wc post) args s cells slots (va_A wc sz)) (F0 m pc ls []) :=
  W.vret hx hb hr (fun t ht hW => ⟨⟨w, rfl, hq, by rw [ht]; exact hP, va_K.moved hW.alike hK, hD⟩, hS.F ht⟩) hS.2.2 hdg
theorem kr_i {post : Int32 → va_W → Prop} {wc w : va_W} {sz : Nat} {v : Int32} (hx : p.tables.exec = Jvm.exec) (hb : c.code = cc) (hr : meth.sig.returnType = some .int) (hlocks : meth.locks = false) (hK : va_K D vwCl tys s) (hP : va_P D vwCl w H) (hD : va_D (va_A wc sz) w) (hS : va_S (va_A wc sz) s.heap H locs) (hq : post v w) (hdg : decode cc pc = .ok (.ireturn, 1)) : W p l e R s m args below meth c H locs cells slots (MQ below (kQi D tys sz wc post) args s cells slots (va_A wc sz)) (F0 m pc ls [.int v]) :=
  W.iret hx hb hr (fun t ht hW => ⟨⟨v, w, rfl, hq, by rw [ht]; exact hP, va_K.moved hW.alike hK, hD⟩, hS.F ht⟩) hS.2.2 hdg
theorem kr_z {post : Int32 → va_W → Prop} {wc w : va_W} {sz : Nat} {v : Int32} (hx : p.tables.exec = Jvm.exec) (hb : c.code = cc) (hr : meth.sig.returnType = some .boolean) (hnv : narrow .boolean (.int v) = .int v) (hlocks : meth.locks = false) (hK : va_K D vwCl tys s) (hP : va_P D vwCl w H) (hD : va_D (va_A wc sz) w) (hS : va_S (va_A wc sz) s.heap H locs) (hq : post v w) (hdg : decode cc pc = .ok (.ireturn, 1)) : W p l e R s m args below meth c H locs cells slots (MQ below (kQi D tys sz wc post) args s cells slots (va_A wc sz)) (F0 m pc ls [.int v]) :=
  W.zret hx hb hr hnv (fun t ht hW => ⟨⟨v, w, rfl, hq, by rw [ht]; exact hP, va_K.moved hW.alike hK, hD⟩, hS.F ht⟩) hS.2.2 hdg
theorem kr_l {post : Int64 → va_W → Prop} {wc w : va_W} {sz : Nat} {v : Int64} (hx : p.tables.exec = Jvm.exec) (hb : c.code = cc) (hr : meth.sig.returnType = some .long) (hlocks : meth.locks = false) (hK : va_K D vwCl tys s) (hP : va_P D vwCl w H) (hD : va_D (va_A wc sz) w) (hS : va_S (va_A wc sz) s.heap H locs) (hq : post v w) (hdg : decode cc pc = .ok (.lreturn, 1)) : W p l e R s m args below meth c H locs cells slots (MQ below (kQl D tys sz wc post) args s cells slots (va_A wc sz)) (F0 m pc ls [.long v]) :=
  W.lret hx hb hr (fun t ht hW => ⟨⟨v, w, rfl, hq, by rw [ht]; exact hP, va_K.moved hW.alike hK, hD⟩, hS.F ht⟩) hS.2.2 hdg
theorem kr_Sl {post : Int64 → Prop} {v : Int64} (hx : p.tables.exec = Jvm.exec) (hb : c.code = cc) (hr : meth.sig.returnType = some .long) (hlocks : meth.locks = false) (hq : post v) (hdg : decode cc pc = .ok (.lreturn, 1)) : W p l e R s m args below meth c s.heap [] cells slots (MQ below (vp_Sl post) args s cells slots (fun _ => False)) (F0 m pc ls [.long v]) :=
  W.lret hx hb hr (fun t ht hW => ⟨v, rfl, hq, ht⟩) (fun _ h => absurd h List.not_mem_nil) hdg
theorem kr_Si {post : Int32 → Prop} {v : Int32} (hx : p.tables.exec = Jvm.exec) (hb : c.code = cc) (hr : meth.sig.returnType = some .int) (hlocks : meth.locks = false) (hq : post v) (hdg : decode cc pc = .ok (.ireturn, 1)) : W p l e R s m args below meth c s.heap [] cells slots (MQ below (vp_Si post) args s cells slots (fun _ => False)) (F0 m pc ls [.int v]) :=
  W.iret hx hb hr (fun t ht hW => ⟨v, rfl, hq, ht⟩) (fun _ h => absurd h List.not_mem_nil) hdg
theorem kr_Sz {post : Int32 → Prop} {v : Int32} (hx : p.tables.exec = Jvm.exec) (hb : c.code = cc) (hr : meth.sig.returnType = some .boolean) (hnv : narrow .boolean (.int v) = .int v) (hlocks : meth.locks = false) (hq : post v) (hdg : decode cc pc = .ok (.ireturn, 1)) : W p l e R s m args below meth c s.heap [] cells slots (MQ below (vp_Si post) args s cells slots (fun _ => False)) (F0 m pc ls [.int v]) :=
  W.zret hx hb hr hnv (fun t ht hW => ⟨v, rfl, hq, ht⟩) (fun _ h => absurd h List.not_mem_nil) hdg
end WR
/-- entries -/
theorem k_metS {l : Launch} {y : MethodName} {ws ws' : List Cond} {rm : Room} {cc : ByteArray} {maxL : Nat} {ret : Option FieldType} {av : List Value} {Qc : Array Value → State → Outcome → State → Prop} (hy : plainName y.cls = true) (hw : ws = Cond.code y cc maxL ret :: ws') (hsl : (lg_sl av).length ≤ maxL)
    (body : ∀ (p : Program) (e : Env) (s : State) (m : MethodId) (below : List Frame) (meth : Method) (c : Code) (ls : Array Slot), p.tables.exec = Jvm.exec → c.code = cc → meth.sig.returnType = ret → meth.locks = false → c.maxLocals = maxL → s.vm.findClass y.cls = some m.cls → (∀ w ∈ ws, w.before av.toArray s = true) → lv_has ls maxL (lv_args 0 av) →
      W p l e rm s m av.toArray below meth c s.heap [] 0 0 (MQ below Qc av.toArray s 0 0 (fun _ => False)) (F0 m 0 ls [])) : Met l y ws rm (va_Pc av (fun _ => True)) Qc 0 0 (fun _ => False) := by
  refine Met.ofW (cc := cc) (maxL := maxL) (ret := ret) hy hw ?_
  intro p e s m args below meth c s₁ B hml hv
  obtain ⟨rfl, -⟩ := hv
  rw [lg_entry_eq]
  exact body p e s m below meth c _ B.exec B.bytes B.returns B.notSynchronized hml (findClass_of_methodNamed B.named) (atoms_spec (ws := ws) B.pre) (lv_entry av hsl)
theorem k_met {l : Launch} {y : MethodName} {ws ws' : List Cond} {rm : Room} {cc : ByteArray} {maxL mc ms sz : Nat} {ret : Option FieldType} {av : List Value} {D : va_G} {tys : List (ClassId × FieldType)} {wc : va_W} {Qc : Array Value → State → Outcome → State → Prop} (hy : plainName y.cls = true) (hw : ws = Cond.code y cc maxL ret :: ws') (hsl : (lg_sl av).length ≤ maxL)
    (body : ∀ (p : Program) (e : Env) (s : State) (m : MethodId) (below : List Frame) (meth : Method) (c : Code) (ls : Array Slot), p.tables.exec = Jvm.exec → c.code = cc → meth.sig.returnType = ret → meth.locks = false → c.maxLocals = maxL → s.vm.findClass y.cls = some m.cls → (∀ w ∈ ws, w.before av.toArray s = true) → meth.name = y.name → va_K D vwCl tys s → va_P D vwCl wc s.heap → va_D (va_A wc sz) wc → va_S (va_A wc sz) s.heap s.heap [] → (∀ q, s.heap.size ≤ q → va_A wc sz q) → lv_has ls maxL (lv_args 0 av) →
      W p l e rm s m av.toArray below meth c s.heap [] 0 0 (MQ below Qc av.toArray s mc ms (va_A wc sz)) (F0 m 0 ls [])) : Met l y ws rm (kPre D tys av sz wc) Qc mc ms (va_A wc sz) := by
  refine Met.ofW (cc := cc) (maxL := maxL) (ret := ret) hy hw ?_
  intro p e s m args below meth c s₁ B hml hv
  obtain ⟨rfl, hsz, hP, hK, hD0⟩ := hv
  subst hsz
  rw [lg_entry_eq]
  exact body p e s m below meth c _ B.exec B.bytes B.returns B.notSynchronized hml (findClass_of_methodNamed B.named) (atoms_spec (ws := ws) B.pre) (name_of_methodNamed B.named B.method).1 hK hP (hD0.self (sz := s.heap.size)) va_S.rf (fun q h => Or.inr h) (lv_entry av hsl)
/-- the worlds of the two classes -/
abbrev w3 (h0 h1 h2 : Nat) (cA cB : ClassId) (f g : Nat → Int64) : va_W := [(h0, .inr (0, [.ref h1, .ref h2])), (h1, .inl (cA, 1024, .inr (.inl f))), (h2, .inl (cB, 1024, .inr (.inl g)))]
abbrev w4 (h0 h1 h2 h3 : Nat) (cA cB cC : ClassId) (f g u : Nat → Int64) (k : Int32) : va_W := [(h0, .inr (1, [.ref h1, .ref h2, .ref h3, .int k])), (h1, .inl (cA, 1024, .inr (.inl f))), (h2, .inl (cB, 1024, .inr (.inl g))), (h3, .inl (cC, 1024, .inr (.inl u)))]
end
section
/-! the static methods of both classes: what they answer -/
theorem zl_ne {P : Nat} (h0 : 0 < P) (h : P < 2 ^ 63) : ¬ lN P = 0 := by
  intro q
  have h1 := pk_lT h
  rw [q] at h1
  have : (0 : Int64).toInt = 0 := by decide
  omega
theorem zi_ne {P : Nat} (h0 : 0 < P) (h : P < 2 ^ 31) : ¬ nI P = 0 := nI_ne0 h0 h
theorem k_metSF {l : Launch} {y : MethodName} {ws ws' : List Cond} {rm : Room} {cc : ByteArray} {maxL : Nat} {ret : Option FieldType} {av : List Value} {Qc : Array Value → State → Outcome → State → Prop} (hy : plainFor y = true) (hw : ws = Cond.code y cc maxL ret :: ws') (hsl : (lg_sl av).length ≤ maxL)
    (body : ∀ (p : Program) (e : Env) (s : State) (m : MethodId) (below : List Frame) (meth : Method) (c : Code) (ls : Array Slot), p.tables.exec = Jvm.exec → c.code = cc → meth.sig.returnType = ret → meth.locks = false → c.maxLocals = maxL → s.vm.findClass y.cls = some m.cls → (∀ w ∈ ws, w.before av.toArray s = true) → lv_has ls maxL (lv_args 0 av) →
      W p l e rm s m av.toArray below meth c s.heap [] 0 0 (MQ below Qc av.toArray s 0 0 (fun _ => False)) (F0 m 0 ls [])) : Met l y ws rm (va_Pc av (fun _ => True)) Qc 0 0 (fun _ => False) := by
  refine va_MetF (cc := cc) (maxL := maxL) (ret := ret) hy hw ?_
  intro p e s m args below meth c s₁ B hml hv
  obtain ⟨rfl, -⟩ := hv
  rw [lg_entry_eq]
  exact body p e s m below meth c _ B.exec B.bytes B.returns B.notSynchronized hml (findClass_of_methodNamed B.named) (atoms_spec (ws := ws) B.pre) (lv_entry av hsl)
def zsz (n : Int32) : Prop := ∃ L, L ≤ 10 ∧ n = nI (2 ^ L)
def zok (q : Int32) : Prop := ∃ P, q = nI P ∧ 3 ≤ P ∧ P ≤ 1000000007 ∧ ztd P
def zgo (n q : Int32) (L P : Nat) : Prop := L ≤ 10 ∧ n = nI (2 ^ L) ∧ q = nI P ∧ 3 ≤ P ∧ P ≤ 1000000007 ∧ ztd P
def zrf (n q r : Int32) : Prop := (r = -1 ∧ ¬ zsz n) ∨ (r = -2 ∧ zsz n ∧ ¬ zok q) ∨ (r = -3 ∧ ∃ L P, zgo n q L P ∧ ¬ 2 ^ L ∣ P - 1) ∨ (r = 0 ∧ ∃ L P, zgo n q L P ∧ 2 ^ L ∣ P - 1)
theorem z_2pow {L : Nat} (h : L ≤ 10) : 1 ≤ 2 ^ L ∧ 2 ^ L ≤ 1024 := ⟨Nat.two_pow_pos L, Nat.pow_le_pow_right (by omega) h⟩
theorem z_and1 : ∀ j : Fin 1025, 1 ≤ j.val → ((nI j.val &&& (nI j.val - 1)) = 0 ↔ ∃ L : Fin 11, j.val = 2 ^ L.val) := by decide +kernel
theorem z_and {j : Nat} (h1 : 1 ≤ j) (h2 : j ≤ 1024) : (nI j &&& (nI j - 1)) = 0 ↔ zsz (nI j) := by
  refine (z_and1 ⟨j, by omega⟩ h1).trans ⟨fun ⟨L, hL⟩ => ⟨L.val, by omega, by rw [← hL]⟩, fun ⟨L, hL, e⟩ => ⟨⟨L, by omega⟩, ?_⟩⟩
  have := z_2pow hL
  show j = 2 ^ L
  exact (nI_eq (by omega) (by omega)).mp e
theorem zsz_lo {n : Int32} (h : n < 1) : ¬ zsz n := by
  intro ⟨L, hL, e⟩
  have := z_2pow hL
  subst e
  exact nI_ge (a := 0) (b := 2 ^ L) (by omega) (by omega) (by
    have h1 := Int32.lt_iff_toInt_lt.mp h
    rw [nI_toInt (by omega)] at h1
    have : (1 : Int32).toInt = 1 := by decide
    omega)
theorem zsz_hi {n : Int32} (h : 1024 < n) : ¬ zsz n := by
  intro ⟨L, hL, e⟩
  have := z_2pow hL
  subst e
  have h1 := Int32.lt_iff_toInt_lt.mp h
  rw [nI_toInt (by omega)] at h1
  have : (1024 : Int32).toInt = 1024 := by decide
  omega
theorem zi_of {q : Int32} {a b : Int32} (a' b' : Nat) (ha : a.toInt = (a' : Int)) (hb : b.toInt = (b' : Int)) (h1 : ¬ q < a) (h2 : ¬ b < q) : ∃ j, q = nI j ∧ a' ≤ j ∧ j ≤ b' := by
  have e1 := Int32.lt_iff_toInt_lt (x := q) (y := a)
  have e2 := Int32.lt_iff_toInt_lt (x := b) (y := q)
  have hlt := b.toInt_lt
  have h0 : ¬ q < 0 := by
    intro h
    have h3 := Int32.lt_iff_toInt_lt.mp h
    have : (0 : Int32).toInt = 0 := by decide
    exact h1 (e1.mpr (by omega))
  obtain ⟨j, hj, rfl⟩ := nI_of h0
  rw [nI_toInt hj] at e1 e2
  exact ⟨j, rfl, by
    rcases Nat.lt_or_ge j a' with q | q
    · exact absurd (e1.mpr (by omega)) h1
    · exact q, by
    rcases Nat.lt_or_ge b' j with q | q
    · exact absurd (e2.mpr (by omega)) h2
    · exact q⟩
theorem zi_lt {j : Nat} {a : Int32} (a' : Nat) (ha : a.toInt = (a' : Int)) (hj : j < 2 ^ 31) : nI j < a ↔ j < a' := by
  rw [Int32.lt_iff_toInt_lt, nI_toInt hj]; omega
theorem zi_gt {j : Nat} {a : Int32} (a' : Nat) (ha : a.toInt = (a' : Int)) (hj : j < 2 ^ 31) : a < nI j ↔ a' < j := by
  rw [Int32.lt_iff_toInt_lt, nI_toInt hj]; omega
theorem zok_nI {P : Nat} (hP : P < 2 ^ 31) : zok (nI P) ↔ 3 ≤ P ∧ P ≤ 1000000007 ∧ ztd P := by
  constructor
  · intro ⟨Q, e, h⟩
    have := (nI_eq hP (by omega)).mp e
    rw [this]; exact h
  · intro h; exact ⟨P, rfl, h⟩
theorem zok_lo {q : Int32} (h : q < 3) : ¬ zok q := by
  intro ⟨P, e, h1, h2, _⟩
  subst e
  exact absurd ((zi_lt 3 (by decide) (by omega)).mp h) (by omega)
theorem zok_hi {q : Int32} (h : 1000000007 < q) : ¬ zok q := by
  intro ⟨P, e, h1, h2, _⟩
  subst e
  exact absurd ((zi_gt 1000000007 (by decide) (by omega)).mp h) (by omega)
theorem z_sq {D b : Nat} (h : D * D ≤ b * b + 2 * b) : D ≤ b := by
  rcases Nat.lt_or_ge b D with q | q
  · have : (b + 1) * (b + 1) ≤ D * D := Nat.mul_le_mul q q
    have e : (b + 1) * (b + 1) = b * b + 2 * b + 1 := by grind
    omega
  · exact q
/-- a number with no odd divisor up to its root, and no even one -/
theorem z_td_odd {P D : Nat} (hodd : P % 2 = 1) (h : ∀ d, 3 ≤ d → d % 2 = 1 → d < D → ¬ d ∣ P) (hD : P < D * D) : ztd P := by
  intro d h2 hd hdv
  have hlt : d < D := by
    rcases Nat.lt_or_ge d D with q | q
    · exact q
    · have := Nat.mul_le_mul q q; omega
  by_cases e : d % 2 = 1
  · exact h d (by omega) e hlt hdv
  · have : 2 ∣ P := Nat.dvd_trans (Nat.dvd_of_mod_eq_zero (by omega)) hdv
    omega
theorem z_td_all {P D : Nat} (h : ∀ d, 2 ≤ d → d < D → ¬ d ∣ P) (hD : P < D * D) : ztd P := by
  intro d h2 hd hdv
  have hlt : d < D := by
    rcases Nat.lt_or_ge d D with q | q
    · exact q
    · have := Nat.mul_le_mul q q; omega
  exact h d h2 hlt hdv
theorem z_or1 : ∀ A : Fin 1024, ∀ b : Fin 2, nI (A.val * 2 ^ 1) ||| nI b.val = nI (2 * A.val + b.val) := by decide +kernel
theorem z_or {A b : Nat} (hA : A < 1024) (hb : b < 2) : nI (A * 2 ^ 1) ||| nI b = nI (2 * A + b) := z_or1 ⟨A, hA⟩ ⟨b, hb⟩
theorem zrf_un {n q r r' : Int32} (h : zrf n q r) (g : zrf n q r') : r = r' := by
  have up : ∀ {L P : Nat}, zgo n q L P → zsz n ∧ zok q := fun ⟨a1, a2, a3, a4, a5, a6⟩ => ⟨⟨_, a1, a2⟩, ⟨_, a3, a4, a5, a6⟩⟩
  have un : ∀ {L P L' P' : Nat}, zgo n q L P → zgo n q L' P' → 2 ^ L ∣ P - 1 → 2 ^ L' ∣ P' - 1 := by
    intro L P L' P' ⟨a1, a2, a3, a4, a5, a6⟩ ⟨b1, b2, b3, b4, b5, b6⟩ hd
    have x1 := z_2pow a1
    have x2 := z_2pow b1
    have e1 : 2 ^ L = 2 ^ L' := (nI_eq (by omega) (by omega)).mp (a2.symm.trans b2)
    have e2 : P = P' := (nI_eq (by omega) (by omega)).mp (a3.symm.trans b3)
    rw [← e1, ← e2]; exact hd
  rcases h with ⟨rfl, h1⟩ | ⟨rfl, h1, h2⟩ | ⟨rfl, L, P, h1, h2⟩ | ⟨rfl, L, P, h1, h2⟩ <;> rcases g with ⟨rfl, g1⟩ | ⟨rfl, g1, g2⟩ | ⟨rfl, L', P', g1, g2⟩ | ⟨rfl, L', P', g1, g2⟩ <;> first
    | rfl
    | exact absurd g1 h1
    | exact absurd h1 g1
    | exact absurd (up g1).1 h1
    | exact absurd (up h1).1 g1
    | exact absurd (up g1).2 h2
    | exact absurd (up h1).2 g2
    | exact absurd (un g1 h1 g2) h2
    | exact absurd (un h1 g1 h2) g2
set_option maxHeartbeats 4000000 in
set_option maxRecDepth 100000 in
theorem m_product (l : Launch) (av bv P : Nat) (hP : P ≤ 1000000007) (ha : av < P) (hbv : bv < P) : Met l yX0_product wsX0_product ({ frames := 0, cells := 0, slots := 0, locals := 0 }) (va_Pc [.long (lN av), .long (lN bv), .long (lN P)] (fun _ => True)) (vp_Sl (fun r => r = lN (av * bv % P))) 0 0 (fun _ => False) := by
  refine k_metS (cc := cX0_product) (maxL := 6) (ret := (some .long)) (by decide +kernel) rfl (Nat.le_of_ble_eq_true rfl) ?_
  intro p e s m below meth c ls hx hb hr hlocks hml hown hts hl
  have hl : lv_has ls 6 [(0, .long (lN av)), (2, .long (lN bv)), (4, .long (lN P))] := hl
  refine lv_lload_n hx hb dX0_product_0 rfl (lv_at hl 0 rfl) ?_
  refine lv_lload_n hx hb dX0_product_1 rfl (lv_at hl 1 rfl) ?_
  refine lv_lmul hx hb dX0_product_2 ?_
  refine lv_lload hx hb dX0_product_3 (lv_at hl 2 rfl) ?_
  refine lv_lrem hx hb dX0_product_5 (zl_ne (by omega) (by omega)) ?_
  refine kt_l (v := lN (av * bv % P)) (z_pr hP ha hbv) ?_
  exact kr_Sl hx hb hr hlocks rfl dX0_product_6
set_option maxHeartbeats 4000000 in
set_option maxRecDepth 100000 in
theorem m_floorMod (l : Launch) (v : Int64) (P : Nat) (h0 : 0 < P) (h : P < 2 ^ 31) : Met l yJ9_floorMod_f86c9 wsJ9_floorMod_f86c9 ({ frames := 0, cells := 0, slots := 0, locals := 0 }) (va_Pc [.long v, .long (lN P)] (fun _ => True)) (vp_Sl (fun r => r = lN (zrs P v))) 0 0 (fun _ => False) := by
  refine k_metSF (cc := cJ9_floorMod_f86c9) (maxL := 6) (ret := (some .long)) (by decide +kernel) rfl (Nat.le_of_ble_eq_true rfl) ?_
  intro p e s m below meth c ls hx hb hr hlocks hml hown hts hl
  have hl : lv_has ls 6 [(0, .long v), (2, .long (lN P))] := hl
  refine lv_lload_n hx hb dJ9_floorMod_f86c9_0 rfl (lv_at hl 0 rfl) ?_
  refine lv_lload_n hx hb dJ9_floorMod_f86c9_1 rfl (lv_at hl 1 rfl) ?_
  refine lv_lrem hx hb dJ9_floorMod_f86c9_2 (zl_ne h0 (by omega)) ?_
  refine lv_lstore (lv' := [(4, .long ((v) - (v) / ((lN P)) * ((lN P)))), (0, .long v), (2, .long (lN P))]) hx hb dJ9_floorMod_f86c9_3 hl (by decide) rfl (fun ls hl => ?_)
  refine lv_lload_n hx hb dJ9_floorMod_f86c9_5 rfl (lv_at hl 1 rfl) ?_
  refine lv_lload_n hx hb dJ9_floorMod_f86c9_6 rfl (lv_at hl 2 rfl) ?_
  refine lv_lxor hx hb dJ9_floorMod_f86c9_7 ?_
  refine lv_lconst (v := 0) hx hb dJ9_floorMod_f86c9_8 (by decide) ?_
  refine W.lcmp hx hb dJ9_floorMod_f86c9_9 ?_
  refine lv_if_ge (tgt := 25) hx hb dJ9_floorMod_f86c9_10 (by decide) (fun hc => ?_) (fun hc => ?_)
  · have hv : ¬ v < 0 := fun q => absurd ((lg_cmp_ge _ _).mp hc) (Int64.not_le.mpr ((z_xor_neg v h).mpr q))
    refine lv_lload hx hb dJ9_floorMod_f86c9_25 (lv_at hl 0 rfl) ?_
    exact kr_Sl hx hb hr hlocks (zfm_pos h0 h hv) dJ9_floorMod_f86c9_27
  · have hv : v < 0 := (z_xor_neg v h).mp (Int64.not_le.mp fun q => hc ((lg_cmp_ge _ _).mpr q))
    refine lv_lload hx hb dJ9_floorMod_f86c9_13 (lv_at hl 0 rfl) ?_
    refine lv_lconst (v := 0) hx hb dJ9_floorMod_f86c9_15 (by decide) ?_
    refine W.lcmp hx hb dJ9_floorMod_f86c9_16 ?_
    refine lv_if_eq (tgt := 25) hx hb dJ9_floorMod_f86c9_17 (by decide) (fun hc2 => ?_) (fun hc2 => ?_)
    · refine lv_lload hx hb dJ9_floorMod_f86c9_25 (lv_at hl 0 rfl) ?_
      exact kr_Sl hx hb hr hlocks (zfm_zero h0 h ((lg_cmp_eq _ _).mp hc2)) dJ9_floorMod_f86c9_27
    · refine lv_lload hx hb dJ9_floorMod_f86c9_20 (lv_at hl 0 rfl) ?_
      refine lv_lload_n hx hb dJ9_floorMod_f86c9_22 rfl (lv_at hl 2 rfl) ?_
      refine lv_ladd hx hb dJ9_floorMod_f86c9_23 ?_
      exact kr_Sl hx hb hr hlocks (zfm_neg h0 h hv fun q => hc2 ((lg_cmp_eq _ _).mpr q)) dJ9_floorMod_f86c9_24
set_option maxHeartbeats 4000000 in
set_option maxRecDepth 100000 in
theorem m_rest (l : Launch) (v : Int64) (P : Nat) (h0 : 0 < P) (h : P < 2 ^ 31) : Met l yX0_rest wsX0_rest ({ frames := 1, cells := 0, slots := 0, locals := 25 }) (va_Pc [.long v, .long (lN P)] (fun _ => True)) (vp_Sl (fun r => r = lN (zrs P v))) 0 0 (fun _ => False) := by
  refine k_metS (cc := cX0_rest) (maxL := 4) (ret := (some .long)) (by decide +kernel) rfl (Nat.le_of_ble_eq_true rfl) ?_
  intro p e s m below meth c ls hx hb hr hlocks hml hown hts hl
  have hl : lv_has ls 4 [(0, .long v), (2, .long (lN P))] := hl
  refine lv_lload_n hx hb dX0_rest_0 rfl (lv_at hl 0 rfl) ?_
  refine lv_lload_n hx hb dX0_rest_1 rfl (lv_at hl 1 rfl) ?_
  refine kc_lv (As := [.long v, .long (lN P)]) (rest := []) ⟨hx, hb, hml, hown, hts⟩ (m_floorMod l v P h0 h) (va_cwS 2 hts gX0_rest_J9_floorMod_f86c9 rfl rfl rfl (by decide +kernel) ⟨Nat.le_of_ble_eq_true rfl, Nat.le_of_ble_eq_true rfl⟩) rfl hl.1 rfl (Nat.le_of_ble_eq_true rfl) dX0_rest_2 ⟨Nat.zero_le _, Nat.zero_le _⟩ ?_
  exact kr_Sl hx hb hr hlocks rfl dX0_rest_5
theorem z_even {P r b q : Nat} (h : q % 2 = 0) : r * b ^ q % P = r * (b * b % P) ^ (q / 2) % P := by
  refine zc_modeq ?_
  have e : b ^ q = (b * b) ^ (q / 2) := by
    have e2 : q = 2 * (q / 2) := by omega
    conv => lhs; rw [e2]
    rw [Nat.pow_mul, Nat.pow_two]
  rw [e, Int.natCast_mul, Int.natCast_mul, Int.natCast_pow, Int.natCast_pow]
  exact zc_mul (zc_rf _) (zc_pow (zc_sy (zc_mod P _)) _)
theorem z_odd {P r b q : Nat} (h : q % 2 = 1) : r * b ^ q % P = r * b % P * (b * b % P) ^ (q / 2) % P := by
  refine zc_modeq ?_
  have e : r * b ^ q = r * b * (b * b) ^ (q / 2) := by
    have e2 : q = 2 * (q / 2) + 1 := by omega
    conv => lhs; rw [e2]
    rw [Nat.pow_succ, Nat.pow_mul, Nat.pow_two]
    grind
  rw [e, Int.natCast_mul (r * b), Int.natCast_mul (r * b % P), Int.natCast_pow, Int.natCast_pow]
  exact zc_mul (zc_sy (zc_mod P _)) (zc_pow (zc_sy (zc_mod P _)) _)
set_option maxHeartbeats 4000000 in
set_option maxRecDepth 100000 in
theorem m_power (l : Launch) (av E P : Nat) (hP : P ≤ 1000000007) (ha : av < P) (h1 : 1 < P) (hE : E < 2 ^ 31) : Met l yX0_power wsX0_power ({ frames := 1, cells := 0, slots := 0, locals := 25 }) (va_Pc [.long (lN av), .int (nI E), .long (lN P)] (fun _ => True)) (vp_Sl (fun r => r = lN (av ^ E % P))) 0 0 (fun _ => False) := by
  refine k_metS (cc := cX0_power) (maxL := 10) (ret := (some .long)) (by decide +kernel) rfl (Nat.le_of_ble_eq_true rfl) ?_
  intro p e s m below meth c ls hx hb hr hlocks hml hown hts hl
  have hl : lv_has ls 10 [(0, .long (lN av)), (2, .int (nI E)), (3, .long (lN P))] := hl
  refine lv_lconst (v := lN 1) hx hb dX0_power_0 (by decide) ?_
  refine lv_lstore (lv' := [(5, .long (lN 1)), (0, .long (lN av)), (2, .int (nI E)), (3, .long (lN P))]) hx hb dX0_power_1 hl (by decide) rfl (fun ls hl => ?_)
  refine lv_lload_n hx hb dX0_power_3 rfl (lv_at hl 1 rfl) ?_
  refine lv_lstore (lv' := [(7, .long (lN av)), (5, .long (lN 1)), (0, .long (lN av)), (2, .int (nI E)), (3, .long (lN P))]) hx hb dX0_power_4 hl (by decide) rfl (fun ls hl => ?_)
  refine lv_iload_n hx hb dX0_power_6 rfl (lv_at hl 3 rfl) ?_
  refine lv_istore (lv' := [(9, .int (nI E)), (7, .long (lN av)), (5, .long (lN 1)), (0, .long (lN av)), (2, .int (nI E)), (3, .long (lN P))]) hx hb dX0_power_7 hl (by decide) rfl (fun ls hl => ?_)
  have loop : ∀ (n r b q : Nat), q < n → q < 2 ^ 31 → r < P → b < P → r * b ^ q % P = av ^ E % P → ∀ (ls : Array Slot), lv_has ls 10 [(0, .long (lN av)), (2, .int (nI E)), (3, .long (lN P)), (5, .long (lN r)), (7, .long (lN b)), (9, .int (nI q))] → W p l e ({ frames := 1, cells := 0, slots := 0, locals := 25 } : Room) s m ([.long (lN av), .int (nI E), .long (lN P)] : List Value).toArray below meth c s.heap [] 0 0 (MQ below (vp_Sl (fun r => r = lN (av ^ E % P))) ([.long (lN av), .int (nI E), .long (lN P)] : List Value).toArray s 0 0 (fun _ => False)) (F0 m 9 ls []) := by
    intro n
    induction n with
    | zero => intro r b q h1; exact absurd h1 (Nat.not_lt_zero _)
    | succ n ih =>
      intro r b q hqn hq hrP hbP hinv ls hl
      have tail : ∀ (r2 : Nat), r2 < P → r2 * (b * b % P) ^ (q / 2) % P = av ^ E % P → 0 < q → ∀ (ls : Array Slot), lv_has ls 10 [(0, .long (lN av)), (2, .int (nI E)), (3, .long (lN P)), (5, .long (lN r2)), (7, .long (lN b)), (9, .int (nI q))] → W p l e ({ frames := 1, cells := 0, slots := 0, locals := 25 } : Room) s m ([.long (lN av), .int (nI E), .long (lN P)] : List Value).toArray below meth c s.heap [] 0 0 (MQ below (vp_Sl (fun r => r = lN (av ^ E % P))) ([.long (lN av), .int (nI E), .long (lN P)] : List Value).toArray s 0 0 (fun _ => False)) (F0 m 32 ls []) := by
        intro r2 hr2 hinv2 hq0 ls hl
        refine lv_lload hx hb dX0_power_32 (lv_at hl 4 rfl) ?_
        refine lv_lload hx hb dX0_power_34 (lv_at hl 4 rfl) ?_
        refine lv_lload_n hx hb dX0_power_36 rfl (lv_at hl 2 rfl) ?_
        refine kc_lv (As := [.long (lN b), .long (lN b), .long (lN P)]) (rest := []) ⟨hx, hb, hml, hown, hts⟩ (m_product l b b P hP hbP hbP) (va_cwS 3 hts gX0_power_X0_product rfl rfl rfl (by decide +kernel) ⟨Nat.le_of_ble_eq_true rfl, Nat.le_of_ble_eq_true rfl⟩) rfl hl.1 rfl (Nat.le_of_ble_eq_true rfl) dX0_power_37 ⟨Nat.zero_le _, Nat.zero_le _⟩ ?_
        refine lv_lstore (lv' := [(7, .long (lN (b * b % P))), (0, .long (lN av)), (2, .int (nI E)), (3, .long (lN P)), (5, .long (lN r2)), (9, .int (nI q))]) hx hb dX0_power_40 hl (by decide) rfl (fun ls hl => ?_)
        refine lv_iload hx hb dX0_power_42 (lv_at hl 5 rfl) ?_
        refine lv_iconst (v := (1 : Int32)) hx hb dX0_power_44 (by decide) ?_
        refine lv_ishr hx hb dX0_power_45 ?_
        refine kt_i (v := nI (q / 2)) (pk_shrN (by omega) _ 1 (by decide)) ?_
        refine lv_istore (lv' := [(9, .int (nI (q / 2))), (7, .long (lN (b * b % P))), (0, .long (lN av)), (2, .int (nI E)), (3, .long (lN P)), (5, .long (lN r2))]) hx hb dX0_power_46 hl (by decide) rfl (fun ls hl => ?_)
        refine lv_goto (tgt := 9) hx hb dX0_power_48 (by decide) ?_
        exact ih r2 (b * b % P) (q / 2) (by omega) (by omega) hr2 (Nat.mod_lt _ (by omega)) hinv2 ls (lv_sub hl [2, 3, 4, 5, 1, 0] rfl)
      refine lv_iload hx hb dX0_power_9 (lv_at hl 5 rfl) ?_
      refine lv_if_le (tgt := 51) hx hb dX0_power_11 (by decide) (fun hc => ?_) (fun hc => ?_)
      · have hq0 : q = 0 := by
          rcases Nat.eq_zero_or_pos q with z | z
          · exact z
          · exact absurd hc (nI_nle z hq)
        subst hq0
        refine lv_lload hx hb dX0_power_51 (lv_at hl 3 rfl) ?_
        exact kr_Sl hx hb hr hlocks (by rw [← hinv, Nat.pow_zero, Nat.mul_one, Nat.mod_eq_of_lt hrP]) dX0_power_53
      · have hq0 : 0 < q := by
          rcases Nat.eq_zero_or_pos q with z | z
          · exact absurd (by rw [z, nI_0]; decide) hc
          · exact z
        refine lv_iload hx hb dX0_power_14 (lv_at hl 5 rfl) ?_
        refine lv_iconst (v := (1 : Int32)) hx hb dX0_power_16 (by decide) ?_
        refine lv_iand hx hb dX0_power_17 ?_
        refine kt_i (v := nI (q % 2)) (pk_andN (by omega) 1 (by decide)) ?_
        refine lv_iconst (v := (1 : Int32)) hx hb dX0_power_18 (by decide) ?_
        refine lv_icmp_ne (tgt := 32) hx hb dX0_power_19 (by decide) (fun hc2 => ?_) (fun hc2 => ?_)
        · have he : q % 2 = 0 := by
            rcases Nat.mod_two_eq_zero_or_one q with z | z
            · exact z
            · exact absurd (by rw [z]; rfl) hc2
          refine tail r hrP ?_ hq0 ls (lv_sub hl [0, 1, 2, 3, 4, 5] rfl)
          rw [← hinv]
          exact (z_even he).symm
        · have he : q % 2 = 1 := by
            rcases Nat.mod_two_eq_zero_or_one q with z | z
            · exact absurd (by rw [z] at hc2; exact hc2) (by decide)
            · exact z
          refine lv_lload hx hb dX0_power_22 (lv_at hl 3 rfl) ?_
          refine lv_lload hx hb dX0_power_24 (lv_at hl 4 rfl) ?_
          refine lv_lload_n hx hb dX0_power_26 rfl (lv_at hl 2 rfl) ?_
          refine kc_lv (As := [.long (lN r), .long (lN b), .long (lN P)]) (rest := []) ⟨hx, hb, hml, hown, hts⟩ (m_product l r b P hP hrP hbP) (va_cwS 3 hts gX0_power_X0_product rfl rfl rfl (by decide +kernel) ⟨Nat.le_of_ble_eq_true rfl, Nat.le_of_ble_eq_true rfl⟩) rfl hl.1 rfl (Nat.le_of_ble_eq_true rfl) dX0_power_27 ⟨Nat.zero_le _, Nat.zero_le _⟩ ?_
          refine lv_lstore (lv' := [(5, .long (lN (r * b % P))), (0, .long (lN av)), (2, .int (nI E)), (3, .long (lN P)), (7, .long (lN b)), (9, .int (nI q))]) hx hb dX0_power_30 hl (by decide) rfl (fun ls hl => ?_)
          refine tail (r * b % P) (Nat.mod_lt _ (by omega)) ?_ hq0 ls (lv_sub hl [1, 2, 3, 0, 4, 5] rfl)
          rw [← hinv]
          exact (z_odd he).symm
  exact loop (E + 1) 1 av E (by omega) hE (by omega) ha (by rw [Nat.one_mul]) ls (lv_sub hl [3, 4, 5, 2, 1, 0] rfl)
set_option maxHeartbeats 4000000 in
set_option maxRecDepth 100000 in
theorem m_inverse (l : Launch) (av P : Nat) (hP : P ≤ 1000000007) (ha : av < P) (h1 : 1 < P) : Met l yX0_inverse wsX0_inverse ({ frames := 2, cells := 0, slots := 0, locals := 54 }) (va_Pc [.long (lN av), .int (nI P)] (fun _ => True)) (vp_Sl (fun r => r = lN (av ^ (P - 2) % P))) 0 0 (fun _ => False) := by
  refine k_metS (cc := cX0_inverse) (maxL := 3) (ret := (some .long)) (by decide +kernel) rfl (Nat.le_of_ble_eq_true rfl) ?_
  intro p e s m below meth c ls hx hb hr hlocks hml hown hts hl
  have hl : lv_has ls 3 [(0, .long (lN av)), (2, .int (nI P))] := hl
  refine lv_lload_n hx hb dX0_inverse_0 rfl (lv_at hl 0 rfl) ?_
  refine lv_iload_n hx hb dX0_inverse_1 rfl (lv_at hl 1 rfl) ?_
  refine lv_iconst (v := nI 2) hx hb dX0_inverse_2 (by decide) ?_
  refine lv_isub hx hb dX0_inverse_3 ?_
  refine kt_i (v := nI (P - 2)) (pk_sub (by omega)) ?_
  refine lv_iload_n hx hb dX0_inverse_4 rfl (lv_at hl 1 rfl) ?_
  refine lv_i2l (v := lN P) hx hb dX0_inverse_5 (nI_l (by omega)) ?_
  refine kc_lv (As := [.long (lN av), .int (nI (P - 2)), .long (lN P)]) (rest := []) ⟨hx, hb, hml, hown, hts⟩ (m_power l av (P - 2) P hP ha h1 (by omega)) (va_cwS 3 hts gX0_inverse_X0_power rfl rfl rfl (by decide +kernel) ⟨Nat.le_of_ble_eq_true rfl, Nat.le_of_ble_eq_true rfl⟩) rfl hl.1 rfl (Nat.le_of_ble_eq_true rfl) dX0_inverse_6 ⟨Nat.zero_le _, Nat.zero_le _⟩ ?_
  exact kr_Sl hx hb hr hlocks rfl dX0_inverse_9
end
section
/-! the static methods, on -/
set_option maxHeartbeats 4000000 in
set_option maxRecDepth 100000 in
theorem m_isPlace (l : Launch) (q : Int32) : Met l yX0_isPlace wsX0_isPlace ({ frames := 0, cells := 0, slots := 0, locals := 0 }) (va_Pc [.int q] (fun _ => True)) (vp_Si (fun r => (r = 1 ∧ ∃ j, j < 1024 ∧ q = nI j) ∨ (r = 0 ∧ ¬ ∃ j, j < 1024 ∧ q = nI j))) 0 0 (fun _ => False) := by
  refine k_metS (cc := cX0_isPlace) (maxL := 1) (ret := (some .boolean)) (by decide +kernel) rfl (Nat.le_of_ble_eq_true rfl) ?_
  intro p e s m below meth c ls hx hb hr hlocks hml hown hts hl
  have hl : lv_has ls 1 [(0, .int q)] := hl
  refine lv_iload_n hx hb dX0_isPlace_0 rfl (lv_at hl 0 rfl) ?_
  refine lv_if_lt (tgt := 15) hx hb dX0_isPlace_1 (by decide) (fun hc => ?_) (fun hc => ?_)
  · refine lv_iconst (v := (0 : Int32)) hx hb dX0_isPlace_15 (by decide) ?_
    refine kr_Sz hx hb hr rfl hlocks (Or.inr ⟨rfl, ?_⟩) dX0_isPlace_16
    intro ⟨j, hj, e⟩
    subst e
    exact nI_pos (by omega) hc
  · refine lv_iload_n hx hb dX0_isPlace_4 rfl (lv_at hl 0 rfl) ?_
    refine lv_sipush (v := nI 1024) hx hb dX0_isPlace_5 (by decide) ?_
    refine lv_icmp_ge (tgt := 15) hx hb dX0_isPlace_8 (by decide) (fun hc2 => ?_) (fun hc2 => ?_)
    · refine lv_iconst (v := (0 : Int32)) hx hb dX0_isPlace_15 (by decide) ?_
      refine kr_Sz hx hb hr rfl hlocks (Or.inr ⟨rfl, ?_⟩) dX0_isPlace_16
      intro ⟨j, hj, e⟩
      subst e
      exact absurd ((nI_leI (by omega) (by omega)).mp hc2) (by omega)
    · refine lv_iconst (v := (1 : Int32)) hx hb dX0_isPlace_11 (by decide) ?_
      refine lv_goto (tgt := 16) hx hb dX0_isPlace_12 (by decide) ?_
      obtain ⟨j, hj, rfl⟩ := nI_of hc
      refine kr_Sz hx hb hr rfl hlocks (Or.inl ⟨rfl, j, ?_, rfl⟩) dX0_isPlace_16
      exact Nat.not_le.mp fun z => hc2 ((nI_leI (by omega) (by omega)).mpr z)
set_option maxHeartbeats 4000000 in
set_option maxRecDepth 100000 in
theorem m_isCount (l : Launch) (q : Int32) : Met l yX0_isCount wsX0_isCount ({ frames := 0, cells := 0, slots := 0, locals := 0 }) (va_Pc [.int q] (fun _ => True)) (vp_Si (fun r => (r = 1 ∧ ∃ j, j ≤ 1024 ∧ q = nI j) ∨ (r = 0 ∧ ¬ ∃ j, j ≤ 1024 ∧ q = nI j))) 0 0 (fun _ => False) := by
  refine k_metS (cc := cX0_isCount) (maxL := 1) (ret := (some .boolean)) (by decide +kernel) rfl (Nat.le_of_ble_eq_true rfl) ?_
  intro p e s m below meth c ls hx hb hr hlocks hml hown hts hl
  have hl : lv_has ls 1 [(0, .int q)] := hl
  refine lv_iload_n hx hb dX0_isCount_0 rfl (lv_at hl 0 rfl) ?_
  refine lv_if_lt (tgt := 15) hx hb dX0_isCount_1 (by decide) (fun hc => ?_) (fun hc => ?_)
  · refine lv_iconst (v := (0 : Int32)) hx hb dX0_isCount_15 (by decide) ?_
    refine kr_Sz hx hb hr rfl hlocks (Or.inr ⟨rfl, ?_⟩) dX0_isCount_16
    intro ⟨j, hj, e⟩
    subst e
    exact nI_pos (by omega) hc
  · refine lv_iload_n hx hb dX0_isCount_4 rfl (lv_at hl 0 rfl) ?_
    refine lv_sipush (v := nI 1024) hx hb dX0_isCount_5 (by decide) ?_
    refine lv_icmp_gt (tgt := 15) hx hb dX0_isCount_8 (by decide) (fun hc2 => ?_) (fun hc2 => ?_)
    · refine lv_iconst (v := (0 : Int32)) hx hb dX0_isCount_15 (by decide) ?_
      refine kr_Sz hx hb hr rfl hlocks (Or.inr ⟨rfl, ?_⟩) dX0_isCount_16
      intro ⟨j, hj, e⟩
      subst e
      exact absurd ((nI_ltI (by omega) (by omega)).mp hc2) (by omega)
    · refine lv_iconst (v := (1 : Int32)) hx hb dX0_isCount_11 (by decide) ?_
      refine lv_goto (tgt := 16) hx hb dX0_isCount_12 (by decide) ?_
      obtain ⟨j, hj, rfl⟩ := nI_of hc
      refine kr_Sz hx hb hr rfl hlocks (Or.inl ⟨rfl, j, ?_, rfl⟩) dX0_isCount_16
      exact Nat.not_lt.mp fun z => hc2 ((nI_ltI (by omega) (by omega)).mpr z)
set_option maxHeartbeats 4000000 in
set_option maxRecDepth 100000 in
theorem m_isSize (l : Launch) (q : Int32) : Met l yX0_isSize wsX0_isSize ({ frames := 0, cells := 0, slots := 0, locals := 0 }) (va_Pc [.int q] (fun _ => True)) (vp_Si (fun r => (r = 1 ∧ zsz q) ∨ (r = 0 ∧ ¬ zsz q))) 0 0 (fun _ => False) := by
  refine k_metS (cc := cX0_isSize) (maxL := 1) (ret := (some .boolean)) (by decide +kernel) rfl (Nat.le_of_ble_eq_true rfl) ?_
  intro p e s m below meth c ls hx hb hr hlocks hml hown hts hl
  have hl : lv_has ls 1 [(0, .int q)] := hl
  refine lv_iload_n hx hb dX0_isSize_0 rfl (lv_at hl 0 rfl) ?_
  refine lv_iconst (v := (1 : Int32)) hx hb dX0_isSize_1 (by decide) ?_
  refine lv_icmp_lt (tgt := 24) hx hb dX0_isSize_2 (by decide) (fun hc => ?_) (fun hc => ?_)
  · refine lv_iconst (v := (0 : Int32)) hx hb dX0_isSize_24 (by decide) ?_
    exact kr_Sz hx hb hr rfl hlocks (Or.inr ⟨rfl, zsz_lo hc⟩) dX0_isSize_25
  · refine lv_iload_n hx hb dX0_isSize_5 rfl (lv_at hl 0 rfl) ?_
    refine lv_sipush (v := (1024 : Int32)) hx hb dX0_isSize_6 (by decide) ?_
    refine lv_icmp_gt (tgt := 24) hx hb dX0_isSize_9 (by decide) (fun hc2 => ?_) (fun hc2 => ?_)
    · refine lv_iconst (v := (0 : Int32)) hx hb dX0_isSize_24 (by decide) ?_
      exact kr_Sz hx hb hr rfl hlocks (Or.inr ⟨rfl, zsz_hi hc2⟩) dX0_isSize_25
    · obtain ⟨j, rfl, j1, j2⟩ := zi_of 1 1024 (by decide) (by decide) hc hc2
      refine lv_iload_n hx hb dX0_isSize_12 rfl (lv_at hl 0 rfl) ?_
      refine lv_iload_n hx hb dX0_isSize_13 rfl (lv_at hl 0 rfl) ?_
      refine lv_iconst (v := (1 : Int32)) hx hb dX0_isSize_14 (by decide) ?_
      refine lv_isub hx hb dX0_isSize_15 ?_
      refine lv_iand hx hb dX0_isSize_16 ?_
      refine lv_if_ne (tgt := 24) hx hb dX0_isSize_17 (by decide) (fun hc3 => ?_) (fun hc3 => ?_)
      · refine lv_iconst (v := (0 : Int32)) hx hb dX0_isSize_24 (by decide) ?_
        exact kr_Sz hx hb hr rfl hlocks (Or.inr ⟨rfl, fun z => hc3 ((z_and j1 j2).mpr z)⟩) dX0_isSize_25
      · refine lv_iconst (v := (1 : Int32)) hx hb dX0_isSize_20 (by decide) ?_
        refine lv_goto (tgt := 25) hx hb dX0_isSize_21 (by decide) ?_
        exact kr_Sz hx hb hr rfl hlocks (Or.inl ⟨rfl, (z_and j1 j2).mp hc3⟩) dX0_isSize_25
set_option maxHeartbeats 4000000 in
set_option maxRecDepth 100000 in
theorem m_isUsablePrime (l : Launch) (q : Int32) : Met l yX0_isUsablePrime wsX0_isUsablePrime ({ frames := 0, cells := 0, slots := 0, locals := 0 }) (va_Pc [.int q] (fun _ => True)) (vp_Si (fun r => (r = 1 ∧ zok q) ∨ (r = 0 ∧ ¬ zok q))) 0 0 (fun _ => False) := by
  refine k_metS (cc := cX0_isUsablePrime) (maxL := 2) (ret := (some .boolean)) (by decide +kernel) rfl (Nat.le_of_ble_eq_true rfl) ?_
  intro p e s m below meth c ls hx hb hr hlocks hml hown hts hl
  have hl : lv_has ls 2 [(0, .int q)] := hl
  refine lv_iload_n hx hb dX0_isUsablePrime_0 rfl (lv_at hl 0 rfl) ?_
  refine lv_iconst (v := (3 : Int32)) hx hb dX0_isUsablePrime_1 (by decide) ?_
  refine lv_icmp_lt (tgt := 17) hx hb dX0_isUsablePrime_2 (by decide) (fun hc => ?_) (fun hc => ?_)
  · refine lv_iconst (v := (0 : Int32)) hx hb dX0_isUsablePrime_17 (by decide) ?_
    exact kr_Sz hx hb hr rfl hlocks (Or.inr ⟨rfl, zok_lo hc⟩) dX0_isUsablePrime_18
  · refine lv_iload_n hx hb dX0_isUsablePrime_5 rfl (lv_at hl 0 rfl) ?_
    refine lv_ldc hx hb hown (hts (.constant RX0 62 (1000000007)) (by decide +kernel)) dX0_isUsablePrime_6 ?_
    refine lv_icmp_gt (tgt := 17) hx hb dX0_isUsablePrime_8 (by decide) (fun hc2 => ?_) (fun hc2 => ?_)
    · refine lv_iconst (v := (0 : Int32)) hx hb dX0_isUsablePrime_17 (by decide) ?_
      exact kr_Sz hx hb hr rfl hlocks (Or.inr ⟨rfl, zok_hi hc2⟩) dX0_isUsablePrime_18
    · obtain ⟨P, rfl, j1, j2⟩ := zi_of 3 1000000007 (by decide) (by decide) hc hc2
      have hkey := zok_nI (P := P) (by omega)
      refine lv_iload_n hx hb dX0_isUsablePrime_11 rfl (lv_at hl 0 rfl) ?_
      refine lv_iconst (v := nI 2) hx hb dX0_isUsablePrime_12 (by decide) ?_
      refine lv_irem hx hb dX0_isUsablePrime_13 (by decide) ?_
      refine kt_i (v := nI (P % 2)) (pk_rem (by omega) (by omega) (by omega)) ?_
      refine lv_if_ne (tgt := 19) hx hb dX0_isUsablePrime_14 (by decide) (fun hc3 => ?_) (fun hc3 => ?_)
      · have hodd : P % 2 = 1 := by
          rcases Nat.mod_two_eq_zero_or_one P with z | z
          · exact absurd (by rw [z]; rfl) hc3
          · exact z
        refine lv_iconst (v := nI 3) hx hb dX0_isUsablePrime_19 (by decide) ?_
        refine lv_istore_n (lv' := [(1, .int (nI 3)), (0, .int (nI P))]) hx hb dX0_isUsablePrime_20 rfl hl (by decide) rfl (fun ls hl => ?_)
        have loop : ∀ (n d : Nat), 31626 ≤ d + n → 3 ≤ d → d ≤ 31625 → d % 2 = 1 → (∀ z, 3 ≤ z → z % 2 = 1 → z < d → ¬ z ∣ P) → ∀ (ls : Array Slot), lv_has ls 2 [(0, .int (nI P)), (1, .int (nI d))] → W p l e ({ frames := 0, cells := 0, slots := 0, locals := 0 } : Room) s m ([.int (nI P)] : List Value).toArray below meth c s.heap [] 0 0 (MQ below (vp_Si (fun r => (r = 1 ∧ zok (nI P)) ∨ (r = 0 ∧ ¬ zok (nI P)))) ([.int (nI P)] : List Value).toArray s 0 0 (fun _ => False)) (F0 m 21 ls []) := by
          intro n
          induction n with
          | zero => intro d h1 h2 h3; exact absurd h1 (by omega)
          | succ n ih =>
            intro d h1 h2 h3 h4 h5 ls hl
            have hdd : d * d ≤ 31625 * 31625 := Nat.mul_le_mul h3 h3
            refine lv_iload_n hx hb dX0_isUsablePrime_21 rfl (lv_at hl 1 rfl) ?_
            refine lv_iload_n hx hb dX0_isUsablePrime_22 rfl (lv_at hl 1 rfl) ?_
            refine lv_imul hx hb dX0_isUsablePrime_23 ?_
            refine kt_i (v := nI (d * d)) (pk_mul d d) ?_
            refine lv_iload_n hx hb dX0_isUsablePrime_24 rfl (lv_at hl 0 rfl) ?_
            refine lv_icmp_gt (tgt := 42) hx hb dX0_isUsablePrime_25 (by decide) (fun hc4 => ?_) (fun hc4 => ?_)
            · have hlt : P < d * d := (nI_ltI (by omega) (by omega)).mp hc4
              refine lv_iconst (v := (1 : Int32)) hx hb dX0_isUsablePrime_42 (by decide) ?_
              exact kr_Sz hx hb hr rfl hlocks (Or.inl ⟨rfl, hkey.mpr ⟨j1, j2, z_td_odd hodd h5 hlt⟩⟩) dX0_isUsablePrime_43
            · have hle : d * d ≤ P := Nat.not_lt.mp fun z => hc4 ((nI_ltI (by omega) (by omega)).mpr z)
              have hd5 : d ≤ 31622 := z_sq (by omega)
              refine lv_iload_n hx hb dX0_isUsablePrime_28 rfl (lv_at hl 0 rfl) ?_
              refine lv_iload_n hx hb dX0_isUsablePrime_29 rfl (lv_at hl 1 rfl) ?_
              refine lv_irem hx hb dX0_isUsablePrime_30 (nI_ne0 (by omega) (by omega)) ?_
              refine kt_i (v := nI (P % d)) (pk_rem (by omega) (by omega) (by omega)) ?_
              refine lv_if_ne (tgt := 36) hx hb dX0_isUsablePrime_31 (by decide) (fun hc5 => ?_) (fun hc5 => ?_)
              · have hnd : ¬ d ∣ P := by
                  intro z
                  exact hc5 (by rw [Nat.mod_eq_zero_of_dvd z]; rfl)
                refine lv_iinc (v := nI (d + 2)) (lv' := [(1, .int (nI (d + 2))), (0, .int (nI P))]) hx hb dX0_isUsablePrime_36 hl (k := 1) rfl (nI_add d 2) (by decide) rfl (fun ls hl => ?_)
                refine lv_goto (tgt := 21) hx hb dX0_isUsablePrime_39 (by decide) ?_
                refine ih (d + 2) (by omega) (by omega) (by omega) (by omega) (fun z z1 z2 z3 => ?_) ls (lv_sub hl [1, 0] rfl)
                rcases Nat.lt_or_ge z d with y | y
                · exact h5 z z1 z2 y
                · have : z = d := by omega
                  rw [this]; exact hnd
              · have hd0 : P % d = 0 := (nI_eq (by have := Nat.mod_lt P (show 0 < d by omega); omega) (by omega)).mp (hc5.trans nI_0.symm)
                refine lv_iconst (v := (0 : Int32)) hx hb dX0_isUsablePrime_34 (by decide) ?_
                refine kr_Sz hx hb hr rfl hlocks (Or.inr ⟨rfl, fun z => ?_⟩) dX0_isUsablePrime_35
                exact (hkey.mp z).2.2 d (by omega) hle (Nat.dvd_of_mod_eq_zero hd0)
        exact loop 31625 3 (by omega) (by omega) (by omega) (by omega) (fun z z1 z2 z3 => absurd z3 (by omega)) ls (lv_sub hl [1, 0] rfl)
      · have hev : P % 2 = 0 := (nI_eq (by omega) (by omega)).mp (hc3.trans nI_0.symm)
        refine lv_iconst (v := (0 : Int32)) hx hb dX0_isUsablePrime_17 (by decide) ?_
        refine kr_Sz hx hb hr rfl hlocks (Or.inr ⟨rfl, fun z => ?_⟩) dX0_isUsablePrime_18
        exact (hkey.mp z).2.2 2 (by omega) (by omega) (Nat.dvd_of_mod_eq_zero hev)
set_option maxHeartbeats 4000000 in
set_option maxRecDepth 100000 in
theorem m_refusalOf (l : Launch) (q1 q2 : Int32) : Met l yX0_refusalOf wsX0_refusalOf ({ frames := 1, cells := 0, slots := 0, locals := 21 }) (va_Pc [.int q1, .int q2] (fun _ => True)) (vp_Si (fun r => zrf q1 q2 r)) 0 0 (fun _ => False) := by
  refine k_metS (cc := cX0_refusalOf) (maxL := 2) (ret := (some .int)) (by decide +kernel) rfl (Nat.le_of_ble_eq_true rfl) ?_
  intro p e s m below meth c ls hx hb hr hlocks hml hown hts hl
  have hl : lv_has ls 2 [(0, .int q1), (1, .int q2)] := hl
  refine lv_iload_n hx hb dX0_refusalOf_0 rfl (lv_at hl 0 rfl) ?_
  refine kc_i (As := [.int q1]) (rest := []) ⟨hx, hb, hml, hown, hts⟩ (m_isSize l q1) (va_cwS 1 hts gX0_refusalOf_X0_isSize rfl rfl rfl (by decide +kernel) ⟨Nat.le_of_ble_eq_true rfl, Nat.le_of_ble_eq_true rfl⟩) rfl hl.1 rfl (Nat.le_of_ble_eq_true rfl) dX0_refusalOf_1 ⟨Nat.zero_le _, Nat.zero_le _⟩ (fun r1 hr1 => ?_)
  rcases hr1 with ⟨rfl, hs⟩ | ⟨rfl, hs⟩
  · refine lv_if_ne (tgt := 9) hx hb dX0_refusalOf_4 (by decide) (fun _ => ?_) (fun hc => absurd hc (by decide))
    refine lv_iload_n hx hb dX0_refusalOf_9 rfl (lv_at hl 1 rfl) ?_
    refine kc_i (As := [.int q2]) (rest := []) ⟨hx, hb, hml, hown, hts⟩ (m_isUsablePrime l q2) (va_cwS 1 hts gX0_refusalOf_X0_isUsablePrime rfl rfl rfl (by decide +kernel) ⟨Nat.le_of_ble_eq_true rfl, Nat.le_of_ble_eq_true rfl⟩) rfl hl.1 rfl (Nat.le_of_ble_eq_true rfl) dX0_refusalOf_10 ⟨Nat.zero_le _, Nat.zero_le _⟩ (fun r2 hr2 => ?_)
    rcases hr2 with ⟨rfl, hp⟩ | ⟨rfl, hp⟩
    · refine lv_if_ne (tgt := 19) hx hb dX0_refusalOf_13 (by decide) (fun _ => ?_) (fun hc => absurd hc (by decide))
      obtain ⟨L, hL, rfl⟩ := hs
      obtain ⟨P, rfl, hp1, hp2, hp3⟩ := hp
      have h2p := z_2pow hL
      refine lv_iload_n hx hb dX0_refusalOf_19 rfl (lv_at hl 1 rfl) ?_
      refine lv_iconst (v := nI 1) hx hb dX0_refusalOf_20 (by decide) ?_
      refine lv_isub hx hb dX0_refusalOf_21 ?_
      refine kt_i (v := nI (P - 1)) (pk_sub (by omega)) ?_
      refine lv_iload_n hx hb dX0_refusalOf_22 rfl (lv_at hl 0 rfl) ?_
      refine lv_irem hx hb dX0_refusalOf_23 (nI_ne0 (by omega) (by omega)) ?_
      refine kt_i (v := nI ((P - 1) % 2 ^ L)) (pk_rem (by omega) (by omega) (by omega)) ?_
      refine lv_if_ne (tgt := 31) hx hb dX0_refusalOf_24 (by decide) (fun hc => ?_) (fun hc => ?_)
      · have hnd : ¬ 2 ^ L ∣ P - 1 := fun z => hc (by rw [Nat.mod_eq_zero_of_dvd z]; rfl)
        refine lv_bipush (v := -3) hx hb dX0_refusalOf_31 (by decide) ?_
        exact kr_Si hx hb hr hlocks (Or.inr (Or.inr (Or.inl ⟨rfl, L, P, ⟨hL, rfl, rfl, hp1, hp2, hp3⟩, hnd⟩))) dX0_refusalOf_33
      · have hd0 : (P - 1) % 2 ^ L = 0 := (nI_eq (by have := Nat.mod_lt (P - 1) (show 0 < 2 ^ L by omega); omega) (by omega)).mp (hc.trans nI_0.symm)
        refine lv_iconst (v := (0 : Int32)) hx hb dX0_refusalOf_27 (by decide) ?_
        refine lv_goto (tgt := 33) hx hb dX0_refusalOf_28 (by decide) ?_
        exact kr_Si hx hb hr hlocks (Or.inr (Or.inr (Or.inr ⟨rfl, L, P, ⟨hL, rfl, rfl, hp1, hp2, hp3⟩, Nat.dvd_of_mod_eq_zero hd0⟩))) dX0_refusalOf_33
    · refine lv_if_ne (tgt := 19) hx hb dX0_refusalOf_13 (by decide) (fun hc => absurd rfl hc) (fun _ => ?_)
      refine lv_bipush (v := -2) hx hb dX0_refusalOf_16 (by decide) ?_
      exact kr_Si hx hb hr hlocks (Or.inr (Or.inl ⟨rfl, hs, hp⟩)) dX0_refusalOf_18
  · refine lv_if_ne (tgt := 9) hx hb dX0_refusalOf_4 (by decide) (fun hc => absurd rfl hc) (fun _ => ?_)
    refine lv_iconst (v := -1) hx hb dX0_refusalOf_7 (by decide) ?_
    exact kr_Si hx hb hr hlocks (Or.inl ⟨rfl, hs⟩) dX0_refusalOf_8
set_option maxHeartbeats 4000000 in
set_option maxRecDepth 100000 in
theorem m_mirrored (l : Launch) (k L : Nat) (hL : L ≤ 10) (hk : k < 2 ^ L) (hkk : k < 1024) : Met l yX0_mirrored wsX0_mirrored ({ frames := 0, cells := 0, slots := 0, locals := 0 }) (va_Pc [.int (nI k), .int (nI (2 ^ L))] (fun _ => True)) (vp_Si (fun r => r = nI (zr L k))) 0 0 (fun _ => False) := by
  refine k_metS (cc := cX0_mirrored) (maxL := 5) (ret := (some .int)) (by decide +kernel) rfl (Nat.le_of_ble_eq_true rfl) ?_
  intro p e s m below meth c ls hx hb hr hlocks hml hown hts hl
  have hl : lv_has ls 5 [(0, .int (nI k)), (1, .int (nI (2 ^ L)))] := hl
  refine lv_iconst (v := nI 0) hx hb dX0_mirrored_0 (by decide) ?_
  refine lv_istore_n (lv' := [(2, .int (nI 0)), (0, .int (nI k)), (1, .int (nI (2 ^ L)))]) hx hb dX0_mirrored_1 rfl hl (by decide) rfl (fun ls hl => ?_)
  refine lv_iload_n hx hb dX0_mirrored_2 rfl (lv_at hl 1 rfl) ?_
  refine lv_istore_n (lv' := [(3, .int (nI k)), (2, .int (nI 0)), (0, .int (nI k)), (1, .int (nI (2 ^ L)))]) hx hb dX0_mirrored_3 rfl hl (by decide) rfl (fun ls hl => ?_)
  refine lv_iconst (v := nI 1) hx hb dX0_mirrored_4 (by decide) ?_
  refine lv_istore (lv' := [(4, .int (nI 1)), (3, .int (nI k)), (2, .int (nI 0)), (0, .int (nI k)), (1, .int (nI (2 ^ L)))]) hx hb dX0_mirrored_5 hl (by decide) rfl (fun ls hl => ?_)
  have loop : ∀ (n t : Nat), L + 1 ≤ t + n → t ≤ L → ∀ (ls : Array Slot), lv_has ls 5 [(0, .int (nI k)), (1, .int (nI (2 ^ L))), (2, .int (nI (zr t k))), (3, .int (nI (k / 2 ^ t))), (4, .int (nI (2 ^ t)))] → W p l e ({ frames := 0, cells := 0, slots := 0, locals := 0 } : Room) s m ([.int (nI k), .int (nI (2 ^ L))] : List Value).toArray below meth c s.heap [] 0 0 (MQ below (vp_Si (fun r => r = nI (zr L k))) ([.int (nI k), .int (nI (2 ^ L))] : List Value).toArray s 0 0 (fun _ => False)) (F0 m 7 ls []) := by
    intro n
    induction n with
    | zero => intro t h1 h2; exact absurd h1 (by omega)
    | succ n ih =>
      intro t h1 h2 ls hl
      have t1 := z_2pow (show t ≤ 10 by omega)
      have t0 := z_2pow hL
      have t2 := zr_lt t k
      have t3 := Nat.div_le_self k (2 ^ t)
      refine lv_iload hx hb dX0_mirrored_7 (lv_at hl 4 rfl) ?_
      refine lv_iload_n hx hb dX0_mirrored_9 rfl (lv_at hl 1 rfl) ?_
      refine lv_icmp_ge (tgt := 34) hx hb dX0_mirrored_10 (by decide) (fun hc => ?_) (fun hc => ?_)
      · have hle : 2 ^ L ≤ 2 ^ t := (nI_leI (by omega) (by omega)).mp hc
        have ht : t = L := by
          rcases Nat.lt_or_ge t L with z | z
          · exact absurd (Nat.pow_lt_pow_right (a := 2) (by omega) z) (by omega)
          · omega
        subst ht
        refine lv_iload_n hx hb dX0_mirrored_34 rfl (lv_at hl 2 rfl) ?_
        exact kr_Si hx hb hr hlocks rfl dX0_mirrored_35
      · have hlt : t < L := by
          rcases Nat.lt_or_ge t L with z | z
          · exact z
          · exact absurd ((nI_leI (by omega) (by omega)).mpr (Nat.pow_le_pow_right (by omega) z)) hc
        refine lv_iload_n hx hb dX0_mirrored_13 rfl (lv_at hl 2 rfl) ?_
        refine lv_iconst (v := (1 : Int32)) hx hb dX0_mirrored_14 (by decide) ?_
        refine lv_ishl hx hb dX0_mirrored_15 ?_
        refine kt_i (v := nI (zr t k * 2 ^ 1)) (pk_shlN _ 1 (by decide) (by omega)) ?_
        refine lv_iload_n hx hb dX0_mirrored_16 rfl (lv_at hl 3 rfl) ?_
        refine lv_iconst (v := (1 : Int32)) hx hb dX0_mirrored_17 (by decide) ?_
        refine lv_iand hx hb dX0_mirrored_18 ?_
        refine kt_i (v := nI (k / 2 ^ t % 2)) (pk_andN (by omega) 1 (by decide)) ?_
        refine lv_ior hx hb dX0_mirrored_19 ?_
        refine kt_i (v := nI (zr (t + 1) k)) (z_or (by omega) (by omega)) ?_
        refine lv_istore_n (lv' := [(2, .int (nI (zr (t + 1) k))), (0, .int (nI k)), (1, .int (nI (2 ^ L))), (3, .int (nI (k / 2 ^ t))), (4, .int (nI (2 ^ t)))]) hx hb dX0_mirrored_20 rfl hl (by decide) rfl (fun ls hl => ?_)
        refine lv_iload_n hx hb dX0_mirrored_21 rfl (lv_at hl 3 rfl) ?_
        refine lv_iconst (v := (1 : Int32)) hx hb dX0_mirrored_22 (by decide) ?_
        refine lv_ishr hx hb dX0_mirrored_23 ?_
        refine kt_i (v := nI (k / 2 ^ (t + 1))) ((pk_shrN (by omega) _ 1 (by decide)).trans (by rw [Nat.div_div_eq_div_mul]; rfl)) ?_
        refine lv_istore_n (lv' := [(3, .int (nI (k / 2 ^ (t + 1)))), (2, .int (nI (zr (t + 1) k))), (0, .int (nI k)), (1, .int (nI (2 ^ L))), (4, .int (nI (2 ^ t)))]) hx hb dX0_mirrored_24 rfl hl (by decide) rfl (fun ls hl => ?_)
        refine lv_iload hx hb dX0_mirrored_25 (lv_at hl 4 rfl) ?_
        refine lv_iconst (v := (1 : Int32)) hx hb dX0_mirrored_27 (by decide) ?_
        refine lv_ishl hx hb dX0_mirrored_28 ?_
        refine kt_i (v := nI (2 ^ (t + 1))) ((pk_shlN _ 1 (by decide) (by omega)).trans (by rw [Nat.pow_one, Nat.pow_succ])) ?_
        refine lv_istore (lv' := [(4, .int (nI (2 ^ (t + 1)))), (3, .int (nI (k / 2 ^ (t + 1)))), (2, .int (nI (zr (t + 1) k))), (0, .int (nI k)), (1, .int (nI (2 ^ L)))]) hx hb dX0_mirrored_29 hl (by decide) rfl (fun ls hl => ?_)
        refine lv_goto (tgt := 7) hx hb dX0_mirrored_31 (by decide) ?_
        exact ih (t + 1) (by omega) (by omega) ls (lv_sub hl [3, 4, 2, 1, 0] rfl)
  refine loop (L + 1) 0 (by omega) (by omega) ls ?_
  rw [Nat.pow_zero, Nat.div_one]
  exact (lv_sub hl [3, 4, 2, 1, 0] rfl)
set_option maxHeartbeats 4000000 in
set_option maxRecDepth 100000 in
theorem m_rootOfUnity (l : Launch) (N P w0 : Nat) (hP : P ≤ 1000000007) (hP3 : 3 ≤ P) (hN1 : 1 ≤ N) (hN : N ≤ 1024) (hW : zW N P w0) : Met l yX0_rootOfUnity wsX0_rootOfUnity ({ frames := 2, cells := 0, slots := 0, locals := 54 }) (va_Pc [.int (nI N), .int (nI P)] (fun _ => True)) (vp_Sl (fun r => r = lN w0)) 0 0 (fun _ => False) := by
  refine k_metS (cc := cX0_rootOfUnity) (maxL := 5) (ret := (some .long)) (by decide +kernel) rfl (Nat.le_of_ble_eq_true rfl) ?_
  intro p e s m below meth c ls hx hb hr hlocks hml hown hts hl
  have hl : lv_has ls 5 [(0, .int (nI N)), (1, .int (nI P))] := hl
  refine lv_iload_n hx hb dX0_rootOfUnity_0 rfl (lv_at hl 0 rfl) ?_
  refine lv_iconst (v := nI 1) hx hb dX0_rootOfUnity_1 (by decide) ?_
  refine lv_icmp_gt (tgt := 7) hx hb dX0_rootOfUnity_2 (by decide) (fun hc => ?_) (fun hc => ?_)
  · have hN2 : 2 ≤ N := (nI_ltI (by omega) (by omega)).mp hc
    obtain ⟨z1, -⟩ | ⟨-, h, a1, a2, a3, a4, a5⟩ := hW
    · omega
    refine lv_iconst (v := nI 2) hx hb dX0_rootOfUnity_7 (by decide) ?_
    refine lv_istore_n (lv' := [(2, .int (nI 2)), (0, .int (nI N)), (1, .int (nI P))]) hx hb dX0_rootOfUnity_8 rfl hl (by decide) rfl (fun ls hl => ?_)
    have loop : ∀ (n k : Nat), h + 1 ≤ k + n → 2 ≤ k → k ≤ h → ∀ (ls : Array Slot), lv_has ls 5 [(0, .int (nI N)), (1, .int (nI P)), (2, .int (nI k))] → W p l e ({ frames := 2, cells := 0, slots := 0, locals := 54 } : Room) s m ([.int (nI N), .int (nI P)] : List Value).toArray below meth c s.heap [] 0 0 (MQ below (vp_Sl (fun r => r = lN w0)) ([.int (nI N), .int (nI P)] : List Value).toArray s 0 0 (fun _ => False)) (F0 m 9 ls []) := by
      intro n
      induction n with
      | zero => intro k h1 h2 h3; exact absurd h1 (by omega)
      | succ n ih =>
        intro k h1 h2 h3 ls hl
        have q1 := Nat.div_le_self (P - 1) N
        have q2 := Nat.div_le_self N 2
        have q3 := Nat.mod_lt (k ^ ((P - 1) / N)) (show 0 < P by omega)
        have q4 := Nat.mod_lt ((k ^ ((P - 1) / N) % P) ^ (N / 2)) (show 0 < P by omega)
        refine lv_iload_n hx hb dX0_rootOfUnity_9 rfl (lv_at hl 2 rfl) ?_
        refine lv_iload_n hx hb dX0_rootOfUnity_10 rfl (lv_at hl 1 rfl) ?_
        refine lv_icmp_ge (tgt := 52) hx hb dX0_rootOfUnity_11 (by decide) (fun hc2 => ?_) (fun hc2 => ?_)
        · exact absurd ((nI_leI (by omega) (by omega)).mp hc2) (by omega)
        · refine lv_iload_n hx hb dX0_rootOfUnity_14 rfl (lv_at hl 2 rfl) ?_
          refine lv_i2l (v := lN k) hx hb dX0_rootOfUnity_15 (nI_l (by omega)) ?_
          refine lv_iload_n hx hb dX0_rootOfUnity_16 rfl (lv_at hl 1 rfl) ?_
          refine lv_iconst (v := nI 1) hx hb dX0_rootOfUnity_17 (by decide) ?_
          refine lv_isub hx hb dX0_rootOfUnity_18 ?_
          refine kt_i (v := nI (P - 1)) (pk_sub (by omega)) ?_
          refine lv_iload_n hx hb dX0_rootOfUnity_19 rfl (lv_at hl 0 rfl) ?_
          refine lv_idiv hx hb dX0_rootOfUnity_20 (nI_ne0 (by omega) (by omega)) ?_
          refine kt_i (v := nI ((P - 1) / N)) (pk_div (by omega) (by omega) (by omega)) ?_
          refine lv_iload_n hx hb dX0_rootOfUnity_21 rfl (lv_at hl 1 rfl) ?_
          refine lv_i2l (v := lN P) hx hb dX0_rootOfUnity_22 (nI_l (by omega)) ?_
          refine kc_lv (As := [.long (lN k), .int (nI ((P - 1) / N)), .long (lN P)]) (rest := []) ⟨hx, hb, hml, hown, hts⟩ (m_power l k ((P - 1) / N) P hP (by omega) (by omega) (by omega)) (va_cwS 3 hts gX0_rootOfUnity_X0_power rfl rfl rfl (by decide +kernel) ⟨Nat.le_of_ble_eq_true rfl, Nat.le_of_ble_eq_true rfl⟩) rfl hl.1 rfl (Nat.le_of_ble_eq_true rfl) dX0_rootOfUnity_23 ⟨Nat.zero_le _, Nat.zero_le _⟩ ?_
          refine lv_lstore_n (lv' := [(3, .long (lN (k ^ ((P - 1) / N) % P))), (0, .int (nI N)), (1, .int (nI P)), (2, .int (nI k))]) hx hb dX0_rootOfUnity_26 rfl hl (by decide) rfl (fun ls hl => ?_)
          refine lv_lload_n hx hb dX0_rootOfUnity_27 rfl (lv_at hl 0 rfl) ?_
          refine lv_iload_n hx hb dX0_rootOfUnity_28 rfl (lv_at hl 1 rfl) ?_
          refine lv_iconst (v := nI 2) hx hb dX0_rootOfUnity_29 (by decide) ?_
          refine lv_idiv hx hb dX0_rootOfUnity_30 (by decide) ?_
          refine kt_i (v := nI (N / 2)) (pk_div (by omega) (by omega) (by omega)) ?_
          refine lv_iload_n hx hb dX0_rootOfUnity_31 rfl (lv_at hl 2 rfl) ?_
          refine lv_i2l (v := lN P) hx hb dX0_rootOfUnity_32 (nI_l (by omega)) ?_
          refine kc_lv (As := [.long (lN (k ^ ((P - 1) / N) % P)), .int (nI (N / 2)), .long (lN P)]) (rest := []) ⟨hx, hb, hml, hown, hts⟩ (m_power l (k ^ ((P - 1) / N) % P) (N / 2) P hP q3 (by omega) (by omega)) (va_cwS 3 hts gX0_rootOfUnity_X0_power rfl rfl rfl (by decide +kernel) ⟨Nat.le_of_ble_eq_true rfl, Nat.le_of_ble_eq_true rfl⟩) rfl hl.1 rfl (Nat.le_of_ble_eq_true rfl) dX0_rootOfUnity_33 ⟨Nat.zero_le _, Nat.zero_le _⟩ ?_
          refine lv_iload_n hx hb dX0_rootOfUnity_36 rfl (lv_at hl 2 rfl) ?_
          refine lv_iconst (v := nI 1) hx hb dX0_rootOfUnity_37 (by decide) ?_
          refine lv_isub hx hb dX0_rootOfUnity_38 ?_
          refine kt_i (v := nI (P - 1)) (pk_sub (by omega)) ?_
          refine lv_i2l (v := lN (P - 1)) hx hb dX0_rootOfUnity_39 (nI_l (by omega)) ?_
          refine W.lcmp hx hb dX0_rootOfUnity_40 ?_
          refine lv_if_ne (tgt := 46) hx hb dX0_rootOfUnity_41 (by decide) (fun hc3 => ?_) (fun hc3 => ?_)
          · have hnh : ¬ zhit N P k := fun z => hc3 ((lg_cmp_eq _ _).mpr (congrArg lN z))
            have hkh : k ≠ h := fun z => hnh (z ▸ a3)
            refine lv_iinc (v := nI (k + 1)) (lv' := [(2, .int (nI (k + 1))), (3, .long (lN (k ^ ((P - 1) / N) % P))), (0, .int (nI N)), (1, .int (nI P))]) hx hb dX0_rootOfUnity_46 hl (k := 3) rfl (nI_1 k) (by decide) rfl (fun ls hl => ?_)
            refine lv_goto (tgt := 9) hx hb dX0_rootOfUnity_49 (by decide) ?_
            exact ih (k + 1) (by omega) (by omega) (by omega) ls (lv_sub hl [2, 3, 0] rfl)
          · have hh : zhit N P k := (pk_lEQ (by omega) (by omega)).mp ((lg_cmp_eq _ _).mp hc3)
            have hkh : k = h := by
              rcases Nat.lt_or_ge k h with z | z
              · exact absurd hh (a4 k h2 z)
              · omega
            refine lv_lload_n hx hb dX0_rootOfUnity_44 rfl (lv_at hl 0 rfl) ?_
            exact kr_Sl hx hb hr hlocks (by rw [a5, hkh]) dX0_rootOfUnity_45
    exact loop (h + 1) 2 (by omega) (by omega) a1 ls (lv_sub hl [1, 2, 0] rfl)
  · have hN1 : N = 1 := by
      rcases Nat.lt_or_ge 1 N with z | z
      · exact absurd ((nI_ltI (by omega) (by omega)).mpr z) hc
      · omega
    obtain ⟨-, z1⟩ | ⟨z1, -⟩ := hW
    · refine lv_lconst (v := lN 1) hx hb dX0_rootOfUnity_5 (by decide) ?_
      exact kr_Sl hx hb hr hlocks (by rw [z1]) dX0_rootOfUnity_6
    · omega
end
section
/-! the static methods of the reference -/
set_option maxHeartbeats 4000000 in
set_option maxRecDepth 100000 in
theorem k_isPrime (l : Launch) (q : Int32) : Met l yX1_isPrime wsX1_isPrime ({ frames := 0, cells := 0, slots := 0, locals := 0 }) (va_Pc [.int q] (fun _ => True)) (vp_Si (fun r => (r = 1 ∧ zok q) ∨ (r = 0 ∧ ¬ zok q))) 0 0 (fun _ => False) := by
  refine k_metS (cc := cX1_isPrime) (maxL := 2) (ret := (some .boolean)) (by decide +kernel) rfl (Nat.le_of_ble_eq_true rfl) ?_
  intro p e s m below meth c ls hx hb hr hlocks hml hown hts hl
  have hl : lv_has ls 2 [(0, .int q)] := hl
  refine lv_iload_n hx hb dX1_isPrime_0 rfl (lv_at hl 0 rfl) ?_
  refine lv_iconst (v := (3 : Int32)) hx hb dX1_isPrime_1 (by decide) ?_
  refine lv_icmp_lt (tgt := 11) hx hb dX1_isPrime_2 (by decide) (fun hc => ?_) (fun hc => ?_)
  · refine lv_iconst (v := (0 : Int32)) hx hb dX1_isPrime_11 (by decide) ?_
    exact kr_Sz hx hb hr rfl hlocks (Or.inr ⟨rfl, zok_lo hc⟩) dX1_isPrime_12
  · refine lv_iload_n hx hb dX1_isPrime_5 rfl (lv_at hl 0 rfl) ?_
    refine lv_ldc hx hb hown (hts (.constant RX1 23 (1000000007)) (by decide +kernel)) dX1_isPrime_6 ?_
    refine lv_icmp_le (tgt := 13) hx hb dX1_isPrime_8 (by decide) (fun hc2 => ?_) (fun hc2 => ?_)
    · obtain ⟨P, rfl, j1, j2⟩ := zi_of 3 1000000007 (by decide) (by decide) hc (Int32.not_lt.mpr hc2)
      have hkey := zok_nI (P := P) (by omega)
      refine lv_iconst (v := nI 2) hx hb dX1_isPrime_13 (by decide) ?_
      refine lv_istore_n (lv' := [(1, .int (nI 2)), (0, .int (nI P))]) hx hb dX1_isPrime_14 rfl hl (by decide) rfl (fun ls hl => ?_)
      have loop : ∀ (n d : Nat), 31625 ≤ d + n → 2 ≤ d → d ≤ 31624 → (∀ z, 2 ≤ z → z < d → ¬ z ∣ P) → ∀ (ls : Array Slot), lv_has ls 2 [(0, .int (nI P)), (1, .int (nI d))] → W p l e ({ frames := 0, cells := 0, slots := 0, locals := 0 } : Room) s m ([.int (nI P)] : List Value).toArray below meth c s.heap [] 0 0 (MQ below (vp_Si (fun r => (r = 1 ∧ zok (nI P)) ∨ (r = 0 ∧ ¬ zok (nI P)))) ([.int (nI P)] : List Value).toArray s 0 0 (fun _ => False)) (F0 m 15 ls []) := by
        intro n
        induction n with
        | zero => intro d h1 h2 h3; exact absurd h1 (by omega)
        | succ n ih =>
          intro d h1 h2 h3 h5 ls hl
          have hdd : d * d ≤ 31624 * 31624 := Nat.mul_le_mul h3 h3
          refine lv_iload_n hx hb dX1_isPrime_15 rfl (lv_at hl 1 rfl) ?_
          refine lv_i2l (v := lN d) hx hb dX1_isPrime_16 (nI_l (by omega)) ?_
          refine lv_iload_n hx hb dX1_isPrime_17 rfl (lv_at hl 1 rfl) ?_
          refine lv_i2l (v := lN d) hx hb dX1_isPrime_18 (nI_l (by omega)) ?_
          refine lv_lmul hx hb dX1_isPrime_19 ?_
          refine kt_l (v := lN (d * d)) (lN_mul d d) ?_
          refine lv_iload_n hx hb dX1_isPrime_20 rfl (lv_at hl 0 rfl) ?_
          refine lv_i2l (v := lN P) hx hb dX1_isPrime_21 (nI_l (by omega)) ?_
          refine W.lcmp hx hb dX1_isPrime_22 ?_
          refine lv_if_gt (tgt := 40) hx hb dX1_isPrime_23 (by decide) (fun hc4 => ?_) (fun hc4 => ?_)
          · have hlt : P < d * d := (pk_lLT (by omega) (by omega)).mp ((lg_cmp_gt _ _).mp hc4)
            refine lv_iconst (v := (1 : Int32)) hx hb dX1_isPrime_40 (by decide) ?_
            exact kr_Sz hx hb hr rfl hlocks (Or.inl ⟨rfl, hkey.mpr ⟨j1, j2, z_td_all h5 hlt⟩⟩) dX1_isPrime_41
          · have hle : d * d ≤ P := Nat.not_lt.mp fun z => hc4 ((lg_cmp_gt _ _).mpr ((pk_lLT (by omega) (by omega)).mpr z))
            have hd5 : d ≤ 31622 := z_sq (by omega)
            refine lv_iload_n hx hb dX1_isPrime_26 rfl (lv_at hl 0 rfl) ?_
            refine lv_iload_n hx hb dX1_isPrime_27 rfl (lv_at hl 1 rfl) ?_
            refine lv_irem hx hb dX1_isPrime_28 (nI_ne0 (by omega) (by omega)) ?_
            refine kt_i (v := nI (P % d)) (pk_rem (by omega) (by omega) (by omega)) ?_
            refine lv_if_ne (tgt := 34) hx hb dX1_isPrime_29 (by decide) (fun hc5 => ?_) (fun hc5 => ?_)
            · have hnd : ¬ d ∣ P := by
                intro z
                exact hc5 (by rw [Nat.mod_eq_zero_of_dvd z]; rfl)
              refine lv_iinc (v := nI (d + 1)) (lv' := [(1, .int (nI (d + 1))), (0, .int (nI P))]) hx hb dX1_isPrime_34 hl (k := 1) rfl (nI_1 d) (by decide) rfl (fun ls hl => ?_)
              refine lv_goto (tgt := 15) hx hb dX1_isPrime_37 (by decide) ?_
              refine ih (d + 1) (by omega) (by omega) (by omega) (fun z z1 z3 => ?_) ls (lv_sub hl [1, 0] rfl)
              rcases Nat.lt_or_ge z d with y | y
              · exact h5 z z1 y
              · have : z = d := by omega
                rw [this]; exact hnd
            · have hd0 : P % d = 0 := (nI_eq (by have := Nat.mod_lt P (show 0 < d by omega); omega) (by omega)).mp (hc5.trans nI_0.symm)
              refine lv_iconst (v := (0 : Int32)) hx hb dX1_isPrime_32 (by decide) ?_
              refine kr_Sz hx hb hr rfl hlocks (Or.inr ⟨rfl, fun z => ?_⟩) dX1_isPrime_33
              exact (hkey.mp z).2.2 d (by omega) hle (Nat.dvd_of_mod_eq_zero hd0)
      exact loop 31625 2 (by omega) (by omega) (by omega) (fun z z1 z3 => absurd z3 (by omega)) ls (lv_sub hl [1, 0] rfl)
    · refine lv_iconst (v := (0 : Int32)) hx hb dX1_isPrime_11 (by decide) ?_
      exact kr_Sz hx hb hr rfl hlocks (Or.inr ⟨rfl, zok_hi (Int32.not_le.mp hc2)⟩) dX1_isPrime_12
set_option maxHeartbeats 4000000 in
set_option maxRecDepth 100000 in
theorem k_rest (l : Launch) (v : Int64) (P : Nat) (h0 : 0 < P) (h : P < 2 ^ 31) : Met l yX1_rest wsX1_rest ({ frames := 0, cells := 0, slots := 0, locals := 0 }) (va_Pc [.long v, .int (nI P)] (fun _ => True)) (vp_Sl (fun r => r = lN (zrs P v))) 0 0 (fun _ => False) := by
  refine k_metS (cc := cX1_rest) (maxL := 3) (ret := (some .long)) (by decide +kernel) rfl (Nat.le_of_ble_eq_true rfl) ?_
  intro p e s m below meth c ls hx hb hr hlocks hml hown hts hl
  have hl : lv_has ls 3 [(0, .long v), (2, .int (nI P))] := hl
  refine lv_lload_n hx hb dX1_rest_0 rfl (lv_at hl 0 rfl) ?_
  refine lv_iload_n hx hb dX1_rest_1 rfl (lv_at hl 1 rfl) ?_
  refine lv_i2l (v := lN P) hx hb dX1_rest_2 (nI_l h) ?_
  refine lv_lrem hx hb dX1_rest_3 (zl_ne h0 (by omega)) ?_
  refine lv_iload_n hx hb dX1_rest_4 rfl (lv_at hl 1 rfl) ?_
  refine lv_i2l (v := lN P) hx hb dX1_rest_5 (nI_l h) ?_
  refine lv_ladd hx hb dX1_rest_6 ?_
  refine lv_iload_n hx hb dX1_rest_7 rfl (lv_at hl 1 rfl) ?_
  refine lv_i2l (v := lN P) hx hb dX1_rest_8 (nI_l h) ?_
  refine lv_lrem hx hb dX1_rest_9 (zl_ne h0 (by omega)) ?_
  refine kt_l (v := lN (zrs P v)) (zfm_ref h0 h) ?_
  exact kr_Sl hx hb hr hlocks rfl dX1_rest_10
set_option maxHeartbeats 4000000 in
set_option maxRecDepth 100000 in
theorem k_power (l : Launch) (av E P : Nat) (hP : P ≤ 1000000007) (ha : av < 2 ^ 63) (h1 : 1 < P) (hE : E < 2 ^ 31) : Met l yX1_power wsX1_power ({ frames := 0, cells := 0, slots := 0, locals := 0 }) (va_Pc [.long (lN av), .long (lN E), .int (nI P)] (fun _ => True)) (vp_Sl (fun r => r = lN (av ^ E % P))) 0 0 (fun _ => False) := by
  refine k_metS (cc := cX1_power) (maxL := 11) (ret := (some .long)) (by decide +kernel) rfl (Nat.le_of_ble_eq_true rfl) ?_
  intro p e s m below meth c ls hx hb hr hlocks hml hown hts hl
  have hl : lv_has ls 11 [(0, .long (lN av)), (2, .long (lN E)), (4, .int (nI P))] := hl
  refine lv_lconst (v := lN 1) hx hb dX1_power_0 (by decide) ?_
  refine lv_lstore (lv' := [(5, .long (lN 1)), (0, .long (lN av)), (2, .long (lN E)), (4, .int (nI P))]) hx hb dX1_power_1 hl (by decide) rfl (fun ls hl => ?_)
  refine lv_lload_n hx hb dX1_power_3 rfl (lv_at hl 1 rfl) ?_
  refine lv_iload hx hb dX1_power_4 (lv_at hl 3 rfl) ?_
  refine lv_i2l (v := lN P) hx hb dX1_power_6 (nI_l (by omega)) ?_
  refine lv_lrem hx hb dX1_power_7 (zl_ne (by omega) (by omega)) ?_
  refine kt_l (v := lN (av % P)) (pk_lRem ha (by omega) (by omega)) ?_
  refine lv_lstore (lv' := [(7, .long (lN (av % P))), (5, .long (lN 1)), (0, .long (lN av)), (2, .long (lN E)), (4, .int (nI P))]) hx hb dX1_power_8 hl (by decide) rfl (fun ls hl => ?_)
  refine lv_lload_n hx hb dX1_power_10 rfl (lv_at hl 3 rfl) ?_
  refine lv_lstore (lv' := [(9, .long (lN E)), (7, .long (lN (av % P))), (5, .long (lN 1)), (0, .long (lN av)), (2, .long (lN E)), (4, .int (nI P))]) hx hb dX1_power_11 hl (by decide) rfl (fun ls hl => ?_)
  have loop : ∀ (n r b q : Nat), q < n → q < 2 ^ 31 → r < P → b < P → r * b ^ q % P = av ^ E % P → ∀ (ls : Array Slot), lv_has ls 11 [(0, .long (lN av)), (2, .long (lN E)), (4, .int (nI P)), (5, .long (lN r)), (7, .long (lN b)), (9, .long (lN q))] → W p l e ({ frames := 0, cells := 0, slots := 0, locals := 0 } : Room) s m ([.long (lN av), .long (lN E), .int (nI P)] : List Value).toArray below meth c s.heap [] 0 0 (MQ below (vp_Sl (fun r => r = lN (av ^ E % P))) ([.long (lN av), .long (lN E), .int (nI P)] : List Value).toArray s 0 0 (fun _ => False)) (F0 m 13 ls []) := by
    intro n
    induction n with
    | zero => intro r b q h1; exact absurd h1 (Nat.not_lt_zero _)
    | succ n ih =>
      intro r b q hqn hq hrP hbP hinv ls hl
      have tail : ∀ (r2 : Nat), r2 < P → r2 * (b * b % P) ^ (q / 2) % P = av ^ E % P → 0 < q → ∀ (ls : Array Slot), lv_has ls 11 [(0, .long (lN av)), (2, .long (lN E)), (4, .int (nI P)), (5, .long (lN r2)), (7, .long (lN b)), (9, .long (lN q))] → W p l e ({ frames := 0, cells := 0, slots := 0, locals := 0 } : Room) s m ([.long (lN av), .long (lN E), .int (nI P)] : List Value).toArray below meth c s.heap [] 0 0 (MQ below (vp_Sl (fun r => r = lN (av ^ E % P))) ([.long (lN av), .long (lN E), .int (nI P)] : List Value).toArray s 0 0 (fun _ => False)) (F0 m 42 ls []) := by
        intro r2 hr2 hinv2 hq0 ls hl
        refine lv_lload hx hb dX1_power_42 (lv_at hl 4 rfl) ?_
        refine lv_lload hx hb dX1_power_44 (lv_at hl 4 rfl) ?_
        refine lv_lmul hx hb dX1_power_46 ?_
        refine lv_iload hx hb dX1_power_47 (lv_at hl 2 rfl) ?_
        refine lv_i2l (v := lN P) hx hb dX1_power_49 (nI_l (by omega)) ?_
        refine lv_lrem hx hb dX1_power_50 (zl_ne (by omega) (by omega)) ?_
        refine kt_l (v := lN (b * b % P)) (z_pr hP hbP hbP) ?_
        refine lv_lstore (lv' := [(7, .long (lN (b * b % P))), (0, .long (lN av)), (2, .long (lN E)), (4, .int (nI P)), (5, .long (lN r2)), (9, .long (lN q))]) hx hb dX1_power_51 hl (by decide) rfl (fun ls hl => ?_)
        refine lv_lload hx hb dX1_power_53 (lv_at hl 5 rfl) ?_
        refine lv_ldc2 hx hb hown (hts (.constantLong RX1 24 (2)) (by decide +kernel)) dX1_power_55 ?_
        refine kt_l (v := lN 2) (rfl) ?_
        refine lv_ldiv hx hb dX1_power_58 (by decide) ?_
        refine kt_l (v := lN (q / 2)) (pk_lDiv (by omega) (by omega) (by omega)) ?_
        refine lv_lstore (lv' := [(9, .long (lN (q / 2))), (7, .long (lN (b * b % P))), (0, .long (lN av)), (2, .long (lN E)), (4, .int (nI P)), (5, .long (lN r2))]) hx hb dX1_power_59 hl (by decide) rfl (fun ls hl => ?_)
        refine lv_goto (tgt := 13) hx hb dX1_power_61 (by decide) ?_
        exact ih r2 (b * b % P) (q / 2) (by omega) (by omega) hr2 (Nat.mod_lt _ (by omega)) hinv2 ls (lv_sub hl [2, 3, 4, 5, 1, 0] rfl)
      refine lv_lload hx hb dX1_power_13 (lv_at hl 5 rfl) ?_
      refine lv_lconst (v := lN 0) hx hb dX1_power_15 (by decide) ?_
      refine W.lcmp hx hb dX1_power_16 ?_
      refine lv_if_le (tgt := 64) hx hb dX1_power_17 (by decide) (fun hc => ?_) (fun hc => ?_)
      · have hq0 : q = 0 := by have := (pk_lLE (by omega) (by omega)).mp ((lg_cmp_le _ _).mp hc); omega
        subst hq0
        refine lv_lload hx hb dX1_power_64 (lv_at hl 3 rfl) ?_
        exact kr_Sl hx hb hr hlocks (by rw [← hinv, Nat.pow_zero, Nat.mul_one, Nat.mod_eq_of_lt hrP]) dX1_power_66
      · have hq0 : 0 < q := Nat.pos_of_ne_zero fun z => hc ((lg_cmp_le _ _).mpr (by rw [z]; exact Int64.le_refl _))
        refine lv_lload hx hb dX1_power_20 (lv_at hl 5 rfl) ?_
        refine lv_ldc2 hx hb hown (hts (.constantLong RX1 24 (2)) (by decide +kernel)) dX1_power_22 ?_
        refine kt_l (v := lN 2) (rfl) ?_
        refine lv_lrem hx hb dX1_power_25 (by decide) ?_
        refine kt_l (v := lN (q % 2)) (pk_lRem (by omega) (by omega) (by omega)) ?_
        refine lv_lconst (v := lN 1) hx hb dX1_power_26 (by decide) ?_
        refine W.lcmp hx hb dX1_power_27 ?_
        refine lv_if_ne (tgt := 42) hx hb dX1_power_28 (by decide) (fun hc2 => ?_) (fun hc2 => ?_)
        · have he : q % 2 = 0 := by
            rcases Nat.mod_two_eq_zero_or_one q with z | z
            · exact z
            · exact absurd ((lg_cmp_eq _ _).mpr (by rw [z])) hc2
          refine tail r hrP ?_ hq0 ls (lv_sub hl [0, 1, 2, 3, 4, 5] rfl)
          rw [← hinv]
          exact (z_even he).symm
        · have he : q % 2 = 1 := (pk_lEQ (by omega) (by omega)).mp ((lg_cmp_eq _ _).mp hc2)
          refine lv_lload hx hb dX1_power_31 (lv_at hl 3 rfl) ?_
          refine lv_lload hx hb dX1_power_33 (lv_at hl 4 rfl) ?_
          refine lv_lmul hx hb dX1_power_35 ?_
          refine lv_iload hx hb dX1_power_36 (lv_at hl 2 rfl) ?_
          refine lv_i2l (v := lN P) hx hb dX1_power_38 (nI_l (by omega)) ?_
          refine lv_lrem hx hb dX1_power_39 (zl_ne (by omega) (by omega)) ?_
          refine kt_l (v := lN (r * b % P)) (z_pr hP hrP hbP) ?_
          refine lv_lstore (lv' := [(5, .long (lN (r * b % P))), (0, .long (lN av)), (2, .long (lN E)), (4, .int (nI P)), (7, .long (lN b)), (9, .long (lN q))]) hx hb dX1_power_40 hl (by decide) rfl (fun ls hl => ?_)
          refine tail (r * b % P) (Nat.mod_lt _ (by omega)) ?_ hq0 ls (lv_sub hl [1, 2, 3, 0, 4, 5] rfl)
          rw [← hinv]
          exact (z_odd he).symm
  exact loop (E + 1) 1 (av % P) E (by omega) hE (by omega) (Nat.mod_lt _ (by omega)) (by rw [Nat.one_mul, ← Nat.pow_mod]) ls (lv_sub hl [3, 4, 5, 2, 1, 0] rfl)
set_option maxHeartbeats 4000000 in
set_option maxRecDepth 100000 in
theorem k_rootOf (l : Launch) (N P w0 : Nat) (hP : P ≤ 1000000007) (hP3 : 3 ≤ P) (hN1 : 1 ≤ N) (hN : N ≤ 1024) (hW : zW N P w0) : Met l yX1_rootOf wsX1_rootOf ({ frames := 1, cells := 0, slots := 0, locals := 30 }) (va_Pc [.int (nI N), .int (nI P)] (fun _ => True)) (vp_Sl (fun r => r = lN w0)) 0 0 (fun _ => False) := by
  refine k_metS (cc := cX1_rootOf) (maxL := 6) (ret := (some .long)) (by decide +kernel) rfl (Nat.le_of_ble_eq_true rfl) ?_
  intro p e s m below meth c ls hx hb hr hlocks hml hown hts hl
  have hl : lv_has ls 6 [(0, .int (nI N)), (1, .int (nI P))] := hl
  refine lv_iload_n hx hb dX1_rootOf_0 rfl (lv_at hl 0 rfl) ?_
  refine lv_iconst (v := nI 1) hx hb dX1_rootOf_1 (by decide) ?_
  refine lv_icmp_ne (tgt := 7) hx hb dX1_rootOf_2 (by decide) (fun hc => ?_) (fun hc => ?_)
  · have hN2 : 2 ≤ N := by
      rcases Nat.lt_or_ge 1 N with z | z
      · exact z
      · exact absurd (congrArg nI (show N = 1 by omega)) hc
    obtain ⟨z1, -⟩ | ⟨-, h, a1, a2, a3, a4, a5⟩ := hW
    · omega
    refine lv_lconst (v := lN 1) hx hb dX1_rootOf_7 (by decide) ?_
    refine lv_lstore_n (lv' := [(2, .long (lN 1)), (0, .int (nI N)), (1, .int (nI P))]) hx hb dX1_rootOf_8 rfl hl (by decide) rfl (fun ls hl => ?_)
    refine lv_ldc2 hx hb hown (hts (.constantLong RX1 24 (2)) (by decide +kernel)) dX1_rootOf_9 ?_
    refine kt_l (v := lN 2) (rfl) ?_
    refine lv_lstore (lv' := [(4, .long (lN 2)), (2, .long (lN 1)), (0, .int (nI N)), (1, .int (nI P))]) hx hb dX1_rootOf_12 hl (by decide) rfl (fun ls hl => ?_)
    have loop : ∀ (n k u : Nat), h + 2 ≤ k + n → 2 ≤ k → k ≤ h + 1 → ((k = 2 ∧ u = 1) ∨ (3 ≤ k ∧ u = (k - 1) ^ ((P - 1) / N) % P)) → ∀ (ls : Array Slot), lv_has ls 6 [(0, .int (nI N)), (1, .int (nI P)), (2, .long (lN u)), (4, .long (lN k))] → W p l e ({ frames := 1, cells := 0, slots := 0, locals := 30 } : Room) s m ([.int (nI N), .int (nI P)] : List Value).toArray below meth c s.heap [] 0 0 (MQ below (vp_Sl (fun r => r = lN w0)) ([.int (nI N), .int (nI P)] : List Value).toArray s 0 0 (fun _ => False)) (F0 m 14 ls []) := by
      intro n
      induction n with
      | zero => intro k u h1 h2 h3; exact absurd h1 (by omega)
      | succ n ih =>
        intro k u h1 h2 h3 hu ls hl
        have q1 := Nat.div_le_self (P - 1) N
        have q2 := Nat.div_le_self N 2
        have q3 : u < P := by
          rcases hu with ⟨-, z⟩ | ⟨-, z⟩
          · omega
          · rw [z]; exact Nat.mod_lt _ (by omega)
        have q4 := Nat.mod_lt (u ^ (N / 2)) (show 0 < P by omega)
        refine lv_lload_n hx hb dX1_rootOf_14 rfl (lv_at hl 2 rfl) ?_
        refine lv_iload_n hx hb dX1_rootOf_15 rfl (lv_at hl 0 rfl) ?_
        refine lv_iconst (v := nI 2) hx hb dX1_rootOf_16 (by decide) ?_
        refine lv_idiv hx hb dX1_rootOf_17 (by decide) ?_
        refine kt_i (v := nI (N / 2)) (pk_div (by omega) (by omega) (by omega)) ?_
        refine lv_i2l (v := lN (N / 2)) hx hb dX1_rootOf_18 (nI_l (by omega)) ?_
        refine lv_iload_n hx hb dX1_rootOf_19 rfl (lv_at hl 1 rfl) ?_
        refine kc_lv (As := [.long (lN u), .long (lN (N / 2)), .int (nI P)]) (rest := []) ⟨hx, hb, hml, hown, hts⟩ (k_power l u (N / 2) P hP (by omega) (by omega) (by omega)) (va_cwS 3 hts gX1_rootOf_X1_power rfl rfl rfl (by decide +kernel) ⟨Nat.le_of_ble_eq_true rfl, Nat.le_of_ble_eq_true rfl⟩) rfl hl.1 rfl (Nat.le_of_ble_eq_true rfl) dX1_rootOf_20 ⟨Nat.zero_le _, Nat.zero_le _⟩ ?_
        refine lv_iload_n hx hb dX1_rootOf_23 rfl (lv_at hl 1 rfl) ?_
        refine lv_iconst (v := nI 1) hx hb dX1_rootOf_24 (by decide) ?_
        refine lv_isub hx hb dX1_rootOf_25 ?_
        refine kt_i (v := nI (P - 1)) (pk_sub (by omega)) ?_
        refine lv_i2l (v := lN (P - 1)) hx hb dX1_rootOf_26 (nI_l (by omega)) ?_
        refine W.lcmp hx hb dX1_rootOf_27 ?_
        refine lv_if_eq (tgt := 53) hx hb dX1_rootOf_28 (by decide) (fun hc3 => ?_) (fun hc3 => ?_)
        · have hh : u ^ (N / 2) % P = P - 1 := (pk_lEQ (by omega) (by omega)).mp ((lg_cmp_eq _ _).mp hc3)
          have hk : 3 ≤ k ∧ u = (k - 1) ^ ((P - 1) / N) % P := by
            rcases hu with ⟨-, z⟩ | z
            · rw [z, Nat.one_pow, Nat.mod_eq_of_lt (by omega)] at hh; omega
            · exact z
          have hkh : k - 1 = h := by
            rcases Nat.lt_or_ge (k - 1) h with z | z
            · exact absurd (by unfold zhit; rw [← hk.2]; exact hh) (a4 (k - 1) (by omega) z)
            · omega
          refine lv_lload_n hx hb dX1_rootOf_53 rfl (lv_at hl 2 rfl) ?_
          exact kr_Sl hx hb hr hlocks (by rw [a5, hk.2, hkh]) dX1_rootOf_54
        · have hnh : ¬ u ^ (N / 2) % P = P - 1 := fun z => hc3 ((lg_cmp_eq _ _).mpr (congrArg lN z))
          have hkh : k ≠ h + 1 := by
            intro z
            rcases hu with ⟨y, -⟩ | ⟨-, y⟩
            · omega
            · rw [z] at y
              exact hnh (by rw [y]; exact a3)
          refine lv_lload hx hb dX1_rootOf_31 (lv_at hl 3 rfl) ?_
          refine lv_iload_n hx hb dX1_rootOf_33 rfl (lv_at hl 1 rfl) ?_
          refine lv_iconst (v := nI 1) hx hb dX1_rootOf_34 (by decide) ?_
          refine lv_isub hx hb dX1_rootOf_35 ?_
          refine kt_i (v := nI (P - 1)) (pk_sub (by omega)) ?_
          refine lv_iload_n hx hb dX1_rootOf_36 rfl (lv_at hl 0 rfl) ?_
          refine lv_idiv hx hb dX1_rootOf_37 (nI_ne0 (by omega) (by omega)) ?_
          refine kt_i (v := nI ((P - 1) / N)) (pk_div (by omega) (by omega) (by omega)) ?_
          refine lv_i2l (v := lN ((P - 1) / N)) hx hb dX1_rootOf_38 (nI_l (by omega)) ?_
          refine lv_iload_n hx hb dX1_rootOf_39 rfl (lv_at hl 1 rfl) ?_
          refine kc_lv (As := [.long (lN k), .long (lN ((P - 1) / N)), .int (nI P)]) (rest := []) ⟨hx, hb, hml, hown, hts⟩ (k_power l k ((P - 1) / N) P hP (by omega) (by omega) (by omega)) (va_cwS 3 hts gX1_rootOf_X1_power rfl rfl rfl (by decide +kernel) ⟨Nat.le_of_ble_eq_true rfl, Nat.le_of_ble_eq_true rfl⟩) rfl hl.1 rfl (Nat.le_of_ble_eq_true rfl) dX1_rootOf_40 ⟨Nat.zero_le _, Nat.zero_le _⟩ ?_
          refine lv_lstore_n (lv' := [(2, .long (lN (k ^ ((P - 1) / N) % P))), (0, .int (nI N)), (1, .int (nI P)), (4, .long (lN k))]) hx hb dX1_rootOf_43 rfl hl (by decide) rfl (fun ls hl => ?_)
          refine lv_lload hx hb dX1_rootOf_44 (lv_at hl 3 rfl) ?_
          refine lv_lconst (v := lN 1) hx hb dX1_rootOf_46 (by decide) ?_
          refine lv_ladd hx hb dX1_rootOf_47 ?_
          refine kt_l (v := lN (k + 1)) (lN_add k 1) ?_
          refine lv_lstore (lv' := [(4, .long (lN (k + 1))), (2, .long (lN (k ^ ((P - 1) / N) % P))), (0, .int (nI N)), (1, .int (nI P))]) hx hb dX1_rootOf_48 hl (by decide) rfl (fun ls hl => ?_)
          refine lv_goto (tgt := 14) hx hb dX1_rootOf_50 (by decide) ?_
          exact ih (k + 1) _ (by omega) (by omega) (by omega) (Or.inr ⟨by omega, rfl⟩) ls (lv_sub hl [2, 3, 1, 0] rfl)
    exact loop (h + 2) 2 1 (by omega) (by omega) (by omega) (Or.inl ⟨rfl, rfl⟩) ls (lv_sub hl [2, 3, 1, 0] rfl)
  · have hN1 : N = 1 := (nI_eq (by omega) (by omega)).mp hc
    obtain ⟨-, z1⟩ | ⟨z1, -⟩ := hW
    · refine lv_lconst (v := lN 1) hx hb dX1_rootOf_5 (by decide) ?_
      exact kr_Sl hx hb hr hlocks (by rw [z1]) dX1_rootOf_6
    · omega
set_option maxHeartbeats 4000000 in
set_option maxRecDepth 100000 in
theorem k_refused (l : Launch) (q1 q2 : Int32) : Met l yX1_refused wsX1_refused ({ frames := 1, cells := 0, slots := 0, locals := 21 }) (va_Pc [.int q1, .int q2] (fun _ => True)) (vp_Si (fun r => zrf q1 q2 r)) 0 0 (fun _ => False) := by
  refine k_metS (cc := cX1_refused) (maxL := 2) (ret := (some .int)) (by decide +kernel) rfl (Nat.le_of_ble_eq_true rfl) ?_
  intro p e s m below meth c ls hx hb hr hlocks hml hown hts hl
  have hl : lv_has ls 2 [(0, .int q1), (1, .int q2)] := hl
  refine lv_iload_n hx hb dX1_refused_0 rfl (lv_at hl 0 rfl) ?_
  refine lv_iconst (v := (1 : Int32)) hx hb dX1_refused_1 (by decide) ?_
  refine lv_icmp_lt (tgt := 20) hx hb dX1_refused_2 (by decide) (fun hc => ?_) (fun hc => ?_)
  · refine lv_iconst (v := -1) hx hb dX1_refused_20 (by decide) ?_
    exact kr_Si hx hb hr hlocks (Or.inl ⟨rfl, zsz_lo hc⟩) dX1_refused_21
  · refine lv_iload_n hx hb dX1_refused_5 rfl (lv_at hl 0 rfl) ?_
    refine lv_sipush (v := (1024 : Int32)) hx hb dX1_refused_6 (by decide) ?_
    refine lv_icmp_gt (tgt := 20) hx hb dX1_refused_9 (by decide) (fun hc2 => ?_) (fun hc2 => ?_)
    · refine lv_iconst (v := -1) hx hb dX1_refused_20 (by decide) ?_
      exact kr_Si hx hb hr hlocks (Or.inl ⟨rfl, zsz_hi hc2⟩) dX1_refused_21
    · obtain ⟨j, rfl, j1, j2⟩ := zi_of 1 1024 (by decide) (by decide) hc hc2
      refine lv_iload_n hx hb dX1_refused_12 rfl (lv_at hl 0 rfl) ?_
      refine lv_iload_n hx hb dX1_refused_13 rfl (lv_at hl 0 rfl) ?_
      refine lv_iconst (v := (1 : Int32)) hx hb dX1_refused_14 (by decide) ?_
      refine lv_isub hx hb dX1_refused_15 ?_
      refine lv_iand hx hb dX1_refused_16 ?_
      refine lv_if_eq (tgt := 22) hx hb dX1_refused_17 (by decide) (fun hc3 => ?_) (fun hc3 => ?_)
      · have hs : zsz (nI j) := (z_and j1 j2).mp hc3
        refine lv_iload_n hx hb dX1_refused_22 rfl (lv_at hl 1 rfl) ?_
        refine kc_i (As := [.int q2]) (rest := []) ⟨hx, hb, hml, hown, hts⟩ (k_isPrime l q2) (va_cwS 1 hts gX1_refused_X1_isPrime rfl rfl rfl (by decide +kernel) ⟨Nat.le_of_ble_eq_true rfl, Nat.le_of_ble_eq_true rfl⟩) rfl hl.1 rfl (Nat.le_of_ble_eq_true rfl) dX1_refused_23 ⟨Nat.zero_le _, Nat.zero_le _⟩ (fun r2 hr2 => ?_)
        rcases hr2 with ⟨rfl, hp⟩ | ⟨rfl, hp⟩
        · refine lv_if_ne (tgt := 32) hx hb dX1_refused_26 (by decide) (fun _ => ?_) (fun hc => absurd hc (by decide))
          obtain ⟨L, hL, hj⟩ := hs
          have h2p := z_2pow hL
          have hj : j = 2 ^ L := (nI_eq (by omega) (by omega)).mp hj
          subst hj
          obtain ⟨P, rfl, hp1, hp2, hp3⟩ := hp
          refine lv_iload_n hx hb dX1_refused_32 rfl (lv_at hl 1 rfl) ?_
          refine lv_iconst (v := nI 1) hx hb dX1_refused_33 (by decide) ?_
          refine lv_isub hx hb dX1_refused_34 ?_
          refine kt_i (v := nI (P - 1)) (pk_sub (by omega)) ?_
          refine lv_iload_n hx hb dX1_refused_35 rfl (lv_at hl 0 rfl) ?_
          refine lv_irem hx hb dX1_refused_36 (nI_ne0 (by omega) (by omega)) ?_
          refine kt_i (v := nI ((P - 1) % 2 ^ L)) (pk_rem (by omega) (by omega) (by omega)) ?_
          refine lv_if_eq (tgt := 45) hx hb dX1_refused_37 (by decide) (fun hc4 => ?_) (fun hc4 => ?_)
          · have hd0 : (P - 1) % 2 ^ L = 0 := (nI_eq (by have := Nat.mod_lt (P - 1) (show 0 < 2 ^ L by omega); omega) (by omega)).mp (hc4.trans nI_0.symm)
            refine lv_iconst (v := (0 : Int32)) hx hb dX1_refused_45 (by decide) ?_
            exact kr_Si hx hb hr hlocks (Or.inr (Or.inr (Or.inr ⟨rfl, L, P, ⟨hL, rfl, rfl, hp1, hp2, hp3⟩, Nat.dvd_of_mod_eq_zero hd0⟩))) dX1_refused_46
          · have hnd : ¬ 2 ^ L ∣ P - 1 := fun z => hc4 (by rw [Nat.mod_eq_zero_of_dvd z]; rfl)
            refine lv_bipush (v := -3) hx hb dX1_refused_40 (by decide) ?_
            refine lv_goto (tgt := 46) hx hb dX1_refused_42 (by decide) ?_
            exact kr_Si hx hb hr hlocks (Or.inr (Or.inr (Or.inl ⟨rfl, L, P, ⟨hL, rfl, rfl, hp1, hp2, hp3⟩, hnd⟩))) dX1_refused_46
        · refine lv_if_ne (tgt := 32) hx hb dX1_refused_26 (by decide) (fun hc => absurd rfl hc) (fun _ => ?_)
          refine lv_bipush (v := -2) hx hb dX1_refused_29 (by decide) ?_
          exact kr_Si hx hb hr hlocks (Or.inr (Or.inl ⟨rfl, hs, hp⟩)) dX1_refused_31
      · refine lv_iconst (v := -1) hx hb dX1_refused_20 (by decide) ?_
        exact kr_Si hx hb hr hlocks (Or.inl ⟨rfl, fun z => hc3 ((z_and j1 j2).mpr z)⟩) dX1_refused_21
end
section
/-! the private methods of the class over the row -/
theorem zpt_zem {n : Nat} {G G2 : Nat → Nat} {f : Nat → Int64} : zpt n (fun j => lN (G2 j)) (zem n G f) = zem n G2 f := by
  funext j
  unfold zpt zem
  by_cases e : j < n
  · simp [e]
  · simp [e]
theorem zps_lt {P h fac j N : Nat} {G : Nat → Nat} (hP : 0 < P) (hG : ∀ t, t < N → G t < P) : ∀ b t, t < N → zps P h fac j G b t < P := by
  intro b
  induction b with
  | zero => exact hG
  | succ b ih =>
    intro t ht
    show zu (zu (zps P h fac j G b) _ _) _ _ t < P
    unfold zu
    split
    · exact Nat.mod_lt _ hP
    · split
      · exact Nat.mod_lt _ hP
      · exact ih t ht
theorem zlv_lt {P h st B N : Nat} {G : Nat → Nat} (hP : 0 < P) (hG : ∀ t, t < N → G t < P) : ∀ j t, t < N → zlv P h st B G j t < P := by
  intro j
  induction j with
  | zero => exact hG
  | succ j ih => exact zps_lt hP ih B
theorem zft_lt {P M w N : Nat} {G : Nat → Nat} (hP : 0 < P) (hG : ∀ t, t < N → G t < P) : ∀ s t, t < N → zft P M w G s t < P := by
  intro s
  induction s with
  | zero => exact hG
  | succ s ih => exact zlv_lt hP ih (2 ^ s)
theorem zo_lt {L N P : Nat} {G : Nat → Nat} (hL : 2 ^ L ≤ N) (hG : ∀ t, t < N → G t < P) : ∀ i t, i ≤ 2 ^ L → t < N → zo L G i t < P := by
  intro i
  induction i with
  | zero => intro t _ ht; exact hG t ht
  | succ i ih =>
    intro t hi ht
    show (if i < zr L i then zu (zu (zo L G i) i (zo L G i (zr L i))) (zr L i) (zo L G i i) else zo L G i) t < P
    have h1 := zr_lt L i
    split
    · unfold zu
      split
      · exact ih i (by omega) (by omega)
      · split
        · exact ih _ (by omega) (by omega)
        · exact ih t (by omega) ht
    · exact ih t (by omega) ht
theorem zl_spm {a b P : Nat} (h : b ≤ a + P) : lN a - lN b + lN P = lN (a + P - b) := by
  rw [← lN_sub h, ← lN_add]
  apply Int64.toInt_inj.mp
  simp only [Int64.toInt_add, Int64.toInt_sub]
  simp
  congr 1
  omega
set_option maxHeartbeats 4000000 in
set_option maxRecDepth 100000 in
theorem m_reduce (l : Launch) (dC : Nat → ClassId) (dI : Nat → Nat → Nat) (h0 h1 h2 sz : Nat) (cA cB : ClassId) (f g : Nat → Int64) (N P : Nat) (hN : N ≤ 1024) (h0P : 0 < P) (hPP : P < 2 ^ 31) : Met l yX0_reduce wsX0_reduce ({ frames := 2, cells := 0, slots := 0, locals := 48 }) (kPre (dC, dI) [(cA, .long), (cB, .long)] [.ref h0, .int (nI N), .long (lN P)] sz (w3 h0 h1 h2 cA cB f g)) (kQv (dC, dI) [(cA, .long), (cB, .long)] sz (w3 h0 h1 h2 cA cB f g) (fun w => w = w3 h0 h1 h2 cA cB (zem N (fun j => zrs P (f j)) f) g)) 0 0 (va_A (w3 h0 h1 h2 cA cB f g) sz) := by
  refine k_met (cc := cX0_reduce) (maxL := 5) (ret := none) (by decide) rfl (Nat.le_of_ble_eq_true rfl) ?_
  intro p e s m below meth c ls hx hb hr hlocks hml hown hts hnm hK hP hD hS hA hl
  have hl : lv_has ls 5 [(0, .ref h0), (1, .int (nI N)), (2, .long (lN P))] := hl
  have inws : ∀ w ∈ u_ws RX0 TX0 2, w ∈ wsX0_reduce := by decide +kernel
  refine lv_iconst (v := nI 0) hx hb dX0_reduce_0 (by decide) ?_
  refine lv_istore (lv' := [(4, .int (nI 0)), (0, .ref h0), (1, .int (nI N)), (2, .long (lN P))]) hx hb dX0_reduce_1 hl (by decide) rfl (fun ls hl => ?_)
  have loop : ∀ (n i : Nat), N + 1 ≤ i + n → i ≤ N → ∀ (H : Heap) (locs : List Loc), va_P (dC, dI) vwCl (w3 h0 h1 h2 cA cB (zpt i (fun j => lN (zrs P (f j))) f) g) H → va_D (va_A (w3 h0 h1 h2 cA cB f g) sz) (w3 h0 h1 h2 cA cB (zpt i (fun j => lN (zrs P (f j))) f) g) → va_S (va_A (w3 h0 h1 h2 cA cB f g) sz) s.heap H locs → ∀ (ls : Array Slot), lv_has ls 5 [(0, .ref h0), (1, .int (nI N)), (2, .long (lN P)), (4, .int (nI i))] → W p l e ({ frames := 2, cells := 0, slots := 0, locals := 48 } : Room) s m ([.ref h0, .int (nI N), .long (lN P)] : List Value).toArray below meth c H locs 0 0 (MQ below (kQv (dC, dI) [(cA, .long), (cB, .long)] sz (w3 h0 h1 h2 cA cB f g) (fun w => w = w3 h0 h1 h2 cA cB (zem N (fun j => zrs P (f j)) f) g)) ([.ref h0, .int (nI N), .long (lN P)] : List Value).toArray s 0 0 (va_A (w3 h0 h1 h2 cA cB f g) sz)) (F0 m 3 ls []) := by
    intro n
    induction n with
    | zero => intro i y1 y2; exact absurd y1 (by omega)
    | succ n ih =>
      intro i y1 y2 H locs hP hD hS ls hl
      refine lv_iload hx hb dX0_reduce_3 (lv_at hl 3 rfl) ?_
      refine lv_iload_n hx hb dX0_reduce_5 rfl (lv_at hl 1 rfl) ?_
      refine lv_icmp_ge (tgt := 33) hx hb dX0_reduce_6 (by decide) (fun hc => ?_) (fun hc => ?_)
      · have hi : i = N := by have := (nI_leI (by omega) (by omega)).mp hc; omega
        subst hi
        exact kr_v hx hb hr hlocks hK hP hD hS rfl dX0_reduce_33
      · have hi : i < N := Nat.not_le.mp fun z => hc ((nI_leI (by omega) (by omega)).mpr z)
        refine lv_aload_n hx hb dX0_reduce_9 rfl (lv_at hl 0 rfl) ?_
        refine va_get (D := (dC, dI)) (ci := 0) (v := .ref h1) (C := RX0) (T := TX0) (N := 2) hx hb hts inws hown hK hP 0 rfl rfl 0 (by decide) (hts (.fieldLink RX0 9 "ResidueTransforms" "row" "[J") (by decide +kernel)) (fun _ h9 => h9) rfl dX0_reduce_10 ?_
        refine lv_iload hx hb dX0_reduce_13 (lv_at hl 3 rfl) ?_
        refine lv_aload_n hx hb dX0_reduce_15 rfl (lv_at hl 0 rfl) ?_
        refine va_get (D := (dC, dI)) (ci := 0) (v := .ref h1) (C := RX0) (T := TX0) (N := 2) hx hb hts inws hown hK hP 0 rfl rfl 0 (by decide) (hts (.fieldLink RX0 9 "ResidueTransforms" "row" "[J") (by decide +kernel)) (fun _ h9 => h9) rfl dX0_reduce_16 ?_
        refine lv_iload hx hb dX0_reduce_19 (lv_at hl 3 rfl) ?_
        refine ka_ld hx hb hK hP 1 0 rfl rfl (i := i) (by omega) (by decide) dX0_reduce_21 ?_
        refine kt_l (v := f i) (zpt_at) ?_
        refine lv_lload_n hx hb dX0_reduce_22 rfl (lv_at hl 2 rfl) ?_
        refine kc_lv (As := [.long (f i), .long (lN P)]) (rest := [.int (nI i), .ref h1]) ⟨hx, hb, hml, hown, hts⟩ (m_rest l (f i) P h0P hPP) (va_cwS 2 hts gX0_reduce_X0_rest rfl rfl rfl (by decide +kernel) ⟨Nat.le_of_ble_eq_true rfl, Nat.le_of_ble_eq_true rfl⟩) rfl hl.1 rfl (Nat.le_of_ble_eq_true rfl) dX0_reduce_23 ⟨Nat.zero_le _, Nat.zero_le _⟩ ?_
        refine ka_st (w1 := w3 h0 h1 h2 cA cB (zpt (i + 1) (fun j => lN (zrs P (f j))) f) g) hx hb hK hP hD hS 1 0 rfl rfl (i := i) (by omega) (by decide) dX0_reduce_26 (congrArg (fun z => w3 h0 h1 h2 cA cB z g) (zpt_up rfl)) (fun H locs hP hD hS => ?_)
        refine lv_iinc (v := nI (i + 1)) (lv' := [(4, .int (nI (i + 1))), (0, .ref h0), (1, .int (nI N)), (2, .long (lN P))]) hx hb dX0_reduce_27 hl (k := 3) rfl (nI_1 i) (by decide) rfl (fun ls hl => ?_)
        refine lv_goto (tgt := 3) hx hb dX0_reduce_30 (by decide) ?_
        exact ih (i + 1) (by omega) (by omega) H locs hP hD hS ls (lv_sub hl [1, 2, 3, 0] rfl)
  exact loop (N + 1) 0 (by omega) (by omega) _ _ (by rw [zpt_0]; exact hP) (by rw [zpt_0]; exact hD) hS ls (lv_sub hl [1, 2, 3, 0] rfl)
set_option maxHeartbeats 4000000 in
set_option maxRecDepth 100000 in
theorem m_scale (l : Launch) (dC : Nat → ClassId) (dI : Nat → Nat → Nat) (h0 h1 h2 sz : Nat) (cA cB : ClassId) (f g : Nat → Int64) (G : Nat → Nat) (N c0 P : Nat) (hN : N ≤ 1024) (hPP : P ≤ 1000000007) (hc0 : c0 < P) (hG : ∀ t, t < N → G t < P) : Met l yX0_scale wsX0_scale ({ frames := 1, cells := 0, slots := 0, locals := 25 }) (kPre (dC, dI) [(cA, .long), (cB, .long)] [.ref h0, .int (nI N), .long (lN c0), .long (lN P)] sz (w3 h0 h1 h2 cA cB (zem N G f) g)) (kQv (dC, dI) [(cA, .long), (cB, .long)] sz (w3 h0 h1 h2 cA cB (zem N G f) g) (fun w => w = w3 h0 h1 h2 cA cB (zem N (fun j => G j * c0 % P) f) g)) 0 0 (va_A (w3 h0 h1 h2 cA cB (zem N G f) g) sz) := by
  refine k_met (cc := cX0_scale) (maxL := 7) (ret := none) (by decide) rfl (Nat.le_of_ble_eq_true rfl) ?_
  intro p e s m below meth c ls hx hb hr hlocks hml hown hts hnm hK hP hD hS hA hl
  have hl : lv_has ls 7 [(0, .ref h0), (1, .int (nI N)), (2, .long (lN c0)), (4, .long (lN P))] := hl
  have inws : ∀ w ∈ u_ws RX0 TX0 2, w ∈ wsX0_scale := by decide +kernel
  refine lv_iconst (v := nI 0) hx hb dX0_scale_0 (by decide) ?_
  refine lv_istore (lv' := [(6, .int (nI 0)), (0, .ref h0), (1, .int (nI N)), (2, .long (lN c0)), (4, .long (lN P))]) hx hb dX0_scale_1 hl (by decide) rfl (fun ls hl => ?_)
  have loop : ∀ (n i : Nat), N + 1 ≤ i + n → i ≤ N → ∀ (H : Heap) (locs : List Loc), va_P (dC, dI) vwCl (w3 h0 h1 h2 cA cB (zpt i (fun j => lN (G j * c0 % P)) (zem N G f)) g) H → va_D (va_A (w3 h0 h1 h2 cA cB (zem N G f) g) sz) (w3 h0 h1 h2 cA cB (zpt i (fun j => lN (G j * c0 % P)) (zem N G f)) g) → va_S (va_A (w3 h0 h1 h2 cA cB (zem N G f) g) sz) s.heap H locs → ∀ (ls : Array Slot), lv_has ls 7 [(0, .ref h0), (1, .int (nI N)), (2, .long (lN c0)), (4, .long (lN P)), (6, .int (nI i))] → W p l e ({ frames := 1, cells := 0, slots := 0, locals := 25 } : Room) s m ([.ref h0, .int (nI N), .long (lN c0), .long (lN P)] : List Value).toArray below meth c H locs 0 0 (MQ below (kQv (dC, dI) [(cA, .long), (cB, .long)] sz (w3 h0 h1 h2 cA cB (zem N G f) g) (fun w => w = w3 h0 h1 h2 cA cB (zem N (fun j => G j * c0 % P) f) g)) ([.ref h0, .int (nI N), .long (lN c0), .long (lN P)] : List Value).toArray s 0 0 (va_A (w3 h0 h1 h2 cA cB (zem N G f) g) sz)) (F0 m 3 ls []) := by
    intro n
    induction n with
    | zero => intro i y1 y2; exact absurd y1 (by omega)
    | succ n ih =>
      intro i y1 y2 H locs hP hD hS ls hl
      refine lv_iload hx hb dX0_scale_3 (lv_at hl 4 rfl) ?_
      refine lv_iload_n hx hb dX0_scale_5 rfl (lv_at hl 1 rfl) ?_
      refine lv_icmp_ge (tgt := 35) hx hb dX0_scale_6 (by decide) (fun hc => ?_) (fun hc => ?_)
      · have hi : i = N := by have := (nI_leI (by omega) (by omega)).mp hc; omega
        subst hi
        exact kr_v hx hb hr hlocks hK hP hD hS (congrArg (fun z => w3 h0 h1 h2 cA cB z g) zpt_zem) dX0_scale_35
      · have hi : i < N := Nat.not_le.mp fun z => hc ((nI_leI (by omega) (by omega)).mpr z)
        refine lv_aload_n hx hb dX0_scale_9 rfl (lv_at hl 0 rfl) ?_
        refine va_get (D := (dC, dI)) (ci := 0) (v := .ref h1) (C := RX0) (T := TX0) (N := 2) hx hb hts inws hown hK hP 0 rfl rfl 0 (by decide) (hts (.fieldLink RX0 9 "ResidueTransforms" "row" "[J") (by decide +kernel)) (fun _ h9 => h9) rfl dX0_scale_10 ?_
        refine lv_iload hx hb dX0_scale_13 (lv_at hl 4 rfl) ?_
        refine lv_aload_n hx hb dX0_scale_15 rfl (lv_at hl 0 rfl) ?_
        refine va_get (D := (dC, dI)) (ci := 0) (v := .ref h1) (C := RX0) (T := TX0) (N := 2) hx hb hts inws hown hK hP 0 rfl rfl 0 (by decide) (hts (.fieldLink RX0 9 "ResidueTransforms" "row" "[J") (by decide +kernel)) (fun _ h9 => h9) rfl dX0_scale_16 ?_
        refine lv_iload hx hb dX0_scale_19 (lv_at hl 4 rfl) ?_
        refine ka_ld hx hb hK hP 1 0 rfl rfl (i := i) (by omega) (by decide) dX0_scale_21 ?_
        refine kt_l (v := lN (G i)) (zpt_at.trans (zem_in hi)) ?_
        refine lv_lload_n hx hb dX0_scale_22 rfl (lv_at hl 2 rfl) ?_
        refine lv_lload hx hb dX0_scale_23 (lv_at hl 3 rfl) ?_
        refine kc_lv (As := [.long (lN (G i)), .long (lN c0), .long (lN P)]) (rest := [.int (nI i), .ref h1]) ⟨hx, hb, hml, hown, hts⟩ (m_product l (G i) c0 P hPP (hG i hi) hc0) (va_cwS 3 hts gX0_scale_X0_product rfl rfl rfl (by decide +kernel) ⟨Nat.le_of_ble_eq_true rfl, Nat.le_of_ble_eq_true rfl⟩) rfl hl.1 rfl (Nat.le_of_ble_eq_true rfl) dX0_scale_25 ⟨Nat.zero_le _, Nat.zero_le _⟩ ?_
        refine ka_st (w1 := w3 h0 h1 h2 cA cB (zpt (i + 1) (fun j => lN (G j * c0 % P)) (zem N G f)) g) hx hb hK hP hD hS 1 0 rfl rfl (i := i) (by omega) (by decide) dX0_scale_28 (congrArg (fun z => w3 h0 h1 h2 cA cB z g) (zpt_up rfl)) (fun H locs hP hD hS => ?_)
        refine lv_iinc (v := nI (i + 1)) (lv' := [(6, .int (nI (i + 1))), (0, .ref h0), (1, .int (nI N)), (2, .long (lN c0)), (4, .long (lN P))]) hx hb dX0_scale_29 hl (k := 4) rfl (nI_1 i) (by decide) rfl (fun ls hl => ?_)
        refine lv_goto (tgt := 3) hx hb dX0_scale_32 (by decide) ?_
        exact ih (i + 1) (by omega) (by omega) H locs hP hD hS ls (lv_sub hl [1, 2, 3, 4, 0] rfl)
  exact loop (N + 1) 0 (by omega) (by omega) _ _ (by rw [zpt_0]; exact hP) (by rw [zpt_0]; exact hD) hS ls (lv_sub hl [1, 2, 3, 4, 0] rfl)
set_option maxHeartbeats 4000000 in
set_option maxRecDepth 100000 in
theorem m_reorder (l : Launch) (dC : Nat → ClassId) (dI : Nat → Nat → Nat) (h0 h1 h2 sz : Nat) (cA cB : ClassId) (f g : Nat → Int64) (G : Nat → Nat) (L : Nat) (hL : L ≤ 10) : Met l yX0_reorder wsX0_reorder ({ frames := 1, cells := 0, slots := 0, locals := 24 }) (kPre (dC, dI) [(cA, .long), (cB, .long)] [.ref h0, .int (nI (2 ^ L))] sz (w3 h0 h1 h2 cA cB (zem (2 ^ L) G f) g)) (kQv (dC, dI) [(cA, .long), (cB, .long)] sz (w3 h0 h1 h2 cA cB (zem (2 ^ L) G f) g) (fun w => w = w3 h0 h1 h2 cA cB (zem (2 ^ L) (zo L G (2 ^ L)) f) g)) 0 0 (va_A (w3 h0 h1 h2 cA cB (zem (2 ^ L) G f) g) sz) := by
  refine k_met (cc := cX0_reorder) (maxL := 6) (ret := none) (by decide) rfl (Nat.le_of_ble_eq_true rfl) ?_
  intro p e s m below meth c ls hx hb hr hlocks hml hown hts hnm hK hP hD hS hA hl
  have hl : lv_has ls 6 [(0, .ref h0), (1, .int (nI (2 ^ L)))] := hl
  have inws : ∀ w ∈ u_ws RX0 TX0 2, w ∈ wsX0_reorder := by decide +kernel
  refine lv_iconst (v := nI 0) hx hb dX0_reorder_0 (by decide) ?_
  refine lv_istore_n (lv' := [(2, .int (nI 0)), (0, .ref h0), (1, .int (nI (2 ^ L)))]) hx hb dX0_reorder_1 rfl hl (by decide) rfl (fun ls hl => ?_)
  have h2p := z_2pow hL
  have loop : ∀ (n i : Nat), 2 ^ L + 1 ≤ i + n → i ≤ 2 ^ L → ∀ (H : Heap) (locs : List Loc), va_P (dC, dI) vwCl (w3 h0 h1 h2 cA cB (zem (2 ^ L) (zo L G i) f) g) H → va_D (va_A (w3 h0 h1 h2 cA cB (zem (2 ^ L) G f) g) sz) (w3 h0 h1 h2 cA cB (zem (2 ^ L) (zo L G i) f) g) → va_S (va_A (w3 h0 h1 h2 cA cB (zem (2 ^ L) G f) g) sz) s.heap H locs → ∀ (ls : Array Slot), lv_has ls 6 [(0, .ref h0), (1, .int (nI (2 ^ L))), (2, .int (nI i))] → W p l e ({ frames := 1, cells := 0, slots := 0, locals := 24 } : Room) s m ([.ref h0, .int (nI (2 ^ L))] : List Value).toArray below meth c H locs 0 0 (MQ below (kQv (dC, dI) [(cA, .long), (cB, .long)] sz (w3 h0 h1 h2 cA cB (zem (2 ^ L) G f) g) (fun w => w = w3 h0 h1 h2 cA cB (zem (2 ^ L) (zo L G (2 ^ L)) f) g)) ([.ref h0, .int (nI (2 ^ L))] : List Value).toArray s 0 0 (va_A (w3 h0 h1 h2 cA cB (zem (2 ^ L) G f) g) sz)) (F0 m 2 ls []) := by
    intro n
    induction n with
    | zero => intro i y1 y2; exact absurd y1 (by omega)
    | succ n ih =>
      intro i y1 y2 H locs hP hD hS ls hl
      have hz := zr_lt L i
      refine lv_iload_n hx hb dX0_reorder_2 rfl (lv_at hl 2 rfl) ?_
      refine lv_iload_n hx hb dX0_reorder_3 rfl (lv_at hl 1 rfl) ?_
      refine lv_icmp_ge (tgt := 52) hx hb dX0_reorder_4 (by decide) (fun hc => ?_) (fun hc => ?_)
      · have hi : i = 2 ^ L := by have := (nI_leI (by omega) (by omega)).mp hc; omega
        subst hi
        exact kr_v hx hb hr hlocks hK hP hD hS rfl dX0_reorder_52
      · have hi : i < 2 ^ L := Nat.not_le.mp fun z => hc ((nI_leI (by omega) (by omega)).mpr z)
        refine lv_iload_n hx hb dX0_reorder_7 rfl (lv_at hl 2 rfl) ?_
        refine lv_iload_n hx hb dX0_reorder_8 rfl (lv_at hl 1 rfl) ?_
        refine kc_iv (As := [.int (nI i), .int (nI (2 ^ L))]) (rest := []) ⟨hx, hb, hml, hown, hts⟩ (m_mirrored l i L hL hi (by omega)) (va_cwS 2 hts gX0_reorder_X0_mirrored rfl rfl rfl (by decide +kernel) ⟨Nat.le_of_ble_eq_true rfl, Nat.le_of_ble_eq_true rfl⟩) rfl hl.1 rfl (Nat.le_of_ble_eq_true rfl) dX0_reorder_9 ⟨Nat.zero_le _, Nat.zero_le _⟩ ?_
        refine lv_istore_n (lv' := [(3, .int (nI (zr L i))), (0, .ref h0), (1, .int (nI (2 ^ L))), (2, .int (nI i))]) hx hb dX0_reorder_12 rfl hl (by decide) rfl (fun ls hl => ?_)
        refine lv_iload_n hx hb dX0_reorder_13 rfl (lv_at hl 3 rfl) ?_
        refine lv_iload_n hx hb dX0_reorder_14 rfl (lv_at hl 0 rfl) ?_
        refine lv_icmp_ge (tgt := 46) hx hb dX0_reorder_15 (by decide) (fun hc2 => ?_) (fun hc2 => ?_)
        · have hle : ¬ i < zr L i := by have := (nI_leI (by omega) (by omega)).mp hc2; omega
          have e : zo L G (i + 1) = zo L G i := if_neg hle
          refine lv_iinc (v := nI (i + 1)) (lv' := [(2, .int (nI (i + 1))), (3, .int (nI (zr L i))), (0, .ref h0), (1, .int (nI (2 ^ L)))]) hx hb dX0_reorder_46 hl (k := 3) rfl (nI_1 i) (by decide) rfl (fun ls hl => ?_)
          refine lv_goto (tgt := 2) hx hb dX0_reorder_49 (by decide) ?_
          exact ih (i + 1) (by omega) (by omega) H locs (by rw [e]; exact hP) (by rw [e]; exact hD) hS ls (lv_sub hl [2, 3, 0] rfl)
        · have hlt : i < zr L i := Nat.not_le.mp fun z => hc2 ((nI_leI (by omega) (by omega)).mpr z)
          refine lv_aload_n hx hb dX0_reorder_18 rfl (lv_at hl 1 rfl) ?_
          refine va_get (D := (dC, dI)) (ci := 0) (v := .ref h1) (C := RX0) (T := TX0) (N := 2) hx hb hts inws hown hK hP 0 rfl rfl 0 (by decide) (hts (.fieldLink RX0 9 "ResidueTransforms" "row" "[J") (by decide +kernel)) (fun _ h9 => h9) rfl dX0_reorder_19 ?_
          refine lv_iload_n hx hb dX0_reorder_22 rfl (lv_at hl 3 rfl) ?_
          refine ka_ld hx hb hK hP 1 0 rfl rfl (i := i) (by omega) (by decide) dX0_reorder_23 ?_
          refine kt_l (v := lN (zo L G i i)) (zem_in (by omega)) ?_
          refine lv_lstore (lv' := [(4, .long (lN (zo L G i i))), (3, .int (nI (zr L i))), (0, .ref h0), (1, .int (nI (2 ^ L))), (2, .int (nI i))]) hx hb dX0_reorder_24 hl (by decide) rfl (fun ls hl => ?_)
          refine lv_aload_n hx hb dX0_reorder_26 rfl (lv_at hl 2 rfl) ?_
          refine va_get (D := (dC, dI)) (ci := 0) (v := .ref h1) (C := RX0) (T := TX0) (N := 2) hx hb hts inws hown hK hP 0 rfl rfl 0 (by decide) (hts (.fieldLink RX0 9 "ResidueTransforms" "row" "[J") (by decide +kernel)) (fun _ h9 => h9) rfl dX0_reorder_27 ?_
          refine lv_iload_n hx hb dX0_reorder_30 rfl (lv_at hl 4 rfl) ?_
          refine lv_aload_n hx hb dX0_reorder_31 rfl (lv_at hl 2 rfl) ?_
          refine va_get (D := (dC, dI)) (ci := 0) (v := .ref h1) (C := RX0) (T := TX0) (N := 2) hx hb hts inws hown hK hP 0 rfl rfl 0 (by decide) (hts (.fieldLink RX0 9 "ResidueTransforms" "row" "[J") (by decide +kernel)) (fun _ h9 => h9) rfl dX0_reorder_32 ?_
          refine lv_iload_n hx hb dX0_reorder_35 rfl (lv_at hl 1 rfl) ?_
          refine ka_ld hx hb hK hP 1 0 rfl rfl (i := zr L i) (by omega) (by decide) dX0_reorder_36 ?_
          refine kt_l (v := lN (zo L G i (zr L i))) (zem_in hz) ?_
          refine ka_st (w1 := w3 h0 h1 h2 cA cB (zem (2 ^ L) (zu (zo L G i) i (zo L G i (zr L i))) f) g) hx hb hK hP hD hS 1 0 rfl rfl (i := i) (by omega) (by decide) dX0_reorder_37 (congrArg (fun z => w3 h0 h1 h2 cA cB z g) (zem_up hi)) (fun H locs hP hD hS => ?_)
          refine lv_aload_n hx hb dX0_reorder_38 rfl (lv_at hl 2 rfl) ?_
          refine va_get (D := (dC, dI)) (ci := 0) (v := .ref h1) (C := RX0) (T := TX0) (N := 2) hx hb hts inws hown hK hP 0 rfl rfl 0 (by decide) (hts (.fieldLink RX0 9 "ResidueTransforms" "row" "[J") (by decide +kernel)) (fun _ h9 => h9) rfl dX0_reorder_39 ?_
          refine lv_iload_n hx hb dX0_reorder_42 rfl (lv_at hl 1 rfl) ?_
          refine lv_lload hx hb dX0_reorder_43 (lv_at hl 0 rfl) ?_
          refine ka_st (w1 := w3 h0 h1 h2 cA cB (zem (2 ^ L) (zo L G (i + 1)) f) g) hx hb hK hP hD hS 1 0 rfl rfl (i := zr L i) (by omega) (by decide) dX0_reorder_45 (congrArg (fun z => w3 h0 h1 h2 cA cB z g) ((zem_up hz).trans (congrArg (fun z => zem (2 ^ L) z f) (if_pos hlt).symm))) (fun H locs hP hD hS => ?_)
          refine lv_iinc (v := nI (i + 1)) (lv' := [(2, .int (nI (i + 1))), (4, .long (lN (zo L G i i))), (3, .int (nI (zr L i))), (0, .ref h0), (1, .int (nI (2 ^ L)))]) hx hb dX0_reorder_46 hl (k := 4) rfl (nI_1 i) (by decide) rfl (fun ls hl => ?_)
          refine lv_goto (tgt := 2) hx hb dX0_reorder_49 (by decide) ?_
          exact ih (i + 1) (by omega) (by omega) H locs hP hD hS ls (lv_sub hl [3, 4, 0] rfl)
  exact loop (2 ^ L + 1) 0 (by omega) (by omega) _ _ hP hD hS ls (lv_sub hl [1, 2, 0] rfl)
set_option maxHeartbeats 4000000 in
set_option maxRecDepth 100000 in
theorem m_joinPairs (l : Launch) (dC : Nat → ClassId) (dI : Nat → Nat → Nat) (h0 h1 h2 sz : Nat) (cA cB : ClassId) (f g : Nat → Int64) (G : Nat → Nat) (N h j fac P B : Nat) (hN : N ≤ 1024) (hNB : N = B * (2 * h)) (hj : j < h) (hh : h ≤ 1024) (hPP : P ≤ 1000000007) (hfac : fac < P) (hG : ∀ t, t < N → G t < P) : Met l yX0_joinPairs wsX0_joinPairs ({ frames := 1, cells := 0, slots := 0, locals := 25 }) (kPre (dC, dI) [(cA, .long), (cB, .long)] [.ref h0, .int (nI N), .int (nI h), .int (nI j), .long (lN fac), .long (lN P)] sz (w3 h0 h1 h2 cA cB (zem N G f) g)) (kQv (dC, dI) [(cA, .long), (cB, .long)] sz (w3 h0 h1 h2 cA cB (zem N G f) g) (fun w => w = w3 h0 h1 h2 cA cB (zem N (zps P h fac j G B) f) g)) 0 0 (va_A (w3 h0 h1 h2 cA cB (zem N G f) g) sz) := by
  refine k_met (cc := cX0_joinPairs) (maxL := 13) (ret := none) (by decide) rfl (Nat.le_of_ble_eq_true rfl) ?_
  intro p e s m below meth c ls hx hb hr hlocks hml hown hts hnm hK hP hD hS hA hl
  have hl : lv_has ls 13 [(0, .ref h0), (1, .int (nI N)), (2, .int (nI h)), (3, .int (nI j)), (4, .long (lN fac)), (6, .long (lN P))] := hl
  have inws : ∀ w ∈ u_ws RX0 TX0 2, w ∈ wsX0_joinPairs := by decide +kernel
  refine lv_iload_n hx hb dX0_joinPairs_0 rfl (lv_at hl 3 rfl) ?_
  refine lv_istore (lv' := [(8, .int (nI j)), (0, .ref h0), (1, .int (nI N)), (2, .int (nI h)), (3, .int (nI j)), (4, .long (lN fac)), (6, .long (lN P))]) hx hb dX0_joinPairs_1 hl (by decide) rfl (fun ls hl => ?_)
  have loop : ∀ (n b : Nat), B + 1 ≤ b + n → b ≤ B → ∀ (H : Heap) (locs : List Loc), va_P (dC, dI) vwCl (w3 h0 h1 h2 cA cB (zem N (zps P h fac j G b) f) g) H → va_D (va_A (w3 h0 h1 h2 cA cB (zem N G f) g) sz) (w3 h0 h1 h2 cA cB (zem N (zps P h fac j G b) f) g) → va_S (va_A (w3 h0 h1 h2 cA cB (zem N G f) g) sz) s.heap H locs → ∀ (ls : Array Slot), lv_has ls 13 [(0, .ref h0), (1, .int (nI N)), (2, .int (nI h)), (3, .int (nI j)), (4, .long (lN fac)), (6, .long (lN P)), (8, .int (nI (b * (2 * h) + j)))] → W p l e ({ frames := 1, cells := 0, slots := 0, locals := 25 } : Room) s m ([.ref h0, .int (nI N), .int (nI h), .int (nI j), .long (lN fac), .long (lN P)] : List Value).toArray below meth c H locs 0 0 (MQ below (kQv (dC, dI) [(cA, .long), (cB, .long)] sz (w3 h0 h1 h2 cA cB (zem N G f) g) (fun w => w = w3 h0 h1 h2 cA cB (zem N (zps P h fac j G B) f) g)) ([.ref h0, .int (nI N), .int (nI h), .int (nI j), .long (lN fac), .long (lN P)] : List Value).toArray s 0 0 (va_A (w3 h0 h1 h2 cA cB (zem N G f) g) sz)) (F0 m 3 ls []) := by
    intro n
    induction n with
    | zero => intro b y1 y2; exact absurd y1 (by omega)
    | succ n ih =>
      intro b y1 y2 H locs hP hD hS ls hl
      have hbB : b * (2 * h) ≤ B * (2 * h) := Nat.mul_le_mul_right _ y2
      refine lv_iload hx hb dX0_joinPairs_3 (lv_at hl 6 rfl) ?_
      refine lv_iload_n hx hb dX0_joinPairs_5 rfl (lv_at hl 2 rfl) ?_
      refine lv_iadd hx hb dX0_joinPairs_6 ?_
      refine kt_i (v := nI (b * (2 * h) + j + h)) (nI_add _ _) ?_
      refine lv_iload_n hx hb dX0_joinPairs_7 rfl (lv_at hl 1 rfl) ?_
      refine lv_icmp_ge (tgt := 84) hx hb dX0_joinPairs_8 (by decide) (fun hc => ?_) (fun hc => ?_)
      · have hle : N ≤ b * (2 * h) + j + h := (nI_leI (by omega) (by omega)).mp hc
        have hb2 : b = B := by
          rcases Nat.lt_or_ge b B with z | z
          · have := z_ml (2 * h) z; omega
          · omega
        subst hb2
        exact kr_v hx hb hr hlocks hK hP hD hS rfl dX0_joinPairs_84
      · have hlt : b * (2 * h) + j + h < N := Nat.not_le.mp fun z => hc ((nI_leI (by omega) (by omega)).mpr z)
        have hb2 : b < B := by
          rcases Nat.lt_or_ge b B with z | z
          · exact z
          · have : b = B := by omega
            subst this; omega
        have hz1 := zps_lt (P := P) (h := h) (fac := fac) (j := j) (by omega) hG b (b * (2 * h) + j) (by omega)
        have hz2 := zps_lt (P := P) (h := h) (fac := fac) (j := j) (by omega) hG b (b * (2 * h) + j + h) hlt
        have hz3 := Nat.mod_lt (zps P h fac j G b (b * (2 * h) + j + h) * fac) (show 0 < P by omega)
        refine lv_aload_n hx hb dX0_joinPairs_11 rfl (lv_at hl 0 rfl) ?_
        refine va_get (D := (dC, dI)) (ci := 0) (v := .ref h1) (C := RX0) (T := TX0) (N := 2) hx hb hts inws hown hK hP 0 rfl rfl 0 (by decide) (hts (.fieldLink RX0 9 "ResidueTransforms" "row" "[J") (by decide +kernel)) (fun _ h9 => h9) rfl dX0_joinPairs_12 ?_
        refine lv_iload hx hb dX0_joinPairs_15 (lv_at hl 6 rfl) ?_
        refine ka_ld hx hb hK hP 1 0 rfl rfl (i := b * (2 * h) + j) (by omega) (by decide) dX0_joinPairs_17 ?_
        refine kt_l (v := lN (zps P h fac j G b (b * (2 * h) + j))) (zem_in (by omega)) ?_
        refine lv_lstore (lv' := [(9, .long (lN (zps P h fac j G b (b * (2 * h) + j)))), (0, .ref h0), (1, .int (nI N)), (2, .int (nI h)), (3, .int (nI j)), (4, .long (lN fac)), (6, .long (lN P)), (8, .int (nI (b * (2 * h) + j)))]) hx hb dX0_joinPairs_18 hl (by decide) rfl (fun ls hl => ?_)
        refine lv_aload_n hx hb dX0_joinPairs_20 rfl (lv_at hl 1 rfl) ?_
        refine va_get (D := (dC, dI)) (ci := 0) (v := .ref h1) (C := RX0) (T := TX0) (N := 2) hx hb hts inws hown hK hP 0 rfl rfl 0 (by decide) (hts (.fieldLink RX0 9 "ResidueTransforms" "row" "[J") (by decide +kernel)) (fun _ h9 => h9) rfl dX0_joinPairs_21 ?_
        refine lv_iload hx hb dX0_joinPairs_24 (lv_at hl 7 rfl) ?_
        refine lv_iload_n hx hb dX0_joinPairs_26 rfl (lv_at hl 3 rfl) ?_
        refine lv_iadd hx hb dX0_joinPairs_27 ?_
        refine kt_i (v := nI (b * (2 * h) + j + h)) (nI_add _ _) ?_
        refine ka_ld hx hb hK hP 1 0 rfl rfl (i := b * (2 * h) + j + h) (by omega) (by decide) dX0_joinPairs_28 ?_
        refine kt_l (v := lN (zps P h fac j G b (b * (2 * h) + j + h))) (zem_in (by omega)) ?_
        refine lv_lload hx hb dX0_joinPairs_29 (lv_at hl 5 rfl) ?_
        refine lv_lload hx hb dX0_joinPairs_31 (lv_at hl 6 rfl) ?_
        refine kc_lv (As := [.long (lN (zps P h fac j G b (b * (2 * h) + j + h))), .long (lN fac), .long (lN P)]) (rest := []) ⟨hx, hb, hml, hown, hts⟩ (m_product l _ fac P hPP hz2 hfac) (va_cwS 3 hts gX0_joinPairs_X0_product rfl rfl rfl (by decide +kernel) ⟨Nat.le_of_ble_eq_true rfl, Nat.le_of_ble_eq_true rfl⟩) rfl hl.1 rfl (Nat.le_of_ble_eq_true rfl) dX0_joinPairs_33 ⟨Nat.zero_le _, Nat.zero_le _⟩ ?_
        refine lv_lstore (lv' := [(11, .long (lN (zps P h fac j G b (b * (2 * h) + j + h) * fac % P))), (9, .long (lN (zps P h fac j G b (b * (2 * h) + j)))), (0, .ref h0), (1, .int (nI N)), (2, .int (nI h)), (3, .int (nI j)), (4, .long (lN fac)), (6, .long (lN P)), (8, .int (nI (b * (2 * h) + j)))]) hx hb dX0_joinPairs_36 hl (by decide) rfl (fun ls hl => ?_)
        refine lv_aload_n hx hb dX0_joinPairs_38 rfl (lv_at hl 2 rfl) ?_
        refine va_get (D := (dC, dI)) (ci := 0) (v := .ref h1) (C := RX0) (T := TX0) (N := 2) hx hb hts inws hown hK hP 0 rfl rfl 0 (by decide) (hts (.fieldLink RX0 9 "ResidueTransforms" "row" "[J") (by decide +kernel)) (fun _ h9 => h9) rfl dX0_joinPairs_39 ?_
        refine lv_iload hx hb dX0_joinPairs_42 (lv_at hl 8 rfl) ?_
        refine lv_lload hx hb dX0_joinPairs_44 (lv_at hl 1 rfl) ?_
        refine lv_lload hx hb dX0_joinPairs_46 (lv_at hl 0 rfl) ?_
        refine lv_ladd hx hb dX0_joinPairs_48 ?_
        refine kt_l (v := lN (zps P h fac j G b (b * (2 * h) + j) + zps P h fac j G b (b * (2 * h) + j + h) * fac % P)) (lN_add _ _) ?_
        refine lv_lload hx hb dX0_joinPairs_49 (lv_at hl 7 rfl) ?_
        refine lv_lrem hx hb dX0_joinPairs_51 (zl_ne (by omega) (by omega)) ?_
        refine kt_l (v := lN ((zps P h fac j G b (b * (2 * h) + j) + zps P h fac j G b (b * (2 * h) + j + h) * fac % P) % P)) (pk_lRem (by omega) (by omega) (by omega)) ?_
        refine ka_st (w1 := w3 h0 h1 h2 cA cB (zem N (zu (zps P h fac j G b) (b * (2 * h) + j) ((zps P h fac j G b (b * (2 * h) + j) + zps P h fac j G b (b * (2 * h) + j + h) * fac % P) % P)) f) g) hx hb hK hP hD hS 1 0 rfl rfl (i := b * (2 * h) + j) (by omega) (by decide) dX0_joinPairs_52 (congrArg (fun z => w3 h0 h1 h2 cA cB z g) (zem_up (by omega))) (fun H locs hP hD hS => ?_)
        refine lv_aload_n hx hb dX0_joinPairs_53 rfl (lv_at hl 2 rfl) ?_
        refine va_get (D := (dC, dI)) (ci := 0) (v := .ref h1) (C := RX0) (T := TX0) (N := 2) hx hb hts inws hown hK hP 0 rfl rfl 0 (by decide) (hts (.fieldLink RX0 9 "ResidueTransforms" "row" "[J") (by decide +kernel)) (fun _ h9 => h9) rfl dX0_joinPairs_54 ?_
        refine lv_iload hx hb dX0_joinPairs_57 (lv_at hl 8 rfl) ?_
        refine lv_iload_n hx hb dX0_joinPairs_59 rfl (lv_at hl 4 rfl) ?_
        refine lv_iadd hx hb dX0_joinPairs_60 ?_
        refine kt_i (v := nI (b * (2 * h) + j + h)) (nI_add _ _) ?_
        refine lv_lload hx hb dX0_joinPairs_61 (lv_at hl 1 rfl) ?_
        refine lv_lload hx hb dX0_joinPairs_63 (lv_at hl 0 rfl) ?_
        refine lv_lsub hx hb dX0_joinPairs_65 ?_
        refine lv_lload hx hb dX0_joinPairs_66 (lv_at hl 7 rfl) ?_
        refine lv_ladd hx hb dX0_joinPairs_68 ?_
        refine kt_l (v := lN (zps P h fac j G b (b * (2 * h) + j) + P - zps P h fac j G b (b * (2 * h) + j + h) * fac % P)) (zl_spm (by omega)) ?_
        refine lv_lload hx hb dX0_joinPairs_69 (lv_at hl 7 rfl) ?_
        refine lv_lrem hx hb dX0_joinPairs_71 (zl_ne (by omega) (by omega)) ?_
        refine kt_l (v := lN ((zps P h fac j G b (b * (2 * h) + j) + P - zps P h fac j G b (b * (2 * h) + j + h) * fac % P) % P)) (pk_lRem (by omega) (by omega) (by omega)) ?_
        refine ka_st (w1 := w3 h0 h1 h2 cA cB (zem N (zps P h fac j G (b + 1)) f) g) hx hb hK hP hD hS 1 0 rfl rfl (i := b * (2 * h) + j + h) (by omega) (by decide) dX0_joinPairs_72 (congrArg (fun z => w3 h0 h1 h2 cA cB z g) ((zem_up (by omega)).trans rfl)) (fun H locs hP hD hS => ?_)
        refine lv_iload hx hb dX0_joinPairs_73 (lv_at hl 8 rfl) ?_
        refine lv_iconst (v := nI 2) hx hb dX0_joinPairs_75 (by decide) ?_
        refine lv_iload_n hx hb dX0_joinPairs_76 rfl (lv_at hl 4 rfl) ?_
        refine lv_imul hx hb dX0_joinPairs_77 ?_
        refine kt_i (v := nI (2 * h)) (pk_mul 2 h) ?_
        refine lv_iadd hx hb dX0_joinPairs_78 ?_
        refine kt_i (v := nI ((b + 1) * (2 * h) + j)) ((nI_add _ _).trans (congrArg nI (by rw [Nat.add_mul, Nat.one_mul]; omega))) ?_
        refine lv_istore (lv' := [(8, .int (nI ((b + 1) * (2 * h) + j))), (11, .long (lN (zps P h fac j G b (b * (2 * h) + j + h) * fac % P))), (9, .long (lN (zps P h fac j G b (b * (2 * h) + j)))), (0, .ref h0), (1, .int (nI N)), (2, .int (nI h)), (3, .int (nI j)), (4, .long (lN fac)), (6, .long (lN P))]) hx hb dX0_joinPairs_79 hl (by decide) rfl (fun ls hl => ?_)
        refine lv_goto (tgt := 3) hx hb dX0_joinPairs_81 (by decide) ?_
        exact ih (b + 1) (by omega) (by omega) H locs hP hD hS ls (lv_sub hl [3, 4, 5, 6, 7, 8, 0] rfl)
  refine loop (B + 1) 0 (by omega) (by omega) _ _ hP hD hS ls ?_
  rw [Nat.zero_mul, Nat.zero_add]
  exact (lv_sub hl [1, 2, 3, 4, 5, 6, 0] rfl)
end
section
/-! joinHalves and the public methods of the class -/
/-- what transform makes of a row -/
def zT (L P w : Nat) (q : Int32) (f : Nat → Int64) : Nat → Int64 :=
  if q = 0 then zem (2 ^ L) (fun k => zm P (w ^ k % P) (fun j => zrs P (f j)) (2 ^ L) * 1 % P) f
  else zem (2 ^ L) (fun k => zm P ((w ^ (P - 2) % P) ^ k % P) (fun j => zrs P (f j)) (2 ^ L) * ((2 ^ L) ^ (P - 2) % P) % P) f
theorem z_odd_pr {P : Nat} (h3 : 3 ≤ P) (h : ztd P) : P % 2 = 1 := by
  rcases Nat.mod_two_eq_zero_or_one P with z | z
  · exact absurd (Nat.dvd_of_mod_eq_zero z) (h 2 (by omega) (by omega))
  · exact z
theorem zW_all {L P : Nat} (h3 : 3 ≤ P) (h : ztd P) (hd : 2 ^ L ∣ P - 1) : ∃ w, zW (2 ^ L) P w := by
  cases L with
  | zero => exact ⟨1, Or.inl ⟨rfl, rfl⟩⟩
  | succ L =>
    rw [Nat.pow_succ'] at hd ⊢
    exact zW_ex (ztd_pr (by omega) h) h3 hd (Nat.two_pow_pos L)
theorem zW_h2 {L P w : Nat} (h : zW (2 ^ L) P w) : L ≠ 0 → w ^ (2 ^ L / 2) % P = P - 1 := by
  intro hL
  refine zW_half ?_ h
  obtain ⟨k, rfl⟩ : ∃ k, L = k + 1 := ⟨L - 1, by omega⟩
  rw [Nat.pow_succ]
  have := Nat.two_pow_pos k
  omega
theorem z_dvd_lt {L P : Nat} (h3 : 3 ≤ P) (hd : 2 ^ L ∣ P - 1) : 2 ^ L < P := by
  have := Nat.le_of_dvd (by omega) hd
  omega
theorem zT_fwd {L P w : Nat} {f : Nat → Int64} (h3 : 3 ≤ P) (hW : zW (2 ^ L) P w) : zem (2 ^ L) (zft P (2 ^ L) w (zo L (fun j => zrs P (f j)) (2 ^ L)) L) f = zT L P w 0 f := by
  unfold zT
  rw [if_pos rfl]
  refine zem_ex fun k hk => ?_
  rw [z_meet (by omega) (z_half h3 (zW_h2 hW)) (fun j _ => zrs_lt (by omega) _) hk, Nat.mul_one, Nat.mod_eq_of_lt (zm_lt (by omega) _)]
theorem zT_back {L P w : Nat} {f : Nat → Int64} {q : Int32} (hq : ¬ q = 0) (h3 : 3 ≤ P) (h : ztd P) (hW : zW (2 ^ L) P w) : zem (2 ^ L) (fun j => zft P (2 ^ L) (w ^ (P - 2) % P) (zo L (fun j => zrs P (f j)) (2 ^ L)) L j * ((2 ^ L) ^ (P - 2) % P) % P) f = zT L P w q f := by
  unfold zT
  rw [if_neg hq]
  refine zem_ex fun k hk => ?_
  rw [z_meet (by omega) (z_inv_half h3 (z_odd_pr h3 h) (zW_h2 hW)) (fun j _ => zrs_lt (by omega) _) hk]
set_option maxHeartbeats 4000000 in
set_option maxRecDepth 100000 in
theorem m_joinHalves (l : Launch) (dC : Nat → ClassId) (dI : Nat → Nat → Nat) (h0 h1 h2 sz : Nat) (cA cB : ClassId) (f g : Nat → Int64) (G : Nat → Nat) (L w0 P : Nat) (hL : L ≤ 10) (hPP : P ≤ 1000000007) (hP3 : 3 ≤ P) (hw0 : w0 < P) (hG : ∀ t, t < 2 ^ L → G t < P) : Met l yX0_joinHalves wsX0_joinHalves ({ frames := 2, cells := 0, slots := 0, locals := 57 }) (kPre (dC, dI) [(cA, .long), (cB, .long)] [.ref h0, .int (nI (2 ^ L)), .long (lN w0), .int (nI P)] sz (w3 h0 h1 h2 cA cB (zem (2 ^ L) G f) g)) (kQv (dC, dI) [(cA, .long), (cB, .long)] sz (w3 h0 h1 h2 cA cB (zem (2 ^ L) G f) g) (fun w => w = w3 h0 h1 h2 cA cB (zem (2 ^ L) (zft P (2 ^ L) w0 G L) f) g)) 0 0 (va_A (w3 h0 h1 h2 cA cB (zem (2 ^ L) G f) g) sz) := by
  refine k_met (cc := cX0_joinHalves) (maxL := 11) (ret := none) (by decide) rfl (Nat.le_of_ble_eq_true rfl) ?_
  intro p e s m below meth c ls hx hb hr hlocks hml hown hts hnm hK hP hD hS hA hl
  have hl : lv_has ls 11 [(0, .ref h0), (1, .int (nI (2 ^ L))), (2, .long (lN w0)), (4, .int (nI P))] := hl
  have inws : ∀ w ∈ u_ws RX0 TX0 2, w ∈ wsX0_joinHalves := by decide +kernel
  refine lv_iconst (v := nI (2 ^ 0)) hx hb dX0_joinHalves_0 (by decide) ?_
  refine lv_istore (lv' := [(5, .int (nI (2 ^ 0))), (0, .ref h0), (1, .int (nI (2 ^ L))), (2, .long (lN w0)), (4, .int (nI P))]) hx hb dX0_joinHalves_1 hl (by decide) rfl (fun ls hl => ?_)
  have h2p := z_2pow hL
  have loop : ∀ (n t : Nat), L + 1 ≤ t + n → t ≤ L → ∀ (H : Heap) (locs : List Loc), va_P (dC, dI) vwCl (w3 h0 h1 h2 cA cB (zem (2 ^ L) (zft P (2 ^ L) w0 G t) f) g) H → va_D (va_A (w3 h0 h1 h2 cA cB (zem (2 ^ L) G f) g) sz) (w3 h0 h1 h2 cA cB (zem (2 ^ L) (zft P (2 ^ L) w0 G t) f) g) → va_S (va_A (w3 h0 h1 h2 cA cB (zem (2 ^ L) G f) g) sz) s.heap H locs → ∀ (ls : Array Slot), lv_has ls 11 [(0, .ref h0), (1, .int (nI (2 ^ L))), (2, .long (lN w0)), (4, .int (nI P)), (5, .int (nI (2 ^ t)))] → W p l e ({ frames := 2, cells := 0, slots := 0, locals := 57 } : Room) s m ([.ref h0, .int (nI (2 ^ L)), .long (lN w0), .int (nI P)] : List Value).toArray below meth c H locs 0 0 (MQ below (kQv (dC, dI) [(cA, .long), (cB, .long)] sz (w3 h0 h1 h2 cA cB (zem (2 ^ L) G f) g) (fun w => w = w3 h0 h1 h2 cA cB (zem (2 ^ L) (zft P (2 ^ L) w0 G L) f) g)) ([.ref h0, .int (nI (2 ^ L)), .long (lN w0), .int (nI P)] : List Value).toArray s 0 0 (va_A (w3 h0 h1 h2 cA cB (zem (2 ^ L) G f) g) sz)) (F0 m 3 ls []) := by
    intro n
    induction n with
    | zero => intro t y1 y2; exact absurd y1 (by omega)
    | succ n ih =>
      intro t y1 y2 H locs hP hD hS ls hl
      have t1 := z_2pow (show t ≤ 10 by omega)
      refine lv_iload hx hb dX0_joinHalves_3 (lv_at hl 4 rfl) ?_
      refine lv_iload_n hx hb dX0_joinHalves_5 rfl (lv_at hl 1 rfl) ?_
      refine lv_icmp_ge (tgt := 78) hx hb dX0_joinHalves_6 (by decide) (fun hc => ?_) (fun hc => ?_)
      · have hle : 2 ^ L ≤ 2 ^ t := (nI_leI (by omega) (by omega)).mp hc
        have ht : t = L := by
          rcases Nat.lt_or_ge t L with z | z
          · exact absurd (Nat.pow_lt_pow_right (a := 2) (by omega) z) (by omega)
          · omega
        subst ht
        exact kr_v hx hb hr hlocks hK hP hD hS rfl dX0_joinHalves_78
      · have hlt : t < L := by
          rcases Nat.lt_or_ge t L with z | z
          · exact z
          · exact absurd ((nI_leI (by omega) (by omega)).mpr (Nat.pow_le_pow_right (by omega) z)) hc
        have hB : 2 ^ L = (2 ^ L / (2 * 2 ^ t)) * (2 * 2 ^ t) := by
          rw [← Nat.pow_succ', Nat.div_mul_cancel (Nat.pow_dvd_pow 2 hlt)]
        have hB2 := Nat.div_le_self (2 ^ L) (2 * 2 ^ t)
        have hst := Nat.mod_lt (w0 ^ (2 ^ L / (2 * 2 ^ t))) (show 0 < P by omega)
        refine lv_lload_n hx hb dX0_joinHalves_9 rfl (lv_at hl 2 rfl) ?_
        refine lv_iload_n hx hb dX0_joinHalves_10 rfl (lv_at hl 1 rfl) ?_
        refine lv_iconst (v := nI 2) hx hb dX0_joinHalves_11 (by decide) ?_
        refine lv_iload hx hb dX0_joinHalves_12 (lv_at hl 4 rfl) ?_
        refine lv_imul hx hb dX0_joinHalves_14 ?_
        refine kt_i (v := nI (2 * 2 ^ t)) (pk_mul 2 _) ?_
        refine lv_idiv hx hb dX0_joinHalves_15 (nI_ne0 (by omega) (by omega)) ?_
        refine kt_i (v := nI (2 ^ L / (2 * 2 ^ t))) (pk_div (by omega) (by omega) (by omega)) ?_
        refine lv_iload hx hb dX0_joinHalves_16 (lv_at hl 3 rfl) ?_
        refine lv_i2l (v := lN P) hx hb dX0_joinHalves_18 (nI_l (by omega)) ?_
        refine kc_lv (As := [.long (lN w0), .int (nI (2 ^ L / (2 * 2 ^ t))), .long (lN P)]) (rest := []) ⟨hx, hb, hml, hown, hts⟩ (m_power l w0 (2 ^ L / (2 * 2 ^ t)) P hPP hw0 (by omega) (by omega)) (va_cwS 3 hts gX0_joinHalves_X0_power rfl rfl rfl (by decide +kernel) ⟨Nat.le_of_ble_eq_true rfl, Nat.le_of_ble_eq_true rfl⟩) rfl hl.1 rfl (Nat.le_of_ble_eq_true rfl) dX0_joinHalves_19 ⟨Nat.zero_le _, Nat.zero_le _⟩ ?_
        refine lv_lstore (lv' := [(6, .long (lN (w0 ^ (2 ^ L / (2 * 2 ^ t)) % P))), (0, .ref h0), (1, .int (nI (2 ^ L))), (2, .long (lN w0)), (4, .int (nI P)), (5, .int (nI (2 ^ t)))]) hx hb dX0_joinHalves_22 hl (by decide) rfl (fun ls hl => ?_)
        have e1 : lN 1 = lN ((w0 ^ (2 ^ L / (2 * 2 ^ t)) % P) ^ 0 % P) := by rw [Nat.pow_zero, Nat.mod_eq_of_lt (by omega)]
        refine lv_lconst (v := lN 1) hx hb dX0_joinHalves_24 (by decide) ?_
        refine kt_l e1 ?_
        refine lv_lstore (lv' := [(8, .long (lN ((w0 ^ (2 ^ L / (2 * 2 ^ t)) % P) ^ 0 % P))), (6, .long (lN (w0 ^ (2 ^ L / (2 * 2 ^ t)) % P))), (0, .ref h0), (1, .int (nI (2 ^ L))), (2, .long (lN w0)), (4, .int (nI P)), (5, .int (nI (2 ^ t)))]) hx hb dX0_joinHalves_25 hl (by decide) rfl (fun ls hl => ?_)
        refine lv_iconst (v := nI 0) hx hb dX0_joinHalves_27 (by decide) ?_
        refine lv_istore (lv' := [(10, .int (nI 0)), (8, .long (lN ((w0 ^ (2 ^ L / (2 * 2 ^ t)) % P) ^ 0 % P))), (6, .long (lN (w0 ^ (2 ^ L / (2 * 2 ^ t)) % P))), (0, .ref h0), (1, .int (nI (2 ^ L))), (2, .long (lN w0)), (4, .int (nI P)), (5, .int (nI (2 ^ t)))]) hx hb dX0_joinHalves_28 hl (by decide) rfl (fun ls hl => ?_)
        have inner : ∀ (n2 j : Nat), 2 ^ t + 1 ≤ j + n2 → j ≤ 2 ^ t → ∀ (H : Heap) (locs : List Loc), va_P (dC, dI) vwCl (w3 h0 h1 h2 cA cB (zem (2 ^ L) (zlv P (2 ^ t) (w0 ^ (2 ^ L / (2 * 2 ^ t)) % P) (2 ^ L / (2 * 2 ^ t)) (zft P (2 ^ L) w0 G t) j) f) g) H → va_D (va_A (w3 h0 h1 h2 cA cB (zem (2 ^ L) G f) g) sz) (w3 h0 h1 h2 cA cB (zem (2 ^ L) (zlv P (2 ^ t) (w0 ^ (2 ^ L / (2 * 2 ^ t)) % P) (2 ^ L / (2 * 2 ^ t)) (zft P (2 ^ L) w0 G t) j) f) g) → va_S (va_A (w3 h0 h1 h2 cA cB (zem (2 ^ L) G f) g) sz) s.heap H locs → ∀ (ls : Array Slot), lv_has ls 11 [(0, .ref h0), (1, .int (nI (2 ^ L))), (2, .long (lN w0)), (4, .int (nI P)), (5, .int (nI (2 ^ t))), (6, .long (lN (w0 ^ (2 ^ L / (2 * 2 ^ t)) % P))), (8, .long (lN ((w0 ^ (2 ^ L / (2 * 2 ^ t)) % P) ^ j % P))), (10, .int (nI j))] → W p l e ({ frames := 2, cells := 0, slots := 0, locals := 57 } : Room) s m ([.ref h0, .int (nI (2 ^ L)), .long (lN w0), .int (nI P)] : List Value).toArray below meth c H locs 0 0 (MQ below (kQv (dC, dI) [(cA, .long), (cB, .long)] sz (w3 h0 h1 h2 cA cB (zem (2 ^ L) G f) g) (fun w => w = w3 h0 h1 h2 cA cB (zem (2 ^ L) (zft P (2 ^ L) w0 G L) f) g)) ([.ref h0, .int (nI (2 ^ L)), .long (lN w0), .int (nI P)] : List Value).toArray s 0 0 (va_A (w3 h0 h1 h2 cA cB (zem (2 ^ L) G f) g) sz)) (F0 m 30 ls []) := by
          intro n2
          induction n2 with
          | zero => intro j y3 y4; exact absurd y3 (by omega)
          | succ n2 ih2 =>
            intro j y3 y4 H locs hP hD hS ls hl
            refine lv_iload hx hb dX0_joinHalves_30 (lv_at hl 7 rfl) ?_
            refine lv_iload hx hb dX0_joinHalves_32 (lv_at hl 4 rfl) ?_
            refine lv_icmp_ge (tgt := 69) hx hb dX0_joinHalves_34 (by decide) (fun hc2 => ?_) (fun hc2 => ?_)
            · have hj : j = 2 ^ t := by have := (nI_leI (by omega) (by omega)).mp hc2; omega
              rw [hj] at hP hD
              refine lv_iload hx hb dX0_joinHalves_69 (lv_at hl 4 rfl) ?_
              refine lv_iconst (v := (1 : Int32)) hx hb dX0_joinHalves_71 (by decide) ?_
              refine lv_ishl hx hb dX0_joinHalves_72 ?_
              refine kt_i (v := nI (2 ^ (t + 1))) ((pk_shlN _ 1 (by decide) (by omega)).trans (by rw [Nat.pow_one, Nat.pow_succ])) ?_
              refine lv_istore (lv' := [(5, .int (nI (2 ^ (t + 1)))), (0, .ref h0), (1, .int (nI (2 ^ L))), (2, .long (lN w0)), (4, .int (nI P)), (6, .long (lN (w0 ^ (2 ^ L / (2 * 2 ^ t)) % P))), (8, .long (lN ((w0 ^ (2 ^ L / (2 * 2 ^ t)) % P) ^ j % P))), (10, .int (nI j))]) hx hb dX0_joinHalves_73 hl (by decide) rfl (fun ls hl => ?_)
              refine lv_goto (tgt := 3) hx hb dX0_joinHalves_75 (by decide) ?_
              exact ih (t + 1) (by omega) (by omega) H locs hP hD hS ls (lv_sub hl [1, 2, 3, 4, 0] rfl)
            · have hj : j < 2 ^ t := Nat.not_le.mp fun z => hc2 ((nI_leI (by omega) (by omega)).mpr z)
              have hfac := Nat.mod_lt ((w0 ^ (2 ^ L / (2 * 2 ^ t)) % P) ^ j) (show 0 < P by omega)
              refine lv_aload_n hx hb dX0_joinHalves_37 rfl (lv_at hl 0 rfl) ?_
              refine lv_iload_n hx hb dX0_joinHalves_38 rfl (lv_at hl 1 rfl) ?_
              refine lv_iload hx hb dX0_joinHalves_39 (lv_at hl 4 rfl) ?_
              refine lv_iload hx hb dX0_joinHalves_41 (lv_at hl 7 rfl) ?_
              refine lv_lload hx hb dX0_joinHalves_43 (lv_at hl 6 rfl) ?_
              refine lv_iload hx hb dX0_joinHalves_45 (lv_at hl 3 rfl) ?_
              refine lv_i2l (v := lN P) hx hb dX0_joinHalves_47 (nI_l (by omega)) ?_
              refine kv_v (As := [.int (nI (2 ^ L)), .int (nI (2 ^ t)), .int (nI j), .long (lN ((w0 ^ (2 ^ L / (2 * 2 ^ t)) % P) ^ j % P)), .long (lN P)]) (rest := []) (ci := 0) (q := (RX0, TX0, 2)) (wc := w3 h0 h1 h2 cA cB (zem (2 ^ L) (zlv P (2 ^ t) (w0 ^ (2 ^ L / (2 * 2 ^ t)) % P) (2 ^ L / (2 * 2 ^ t)) (zft P (2 ^ L) w0 G t) j) f) g) (wr := []) ⟨hx, hb, hml, hown, hts⟩ (m_joinPairs l dC dI h0 h1 h2 _ cA cB f g _ (2 ^ L) (2 ^ t) j ((w0 ^ (2 ^ L / (2 * 2 ^ t)) % P) ^ j % P) P (2 ^ L / (2 * 2 ^ t)) (by omega) hB hj (by omega) hPP hfac (zlv_lt (by omega) (zft_lt (by omega) hG t) j)) (cwV 5 hts gX0_joinHalves_X0_joinPairs rfl rfl rfl (by decide +kernel) ⟨Nat.le_of_ble_eq_true rfl, Nat.le_of_ble_eq_true rfl⟩) hK hK hP hD hS hA [0, 1, 2] [] rfl rfl rfl (by decide) hP hD rfl rfl rfl hl.1 rfl (Nat.le_of_ble_eq_true rfl) dX0_joinHalves_48 ⟨Nat.zero_le _, Nat.zero_le _⟩ (fun w9 H locs hw9 hP hD hS => ?_)
              have hw9 : w9 = w3 h0 h1 h2 cA cB (zem (2 ^ L) (zlv P (2 ^ t) (w0 ^ (2 ^ L / (2 * 2 ^ t)) % P) (2 ^ L / (2 * 2 ^ t)) (zft P (2 ^ L) w0 G t) (j + 1)) f) g := hw9
              subst hw9
              have hP : va_P (dC, dI) vwCl (w3 h0 h1 h2 cA cB (zem (2 ^ L) (zlv P (2 ^ t) (w0 ^ (2 ^ L / (2 * 2 ^ t)) % P) (2 ^ L / (2 * 2 ^ t)) (zft P (2 ^ L) w0 G t) (j + 1)) f) g) H := hP
              have hD : va_D (va_A (w3 h0 h1 h2 cA cB (zem (2 ^ L) G f) g) sz) (w3 h0 h1 h2 cA cB (zem (2 ^ L) (zlv P (2 ^ t) (w0 ^ (2 ^ L / (2 * 2 ^ t)) % P) (2 ^ L / (2 * 2 ^ t)) (zft P (2 ^ L) w0 G t) (j + 1)) f) g) := hD
              refine lv_lload hx hb dX0_joinHalves_51 (lv_at hl 6 rfl) ?_
              refine lv_lload hx hb dX0_joinHalves_53 (lv_at hl 5 rfl) ?_
              refine lv_iload hx hb dX0_joinHalves_55 (lv_at hl 3 rfl) ?_
              refine lv_i2l (v := lN P) hx hb dX0_joinHalves_57 (nI_l (by omega)) ?_
              refine kc_lv (As := [.long (lN ((w0 ^ (2 ^ L / (2 * 2 ^ t)) % P) ^ j % P)), .long (lN (w0 ^ (2 ^ L / (2 * 2 ^ t)) % P)), .long (lN P)]) (rest := []) ⟨hx, hb, hml, hown, hts⟩ (m_product l _ _ P hPP hfac hst) (va_cwS 3 hts gX0_joinHalves_X0_product rfl rfl rfl (by decide +kernel) ⟨Nat.le_of_ble_eq_true rfl, Nat.le_of_ble_eq_true rfl⟩) rfl hl.1 rfl (Nat.le_of_ble_eq_true rfl) dX0_joinHalves_58 ⟨Nat.zero_le _, Nat.zero_le _⟩ ?_
              refine kt_l (v := lN ((w0 ^ (2 ^ L / (2 * 2 ^ t)) % P) ^ (j + 1) % P)) (congrArg lN (z_pw j)) ?_
              refine lv_lstore (lv' := [(8, .long (lN ((w0 ^ (2 ^ L / (2 * 2 ^ t)) % P) ^ (j + 1) % P))), (0, .ref h0), (1, .int (nI (2 ^ L))), (2, .long (lN w0)), (4, .int (nI P)), (5, .int (nI (2 ^ t))), (6, .long (lN (w0 ^ (2 ^ L / (2 * 2 ^ t)) % P))), (10, .int (nI j))]) hx hb dX0_joinHalves_61 hl (by decide) rfl (fun ls hl => ?_)
              refine lv_iinc (v := nI (j + 1)) (lv' := [(10, .int (nI (j + 1))), (8, .long (lN ((w0 ^ (2 ^ L / (2 * 2 ^ t)) % P) ^ (j + 1) % P))), (0, .ref h0), (1, .int (nI (2 ^ L))), (2, .long (lN w0)), (4, .int (nI P)), (5, .int (nI (2 ^ t))), (6, .long (lN (w0 ^ (2 ^ L / (2 * 2 ^ t)) % P)))]) hx hb dX0_joinHalves_63 hl (k := 7) rfl (nI_1 j) (by decide) rfl (fun ls hl => ?_)
              refine lv_goto (tgt := 30) hx hb dX0_joinHalves_66 (by decide) ?_
              exact ih2 (j + 1) (by omega) (by omega) H locs hP hD hS ls (lv_sub hl [2, 3, 4, 5, 6, 7, 1, 0] rfl)
        exact inner (2 ^ t + 1) 0 (by omega) (by omega) H locs hP hD hS ls (lv_sub hl [3, 4, 5, 6, 7, 2, 1, 0] rfl)
  exact loop (L + 1) 0 (by omega) (by omega) _ _ hP hD hS ls (lv_sub hl [1, 2, 3, 4, 0] rfl)
set_option maxHeartbeats 4000000 in
set_option maxRecDepth 100000 in
theorem m_put (l : Launch) (dC : Nat → ClassId) (dI : Nat → Nat → Nat) (h0 h1 h2 sz : Nat) (cA cB : ClassId) (f g : Nat → Int64) (q : Int32) (v : Int64) : Met l yX0_put wsX0_put ({ frames := 1, cells := 0, slots := 0, locals := 20 }) (kPre (dC, dI) [(cA, .long), (cB, .long)] [.ref h0, .int q, .long v] sz (w3 h0 h1 h2 cA cB f g)) (kQi (dC, dI) [(cA, .long), (cB, .long)] sz (w3 h0 h1 h2 cA cB f g) (fun r w => (r = 1 ∧ ∃ j, j < 1024 ∧ q = nI j ∧ w = w3 h0 h1 h2 cA cB (vp_updL f j v) g) ∨ (r = 0 ∧ (¬ ∃ j, j < 1024 ∧ q = nI j) ∧ w = w3 h0 h1 h2 cA cB f g))) 0 0 (va_A (w3 h0 h1 h2 cA cB f g) sz) := by
  refine k_met (cc := cX0_put) (maxL := 4) (ret := (some .boolean)) (by decide) rfl (Nat.le_of_ble_eq_true rfl) ?_
  intro p e s m below meth c ls hx hb hr hlocks hml hown hts hnm hK hP hD hS hA hl
  have hl : lv_has ls 4 [(0, .ref h0), (1, .int q), (2, .long v)] := hl
  have inws : ∀ w ∈ u_ws RX0 TX0 2, w ∈ wsX0_put := by decide +kernel
  refine lv_iload_n hx hb dX0_put_0 rfl (lv_at hl 1 rfl) ?_
  refine kc_i (As := [.int q]) (rest := []) ⟨hx, hb, hml, hown, hts⟩ (m_isPlace l q) (va_cwS 1 hts gX0_put_X0_isPlace rfl rfl rfl (by decide +kernel) ⟨Nat.le_of_ble_eq_true rfl, Nat.le_of_ble_eq_true rfl⟩) rfl hl.1 rfl (Nat.le_of_ble_eq_true rfl) dX0_put_1 ⟨Nat.zero_le _, Nat.zero_le _⟩ (fun r1 hr1 => ?_)
  rcases hr1 with ⟨rfl, j, hj, rfl⟩ | ⟨rfl, hn⟩
  · refine lv_if_ne (tgt := 9) hx hb dX0_put_4 (by decide) (fun _ => ?_) (fun hc => absurd hc (by decide))
    refine lv_aload_n hx hb dX0_put_9 rfl (lv_at hl 0 rfl) ?_
    refine va_get (D := (dC, dI)) (ci := 0) (v := .ref h1) (C := RX0) (T := TX0) (N := 2) hx hb hts inws hown hK hP 0 rfl rfl 0 (by decide) (hts (.fieldLink RX0 9 "ResidueTransforms" "row" "[J") (by decide +kernel)) (fun _ h9 => h9) rfl dX0_put_10 ?_
    refine lv_iload_n hx hb dX0_put_13 rfl (lv_at hl 1 rfl) ?_
    refine lv_lload_n hx hb dX0_put_14 rfl (lv_at hl 2 rfl) ?_
    refine ka_st (w1 := w3 h0 h1 h2 cA cB (vp_updL f j v) g) hx hb hK hP hD hS 1 0 rfl rfl (i := j) (hj) (by decide) dX0_put_15 (congrArg (fun z => w3 h0 h1 h2 cA cB z g) (rfl)) (fun H locs hP hD hS => ?_)
    refine lv_iconst (v := (1 : Int32)) hx hb dX0_put_16 (by decide) ?_
    exact kr_z hx hb hr rfl hlocks hK hP hD hS (Or.inl ⟨rfl, j, hj, rfl, rfl⟩) dX0_put_17
  · refine lv_if_ne (tgt := 9) hx hb dX0_put_4 (by decide) (fun hc => absurd rfl hc) (fun _ => ?_)
    refine lv_iconst (v := (0 : Int32)) hx hb dX0_put_7 (by decide) ?_
    exact kr_z hx hb hr rfl hlocks hK hP hD hS (Or.inr ⟨rfl, hn, rfl⟩) dX0_put_8
set_option maxHeartbeats 4000000 in
set_option maxRecDepth 100000 in
theorem m_get (l : Launch) (dC : Nat → ClassId) (dI : Nat → Nat → Nat) (h0 h1 h2 sz : Nat) (cA cB : ClassId) (f g : Nat → Int64) (q : Int32) : Met l yX0_get wsX0_get ({ frames := 1, cells := 0, slots := 0, locals := 20 }) (kPre (dC, dI) [(cA, .long), (cB, .long)] [.ref h0, .int q] sz (w3 h0 h1 h2 cA cB f g)) (kQl (dC, dI) [(cA, .long), (cB, .long)] sz (w3 h0 h1 h2 cA cB f g) (fun r w => w = w3 h0 h1 h2 cA cB f g ∧ ((∃ j, j < 1024 ∧ q = nI j ∧ r = f j) ∨ ((¬ ∃ j, j < 1024 ∧ q = nI j) ∧ r = lN 0)))) 0 0 (va_A (w3 h0 h1 h2 cA cB f g) sz) := by
  refine k_met (cc := cX0_get) (maxL := 2) (ret := (some .long)) (by decide) rfl (Nat.le_of_ble_eq_true rfl) ?_
  intro p e s m below meth c ls hx hb hr hlocks hml hown hts hnm hK hP hD hS hA hl
  have hl : lv_has ls 2 [(0, .ref h0), (1, .int q)] := hl
  have inws : ∀ w ∈ u_ws RX0 TX0 2, w ∈ wsX0_get := by decide +kernel
  refine lv_iload_n hx hb dX0_get_0 rfl (lv_at hl 1 rfl) ?_
  refine kc_i (As := [.int q]) (rest := []) ⟨hx, hb, hml, hown, hts⟩ (m_isPlace l q) (va_cwS 1 hts gX0_get_X0_isPlace rfl rfl rfl (by decide +kernel) ⟨Nat.le_of_ble_eq_true rfl, Nat.le_of_ble_eq_true rfl⟩) rfl hl.1 rfl (Nat.le_of_ble_eq_true rfl) dX0_get_1 ⟨Nat.zero_le _, Nat.zero_le _⟩ (fun r1 hr1 => ?_)
  rcases hr1 with ⟨rfl, j, hj, rfl⟩ | ⟨rfl, hn⟩
  · refine lv_if_eq (tgt := 16) hx hb dX0_get_4 (by decide) (fun hc => absurd hc (by decide)) (fun _ => ?_)
    refine lv_aload_n hx hb dX0_get_7 rfl (lv_at hl 0 rfl) ?_
    refine va_get (D := (dC, dI)) (ci := 0) (v := .ref h1) (C := RX0) (T := TX0) (N := 2) hx hb hts inws hown hK hP 0 rfl rfl 0 (by decide) (hts (.fieldLink RX0 9 "ResidueTransforms" "row" "[J") (by decide +kernel)) (fun _ h9 => h9) rfl dX0_get_8 ?_
    refine lv_iload_n hx hb dX0_get_11 rfl (lv_at hl 1 rfl) ?_
    refine ka_ld hx hb hK hP 1 0 rfl rfl (i := j) (hj) (by decide) dX0_get_12 ?_
    refine lv_goto (tgt := 17) hx hb dX0_get_13 (by decide) ?_
    exact kr_l hx hb hr hlocks hK hP hD hS ⟨rfl, Or.inl ⟨j, hj, rfl, rfl⟩⟩ dX0_get_17
  · refine lv_if_eq (tgt := 16) hx hb dX0_get_4 (by decide) (fun _ => ?_) (fun hc => absurd rfl hc)
    refine lv_lconst (v := lN 0) hx hb dX0_get_16 (by decide) ?_
    exact kr_l hx hb hr hlocks hK hP hD hS ⟨rfl, Or.inr ⟨hn, rfl⟩⟩ dX0_get_17
set_option maxHeartbeats 4000000 in
set_option maxRecDepth 100000 in
theorem m_keep (l : Launch) (dC : Nat → ClassId) (dI : Nat → Nat → Nat) (h0 h1 h2 sz : Nat) (cA cB : ClassId) (f g : Nat → Int64) (q : Int32) : Met l yX0_keep wsX0_keep ({ frames := 1, cells := 0, slots := 0, locals := 20 }) (kPre (dC, dI) [(cA, .long), (cB, .long)] [.ref h0, .int q] sz (w3 h0 h1 h2 cA cB f g)) (kQi (dC, dI) [(cA, .long), (cB, .long)] sz (w3 h0 h1 h2 cA cB f g) (fun r w => (r = 1 ∧ ∃ j, j ≤ 1024 ∧ q = nI j ∧ w = w3 h0 h1 h2 cA cB f (zpt 1024 (fun t => if t < j then f t else lN 0) g)) ∨ (r = 0 ∧ (¬ ∃ j, j ≤ 1024 ∧ q = nI j) ∧ w = w3 h0 h1 h2 cA cB f g))) 0 0 (va_A (w3 h0 h1 h2 cA cB f g) sz) := by
  refine k_met (cc := cX0_keep) (maxL := 3) (ret := (some .boolean)) (by decide) rfl (Nat.le_of_ble_eq_true rfl) ?_
  intro p e s m below meth c ls hx hb hr hlocks hml hown hts hnm hK hP hD hS hA hl
  have hl : lv_has ls 3 [(0, .ref h0), (1, .int q)] := hl
  have inws : ∀ w ∈ u_ws RX0 TX0 2, w ∈ wsX0_keep := by decide +kernel
  refine lv_iload_n hx hb dX0_keep_0 rfl (lv_at hl 1 rfl) ?_
  refine kc_i (As := [.int q]) (rest := []) ⟨hx, hb, hml, hown, hts⟩ (m_isCount l q) (va_cwS 1 hts gX0_keep_X0_isCount rfl rfl rfl (by decide +kernel) ⟨Nat.le_of_ble_eq_true rfl, Nat.le_of_ble_eq_true rfl⟩) rfl hl.1 rfl (Nat.le_of_ble_eq_true rfl) dX0_keep_1 ⟨Nat.zero_le _, Nat.zero_le _⟩ (fun r1 hr1 => ?_)
  rcases hr1 with ⟨rfl, N, hN, rfl⟩ | ⟨rfl, hn⟩
  · refine lv_if_ne (tgt := 9) hx hb dX0_keep_4 (by decide) (fun _ => ?_) (fun hc => absurd hc (by decide))
    refine lv_iconst (v := nI 0) hx hb dX0_keep_9 (by decide) ?_
    refine lv_istore_n (lv' := [(2, .int (nI 0)), (0, .ref h0), (1, .int (nI N))]) hx hb dX0_keep_10 rfl hl (by decide) rfl (fun ls hl => ?_)
    have loop : ∀ (n i : Nat), 1025 ≤ i + n → i ≤ 1024 → ∀ (H : Heap) (locs : List Loc), va_P (dC, dI) vwCl (w3 h0 h1 h2 cA cB f (zpt i (fun t => if t < N then f t else lN 0) g)) H → va_D (va_A (w3 h0 h1 h2 cA cB f g) sz) (w3 h0 h1 h2 cA cB f (zpt i (fun t => if t < N then f t else lN 0) g)) → va_S (va_A (w3 h0 h1 h2 cA cB f g) sz) s.heap H locs → ∀ (ls : Array Slot), lv_has ls 3 [(0, .ref h0), (1, .int (nI N)), (2, .int (nI i))] → W p l e ({ frames := 1, cells := 0, slots := 0, locals := 20 } : Room) s m ([.ref h0, .int (nI N)] : List Value).toArray below meth c H locs 0 0 (MQ below (kQi (dC, dI) [(cA, .long), (cB, .long)] sz (w3 h0 h1 h2 cA cB f g) (fun r w => (r = 1 ∧ ∃ j, j ≤ 1024 ∧ nI N = nI j ∧ w = w3 h0 h1 h2 cA cB f (zpt 1024 (fun t => if t < j then f t else lN 0) g)) ∨ (r = 0 ∧ (¬ ∃ j, j ≤ 1024 ∧ nI N = nI j) ∧ w = w3 h0 h1 h2 cA cB f g))) ([.ref h0, .int (nI N)] : List Value).toArray s 0 0 (va_A (w3 h0 h1 h2 cA cB f g) sz)) (F0 m 11 ls []) := by
      intro n
      induction n with
      | zero => intro i y1 y2; exact absurd y1 (by omega)
      | succ n ih =>
        intro i y1 y2 H locs hP hD hS ls hl
        refine lv_iload_n hx hb dX0_keep_11 rfl (lv_at hl 2 rfl) ?_
        refine lv_sipush (v := nI 1024) hx hb dX0_keep_12 (by decide) ?_
        refine lv_icmp_ge (tgt := 45) hx hb dX0_keep_15 (by decide) (fun hc => ?_) (fun hc => ?_)
        · have hi : i = 1024 := by have := (nI_leI (by omega) (by omega)).mp hc; omega
          subst hi
          refine lv_iconst (v := (1 : Int32)) hx hb dX0_keep_45 (by decide) ?_
          exact kr_z hx hb hr rfl hlocks hK hP hD hS (Or.inl ⟨rfl, N, hN, rfl, rfl⟩) dX0_keep_46
        · have hi : i < 1024 := Nat.not_le.mp fun z => hc ((nI_leI (by omega) (by omega)).mpr z)
          refine lv_aload_n hx hb dX0_keep_18 rfl (lv_at hl 0 rfl) ?_
          refine va_get (D := (dC, dI)) (ci := 0) (v := .ref h2) (C := RX0) (T := TX0) (N := 2) hx hb hts inws hown hK hP 0 rfl rfl 1 (by decide) (hts (.fieldLink RX0 13 "ResidueTransforms" "kept" "[J") (by decide +kernel)) (fun _ h9 => h9) rfl dX0_keep_19 ?_
          refine lv_iload_n hx hb dX0_keep_22 rfl (lv_at hl 2 rfl) ?_
          refine lv_iload_n hx hb dX0_keep_23 rfl (lv_at hl 2 rfl) ?_
          refine lv_iload_n hx hb dX0_keep_24 rfl (lv_at hl 1 rfl) ?_
          refine lv_icmp_ge (tgt := 37) hx hb dX0_keep_25 (by decide) (fun hc2 => ?_) (fun hc2 => ?_)
          · have hiN : ¬ i < N := by have := (nI_leI (by omega) (by omega)).mp hc2; omega
            refine lv_lconst (v := lN 0) hx hb dX0_keep_37 (by decide) ?_
            refine ka_st (w1 := w3 h0 h1 h2 cA cB f (zpt (i + 1) (fun t => if t < N then f t else lN 0) g)) hx hb hK hP hD hS 2 1 rfl rfl (i := i) (by omega) (by decide) dX0_keep_38 (congrArg (fun z => w3 h0 h1 h2 cA cB f z) (zpt_up (if_neg hiN).symm)) (fun H locs hP hD hS => ?_)
            refine lv_iinc (v := nI (i + 1)) (lv' := [(2, .int (nI (i + 1))), (0, .ref h0), (1, .int (nI N))]) hx hb dX0_keep_39 hl (k := 2) rfl (nI_1 i) (by decide) rfl (fun ls hl => ?_)
            refine lv_goto (tgt := 11) hx hb dX0_keep_42 (by decide) ?_
            exact ih (i + 1) (by omega) (by omega) H locs hP hD hS ls (lv_sub hl [1, 2, 0] rfl)
          · have hiN : i < N := Nat.not_le.mp fun z => hc2 ((nI_leI (by omega) (by omega)).mpr z)
            refine lv_aload_n hx hb dX0_keep_28 rfl (lv_at hl 0 rfl) ?_
            refine va_get (D := (dC, dI)) (ci := 0) (v := .ref h1) (C := RX0) (T := TX0) (N := 2) hx hb hts inws hown hK hP 0 rfl rfl 0 (by decide) (hts (.fieldLink RX0 9 "ResidueTransforms" "row" "[J") (by decide +kernel)) (fun _ h9 => h9) rfl dX0_keep_29 ?_
            refine lv_iload_n hx hb dX0_keep_32 rfl (lv_at hl 2 rfl) ?_
            refine ka_ld hx hb hK hP 1 0 rfl rfl (i := i) (by omega) (by decide) dX0_keep_33 ?_
            refine lv_goto (tgt := 38) hx hb dX0_keep_34 (by decide) ?_
            refine ka_st (w1 := w3 h0 h1 h2 cA cB f (zpt (i + 1) (fun t => if t < N then f t else lN 0) g)) hx hb hK hP hD hS 2 1 rfl rfl (i := i) (by omega) (by decide) dX0_keep_38 (congrArg (fun z => w3 h0 h1 h2 cA cB f z) (zpt_up (if_pos hiN).symm)) (fun H locs hP hD hS => ?_)
            refine lv_iinc (v := nI (i + 1)) (lv' := [(2, .int (nI (i + 1))), (0, .ref h0), (1, .int (nI N))]) hx hb dX0_keep_39 hl (k := 2) rfl (nI_1 i) (by decide) rfl (fun ls hl => ?_)
            refine lv_goto (tgt := 11) hx hb dX0_keep_42 (by decide) ?_
            exact ih (i + 1) (by omega) (by omega) H locs hP hD hS ls (lv_sub hl [1, 2, 0] rfl)
    exact loop 1025 0 (by omega) (by omega) _ _ (by rw [zpt_0]; exact hP) (by rw [zpt_0]; exact hD) hS ls (lv_sub hl [1, 2, 0] rfl)
  · refine lv_if_ne (tgt := 9) hx hb dX0_keep_4 (by decide) (fun hc => absurd rfl hc) (fun _ => ?_)
    refine lv_iconst (v := (0 : Int32)) hx hb dX0_keep_7 (by decide) ?_
    exact kr_z hx hb hr rfl hlocks hK hP hD hS (Or.inr ⟨rfl, hn, rfl⟩) dX0_keep_8
end
section
/-! times, root, transform -/
def zci (q : Int32) : Prop := ∃ j, j ≤ 1024 ∧ q = nI j
set_option maxHeartbeats 4000000 in
set_option maxRecDepth 100000 in
theorem m_times (l : Launch) (dC : Nat → ClassId) (dI : Nat → Nat → Nat) (h0 h1 h2 sz : Nat) (cA cB : ClassId) (f g : Nat → Int64) (q1 q2 : Int32) : Met l yX0_times wsX0_times ({ frames := 2, cells := 0, slots := 0, locals := 48 }) (kPre (dC, dI) [(cA, .long), (cB, .long)] [.ref h0, .int q1, .int q2] sz (w3 h0 h1 h2 cA cB f g)) (kQi (dC, dI) [(cA, .long), (cB, .long)] sz (w3 h0 h1 h2 cA cB f g) (fun r w => (r = -1 ∧ (¬ zci q1) ∧ w = w3 h0 h1 h2 cA cB f g) ∨ (r = -2 ∧ zci q1 ∧ ¬ zok q2 ∧ w = w3 h0 h1 h2 cA cB f g) ∨ (r = 0 ∧ ∃ j P1, j ≤ 1024 ∧ q1 = nI j ∧ q2 = nI P1 ∧ 3 ≤ P1 ∧ P1 ≤ 1000000007 ∧ ztd P1 ∧ w = w3 h0 h1 h2 cA cB (zpt j (fun t => lN (zrs P1 (f t) * zrs P1 (g t) % P1)) f) g))) 0 0 (va_A (w3 h0 h1 h2 cA cB f g) sz) := by
  refine k_met (cc := cX0_times) (maxL := 4) (ret := (some .int)) (by decide) rfl (Nat.le_of_ble_eq_true rfl) ?_
  intro p e s m below meth c ls hx hb hr hlocks hml hown hts hnm hK hP hD hS hA hl
  have hl : lv_has ls 4 [(0, .ref h0), (1, .int q1), (2, .int q2)] := hl
  have inws : ∀ w ∈ u_ws RX0 TX0 2, w ∈ wsX0_times := by decide +kernel
  refine lv_iload_n hx hb dX0_times_0 rfl (lv_at hl 1 rfl) ?_
  refine kc_i (As := [.int q1]) (rest := []) ⟨hx, hb, hml, hown, hts⟩ (m_isCount l q1) (va_cwS 1 hts gX0_times_X0_isCount rfl rfl rfl (by decide +kernel) ⟨Nat.le_of_ble_eq_true rfl, Nat.le_of_ble_eq_true rfl⟩) rfl hl.1 rfl (Nat.le_of_ble_eq_true rfl) dX0_times_1 ⟨Nat.zero_le _, Nat.zero_le _⟩ (fun r1 hr1 => ?_)
  rcases hr1 with ⟨rfl, N, hN, rfl⟩ | ⟨rfl, hn⟩
  · refine lv_if_ne (tgt := 9) hx hb dX0_times_4 (by decide) (fun _ => ?_) (fun hc => absurd hc (by decide))
    refine lv_iload_n hx hb dX0_times_9 rfl (lv_at hl 2 rfl) ?_
    refine kc_i (As := [.int q2]) (rest := []) ⟨hx, hb, hml, hown, hts⟩ (m_isUsablePrime l q2) (va_cwS 1 hts gX0_times_X0_isUsablePrime rfl rfl rfl (by decide +kernel) ⟨Nat.le_of_ble_eq_true rfl, Nat.le_of_ble_eq_true rfl⟩) rfl hl.1 rfl (Nat.le_of_ble_eq_true rfl) dX0_times_10 ⟨Nat.zero_le _, Nat.zero_le _⟩ (fun r2 hr2 => ?_)
    rcases hr2 with ⟨rfl, hp⟩ | ⟨rfl, hp⟩
    · refine lv_if_ne (tgt := 19) hx hb dX0_times_13 (by decide) (fun _ => ?_) (fun hc => absurd hc (by decide))
      obtain ⟨P, rfl, hp1, hp2, hp3⟩ := hp
      refine lv_iconst (v := nI 0) hx hb dX0_times_19 (by decide) ?_
      refine lv_istore_n (lv' := [(3, .int (nI 0)), (0, .ref h0), (1, .int (nI N)), (2, .int (nI P))]) hx hb dX0_times_20 rfl hl (by decide) rfl (fun ls hl => ?_)
      have loop : ∀ (n i : Nat), N + 1 ≤ i + n → i ≤ N → ∀ (H : Heap) (locs : List Loc), va_P (dC, dI) vwCl (w3 h0 h1 h2 cA cB (zpt i (fun t => lN (zrs P (f t) * zrs P (g t) % P)) f) g) H → va_D (va_A (w3 h0 h1 h2 cA cB f g) sz) (w3 h0 h1 h2 cA cB (zpt i (fun t => lN (zrs P (f t) * zrs P (g t) % P)) f) g) → va_S (va_A (w3 h0 h1 h2 cA cB f g) sz) s.heap H locs → ∀ (ls : Array Slot), lv_has ls 4 [(0, .ref h0), (1, .int (nI N)), (2, .int (nI P)), (3, .int (nI i))] → W p l e ({ frames := 2, cells := 0, slots := 0, locals := 48 } : Room) s m ([.ref h0, .int (nI N), .int (nI P)] : List Value).toArray below meth c H locs 0 0 (MQ below (kQi (dC, dI) [(cA, .long), (cB, .long)] sz (w3 h0 h1 h2 cA cB f g) (fun r w => (r = -1 ∧ (¬ zci (nI N)) ∧ w = w3 h0 h1 h2 cA cB f g) ∨ (r = -2 ∧ zci (nI N) ∧ ¬ zok (nI P) ∧ w = w3 h0 h1 h2 cA cB f g) ∨ (r = 0 ∧ ∃ j P1, j ≤ 1024 ∧ nI N = nI j ∧ nI P = nI P1 ∧ 3 ≤ P1 ∧ P1 ≤ 1000000007 ∧ ztd P1 ∧ w = w3 h0 h1 h2 cA cB (zpt j (fun t => lN (zrs P1 (f t) * zrs P1 (g t) % P1)) f) g))) ([.ref h0, .int (nI N), .int (nI P)] : List Value).toArray s 0 0 (va_A (w3 h0 h1 h2 cA cB f g) sz)) (F0 m 21 ls []) := by
        intro n
        induction n with
        | zero => intro i y1 y2; exact absurd y1 (by omega)
        | succ n ih =>
          intro i y1 y2 H locs hP hD hS ls hl
          refine lv_iload_n hx hb dX0_times_21 rfl (lv_at hl 3 rfl) ?_
          refine lv_iload_n hx hb dX0_times_22 rfl (lv_at hl 1 rfl) ?_
          refine lv_icmp_ge (tgt := 65) hx hb dX0_times_23 (by decide) (fun hc => ?_) (fun hc => ?_)
          · have hi : i = N := by have := (nI_leI (by omega) (by omega)).mp hc; omega
            subst hi
            refine lv_iconst (v := (0 : Int32)) hx hb dX0_times_65 (by decide) ?_
            exact kr_i hx hb hr hlocks hK hP hD hS (Or.inr (Or.inr ⟨rfl, _, P, hN, rfl, rfl, hp1, hp2, hp3, rfl⟩)) dX0_times_66
          · have hi : i < N := Nat.not_le.mp fun z => hc ((nI_leI (by omega) (by omega)).mpr z)
            refine lv_aload_n hx hb dX0_times_26 rfl (lv_at hl 0 rfl) ?_
            refine va_get (D := (dC, dI)) (ci := 0) (v := .ref h1) (C := RX0) (T := TX0) (N := 2) hx hb hts inws hown hK hP 0 rfl rfl 0 (by decide) (hts (.fieldLink RX0 9 "ResidueTransforms" "row" "[J") (by decide +kernel)) (fun _ h9 => h9) rfl dX0_times_27 ?_
            refine lv_iload_n hx hb dX0_times_30 rfl (lv_at hl 3 rfl) ?_
            refine lv_aload_n hx hb dX0_times_31 rfl (lv_at hl 0 rfl) ?_
            refine va_get (D := (dC, dI)) (ci := 0) (v := .ref h1) (C := RX0) (T := TX0) (N := 2) hx hb hts inws hown hK hP 0 rfl rfl 0 (by decide) (hts (.fieldLink RX0 9 "ResidueTransforms" "row" "[J") (by decide +kernel)) (fun _ h9 => h9) rfl dX0_times_32 ?_
            refine lv_iload_n hx hb dX0_times_35 rfl (lv_at hl 3 rfl) ?_
            refine ka_ld hx hb hK hP 1 0 rfl rfl (i := i) (by omega) (by decide) dX0_times_36 ?_
            refine kt_l (v := f i) (zpt_at) ?_
            refine lv_iload_n hx hb dX0_times_37 rfl (lv_at hl 2 rfl) ?_
            refine lv_i2l (v := lN P) hx hb dX0_times_38 (nI_l (by omega)) ?_
            refine kc_lv (As := [.long (f i), .long (lN P)]) (rest := [.int (nI i), .ref h1]) ⟨hx, hb, hml, hown, hts⟩ (m_rest l (f i) P (by omega) (by omega)) (va_cwS 2 hts gX0_times_X0_rest rfl rfl rfl (by decide +kernel) ⟨Nat.le_of_ble_eq_true rfl, Nat.le_of_ble_eq_true rfl⟩) rfl hl.1 rfl (Nat.le_of_ble_eq_true rfl) dX0_times_39 ⟨Nat.zero_le _, Nat.zero_le _⟩ ?_
            refine lv_aload_n hx hb dX0_times_42 rfl (lv_at hl 0 rfl) ?_
            refine va_get (D := (dC, dI)) (ci := 0) (v := .ref h2) (C := RX0) (T := TX0) (N := 2) hx hb hts inws hown hK hP 0 rfl rfl 1 (by decide) (hts (.fieldLink RX0 13 "ResidueTransforms" "kept" "[J") (by decide +kernel)) (fun _ h9 => h9) rfl dX0_times_43 ?_
            refine lv_iload_n hx hb dX0_times_46 rfl (lv_at hl 3 rfl) ?_
            refine ka_ld hx hb hK hP 2 1 rfl rfl (i := i) (by omega) (by decide) dX0_times_47 ?_
            refine lv_iload_n hx hb dX0_times_48 rfl (lv_at hl 2 rfl) ?_
            refine lv_i2l (v := lN P) hx hb dX0_times_49 (nI_l (by omega)) ?_
            refine kc_lv (As := [.long (g (i)), .long (lN P)]) (rest := [.long (lN (zrs P (f i))), .int (nI i), .ref h1]) ⟨hx, hb, hml, hown, hts⟩ (m_rest l (g i) P (by omega) (by omega)) (va_cwS 2 hts gX0_times_X0_rest rfl rfl rfl (by decide +kernel) ⟨Nat.le_of_ble_eq_true rfl, Nat.le_of_ble_eq_true rfl⟩) rfl hl.1 rfl (Nat.le_of_ble_eq_true rfl) dX0_times_50 ⟨Nat.zero_le _, Nat.zero_le _⟩ ?_
            refine lv_iload_n hx hb dX0_times_53 rfl (lv_at hl 2 rfl) ?_
            refine lv_i2l (v := lN P) hx hb dX0_times_54 (nI_l (by omega)) ?_
            refine kc_lv (As := [.long (lN (zrs P (f i))), .long (lN (zrs P (g i))), .long (lN P)]) (rest := [.int (nI i), .ref h1]) ⟨hx, hb, hml, hown, hts⟩ (m_product l _ _ P hp2 (zrs_lt (by omega) _) (zrs_lt (by omega) _)) (va_cwS 3 hts gX0_times_X0_product rfl rfl rfl (by decide +kernel) ⟨Nat.le_of_ble_eq_true rfl, Nat.le_of_ble_eq_true rfl⟩) rfl hl.1 rfl (Nat.le_of_ble_eq_true rfl) dX0_times_55 ⟨Nat.zero_le _, Nat.zero_le _⟩ ?_
            refine ka_st (w1 := w3 h0 h1 h2 cA cB (zpt (i + 1) (fun t => lN (zrs P (f t) * zrs P (g t) % P)) f) g) hx hb hK hP hD hS 1 0 rfl rfl (i := i) (by omega) (by decide) dX0_times_58 (congrArg (fun z => w3 h0 h1 h2 cA cB z g) (zpt_up rfl)) (fun H locs hP hD hS => ?_)
            refine lv_iinc (v := nI (i + 1)) (lv' := [(3, .int (nI (i + 1))), (0, .ref h0), (1, .int (nI N)), (2, .int (nI P))]) hx hb dX0_times_59 hl (k := 3) rfl (nI_1 i) (by decide) rfl (fun ls hl => ?_)
            refine lv_goto (tgt := 21) hx hb dX0_times_62 (by decide) ?_
            exact ih (i + 1) (by omega) (by omega) H locs hP hD hS ls (lv_sub hl [1, 2, 3, 0] rfl)
      exact loop (N + 1) 0 (by omega) (by omega) _ _ (by rw [zpt_0]; exact hP) (by rw [zpt_0]; exact hD) hS ls (lv_sub hl [1, 2, 3, 0] rfl)
    · refine lv_if_ne (tgt := 19) hx hb dX0_times_13 (by decide) (fun hc => absurd rfl hc) (fun _ => ?_)
      refine lv_bipush (v := -2) hx hb dX0_times_16 (by decide) ?_
      exact kr_i hx hb hr hlocks hK hP hD hS (Or.inr (Or.inl ⟨rfl, ⟨N, hN, rfl⟩, hp, rfl⟩)) dX0_times_18
  · refine lv_if_ne (tgt := 9) hx hb dX0_times_4 (by decide) (fun hc => absurd rfl hc) (fun _ => ?_)
    refine lv_iconst (v := -1) hx hb dX0_times_7 (by decide) ?_
    exact kr_i hx hb hr hlocks hK hP hD hS (Or.inl ⟨rfl, hn, rfl⟩) dX0_times_8
set_option maxHeartbeats 4000000 in
set_option maxRecDepth 100000 in
theorem m_root (l : Launch) (dC : Nat → ClassId) (dI : Nat → Nat → Nat) (h0 h1 h2 sz : Nat) (cA cB : ClassId) (f g : Nat → Int64) (q1 q2 : Int32) : Met l yX0_root wsX0_root ({ frames := 3, cells := 0, slots := 0, locals := 78 }) (kPre (dC, dI) [(cA, .long), (cB, .long)] [.ref h0, .int q1, .int q2] sz (w3 h0 h1 h2 cA cB f g)) (kQl (dC, dI) [(cA, .long), (cB, .long)] sz (w3 h0 h1 h2 cA cB f g) (fun r w => w = w3 h0 h1 h2 cA cB f g ∧ ((∃ z, zrf q1 q2 z ∧ ¬ z = 0 ∧ r = lN 0) ∨ (∃ L P w0, zgo q1 q2 L P ∧ 2 ^ L ∣ P - 1 ∧ zW (2 ^ L) P w0 ∧ r = lN w0)))) 0 0 (va_A (w3 h0 h1 h2 cA cB f g) sz) := by
  refine k_met (cc := cX0_root) (maxL := 3) (ret := (some .long)) (by decide) rfl (Nat.le_of_ble_eq_true rfl) ?_
  intro p e s m below meth c ls hx hb hr hlocks hml hown hts hnm hK hP hD hS hA hl
  have hl : lv_has ls 3 [(0, .ref h0), (1, .int q1), (2, .int q2)] := hl
  refine lv_iload_n hx hb dX0_root_0 rfl (lv_at hl 1 rfl) ?_
  refine lv_iload_n hx hb dX0_root_1 rfl (lv_at hl 2 rfl) ?_
  refine kc_i (As := [.int q1, .int q2]) (rest := []) ⟨hx, hb, hml, hown, hts⟩ (m_refusalOf l q1 q2) (va_cwS 2 hts gX0_root_X0_refusalOf rfl rfl rfl (by decide +kernel) ⟨Nat.le_of_ble_eq_true rfl, Nat.le_of_ble_eq_true rfl⟩) rfl hl.1 rfl (Nat.le_of_ble_eq_true rfl) dX0_root_2 ⟨Nat.zero_le _, Nat.zero_le _⟩ (fun r1 hr1 => ?_)
  refine lv_if_ne (tgt := 16) hx hb dX0_root_5 (by decide) (fun hc => ?_) (fun hc => ?_)
  · refine lv_lconst (v := lN 0) hx hb dX0_root_16 (by decide) ?_
    exact kr_l hx hb hr hlocks hK hP hD hS ⟨rfl, Or.inl ⟨r1, hr1, hc, rfl⟩⟩ dX0_root_17
  · subst hc
    obtain ⟨z, -⟩ | ⟨z, -⟩ | ⟨z, -⟩ | ⟨-, L, P, ⟨hL, rfl, rfl, hp1, hp2, hp3⟩, hd⟩ := hr1
    · exact absurd z (by decide)
    · exact absurd z (by decide)
    · exact absurd z (by decide)
    obtain ⟨w0, hW⟩ := zW_all hp1 hp3 hd
    have h2p := z_2pow hL
    refine lv_iload_n hx hb dX0_root_8 rfl (lv_at hl 1 rfl) ?_
    refine lv_iload_n hx hb dX0_root_9 rfl (lv_at hl 2 rfl) ?_
    refine kc_lv (As := [.int (nI (2 ^ L)), .int (nI P)]) (rest := []) ⟨hx, hb, hml, hown, hts⟩ (m_rootOfUnity l (2 ^ L) P w0 hp2 hp1 (by omega) (by omega) hW) (va_cwS 2 hts gX0_root_X0_rootOfUnity rfl rfl rfl (by decide +kernel) ⟨Nat.le_of_ble_eq_true rfl, Nat.le_of_ble_eq_true rfl⟩) rfl hl.1 rfl (Nat.le_of_ble_eq_true rfl) dX0_root_10 ⟨Nat.zero_le _, Nat.zero_le _⟩ ?_
    refine lv_goto (tgt := 17) hx hb dX0_root_13 (by decide) ?_
    exact kr_l hx hb hr hlocks hK hP hD hS ⟨rfl, Or.inr ⟨L, P, w0, ⟨hL, rfl, rfl, hp1, hp2, hp3⟩, hd, hW, rfl⟩⟩ dX0_root_17
set_option maxHeartbeats 4000000 in
set_option maxRecDepth 100000 in
theorem m_transform (l : Launch) (dC : Nat → ClassId) (dI : Nat → Nat → Nat) (h0 h1 h2 sz : Nat) (cA cB : ClassId) (f g : Nat → Int64) (q1 q2 q3 : Int32) : Met l yX0_transform wsX0_transform ({ frames := 3, cells := 0, slots := 0, locals := 87 }) (kPre (dC, dI) [(cA, .long), (cB, .long)] [.ref h0, .int q1, .int q2, .int q3] sz (w3 h0 h1 h2 cA cB f g)) (kQi (dC, dI) [(cA, .long), (cB, .long)] sz (w3 h0 h1 h2 cA cB f g) (fun r w => (zrf q1 q2 r ∧ ¬ r = 0 ∧ w = w3 h0 h1 h2 cA cB f g) ∨ (r = 0 ∧ ∃ L P w0, zgo q1 q2 L P ∧ 2 ^ L ∣ P - 1 ∧ zW (2 ^ L) P w0 ∧ w = w3 h0 h1 h2 cA cB (zT L P w0 q3 f) g))) 0 0 (va_A (w3 h0 h1 h2 cA cB f g) sz) := by
  refine k_met (cc := cX0_transform) (maxL := 7) (ret := (some .int)) (by decide) rfl (Nat.le_of_ble_eq_true rfl) ?_
  intro p e s m below meth c ls hx hb hr hlocks hml hown hts hnm hK hP hD hS hA hl
  have hl : lv_has ls 7 [(0, .ref h0), (1, .int q1), (2, .int q2), (3, .int q3)] := hl
  refine lv_iload_n hx hb dX0_transform_0 rfl (lv_at hl 1 rfl) ?_
  refine lv_iload_n hx hb dX0_transform_1 rfl (lv_at hl 2 rfl) ?_
  refine kc_i (As := [.int q1, .int q2]) (rest := []) ⟨hx, hb, hml, hown, hts⟩ (m_refusalOf l q1 q2) (va_cwS 2 hts gX0_transform_X0_refusalOf rfl rfl rfl (by decide +kernel) ⟨Nat.le_of_ble_eq_true rfl, Nat.le_of_ble_eq_true rfl⟩) rfl hl.1 rfl (Nat.le_of_ble_eq_true rfl) dX0_transform_2 ⟨Nat.zero_le _, Nat.zero_le _⟩ (fun r1 hr1 => ?_)
  refine lv_istore (lv' := [(4, .int (r1)), (0, .ref h0), (1, .int q1), (2, .int q2), (3, .int q3)]) hx hb dX0_transform_5 hl (by decide) rfl (fun ls hl => ?_)
  refine lv_iload hx hb dX0_transform_7 (lv_at hl 0 rfl) ?_
  refine lv_if_eq (tgt := 15) hx hb dX0_transform_9 (by decide) (fun hc => ?_) (fun hc => ?_)
  · obtain ⟨z, -⟩ | ⟨z, -⟩ | ⟨z, -⟩ | ⟨-, L, P, ⟨hL, rfl, rfl, hp1, hp2, hp3⟩, hd⟩ := hr1
    · exact absurd (hc.symm.trans z) (by decide)
    · exact absurd (hc.symm.trans z) (by decide)
    · exact absurd (hc.symm.trans z) (by decide)
    obtain ⟨w0, hW⟩ := zW_all hp1 hp3 hd
    have h2p := z_2pow hL
    have hNP := z_dvd_lt hp1 hd
    have hw0 := zW_lt hp1 hW
    refine lv_iload_n hx hb dX0_transform_15 rfl (lv_at hl 2 rfl) ?_
    refine lv_iload_n hx hb dX0_transform_16 rfl (lv_at hl 3 rfl) ?_
    refine kc_lv (As := [.int (nI (2 ^ L)), .int (nI P)]) (rest := []) ⟨hx, hb, hml, hown, hts⟩ (m_rootOfUnity l (2 ^ L) P w0 hp2 hp1 (by omega) (by omega) hW) (va_cwS 2 hts gX0_transform_X0_rootOfUnity rfl rfl rfl (by decide +kernel) ⟨Nat.le_of_ble_eq_true rfl, Nat.le_of_ble_eq_true rfl⟩) rfl hl.1 rfl (Nat.le_of_ble_eq_true rfl) dX0_transform_17 ⟨Nat.zero_le _, Nat.zero_le _⟩ ?_
    refine lv_lstore (lv' := [(5, .long (lN w0)), (4, .int r1), (0, .ref h0), (1, .int (nI (2 ^ L))), (2, .int (nI P)), (3, .int q3)]) hx hb dX0_transform_20 hl (by decide) rfl (fun ls hl => ?_)
    refine lv_aload_n hx hb dX0_transform_22 rfl (lv_at hl 2 rfl) ?_
    refine lv_iload_n hx hb dX0_transform_23 rfl (lv_at hl 3 rfl) ?_
    refine lv_iload_n hx hb dX0_transform_24 rfl (lv_at hl 4 rfl) ?_
    refine lv_i2l (v := lN P) hx hb dX0_transform_25 (nI_l (by omega)) ?_
    refine kv_v (As := [.int (nI (2 ^ L)), .long (lN P)]) (rest := []) (ci := 0) (q := (RX0, TX0, 2)) (wc := w3 h0 h1 h2 cA cB f g) (wr := []) ⟨hx, hb, hml, hown, hts⟩ (m_reduce l dC dI h0 h1 h2 _ cA cB f g (2 ^ L) P (by omega) (by omega) (by omega)) (cwV 2 hts gX0_transform_X0_reduce rfl rfl rfl (by decide +kernel) ⟨Nat.le_of_ble_eq_true rfl, Nat.le_of_ble_eq_true rfl⟩) hK hK hP hD hS hA [0, 1, 2] [] rfl rfl rfl (by decide) hP hD rfl rfl rfl hl.1 rfl (Nat.le_of_ble_eq_true rfl) dX0_transform_26 ⟨Nat.zero_le _, Nat.zero_le _⟩ (fun w9 H locs hw9 hP hD hS => ?_)
    have hw9 : w9 = w3 h0 h1 h2 cA cB (zem (2 ^ L) (fun j => zrs P (f j)) f) g := hw9
    subst hw9
    have hP : va_P (dC, dI) vwCl (w3 h0 h1 h2 cA cB (zem (2 ^ L) (fun j => zrs P (f j)) f) g) H := hP
    have hD : va_D (va_A (w3 h0 h1 h2 cA cB f g) sz) (w3 h0 h1 h2 cA cB (zem (2 ^ L) (fun j => zrs P (f j)) f) g) := hD
    refine lv_aload_n hx hb dX0_transform_29 rfl (lv_at hl 2 rfl) ?_
    refine lv_iload_n hx hb dX0_transform_30 rfl (lv_at hl 3 rfl) ?_
    refine kv_v (As := [.int (nI (2 ^ L))]) (rest := []) (ci := 0) (q := (RX0, TX0, 2)) (wc := w3 h0 h1 h2 cA cB (zem (2 ^ L) (fun j => zrs P (f j)) f) g) (wr := []) ⟨hx, hb, hml, hown, hts⟩ (m_reorder l dC dI h0 h1 h2 _ cA cB f g _ L hL) (cwV 1 hts gX0_transform_X0_reorder rfl rfl rfl (by decide +kernel) ⟨Nat.le_of_ble_eq_true rfl, Nat.le_of_ble_eq_true rfl⟩) hK hK hP hD hS hA [0, 1, 2] [] rfl rfl rfl (by decide) hP hD rfl rfl rfl hl.1 rfl (Nat.le_of_ble_eq_true rfl) dX0_transform_31 ⟨Nat.zero_le _, Nat.zero_le _⟩ (fun w9 H locs hw9 hP hD hS => ?_)
    have hw9 : w9 = w3 h0 h1 h2 cA cB (zem (2 ^ L) (zo L (fun j => zrs P (f j)) (2 ^ L)) f) g := hw9
    subst hw9
    have hP : va_P (dC, dI) vwCl (w3 h0 h1 h2 cA cB (zem (2 ^ L) (zo L (fun j => zrs P (f j)) (2 ^ L)) f) g) H := hP
    have hD : va_D (va_A (w3 h0 h1 h2 cA cB f g) sz) (w3 h0 h1 h2 cA cB (zem (2 ^ L) (zo L (fun j => zrs P (f j)) (2 ^ L)) f) g) := hD
    have hG : ∀ t, t < 2 ^ L → zo L (fun j => zrs P (f j)) (2 ^ L) t < P := fun t ht => zo_lt (Nat.le_refl _) (fun j _ => zrs_lt (by omega) _) _ t (Nat.le_refl _) ht
    refine lv_iload_n hx hb dX0_transform_34 rfl (lv_at hl 5 rfl) ?_
    refine lv_if_eq (tgt := 66) hx hb dX0_transform_35 (by decide) (fun hc2 => ?_) (fun hc2 => ?_)
    · refine lv_aload_n hx hb dX0_transform_66 rfl (lv_at hl 2 rfl) ?_
      refine lv_iload_n hx hb dX0_transform_67 rfl (lv_at hl 3 rfl) ?_
      refine lv_lload hx hb dX0_transform_68 (lv_at hl 0 rfl) ?_
      refine lv_iload_n hx hb dX0_transform_70 rfl (lv_at hl 4 rfl) ?_
      refine kv_v (As := [.int (nI (2 ^ L)), .long (lN w0), .int (nI P)]) (rest := []) (ci := 0) (q := (RX0, TX0, 2)) (wc := w3 h0 h1 h2 cA cB (zem (2 ^ L) (zo L (fun j => zrs P (f j)) (2 ^ L)) f) g) (wr := []) ⟨hx, hb, hml, hown, hts⟩ (m_joinHalves l dC dI h0 h1 h2 _ cA cB f g _ L w0 P hL hp2 hp1 hw0 hG) (cwV 3 hts gX0_transform_X0_joinHalves rfl rfl rfl (by decide +kernel) ⟨Nat.le_of_ble_eq_true rfl, Nat.le_of_ble_eq_true rfl⟩) hK hK hP hD hS hA [0, 1, 2] [] rfl rfl rfl (by decide) hP hD rfl rfl rfl hl.1 rfl (Nat.le_of_ble_eq_true rfl) dX0_transform_71 ⟨Nat.zero_le _, Nat.zero_le _⟩ (fun w9 H locs hw9 hP hD hS => ?_)
      have hw9 : w9 = w3 h0 h1 h2 cA cB (zem (2 ^ L) (zft P (2 ^ L) w0 (zo L (fun j => zrs P (f j)) (2 ^ L)) L) f) g := hw9
      subst hw9
      have hP : va_P (dC, dI) vwCl (w3 h0 h1 h2 cA cB (zem (2 ^ L) (zft P (2 ^ L) w0 (zo L (fun j => zrs P (f j)) (2 ^ L)) L) f) g) H := hP
      have hD : va_D (va_A (w3 h0 h1 h2 cA cB f g) sz) (w3 h0 h1 h2 cA cB (zem (2 ^ L) (zft P (2 ^ L) w0 (zo L (fun j => zrs P (f j)) (2 ^ L)) L) f) g) := hD
      refine lv_iconst (v := (0 : Int32)) hx hb dX0_transform_74 (by decide) ?_
      exact kr_i hx hb hr hlocks hK hP hD hS (Or.inr ⟨rfl, L, P, w0, ⟨hL, rfl, rfl, hp1, hp2, hp3⟩, hd, hW, by rw [zT_fwd hp1 hW, hc2]⟩) dX0_transform_75
    · have hv := Nat.mod_lt (w0 ^ (P - 2)) (show 0 < P by omega)
      have hv2 := Nat.mod_lt ((2 ^ L) ^ (P - 2)) (show 0 < P by omega)
      refine lv_aload_n hx hb dX0_transform_38 rfl (lv_at hl 2 rfl) ?_
      refine lv_iload_n hx hb dX0_transform_39 rfl (lv_at hl 3 rfl) ?_
      refine lv_lload hx hb dX0_transform_40 (lv_at hl 0 rfl) ?_
      refine lv_iload_n hx hb dX0_transform_42 rfl (lv_at hl 4 rfl) ?_
      refine kc_lv (As := [.long (lN w0), .int (nI P)]) (rest := [.int (nI (2 ^ L)), .ref h0]) ⟨hx, hb, hml, hown, hts⟩ (m_inverse l w0 P hp2 hw0 (by omega)) (va_cwS 2 hts gX0_transform_X0_inverse rfl rfl rfl (by decide +kernel) ⟨Nat.le_of_ble_eq_true rfl, Nat.le_of_ble_eq_true rfl⟩) rfl hl.1 rfl (Nat.le_of_ble_eq_true rfl) dX0_transform_43 ⟨Nat.zero_le _, Nat.zero_le _⟩ ?_
      refine lv_iload_n hx hb dX0_transform_46 rfl (lv_at hl 4 rfl) ?_
      refine kv_v (As := [.int (nI (2 ^ L)), .long (lN (w0 ^ (P - 2) % P)), .int (nI P)]) (rest := []) (ci := 0) (q := (RX0, TX0, 2)) (wc := w3 h0 h1 h2 cA cB (zem (2 ^ L) (zo L (fun j => zrs P (f j)) (2 ^ L)) f) g) (wr := []) ⟨hx, hb, hml, hown, hts⟩ (m_joinHalves l dC dI h0 h1 h2 _ cA cB f g _ L (w0 ^ (P - 2) % P) P hL hp2 hp1 hv hG) (cwV 3 hts gX0_transform_X0_joinHalves rfl rfl rfl (by decide +kernel) ⟨Nat.le_of_ble_eq_true rfl, Nat.le_of_ble_eq_true rfl⟩) hK hK hP hD hS hA [0, 1, 2] [] rfl rfl rfl (by decide) hP hD rfl rfl rfl hl.1 rfl (Nat.le_of_ble_eq_true rfl) dX0_transform_47 ⟨Nat.zero_le _, Nat.zero_le _⟩ (fun w9 H locs hw9 hP hD hS => ?_)
      have hw9 : w9 = w3 h0 h1 h2 cA cB (zem (2 ^ L) (zft P (2 ^ L) (w0 ^ (P - 2) % P) (zo L (fun j => zrs P (f j)) (2 ^ L)) L) f) g := hw9
      subst hw9
      have hP : va_P (dC, dI) vwCl (w3 h0 h1 h2 cA cB (zem (2 ^ L) (zft P (2 ^ L) (w0 ^ (P - 2) % P) (zo L (fun j => zrs P (f j)) (2 ^ L)) L) f) g) H := hP
      have hD : va_D (va_A (w3 h0 h1 h2 cA cB f g) sz) (w3 h0 h1 h2 cA cB (zem (2 ^ L) (zft P (2 ^ L) (w0 ^ (P - 2) % P) (zo L (fun j => zrs P (f j)) (2 ^ L)) L) f) g) := hD
      refine lv_aload_n hx hb dX0_transform_50 rfl (lv_at hl 2 rfl) ?_
      refine lv_iload_n hx hb dX0_transform_51 rfl (lv_at hl 3 rfl) ?_
      refine lv_iload_n hx hb dX0_transform_52 rfl (lv_at hl 3 rfl) ?_
      refine lv_i2l (v := lN (2 ^ L)) hx hb dX0_transform_53 (nI_l (by omega)) ?_
      refine lv_iload_n hx hb dX0_transform_54 rfl (lv_at hl 4 rfl) ?_
      refine kc_lv (As := [.long (lN (2 ^ L)), .int (nI P)]) (rest := [.int (nI (2 ^ L)), .ref h0]) ⟨hx, hb, hml, hown, hts⟩ (m_inverse l (2 ^ L) P hp2 hNP (by omega)) (va_cwS 2 hts gX0_transform_X0_inverse rfl rfl rfl (by decide +kernel) ⟨Nat.le_of_ble_eq_true rfl, Nat.le_of_ble_eq_true rfl⟩) rfl hl.1 rfl (Nat.le_of_ble_eq_true rfl) dX0_transform_55 ⟨Nat.zero_le _, Nat.zero_le _⟩ ?_
      refine lv_iload_n hx hb dX0_transform_58 rfl (lv_at hl 4 rfl) ?_
      refine lv_i2l (v := lN P) hx hb dX0_transform_59 (nI_l (by omega)) ?_
      refine kv_v (As := [.int (nI (2 ^ L)), .long (lN ((2 ^ L) ^ (P - 2) % P)), .long (lN P)]) (rest := []) (ci := 0) (q := (RX0, TX0, 2)) (wc := w3 h0 h1 h2 cA cB (zem (2 ^ L) (zft P (2 ^ L) (w0 ^ (P - 2) % P) (zo L (fun j => zrs P (f j)) (2 ^ L)) L) f) g) (wr := []) ⟨hx, hb, hml, hown, hts⟩ (m_scale l dC dI h0 h1 h2 _ cA cB f g _ (2 ^ L) ((2 ^ L) ^ (P - 2) % P) P (by omega) hp2 hv2 (zft_lt (by omega) hG L)) (cwV 3 hts gX0_transform_X0_scale rfl rfl rfl (by decide +kernel) ⟨Nat.le_of_ble_eq_true rfl, Nat.le_of_ble_eq_true rfl⟩) hK hK hP hD hS hA [0, 1, 2] [] rfl rfl rfl (by decide) hP hD rfl rfl rfl hl.1 rfl (Nat.le_of_ble_eq_true rfl) dX0_transform_60 ⟨Nat.zero_le _, Nat.zero_le _⟩ (fun w9 H locs hw9 hP hD hS => ?_)
      have hw9 : w9 = w3 h0 h1 h2 cA cB (zem (2 ^ L) (fun j => zft P (2 ^ L) (w0 ^ (P - 2) % P) (zo L (fun j => zrs P (f j)) (2 ^ L)) L j * ((2 ^ L) ^ (P - 2) % P) % P) f) g := hw9
      subst hw9
      have hP : va_P (dC, dI) vwCl (w3 h0 h1 h2 cA cB (zem (2 ^ L) (fun j => zft P (2 ^ L) (w0 ^ (P - 2) % P) (zo L (fun j => zrs P (f j)) (2 ^ L)) L j * ((2 ^ L) ^ (P - 2) % P) % P) f) g) H := hP
      have hD : va_D (va_A (w3 h0 h1 h2 cA cB f g) sz) (w3 h0 h1 h2 cA cB (zem (2 ^ L) (fun j => zft P (2 ^ L) (w0 ^ (P - 2) % P) (zo L (fun j => zrs P (f j)) (2 ^ L)) L j * ((2 ^ L) ^ (P - 2) % P) % P) f) g) := hD
      refine lv_goto (tgt := 74) hx hb dX0_transform_63 (by decide) ?_
      refine lv_iconst (v := (0 : Int32)) hx hb dX0_transform_74 (by decide) ?_
      exact kr_i hx hb hr hlocks hK hP hD hS (Or.inr ⟨rfl, L, P, w0, ⟨hL, rfl, rfl, hp1, hp2, hp3⟩, hd, hW, by rw [zT_back hc2 hp1 hp3 hW]⟩) dX0_transform_75
  · refine lv_iload hx hb dX0_transform_12 (lv_at hl 0 rfl) ?_
    exact kr_i hx hb hr hlocks hK hP hD hS (Or.inl ⟨hr1, hc, rfl⟩) dX0_transform_14
end
section
/-! the constructors -/
set_option maxHeartbeats 4000000 in
set_option maxRecDepth 100000 in
theorem m_init (l : Launch) (dC : Nat → ClassId) (dI : Nat → Nat → Nat) (h0 sz : Nat) : Met l yX0_init wsX0_init ({ frames := 1, cells := 2, slots := 2048, locals := 20 }) (kPre (dC, dI) [] [.ref h0] sz ([(h0, .inr (0, [.null, .null]))])) (va_Qv (fun _ : Nat × Nat × ClassId × ClassId => True) (fun (u : Nat × Nat × ClassId × ClassId) t => match u with | (h1, h2, cA, cB) => kAt (dC, dI) [(cA, .long), (cB, .long)] sz ([(h0, .inr (0, [.null, .null]))]) (w3 h0 h1 h2 cA cB (fun _ => 0) (fun _ => 0)) t) (va_A ([(h0, .inr (0, [.null, .null]))]) sz)) 2 2048 (va_A ([(h0, .inr (0, [.null, .null]))]) sz) := by
  refine k_met (cc := cX0_init) (maxL := 1) (ret := none) (by decide) rfl (Nat.le_of_ble_eq_true rfl) ?_
  intro p e s m below meth c ls hx hb hr hlocks hml hown hts hnm hK hP hD hS hA hl
  have hl : lv_has ls 1 [(0, .ref h0)] := hl
  have inws : ∀ w ∈ u_ws RX0 TX0 2, w ∈ wsX0_init := by decide +kernel
  have hin : meth.name = "<init>" := hnm
  refine lv_aload_n hx hb dX0_init_0 rfl (lv_at hl 0 rfl) ?_
  refine W.objInit hx hb hown (hts (.methodLink RX0 1 objectInit) (by decide +kernel)) (hts (.instanceMethod objectInit) (by decide +kernel)) (hts _ (List.mem_cons_of_mem _ (List.mem_append_left _ (List.mem_of_getElem? (i := 2) rfl)))) rfl (by rw [hml]; exact hl.1) rfl dX0_init_1 (Nat.le_of_ble_eq_true rfl) (Nat.le_of_ble_eq_true rfl) ?_
  refine W.eq (g2 := F0 m 4 ls []) rfl ?_
  refine lv_aload_n hx hb dX0_init_4 rfl (lv_at hl 0 rfl) ?_
  refine lv_sipush (v := nI 1024) hx hb dX0_init_5 (by decide) ?_
  refine va_newa (atype := .long) (ty := .long) (a0 := (1024, .inr (.inl (fun _ => 0)))) (N' := 1024) hx hb (hts (.arrayClass .long) (by decide +kernel)) rfl hK hP hD hS hA (fun _ => rfl) (nI_pos (by decide)) (nI_clamp (by decide)) (by decide) (Nat.le_of_ble_eq_true rfl) (Nat.le_of_ble_eq_true rfl) dX0_init_8 (fun h1 cA H hK hP hD hS => ?_)
  have hK : va_K (dC, dI) vwCl [(cA, .long)] s := hK
  have hP : va_P (dC, dI) vwCl [(h0, .inr (0, [.null, .null])), (h1, .inl (cA, 1024, .inr (.inl (fun _ => 0))))] H := hP
  have hD : va_D (va_A ([(h0, .inr (0, [.null, .null]))]) sz) [(h0, .inr (0, [.null, .null])), (h1, .inl (cA, 1024, .inr (.inl (fun _ => 0))))] := hD
  refine W.widen (k := 1) (n := 1024) (by omega) (by omega) ?_
  refine va_putF (D := (dC, dI)) (ci := 0) (v := .ref h1) (ty := .array .long) (C := RX0) (T := TX0) (N := 2) hx hb hts inws tyX0 tyX0_ok nmX0 hown hK hP hD hS 0 rfl rfl 0 (by decide) (hts (.fieldLink RX0 9 "ResidueTransforms" "row" "[J") (by decide +kernel)) (fun _ h9 => h9) rfl hin rfl (by decide +kernel) rfl rfl (Nat.le_of_ble_eq_true rfl) dX0_init_10 (fun H locs hP hD hS => ?_)
  have hP : va_P (dC, dI) vwCl [(h0, .inr (0, [.ref h1, .null])), (h1, .inl (cA, 1024, .inr (.inl (fun _ => 0))))] H := hP
  have hD : va_D (va_A ([(h0, .inr (0, [.null, .null]))]) sz) [(h0, .inr (0, [.ref h1, .null])), (h1, .inl (cA, 1024, .inr (.inl (fun _ => 0))))] := hD
  refine lv_aload_n hx hb dX0_init_13 rfl (lv_at hl 0 rfl) ?_
  refine lv_sipush (v := nI 1024) hx hb dX0_init_14 (by decide) ?_
  refine va_newa (atype := .long) (ty := .long) (a0 := (1024, .inr (.inl (fun _ => 0)))) (N' := 1024) hx hb (hts (.arrayClass .long) (by decide +kernel)) rfl hK hP hD hS hA (fun _ => rfl) (nI_pos (by decide)) (nI_clamp (by decide)) (by decide) (Nat.le_of_ble_eq_true rfl) (Nat.le_of_ble_eq_true rfl) dX0_init_17 (fun h2 cB H hK hP hD hS => ?_)
  have hK : va_K (dC, dI) vwCl [(cA, .long), (cB, .long)] s := hK
  have hP : va_P (dC, dI) vwCl [(h0, .inr (0, [.ref h1, .null])), (h1, .inl (cA, 1024, .inr (.inl (fun _ => 0)))), (h2, .inl (cB, 1024, .inr (.inl (fun _ => 0))))] H := hP
  have hD : va_D (va_A ([(h0, .inr (0, [.null, .null]))]) sz) [(h0, .inr (0, [.ref h1, .null])), (h1, .inl (cA, 1024, .inr (.inl (fun _ => 0)))), (h2, .inl (cB, 1024, .inr (.inl (fun _ => 0))))] := hD
  refine W.widen (k := 2) (n := 2048) (by omega) (by omega) ?_
  refine va_putF (D := (dC, dI)) (ci := 0) (v := .ref h2) (ty := .array .long) (C := RX0) (T := TX0) (N := 2) hx hb hts inws tyX0 tyX0_ok nmX0 hown hK hP hD hS 0 rfl rfl 1 (by decide) (hts (.fieldLink RX0 13 "ResidueTransforms" "kept" "[J") (by decide +kernel)) (fun _ h9 => h9) rfl hin rfl (by decide +kernel) rfl rfl (Nat.le_of_ble_eq_true rfl) dX0_init_19 (fun H locs hP hD hS => ?_)
  have hP : va_P (dC, dI) vwCl [(h0, .inr (0, [.ref h1, .ref h2])), (h1, .inl (cA, 1024, .inr (.inl (fun _ => 0)))), (h2, .inl (cB, 1024, .inr (.inl (fun _ => 0))))] H := hP
  have hD : va_D (va_A ([(h0, .inr (0, [.null, .null]))]) sz) [(h0, .inr (0, [.ref h1, .ref h2])), (h1, .inl (cA, 1024, .inr (.inl (fun _ => 0)))), (h2, .inl (cB, 1024, .inr (.inl (fun _ => 0))))] := hD
  exact W.vret hx hb hr (fun t ht hW => ⟨⟨(h1, h2, cA, cB), rfl, trivial, by rw [ht]; exact hP, va_K.moved hW.alike hK, hD⟩, hS.F ht⟩) hS.2.2 dX0_init_22
end
section
/-! the methods of the reference over its world -/
set_option maxHeartbeats 4000000 in
set_option maxRecDepth 100000 in
theorem k_put (l : Launch) (dC : Nat → ClassId) (dI : Nat → Nat → Nat) (h0 h1 h2 h3 sz : Nat) (cA cB cC : ClassId) (f g u : Nat → Int64) (k : Int32) (q : Int32) (v : Int64) : Met l yX1_put wsX1_put ({ frames := 0, cells := 0, slots := 0, locals := 0 }) (kPre (dC, dI) [(cA, .long), (cB, .long), (cC, .long)] [.ref h0, .int q, .long v] sz (w4 h0 h1 h2 h3 cA cB cC f g u k)) (kQi (dC, dI) [(cA, .long), (cB, .long), (cC, .long)] sz (w4 h0 h1 h2 h3 cA cB cC f g u k) (fun r w => (r = 1 ∧ ∃ j, j < 1024 ∧ q = nI j ∧ w = w4 h0 h1 h2 h3 cA cB cC (vp_updL f j v) g u k) ∨ (r = 0 ∧ (¬ ∃ j, j < 1024 ∧ q = nI j) ∧ w = w4 h0 h1 h2 h3 cA cB cC f g u k))) 0 0 (va_A (w4 h0 h1 h2 h3 cA cB cC f g u k) sz) := by
  refine k_met (cc := cX1_put) (maxL := 4) (ret := (some .boolean)) (by decide) rfl (Nat.le_of_ble_eq_true rfl) ?_
  intro p e s m below meth c ls hx hb hr hlocks hml hown hts hnm hK hP hD hS hA hl
  have hl : lv_has ls 4 [(0, .ref h0), (1, .int q), (2, .long v)] := hl
  have inws : ∀ w ∈ u_ws RX1 TX1 4, w ∈ wsX1_put := by decide +kernel
  refine lv_iload_n hx hb dX1_put_0 rfl (lv_at hl 1 rfl) ?_
  refine lv_if_lt (tgt := 11) hx hb dX1_put_1 (by decide) (fun hc => ?_) (fun hc => ?_)
  · refine lv_iconst (v := (0 : Int32)) hx hb dX1_put_11 (by decide) ?_
    exact kr_z hx hb hr rfl hlocks hK hP hD hS (Or.inr ⟨rfl, fun ⟨j, hj, e⟩ => nI_pos (show j < 2 ^ 31 by omega) (e ▸ hc), rfl⟩) dX1_put_12
  · obtain ⟨j, hj, e1⟩ := nI_of hc
    rw [e1] at hl
    refine lv_iload_n hx hb dX1_put_4 rfl (lv_at hl 1 rfl) ?_
    refine lv_sipush (v := nI 1024) hx hb dX1_put_5 (by decide) ?_
    refine lv_icmp_lt (tgt := 13) hx hb dX1_put_8 (by decide) (fun hc2 => ?_) (fun hc2 => ?_)
    · have hj2 : j < 1024 := (nI_ltI (by omega) (by omega)).mp hc2
      refine lv_aload_n hx hb dX1_put_13 rfl (lv_at hl 0 rfl) ?_
      refine va_get (D := (dC, dI)) (ci := 1) (v := .ref h1) (C := RX1) (T := TX1) (N := 4) hx hb hts inws hown hK hP 0 rfl rfl 0 (by decide) (hts (.fieldLink RX1 9 "ResidueTransformsModel" "row" "[J") (by decide +kernel)) (fun _ h9 => h9) rfl dX1_put_14 ?_
      refine lv_iload_n hx hb dX1_put_17 rfl (lv_at hl 1 rfl) ?_
      refine lv_lload_n hx hb dX1_put_18 rfl (lv_at hl 2 rfl) ?_
      refine ka_st (w1 := w4 h0 h1 h2 h3 cA cB cC (vp_updL f j v) g u k) hx hb hK hP hD hS 1 0 rfl rfl (i := j) (hj2) (by decide) dX1_put_19 (congrArg (fun z => w4 h0 h1 h2 h3 cA cB cC z g u k) (rfl)) (fun H locs hP hD hS => ?_)
      refine lv_iconst (v := (1 : Int32)) hx hb dX1_put_20 (by decide) ?_
      exact kr_z hx hb hr rfl hlocks hK hP hD hS (Or.inl ⟨rfl, j, hj2, e1, rfl⟩) dX1_put_21
    · refine lv_iconst (v := (0 : Int32)) hx hb dX1_put_11 (by decide) ?_
      exact kr_z hx hb hr rfl hlocks hK hP hD hS (Or.inr ⟨rfl, fun ⟨i, hi, e⟩ => hc2 ((nI_ltI (by omega) (by omega)).mpr (by have := (nI_eq hj (by omega)).mp (e1.symm.trans e); omega)), rfl⟩) dX1_put_12
set_option maxHeartbeats 4000000 in
set_option maxRecDepth 100000 in
theorem k_get (l : Launch) (dC : Nat → ClassId) (dI : Nat → Nat → Nat) (h0 h1 h2 h3 sz : Nat) (cA cB cC : ClassId) (f g u : Nat → Int64) (k : Int32) (q : Int32) : Met l yX1_get wsX1_get ({ frames := 0, cells := 0, slots := 0, locals := 0 }) (kPre (dC, dI) [(cA, .long), (cB, .long), (cC, .long)] [.ref h0, .int q] sz (w4 h0 h1 h2 h3 cA cB cC f g u k)) (kQl (dC, dI) [(cA, .long), (cB, .long), (cC, .long)] sz (w4 h0 h1 h2 h3 cA cB cC f g u k) (fun r w => w = w4 h0 h1 h2 h3 cA cB cC f g u k ∧ ((∃ j, j < 1024 ∧ q = nI j ∧ r = f j) ∨ ((¬ ∃ j, j < 1024 ∧ q = nI j) ∧ r = lN 0)))) 0 0 (va_A (w4 h0 h1 h2 h3 cA cB cC f g u k) sz) := by
  refine k_met (cc := cX1_get) (maxL := 2) (ret := (some .long)) (by decide) rfl (Nat.le_of_ble_eq_true rfl) ?_
  intro p e s m below meth c ls hx hb hr hlocks hml hown hts hnm hK hP hD hS hA hl
  have hl : lv_has ls 2 [(0, .ref h0), (1, .int q)] := hl
  have inws : ∀ w ∈ u_ws RX1 TX1 4, w ∈ wsX1_get := by decide +kernel
  refine lv_iload_n hx hb dX1_get_0 rfl (lv_at hl 1 rfl) ?_
  refine lv_if_lt (tgt := 20) hx hb dX1_get_1 (by decide) (fun hc => ?_) (fun hc => ?_)
  · refine lv_lconst (v := lN 0) hx hb dX1_get_20 (by decide) ?_
    exact kr_l hx hb hr hlocks hK hP hD hS ⟨rfl, Or.inr ⟨fun ⟨j, hj, e⟩ => nI_pos (show j < 2 ^ 31 by omega) (e ▸ hc), rfl⟩⟩ dX1_get_21
  · obtain ⟨j, hj, e1⟩ := nI_of hc
    rw [e1] at hl
    refine lv_iload_n hx hb dX1_get_4 rfl (lv_at hl 1 rfl) ?_
    refine lv_sipush (v := nI 1024) hx hb dX1_get_5 (by decide) ?_
    refine lv_icmp_ge (tgt := 20) hx hb dX1_get_8 (by decide) (fun hc2 => ?_) (fun hc2 => ?_)
    · refine lv_lconst (v := lN 0) hx hb dX1_get_20 (by decide) ?_
      exact kr_l hx hb hr hlocks hK hP hD hS ⟨rfl, Or.inr ⟨fun ⟨i, hi, e⟩ => absurd ((nI_leI (by omega) (by omega)).mp hc2) (by have := (nI_eq hj (by omega)).mp (e1.symm.trans e); omega), rfl⟩⟩ dX1_get_21
    · have hj2 : j < 1024 := Nat.not_le.mp fun z => hc2 ((nI_leI (by omega) (by omega)).mpr z)
      refine lv_aload_n hx hb dX1_get_11 rfl (lv_at hl 0 rfl) ?_
      refine va_get (D := (dC, dI)) (ci := 1) (v := .ref h1) (C := RX1) (T := TX1) (N := 4) hx hb hts inws hown hK hP 0 rfl rfl 0 (by decide) (hts (.fieldLink RX1 9 "ResidueTransformsModel" "row" "[J") (by decide +kernel)) (fun _ h9 => h9) rfl dX1_get_12 ?_
      refine lv_iload_n hx hb dX1_get_15 rfl (lv_at hl 1 rfl) ?_
      refine ka_ld hx hb hK hP 1 0 rfl rfl (i := j) (hj2) (by decide) dX1_get_16 ?_
      refine lv_goto (tgt := 21) hx hb dX1_get_17 (by decide) ?_
      exact kr_l hx hb hr hlocks hK hP hD hS ⟨rfl, Or.inl ⟨j, hj2, e1, rfl⟩⟩ dX1_get_21
set_option maxHeartbeats 4000000 in
set_option maxRecDepth 100000 in
theorem k_keep (l : Launch) (dC : Nat → ClassId) (dI : Nat → Nat → Nat) (h0 h1 h2 h3 sz : Nat) (cA cB cC : ClassId) (f g u : Nat → Int64) (k : Int32) (q : Int32) : Met l yX1_keep wsX1_keep ({ frames := 0, cells := 0, slots := 0, locals := 0 }) (kPre (dC, dI) [(cA, .long), (cB, .long), (cC, .long)] [.ref h0, .int q] sz (w4 h0 h1 h2 h3 cA cB cC f g u k)) (kQi (dC, dI) [(cA, .long), (cB, .long), (cC, .long)] sz (w4 h0 h1 h2 h3 cA cB cC f g u k) (fun r w => (r = 1 ∧ ∃ j, j ≤ 1024 ∧ q = nI j ∧ w = w4 h0 h1 h2 h3 cA cB cC f (zpt j f g) u (nI j)) ∨ (r = 0 ∧ (¬ ∃ j, j ≤ 1024 ∧ q = nI j) ∧ w = w4 h0 h1 h2 h3 cA cB cC f g u k))) 0 0 (va_A (w4 h0 h1 h2 h3 cA cB cC f g u k) sz) := by
  refine k_met (cc := cX1_keep) (maxL := 3) (ret := (some .boolean)) (by decide) rfl (Nat.le_of_ble_eq_true rfl) ?_
  intro p e s m below meth c ls hx hb hr hlocks hml hown hts hnm hK hP hD hS hA hl
  have hl : lv_has ls 3 [(0, .ref h0), (1, .int q)] := hl
  have inws : ∀ w ∈ u_ws RX1 TX1 4, w ∈ wsX1_keep := by decide +kernel
  refine lv_iload_n hx hb dX1_keep_0 rfl (lv_at hl 1 rfl) ?_
  refine lv_if_lt (tgt := 11) hx hb dX1_keep_1 (by decide) (fun hc => ?_) (fun hc => ?_)
  · refine lv_iconst (v := (0 : Int32)) hx hb dX1_keep_11 (by decide) ?_
    exact kr_z hx hb hr rfl hlocks hK hP hD hS (Or.inr ⟨rfl, fun ⟨j, hj, e⟩ => nI_pos (show j < 2 ^ 31 by omega) (e ▸ hc), rfl⟩) dX1_keep_12
  · obtain ⟨N, hNb, e1⟩ := nI_of hc
    rw [e1] at hl
    refine lv_iload_n hx hb dX1_keep_4 rfl (lv_at hl 1 rfl) ?_
    refine lv_sipush (v := nI 1024) hx hb dX1_keep_5 (by decide) ?_
    refine lv_icmp_le (tgt := 13) hx hb dX1_keep_8 (by decide) (fun hc2 => ?_) (fun hc2 => ?_)
    · have hN : N ≤ 1024 := (nI_leI (by omega) (by omega)).mp hc2
      refine lv_iconst (v := nI 0) hx hb dX1_keep_13 (by decide) ?_
      refine lv_istore_n (lv' := [(2, .int (nI 0)), (0, .ref h0), (1, .int (nI N))]) hx hb dX1_keep_14 rfl hl (by decide) rfl (fun ls hl => ?_)
      have loop : ∀ (n i : Nat), N + 1 ≤ i + n → i ≤ N → ∀ (H : Heap) (locs : List Loc), va_P (dC, dI) vwCl (w4 h0 h1 h2 h3 cA cB cC f (zpt i f g) u k) H → va_D (va_A (w4 h0 h1 h2 h3 cA cB cC f g u k) sz) (w4 h0 h1 h2 h3 cA cB cC f (zpt i f g) u k) → va_S (va_A (w4 h0 h1 h2 h3 cA cB cC f g u k) sz) s.heap H locs → ∀ (ls : Array Slot), lv_has ls 3 [(0, .ref h0), (1, .int (nI N)), (2, .int (nI i))] → W p l e ({ frames := 0, cells := 0, slots := 0, locals := 0 } : Room) s m ([.ref h0, .int q] : List Value).toArray below meth c H locs 0 0 (MQ below (kQi (dC, dI) [(cA, .long), (cB, .long), (cC, .long)] sz (w4 h0 h1 h2 h3 cA cB cC f g u k) (fun r w => (r = 1 ∧ ∃ j, j ≤ 1024 ∧ q = nI j ∧ w = w4 h0 h1 h2 h3 cA cB cC f (zpt j f g) u (nI j)) ∨ (r = 0 ∧ (¬ ∃ j, j ≤ 1024 ∧ q = nI j) ∧ w = w4 h0 h1 h2 h3 cA cB cC f g u k))) ([.ref h0, .int q] : List Value).toArray s 0 0 (va_A (w4 h0 h1 h2 h3 cA cB cC f g u k) sz)) (F0 m 15 ls []) := by
        intro n
        induction n with
        | zero => intro i y1 y2; exact absurd y1 (by omega)
        | succ n ih =>
          intro i y1 y2 H locs hP hD hS ls hl
          refine lv_iload_n hx hb dX1_keep_15 rfl (lv_at hl 2 rfl) ?_
          refine lv_iload_n hx hb dX1_keep_16 rfl (lv_at hl 1 rfl) ?_
          refine lv_icmp_ge (tgt := 38) hx hb dX1_keep_17 (by decide) (fun hc3 => ?_) (fun hc3 => ?_)
          · have hi : i = N := by have := (nI_leI (by omega) (by omega)).mp hc3; omega
            subst hi
            refine lv_aload_n hx hb dX1_keep_38 rfl (lv_at hl 0 rfl) ?_
            refine lv_iload_n hx hb dX1_keep_39 rfl (lv_at hl 1 rfl) ?_
            refine va_put (D := (dC, dI)) (ci := 1) (v := .int (nI i)) (ty := .int) (C := RX1) (T := TX1) (N := 4) hx hb hts inws tyX1 tyX1_ok nmX1 hown hK hP hD hS 0 rfl rfl 3 (by decide) (hts (.fieldLink RX1 42 "ResidueTransformsModel" "keptSize" "I") (by decide +kernel)) (fun _ h9 => h9) rfl (by decide +kernel) rfl rfl (Nat.le_of_ble_eq_true rfl) dX1_keep_40 (fun H locs hP hD hS => ?_)
            have hP : va_P (dC, dI) vwCl (w4 h0 h1 h2 h3 cA cB cC f (zpt i f g) u ((nI i))) H := hP
            have hD : va_D (va_A (w4 h0 h1 h2 h3 cA cB cC f g u k) sz) (w4 h0 h1 h2 h3 cA cB cC f (zpt i f g) u ((nI i))) := hD
            refine lv_iconst (v := (1 : Int32)) hx hb dX1_keep_43 (by decide) ?_
            exact kr_z hx hb hr rfl hlocks hK hP hD hS (Or.inl ⟨rfl, _, hN, e1, rfl⟩) dX1_keep_44
          · have hi : i < N := Nat.not_le.mp fun z => hc3 ((nI_leI (by omega) (by omega)).mpr z)
            refine lv_aload_n hx hb dX1_keep_20 rfl (lv_at hl 0 rfl) ?_
            refine va_get (D := (dC, dI)) (ci := 1) (v := .ref h2) (C := RX1) (T := TX1) (N := 4) hx hb hts inws hown hK hP 0 rfl rfl 1 (by decide) (hts (.fieldLink RX1 13 "ResidueTransformsModel" "kept" "[J") (by decide +kernel)) (fun _ h9 => h9) rfl dX1_keep_21 ?_
            refine lv_iload_n hx hb dX1_keep_24 rfl (lv_at hl 2 rfl) ?_
            refine lv_aload_n hx hb dX1_keep_25 rfl (lv_at hl 0 rfl) ?_
            refine va_get (D := (dC, dI)) (ci := 1) (v := .ref h1) (C := RX1) (T := TX1) (N := 4) hx hb hts inws hown hK hP 0 rfl rfl 0 (by decide) (hts (.fieldLink RX1 9 "ResidueTransformsModel" "row" "[J") (by decide +kernel)) (fun _ h9 => h9) rfl dX1_keep_26 ?_
            refine lv_iload_n hx hb dX1_keep_29 rfl (lv_at hl 2 rfl) ?_
            refine ka_ld hx hb hK hP 1 0 rfl rfl (i := i) (by omega) (by decide) dX1_keep_30 ?_
            refine ka_st (w1 := w4 h0 h1 h2 h3 cA cB cC f (zpt (i + 1) f g) u k) hx hb hK hP hD hS 2 1 rfl rfl (i := i) (by omega) (by decide) dX1_keep_31 (congrArg (fun z => w4 h0 h1 h2 h3 cA cB cC f z u k) (zpt_up rfl)) (fun H locs hP hD hS => ?_)
            refine lv_iinc (v := nI (i + 1)) (lv' := [(2, .int (nI (i + 1))), (0, .ref h0), (1, .int (nI N))]) hx hb dX1_keep_32 hl (k := 2) rfl (nI_1 i) (by decide) rfl (fun ls hl => ?_)
            refine lv_goto (tgt := 15) hx hb dX1_keep_35 (by decide) ?_
            exact ih (i + 1) (by omega) (by omega) H locs hP hD hS ls (lv_sub hl [1, 2, 0] rfl)
      exact loop (N + 1) 0 (by omega) (by omega) _ _ (by rw [zpt_0]; exact hP) (by rw [zpt_0]; exact hD) hS ls (lv_sub hl [1, 2, 0] rfl)
    · refine lv_iconst (v := (0 : Int32)) hx hb dX1_keep_11 (by decide) ?_
      exact kr_z hx hb hr rfl hlocks hK hP hD hS (Or.inr ⟨rfl, fun ⟨i, hi, e⟩ => hc2 ((nI_leI (by omega) (by omega)).mpr (by have := (nI_eq hNb (by omega)).mp (e1.symm.trans e); omega)), rfl⟩) dX1_keep_12
set_option maxHeartbeats 4000000 in
set_option maxRecDepth 100000 in
theorem k_times (l : Launch) (dC : Nat → ClassId) (dI : Nat → Nat → Nat) (h0 h1 h2 h3 sz : Nat) (cA cB cC : ClassId) (f g u : Nat → Int64) (ks : Nat) (hks : ks ≤ 1024) (q1 q2 : Int32) : Met l yX1_times wsX1_times ({ frames := 1, cells := 0, slots := 0, locals := 22 }) (kPre (dC, dI) [(cA, .long), (cB, .long), (cC, .long)] [.ref h0, .int q1, .int q2] sz (w4 h0 h1 h2 h3 cA cB cC f g u ((nI ks)))) (kQi (dC, dI) [(cA, .long), (cB, .long), (cC, .long)] sz (w4 h0 h1 h2 h3 cA cB cC f g u ((nI ks))) (fun r w => (r = -1 ∧ (¬ zci q1) ∧ w = w4 h0 h1 h2 h3 cA cB cC f g u (nI ks)) ∨ (r = -2 ∧ zci q1 ∧ ¬ zok q2 ∧ w = w4 h0 h1 h2 h3 cA cB cC f g u (nI ks)) ∨ (r = 0 ∧ ∃ j P1, j ≤ 1024 ∧ q1 = nI j ∧ q2 = nI P1 ∧ 3 ≤ P1 ∧ P1 ≤ 1000000007 ∧ ztd P1 ∧ w = w4 h0 h1 h2 h3 cA cB cC (zpt j (fun t => if t < ks then lN (zrs P1 (f t) * zrs P1 (g t) % P1) else lN 0) f) g u (nI ks)))) 0 0 (va_A (w4 h0 h1 h2 h3 cA cB cC f g u ((nI ks))) sz) := by
  refine k_met (cc := cX1_times) (maxL := 4) (ret := (some .int)) (by decide) rfl (Nat.le_of_ble_eq_true rfl) ?_
  intro p e s m below meth c ls hx hb hr hlocks hml hown hts hnm hK hP hD hS hA hl
  have hl : lv_has ls 4 [(0, .ref h0), (1, .int q1), (2, .int q2)] := hl
  have inws : ∀ w ∈ u_ws RX1 TX1 4, w ∈ wsX1_times := by decide +kernel
  refine lv_iload_n hx hb dX1_times_0 rfl (lv_at hl 1 rfl) ?_
  refine lv_if_lt (tgt := 11) hx hb dX1_times_1 (by decide) (fun hc => ?_) (fun hc => ?_)
  · refine lv_iconst (v := -1) hx hb dX1_times_11 (by decide) ?_
    exact kr_i hx hb hr hlocks hK hP hD hS (Or.inl ⟨rfl, fun ⟨j, hj, e⟩ => nI_pos (show j < 2 ^ 31 by omega) (e ▸ hc), rfl⟩) dX1_times_12
  · obtain ⟨N, hNb, e1⟩ := nI_of hc
    rw [e1] at hl
    refine lv_iload_n hx hb dX1_times_4 rfl (lv_at hl 1 rfl) ?_
    refine lv_sipush (v := nI 1024) hx hb dX1_times_5 (by decide) ?_
    refine lv_icmp_le (tgt := 13) hx hb dX1_times_8 (by decide) (fun hc2 => ?_) (fun hc2 => ?_)
    · have hN : N ≤ 1024 := (nI_leI (by omega) (by omega)).mp hc2
      refine lv_iload_n hx hb dX1_times_13 rfl (lv_at hl 2 rfl) ?_
      refine kc_i (As := [.int q2]) (rest := []) ⟨hx, hb, hml, hown, hts⟩ (k_isPrime l q2) (va_cwS 1 hts gX1_times_X1_isPrime rfl rfl rfl (by decide +kernel) ⟨Nat.le_of_ble_eq_true rfl, Nat.le_of_ble_eq_true rfl⟩) rfl hl.1 rfl (Nat.le_of_ble_eq_true rfl) dX1_times_14 ⟨Nat.zero_le _, Nat.zero_le _⟩ (fun r2 hr2 => ?_)
      rcases hr2 with ⟨rfl, hp⟩ | ⟨rfl, hp⟩
      · refine lv_if_ne (tgt := 23) hx hb dX1_times_17 (by decide) (fun _ => ?_) (fun hc => absurd hc (by decide))
        obtain ⟨P, e2, hp1, hp2, hp3⟩ := hp
        rw [e2] at hl
        refine lv_iconst (v := nI 0) hx hb dX1_times_23 (by decide) ?_
        refine lv_istore_n (lv' := [(3, .int (nI 0)), (0, .ref h0), (1, .int (nI N)), (2, .int (nI P))]) hx hb dX1_times_24 rfl hl (by decide) rfl (fun ls hl => ?_)
        have loop : ∀ (n i : Nat), N + 1 ≤ i + n → i ≤ N → ∀ (H : Heap) (locs : List Loc), va_P (dC, dI) vwCl (w4 h0 h1 h2 h3 cA cB cC (zpt i (fun t => if t < ks then lN (zrs P (f t) * zrs P (g t) % P) else lN 0) f) g u ((nI ks))) H → va_D (va_A (w4 h0 h1 h2 h3 cA cB cC f g u ((nI ks))) sz) (w4 h0 h1 h2 h3 cA cB cC (zpt i (fun t => if t < ks then lN (zrs P (f t) * zrs P (g t) % P) else lN 0) f) g u ((nI ks))) → va_S (va_A (w4 h0 h1 h2 h3 cA cB cC f g u ((nI ks))) sz) s.heap H locs → ∀ (ls : Array Slot), lv_has ls 4 [(0, .ref h0), (1, .int (nI N)), (2, .int (nI P)), (3, .int (nI i))] → W p l e ({ frames := 1, cells := 0, slots := 0, locals := 22 } : Room) s m ([.ref h0, .int q1, .int q2] : List Value).toArray below meth c H locs 0 0 (MQ below (kQi (dC, dI) [(cA, .long), (cB, .long), (cC, .long)] sz (w4 h0 h1 h2 h3 cA cB cC f g u ((nI ks))) (fun r w => (r = -1 ∧ (¬ zci q1) ∧ w = w4 h0 h1 h2 h3 cA cB cC f g u (nI ks)) ∨ (r = -2 ∧ zci q1 ∧ ¬ zok q2 ∧ w = w4 h0 h1 h2 h3 cA cB cC f g u (nI ks)) ∨ (r = 0 ∧ ∃ j P1, j ≤ 1024 ∧ q1 = nI j ∧ q2 = nI P1 ∧ 3 ≤ P1 ∧ P1 ≤ 1000000007 ∧ ztd P1 ∧ w = w4 h0 h1 h2 h3 cA cB cC (zpt j (fun t => if t < ks then lN (zrs P1 (f t) * zrs P1 (g t) % P1) else lN 0) f) g u (nI ks)))) ([.ref h0, .int q1, .int q2] : List Value).toArray s 0 0 (va_A (w4 h0 h1 h2 h3 cA cB cC f g u ((nI ks))) sz)) (F0 m 25 ls []) := by
          intro n
          induction n with
          | zero => intro i y1 y2; exact absurd y1 (by omega)
          | succ n ih =>
            intro i y1 y2 H locs hP hD hS ls hl
            refine lv_iload_n hx hb dX1_times_25 rfl (lv_at hl 3 rfl) ?_
            refine lv_iload_n hx hb dX1_times_26 rfl (lv_at hl 1 rfl) ?_
            refine lv_icmp_ge (tgt := 78) hx hb dX1_times_27 (by decide) (fun hc3 => ?_) (fun hc3 => ?_)
            · have hi : i = N := by have := (nI_leI (by omega) (by omega)).mp hc3; omega
              rw [hi] at hP hD
              refine lv_iconst (v := (0 : Int32)) hx hb dX1_times_78 (by decide) ?_
              exact kr_i hx hb hr hlocks hK hP hD hS (Or.inr (Or.inr ⟨rfl, N, P, hN, e1, e2, hp1, hp2, hp3, rfl⟩)) dX1_times_79
            · have hi : i < N := Nat.not_le.mp fun z => hc3 ((nI_leI (by omega) (by omega)).mpr z)
              refine lv_aload_n hx hb dX1_times_30 rfl (lv_at hl 0 rfl) ?_
              refine va_get (D := (dC, dI)) (ci := 1) (v := .ref h1) (C := RX1) (T := TX1) (N := 4) hx hb hts inws hown hK hP 0 rfl rfl 0 (by decide) (hts (.fieldLink RX1 9 "ResidueTransformsModel" "row" "[J") (by decide +kernel)) (fun _ h9 => h9) rfl dX1_times_31 ?_
              refine lv_iload_n hx hb dX1_times_34 rfl (lv_at hl 3 rfl) ?_
              refine lv_iload_n hx hb dX1_times_35 rfl (lv_at hl 3 rfl) ?_
              refine lv_aload_n hx hb dX1_times_36 rfl (lv_at hl 0 rfl) ?_
              refine va_get (D := (dC, dI)) (ci := 1) (v := .int (nI ks)) (C := RX1) (T := TX1) (N := 4) hx hb hts inws hown hK hP 0 rfl rfl 3 (by decide) (hts (.fieldLink RX1 42 "ResidueTransformsModel" "keptSize" "I") (by decide +kernel)) (fun _ h9 => h9) rfl dX1_times_37 ?_
              refine lv_icmp_ge (tgt := 70) hx hb dX1_times_40 (by decide) (fun hc4 => ?_) (fun hc4 => ?_)
              · have hik : ¬ i < ks := by have := (nI_leI (by omega) (by omega)).mp hc4; omega
                refine lv_lconst (v := lN 0) hx hb dX1_times_70 (by decide) ?_
                refine ka_st (w1 := w4 h0 h1 h2 h3 cA cB cC (zpt (i + 1) (fun t => if t < ks then lN (zrs P (f t) * zrs P (g t) % P) else lN 0) f) g u ((nI ks))) hx hb hK hP hD hS 1 0 rfl rfl (i := i) (by omega) (by decide) dX1_times_71 (congrArg (fun z => w4 h0 h1 h2 h3 cA cB cC z g u ((nI ks))) (zpt_up (if_neg hik).symm)) (fun H locs hP hD hS => ?_)
                refine lv_iinc (v := nI (i + 1)) (lv' := [(3, .int (nI (i + 1))), (0, .ref h0), (1, .int (nI N)), (2, .int (nI P))]) hx hb dX1_times_72 hl (k := 3) rfl (nI_1 i) (by decide) rfl (fun ls hl => ?_)
                refine lv_goto (tgt := 25) hx hb dX1_times_75 (by decide) ?_
                exact ih (i + 1) (by omega) (by omega) H locs hP hD hS ls (lv_sub hl [1, 2, 3, 0] rfl)
              · have hik : i < ks := Nat.not_le.mp fun z => hc4 ((nI_leI (by omega) (by omega)).mpr z)
                refine lv_aload_n hx hb dX1_times_43 rfl (lv_at hl 0 rfl) ?_
                refine va_get (D := (dC, dI)) (ci := 1) (v := .ref h1) (C := RX1) (T := TX1) (N := 4) hx hb hts inws hown hK hP 0 rfl rfl 0 (by decide) (hts (.fieldLink RX1 9 "ResidueTransformsModel" "row" "[J") (by decide +kernel)) (fun _ h9 => h9) rfl dX1_times_44 ?_
                refine lv_iload_n hx hb dX1_times_47 rfl (lv_at hl 3 rfl) ?_
                refine ka_ld hx hb hK hP 1 0 rfl rfl (i := i) (by omega) (by decide) dX1_times_48 ?_
                refine kt_l (v := f i) (zpt_at) ?_
                refine lv_iload_n hx hb dX1_times_49 rfl (lv_at hl 2 rfl) ?_
                refine kc_lv (As := [.long (f i), .int (nI P)]) (rest := [.int (nI i), .ref h1]) ⟨hx, hb, hml, hown, hts⟩ (k_rest l (f i) P (by omega) (by omega)) (va_cwS 2 hts gX1_times_X1_rest rfl rfl rfl (by decide +kernel) ⟨Nat.le_of_ble_eq_true rfl, Nat.le_of_ble_eq_true rfl⟩) rfl hl.1 rfl (Nat.le_of_ble_eq_true rfl) dX1_times_50 ⟨Nat.zero_le _, Nat.zero_le _⟩ ?_
                refine lv_aload_n hx hb dX1_times_53 rfl (lv_at hl 0 rfl) ?_
                refine va_get (D := (dC, dI)) (ci := 1) (v := .ref h2) (C := RX1) (T := TX1) (N := 4) hx hb hts inws hown hK hP 0 rfl rfl 1 (by decide) (hts (.fieldLink RX1 13 "ResidueTransformsModel" "kept" "[J") (by decide +kernel)) (fun _ h9 => h9) rfl dX1_times_54 ?_
                refine lv_iload_n hx hb dX1_times_57 rfl (lv_at hl 3 rfl) ?_
                refine ka_ld hx hb hK hP 2 1 rfl rfl (i := i) (by omega) (by decide) dX1_times_58 ?_
                refine lv_iload_n hx hb dX1_times_59 rfl (lv_at hl 2 rfl) ?_
                refine kc_lv (As := [.long (g (i)), .int (nI P)]) (rest := [.long (lN (zrs P (f i))), .int (nI i), .ref h1]) ⟨hx, hb, hml, hown, hts⟩ (k_rest l (g i) P (by omega) (by omega)) (va_cwS 2 hts gX1_times_X1_rest rfl rfl rfl (by decide +kernel) ⟨Nat.le_of_ble_eq_true rfl, Nat.le_of_ble_eq_true rfl⟩) rfl hl.1 rfl (Nat.le_of_ble_eq_true rfl) dX1_times_60 ⟨Nat.zero_le _, Nat.zero_le _⟩ ?_
                refine lv_lmul hx hb dX1_times_63 ?_
                refine lv_iload_n hx hb dX1_times_64 rfl (lv_at hl 2 rfl) ?_
                refine lv_i2l (v := lN P) hx hb dX1_times_65 (nI_l (by omega)) ?_
                refine lv_lrem hx hb dX1_times_66 (zl_ne (by omega) (by omega)) ?_
                refine kt_l (v := lN (zrs P (f i) * zrs P (g i) % P)) (z_pr hp2 (zrs_lt (by omega) _) (zrs_lt (by omega) _)) ?_
                refine lv_goto (tgt := 71) hx hb dX1_times_67 (by decide) ?_
                refine ka_st (w1 := w4 h0 h1 h2 h3 cA cB cC (zpt (i + 1) (fun t => if t < ks then lN (zrs P (f t) * zrs P (g t) % P) else lN 0) f) g u ((nI ks))) hx hb hK hP hD hS 1 0 rfl rfl (i := i) (by omega) (by decide) dX1_times_71 (congrArg (fun z => w4 h0 h1 h2 h3 cA cB cC z g u ((nI ks))) (zpt_up (if_pos hik).symm)) (fun H locs hP hD hS => ?_)
                refine lv_iinc (v := nI (i + 1)) (lv' := [(3, .int (nI (i + 1))), (0, .ref h0), (1, .int (nI N)), (2, .int (nI P))]) hx hb dX1_times_72 hl (k := 3) rfl (nI_1 i) (by decide) rfl (fun ls hl => ?_)
                refine lv_goto (tgt := 25) hx hb dX1_times_75 (by decide) ?_
                exact ih (i + 1) (by omega) (by omega) H locs hP hD hS ls (lv_sub hl [1, 2, 3, 0] rfl)
        exact loop (N + 1) 0 (by omega) (by omega) _ _ (by rw [zpt_0]; exact hP) (by rw [zpt_0]; exact hD) hS ls (lv_sub hl [1, 2, 3, 0] rfl)
      · refine lv_if_ne (tgt := 23) hx hb dX1_times_17 (by decide) (fun hc => absurd rfl hc) (fun _ => ?_)
        refine lv_bipush (v := -2) hx hb dX1_times_20 (by decide) ?_
        exact kr_i hx hb hr hlocks hK hP hD hS (Or.inr (Or.inl ⟨rfl, ⟨N, hN, e1⟩, hp, rfl⟩)) dX1_times_22
    · refine lv_iconst (v := -1) hx hb dX1_times_11 (by decide) ?_
      exact kr_i hx hb hr hlocks hK hP hD hS (Or.inl ⟨rfl, fun ⟨i, hi, e⟩ => hc2 ((nI_leI (by omega) (by omega)).mpr (by have := (nI_eq hNb (by omega)).mp (e1.symm.trans e); omega)), rfl⟩) dX1_times_12
set_option maxHeartbeats 4000000 in
set_option maxRecDepth 100000 in
theorem k_root (l : Launch) (dC : Nat → ClassId) (dI : Nat → Nat → Nat) (h0 h1 h2 h3 sz : Nat) (cA cB cC : ClassId) (f g u : Nat → Int64) (k : Int32) (q1 q2 : Int32) : Met l yX1_root wsX1_root ({ frames := 2, cells := 0, slots := 0, locals := 55 }) (kPre (dC, dI) [(cA, .long), (cB, .long), (cC, .long)] [.ref h0, .int q1, .int q2] sz (w4 h0 h1 h2 h3 cA cB cC f g u k)) (kQl (dC, dI) [(cA, .long), (cB, .long), (cC, .long)] sz (w4 h0 h1 h2 h3 cA cB cC f g u k) (fun r w => w = w4 h0 h1 h2 h3 cA cB cC f g u k ∧ ((∃ z, zrf q1 q2 z ∧ ¬ z = 0 ∧ r = lN 0) ∨ (∃ L P w0, zgo q1 q2 L P ∧ 2 ^ L ∣ P - 1 ∧ zW (2 ^ L) P w0 ∧ r = lN w0)))) 0 0 (va_A (w4 h0 h1 h2 h3 cA cB cC f g u k) sz) := by
  refine k_met (cc := cX1_root) (maxL := 3) (ret := (some .long)) (by decide) rfl (Nat.le_of_ble_eq_true rfl) ?_
  intro p e s m below meth c ls hx hb hr hlocks hml hown hts hnm hK hP hD hS hA hl
  have hl : lv_has ls 3 [(0, .ref h0), (1, .int q1), (2, .int q2)] := hl
  refine lv_iload_n hx hb dX1_root_0 rfl (lv_at hl 1 rfl) ?_
  refine lv_iload_n hx hb dX1_root_1 rfl (lv_at hl 2 rfl) ?_
  refine kc_i (As := [.int q1, .int q2]) (rest := []) ⟨hx, hb, hml, hown, hts⟩ (k_refused l q1 q2) (va_cwS 2 hts gX1_root_X1_refused rfl rfl rfl (by decide +kernel) ⟨Nat.le_of_ble_eq_true rfl, Nat.le_of_ble_eq_true rfl⟩) rfl hl.1 rfl (Nat.le_of_ble_eq_true rfl) dX1_root_2 ⟨Nat.zero_le _, Nat.zero_le _⟩ (fun r1 hr1 => ?_)
  refine lv_if_ge (tgt := 12) hx hb dX1_root_5 (by decide) (fun hc => ?_) (fun hc => ?_)
  · obtain ⟨z, -⟩ | ⟨z, -⟩ | ⟨z, -⟩ | ⟨-, L, P, ⟨hL, e1, e2, hp1, hp2, hp3⟩, hd⟩ := hr1
    · exact absurd (z ▸ hc) (by decide)
    · exact absurd (z ▸ hc) (by decide)
    · exact absurd (z ▸ hc) (by decide)
    obtain ⟨w0, hW⟩ := zW_all hp1 hp3 hd
    have h2p := z_2pow hL
    rw [e1, e2] at hl
    refine lv_iload_n hx hb dX1_root_12 rfl (lv_at hl 1 rfl) ?_
    refine lv_iload_n hx hb dX1_root_13 rfl (lv_at hl 2 rfl) ?_
    refine kc_lv (As := [.int (nI (2 ^ L)), .int (nI P)]) (rest := []) ⟨hx, hb, hml, hown, hts⟩ (k_rootOf l (2 ^ L) P w0 hp2 hp1 (by omega) (by omega) hW) (va_cwS 2 hts gX1_root_X1_rootOf rfl rfl rfl (by decide +kernel) ⟨Nat.le_of_ble_eq_true rfl, Nat.le_of_ble_eq_true rfl⟩) rfl hl.1 rfl (Nat.le_of_ble_eq_true rfl) dX1_root_14 ⟨Nat.zero_le _, Nat.zero_le _⟩ ?_
    exact kr_l hx hb hr hlocks hK hP hD hS ⟨rfl, Or.inr ⟨L, P, w0, ⟨hL, e1, e2, hp1, hp2, hp3⟩, hd, hW, rfl⟩⟩ dX1_root_17
  · refine lv_lconst (v := lN 0) hx hb dX1_root_8 (by decide) ?_
    refine lv_goto (tgt := 17) hx hb dX1_root_9 (by decide) ?_
    exact kr_l hx hb hr hlocks hK hP hD hS ⟨rfl, Or.inl ⟨r1, hr1, fun z => hc (by rw [z]; decide), rfl⟩⟩ dX1_root_17
end
section
/-! transform and constructor of the reference -/
set_option maxHeartbeats 4000000 in
set_option maxRecDepth 100000 in
theorem k_transform (l : Launch) (dC : Nat → ClassId) (dI : Nat → Nat → Nat) (h0 h1 h2 h3 sz : Nat) (cA cB cC : ClassId) (f g u : Nat → Int64) (k : Int32) (q1 q2 q3 : Int32) : Met l yX1_transform wsX1_transform ({ frames := 2, cells := 0, slots := 0, locals := 55 }) (kPre (dC, dI) [(cA, .long), (cB, .long), (cC, .long)] [.ref h0, .int q1, .int q2, .int q3] sz (w4 h0 h1 h2 h3 cA cB cC f g u k)) (kQi (dC, dI) [(cA, .long), (cB, .long), (cC, .long)] sz (w4 h0 h1 h2 h3 cA cB cC f g u k) (fun r w => (zrf q1 q2 r ∧ ¬ r = 0 ∧ w = w4 h0 h1 h2 h3 cA cB cC f g u k) ∨ (r = 0 ∧ ∃ L P w0 u2, zgo q1 q2 L P ∧ 2 ^ L ∣ P - 1 ∧ zW (2 ^ L) P w0 ∧ w = w4 h0 h1 h2 h3 cA cB cC (zT L P w0 q3 f) g u2 k))) 0 0 (va_A (w4 h0 h1 h2 h3 cA cB cC f g u k) sz) := by
  refine k_met (cc := cX1_transform) (maxL := 17) (ret := (some .int)) (by decide) rfl (Nat.le_of_ble_eq_true rfl) ?_
  intro p e s m below meth c ls hx hb hr hlocks hml hown hts hnm hK hP hD hS hA hl
  have hl : lv_has ls 17 [(0, .ref h0), (1, .int q1), (2, .int q2), (3, .int q3)] := hl
  have inws : ∀ w ∈ u_ws RX1 TX1 4, w ∈ wsX1_transform := by decide +kernel
  refine lv_iload_n hx hb dX1_transform_0 rfl (lv_at hl 1 rfl) ?_
  refine lv_iload_n hx hb dX1_transform_1 rfl (lv_at hl 2 rfl) ?_
  refine kc_i (As := [.int q1, .int q2]) (rest := []) ⟨hx, hb, hml, hown, hts⟩ (k_refused l q1 q2) (va_cwS 2 hts gX1_transform_X1_refused rfl rfl rfl (by decide +kernel) ⟨Nat.le_of_ble_eq_true rfl, Nat.le_of_ble_eq_true rfl⟩) rfl hl.1 rfl (Nat.le_of_ble_eq_true rfl) dX1_transform_2 ⟨Nat.zero_le _, Nat.zero_le _⟩ (fun r1 hr1 => ?_)
  refine lv_istore (lv' := [(4, .int (r1)), (0, .ref h0), (1, .int q1), (2, .int q2), (3, .int q3)]) hx hb dX1_transform_5 hl (by decide) rfl (fun ls hl => ?_)
  refine lv_iload hx hb dX1_transform_7 (lv_at hl 0 rfl) ?_
  refine lv_if_ge (tgt := 15) hx hb dX1_transform_9 (by decide) (fun hc => ?_) (fun hc => ?_)
  · obtain ⟨z, -⟩ | ⟨z, -⟩ | ⟨z, -⟩ | ⟨-, L, P, ⟨hL, e1, e2, hp1, hp2, hp3⟩, hd⟩ := hr1
    · exact absurd (z ▸ hc) (by decide)
    · exact absurd (z ▸ hc) (by decide)
    · exact absurd (z ▸ hc) (by decide)
    obtain ⟨w0, hW⟩ := zW_all hp1 hp3 hd
    have h2p := z_2pow hL
    have hNP := z_dvd_lt hp1 hd
    have hw0 := zW_lt hp1 hW
    rw [e1, e2] at hl
    have main : ∀ (w1 c0 : Nat), w1 < P → c0 < P → zem (2 ^ L) (fun k => zm P (w1 ^ k % P) (fun j => zrs P (f j)) (2 ^ L) * c0 % P) f = zT L P w0 q3 f → ∀ (n k0 : Nat), 2 ^ L + 1 ≤ k0 + n → k0 ≤ 2 ^ L → ∀ (H : Heap) (locs : List Loc), va_P (dC, dI) vwCl (w4 h0 h1 h2 h3 cA cB cC (zpt k0 (fun k => lN (zm P (w1 ^ k % P) (fun j => zrs P (f j)) (2 ^ L) * c0 % P)) f) g (zpt (2 ^ L) (fun j => lN (zrs P (f j))) u) k) H → va_D (va_A (w4 h0 h1 h2 h3 cA cB cC f g u k) sz) (w4 h0 h1 h2 h3 cA cB cC (zpt k0 (fun k => lN (zm P (w1 ^ k % P) (fun j => zrs P (f j)) (2 ^ L) * c0 % P)) f) g (zpt (2 ^ L) (fun j => lN (zrs P (f j))) u) k) → va_S (va_A (w4 h0 h1 h2 h3 cA cB cC f g u k) sz) s.heap H locs → ∀ (ls : Array Slot), lv_has ls 17 [(0, .ref h0), (1, .int (nI (2 ^ L))), (2, .int (nI P)), (5, .long (lN w1)), (7, .long (lN c0)), (9, .long (lN (w1 ^ k0 % P))), (11, .int (nI k0))] → W p l e ({ frames := 2, cells := 0, slots := 0, locals := 55 } : Room) s m ([.ref h0, .int q1, .int q2, .int q3] : List Value).toArray below meth c H locs 0 0 (MQ below (kQi (dC, dI) [(cA, .long), (cB, .long), (cC, .long)] sz (w4 h0 h1 h2 h3 cA cB cC f g u k) (fun r w => (zrf q1 q2 r ∧ ¬ r = 0 ∧ w = w4 h0 h1 h2 h3 cA cB cC f g u k) ∨ (r = 0 ∧ ∃ L P w0 u2, zgo q1 q2 L P ∧ 2 ^ L ∣ P - 1 ∧ zW (2 ^ L) P w0 ∧ w = w4 h0 h1 h2 h3 cA cB cC (zT L P w0 q3 f) g u2 k))) ([.ref h0, .int q1, .int q2, .int q3] : List Value).toArray s 0 0 (va_A (w4 h0 h1 h2 h3 cA cB cC f g u k) sz)) (F0 m 97 ls []) := by
      intro w1 c0 hw1 hc0 hfin n
      induction n with
      | zero => intro k0 y1 y2; exact absurd y1 (by omega)
      | succ n ih =>
        intro k0 y1 y2 H locs hP hD hS ls hl
        refine lv_iload hx hb dX1_transform_97 (lv_at hl 6 rfl) ?_
        refine lv_iload_n hx hb dX1_transform_99 rfl (lv_at hl 1 rfl) ?_
        refine lv_icmp_ge (tgt := 183) hx hb dX1_transform_100 (by decide) (fun hc2 => ?_) (fun hc2 => ?_)
        · have hk : k0 = 2 ^ L := by have := (nI_leI (by omega) (by omega)).mp hc2; omega
          rw [hk] at hP hD
          refine lv_iconst (v := (0 : Int32)) hx hb dX1_transform_183 (by decide) ?_
          refine kr_i hx hb hr hlocks hK hP hD hS (Or.inr ⟨rfl, L, P, w0, zpt (2 ^ L) (fun j => lN (zrs P (f j))) u, ⟨hL, e1, e2, hp1, hp2, hp3⟩, hd, hW, ?_⟩) dX1_transform_184
          exact congrArg (fun z => w4 h0 h1 h2 h3 cA cB cC z g (zpt (2 ^ L) (fun j => lN (zrs P (f j))) u) k) hfin
        · have hk : k0 < 2 ^ L := Nat.not_le.mp fun z => hc2 ((nI_leI (by omega) (by omega)).mpr z)
          have hst := Nat.mod_lt (w1 ^ k0) (show 0 < P by omega)
          refine lv_lconst (v := lN (zm P (w1 ^ k0 % P) (fun j => zrs P (f j)) 0)) hx hb dX1_transform_103 (rfl) ?_
          refine lv_lstore (lv' := [(12, .long (lN (zm P (w1 ^ k0 % P) (fun j => zrs P (f j)) 0))), (0, .ref h0), (1, .int (nI (2 ^ L))), (2, .int (nI P)), (5, .long (lN w1)), (7, .long (lN c0)), (9, .long (lN (w1 ^ k0 % P))), (11, .int (nI k0))]) hx hb dX1_transform_104 hl (by decide) rfl (fun ls hl => ?_)
          have e3 : lN 1 = lN ((w1 ^ k0 % P) ^ 0 % P) := by rw [Nat.pow_zero, Nat.mod_eq_of_lt (by omega)]
          refine lv_lconst (v := lN 1) hx hb dX1_transform_106 (by decide) ?_
          refine kt_l e3 ?_
          refine lv_lstore (lv' := [(14, .long (lN ((w1 ^ k0 % P) ^ 0 % P))), (12, .long (lN (zm P (w1 ^ k0 % P) (fun j => zrs P (f j)) 0))), (0, .ref h0), (1, .int (nI (2 ^ L))), (2, .int (nI P)), (5, .long (lN w1)), (7, .long (lN c0)), (9, .long (lN (w1 ^ k0 % P))), (11, .int (nI k0))]) hx hb dX1_transform_107 hl (by decide) rfl (fun ls hl => ?_)
          refine lv_iconst (v := nI 0) hx hb dX1_transform_109 (by decide) ?_
          refine lv_istore (lv' := [(16, .int (nI 0)), (14, .long (lN ((w1 ^ k0 % P) ^ 0 % P))), (12, .long (lN (zm P (w1 ^ k0 % P) (fun j => zrs P (f j)) 0))), (0, .ref h0), (1, .int (nI (2 ^ L))), (2, .int (nI P)), (5, .long (lN w1)), (7, .long (lN c0)), (9, .long (lN (w1 ^ k0 % P))), (11, .int (nI k0))]) hx hb dX1_transform_110 hl (by decide) rfl (fun ls hl => ?_)
          have inner : ∀ (n2 j : Nat), 2 ^ L + 1 ≤ j + n2 → j ≤ 2 ^ L → ∀ (H : Heap) (locs : List Loc), va_P (dC, dI) vwCl (w4 h0 h1 h2 h3 cA cB cC (zpt k0 (fun k => lN (zm P (w1 ^ k % P) (fun j => zrs P (f j)) (2 ^ L) * c0 % P)) f) g (zpt (2 ^ L) (fun j => lN (zrs P (f j))) u) k) H → va_D (va_A (w4 h0 h1 h2 h3 cA cB cC f g u k) sz) (w4 h0 h1 h2 h3 cA cB cC (zpt k0 (fun k => lN (zm P (w1 ^ k % P) (fun j => zrs P (f j)) (2 ^ L) * c0 % P)) f) g (zpt (2 ^ L) (fun j => lN (zrs P (f j))) u) k) → va_S (va_A (w4 h0 h1 h2 h3 cA cB cC f g u k) sz) s.heap H locs → ∀ (ls : Array Slot), lv_has ls 17 [(0, .ref h0), (1, .int (nI (2 ^ L))), (2, .int (nI P)), (5, .long (lN w1)), (7, .long (lN c0)), (9, .long (lN (w1 ^ k0 % P))), (11, .int (nI k0)), (12, .long (lN (zm P (w1 ^ k0 % P) (fun j => zrs P (f j)) j))), (14, .long (lN ((w1 ^ k0 % P) ^ j % P))), (16, .int (nI j))] → W p l e ({ frames := 2, cells := 0, slots := 0, locals := 55 } : Room) s m ([.ref h0, .int q1, .int q2, .int q3] : List Value).toArray below meth c H locs 0 0 (MQ below (kQi (dC, dI) [(cA, .long), (cB, .long), (cC, .long)] sz (w4 h0 h1 h2 h3 cA cB cC f g u k) (fun r w => (zrf q1 q2 r ∧ ¬ r = 0 ∧ w = w4 h0 h1 h2 h3 cA cB cC f g u k) ∨ (r = 0 ∧ ∃ L P w0 u2, zgo q1 q2 L P ∧ 2 ^ L ∣ P - 1 ∧ zW (2 ^ L) P w0 ∧ w = w4 h0 h1 h2 h3 cA cB cC (zT L P w0 q3 f) g u2 k))) ([.ref h0, .int q1, .int q2, .int q3] : List Value).toArray s 0 0 (va_A (w4 h0 h1 h2 h3 cA cB cC f g u k) sz)) (F0 m 112 ls []) := by
            intro n2
            induction n2 with
            | zero => intro j y3 y4; exact absurd y3 (by omega)
            | succ n2 ih2 =>
              intro j y3 y4 H locs hP hD hS ls hl
              refine lv_iload hx hb dX1_transform_112 (lv_at hl 9 rfl) ?_
              refine lv_iload_n hx hb dX1_transform_114 rfl (lv_at hl 1 rfl) ?_
              refine lv_icmp_ge (tgt := 152) hx hb dX1_transform_115 (by decide) (fun hc3 => ?_) (fun hc3 => ?_)
              · have hj : j = 2 ^ L := by have := (nI_leI (by omega) (by omega)).mp hc3; omega
                have hzl := zm_lt (P := P) (st := (w1 ^ k0 % P)) (a := (fun j => zrs P (f j))) (by omega) j
                refine lv_aload_n hx hb dX1_transform_152 rfl (lv_at hl 0 rfl) ?_
                refine va_get (D := (dC, dI)) (ci := 1) (v := .ref h1) (C := RX1) (T := TX1) (N := 4) hx hb hts inws hown hK hP 0 rfl rfl 0 (by decide) (hts (.fieldLink RX1 9 "ResidueTransformsModel" "row" "[J") (by decide +kernel)) (fun _ h9 => h9) rfl dX1_transform_153 ?_
                refine lv_iload hx hb dX1_transform_156 (lv_at hl 6 rfl) ?_
                refine lv_lload hx hb dX1_transform_158 (lv_at hl 7 rfl) ?_
                refine lv_lload hx hb dX1_transform_160 (lv_at hl 4 rfl) ?_
                refine lv_lmul hx hb dX1_transform_162 ?_
                refine lv_iload_n hx hb dX1_transform_163 rfl (lv_at hl 2 rfl) ?_
                refine lv_i2l (v := lN P) hx hb dX1_transform_164 (nI_l (by omega)) ?_
                refine lv_lrem hx hb dX1_transform_165 (zl_ne (by omega) (by omega)) ?_
                refine kt_l (v := lN (zm P (w1 ^ k0 % P) (fun j => zrs P (f j)) j * c0 % P)) (z_pr hp2 hzl hc0) ?_
                refine ka_st (w1 := w4 h0 h1 h2 h3 cA cB cC (zpt (k0 + 1) (fun k => lN (zm P (w1 ^ k % P) (fun j => zrs P (f j)) (2 ^ L) * c0 % P)) f) g (zpt (2 ^ L) (fun j => lN (zrs P (f j))) u) k) hx hb hK hP hD hS 1 0 rfl rfl (i := k0) (by omega) (by decide) dX1_transform_166 (congrArg (fun z => w4 h0 h1 h2 h3 cA cB cC z g (zpt (2 ^ L) (fun j => lN (zrs P (f j))) u) k) (zpt_up (by rw [hj]))) (fun H locs hP hD hS => ?_)
                refine lv_lload hx hb dX1_transform_167 (lv_at hl 5 rfl) ?_
                refine lv_lload hx hb dX1_transform_169 (lv_at hl 3 rfl) ?_
                refine lv_lmul hx hb dX1_transform_171 ?_
                refine lv_iload_n hx hb dX1_transform_172 rfl (lv_at hl 2 rfl) ?_
                refine lv_i2l (v := lN P) hx hb dX1_transform_173 (nI_l (by omega)) ?_
                refine lv_lrem hx hb dX1_transform_174 (zl_ne (by omega) (by omega)) ?_
                refine kt_l (v := lN (w1 ^ (k0 + 1) % P)) ((z_pr hp2 hst hw1).trans (congrArg lN (z_pw k0))) ?_
                refine lv_lstore (lv' := [(9, .long (lN (w1 ^ (k0 + 1) % P))), (0, .ref h0), (1, .int (nI (2 ^ L))), (2, .int (nI P)), (5, .long (lN w1)), (7, .long (lN c0)), (11, .int (nI k0)), (12, .long (lN (zm P (w1 ^ k0 % P) (fun j => zrs P (f j)) j))), (14, .long (lN ((w1 ^ k0 % P) ^ j % P))), (16, .int (nI j))]) hx hb dX1_transform_175 hl (by decide) rfl (fun ls hl => ?_)
                refine lv_iinc (v := nI (k0 + 1)) (lv' := [(11, .int (nI (k0 + 1))), (9, .long (lN (w1 ^ (k0 + 1) % P))), (0, .ref h0), (1, .int (nI (2 ^ L))), (2, .int (nI P)), (5, .long (lN w1)), (7, .long (lN c0)), (12, .long (lN (zm P (w1 ^ k0 % P) (fun j => zrs P (f j)) j))), (14, .long (lN ((w1 ^ k0 % P) ^ j % P))), (16, .int (nI j))]) hx hb dX1_transform_177 hl (k := 6) rfl (nI_1 k0) (by decide) rfl (fun ls hl => ?_)
                refine lv_goto (tgt := 97) hx hb dX1_transform_180 (by decide) ?_
                exact ih (k0 + 1) (by omega) (by omega) H locs hP hD hS ls (lv_sub hl [2, 3, 4, 5, 6, 1, 0] rfl)
              · have hj : j < 2 ^ L := Nat.not_le.mp fun z => hc3 ((nI_leI (by omega) (by omega)).mpr z)
                have hzl := zm_lt (P := P) (st := (w1 ^ k0 % P)) (a := (fun j => zrs P (f j))) (by omega) j
                have hby := Nat.mod_lt ((w1 ^ k0 % P) ^ j) (show 0 < P by omega)
                have har := zrs_lt (show 0 < P by omega) (f j)
                have hmm : zrs P (f j) * ((w1 ^ k0 % P) ^ j % P) ≤ 1000000007 * 1000000007 := Nat.mul_le_mul (by omega) (by omega)
                refine lv_lload hx hb dX1_transform_118 (lv_at hl 7 rfl) ?_
                refine lv_aload_n hx hb dX1_transform_120 rfl (lv_at hl 0 rfl) ?_
                refine va_get (D := (dC, dI)) (ci := 1) (v := .ref h3) (C := RX1) (T := TX1) (N := 4) hx hb hts inws hown hK hP 0 rfl rfl 2 (by decide) (hts (.fieldLink RX1 16 "ResidueTransformsModel" "work" "[J") (by decide +kernel)) (fun _ h9 => h9) rfl dX1_transform_121 ?_
                refine lv_iload hx hb dX1_transform_124 (lv_at hl 9 rfl) ?_
                refine ka_ld hx hb hK hP 3 2 rfl rfl (i := j) (by omega) (by decide) dX1_transform_126 ?_
                refine kt_l (v := lN (zrs P (f j))) (if_pos hj) ?_
                refine lv_lload hx hb dX1_transform_127 (lv_at hl 8 rfl) ?_
                refine lv_lmul hx hb dX1_transform_129 ?_
                refine kt_l (v := lN (zrs P (f j) * ((w1 ^ k0 % P) ^ j % P))) (lN_mul _ _) ?_
                refine lv_ladd hx hb dX1_transform_130 ?_
                refine kt_l (v := lN (zm P (w1 ^ k0 % P) (fun j => zrs P (f j)) j + zrs P (f j) * ((w1 ^ k0 % P) ^ j % P))) (lN_add _ _) ?_
                refine lv_iload_n hx hb dX1_transform_131 rfl (lv_at hl 2 rfl) ?_
                refine lv_i2l (v := lN P) hx hb dX1_transform_132 (nI_l (by omega)) ?_
                refine lv_lrem hx hb dX1_transform_133 (zl_ne (by omega) (by omega)) ?_
                refine kt_l (v := lN (zm P (w1 ^ k0 % P) (fun j => zrs P (f j)) (j + 1))) (pk_lRem (by omega) (by omega) (by omega)) ?_
                refine lv_lstore (lv' := [(12, .long (lN (zm P (w1 ^ k0 % P) (fun j => zrs P (f j)) (j + 1)))), (0, .ref h0), (1, .int (nI (2 ^ L))), (2, .int (nI P)), (5, .long (lN w1)), (7, .long (lN c0)), (9, .long (lN (w1 ^ k0 % P))), (11, .int (nI k0)), (14, .long (lN ((w1 ^ k0 % P) ^ j % P))), (16, .int (nI j))]) hx hb dX1_transform_134 hl (by decide) rfl (fun ls hl => ?_)
                refine lv_lload hx hb dX1_transform_136 (lv_at hl 8 rfl) ?_
                refine lv_lload hx hb dX1_transform_138 (lv_at hl 6 rfl) ?_
                refine lv_lmul hx hb dX1_transform_140 ?_
                refine lv_iload_n hx hb dX1_transform_141 rfl (lv_at hl 3 rfl) ?_
                refine lv_i2l (v := lN P) hx hb dX1_transform_142 (nI_l (by omega)) ?_
                refine lv_lrem hx hb dX1_transform_143 (zl_ne (by omega) (by omega)) ?_
                refine kt_l (v := lN ((w1 ^ k0 % P) ^ (j + 1) % P)) ((z_pr hp2 hby hst).trans (congrArg lN (z_pw j))) ?_
                refine lv_lstore (lv' := [(14, .long (lN ((w1 ^ k0 % P) ^ (j + 1) % P))), (12, .long (lN (zm P (w1 ^ k0 % P) (fun j => zrs P (f j)) (j + 1)))), (0, .ref h0), (1, .int (nI (2 ^ L))), (2, .int (nI P)), (5, .long (lN w1)), (7, .long (lN c0)), (9, .long (lN (w1 ^ k0 % P))), (11, .int (nI k0)), (16, .int (nI j))]) hx hb dX1_transform_144 hl (by decide) rfl (fun ls hl => ?_)
                refine lv_iinc (v := nI (j + 1)) (lv' := [(16, .int (nI (j + 1))), (14, .long (lN ((w1 ^ k0 % P) ^ (j + 1) % P))), (12, .long (lN (zm P (w1 ^ k0 % P) (fun j => zrs P (f j)) (j + 1)))), (0, .ref h0), (1, .int (nI (2 ^ L))), (2, .int (nI P)), (5, .long (lN w1)), (7, .long (lN c0)), (9, .long (lN (w1 ^ k0 % P))), (11, .int (nI k0))]) hx hb dX1_transform_146 hl (k := 9) rfl (nI_1 j) (by decide) rfl (fun ls hl => ?_)
                refine lv_goto (tgt := 112) hx hb dX1_transform_149 (by decide) ?_
                exact ih2 (j + 1) (by omega) (by omega) H locs hP hD hS ls (lv_sub hl [3, 4, 5, 6, 7, 8, 9, 2, 1, 0] rfl)
          exact inner (2 ^ L + 1) 0 (by omega) (by omega) H locs hP hD hS ls (lv_sub hl [3, 4, 5, 6, 7, 8, 9, 2, 1, 0] rfl)
    have fill : ∀ (w1 : Nat), w1 < P → ((q3 = 0 ∧ w1 = w0) ∨ (¬ q3 = 0 ∧ w1 = w0 ^ (P - 2) % P)) → ∀ (n i : Nat), 2 ^ L + 1 ≤ i + n → i ≤ 2 ^ L → ∀ (H : Heap) (locs : List Loc), va_P (dC, dI) vwCl (w4 h0 h1 h2 h3 cA cB cC f g (zpt i (fun j => lN (zrs P (f j))) u) k) H → va_D (va_A (w4 h0 h1 h2 h3 cA cB cC f g u k) sz) (w4 h0 h1 h2 h3 cA cB cC f g (zpt i (fun j => lN (zrs P (f j))) u) k) → va_S (va_A (w4 h0 h1 h2 h3 cA cB cC f g u k) sz) s.heap H locs → ∀ (ls : Array Slot), lv_has ls 17 [(0, .ref h0), (1, .int (nI (2 ^ L))), (2, .int (nI P)), (3, .int q3), (5, .long (lN w1)), (7, .int (nI i))] → W p l e ({ frames := 2, cells := 0, slots := 0, locals := 55 } : Room) s m ([.ref h0, .int q1, .int q2, .int q3] : List Value).toArray below meth c H locs 0 0 (MQ below (kQi (dC, dI) [(cA, .long), (cB, .long), (cC, .long)] sz (w4 h0 h1 h2 h3 cA cB cC f g u k) (fun r w => (zrf q1 q2 r ∧ ¬ r = 0 ∧ w = w4 h0 h1 h2 h3 cA cB cC f g u k) ∨ (r = 0 ∧ ∃ L P w0 u2, zgo q1 q2 L P ∧ 2 ^ L ∣ P - 1 ∧ zW (2 ^ L) P w0 ∧ w = w4 h0 h1 h2 h3 cA cB cC (zT L P w0 q3 f) g u2 k))) ([.ref h0, .int q1, .int q2, .int q3] : List Value).toArray s 0 0 (va_A (w4 h0 h1 h2 h3 cA cB cC f g u k) sz)) (F0 m 41 ls []) := by
      intro w1 hw1 hq n
      induction n with
      | zero => intro i y1 y2; exact absurd y1 (by omega)
      | succ n ih =>
        intro i y1 y2 H locs hP hD hS ls hl
        refine lv_iload hx hb dX1_transform_41 (lv_at hl 5 rfl) ?_
        refine lv_iload_n hx hb dX1_transform_43 rfl (lv_at hl 1 rfl) ?_
        refine lv_icmp_ge (tgt := 71) hx hb dX1_transform_44 (by decide) (fun hc2 => ?_) (fun hc2 => ?_)
        · have hi : i = 2 ^ L := by have := (nI_leI (by omega) (by omega)).mp hc2; omega
          rw [hi] at hP hD
          refine lv_iload_n hx hb dX1_transform_71 rfl (lv_at hl 3 rfl) ?_
          refine lv_if_eq (tgt := 88) hx hb dX1_transform_72 (by decide) (fun hc3 => ?_) (fun hc3 => ?_)
          · have hw : w1 = w0 := by
              rcases hq with ⟨-, z⟩ | ⟨z, -⟩
              · exact z
              · exact absurd hc3 z
            have hfin : zem (2 ^ L) (fun k => zm P (w1 ^ k % P) (fun j => zrs P (f j)) (2 ^ L) * 1 % P) f = zT L P w0 q3 f := by
              rw [hw]; unfold zT; rw [if_pos hc3]
            refine lv_lconst (v := lN 1) hx hb dX1_transform_88 (by decide) ?_
            refine lv_lstore (lv' := [(7, .long (lN 1)), (0, .ref h0), (1, .int (nI (2 ^ L))), (2, .int (nI P)), (3, .int q3), (5, .long (lN w1))]) hx hb dX1_transform_89 hl (by decide) rfl (fun ls hl => ?_)
            have e3 : lN 1 = lN (w1 ^ 0 % P) := by rw [Nat.pow_zero, Nat.mod_eq_of_lt (by omega)]
            refine lv_lconst (v := lN 1) hx hb dX1_transform_91 (by decide) ?_
            refine kt_l e3 ?_
            refine lv_lstore (lv' := [(9, .long (lN (w1 ^ 0 % P))), (7, .long (lN 1)), (0, .ref h0), (1, .int (nI (2 ^ L))), (2, .int (nI P)), (3, .int q3), (5, .long (lN w1))]) hx hb dX1_transform_92 hl (by decide) rfl (fun ls hl => ?_)
            refine lv_iconst (v := nI 0) hx hb dX1_transform_94 (by decide) ?_
            refine lv_istore (lv' := [(11, .int (nI 0)), (9, .long (lN (w1 ^ 0 % P))), (7, .long (lN 1)), (0, .ref h0), (1, .int (nI (2 ^ L))), (2, .int (nI P)), (3, .int q3), (5, .long (lN w1))]) hx hb dX1_transform_95 hl (by decide) rfl (fun ls hl => ?_)
            exact main w1 1 hw1 (by omega) hfin (2 ^ L + 1) 0 (by omega) (by omega) H locs (by rw [zpt_0]; exact hP) (by rw [zpt_0]; exact hD) hS ls (lv_sub hl [3, 4, 5, 7, 2, 1, 0] rfl)
          · have hw : w1 = w0 ^ (P - 2) % P := by
              rcases hq with ⟨z, -⟩ | ⟨-, z⟩
              · exact absurd z hc3
              · exact z
            have hfin : zem (2 ^ L) (fun k => zm P (w1 ^ k % P) (fun j => zrs P (f j)) (2 ^ L) * ((2 ^ L) ^ (P - 2) % P) % P) f = zT L P w0 q3 f := by
              rw [hw]; unfold zT; rw [if_neg hc3]
            refine lv_iload_n hx hb dX1_transform_75 rfl (lv_at hl 1 rfl) ?_
            refine lv_i2l (v := lN (2 ^ L)) hx hb dX1_transform_76 (nI_l (by omega)) ?_
            refine lv_iload_n hx hb dX1_transform_77 rfl (lv_at hl 2 rfl) ?_
            refine lv_iconst (v := nI 2) hx hb dX1_transform_78 (by decide) ?_
            refine lv_isub hx hb dX1_transform_79 ?_
            refine kt_i (v := nI (P - 2)) (pk_sub (by omega)) ?_
            refine lv_i2l (v := lN (P - 2)) hx hb dX1_transform_80 (nI_l (by omega)) ?_
            refine lv_iload_n hx hb dX1_transform_81 rfl (lv_at hl 2 rfl) ?_
            refine kc_lv (As := [.long (lN (2 ^ L)), .long (lN (P - 2)), .int (nI P)]) (rest := []) ⟨hx, hb, hml, hown, hts⟩ (k_power l (2 ^ L) (P - 2) P hp2 (by omega) (by omega) (by omega)) (va_cwS 3 hts gX1_transform_X1_power rfl rfl rfl (by decide +kernel) ⟨Nat.le_of_ble_eq_true rfl, Nat.le_of_ble_eq_true rfl⟩) rfl hl.1 rfl (Nat.le_of_ble_eq_true rfl) dX1_transform_82 ⟨Nat.zero_le _, Nat.zero_le _⟩ ?_
            refine lv_goto (tgt := 89) hx hb dX1_transform_85 (by decide) ?_
            refine lv_lstore (lv' := [(7, .long (lN ((2 ^ L) ^ (P - 2) % P))), (0, .ref h0), (1, .int (nI (2 ^ L))), (2, .int (nI P)), (3, .int q3), (5, .long (lN w1))]) hx hb dX1_transform_89 hl (by decide) rfl (fun ls hl => ?_)
            have e3 : lN 1 = lN (w1 ^ 0 % P) := by rw [Nat.pow_zero, Nat.mod_eq_of_lt (by omega)]
            refine lv_lconst (v := lN 1) hx hb dX1_transform_91 (by decide) ?_
            refine kt_l e3 ?_
            refine lv_lstore (lv' := [(9, .long (lN (w1 ^ 0 % P))), (7, .long (lN ((2 ^ L) ^ (P - 2) % P))), (0, .ref h0), (1, .int (nI (2 ^ L))), (2, .int (nI P)), (3, .int q3), (5, .long (lN w1))]) hx hb dX1_transform_92 hl (by decide) rfl (fun ls hl => ?_)
            refine lv_iconst (v := nI 0) hx hb dX1_transform_94 (by decide) ?_
            refine lv_istore (lv' := [(11, .int (nI 0)), (9, .long (lN (w1 ^ 0 % P))), (7, .long (lN ((2 ^ L) ^ (P - 2) % P))), (0, .ref h0), (1, .int (nI (2 ^ L))), (2, .int (nI P)), (3, .int q3), (5, .long (lN w1))]) hx hb dX1_transform_95 hl (by decide) rfl (fun ls hl => ?_)
            exact main w1 _ hw1 (Nat.mod_lt _ (by omega)) hfin (2 ^ L + 1) 0 (by omega) (by omega) H locs (by rw [zpt_0]; exact hP) (by rw [zpt_0]; exact hD) hS ls (lv_sub hl [3, 4, 5, 7, 2, 1, 0] rfl)
        · have hi : i < 2 ^ L := Nat.not_le.mp fun z => hc2 ((nI_leI (by omega) (by omega)).mpr z)
          refine lv_aload_n hx hb dX1_transform_47 rfl (lv_at hl 0 rfl) ?_
          refine va_get (D := (dC, dI)) (ci := 1) (v := .ref h3) (C := RX1) (T := TX1) (N := 4) hx hb hts inws hown hK hP 0 rfl rfl 2 (by decide) (hts (.fieldLink RX1 16 "ResidueTransformsModel" "work" "[J") (by decide +kernel)) (fun _ h9 => h9) rfl dX1_transform_48 ?_
          refine lv_iload hx hb dX1_transform_51 (lv_at hl 5 rfl) ?_
          refine lv_aload_n hx hb dX1_transform_53 rfl (lv_at hl 0 rfl) ?_
          refine va_get (D := (dC, dI)) (ci := 1) (v := .ref h1) (C := RX1) (T := TX1) (N := 4) hx hb hts inws hown hK hP 0 rfl rfl 0 (by decide) (hts (.fieldLink RX1 9 "ResidueTransformsModel" "row" "[J") (by decide +kernel)) (fun _ h9 => h9) rfl dX1_transform_54 ?_
          refine lv_iload hx hb dX1_transform_57 (lv_at hl 5 rfl) ?_
          refine ka_ld hx hb hK hP 1 0 rfl rfl (i := i) (by omega) (by decide) dX1_transform_59 ?_
          refine lv_iload_n hx hb dX1_transform_60 rfl (lv_at hl 2 rfl) ?_
          refine kc_lv (As := [.long (f (i)), .int (nI P)]) (rest := [.int (nI i), .ref h3]) ⟨hx, hb, hml, hown, hts⟩ (k_rest l (f i) P (by omega) (by omega)) (va_cwS 2 hts gX1_transform_X1_rest rfl rfl rfl (by decide +kernel) ⟨Nat.le_of_ble_eq_true rfl, Nat.le_of_ble_eq_true rfl⟩) rfl hl.1 rfl (Nat.le_of_ble_eq_true rfl) dX1_transform_61 ⟨Nat.zero_le _, Nat.zero_le _⟩ ?_
          refine ka_st (w1 := w4 h0 h1 h2 h3 cA cB cC f g (zpt (i + 1) (fun j => lN (zrs P (f j))) u) k) hx hb hK hP hD hS 3 2 rfl rfl (i := i) (by omega) (by decide) dX1_transform_64 (congrArg (fun z => w4 h0 h1 h2 h3 cA cB cC f g z k) (zpt_up rfl)) (fun H locs hP hD hS => ?_)
          refine lv_iinc (v := nI (i + 1)) (lv' := [(7, .int (nI (i + 1))), (0, .ref h0), (1, .int (nI (2 ^ L))), (2, .int (nI P)), (3, .int q3), (5, .long (lN w1))]) hx hb dX1_transform_65 hl (k := 5) rfl (nI_1 i) (by decide) rfl (fun ls hl => ?_)
          refine lv_goto (tgt := 41) hx hb dX1_transform_68 (by decide) ?_
          exact ih (i + 1) (by omega) (by omega) H locs hP hD hS ls (lv_sub hl [1, 2, 3, 4, 5, 0] rfl)
    refine lv_iload_n hx hb dX1_transform_15 rfl (lv_at hl 2 rfl) ?_
    refine lv_iload_n hx hb dX1_transform_16 rfl (lv_at hl 3 rfl) ?_
    refine kc_lv (As := [.int (nI (2 ^ L)), .int (nI P)]) (rest := []) ⟨hx, hb, hml, hown, hts⟩ (k_rootOf l (2 ^ L) P w0 hp2 hp1 (by omega) (by omega) hW) (va_cwS 2 hts gX1_transform_X1_rootOf rfl rfl rfl (by decide +kernel) ⟨Nat.le_of_ble_eq_true rfl, Nat.le_of_ble_eq_true rfl⟩) rfl hl.1 rfl (Nat.le_of_ble_eq_true rfl) dX1_transform_17 ⟨Nat.zero_le _, Nat.zero_le _⟩ ?_
    refine lv_lstore (lv' := [(5, .long (lN w0)), (4, .int r1), (0, .ref h0), (1, .int (nI (2 ^ L))), (2, .int (nI P)), (3, .int q3)]) hx hb dX1_transform_20 hl (by decide) rfl (fun ls hl => ?_)
    refine lv_iload_n hx hb dX1_transform_22 rfl (lv_at hl 5 rfl) ?_
    refine lv_if_eq (tgt := 38) hx hb dX1_transform_23 (by decide) (fun hc2 => ?_) (fun hc2 => ?_)
    · refine lv_iconst (v := nI 0) hx hb dX1_transform_38 (by decide) ?_
      refine lv_istore (lv' := [(7, .int (nI 0)), (5, .long (lN w0)), (4, .int r1), (0, .ref h0), (1, .int (nI (2 ^ L))), (2, .int (nI P)), (3, .int q3)]) hx hb dX1_transform_39 hl (by decide) rfl (fun ls hl => ?_)
      exact fill w0 hw0 (Or.inl ⟨hc2, rfl⟩) (2 ^ L + 1) 0 (by omega) (by omega) _ _ (by rw [zpt_0]; exact hP) (by rw [zpt_0]; exact hD) hS ls (lv_sub hl [3, 4, 5, 6, 1, 0] rfl)
    · refine lv_lload hx hb dX1_transform_26 (lv_at hl 0 rfl) ?_
      refine lv_iload_n hx hb dX1_transform_28 rfl (lv_at hl 4 rfl) ?_
      refine lv_iconst (v := nI 2) hx hb dX1_transform_29 (by decide) ?_
      refine lv_isub hx hb dX1_transform_30 ?_
      refine kt_i (v := nI (P - 2)) (pk_sub (by omega)) ?_
      refine lv_i2l (v := lN (P - 2)) hx hb dX1_transform_31 (nI_l (by omega)) ?_
      refine lv_iload_n hx hb dX1_transform_32 rfl (lv_at hl 4 rfl) ?_
      refine kc_lv (As := [.long (lN w0), .long (lN (P - 2)), .int (nI P)]) (rest := []) ⟨hx, hb, hml, hown, hts⟩ (k_power l w0 (P - 2) P hp2 (by omega) (by omega) (by omega)) (va_cwS 3 hts gX1_transform_X1_power rfl rfl rfl (by decide +kernel) ⟨Nat.le_of_ble_eq_true rfl, Nat.le_of_ble_eq_true rfl⟩) rfl hl.1 rfl (Nat.le_of_ble_eq_true rfl) dX1_transform_33 ⟨Nat.zero_le _, Nat.zero_le _⟩ ?_
      refine lv_lstore (lv' := [(5, .long (lN (w0 ^ (P - 2) % P))), (4, .int r1), (0, .ref h0), (1, .int (nI (2 ^ L))), (2, .int (nI P)), (3, .int q3)]) hx hb dX1_transform_36 hl (by decide) rfl (fun ls hl => ?_)
      refine lv_iconst (v := nI 0) hx hb dX1_transform_38 (by decide) ?_
      refine lv_istore (lv' := [(7, .int (nI 0)), (5, .long (lN (w0 ^ (P - 2) % P))), (4, .int r1), (0, .ref h0), (1, .int (nI (2 ^ L))), (2, .int (nI P)), (3, .int q3)]) hx hb dX1_transform_39 hl (by decide) rfl (fun ls hl => ?_)
      exact fill _ (Nat.mod_lt _ (by omega)) (Or.inr ⟨hc2, rfl⟩) (2 ^ L + 1) 0 (by omega) (by omega) _ _ (by rw [zpt_0]; exact hP) (by rw [zpt_0]; exact hD) hS ls (lv_sub hl [3, 4, 5, 6, 1, 0] rfl)
  · refine lv_iload hx hb dX1_transform_12 (lv_at hl 0 rfl) ?_
    exact kr_i hx hb hr hlocks hK hP hD hS (Or.inl ⟨hr1, fun z => hc (by rw [z]; decide), rfl⟩) dX1_transform_14
set_option maxHeartbeats 4000000 in
set_option maxRecDepth 100000 in
theorem k_init (l : Launch) (dC : Nat → ClassId) (dI : Nat → Nat → Nat) (h0 sz : Nat) : Met l yX1_init wsX1_init ({ frames := 1, cells := 3, slots := 3072, locals := 20 }) (kPre (dC, dI) [] [.ref h0] sz ([(h0, .inr (1, [.null, .null, .null, .int 0]))])) (va_Qv (fun _ : Nat × Nat × Nat × ClassId × ClassId × ClassId => True) (fun (u : Nat × Nat × Nat × ClassId × ClassId × ClassId) t => match u with | (h1, h2, h3, cA, cB, cC) => kAt (dC, dI) [(cA, .long), (cB, .long), (cC, .long)] sz ([(h0, .inr (1, [.null, .null, .null, .int 0]))]) (w4 h0 h1 h2 h3 cA cB cC (fun _ => 0) (fun _ => 0) (fun _ => 0) 0) t) (va_A ([(h0, .inr (1, [.null, .null, .null, .int 0]))]) sz)) 3 3072 (va_A ([(h0, .inr (1, [.null, .null, .null, .int 0]))]) sz) := by
  refine k_met (cc := cX1_init) (maxL := 1) (ret := none) (by decide) rfl (Nat.le_of_ble_eq_true rfl) ?_
  intro p e s m below meth c ls hx hb hr hlocks hml hown hts hnm hK hP hD hS hA hl
  have hl : lv_has ls 1 [(0, .ref h0)] := hl
  have inws : ∀ w ∈ u_ws RX1 TX1 4, w ∈ wsX1_init := by decide +kernel
  have hin : meth.name = "<init>" := hnm
  refine lv_aload_n hx hb dX1_init_0 rfl (lv_at hl 0 rfl) ?_
  refine W.objInit hx hb hown (hts (.methodLink RX1 1 objectInit) (by decide +kernel)) (hts (.instanceMethod objectInit) (by decide +kernel)) (hts _ (List.mem_cons_of_mem _ (List.mem_append_left _ (List.mem_of_getElem? (i := 2) rfl)))) rfl (by rw [hml]; exact hl.1) rfl dX1_init_1 (Nat.le_of_ble_eq_true rfl) (Nat.le_of_ble_eq_true rfl) ?_
  refine W.eq (g2 := F0 m 4 ls []) rfl ?_
  refine lv_aload_n hx hb dX1_init_4 rfl (lv_at hl 0 rfl) ?_
  refine lv_sipush (v := nI 1024) hx hb dX1_init_5 (by decide) ?_
  refine va_newa (atype := .long) (ty := .long) (a0 := (1024, .inr (.inl (fun _ => 0)))) (N' := 1024) hx hb (hts (.arrayClass .long) (by decide +kernel)) rfl hK hP hD hS hA (fun _ => rfl) (nI_pos (by decide)) (nI_clamp (by decide)) (by decide) (Nat.le_of_ble_eq_true rfl) (Nat.le_of_ble_eq_true rfl) dX1_init_8 (fun h1 cA H hK hP hD hS => ?_)
  have hK : va_K (dC, dI) vwCl [(cA, .long)] s := hK
  have hP : va_P (dC, dI) vwCl [(h0, .inr (1, [.null, .null, .null, .int 0])), (h1, .inl (cA, 1024, .inr (.inl (fun _ => 0))))] H := hP
  have hD : va_D (va_A ([(h0, .inr (1, [.null, .null, .null, .int 0]))]) sz) [(h0, .inr (1, [.null, .null, .null, .int 0])), (h1, .inl (cA, 1024, .inr (.inl (fun _ => 0))))] := hD
  refine W.widen (k := 1) (n := 1024) (by omega) (by omega) ?_
  refine va_putF (D := (dC, dI)) (ci := 1) (v := .ref h1) (ty := .array .long) (C := RX1) (T := TX1) (N := 4) hx hb hts inws tyX1 tyX1_ok nmX1 hown hK hP hD hS 0 rfl rfl 0 (by decide) (hts (.fieldLink RX1 9 "ResidueTransformsModel" "row" "[J") (by decide +kernel)) (fun _ h9 => h9) rfl hin rfl (by decide +kernel) rfl rfl (Nat.le_of_ble_eq_true rfl) dX1_init_10 (fun H locs hP hD hS => ?_)
  have hP : va_P (dC, dI) vwCl [(h0, .inr (1, [.ref h1, .null, .null, .int 0])), (h1, .inl (cA, 1024, .inr (.inl (fun _ => 0))))] H := hP
  have hD : va_D (va_A ([(h0, .inr (1, [.null, .null, .null, .int 0]))]) sz) [(h0, .inr (1, [.ref h1, .null, .null, .int 0])), (h1, .inl (cA, 1024, .inr (.inl (fun _ => 0))))] := hD
  refine lv_aload_n hx hb dX1_init_13 rfl (lv_at hl 0 rfl) ?_
  refine lv_sipush (v := nI 1024) hx hb dX1_init_14 (by decide) ?_
  refine va_newa (atype := .long) (ty := .long) (a0 := (1024, .inr (.inl (fun _ => 0)))) (N' := 1024) hx hb (hts (.arrayClass .long) (by decide +kernel)) rfl hK hP hD hS hA (fun _ => rfl) (nI_pos (by decide)) (nI_clamp (by decide)) (by decide) (Nat.le_of_ble_eq_true rfl) (Nat.le_of_ble_eq_true rfl) dX1_init_17 (fun h2 cB H hK hP hD hS => ?_)
  have hK : va_K (dC, dI) vwCl [(cA, .long), (cB, .long)] s := hK
  have hP : va_P (dC, dI) vwCl [(h0, .inr (1, [.ref h1, .null, .null, .int 0])), (h1, .inl (cA, 1024, .inr (.inl (fun _ => 0)))), (h2, .inl (cB, 1024, .inr (.inl (fun _ => 0))))] H := hP
  have hD : va_D (va_A ([(h0, .inr (1, [.null, .null, .null, .int 0]))]) sz) [(h0, .inr (1, [.ref h1, .null, .null, .int 0])), (h1, .inl (cA, 1024, .inr (.inl (fun _ => 0)))), (h2, .inl (cB, 1024, .inr (.inl (fun _ => 0))))] := hD
  refine W.widen (k := 2) (n := 2048) (by omega) (by omega) ?_
  refine va_putF (D := (dC, dI)) (ci := 1) (v := .ref h2) (ty := .array .long) (C := RX1) (T := TX1) (N := 4) hx hb hts inws tyX1 tyX1_ok nmX1 hown hK hP hD hS 0 rfl rfl 1 (by decide) (hts (.fieldLink RX1 13 "ResidueTransformsModel" "kept" "[J") (by decide +kernel)) (fun _ h9 => h9) rfl hin rfl (by decide +kernel) rfl rfl (Nat.le_of_ble_eq_true rfl) dX1_init_19 (fun H locs hP hD hS => ?_)
  have hP : va_P (dC, dI) vwCl [(h0, .inr (1, [.ref h1, .ref h2, .null, .int 0])), (h1, .inl (cA, 1024, .inr (.inl (fun _ => 0)))), (h2, .inl (cB, 1024, .inr (.inl (fun _ => 0))))] H := hP
  have hD : va_D (va_A ([(h0, .inr (1, [.null, .null, .null, .int 0]))]) sz) [(h0, .inr (1, [.ref h1, .ref h2, .null, .int 0])), (h1, .inl (cA, 1024, .inr (.inl (fun _ => 0)))), (h2, .inl (cB, 1024, .inr (.inl (fun _ => 0))))] := hD
  refine lv_aload_n hx hb dX1_init_22 rfl (lv_at hl 0 rfl) ?_
  refine lv_sipush (v := nI 1024) hx hb dX1_init_23 (by decide) ?_
  refine va_newa (atype := .long) (ty := .long) (a0 := (1024, .inr (.inl (fun _ => 0)))) (N' := 1024) hx hb (hts (.arrayClass .long) (by decide +kernel)) rfl hK hP hD hS hA (fun _ => rfl) (nI_pos (by decide)) (nI_clamp (by decide)) (by decide) (Nat.le_of_ble_eq_true rfl) (Nat.le_of_ble_eq_true rfl) dX1_init_26 (fun h3 cC H hK hP hD hS => ?_)
  have hK : va_K (dC, dI) vwCl [(cA, .long), (cB, .long), (cC, .long)] s := hK
  have hP : va_P (dC, dI) vwCl [(h0, .inr (1, [.ref h1, .ref h2, .null, .int 0])), (h1, .inl (cA, 1024, .inr (.inl (fun _ => 0)))), (h2, .inl (cB, 1024, .inr (.inl (fun _ => 0)))), (h3, .inl (cC, 1024, .inr (.inl (fun _ => 0))))] H := hP
  have hD : va_D (va_A ([(h0, .inr (1, [.null, .null, .null, .int 0]))]) sz) [(h0, .inr (1, [.ref h1, .ref h2, .null, .int 0])), (h1, .inl (cA, 1024, .inr (.inl (fun _ => 0)))), (h2, .inl (cB, 1024, .inr (.inl (fun _ => 0)))), (h3, .inl (cC, 1024, .inr (.inl (fun _ => 0))))] := hD
  refine W.widen (k := 3) (n := 3072) (by omega) (by omega) ?_
  refine va_putF (D := (dC, dI)) (ci := 1) (v := .ref h3) (ty := .array .long) (C := RX1) (T := TX1) (N := 4) hx hb hts inws tyX1 tyX1_ok nmX1 hown hK hP hD hS 0 rfl rfl 2 (by decide) (hts (.fieldLink RX1 16 "ResidueTransformsModel" "work" "[J") (by decide +kernel)) (fun _ h9 => h9) rfl hin rfl (by decide +kernel) rfl rfl (Nat.le_of_ble_eq_true rfl) dX1_init_28 (fun H locs hP hD hS => ?_)
  have hP : va_P (dC, dI) vwCl [(h0, .inr (1, [.ref h1, .ref h2, .ref h3, .int 0])), (h1, .inl (cA, 1024, .inr (.inl (fun _ => 0)))), (h2, .inl (cB, 1024, .inr (.inl (fun _ => 0)))), (h3, .inl (cC, 1024, .inr (.inl (fun _ => 0))))] H := hP
  have hD : va_D (va_A ([(h0, .inr (1, [.null, .null, .null, .int 0]))]) sz) [(h0, .inr (1, [.ref h1, .ref h2, .ref h3, .int 0])), (h1, .inl (cA, 1024, .inr (.inl (fun _ => 0)))), (h2, .inl (cB, 1024, .inr (.inl (fun _ => 0)))), (h3, .inl (cC, 1024, .inr (.inl (fun _ => 0))))] := hD
  exact W.vret hx hb hr (fun t ht hW => ⟨⟨(h1, h2, h3, cA, cB, cC), rfl, trivial, by rw [ht]; exact hP, va_K.moved hW.alike hK, hD⟩, hS.F ht⟩) hS.2.2 dX1_init_31
end
section
/-! what the law needs of both answers, and the law's own rows -/
def zrel (g g' : Nat → Int64) (ks : Nat) : Prop := ∀ j, g j = if j < ks then g' j else lN 0
abbrev wX (x0 x1 x2 : Nat) (cA cB : ClassId) (m0 m1 m2 m3 : Nat) (cC cD cE : ClassId) (f g f' g' u : Nat → Int64) (k : Int32) : va_W := [(x0, .inr (0, [.ref x1, .ref x2])), (x1, .inl (cA, 1024, .inr (.inl f))), (x2, .inl (cB, 1024, .inr (.inl g))), (m0, .inr (1, [.ref m1, .ref m2, .ref m3, .int k])), (m1, .inl (cC, 1024, .inr (.inl f'))), (m2, .inl (cD, 1024, .inr (.inl g'))), (m3, .inl (cE, 1024, .inr (.inl u)))]
abbrev wM (x0 x1 x2 : Nat) (cA cB : ClassId) (m0 m1 m2 m3 : Nat) (cC cD cE : ClassId) (f g f' g' u : Nat → Int64) (k : Int32) : va_W := [(m0, .inr (1, [.ref m1, .ref m2, .ref m3, .int k])), (m1, .inl (cC, 1024, .inr (.inl f'))), (m2, .inl (cD, 1024, .inr (.inl g'))), (m3, .inl (cE, 1024, .inr (.inl u))), (x0, .inr (0, [.ref x1, .ref x2])), (x1, .inl (cA, 1024, .inr (.inl f))), (x2, .inl (cB, 1024, .inr (.inl g)))]
/-- put -/
def oP (f g : Nat → Int64) (q : Int32) (v : Int64) (r : Int32) (f2 g2 : Nat → Int64) : Prop := g2 = g ∧ ((r = 1 ∧ ∃ j, j < 1024 ∧ q = nI j ∧ f2 = vp_updL f j v) ∨ (r = 0 ∧ (¬ ∃ j, j < 1024 ∧ q = nI j) ∧ f2 = f))
theorem nI_inj {a b : Nat} (ha : a < 2 ^ 31) (hb : b < 2 ^ 31) {q : Int32} (h1 : q = nI a) (h2 : q = nI b) : a = b := (nI_eq ha hb).mp (h1.symm.trans h2)
theorem oP_un {f g g' : Nat → Int64} {q : Int32} {v : Int64} {r r' : Int32} {f2 g2 f3 g3 : Nat → Int64} (h : oP f g q v r f2 g2) (k : oP f g' q v r' f3 g3) : r = r' ∧ f2 = f3 := by
  obtain ⟨-, h⟩ := h
  obtain ⟨-, k⟩ := k
  rcases h with ⟨rfl, j, hj, e, rfl⟩ | ⟨rfl, hn, rfl⟩ <;> rcases k with ⟨rfl, j', hj', e', rfl⟩ | ⟨rfl, hn', rfl⟩
  · have := nI_inj (by omega) (by omega) e e'
    subst this
    exact ⟨rfl, rfl⟩
  · exact absurd ⟨j, hj, e⟩ hn'
  · exact absurd ⟨j', hj', e'⟩ hn
  · exact ⟨rfl, rfl⟩
/-- get -/
def oG (f : Nat → Int64) (q : Int32) (r : Int64) : Prop := (∃ j, j < 1024 ∧ q = nI j ∧ r = f j) ∨ ((¬ ∃ j, j < 1024 ∧ q = nI j) ∧ r = lN 0)
theorem oG_un {f : Nat → Int64} {q : Int32} {r r' : Int64} (h : oG f q r) (k : oG f q r') : r = r' := by
  rcases h with ⟨j, hj, e, rfl⟩ | ⟨hn, rfl⟩ <;> rcases k with ⟨j', hj', e', rfl⟩ | ⟨hn', rfl⟩
  · have := nI_inj (by omega) (by omega) e e'
    subst this
    rfl
  · exact absurd ⟨j, hj, e⟩ hn'
  · exact absurd ⟨j', hj', e'⟩ hn
  · rfl
/-- root -/
def oR (q1 q2 : Int32) (r : Int64) : Prop := (∃ z, zrf q1 q2 z ∧ ¬ z = 0 ∧ r = lN 0) ∨ (∃ L P w0, zgo q1 q2 L P ∧ 2 ^ L ∣ P - 1 ∧ zW (2 ^ L) P w0 ∧ r = lN w0)
theorem zgo_un {q1 q2 : Int32} {L P L' P' : Nat} (h : zgo q1 q2 L P) (k : zgo q1 q2 L' P') : L = L' ∧ P = P' := by
  obtain ⟨a1, a2, a3, a4, a5, a6⟩ := h
  obtain ⟨b1, b2, b3, b4, b5, b6⟩ := k
  have x1 := z_2pow a1
  have x2 := z_2pow b1
  refine ⟨?_, nI_inj (by omega) (by omega) a3 b3⟩
  have e := nI_inj (by omega) (by omega) a2 b2
  rcases Nat.lt_trichotomy L L' with c | c | c
  · have := Nat.pow_lt_pow_right (a := 2) (by omega) c; omega
  · exact c
  · have := Nat.pow_lt_pow_right (a := 2) (by omega) c; omega
theorem zgo_0 {q1 q2 : Int32} {L P : Nat} (h : zgo q1 q2 L P) (hd : 2 ^ L ∣ P - 1) : zrf q1 q2 0 := Or.inr (Or.inr (Or.inr ⟨rfl, L, P, h, hd⟩))
theorem oR_un {q1 q2 : Int32} {r r' : Int64} (h : oR q1 q2 r) (k : oR q1 q2 r') : r = r' := by
  rcases h with ⟨z, h1, h2, rfl⟩ | ⟨L, P, w0, h1, h2, h3, rfl⟩ <;> rcases k with ⟨z', k1, k2, rfl⟩ | ⟨L', P', w0', k1, k2, k3, rfl⟩
  · rfl
  · exact absurd (zrf_un h1 (zgo_0 k1 k2)) h2
  · exact absurd (zrf_un k1 (zgo_0 h1 h2)) k2
  · obtain ⟨rfl, rfl⟩ := zgo_un h1 k1
    rw [zW_un h3 k3]
/-- transform -/
def oT (f : Nat → Int64) (q1 q2 q3 r : Int32) (f2 : Nat → Int64) : Prop := (zrf q1 q2 r ∧ ¬ r = 0 ∧ f2 = f) ∨ (r = 0 ∧ ∃ L P w0, zgo q1 q2 L P ∧ 2 ^ L ∣ P - 1 ∧ zW (2 ^ L) P w0 ∧ f2 = zT L P w0 q3 f)
theorem oT_un {f : Nat → Int64} {q1 q2 q3 r r' : Int32} {f2 f3 : Nat → Int64} (h : oT f q1 q2 q3 r f2) (k : oT f q1 q2 q3 r' f3) : r = r' ∧ f2 = f3 := by
  rcases h with ⟨h1, h2, rfl⟩ | ⟨rfl, L, P, w0, h1, h2, h3, rfl⟩ <;> rcases k with ⟨k1, k2, rfl⟩ | ⟨rfl, L', P', w0', k1, k2, k3, rfl⟩
  · exact ⟨zrf_un h1 k1, rfl⟩
  · exact absurd (zrf_un h1 (zgo_0 k1 k2)) h2
  · exact absurd (zrf_un k1 (zgo_0 h1 h2)) k2
  · obtain ⟨rfl, rfl⟩ := zgo_un h1 k1
    rw [zW_un h3 k3]
    exact ⟨rfl, rfl⟩
/-- keep -/
theorem zrel_keep {f g g' : Nat → Int64} {ks j : Nat} (hks : ks ≤ 1024) (hj : j ≤ 1024) (h : zrel g g' ks) : zrel (zpt 1024 (fun t => if t < j then f t else lN 0) g) (zpt j f g') j := by
  intro t
  unfold zpt
  by_cases c : t < 1024
  · by_cases d : t < j
    · simp [c, d]
    · simp [c, d]
  · have d : ¬ t < j := by omega
    have d2 : ¬ t < ks := by omega
    rw [if_neg c, if_neg d, h t, if_neg d2]
/-- times -/
theorem zrs_0 {P : Nat} (h : 0 < P) : zrs P (lN 0) = 0 := by
  unfold zrs
  have : (lN 0).toInt = 0 := by decide
  rw [this]; simp
theorem zrel_times {f g g' : Nat → Int64} {ks P : Nat} (hP : 0 < P) (h : zrel g g' ks) : (fun t => lN (zrs P (f t) * zrs P (g t) % P)) = (fun t => if t < ks then lN (zrs P (f t) * zrs P (g' t) % P) else lN 0) := by
  funext t
  rw [h t]
  by_cases c : t < ks
  · rw [if_pos c, if_pos c]
  · rw [if_neg c, if_neg c, zrs_0 hP, Nat.mul_zero, Nat.zero_mod]
section LW
variable {p : Program} {l : Launch} {e : Env} {R : Room} {s : State} {m : MethodId} {args : Array Value} {below : List Frame} {meth : Method} {c : Code} {H : Heap} {locs : List Loc} {cells slots : Nat} {Q : State → Prop}
variable {cc : ByteArray} {pc : Nat} {ls : Array Slot} {rest : List Value} {A : Nat → Prop} {H0 : Heap}
theorem ks_ld (hx : p.tables.exec = Jvm.exec) (hb : c.code = cc) {b L : Nat} {xs : Nat → Int32} (hX : va_X b L xs s H0) (hbl : b < H0.size) (hbA : ¬ A b) (hS : va_S A H0 H locs) {i : Nat} (hi : i < L) (hL : L < 2 ^ 31) (hdg : decode cc pc = .ok (.iaload, 1))
    (kk : W p l e R s m args below meth c H locs cells slots Q (F0 m (pc + 1) ls (.int (xs i) :: rest))) : W p l e R s m args below meth c H locs cells slots Q (F0 m pc ls (.int (nI i) :: .ref b :: rest)) :=
  va_sld hx hb hX hbl hbA hS (vp_in_nI hi hL) hdg (by rw [nI_clamp (by omega)]; exact kk)
end LW
/-! THE CLAIM OUT OF ONE WALK OF THE LAW'S BODY. Your part is whole_start (and what it stands on); all else here is the same for every law, but numbers. -/
def R_law : String := "ResidueTransformsLaw"
def lw_P (b : Addr) (xs : List Int32) (args : Array Value) (s : State) : Prop := args = #[.ref b] ∧ s.IntsAt b xs ∧ xs.length ≤ 2048 ∧ (Jvm.Cond.and given_1 narrow_1).before args s = true
def lw_Q (_ : Array Value) (s : State) (o : Outcome) (t : State) : Prop := o = .returned (some (.int 1)) ∧ Framed s o t [] 7 5126
def lw_Z (below : List Frame) (a : Array Value) (s : State) : State → Prop := fun t => ∃ o, t.status = .running ∧ Ended t below o ∧ lw_Q a s o t
/-- the law's own end, with 1 on the stack, nothing written that was there before, its room as the claim has it -/
theorem lw_ret {p : Program} {l : Launch} {e : Env} {s : State} {m : MethodId} {below : List Frame} {meth : Method} {c : Code} {b : Nat} (hx : p.tables.exec = Jvm.exec) (hb : c.code = code) (hr : meth.sig.returnType = ret) (hlocks : meth.locks = false) {pc : Nat} {H : Heap} {ls : Array Slot} (hdg : decode code pc = .ok (.ireturn, 1)) : W p l e room_1 s m #[Value.ref b] below meth c H [] 7 5126 (lw_Z below #[Value.ref b] s) (F0 m pc ls [.int 1]) := by
  intro T hT X
  obtain ⟨fs, hret, hrun, hended, hW, hframe⟩ := X.leave (v := some (.int 1)) (hlocks := hlocks) (fun h => by rw [hr] at h; cases h)
  have hmeth' : T.vm.method? m = some meth := X.method'
  refine ⟨T.setFrames fs, ?_, .returned (some (.int 1)), hrun, hended, rfl, ⟨_, rfl⟩, hW, hframe⟩
  jvm_step X.here [X.here.top, hx, hb, hdg, hmeth', hr, ret, narrow_b1]
  (try refine ⟨rfl, ?_⟩); (try refine ⟨rfl, ?_⟩)
  first | (intro acts; rw [hret _ acts rfl rfl rfl]) | rw [hret _ _ rfl rfl rfl]
  exact Steps.refl _
/-- what holds at the law's entry: the machine, the code, the tables' words (any of lw_tbl by 'hts w (by decide +kernel)'), the script of L ints xs at the cell b, what the Statement gives of the start (any of its parts by flat_of_before) -/
def lw_At (p : Program) (s : State) (m : MethodId) (meth : Method) (c : Code) (b L : Nat) (xs : Nat → Int32) : Prop :=
  p.tables.exec = Jvm.exec ∧ c.code = code ∧ meth.sig.returnType = ret ∧ c.maxLocals = 4 ∧ s.vm.findClass R_law = some m.cls ∧ (∀ w ∈ lw_tbl, w.before #[Value.ref b] s = true) ∧ va_X b L xs s s.heap ∧ b < s.heap.size ∧ meth.locks = false ∧ (Jvm.Cond.and given_1 narrow_1).before #[Value.ref b] s = true
set_option maxHeartbeats 4000000 in
set_option maxRecDepth 100000 in
theorem law_put {p : Program} {l : Launch} {e : Env} {s : State} {m : MethodId} {below : List Frame} {meth : Method} {c : Code} {dC : Nat → ClassId} {dI : Nat → Nat → Nat} {b L : Nat} {xs : Nat → Int32} {x0 x1 x2 m0 m1 m2 m3 : Nat} {cA cB cC cD cE : ClassId} (hL : L ≤ 2048) (C0 : lw_At p s m meth c b L xs) (hK : va_K (dC, dI) vwCl [(cA, .long), (cB, .long), (cC, .long), (cD, .long), (cE, .long)] s) {i : Nat} (hi : i + 4 ≤ L) (tail : ∀ (f g g' u : Nat → Int64) (ks : Nat), ks ≤ 1024 → zrel g g' ks → ∀ (H : Heap) (locs : List Loc), va_P (dC, dI) vwCl (wX x0 x1 x2 cA cB m0 m1 m2 m3 cC cD cE f g f g' u (nI ks)) H → va_D (fun q : Nat => s.heap.size ≤ q) (wX x0 x1 x2 cA cB m0 m1 m2 m3 cC cD cE f g f g' u (nI ks)) → va_S (fun q : Nat => s.heap.size ≤ q) s.heap H locs → ∀ (ls : Array Slot), lv_has ls 4 [(0, .ref b), (1, .ref x0), (2, .ref m0), (3, .int (nI i))] → W p l e room_1 s m #[Value.ref b] below meth c H locs 7 5126 (lw_Z below #[Value.ref b] s) (F0 m 308 ls [])) (f g g' u : Nat → Int64) (ks : Nat) (hks : ks ≤ 1024) (hrel : zrel g g' ks) (H : Heap) (locs : List Loc) (hP : va_P (dC, dI) vwCl (wX x0 x1 x2 cA cB m0 m1 m2 m3 cC cD cE f g f g' u (nI ks)) H) (hD : va_D (fun q : Nat => s.heap.size ≤ q) (wX x0 x1 x2 cA cB m0 m1 m2 m3 cC cD cE f g f g' u (nI ks))) (hS : va_S (fun q : Nat => s.heap.size ≤ q) s.heap H locs) (ls : Array Slot) (hl : lv_has ls 4 [(0, .ref b), (1, .ref x0), (2, .ref m0), (3, .int (nI i))]) : W p l e room_1 s m #[Value.ref b] below meth c H locs 7 5126 (lw_Z below #[Value.ref b] s) (F0 m 72 ls []) := by
  obtain ⟨hx, hb, hr, hml, hown, hts, hX, hbl, hlocks, hgv⟩ := C0
  have hown : s.vm.findClass RL = some m.cls := hown
  have hts : ∀ w ∈ wsL_law, w.before #[Value.ref b] s = true := fun w h => hts w (wsL_law_in w h)
  have hA : ∀ q : Nat, s.heap.size ≤ q → (fun q : Nat => s.heap.size ≤ q) q := fun _ h => h
  have hbA : ¬ (fun q : Nat => s.heap.size ≤ q) b := Nat.not_le.mpr hbl
  have hKx : va_K (dC, dI) vwCl [(cA, .long), (cB, .long)] s := hK.sub (tys' := [(cA, .long), (cB, .long)]) [0, 1] rfl
  have hKm : va_K (dC, dI) vwCl [(cC, .long), (cD, .long), (cE, .long)] s := hK.sub (tys' := [(cC, .long), (cD, .long), (cE, .long)]) [2, 3, 4] rfl
  refine lv_aload_n hx hb dL_law_72 rfl (lv_at hl 1 rfl) ?_
  refine lv_aload_n hx hb dL_law_73 rfl (lv_at hl 0 rfl) ?_
  refine lv_iload_n hx hb dL_law_74 rfl (lv_at hl 3 rfl) ?_
  refine lv_iconst (v := (1 : Int32)) hx hb dL_law_75 (by decide) ?_
  refine lv_iadd hx hb dL_law_76 ?_
  refine kt_i (v := nI (i + 1)) (nI_add i 1) ?_
  refine ks_ld hx hb hX hbl hbA hS (i := i + 1) (by omega) (by omega) dL_law_77 ?_
  refine lv_aload_n hx hb dL_law_78 rfl (lv_at hl 0 rfl) ?_
  refine lv_iload_n hx hb dL_law_79 rfl (lv_at hl 3 rfl) ?_
  refine lv_iconst (v := (2 : Int32)) hx hb dL_law_80 (by decide) ?_
  refine lv_iadd hx hb dL_law_81 ?_
  refine kt_i (v := nI (i + 2)) (nI_add i 2) ?_
  refine ks_ld hx hb hX hbl hbA hS (i := i + 2) (by omega) (by omega) dL_law_82 ?_
  refine lv_i2l (v := ((xs (i + 2))).toInt64) hx hb dL_law_83 (rfl) ?_
  refine lv_bipush (v := (32 : Int32)) hx hb dL_law_84 (by decide) ?_
  refine lv_lshl (v := ((((xs (i + 2))).toInt64)) <<< (((32 : Int32)).toInt64 &&& 63)) hx hb dL_law_86 rfl ?_
  refine lv_aload_n hx hb dL_law_87 rfl (lv_at hl 0 rfl) ?_
  refine lv_iload_n hx hb dL_law_88 rfl (lv_at hl 3 rfl) ?_
  refine lv_iconst (v := (3 : Int32)) hx hb dL_law_89 (by decide) ?_
  refine lv_iadd hx hb dL_law_90 ?_
  refine kt_i (v := nI (i + 3)) (nI_add i 3) ?_
  refine ks_ld hx hb hX hbl hbA hS (i := i + 3) (by omega) (by omega) dL_law_91 ?_
  refine lv_i2l (v := ((xs (i + 3))).toInt64) hx hb dL_law_92 (rfl) ?_
  refine lv_ldc2 hx hb hown (hts (.constantLong RL 13 (4294967295)) (by decide +kernel)) dL_law_93 ?_
  refine lv_land hx hb dL_law_96 ?_
  refine lv_lor hx hb dL_law_97 ?_
  have hPc := hP.sub (ws' := w3 x0 x1 x2 cA cB f g) [0, 1, 2] rfl
  have hDc := hD.sub (ws' := w3 x0 x1 x2 cA cB f g) [0, 1, 2] (by decide) rfl
  refine kv_i (As := [.int (xs (i + 1)), .long (((((((xs (i + 2))).toInt64)) <<< (((32 : Int32)).toInt64 &&& 63))) ||| ((((((xs (i + 3))).toInt64)) &&& ((4294967295)))))]) (rest := []) (ci := 0) (q := (RX0, TX0, 2)) (wc := w3 x0 x1 x2 cA cB f g) (wr := w4 m0 m1 m2 m3 cC cD cE f g' u (nI ks)) ⟨hx, hb, hml, hown, hts⟩ (m_put l dC dI x0 x1 x2 _ cA cB f g (xs (i + 1)) (((((((xs (i + 2))).toInt64)) <<< (((32 : Int32)).toInt64 &&& 63))) ||| ((((((xs (i + 3))).toInt64)) &&& ((4294967295)))))) (cwV 2 hts gL_law_X0_put rfl rfl rfl (by decide +kernel) ⟨Nat.le_of_ble_eq_true rfl, Nat.le_of_ble_eq_true rfl⟩) hK hKx hP hD hS hA [0, 1, 2] [3, 4, 5, 6] rfl rfl rfl (by decide) hPc hDc rfl rfl rfl hl.1 rfl (Nat.le_of_ble_eq_true rfl) dL_law_98 ⟨Nat.le_of_ble_eq_true rfl, Nat.le_of_ble_eq_true rfl⟩ (fun r1 w1 H locs hr1 hP hD hS => ?_)
  obtain ⟨f2, e1, o1⟩ : ∃ f2, w1 = w3 x0 x1 x2 cA cB f2 g ∧ oP f g (xs (i + 1)) (((((((xs (i + 2))).toInt64)) <<< (((32 : Int32)).toInt64 &&& 63))) ||| ((((((xs (i + 3))).toInt64)) &&& ((4294967295))))) r1 f2 g := by
    rcases hr1 with ⟨a1, j, a2, a3, a4⟩ | ⟨a1, a2, a3⟩
    · exact ⟨_, a4, rfl, Or.inl ⟨a1, j, a2, a3, rfl⟩⟩
    · exact ⟨_, a3, rfl, Or.inr ⟨a1, a2, rfl⟩⟩
  subst e1
  have hP : va_P (dC, dI) vwCl (wM x0 x1 x2 cA cB m0 m1 m2 m3 cC cD cE f2 g f g' u (nI ks)) H := hP
  have hD : va_D (fun q : Nat => s.heap.size ≤ q) (wM x0 x1 x2 cA cB m0 m1 m2 m3 cC cD cE f2 g f g' u (nI ks)) := hD
  refine lv_aload_n hx hb dL_law_101 rfl (lv_at hl 2 rfl) ?_
  refine lv_aload_n hx hb dL_law_102 rfl (lv_at hl 0 rfl) ?_
  refine lv_iload_n hx hb dL_law_103 rfl (lv_at hl 3 rfl) ?_
  refine lv_iconst (v := (1 : Int32)) hx hb dL_law_104 (by decide) ?_
  refine lv_iadd hx hb dL_law_105 ?_
  refine kt_i (v := nI (i + 1)) (nI_add i 1) ?_
  refine ks_ld hx hb hX hbl hbA hS (i := i + 1) (by omega) (by omega) dL_law_106 ?_
  refine lv_aload_n hx hb dL_law_107 rfl (lv_at hl 0 rfl) ?_
  refine lv_iload_n hx hb dL_law_108 rfl (lv_at hl 3 rfl) ?_
  refine lv_iconst (v := (2 : Int32)) hx hb dL_law_109 (by decide) ?_
  refine lv_iadd hx hb dL_law_110 ?_
  refine kt_i (v := nI (i + 2)) (nI_add i 2) ?_
  refine ks_ld hx hb hX hbl hbA hS (i := i + 2) (by omega) (by omega) dL_law_111 ?_
  refine lv_i2l (v := ((xs (i + 2))).toInt64) hx hb dL_law_112 (rfl) ?_
  refine lv_bipush (v := (32 : Int32)) hx hb dL_law_113 (by decide) ?_
  refine lv_lshl (v := ((((xs (i + 2))).toInt64)) <<< (((32 : Int32)).toInt64 &&& 63)) hx hb dL_law_115 rfl ?_
  refine lv_aload_n hx hb dL_law_116 rfl (lv_at hl 0 rfl) ?_
  refine lv_iload_n hx hb dL_law_117 rfl (lv_at hl 3 rfl) ?_
  refine lv_iconst (v := (3 : Int32)) hx hb dL_law_118 (by decide) ?_
  refine lv_iadd hx hb dL_law_119 ?_
  refine kt_i (v := nI (i + 3)) (nI_add i 3) ?_
  refine ks_ld hx hb hX hbl hbA hS (i := i + 3) (by omega) (by omega) dL_law_120 ?_
  refine lv_i2l (v := ((xs (i + 3))).toInt64) hx hb dL_law_121 (rfl) ?_
  refine lv_ldc2 hx hb hown (hts (.constantLong RL 13 (4294967295)) (by decide +kernel)) dL_law_122 ?_
  refine lv_land hx hb dL_law_125 ?_
  refine lv_lor hx hb dL_law_126 ?_
  have hPc := hP.sub (ws' := w4 m0 m1 m2 m3 cC cD cE f g' u (nI ks)) [0, 1, 2, 3] rfl
  have hDc := hD.sub (ws' := w4 m0 m1 m2 m3 cC cD cE f g' u (nI ks)) [0, 1, 2, 3] (by decide) rfl
  refine kv_i (As := [.int (xs (i + 1)), .long (((((((xs (i + 2))).toInt64)) <<< (((32 : Int32)).toInt64 &&& 63))) ||| ((((((xs (i + 3))).toInt64)) &&& ((4294967295)))))]) (rest := [.int r1]) (ci := 1) (q := (RX1, TX1, 4)) (wc := w4 m0 m1 m2 m3 cC cD cE f g' u (nI ks)) (wr := w3 x0 x1 x2 cA cB f2 g) ⟨hx, hb, hml, hown, hts⟩ (k_put l dC dI m0 m1 m2 m3 _ cC cD cE f g' u (nI ks) (xs (i + 1)) (((((((xs (i + 2))).toInt64)) <<< (((32 : Int32)).toInt64 &&& 63))) ||| ((((((xs (i + 3))).toInt64)) &&& ((4294967295)))))) (cwV 2 hts gL_law_X1_put rfl rfl rfl (by decide +kernel) ⟨Nat.le_of_ble_eq_true rfl, Nat.le_of_ble_eq_true rfl⟩) hK hKm hP hD hS hA [0, 1, 2, 3] [4, 5, 6] rfl rfl rfl (by decide) hPc hDc rfl rfl rfl hl.1 rfl (Nat.le_of_ble_eq_true rfl) dL_law_127 ⟨Nat.le_of_ble_eq_true rfl, Nat.le_of_ble_eq_true rfl⟩ (fun r2 w2 H locs hr2 hP hD hS => ?_)
  obtain ⟨f3, e2, o2⟩ : ∃ f3, w2 = w4 m0 m1 m2 m3 cC cD cE f3 g' u (nI ks) ∧ oP f g' (xs (i + 1)) (((((((xs (i + 2))).toInt64)) <<< (((32 : Int32)).toInt64 &&& 63))) ||| ((((((xs (i + 3))).toInt64)) &&& ((4294967295))))) r2 f3 g' := by
    rcases hr2 with ⟨a1, j, a2, a3, a4⟩ | ⟨a1, a2, a3⟩
    · exact ⟨_, a4, rfl, Or.inl ⟨a1, j, a2, a3, rfl⟩⟩
    · exact ⟨_, a3, rfl, Or.inr ⟨a1, a2, rfl⟩⟩
  subst e2
  obtain ⟨e3, e4⟩ := oP_un o1 o2
  subst e4
  have hP : va_P (dC, dI) vwCl (wX x0 x1 x2 cA cB m0 m1 m2 m3 cC cD cE f2 g f2 g' u (nI ks)) H := hP
  have hD : va_D (fun q : Nat => s.heap.size ≤ q) (wX x0 x1 x2 cA cB m0 m1 m2 m3 cC cD cE f2 g f2 g' u (nI ks)) := hD
  refine lv_icmp_eq (tgt := 308) hx hb dL_law_130 (by decide) (fun _ => ?_) (fun hc => absurd (e3) hc)
  exact tail f2 g g' u ks hks hrel H locs hP hD hS ls hl
set_option maxHeartbeats 4000000 in
set_option maxRecDepth 100000 in
theorem law_get {p : Program} {l : Launch} {e : Env} {s : State} {m : MethodId} {below : List Frame} {meth : Method} {c : Code} {dC : Nat → ClassId} {dI : Nat → Nat → Nat} {b L : Nat} {xs : Nat → Int32} {x0 x1 x2 m0 m1 m2 m3 : Nat} {cA cB cC cD cE : ClassId} (hL : L ≤ 2048) (C0 : lw_At p s m meth c b L xs) (hK : va_K (dC, dI) vwCl [(cA, .long), (cB, .long), (cC, .long), (cD, .long), (cE, .long)] s) {i : Nat} (hi : i + 4 ≤ L) (tail : ∀ (f g g' u : Nat → Int64) (ks : Nat), ks ≤ 1024 → zrel g g' ks → ∀ (H : Heap) (locs : List Loc), va_P (dC, dI) vwCl (wX x0 x1 x2 cA cB m0 m1 m2 m3 cC cD cE f g f g' u (nI ks)) H → va_D (fun q : Nat => s.heap.size ≤ q) (wX x0 x1 x2 cA cB m0 m1 m2 m3 cC cD cE f g f g' u (nI ks)) → va_S (fun q : Nat => s.heap.size ≤ q) s.heap H locs → ∀ (ls : Array Slot), lv_has ls 4 [(0, .ref b), (1, .ref x0), (2, .ref m0), (3, .int (nI i))] → W p l e room_1 s m #[Value.ref b] below meth c H locs 7 5126 (lw_Z below #[Value.ref b] s) (F0 m 308 ls [])) (f g g' u : Nat → Int64) (ks : Nat) (hks : ks ≤ 1024) (hrel : zrel g g' ks) (H : Heap) (locs : List Loc) (hP : va_P (dC, dI) vwCl (wX x0 x1 x2 cA cB m0 m1 m2 m3 cC cD cE f g f g' u (nI ks)) H) (hD : va_D (fun q : Nat => s.heap.size ≤ q) (wX x0 x1 x2 cA cB m0 m1 m2 m3 cC cD cE f g f g' u (nI ks))) (hS : va_S (fun q : Nat => s.heap.size ≤ q) s.heap H locs) (ls : Array Slot) (hl : lv_has ls 4 [(0, .ref b), (1, .ref x0), (2, .ref m0), (3, .int (nI i))]) : W p l e room_1 s m #[Value.ref b] below meth c H locs 7 5126 (lw_Z below #[Value.ref b] s) (F0 m 135 ls []) := by
  obtain ⟨hx, hb, hr, hml, hown, hts, hX, hbl, hlocks, hgv⟩ := C0
  have hown : s.vm.findClass RL = some m.cls := hown
  have hts : ∀ w ∈ wsL_law, w.before #[Value.ref b] s = true := fun w h => hts w (wsL_law_in w h)
  have hA : ∀ q : Nat, s.heap.size ≤ q → (fun q : Nat => s.heap.size ≤ q) q := fun _ h => h
  have hbA : ¬ (fun q : Nat => s.heap.size ≤ q) b := Nat.not_le.mpr hbl
  have hKx : va_K (dC, dI) vwCl [(cA, .long), (cB, .long)] s := hK.sub (tys' := [(cA, .long), (cB, .long)]) [0, 1] rfl
  have hKm : va_K (dC, dI) vwCl [(cC, .long), (cD, .long), (cE, .long)] s := hK.sub (tys' := [(cC, .long), (cD, .long), (cE, .long)]) [2, 3, 4] rfl
  refine lv_aload_n hx hb dL_law_135 rfl (lv_at hl 1 rfl) ?_
  refine lv_aload_n hx hb dL_law_136 rfl (lv_at hl 0 rfl) ?_
  refine lv_iload_n hx hb dL_law_137 rfl (lv_at hl 3 rfl) ?_
  refine lv_iconst (v := (1 : Int32)) hx hb dL_law_138 (by decide) ?_
  refine lv_iadd hx hb dL_law_139 ?_
  refine kt_i (v := nI (i + 1)) (nI_add i 1) ?_
  refine ks_ld hx hb hX hbl hbA hS (i := i + 1) (by omega) (by omega) dL_law_140 ?_
  have hPc := hP.sub (ws' := w3 x0 x1 x2 cA cB f g) [0, 1, 2] rfl
  have hDc := hD.sub (ws' := w3 x0 x1 x2 cA cB f g) [0, 1, 2] (by decide) rfl
  refine kv_l (As := [.int (xs (i + 1))]) (rest := []) (ci := 0) (q := (RX0, TX0, 2)) (wc := w3 x0 x1 x2 cA cB f g) (wr := w4 m0 m1 m2 m3 cC cD cE f g' u (nI ks)) ⟨hx, hb, hml, hown, hts⟩ (m_get l dC dI x0 x1 x2 _ cA cB f g (xs (i + 1))) (cwV 1 hts gL_law_X0_get rfl rfl rfl (by decide +kernel) ⟨Nat.le_of_ble_eq_true rfl, Nat.le_of_ble_eq_true rfl⟩) hK hKx hP hD hS hA [0, 1, 2] [3, 4, 5, 6] rfl rfl rfl (by decide) hPc hDc rfl rfl rfl hl.1 rfl (Nat.le_of_ble_eq_true rfl) dL_law_141 ⟨Nat.le_of_ble_eq_true rfl, Nat.le_of_ble_eq_true rfl⟩ (fun r1 w1 H locs hr1 hP hD hS => ?_)
  obtain ⟨e1, o1⟩ := hr1
  subst e1
  have hP : va_P (dC, dI) vwCl (wM x0 x1 x2 cA cB m0 m1 m2 m3 cC cD cE f g f g' u (nI ks)) H := hP
  have hD : va_D (fun q : Nat => s.heap.size ≤ q) (wM x0 x1 x2 cA cB m0 m1 m2 m3 cC cD cE f g f g' u (nI ks)) := hD
  refine lv_aload_n hx hb dL_law_144 rfl (lv_at hl 2 rfl) ?_
  refine lv_aload_n hx hb dL_law_145 rfl (lv_at hl 0 rfl) ?_
  refine lv_iload_n hx hb dL_law_146 rfl (lv_at hl 3 rfl) ?_
  refine lv_iconst (v := (1 : Int32)) hx hb dL_law_147 (by decide) ?_
  refine lv_iadd hx hb dL_law_148 ?_
  refine kt_i (v := nI (i + 1)) (nI_add i 1) ?_
  refine ks_ld hx hb hX hbl hbA hS (i := i + 1) (by omega) (by omega) dL_law_149 ?_
  have hPc := hP.sub (ws' := w4 m0 m1 m2 m3 cC cD cE f g' u (nI ks)) [0, 1, 2, 3] rfl
  have hDc := hD.sub (ws' := w4 m0 m1 m2 m3 cC cD cE f g' u (nI ks)) [0, 1, 2, 3] (by decide) rfl
  refine kv_l (As := [.int (xs (i + 1))]) (rest := [.long r1]) (ci := 1) (q := (RX1, TX1, 4)) (wc := w4 m0 m1 m2 m3 cC cD cE f g' u (nI ks)) (wr := w3 x0 x1 x2 cA cB f g) ⟨hx, hb, hml, hown, hts⟩ (k_get l dC dI m0 m1 m2 m3 _ cC cD cE f g' u (nI ks) (xs (i + 1))) (cwV 1 hts gL_law_X1_get rfl rfl rfl (by decide +kernel) ⟨Nat.le_of_ble_eq_true rfl, Nat.le_of_ble_eq_true rfl⟩) hK hKm hP hD hS hA [0, 1, 2, 3] [4, 5, 6] rfl rfl rfl (by decide) hPc hDc rfl rfl rfl hl.1 rfl (Nat.le_of_ble_eq_true rfl) dL_law_150 ⟨Nat.le_of_ble_eq_true rfl, Nat.le_of_ble_eq_true rfl⟩ (fun r2 w2 H locs hr2 hP hD hS => ?_)
  obtain ⟨e2, o2⟩ := hr2
  subst e2
  have hP : va_P (dC, dI) vwCl (wX x0 x1 x2 cA cB m0 m1 m2 m3 cC cD cE f g f g' u (nI ks)) H := hP
  have hD : va_D (fun q : Nat => s.heap.size ≤ q) (wX x0 x1 x2 cA cB m0 m1 m2 m3 cC cD cE f g f g' u (nI ks)) := hD
  refine W.lcmp hx hb dL_law_153 ?_
  refine lv_if_eq (tgt := 308) hx hb dL_law_154 (by decide) (fun _ => ?_) (fun hc => absurd ((lg_cmp_eq _ _).mpr (oG_un o1 o2)) hc)
  exact tail f g g' u ks hks hrel H locs hP hD hS ls hl
set_option maxHeartbeats 4000000 in
set_option maxRecDepth 100000 in
theorem law_transform {p : Program} {l : Launch} {e : Env} {s : State} {m : MethodId} {below : List Frame} {meth : Method} {c : Code} {dC : Nat → ClassId} {dI : Nat → Nat → Nat} {b L : Nat} {xs : Nat → Int32} {x0 x1 x2 m0 m1 m2 m3 : Nat} {cA cB cC cD cE : ClassId} (hL : L ≤ 2048) (C0 : lw_At p s m meth c b L xs) (hK : va_K (dC, dI) vwCl [(cA, .long), (cB, .long), (cC, .long), (cD, .long), (cE, .long)] s) {i : Nat} (hi : i + 4 ≤ L) (tail : ∀ (f g g' u : Nat → Int64) (ks : Nat), ks ≤ 1024 → zrel g g' ks → ∀ (H : Heap) (locs : List Loc), va_P (dC, dI) vwCl (wX x0 x1 x2 cA cB m0 m1 m2 m3 cC cD cE f g f g' u (nI ks)) H → va_D (fun q : Nat => s.heap.size ≤ q) (wX x0 x1 x2 cA cB m0 m1 m2 m3 cC cD cE f g f g' u (nI ks)) → va_S (fun q : Nat => s.heap.size ≤ q) s.heap H locs → ∀ (ls : Array Slot), lv_has ls 4 [(0, .ref b), (1, .ref x0), (2, .ref m0), (3, .int (nI i))] → W p l e room_1 s m #[Value.ref b] below meth c H locs 7 5126 (lw_Z below #[Value.ref b] s) (F0 m 308 ls [])) (f g g' u : Nat → Int64) (ks : Nat) (hks : ks ≤ 1024) (hrel : zrel g g' ks) (H : Heap) (locs : List Loc) (hP : va_P (dC, dI) vwCl (wX x0 x1 x2 cA cB m0 m1 m2 m3 cC cD cE f g f g' u (nI ks)) H) (hD : va_D (fun q : Nat => s.heap.size ≤ q) (wX x0 x1 x2 cA cB m0 m1 m2 m3 cC cD cE f g f g' u (nI ks))) (hS : va_S (fun q : Nat => s.heap.size ≤ q) s.heap H locs) (ls : Array Slot) (hl : lv_has ls 4 [(0, .ref b), (1, .ref x0), (2, .ref m0), (3, .int (nI i))]) : W p l e room_1 s m #[Value.ref b] below meth c H locs 7 5126 (lw_Z below #[Value.ref b] s) (F0 m 159 ls []) := by
  obtain ⟨hx, hb, hr, hml, hown, hts, hX, hbl, hlocks, hgv⟩ := C0
  have hown : s.vm.findClass RL = some m.cls := hown
  have hts : ∀ w ∈ wsL_law, w.before #[Value.ref b] s = true := fun w h => hts w (wsL_law_in w h)
  have hA : ∀ q : Nat, s.heap.size ≤ q → (fun q : Nat => s.heap.size ≤ q) q := fun _ h => h
  have hbA : ¬ (fun q : Nat => s.heap.size ≤ q) b := Nat.not_le.mpr hbl
  have hKx : va_K (dC, dI) vwCl [(cA, .long), (cB, .long)] s := hK.sub (tys' := [(cA, .long), (cB, .long)]) [0, 1] rfl
  have hKm : va_K (dC, dI) vwCl [(cC, .long), (cD, .long), (cE, .long)] s := hK.sub (tys' := [(cC, .long), (cD, .long), (cE, .long)]) [2, 3, 4] rfl
  by_cases hz : xs (i + 3) = 0
  · refine lv_aload_n hx hb dL_law_159 rfl (lv_at hl 1 rfl) ?_
    refine lv_aload_n hx hb dL_law_160 rfl (lv_at hl 0 rfl) ?_
    refine lv_iload_n hx hb dL_law_161 rfl (lv_at hl 3 rfl) ?_
    refine lv_iconst (v := (1 : Int32)) hx hb dL_law_162 (by decide) ?_
    refine lv_iadd hx hb dL_law_163 ?_
    refine kt_i (v := nI (i + 1)) (nI_add i 1) ?_
    refine ks_ld hx hb hX hbl hbA hS (i := i + 1) (by omega) (by omega) dL_law_164 ?_
    refine lv_aload_n hx hb dL_law_165 rfl (lv_at hl 0 rfl) ?_
    refine lv_iload_n hx hb dL_law_166 rfl (lv_at hl 3 rfl) ?_
    refine lv_iconst (v := (2 : Int32)) hx hb dL_law_167 (by decide) ?_
    refine lv_iadd hx hb dL_law_168 ?_
    refine kt_i (v := nI (i + 2)) (nI_add i 2) ?_
    refine ks_ld hx hb hX hbl hbA hS (i := i + 2) (by omega) (by omega) dL_law_169 ?_
    refine lv_aload_n hx hb dL_law_170 rfl (lv_at hl 0 rfl) ?_
    refine lv_iload_n hx hb dL_law_171 rfl (lv_at hl 3 rfl) ?_
    refine lv_iconst (v := (3 : Int32)) hx hb dL_law_172 (by decide) ?_
    refine lv_iadd hx hb dL_law_173 ?_
    refine kt_i (v := nI (i + 3)) (nI_add i 3) ?_
    refine ks_ld hx hb hX hbl hbA hS (i := i + 3) (by omega) (by omega) dL_law_174 ?_
    refine lv_if_eq (tgt := 182) hx hb dL_law_175 (by decide) (fun _ => ?_) (fun hc => absurd hz hc)
    refine lv_iconst (v := (0 : Int32)) hx hb dL_law_182 (by decide) ?_
    have hPc := hP.sub (ws' := w3 x0 x1 x2 cA cB f g) [0, 1, 2] rfl
    have hDc := hD.sub (ws' := w3 x0 x1 x2 cA cB f g) [0, 1, 2] (by decide) rfl
    refine kv_i (As := [.int (xs (i + 1)), .int (xs (i + 2)), .int (0 : Int32)]) (rest := []) (ci := 0) (q := (RX0, TX0, 2)) (wc := w3 x0 x1 x2 cA cB f g) (wr := w4 m0 m1 m2 m3 cC cD cE f g' u (nI ks)) ⟨hx, hb, hml, hown, hts⟩ (m_transform l dC dI x0 x1 x2 _ cA cB f g (xs (i + 1)) (xs (i + 2)) (0 : Int32)) (cwV 3 hts gL_law_X0_transform rfl rfl rfl (by decide +kernel) ⟨Nat.le_of_ble_eq_true rfl, Nat.le_of_ble_eq_true rfl⟩) hK hKx hP hD hS hA [0, 1, 2] [3, 4, 5, 6] rfl rfl rfl (by decide) hPc hDc rfl rfl rfl hl.1 rfl (Nat.le_of_ble_eq_true rfl) dL_law_183 ⟨Nat.le_of_ble_eq_true rfl, Nat.le_of_ble_eq_true rfl⟩ (fun r1 w1 H locs hr1 hP hD hS => ?_)
    obtain ⟨f2, e1, o1⟩ : ∃ f2, w1 = w3 x0 x1 x2 cA cB f2 g ∧ oT f (xs (i + 1)) (xs (i + 2)) (0 : Int32) r1 f2 := by
      rcases hr1 with ⟨a1, a2, a3⟩ | ⟨a1, L1, P1, v1, a2, a3, a4, a5⟩
      · exact ⟨_, a3, Or.inl ⟨a1, a2, rfl⟩⟩
      · exact ⟨_, a5, Or.inr ⟨a1, L1, P1, v1, a2, a3, a4, rfl⟩⟩
    subst e1
    have hP : va_P (dC, dI) vwCl (wM x0 x1 x2 cA cB m0 m1 m2 m3 cC cD cE f2 g f g' u (nI ks)) H := hP
    have hD : va_D (fun q : Nat => s.heap.size ≤ q) (wM x0 x1 x2 cA cB m0 m1 m2 m3 cC cD cE f2 g f g' u (nI ks)) := hD
    refine lv_aload_n hx hb dL_law_186 rfl (lv_at hl 2 rfl) ?_
    refine lv_aload_n hx hb dL_law_187 rfl (lv_at hl 0 rfl) ?_
    refine lv_iload_n hx hb dL_law_188 rfl (lv_at hl 3 rfl) ?_
    refine lv_iconst (v := (1 : Int32)) hx hb dL_law_189 (by decide) ?_
    refine lv_iadd hx hb dL_law_190 ?_
    refine kt_i (v := nI (i + 1)) (nI_add i 1) ?_
    refine ks_ld hx hb hX hbl hbA hS (i := i + 1) (by omega) (by omega) dL_law_191 ?_
    refine lv_aload_n hx hb dL_law_192 rfl (lv_at hl 0 rfl) ?_
    refine lv_iload_n hx hb dL_law_193 rfl (lv_at hl 3 rfl) ?_
    refine lv_iconst (v := (2 : Int32)) hx hb dL_law_194 (by decide) ?_
    refine lv_iadd hx hb dL_law_195 ?_
    refine kt_i (v := nI (i + 2)) (nI_add i 2) ?_
    refine ks_ld hx hb hX hbl hbA hS (i := i + 2) (by omega) (by omega) dL_law_196 ?_
    refine lv_aload_n hx hb dL_law_197 rfl (lv_at hl 0 rfl) ?_
    refine lv_iload_n hx hb dL_law_198 rfl (lv_at hl 3 rfl) ?_
    refine lv_iconst (v := (3 : Int32)) hx hb dL_law_199 (by decide) ?_
    refine lv_iadd hx hb dL_law_200 ?_
    refine kt_i (v := nI (i + 3)) (nI_add i 3) ?_
    refine ks_ld hx hb hX hbl hbA hS (i := i + 3) (by omega) (by omega) dL_law_201 ?_
    refine lv_if_eq (tgt := 209) hx hb dL_law_202 (by decide) (fun _ => ?_) (fun hc => absurd hz hc)
    refine lv_iconst (v := (0 : Int32)) hx hb dL_law_209 (by decide) ?_
    have hPc := hP.sub (ws' := w4 m0 m1 m2 m3 cC cD cE f g' u (nI ks)) [0, 1, 2, 3] rfl
    have hDc := hD.sub (ws' := w4 m0 m1 m2 m3 cC cD cE f g' u (nI ks)) [0, 1, 2, 3] (by decide) rfl
    refine kv_i (As := [.int (xs (i + 1)), .int (xs (i + 2)), .int (0 : Int32)]) (rest := [.int r1]) (ci := 1) (q := (RX1, TX1, 4)) (wc := w4 m0 m1 m2 m3 cC cD cE f g' u (nI ks)) (wr := w3 x0 x1 x2 cA cB f2 g) ⟨hx, hb, hml, hown, hts⟩ (k_transform l dC dI m0 m1 m2 m3 _ cC cD cE f g' u (nI ks) (xs (i + 1)) (xs (i + 2)) (0 : Int32)) (cwV 3 hts gL_law_X1_transform rfl rfl rfl (by decide +kernel) ⟨Nat.le_of_ble_eq_true rfl, Nat.le_of_ble_eq_true rfl⟩) hK hKm hP hD hS hA [0, 1, 2, 3] [4, 5, 6] rfl rfl rfl (by decide) hPc hDc rfl rfl rfl hl.1 rfl (Nat.le_of_ble_eq_true rfl) dL_law_210 ⟨Nat.le_of_ble_eq_true rfl, Nat.le_of_ble_eq_true rfl⟩ (fun r2 w2 H locs hr2 hP hD hS => ?_)
    obtain ⟨f3, u3, e2, o2⟩ : ∃ f3 u3, w2 = w4 m0 m1 m2 m3 cC cD cE f3 g' u3 (nI ks) ∧ oT f (xs (i + 1)) (xs (i + 2)) (0 : Int32) r2 f3 := by
      rcases hr2 with ⟨a1, a2, a3⟩ | ⟨a1, L1, P1, v1, u3, a2, a3, a4, a5⟩
      · exact ⟨_, _, a3, Or.inl ⟨a1, a2, rfl⟩⟩
      · exact ⟨_, _, a5, Or.inr ⟨a1, L1, P1, v1, a2, a3, a4, rfl⟩⟩
    subst e2
    obtain ⟨e3, e4⟩ := oT_un o1 o2
    subst e4
    have hP : va_P (dC, dI) vwCl (wX x0 x1 x2 cA cB m0 m1 m2 m3 cC cD cE f2 g f2 g' u3 (nI ks)) H := hP
    have hD : va_D (fun q : Nat => s.heap.size ≤ q) (wX x0 x1 x2 cA cB m0 m1 m2 m3 cC cD cE f2 g f2 g' u3 (nI ks)) := hD
    refine lv_icmp_eq (tgt := 308) hx hb dL_law_213 (by decide) (fun _ => ?_) (fun hc => absurd (e3) hc)
    exact tail f2 g g' u3 ks hks hrel H locs hP hD hS ls hl
  · refine lv_aload_n hx hb dL_law_159 rfl (lv_at hl 1 rfl) ?_
    refine lv_aload_n hx hb dL_law_160 rfl (lv_at hl 0 rfl) ?_
    refine lv_iload_n hx hb dL_law_161 rfl (lv_at hl 3 rfl) ?_
    refine lv_iconst (v := (1 : Int32)) hx hb dL_law_162 (by decide) ?_
    refine lv_iadd hx hb dL_law_163 ?_
    refine kt_i (v := nI (i + 1)) (nI_add i 1) ?_
    refine ks_ld hx hb hX hbl hbA hS (i := i + 1) (by omega) (by omega) dL_law_164 ?_
    refine lv_aload_n hx hb dL_law_165 rfl (lv_at hl 0 rfl) ?_
    refine lv_iload_n hx hb dL_law_166 rfl (lv_at hl 3 rfl) ?_
    refine lv_iconst (v := (2 : Int32)) hx hb dL_law_167 (by decide) ?_
    refine lv_iadd hx hb dL_law_168 ?_
    refine kt_i (v := nI (i + 2)) (nI_add i 2) ?_
    refine ks_ld hx hb hX hbl hbA hS (i := i + 2) (by omega) (by omega) dL_law_169 ?_
    refine lv_aload_n hx hb dL_law_170 rfl (lv_at hl 0 rfl) ?_
    refine lv_iload_n hx hb dL_law_171 rfl (lv_at hl 3 rfl) ?_
    refine lv_iconst (v := (3 : Int32)) hx hb dL_law_172 (by decide) ?_
    refine lv_iadd hx hb dL_law_173 ?_
    refine kt_i (v := nI (i + 3)) (nI_add i 3) ?_
    refine ks_ld hx hb hX hbl hbA hS (i := i + 3) (by omega) (by omega) dL_law_174 ?_
    refine lv_if_eq (tgt := 182) hx hb dL_law_175 (by decide) (fun hc => absurd hc hz) (fun _ => ?_)
    refine lv_iconst (v := (1 : Int32)) hx hb dL_law_178 (by decide) ?_
    refine lv_goto (tgt := 183) hx hb dL_law_179 (by decide) ?_
    have hPc := hP.sub (ws' := w3 x0 x1 x2 cA cB f g) [0, 1, 2] rfl
    have hDc := hD.sub (ws' := w3 x0 x1 x2 cA cB f g) [0, 1, 2] (by decide) rfl
    refine kv_i (As := [.int (xs (i + 1)), .int (xs (i + 2)), .int (1 : Int32)]) (rest := []) (ci := 0) (q := (RX0, TX0, 2)) (wc := w3 x0 x1 x2 cA cB f g) (wr := w4 m0 m1 m2 m3 cC cD cE f g' u (nI ks)) ⟨hx, hb, hml, hown, hts⟩ (m_transform l dC dI x0 x1 x2 _ cA cB f g (xs (i + 1)) (xs (i + 2)) (1 : Int32)) (cwV 3 hts gL_law_X0_transform rfl rfl rfl (by decide +kernel) ⟨Nat.le_of_ble_eq_true rfl, Nat.le_of_ble_eq_true rfl⟩) hK hKx hP hD hS hA [0, 1, 2] [3, 4, 5, 6] rfl rfl rfl (by decide) hPc hDc rfl rfl rfl hl.1 rfl (Nat.le_of_ble_eq_true rfl) dL_law_183 ⟨Nat.le_of_ble_eq_true rfl, Nat.le_of_ble_eq_true rfl⟩ (fun r1 w1 H locs hr1 hP hD hS => ?_)
    obtain ⟨f2, e1, o1⟩ : ∃ f2, w1 = w3 x0 x1 x2 cA cB f2 g ∧ oT f (xs (i + 1)) (xs (i + 2)) (1 : Int32) r1 f2 := by
      rcases hr1 with ⟨a1, a2, a3⟩ | ⟨a1, L1, P1, v1, a2, a3, a4, a5⟩
      · exact ⟨_, a3, Or.inl ⟨a1, a2, rfl⟩⟩
      · exact ⟨_, a5, Or.inr ⟨a1, L1, P1, v1, a2, a3, a4, rfl⟩⟩
    subst e1
    have hP : va_P (dC, dI) vwCl (wM x0 x1 x2 cA cB m0 m1 m2 m3 cC cD cE f2 g f g' u (nI ks)) H := hP
    have hD : va_D (fun q : Nat => s.heap.size ≤ q) (wM x0 x1 x2 cA cB m0 m1 m2 m3 cC cD cE f2 g f g' u (nI ks)) := hD
    refine lv_aload_n hx hb dL_law_186 rfl (lv_at hl 2 rfl) ?_
    refine lv_aload_n hx hb dL_law_187 rfl (lv_at hl 0 rfl) ?_
    refine lv_iload_n hx hb dL_law_188 rfl (lv_at hl 3 rfl) ?_
    refine lv_iconst (v := (1 : Int32)) hx hb dL_law_189 (by decide) ?_
    refine lv_iadd hx hb dL_law_190 ?_
    refine kt_i (v := nI (i + 1)) (nI_add i 1) ?_
    refine ks_ld hx hb hX hbl hbA hS (i := i + 1) (by omega) (by omega) dL_law_191 ?_
    refine lv_aload_n hx hb dL_law_192 rfl (lv_at hl 0 rfl) ?_
    refine lv_iload_n hx hb dL_law_193 rfl (lv_at hl 3 rfl) ?_
    refine lv_iconst (v := (2 : Int32)) hx hb dL_law_194 (by decide) ?_
    refine lv_iadd hx hb dL_law_195 ?_
    refine kt_i (v := nI (i + 2)) (nI_add i 2) ?_
    refine ks_ld hx hb hX hbl hbA hS (i := i + 2) (by omega) (by omega) dL_law_196 ?_
    refine lv_aload_n hx hb dL_law_197 rfl (lv_at hl 0 rfl) ?_
    refine lv_iload_n hx hb dL_law_198 rfl (lv_at hl 3 rfl) ?_
    refine lv_iconst (v := (3 : Int32)) hx hb dL_law_199 (by decide) ?_
    refine lv_iadd hx hb dL_law_200 ?_
    refine kt_i (v := nI (i + 3)) (nI_add i 3) ?_
    refine ks_ld hx hb hX hbl hbA hS (i := i + 3) (by omega) (by omega) dL_law_201 ?_
    refine lv_if_eq (tgt := 209) hx hb dL_law_202 (by decide) (fun hc => absurd hc hz) (fun _ => ?_)
    refine lv_iconst (v := (1 : Int32)) hx hb dL_law_205 (by decide) ?_
    refine lv_goto (tgt := 210) hx hb dL_law_206 (by decide) ?_
    have hPc := hP.sub (ws' := w4 m0 m1 m2 m3 cC cD cE f g' u (nI ks)) [0, 1, 2, 3] rfl
    have hDc := hD.sub (ws' := w4 m0 m1 m2 m3 cC cD cE f g' u (nI ks)) [0, 1, 2, 3] (by decide) rfl
    refine kv_i (As := [.int (xs (i + 1)), .int (xs (i + 2)), .int (1 : Int32)]) (rest := [.int r1]) (ci := 1) (q := (RX1, TX1, 4)) (wc := w4 m0 m1 m2 m3 cC cD cE f g' u (nI ks)) (wr := w3 x0 x1 x2 cA cB f2 g) ⟨hx, hb, hml, hown, hts⟩ (k_transform l dC dI m0 m1 m2 m3 _ cC cD cE f g' u (nI ks) (xs (i + 1)) (xs (i + 2)) (1 : Int32)) (cwV 3 hts gL_law_X1_transform rfl rfl rfl (by decide +kernel) ⟨Nat.le_of_ble_eq_true rfl, Nat.le_of_ble_eq_true rfl⟩) hK hKm hP hD hS hA [0, 1, 2, 3] [4, 5, 6] rfl rfl rfl (by decide) hPc hDc rfl rfl rfl hl.1 rfl (Nat.le_of_ble_eq_true rfl) dL_law_210 ⟨Nat.le_of_ble_eq_true rfl, Nat.le_of_ble_eq_true rfl⟩ (fun r2 w2 H locs hr2 hP hD hS => ?_)
    obtain ⟨f3, u3, e2, o2⟩ : ∃ f3 u3, w2 = w4 m0 m1 m2 m3 cC cD cE f3 g' u3 (nI ks) ∧ oT f (xs (i + 1)) (xs (i + 2)) (1 : Int32) r2 f3 := by
      rcases hr2 with ⟨a1, a2, a3⟩ | ⟨a1, L1, P1, v1, u3, a2, a3, a4, a5⟩
      · exact ⟨_, _, a3, Or.inl ⟨a1, a2, rfl⟩⟩
      · exact ⟨_, _, a5, Or.inr ⟨a1, L1, P1, v1, a2, a3, a4, rfl⟩⟩
    subst e2
    obtain ⟨e3, e4⟩ := oT_un o1 o2
    subst e4
    have hP : va_P (dC, dI) vwCl (wX x0 x1 x2 cA cB m0 m1 m2 m3 cC cD cE f2 g f2 g' u3 (nI ks)) H := hP
    have hD : va_D (fun q : Nat => s.heap.size ≤ q) (wX x0 x1 x2 cA cB m0 m1 m2 m3 cC cD cE f2 g f2 g' u3 (nI ks)) := hD
    refine lv_icmp_eq (tgt := 308) hx hb dL_law_213 (by decide) (fun _ => ?_) (fun hc => absurd (e3) hc)
    exact tail f2 g g' u3 ks hks hrel H locs hP hD hS ls hl
set_option maxHeartbeats 4000000 in
set_option maxRecDepth 100000 in
theorem law_keep {p : Program} {l : Launch} {e : Env} {s : State} {m : MethodId} {below : List Frame} {meth : Method} {c : Code} {dC : Nat → ClassId} {dI : Nat → Nat → Nat} {b L : Nat} {xs : Nat → Int32} {x0 x1 x2 m0 m1 m2 m3 : Nat} {cA cB cC cD cE : ClassId} (hL : L ≤ 2048) (C0 : lw_At p s m meth c b L xs) (hK : va_K (dC, dI) vwCl [(cA, .long), (cB, .long), (cC, .long), (cD, .long), (cE, .long)] s) {i : Nat} (hi : i + 4 ≤ L) (tail : ∀ (f g g' u : Nat → Int64) (ks : Nat), ks ≤ 1024 → zrel g g' ks → ∀ (H : Heap) (locs : List Loc), va_P (dC, dI) vwCl (wX x0 x1 x2 cA cB m0 m1 m2 m3 cC cD cE f g f g' u (nI ks)) H → va_D (fun q : Nat => s.heap.size ≤ q) (wX x0 x1 x2 cA cB m0 m1 m2 m3 cC cD cE f g f g' u (nI ks)) → va_S (fun q : Nat => s.heap.size ≤ q) s.heap H locs → ∀ (ls : Array Slot), lv_has ls 4 [(0, .ref b), (1, .ref x0), (2, .ref m0), (3, .int (nI i))] → W p l e room_1 s m #[Value.ref b] below meth c H locs 7 5126 (lw_Z below #[Value.ref b] s) (F0 m 308 ls [])) (f g g' u : Nat → Int64) (ks : Nat) (hks : ks ≤ 1024) (hrel : zrel g g' ks) (H : Heap) (locs : List Loc) (hP : va_P (dC, dI) vwCl (wX x0 x1 x2 cA cB m0 m1 m2 m3 cC cD cE f g f g' u (nI ks)) H) (hD : va_D (fun q : Nat => s.heap.size ≤ q) (wX x0 x1 x2 cA cB m0 m1 m2 m3 cC cD cE f g f g' u (nI ks))) (hS : va_S (fun q : Nat => s.heap.size ≤ q) s.heap H locs) (ls : Array Slot) (hl : lv_has ls 4 [(0, .ref b), (1, .ref x0), (2, .ref m0), (3, .int (nI i))]) : W p l e room_1 s m #[Value.ref b] below meth c H locs 7 5126 (lw_Z below #[Value.ref b] s) (F0 m 218 ls []) := by
  obtain ⟨hx, hb, hr, hml, hown, hts, hX, hbl, hlocks, hgv⟩ := C0
  have hown : s.vm.findClass RL = some m.cls := hown
  have hts : ∀ w ∈ wsL_law, w.before #[Value.ref b] s = true := fun w h => hts w (wsL_law_in w h)
  have hA : ∀ q : Nat, s.heap.size ≤ q → (fun q : Nat => s.heap.size ≤ q) q := fun _ h => h
  have hbA : ¬ (fun q : Nat => s.heap.size ≤ q) b := Nat.not_le.mpr hbl
  have hKx : va_K (dC, dI) vwCl [(cA, .long), (cB, .long)] s := hK.sub (tys' := [(cA, .long), (cB, .long)]) [0, 1] rfl
  have hKm : va_K (dC, dI) vwCl [(cC, .long), (cD, .long), (cE, .long)] s := hK.sub (tys' := [(cC, .long), (cD, .long), (cE, .long)]) [2, 3, 4] rfl
  refine lv_aload_n hx hb dL_law_218 rfl (lv_at hl 1 rfl) ?_
  refine lv_aload_n hx hb dL_law_219 rfl (lv_at hl 0 rfl) ?_
  refine lv_iload_n hx hb dL_law_220 rfl (lv_at hl 3 rfl) ?_
  refine lv_iconst (v := (1 : Int32)) hx hb dL_law_221 (by decide) ?_
  refine lv_iadd hx hb dL_law_222 ?_
  refine kt_i (v := nI (i + 1)) (nI_add i 1) ?_
  refine ks_ld hx hb hX hbl hbA hS (i := i + 1) (by omega) (by omega) dL_law_223 ?_
  have hPc := hP.sub (ws' := w3 x0 x1 x2 cA cB f g) [0, 1, 2] rfl
  have hDc := hD.sub (ws' := w3 x0 x1 x2 cA cB f g) [0, 1, 2] (by decide) rfl
  refine kv_i (As := [.int (xs (i + 1))]) (rest := []) (ci := 0) (q := (RX0, TX0, 2)) (wc := w3 x0 x1 x2 cA cB f g) (wr := w4 m0 m1 m2 m3 cC cD cE f g' u (nI ks)) ⟨hx, hb, hml, hown, hts⟩ (m_keep l dC dI x0 x1 x2 _ cA cB f g (xs (i + 1))) (cwV 1 hts gL_law_X0_keep rfl rfl rfl (by decide +kernel) ⟨Nat.le_of_ble_eq_true rfl, Nat.le_of_ble_eq_true rfl⟩) hK hKx hP hD hS hA [0, 1, 2] [3, 4, 5, 6] rfl rfl rfl (by decide) hPc hDc rfl rfl rfl hl.1 rfl (Nat.le_of_ble_eq_true rfl) dL_law_224 ⟨Nat.le_of_ble_eq_true rfl, Nat.le_of_ble_eq_true rfl⟩ (fun r1 w1 H locs hr1 hP hD hS => ?_)
  obtain ⟨g2, e1, o1⟩ : ∃ g2, w1 = w3 x0 x1 x2 cA cB f g2 ∧ ((r1 = 1 ∧ ∃ j, j ≤ 1024 ∧ xs (i + 1) = nI j ∧ g2 = zpt 1024 (fun t => if t < j then f t else lN 0) g) ∨ (r1 = 0 ∧ (¬ ∃ j, j ≤ 1024 ∧ xs (i + 1) = nI j) ∧ g2 = g)) := by
    rcases hr1 with ⟨a1, j, a2, a3, a4⟩ | ⟨a1, a2, a3⟩
    · exact ⟨_, a4, Or.inl ⟨a1, j, a2, a3, rfl⟩⟩
    · exact ⟨_, a3, Or.inr ⟨a1, a2, rfl⟩⟩
  subst e1
  have hP : va_P (dC, dI) vwCl (wM x0 x1 x2 cA cB m0 m1 m2 m3 cC cD cE f g2 f g' u (nI ks)) H := hP
  have hD : va_D (fun q : Nat => s.heap.size ≤ q) (wM x0 x1 x2 cA cB m0 m1 m2 m3 cC cD cE f g2 f g' u (nI ks)) := hD
  refine lv_aload_n hx hb dL_law_227 rfl (lv_at hl 2 rfl) ?_
  refine lv_aload_n hx hb dL_law_228 rfl (lv_at hl 0 rfl) ?_
  refine lv_iload_n hx hb dL_law_229 rfl (lv_at hl 3 rfl) ?_
  refine lv_iconst (v := (1 : Int32)) hx hb dL_law_230 (by decide) ?_
  refine lv_iadd hx hb dL_law_231 ?_
  refine kt_i (v := nI (i + 1)) (nI_add i 1) ?_
  refine ks_ld hx hb hX hbl hbA hS (i := i + 1) (by omega) (by omega) dL_law_232 ?_
  have hPc := hP.sub (ws' := w4 m0 m1 m2 m3 cC cD cE f g' u (nI ks)) [0, 1, 2, 3] rfl
  have hDc := hD.sub (ws' := w4 m0 m1 m2 m3 cC cD cE f g' u (nI ks)) [0, 1, 2, 3] (by decide) rfl
  refine kv_i (As := [.int (xs (i + 1))]) (rest := [.int r1]) (ci := 1) (q := (RX1, TX1, 4)) (wc := w4 m0 m1 m2 m3 cC cD cE f g' u (nI ks)) (wr := w3 x0 x1 x2 cA cB f g2) ⟨hx, hb, hml, hown, hts⟩ (k_keep l dC dI m0 m1 m2 m3 _ cC cD cE f g' u (nI ks) (xs (i + 1))) (cwV 1 hts gL_law_X1_keep rfl rfl rfl (by decide +kernel) ⟨Nat.le_of_ble_eq_true rfl, Nat.le_of_ble_eq_true rfl⟩) hK hKm hP hD hS hA [0, 1, 2, 3] [4, 5, 6] rfl rfl rfl (by decide) hPc hDc rfl rfl rfl hl.1 rfl (Nat.le_of_ble_eq_true rfl) dL_law_233 ⟨Nat.le_of_ble_eq_true rfl, Nat.le_of_ble_eq_true rfl⟩ (fun r2 w2 H locs hr2 hP hD hS => ?_)
  obtain ⟨g3, k3, e2, e3, k4, k5⟩ : ∃ g3 k3, w2 = w4 m0 m1 m2 m3 cC cD cE f g3 u (nI k3) ∧ r1 = r2 ∧ k3 ≤ 1024 ∧ zrel g2 g3 k3 := by
    rcases hr2 with ⟨a1, j, a2, a3, a4⟩ | ⟨a1, a2, a3⟩ <;> rcases o1 with ⟨b1, j', b2, b3, b4⟩ | ⟨b1, b2, b3⟩
    · have := nI_inj (by omega) (by omega) a3 b3
      subst this
      exact ⟨_, j, a4, by rw [a1, b1], a2, by rw [b4]; exact zrel_keep hks a2 hrel⟩
    · exact absurd ⟨j, a2, a3⟩ b2
    · exact absurd ⟨j', b2, b3⟩ a2
    · exact ⟨_, ks, a3, by rw [a1, b1], hks, by rw [b3]; exact hrel⟩
  subst e2
  have hP : va_P (dC, dI) vwCl (wX x0 x1 x2 cA cB m0 m1 m2 m3 cC cD cE f g2 f g3 u (nI k3)) H := hP
  have hD : va_D (fun q : Nat => s.heap.size ≤ q) (wX x0 x1 x2 cA cB m0 m1 m2 m3 cC cD cE f g2 f g3 u (nI k3)) := hD
  refine lv_icmp_eq (tgt := 308) hx hb dL_law_236 (by decide) (fun _ => ?_) (fun hc => absurd (e3) hc)
  exact tail f g2 g3 u k3 k4 k5 H locs hP hD hS ls hl
set_option maxHeartbeats 4000000 in
set_option maxRecDepth 100000 in
theorem law_times {p : Program} {l : Launch} {e : Env} {s : State} {m : MethodId} {below : List Frame} {meth : Method} {c : Code} {dC : Nat → ClassId} {dI : Nat → Nat → Nat} {b L : Nat} {xs : Nat → Int32} {x0 x1 x2 m0 m1 m2 m3 : Nat} {cA cB cC cD cE : ClassId} (hL : L ≤ 2048) (C0 : lw_At p s m meth c b L xs) (hK : va_K (dC, dI) vwCl [(cA, .long), (cB, .long), (cC, .long), (cD, .long), (cE, .long)] s) {i : Nat} (hi : i + 4 ≤ L) (tail : ∀ (f g g' u : Nat → Int64) (ks : Nat), ks ≤ 1024 → zrel g g' ks → ∀ (H : Heap) (locs : List Loc), va_P (dC, dI) vwCl (wX x0 x1 x2 cA cB m0 m1 m2 m3 cC cD cE f g f g' u (nI ks)) H → va_D (fun q : Nat => s.heap.size ≤ q) (wX x0 x1 x2 cA cB m0 m1 m2 m3 cC cD cE f g f g' u (nI ks)) → va_S (fun q : Nat => s.heap.size ≤ q) s.heap H locs → ∀ (ls : Array Slot), lv_has ls 4 [(0, .ref b), (1, .ref x0), (2, .ref m0), (3, .int (nI i))] → W p l e room_1 s m #[Value.ref b] below meth c H locs 7 5126 (lw_Z below #[Value.ref b] s) (F0 m 308 ls [])) (f g g' u : Nat → Int64) (ks : Nat) (hks : ks ≤ 1024) (hrel : zrel g g' ks) (H : Heap) (locs : List Loc) (hP : va_P (dC, dI) vwCl (wX x0 x1 x2 cA cB m0 m1 m2 m3 cC cD cE f g f g' u (nI ks)) H) (hD : va_D (fun q : Nat => s.heap.size ≤ q) (wX x0 x1 x2 cA cB m0 m1 m2 m3 cC cD cE f g f g' u (nI ks))) (hS : va_S (fun q : Nat => s.heap.size ≤ q) s.heap H locs) (ls : Array Slot) (hl : lv_has ls 4 [(0, .ref b), (1, .ref x0), (2, .ref m0), (3, .int (nI i))]) : W p l e room_1 s m #[Value.ref b] below meth c H locs 7 5126 (lw_Z below #[Value.ref b] s) (F0 m 241 ls []) := by
  obtain ⟨hx, hb, hr, hml, hown, hts, hX, hbl, hlocks, hgv⟩ := C0
  have hown : s.vm.findClass RL = some m.cls := hown
  have hts : ∀ w ∈ wsL_law, w.before #[Value.ref b] s = true := fun w h => hts w (wsL_law_in w h)
  have hA : ∀ q : Nat, s.heap.size ≤ q → (fun q : Nat => s.heap.size ≤ q) q := fun _ h => h
  have hbA : ¬ (fun q : Nat => s.heap.size ≤ q) b := Nat.not_le.mpr hbl
  have hKx : va_K (dC, dI) vwCl [(cA, .long), (cB, .long)] s := hK.sub (tys' := [(cA, .long), (cB, .long)]) [0, 1] rfl
  have hKm : va_K (dC, dI) vwCl [(cC, .long), (cD, .long), (cE, .long)] s := hK.sub (tys' := [(cC, .long), (cD, .long), (cE, .long)]) [2, 3, 4] rfl
  refine lv_aload_n hx hb dL_law_241 rfl (lv_at hl 1 rfl) ?_
  refine lv_aload_n hx hb dL_law_242 rfl (lv_at hl 0 rfl) ?_
  refine lv_iload_n hx hb dL_law_243 rfl (lv_at hl 3 rfl) ?_
  refine lv_iconst (v := (1 : Int32)) hx hb dL_law_244 (by decide) ?_
  refine lv_iadd hx hb dL_law_245 ?_
  refine kt_i (v := nI (i + 1)) (nI_add i 1) ?_
  refine ks_ld hx hb hX hbl hbA hS (i := i + 1) (by omega) (by omega) dL_law_246 ?_
  refine lv_aload_n hx hb dL_law_247 rfl (lv_at hl 0 rfl) ?_
  refine lv_iload_n hx hb dL_law_248 rfl (lv_at hl 3 rfl) ?_
  refine lv_iconst (v := (2 : Int32)) hx hb dL_law_249 (by decide) ?_
  refine lv_iadd hx hb dL_law_250 ?_
  refine kt_i (v := nI (i + 2)) (nI_add i 2) ?_
  refine ks_ld hx hb hX hbl hbA hS (i := i + 2) (by omega) (by omega) dL_law_251 ?_
  have hPc := hP.sub (ws' := w3 x0 x1 x2 cA cB f g) [0, 1, 2] rfl
  have hDc := hD.sub (ws' := w3 x0 x1 x2 cA cB f g) [0, 1, 2] (by decide) rfl
  refine kv_i (As := [.int (xs (i + 1)), .int (xs (i + 2))]) (rest := []) (ci := 0) (q := (RX0, TX0, 2)) (wc := w3 x0 x1 x2 cA cB f g) (wr := w4 m0 m1 m2 m3 cC cD cE f g' u (nI ks)) ⟨hx, hb, hml, hown, hts⟩ (m_times l dC dI x0 x1 x2 _ cA cB f g (xs (i + 1)) (xs (i + 2))) (cwV 2 hts gL_law_X0_times rfl rfl rfl (by decide +kernel) ⟨Nat.le_of_ble_eq_true rfl, Nat.le_of_ble_eq_true rfl⟩) hK hKx hP hD hS hA [0, 1, 2] [3, 4, 5, 6] rfl rfl rfl (by decide) hPc hDc rfl rfl rfl hl.1 rfl (Nat.le_of_ble_eq_true rfl) dL_law_252 ⟨Nat.le_of_ble_eq_true rfl, Nat.le_of_ble_eq_true rfl⟩ (fun r1 w1 H locs hr1 hP hD hS => ?_)
  obtain ⟨f2, e1, o1⟩ : ∃ f2, w1 = w3 x0 x1 x2 cA cB f2 g ∧ ((r1 = -1 ∧ (¬ zci (xs (i + 1))) ∧ f2 = f) ∨ (r1 = -2 ∧ zci (xs (i + 1)) ∧ ¬ zok (xs (i + 2)) ∧ f2 = f) ∨ (r1 = 0 ∧ ∃ j P1, j ≤ 1024 ∧ xs (i + 1) = nI j ∧ xs (i + 2) = nI P1 ∧ 3 ≤ P1 ∧ P1 ≤ 1000000007 ∧ ztd P1 ∧ f2 = zpt j (fun t => lN (zrs P1 (f t) * zrs P1 (g t) % P1)) f)) := by
    rcases hr1 with ⟨a1, a2, a3⟩ | ⟨a1, a2, a3, a4⟩ | ⟨a1, j, P1, a2, a3, a4, a5, a6, a7, a8⟩
    · exact ⟨_, a3, Or.inl ⟨a1, a2, rfl⟩⟩
    · exact ⟨_, a4, Or.inr (Or.inl ⟨a1, a2, a3, rfl⟩)⟩
    · exact ⟨_, a8, Or.inr (Or.inr ⟨a1, j, P1, a2, a3, a4, a5, a6, a7, rfl⟩)⟩
  subst e1
  have hP : va_P (dC, dI) vwCl (wM x0 x1 x2 cA cB m0 m1 m2 m3 cC cD cE f2 g f g' u (nI ks)) H := hP
  have hD : va_D (fun q : Nat => s.heap.size ≤ q) (wM x0 x1 x2 cA cB m0 m1 m2 m3 cC cD cE f2 g f g' u (nI ks)) := hD
  refine lv_aload_n hx hb dL_law_255 rfl (lv_at hl 2 rfl) ?_
  refine lv_aload_n hx hb dL_law_256 rfl (lv_at hl 0 rfl) ?_
  refine lv_iload_n hx hb dL_law_257 rfl (lv_at hl 3 rfl) ?_
  refine lv_iconst (v := (1 : Int32)) hx hb dL_law_258 (by decide) ?_
  refine lv_iadd hx hb dL_law_259 ?_
  refine kt_i (v := nI (i + 1)) (nI_add i 1) ?_
  refine ks_ld hx hb hX hbl hbA hS (i := i + 1) (by omega) (by omega) dL_law_260 ?_
  refine lv_aload_n hx hb dL_law_261 rfl (lv_at hl 0 rfl) ?_
  refine lv_iload_n hx hb dL_law_262 rfl (lv_at hl 3 rfl) ?_
  refine lv_iconst (v := (2 : Int32)) hx hb dL_law_263 (by decide) ?_
  refine lv_iadd hx hb dL_law_264 ?_
  refine kt_i (v := nI (i + 2)) (nI_add i 2) ?_
  refine ks_ld hx hb hX hbl hbA hS (i := i + 2) (by omega) (by omega) dL_law_265 ?_
  have hPc := hP.sub (ws' := w4 m0 m1 m2 m3 cC cD cE f g' u (nI ks)) [0, 1, 2, 3] rfl
  have hDc := hD.sub (ws' := w4 m0 m1 m2 m3 cC cD cE f g' u (nI ks)) [0, 1, 2, 3] (by decide) rfl
  refine kv_i (As := [.int (xs (i + 1)), .int (xs (i + 2))]) (rest := [.int r1]) (ci := 1) (q := (RX1, TX1, 4)) (wc := w4 m0 m1 m2 m3 cC cD cE f g' u (nI ks)) (wr := w3 x0 x1 x2 cA cB f2 g) ⟨hx, hb, hml, hown, hts⟩ (k_times l dC dI m0 m1 m2 m3 _ cC cD cE f g' u ks hks (xs (i + 1)) (xs (i + 2))) (cwV 2 hts gL_law_X1_times rfl rfl rfl (by decide +kernel) ⟨Nat.le_of_ble_eq_true rfl, Nat.le_of_ble_eq_true rfl⟩) hK hKm hP hD hS hA [0, 1, 2, 3] [4, 5, 6] rfl rfl rfl (by decide) hPc hDc rfl rfl rfl hl.1 rfl (Nat.le_of_ble_eq_true rfl) dL_law_266 ⟨Nat.le_of_ble_eq_true rfl, Nat.le_of_ble_eq_true rfl⟩ (fun r2 w2 H locs hr2 hP hD hS => ?_)
  obtain ⟨e2, e3⟩ : w2 = w4 m0 m1 m2 m3 cC cD cE f2 g' u (nI ks) ∧ r1 = r2 := by
    rcases hr2 with ⟨a1, a2, a3⟩ | ⟨a1, a2, a3, a4⟩ | ⟨a1, j, P1, a2, a3, a4, a5, a6, a7, a8⟩ <;> rcases o1 with ⟨b1, b2, b3⟩ | ⟨b1, b2, b3, b4⟩ | ⟨b1, j', P1', b2, b3, b4, b5, b6, b7, b8⟩
    · exact ⟨by rw [a3, b3], by rw [a1, b1]⟩
    · exact absurd b2 a2
    · exact absurd ⟨j', b2, b3⟩ a2
    · exact absurd a2 b2
    · exact ⟨by rw [a4, b4], by rw [a1, b1]⟩
    · exact absurd ⟨P1', b4, b5, b6, b7⟩ a3
    · exact absurd ⟨j, a2, a3⟩ b2
    · exact absurd ⟨P1, a4, a5, a6, a7⟩ b3
    · have h1 := nI_inj (by omega) (by omega) a3 b3
      have h2 := nI_inj (by omega) (by omega) a4 b4
      subst h1
      subst h2
      exact ⟨by rw [a8, b8, zrel_times (by omega) hrel], by rw [a1, b1]⟩
  subst e2
  have hP : va_P (dC, dI) vwCl (wX x0 x1 x2 cA cB m0 m1 m2 m3 cC cD cE f2 g f2 g' u (nI ks)) H := hP
  have hD : va_D (fun q : Nat => s.heap.size ≤ q) (wX x0 x1 x2 cA cB m0 m1 m2 m3 cC cD cE f2 g f2 g' u (nI ks)) := hD
  refine lv_icmp_eq (tgt := 308) hx hb dL_law_269 (by decide) (fun _ => ?_) (fun hc => absurd (e3) hc)
  exact tail f2 g g' u ks hks hrel H locs hP hD hS ls hl
set_option maxHeartbeats 4000000 in
set_option maxRecDepth 100000 in
theorem law_root {p : Program} {l : Launch} {e : Env} {s : State} {m : MethodId} {below : List Frame} {meth : Method} {c : Code} {dC : Nat → ClassId} {dI : Nat → Nat → Nat} {b L : Nat} {xs : Nat → Int32} {x0 x1 x2 m0 m1 m2 m3 : Nat} {cA cB cC cD cE : ClassId} (hL : L ≤ 2048) (C0 : lw_At p s m meth c b L xs) (hK : va_K (dC, dI) vwCl [(cA, .long), (cB, .long), (cC, .long), (cD, .long), (cE, .long)] s) {i : Nat} (hi : i + 4 ≤ L) (tail : ∀ (f g g' u : Nat → Int64) (ks : Nat), ks ≤ 1024 → zrel g g' ks → ∀ (H : Heap) (locs : List Loc), va_P (dC, dI) vwCl (wX x0 x1 x2 cA cB m0 m1 m2 m3 cC cD cE f g f g' u (nI ks)) H → va_D (fun q : Nat => s.heap.size ≤ q) (wX x0 x1 x2 cA cB m0 m1 m2 m3 cC cD cE f g f g' u (nI ks)) → va_S (fun q : Nat => s.heap.size ≤ q) s.heap H locs → ∀ (ls : Array Slot), lv_has ls 4 [(0, .ref b), (1, .ref x0), (2, .ref m0), (3, .int (nI i))] → W p l e room_1 s m #[Value.ref b] below meth c H locs 7 5126 (lw_Z below #[Value.ref b] s) (F0 m 308 ls [])) (f g g' u : Nat → Int64) (ks : Nat) (hks : ks ≤ 1024) (hrel : zrel g g' ks) (H : Heap) (locs : List Loc) (hP : va_P (dC, dI) vwCl (wX x0 x1 x2 cA cB m0 m1 m2 m3 cC cD cE f g f g' u (nI ks)) H) (hD : va_D (fun q : Nat => s.heap.size ≤ q) (wX x0 x1 x2 cA cB m0 m1 m2 m3 cC cD cE f g f g' u (nI ks))) (hS : va_S (fun q : Nat => s.heap.size ≤ q) s.heap H locs) (ls : Array Slot) (hl : lv_has ls 4 [(0, .ref b), (1, .ref x0), (2, .ref m0), (3, .int (nI i))]) : W p l e room_1 s m #[Value.ref b] below meth c H locs 7 5126 (lw_Z below #[Value.ref b] s) (F0 m 274 ls []) := by
  obtain ⟨hx, hb, hr, hml, hown, hts, hX, hbl, hlocks, hgv⟩ := C0
  have hown : s.vm.findClass RL = some m.cls := hown
  have hts : ∀ w ∈ wsL_law, w.before #[Value.ref b] s = true := fun w h => hts w (wsL_law_in w h)
  have hA : ∀ q : Nat, s.heap.size ≤ q → (fun q : Nat => s.heap.size ≤ q) q := fun _ h => h
  have hbA : ¬ (fun q : Nat => s.heap.size ≤ q) b := Nat.not_le.mpr hbl
  have hKx : va_K (dC, dI) vwCl [(cA, .long), (cB, .long)] s := hK.sub (tys' := [(cA, .long), (cB, .long)]) [0, 1] rfl
  have hKm : va_K (dC, dI) vwCl [(cC, .long), (cD, .long), (cE, .long)] s := hK.sub (tys' := [(cC, .long), (cD, .long), (cE, .long)]) [2, 3, 4] rfl
  refine lv_aload_n hx hb dL_law_274 rfl (lv_at hl 1 rfl) ?_
  refine lv_aload_n hx hb dL_law_275 rfl (lv_at hl 0 rfl) ?_
  refine lv_iload_n hx hb dL_law_276 rfl (lv_at hl 3 rfl) ?_
  refine lv_iconst (v := (1 : Int32)) hx hb dL_law_277 (by decide) ?_
  refine lv_iadd hx hb dL_law_278 ?_
  refine kt_i (v := nI (i + 1)) (nI_add i 1) ?_
  refine ks_ld hx hb hX hbl hbA hS (i := i + 1) (by omega) (by omega) dL_law_279 ?_
  refine lv_aload_n hx hb dL_law_280 rfl (lv_at hl 0 rfl) ?_
  refine lv_iload_n hx hb dL_law_281 rfl (lv_at hl 3 rfl) ?_
  refine lv_iconst (v := (2 : Int32)) hx hb dL_law_282 (by decide) ?_
  refine lv_iadd hx hb dL_law_283 ?_
  refine kt_i (v := nI (i + 2)) (nI_add i 2) ?_
  refine ks_ld hx hb hX hbl hbA hS (i := i + 2) (by omega) (by omega) dL_law_284 ?_
  have hPc := hP.sub (ws' := w3 x0 x1 x2 cA cB f g) [0, 1, 2] rfl
  have hDc := hD.sub (ws' := w3 x0 x1 x2 cA cB f g) [0, 1, 2] (by decide) rfl
  refine kv_l (As := [.int (xs (i + 1)), .int (xs (i + 2))]) (rest := []) (ci := 0) (q := (RX0, TX0, 2)) (wc := w3 x0 x1 x2 cA cB f g) (wr := w4 m0 m1 m2 m3 cC cD cE f g' u (nI ks)) ⟨hx, hb, hml, hown, hts⟩ (m_root l dC dI x0 x1 x2 _ cA cB f g (xs (i + 1)) (xs (i + 2))) (cwV 2 hts gL_law_X0_root rfl rfl rfl (by decide +kernel) ⟨Nat.le_of_ble_eq_true rfl, Nat.le_of_ble_eq_true rfl⟩) hK hKx hP hD hS hA [0, 1, 2] [3, 4, 5, 6] rfl rfl rfl (by decide) hPc hDc rfl rfl rfl hl.1 rfl (Nat.le_of_ble_eq_true rfl) dL_law_285 ⟨Nat.le_of_ble_eq_true rfl, Nat.le_of_ble_eq_true rfl⟩ (fun r1 w1 H locs hr1 hP hD hS => ?_)
  obtain ⟨e1, o1⟩ := hr1
  subst e1
  have hP : va_P (dC, dI) vwCl (wM x0 x1 x2 cA cB m0 m1 m2 m3 cC cD cE f g f g' u (nI ks)) H := hP
  have hD : va_D (fun q : Nat => s.heap.size ≤ q) (wM x0 x1 x2 cA cB m0 m1 m2 m3 cC cD cE f g f g' u (nI ks)) := hD
  refine lv_aload_n hx hb dL_law_288 rfl (lv_at hl 2 rfl) ?_
  refine lv_aload_n hx hb dL_law_289 rfl (lv_at hl 0 rfl) ?_
  refine lv_iload_n hx hb dL_law_290 rfl (lv_at hl 3 rfl) ?_
  refine lv_iconst (v := (1 : Int32)) hx hb dL_law_291 (by decide) ?_
  refine lv_iadd hx hb dL_law_292 ?_
  refine kt_i (v := nI (i + 1)) (nI_add i 1) ?_
  refine ks_ld hx hb hX hbl hbA hS (i := i + 1) (by omega) (by omega) dL_law_293 ?_
  refine lv_aload_n hx hb dL_law_294 rfl (lv_at hl 0 rfl) ?_
  refine lv_iload_n hx hb dL_law_295 rfl (lv_at hl 3 rfl) ?_
  refine lv_iconst (v := (2 : Int32)) hx hb dL_law_296 (by decide) ?_
  refine lv_iadd hx hb dL_law_297 ?_
  refine kt_i (v := nI (i + 2)) (nI_add i 2) ?_
  refine ks_ld hx hb hX hbl hbA hS (i := i + 2) (by omega) (by omega) dL_law_298 ?_
  have hPc := hP.sub (ws' := w4 m0 m1 m2 m3 cC cD cE f g' u (nI ks)) [0, 1, 2, 3] rfl
  have hDc := hD.sub (ws' := w4 m0 m1 m2 m3 cC cD cE f g' u (nI ks)) [0, 1, 2, 3] (by decide) rfl
  refine kv_l (As := [.int (xs (i + 1)), .int (xs (i + 2))]) (rest := [.long r1]) (ci := 1) (q := (RX1, TX1, 4)) (wc := w4 m0 m1 m2 m3 cC cD cE f g' u (nI ks)) (wr := w3 x0 x1 x2 cA cB f g) ⟨hx, hb, hml, hown, hts⟩ (k_root l dC dI m0 m1 m2 m3 _ cC cD cE f g' u (nI ks) (xs (i + 1)) (xs (i + 2))) (cwV 2 hts gL_law_X1_root rfl rfl rfl (by decide +kernel) ⟨Nat.le_of_ble_eq_true rfl, Nat.le_of_ble_eq_true rfl⟩) hK hKm hP hD hS hA [0, 1, 2, 3] [4, 5, 6] rfl rfl rfl (by decide) hPc hDc rfl rfl rfl hl.1 rfl (Nat.le_of_ble_eq_true rfl) dL_law_299 ⟨Nat.le_of_ble_eq_true rfl, Nat.le_of_ble_eq_true rfl⟩ (fun r2 w2 H locs hr2 hP hD hS => ?_)
  obtain ⟨e2, o2⟩ := hr2
  subst e2
  have hP : va_P (dC, dI) vwCl (wX x0 x1 x2 cA cB m0 m1 m2 m3 cC cD cE f g f g' u (nI ks)) H := hP
  have hD : va_D (fun q : Nat => s.heap.size ≤ q) (wX x0 x1 x2 cA cB m0 m1 m2 m3 cC cD cE f g f g' u (nI ks)) := hD
  refine W.lcmp hx hb dL_law_302 ?_
  refine lv_if_eq (tgt := 308) hx hb dL_law_303 (by decide) (fun _ => ?_) (fun hc => absurd ((lg_cmp_eq _ _).mpr (oR_un o1 o2)) hc)
  exact tail f g g' u ks hks hrel H locs hP hD hS ls hl
end
section
/-! the law's loop, its start, the claim -/
set_option maxHeartbeats 4000000 in
set_option maxRecDepth 100000 in
/-- THE LAW'S LOOP: both rows are alike, and what is kept agrees -/
theorem law_loop {p : Program} {l : Launch} {e : Env} {s : State} {m : MethodId} {below : List Frame} {meth : Method} {c : Code} {dC : Nat → ClassId} {dI : Nat → Nat → Nat} {b L : Nat} {xs : Nat → Int32} {x0 x1 x2 m0 m1 m2 m3 : Nat} {cA cB cC cD cE : ClassId} (hL : L ≤ 2048) (C0 : lw_At p s m meth c b L xs) (hK : va_K (dC, dI) vwCl [(cA, .long), (cB, .long), (cC, .long), (cD, .long), (cE, .long)] s) : ∀ (n i : Nat) (f g g' u : Nat → Int64) (ks : Nat), L + 1 ≤ i + n → i ≤ L → ks ≤ 1024 → zrel g g' ks → ∀ (H : Heap) (locs : List Loc), va_P (dC, dI) vwCl (wX x0 x1 x2 cA cB m0 m1 m2 m3 cC cD cE f g f g' u (nI ks)) H → va_D (fun q : Nat => s.heap.size ≤ q) (wX x0 x1 x2 cA cB m0 m1 m2 m3 cC cD cE f g f g' u (nI ks)) → va_S (fun q : Nat => s.heap.size ≤ q) s.heap H locs → ∀ (ls : Array Slot), lv_has ls 4 [(0, .ref b), (1, .ref x0), (2, .ref m0), (3, .int (nI i))] → W p l e room_1 s m #[Value.ref b] below meth c H locs 7 5126 (lw_Z below #[Value.ref b] s) (F0 m 18 ls []) := by
  intro n
  induction n with
  | zero => intro i f g g' u ks y1 y2; exact absurd y1 (by omega)
  | succ n ih =>
    intro i f g g' u ks y1 y2 hks hrel H locs hP hD hS ls hl
    obtain ⟨hx, hb, hr, hml, hown, hts, hX, hbl, hlocks, hgv⟩ := id C0
    have hbA : ¬ (fun q : Nat => s.heap.size ≤ q) b := Nat.not_le.mpr hbl
    refine lv_iload_n hx hb dL_law_18 rfl (lv_at hl 3 rfl) ?_
    refine lv_aload_n hx hb dL_law_19 rfl (lv_at hl 0 rfl) ?_
    refine va_slen hx hb hX hbl hbA hS dL_law_20 ?_
    refine lv_iconst (v := nI 4) hx hb dL_law_21 (by decide) ?_
    refine lv_isub hx hb dL_law_22 ?_
    refine lv_icmp_gt (tgt := 314) hx hb dL_law_23 (by decide) (fun hc => ?_) (fun hc => ?_)
    · refine lv_iconst (v := 1) hx hb dL_law_314 (by decide) ?_
      refine va_forget (fun q hq => hS.2.2 q hq) ?_
      exact lw_ret hx hb hr hlocks dL_law_315
    · have hi4 : i + 4 ≤ L := by
        have h1 : ¬ (nI L - nI 4).toInt < (nI i).toInt := fun z => hc (Int32.lt_iff_toInt_lt.mpr z)
        rw [pk_sub_toInt (by omega) (by omega), nI_toInt (by omega)] at h1
        omega
      have tail : ∀ (f g g' u : Nat → Int64) (ks : Nat), ks ≤ 1024 → zrel g g' ks → ∀ (H : Heap) (locs : List Loc), va_P (dC, dI) vwCl (wX x0 x1 x2 cA cB m0 m1 m2 m3 cC cD cE f g f g' u (nI ks)) H → va_D (fun q : Nat => s.heap.size ≤ q) (wX x0 x1 x2 cA cB m0 m1 m2 m3 cC cD cE f g f g' u (nI ks)) → va_S (fun q : Nat => s.heap.size ≤ q) s.heap H locs → ∀ (ls : Array Slot), lv_has ls 4 [(0, .ref b), (1, .ref x0), (2, .ref m0), (3, .int (nI i))] → W p l e room_1 s m #[Value.ref b] below meth c H locs 7 5126 (lw_Z below #[Value.ref b] s) (F0 m 308 ls []) := by
        intro f g g' u ks hks hrel H locs hP hD hS ls hl
        refine lv_iinc (v := nI (i + 4)) (lv' := [(3, .int (nI (i + 4))), (0, .ref b), (1, .ref x0), (2, .ref m0)]) hx hb dL_law_308 hl (k := 3) rfl (nI_add i 4) (by decide) rfl (fun ls hl => ?_)
        refine lv_goto (tgt := 18) hx hb dL_law_311 (by decide) ?_
        exact ih (i + 4) f g g' u ks (by omega) (by omega) hks hrel H locs hP hD hS ls (lv_sub hl [1, 2, 3, 0] rfl)
      refine lv_aload_n hx hb dL_law_26 rfl (lv_at hl 0 rfl) ?_
      refine lv_iload_n hx hb dL_law_27 rfl (lv_at hl 3 rfl) ?_
      refine ks_ld hx hb hX hbl hbA hS (i := i) (by omega) (by omega) dL_law_28 ?_
      refine lv_bipush (v := 7) hx hb dL_law_29 (by decide) ?_
      refine lv_iand hx hb dL_law_31 ?_
      obtain ⟨t, ht, et⟩ := pk_andE (xs i) (m := 7) 3 (by decide)
      refine kt_i et ?_
      have h8 : t = 0 ∨ t = 1 ∨ t = 2 ∨ t = 3 ∨ t = 4 ∨ t = 5 ∨ t = 6 ∨ t = 7 := by omega
      rcases h8 with rfl | rfl | rfl | rfl | rfl | rfl | rfl | rfl
      · refine lv_tableIn (off := 40) (tgt := 72) hx hb dL_law_32 (by decide) (by decide) (by decide) (by decide) ?_
        exact law_put hL C0 hK hi4 tail f g g' u ks hks hrel H locs hP hD hS ls hl
      · refine lv_tableIn (off := 103) (tgt := 135) hx hb dL_law_32 (by decide) (by decide) (by decide) (by decide) ?_
        exact law_get hL C0 hK hi4 tail f g g' u ks hks hrel H locs hP hD hS ls hl
      · refine lv_tableIn (off := 127) (tgt := 159) hx hb dL_law_32 (by decide) (by decide) (by decide) (by decide) ?_
        exact law_transform hL C0 hK hi4 tail f g g' u ks hks hrel H locs hP hD hS ls hl
      · refine lv_tableIn (off := 186) (tgt := 218) hx hb dL_law_32 (by decide) (by decide) (by decide) (by decide) ?_
        exact law_keep hL C0 hK hi4 tail f g g' u ks hks hrel H locs hP hD hS ls hl
      · refine lv_tableIn (off := 209) (tgt := 241) hx hb dL_law_32 (by decide) (by decide) (by decide) (by decide) ?_
        exact law_times hL C0 hK hi4 tail f g g' u ks hks hrel H locs hP hD hS ls hl
      · refine lv_tableIn (off := 242) (tgt := 274) hx hb dL_law_32 (by decide) (by decide) (by decide) (by decide) ?_
        exact law_root hL C0 hK hi4 tail f g g' u ks hks hrel H locs hP hD hS ls hl
      · refine lv_tableOut (tgt := 308) hx hb dL_law_32 (Or.inr (by decide)) (by decide) ?_
        exact tail f g g' u ks hks hrel H locs hP hD hS ls hl
      · refine lv_tableOut (tgt := 308) hx hb dL_law_32 (Or.inr (by decide)) (by decide) ?_
        exact tail f g g' u ks hks hrel H locs hP hD hS ls hl
set_option maxHeartbeats 4000000 in
set_option maxRecDepth 100000 in
theorem whole_start {p : Program} {e : Env} {s : State} {m : MethodId} {below : List Frame} {meth : Method} {c : Code} (l : Launch) {b L : Nat} {xs : Nat → Int32} (hL : L ≤ 2048) (C0 : lw_At p s m meth c b L xs) : W p l e room_1 s m #[Value.ref b] below meth c s.heap [] 0 0 (lw_Z below #[Value.ref b] s) (entryFrame m ([Value.ref b] : List Value).toArray 4) := by
  obtain ⟨hx, hb, hr, hml, hown, hts, hX, hbl, hlocks, hgv⟩ := id C0
  have hown : s.vm.findClass RL = some m.cls := hown
  have hts : ∀ w ∈ wsL_law, w.before #[Value.ref b] s = true := fun w h => hts w (wsL_law_in w h)
  have hA : ∀ q : Nat, s.heap.size ≤ q → (fun q : Nat => s.heap.size ≤ q) q := fun _ h => h
  have hbA : ¬ (fun q : Nat => s.heap.size ≤ q) b := Nat.not_le.mpr hbl
  obtain ⟨c0, iS0, hKn0⟩ := u_known (C := RX0) (T := TX0) (N := 2) (n := 2) hts inlX0 (hts (.instantiable RX0 2) (by decide +kernel))
  obtain ⟨c1, iS1, hKn1⟩ := u_known (C := RX1) (T := TX1) (N := 4) (n := 4) hts inlX1 (hts (.instantiable RX1 4) (by decide +kernel))
  obtain ⟨dC, dI, hKc⟩ : ∃ (dC : Nat → ClassId) (dI : Nat → Nat → Nat), ∀ (k : Nat) (q : vw_C), vwCl[k]? = some q → u_Kn s q.1 q.2.1 q.2.2 (dC k) (dI k) := by
    refine ⟨fun k => if k = 0 then c0 else c1, fun k => if k = 0 then iS0 else iS1, ?_⟩
    intro k q hq
    match k, hq with
    | 0, hq => cases hq; exact hKn0
    | 1, hq => cases hq; exact hKn1
    | k + 2, hq => simp [vwCl] at hq
  have hS : va_S (fun q : Nat => s.heap.size ≤ q) s.heap s.heap [] := va_S.rf
  have hK : va_K (dC, dI) vwCl [] s := ⟨hKc, fun k q h => by simp at h⟩
  have hP : va_P (dC, dI) vwCl [] s.heap := fun k q h => by simp at h
  have hD : va_D (fun q : Nat => s.heap.size ≤ q) [] := ⟨fun i j p q h => by simp at h, fun k q h => by simp at h⟩
  have hl := lv_entry ([.ref b]) (n := 4) (Nat.le_of_ble_eq_true rfl)
  rw [lg_entry_eq]
  generalize (lg_sl ([.ref b]) ++ List.replicate (4 - (lg_sl ([.ref b])).length) Slot.unset).toArray = ls at hl ⊢
  have hl : lv_has ls 4 [(0, .ref b)] := hl
  refine va_new (ci := 0) (fs := [.null, .null]) (C := RX0) (T := TX0) (N := 2) hx hb hts inlX0 tyX0 tyX0_ok hown (hts (.classLink RL 7 RX0) (by decide +kernel)) (hts (.instantiable RX0 2) (by decide +kernel)) (hts (.initialized RX0) (by decide +kernel)) hK hP hD hS hA rfl (fun j hj => by rcases (show j = 0 ∨ j = 1 by omega) with rfl | rfl <;> rfl) (Nat.le_of_ble_eq_true rfl) (Nat.le_of_ble_eq_true rfl) dL_law_0 (fun x0 H hP hD hS => ?_)
  have hP : va_P (dC, dI) vwCl [(x0, .inr (0, [.null, .null]))] H := hP
  have hD : va_D (fun q : Nat => s.heap.size ≤ q) [(x0, .inr (0, [.null, .null]))] := hD
  refine W.widen (k := 1) (n := 2) (by omega) (by omega) ?_
  refine lv_dup hx hb dL_law_3 rfl ?_
  have hPc := hP.sub (ws' := [(x0, .inr (0, [.null, .null]))]) [0] rfl
  have hDc := hD.sub (ws' := [(x0, .inr (0, [.null, .null]))]) [0] (by decide) rfl
  have hKc := hK.sub (tys' := []) [] rfl
  have hFc := va_free (wc := [(x0, .inr (0, [.null, .null]))]) hD hS hA [0] rfl
  refine va_callv (va_runI (As := []) (rest := [.ref x0]) ⟨hx, hb, hml, hown, hts⟩ (m_init l dC dI x0 H.size) (cwI 0 hts gL_law_X0_init rfl rfl rfl (hts (.initialized RX0) (by decide +kernel)) (hts (.methodLink RL 9 yX0_init) (by decide +kernel)) (hts (.instanceMethod yX0_init) (by decide +kernel)) rfl (by decide +kernel) ⟨Nat.le_of_ble_eq_true rfl, Nat.le_of_ble_eq_true rfl⟩) ⟨kPre_blind, fun U hU hW => ⟨rfl, by rw [hU], by rw [hU]; exact hPc, va_K.moved hW.alike hKc, hDc.weaken (fun _ _ _ _ => trivial)⟩⟩ rfl rfl hl.1 rfl (lv_room (Nat.le_of_ble_eq_true rfl)) dL_law_4 ⟨Nat.le_of_ble_eq_true rfl, Nat.le_of_ble_eq_true rfl⟩) hS (fun q _ h => hFc q h) hFc (fun u t H1 locs ht hvm hw hB hz1 hk1 hS => ?_)
  obtain ⟨x1, x2, cA, cB⟩ := u
  obtain ⟨hP1, hK1, hD1⟩ := hB
  rw [ht] at hP1
  have hK1 := va_K.moved hvm.symm hK1
  obtain ⟨hP, hD⟩ := va_join (wr := []) (w1 := w3 x0 x1 x2 cA cB (fun _ => 0) (fun _ => 0)) hP hD [0] [] rfl rfl (by decide) (by decide) hk1 hFc hP1 hD1
  have hK := (hK.sub (tys' := []) [] rfl).app hK1
  generalize H1 = H at hP hS ⊢
  have hP : va_P (dC, dI) vwCl (w3 x0 x1 x2 cA cB (fun _ => 0) (fun _ => 0)) H := hP
  have hD : va_D (fun q : Nat => s.heap.size ≤ q) (w3 x0 x1 x2 cA cB (fun _ => 0) (fun _ => 0)) := hD
  have hK : va_K (dC, dI) vwCl [(cA, .long), (cB, .long)] s := hK
  refine W.widen (k := 3) (n := 2050) (by omega) (by omega) ?_
  refine lv_astore_n (lv' := [(1, .ref x0), (0, .ref b)]) hx hb dL_law_7 rfl hl (by decide) rfl (fun ls hl => ?_)
  refine va_new (ci := 1) (fs := [.null, .null, .null, .int 0]) (C := RX1) (T := TX1) (N := 4) hx hb hts inlX1 tyX1 tyX1_ok hown (hts (.classLink RL 10 RX1) (by decide +kernel)) (hts (.instantiable RX1 4) (by decide +kernel)) (hts (.initialized RX1) (by decide +kernel)) hK hP hD hS hA rfl (fun j hj => by rcases (show j = 0 ∨ j = 1 ∨ j = 2 ∨ j = 3 by omega) with rfl | rfl | rfl | rfl <;> rfl) (Nat.le_of_ble_eq_true rfl) (Nat.le_of_ble_eq_true rfl) dL_law_8 (fun m0 H hP hD hS => ?_)
  have hP : va_P (dC, dI) vwCl [(x0, .inr (0, [.ref x1, .ref x2])), (x1, .inl (cA, 1024, .inr (.inl (fun _ => 0)))), (x2, .inl (cB, 1024, .inr (.inl (fun _ => 0)))), (m0, .inr (1, [.null, .null, .null, .int 0]))] H := hP
  have hD : va_D (fun q : Nat => s.heap.size ≤ q) [(x0, .inr (0, [.ref x1, .ref x2])), (x1, .inl (cA, 1024, .inr (.inl (fun _ => 0)))), (x2, .inl (cB, 1024, .inr (.inl (fun _ => 0)))), (m0, .inr (1, [.null, .null, .null, .int 0]))] := hD
  refine W.widen (k := 4) (n := 2054) (by omega) (by omega) ?_
  refine lv_dup hx hb dL_law_11 rfl ?_
  have hPc := hP.sub (ws' := [(m0, .inr (1, [.null, .null, .null, .int 0]))]) [3] rfl
  have hDc := hD.sub (ws' := [(m0, .inr (1, [.null, .null, .null, .int 0]))]) [3] (by decide) rfl
  have hKc := hK.sub (tys' := []) [] rfl
  have hFc := va_free (wc := [(m0, .inr (1, [.null, .null, .null, .int 0]))]) hD hS hA [3] rfl
  refine va_callv (va_runI (As := []) (rest := [.ref m0]) ⟨hx, hb, hml, hown, hts⟩ (k_init l dC dI m0 H.size) (cwI 0 hts gL_law_X1_init rfl rfl rfl (hts (.initialized RX1) (by decide +kernel)) (hts (.methodLink RL 12 yX1_init) (by decide +kernel)) (hts (.instanceMethod yX1_init) (by decide +kernel)) rfl (by decide +kernel) ⟨Nat.le_of_ble_eq_true rfl, Nat.le_of_ble_eq_true rfl⟩) ⟨kPre_blind, fun U hU hW => ⟨rfl, by rw [hU], by rw [hU]; exact hPc, va_K.moved hW.alike hKc, hDc.weaken (fun _ _ _ _ => trivial)⟩⟩ rfl rfl hl.1 rfl (lv_room (Nat.le_of_ble_eq_true rfl)) dL_law_12 ⟨Nat.le_of_ble_eq_true rfl, Nat.le_of_ble_eq_true rfl⟩) hS (fun q _ h => hFc q h) hFc (fun u t H1 locs ht hvm hw hB hz1 hk1 hS => ?_)
  obtain ⟨m1, m2, m3, cC, cD, cE⟩ := u
  obtain ⟨hP1, hK1, hD1⟩ := hB
  rw [ht] at hP1
  have hK1 := va_K.moved hvm.symm hK1
  obtain ⟨hP, hD⟩ := va_join (wr := w3 x0 x1 x2 cA cB (fun _ => 0) (fun _ => 0)) (w1 := w4 m0 m1 m2 m3 cC cD cE (fun _ => 0) (fun _ => 0) (fun _ => 0) 0) hP hD [3] [0, 1, 2] rfl rfl (by decide) (by decide) hk1 hFc hP1 hD1
  have hK := (hK.sub (tys' := [(cA, .long), (cB, .long)]) [0, 1] rfl).app hK1
  generalize H1 = H at hP hS ⊢
  have hP : va_P (dC, dI) vwCl (wX x0 x1 x2 cA cB m0 m1 m2 m3 cC cD cE (fun _ => 0) (fun _ => 0) (fun _ => 0) (fun _ => 0) (fun _ => 0) (nI 0)) H := hP
  have hD : va_D (fun q : Nat => s.heap.size ≤ q) (wX x0 x1 x2 cA cB m0 m1 m2 m3 cC cD cE (fun _ => 0) (fun _ => 0) (fun _ => 0) (fun _ => 0) (fun _ => 0) (nI 0)) := hD
  have hK : va_K (dC, dI) vwCl [(cA, .long), (cB, .long), (cC, .long), (cD, .long), (cE, .long)] s := hK
  refine W.widen (k := 7) (n := 5126) (by omega) (by omega) ?_
  refine lv_astore_n (lv' := [(2, .ref m0), (1, .ref x0), (0, .ref b)]) hx hb dL_law_15 rfl hl (by decide) rfl (fun ls hl => ?_)
  refine lv_iconst (v := nI 0) hx hb dL_law_16 (by decide) ?_
  refine lv_istore_n (lv' := [(3, .int (nI 0)), (2, .ref m0), (1, .ref x0), (0, .ref b)]) hx hb dL_law_17 rfl hl (by decide) rfl (fun ls hl => ?_)
  exact law_loop hL C0 hK (L + 1) 0 (fun _ => 0) (fun _ => 0) (fun _ => 0) (fun _ => 0) 0 (by omega) (by omega) (by omega) (fun j => rfl) H _ hP hD hS ls (lv_sub hl [3, 2, 1, 0] rfl)
set_option maxHeartbeats 4000000 in
theorem lw_walk (l : Launch) (b : Addr) (xs : List Int32) : MetFree l x (headSpec (Jvm.Cond.code x code maxLocals ret :: tables_1) room_1) (lw_P b xs) (fun _ _ _ _ _ => True) lw_Q := by
  refine MetFree.of_bodyS (code := code) (maxLocals := maxLocals) (ret := ret) (by decide) ?_ ?_
  · intro args s m h hn
    obtain ⟨meth, c, h1, h2, h3, h4, h5, h6, -, -⟩ := Cond.code_spec hn (atoms_spec (ws := Jvm.Cond.code x code maxLocals ret :: tables_1) h _ List.mem_cons_self)
    exact ⟨meth, c, h1, h2, h3, h4, h5, h6⟩
  · intro p e s m args below meth c s₁ B hml0 hP _
    obtain ⟨rfl, hx, hbd, hgv⟩ := hP
    obtain ⟨scr, harrAt, hlist, hof, hsmall⟩ := hx
    obtain ⟨hcb, hkn, -, -⟩ := State.arrayAt?_spec harrAt
    have hown : s.vm.findClass R_law = some m.cls := findClass_of_methodNamed B.named
    have hts0 : ∀ c ∈ (Jvm.Cond.code x code maxLocals ret :: tables_1), c.before #[Value.ref b] s = true := atoms_spec (ws := Jvm.Cond.code x code maxLocals ret :: tables_1) B.pre
    have hts : ∀ w ∈ lw_tbl, w.before #[Value.ref b] s = true := k2_hts_sels lw_privs (fun w hw => hts0 w (List.mem_cons_of_mem _ hw)) lw_privs_ok
    have hml : c.maxLocals = 4 := B.maxLocals_eq (hts0 _ List.mem_cons_self)
    have X₀ : Stand p l e room_1 s m #[Value.ref b] below meth c s₁ [] 0 0 := Stand.of_body B
    have hh0 : s₁.heap = s.heap := by rw [B.state]; rfl
    have hsz : scr.slots.size = xs.length := by rw [← Array.length_toList, hlist, List.length_map]
    have hval : ∀ j : Nat, j < xs.length → scr.slots[j]? = some (.int (xs.getD j 0)) := fun j hj => by
      rw [← Array.getElem?_toList, hlist]
      simp [hj]
    have hbl : b < s.heap.size := (Array.getElem?_eq_some_iff.mp hcb).1
    have hX : va_X b xs.length (fun j => xs.getD j 0) s s.heap := ⟨scr, hcb, hof, hkn, hsz, hval⟩
    have K : W p l e room_1 s m #[Value.ref b] below meth c s₁.heap [] 0 0 (lw_Z below #[Value.ref b] s) (entryFrame m ([Value.ref b] : List Value).toArray 4) := by
      rw [hh0]
      exact whole_start l hbd ⟨B.exec, B.bytes, B.returns, hml, hown, hts, hX, hbl, B.notSynchronized, hgv⟩
    obtain ⟨t, a1, o, b1, b2, b3⟩ := K s₁ rfl X₀
    exact ⟨t, o, a1, b1, b2, b3⟩
theorem lw_pre_spec {args : Array Value} {s : State} (h : (Jvm.Cond.and given_1 narrow_1).before args s = true) (hr : rest_1_c.before args s = true) : ∃ (b : Addr) (xs : List Int32), lw_P b xs args s := by
  have hs := flat_of_before _ h
  have hq := flat_of_before _ hr
  have hc : (Cond.count 1).before args s = true := hs _ (by decide +kernel)
  have harr : (Cond.arrayOf (.arg 0) .int).before args s = true := hs _ (by decide +kernel)
  have hle : (Cond.le (.length (.arg 0)) (.int 2048)).before args s = true := hs _ (by decide +kernel)
  have hlen : (Cond.isInt (.length (.arg 0))).before args s = true := hq _ (by decide +kernel)
  have hall : (Cond.all (.arg 0) (.isInt (.elem (.arg 0) (.index 0)))).before args s = true := hq _ (by decide +kernel)
  obtain ⟨b, xs, hb, hx⟩ := State.ints_of_pre rfl harr hlen hall
  have hsm : xs.length < 2 ^ 31 := hx.choose_spec.2.2.2
  have hev : (Term.length (.arg 0)).eval args s none [] s = some (.int xs.length.toInt32) := hx.length_eval hb
  have hv := Cond.le_ints hev (show (Term.int 2048).eval args s none [] s = some (.int 2048) from rfl)
  have hd : xs.length.toInt32 ≤ 2048 := by
    simpa [Cond.before, Cond.holds, hv] using hle
  have hN : xs.length ≤ 2048 := (Int32.ofNat_le_ofNat hsm (by decide)).mp (show Int32.ofNat xs.length ≤ Int32.ofNat 2048 from hd)
  exact ⟨b, xs, Cond.one_arg hc (show args[0]? = some (.ref b) from hb), hx, hN, h⟩
theorem lw_comes (l : Launch) : Comes l x (Jvm.Cond.code x code maxLocals ret :: tables_1) room_1 (fun tb e args s => Calls_1 tb e args s ∧ rest_1 tb e args s ∧ Pre_1 tb e args s)
    (fun _ _ args s o t => lw_Q args s o t) := by
  intro p e ha hc hk s m args below hf hfit hheap happ hpre
  obtain ⟨b, xs, hP⟩ := lw_pre_spec hpre.2.2 hpre.2.1
  obtain ⟨k, o, h1, h2, h3, hQ⟩ := lw_walk l b xs p e ha hc hk s m args below hf ((Spec.applies_iff_loose hf).mp happ).1 hP trivial
  exact ⟨k, o, h1, h2, h3, hQ⟩
theorem lw_frame {s t : State} {o : Outcome} {args : Array Value} (h : Framed s o t [] 7 5126) :
    Framed s o t (fieldLocs frame_1_writes args s ++ arrayLocs frame_1_arrays args s ++ staticLocs frame_1_statics s) 7 5126 := h
theorem lw_limb (L : Cond) (hL : ∀ (args : Array Value) (s t : State), L.after args s (.returned (some (.int 1))) t = true) :
    ArmFor flags0 classFile x code maxLocals ret World_1 tables_1 room_1 Calls_1 rest_1 Pre_1
      (fun tb e a s o t => postC L tb e a s o t ∧ Framed s o t (fieldLocs frame_1_writes a s ++ arrayLocs frame_1_arrays a s ++ staticLocs frame_1_statics s) 7 5126) := by
  intro l _ _ _ p e ha hc hk s m args below hf hfit hheap happ hpre
  obtain ⟨k, o, h1, h2, h3, rfl, hF⟩ := lw_comes l p e ha hc hk s m args below hf hfit hheap happ hpre
  exact ⟨k, _, h1, h2, h3, hL args s _, lw_frame hF⟩
theorem i_vc : Claimed_1_1 ∧ Claimed_1_2 := ⟨lw_limb limb_1_1 (fun args s t => by simp [limb_1_1, Cond.after, Cond.holds, Cond.value]), lw_limb limb_1_2 (fun args s t => Cond.after_iff.mpr (by
  first | (rw [show limb_1_2 = Cond.eq .result (.int 1) from rfl, Cond.eq_ints (x := 1) (y := 1) rfl rfl]; simp; done) | (simp [limb_1_2, Cond.value, Term.eval]; done)))⟩
end
