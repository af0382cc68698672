section
-- ===== PART A: goes FIRST, ahead of the names: the tables' words, and 'selects' of the private methods out of them =====
/-- a private method of a class that the tables say can be made, by its rows of tables_1 -/
def lw_okq (q : MethodName × Nat) : Prop := (q.1.cls ≠ "java/lang/invoke/MethodHandle" ∧ q.1.cls ≠ "java/lang/invoke/VarHandle") ∧ Cond.instantiable q.1.cls q.2 ∈ tables_1 ∧ Cond.privateMethod q.1 ∈ tables_1 ∧ Cond.instanceMethod q.1 ∈ tables_1
theorem lw_p0 : lw_okq (⟨"GrowingCorners", "lookAtItems", "(IIII)I"⟩, 6) := ⟨⟨by decide +kernel, by decide +kernel⟩, List.mem_of_getElem? (i := 10) (by decide +kernel), List.mem_of_getElem? (i := 184) (by decide +kernel), List.mem_of_getElem? (i := 185) (by decide +kernel)⟩
theorem lw_p1 : lw_okq (⟨"GrowingCorners$Grid", "growCorner", "(II)V"⟩, 6) := ⟨⟨by decide +kernel, by decide +kernel⟩, List.mem_of_getElem? (i := 18) (by decide +kernel), List.mem_of_getElem? (i := 260) (by decide +kernel), List.mem_of_getElem? (i := 261) (by decide +kernel)⟩
theorem lw_p2 : lw_okq (⟨"GrowingCorners$Grid", "productsBefore", "(II)J"⟩, 6) := ⟨⟨by decide +kernel, by decide +kernel⟩, List.mem_of_getElem? (i := 18) (by decide +kernel), List.mem_of_getElem? (i := 292) (by decide +kernel), List.mem_of_getElem? (i := 293) (by decide +kernel)⟩
theorem lw_p3 : lw_okq (⟨"GrowingCorners$Grid", "lineGoesDown", "(II)Z"⟩, 6) := ⟨⟨by decide +kernel, by decide +kernel⟩, List.mem_of_getElem? (i := 18) (by decide +kernel), List.mem_of_getElem? (i := 317) (by decide +kernel), List.mem_of_getElem? (i := 318) (by decide +kernel)⟩
theorem lw_p4 : lw_okq (⟨"GrowingCorners$Tableau", "firstGreater", "(II)I"⟩, 4) := ⟨⟨by decide +kernel, by decide +kernel⟩, List.mem_of_getElem? (i := 72) (by decide +kernel), List.mem_of_getElem? (i := 342) (by decide +kernel), List.mem_of_getElem? (i := 343) (by decide +kernel)⟩
theorem lw_p5 : lw_okq (⟨"GrowingCorners$Tableau", "exchange", "(III)I"⟩, 4) := ⟨⟨by decide +kernel, by decide +kernel⟩, List.mem_of_getElem? (i := 72) (by decide +kernel), List.mem_of_getElem? (i := 360) (by decide +kernel), List.mem_of_getElem? (i := 361) (by decide +kernel)⟩
theorem lw_p6 : lw_okq (⟨"GrowingCorners", "laidIsAsTold", "()Z"⟩, 6) := ⟨⟨by decide +kernel, by decide +kernel⟩, List.mem_of_getElem? (i := 10) (by decide +kernel), List.mem_of_getElem? (i := 424) (by decide +kernel), List.mem_of_getElem? (i := 425) (by decide +kernel)⟩
theorem lw_p7 : lw_okq (⟨"GrowingCorners", "readLaidIntoDraft", "(I)V"⟩, 6) := ⟨⟨by decide +kernel, by decide +kernel⟩, List.mem_of_getElem? (i := 10) (by decide +kernel), List.mem_of_getElem? (i := 449) (by decide +kernel), List.mem_of_getElem? (i := 450) (by decide +kernel)⟩
theorem lw_p8 : lw_okq (⟨"GrowingCorners$Tableau", "lastLess", "(II)I"⟩, 4) := ⟨⟨by decide +kernel, by decide +kernel⟩, List.mem_of_getElem? (i := 72) (by decide +kernel), List.mem_of_getElem? (i := 466) (by decide +kernel), List.mem_of_getElem? (i := 467) (by decide +kernel)⟩
theorem lw_p9 : lw_okq (⟨"GrowingCornersModel", "isPlace", "(II)Z"⟩, 22) := ⟨⟨by decide +kernel, by decide +kernel⟩, List.mem_of_getElem? (i := 495) (by decide +kernel), List.mem_of_getElem? (i := 581) (by decide +kernel), List.mem_of_getElem? (i := 582) (by decide +kernel)⟩
theorem lw_p10 : lw_okq (⟨"GrowingCornersModel", "findBest", "(II)V"⟩, 22) := ⟨⟨by decide +kernel, by decide +kernel⟩, List.mem_of_getElem? (i := 495) (by decide +kernel), List.mem_of_getElem? (i := 614) (by decide +kernel), List.mem_of_getElem? (i := 615) (by decide +kernel)⟩
theorem lw_p11 : lw_okq (⟨"GrowingCornersModel", "findShapes", "()V"⟩, 22) := ⟨⟨by decide +kernel, by decide +kernel⟩, List.mem_of_getElem? (i := 495) (by decide +kernel), List.mem_of_getElem? (i := 630) (by decide +kernel), List.mem_of_getElem? (i := 631) (by decide +kernel)⟩
theorem lw_p12 : lw_okq (⟨"GrowingCornersModel", "makeTableaux", "()V"⟩, 22) := ⟨⟨by decide +kernel, by decide +kernel⟩, List.mem_of_getElem? (i := 495) (by decide +kernel), List.mem_of_getElem? (i := 665) (by decide +kernel), List.mem_of_getElem? (i := 666) (by decide +kernel)⟩
theorem lw_p13 : lw_okq (⟨"GrowingCornersModel", "insert", "(II)V"⟩, 22) := ⟨⟨by decide +kernel, by decide +kernel⟩, List.mem_of_getElem? (i := 495) (by decide +kernel), List.mem_of_getElem? (i := 669) (by decide +kernel), List.mem_of_getElem? (i := 670) (by decide +kernel)⟩
theorem lw_p14 : lw_okq (⟨"GrowingCornersModel", "areTableaux", "()Z"⟩, 22) := ⟨⟨by decide +kernel, by decide +kernel⟩, List.mem_of_getElem? (i := 495) (by decide +kernel), List.mem_of_getElem? (i := 700) (by decide +kernel), List.mem_of_getElem? (i := 701) (by decide +kernel)⟩
theorem lw_p15 : lw_okq (⟨"GrowingCornersModel", "addPlace", "(II)V"⟩, 22) := ⟨⟨by decide +kernel, by decide +kernel⟩, List.mem_of_getElem? (i := 495) (by decide +kernel), List.mem_of_getElem? (i := 712) (by decide +kernel), List.mem_of_getElem? (i := 713) (by decide +kernel)⟩
def lw_privs_1 : List (MethodName × Nat) := [(⟨"GrowingCorners", "lookAtItems", "(IIII)I"⟩, 6), (⟨"GrowingCorners$Grid", "growCorner", "(II)V"⟩, 6), (⟨"GrowingCorners$Grid", "productsBefore", "(II)J"⟩, 6), (⟨"GrowingCorners$Grid", "lineGoesDown", "(II)Z"⟩, 6), (⟨"GrowingCorners$Tableau", "firstGreater", "(II)I"⟩, 4), (⟨"GrowingCorners$Tableau", "exchange", "(III)I"⟩, 4), (⟨"GrowingCorners", "laidIsAsTold", "()Z"⟩, 6), (⟨"GrowingCorners", "readLaidIntoDraft", "(I)V"⟩, 6), (⟨"GrowingCorners$Tableau", "lastLess", "(II)I"⟩, 4), (⟨"GrowingCornersModel", "isPlace", "(II)Z"⟩, 22), (⟨"GrowingCornersModel", "findBest", "(II)V"⟩, 22), (⟨"GrowingCornersModel", "findShapes", "()V"⟩, 22), (⟨"GrowingCornersModel", "makeTableaux", "()V"⟩, 22), (⟨"GrowingCornersModel", "insert", "(II)V"⟩, 22), (⟨"GrowingCornersModel", "areTableaux", "()Z"⟩, 22), (⟨"GrowingCornersModel", "addPlace", "(II)V"⟩, 22)]
theorem lw_r1 : ∀ q ∈ lw_privs_1, lw_okq q := List.forall_mem_cons.mpr ⟨lw_p0, List.forall_mem_cons.mpr ⟨lw_p1, List.forall_mem_cons.mpr ⟨lw_p2, List.forall_mem_cons.mpr ⟨lw_p3, List.forall_mem_cons.mpr ⟨lw_p4, List.forall_mem_cons.mpr ⟨lw_p5, List.forall_mem_cons.mpr ⟨lw_p6, List.forall_mem_cons.mpr ⟨lw_p7, List.forall_mem_cons.mpr ⟨lw_p8, List.forall_mem_cons.mpr ⟨lw_p9, List.forall_mem_cons.mpr ⟨lw_p10, List.forall_mem_cons.mpr ⟨lw_p11, List.forall_mem_cons.mpr ⟨lw_p12, List.forall_mem_cons.mpr ⟨lw_p13, List.forall_mem_cons.mpr ⟨lw_p14, List.forall_mem_cons.mpr ⟨lw_p15, fun _ h => absurd h List.not_mem_nil⟩⟩⟩⟩⟩⟩⟩⟩⟩⟩⟩⟩⟩⟩⟩⟩
def lw_privs : List (MethodName × Nat) := lw_privs_1
def lw_tbl : List Cond := k2_sels lw_privs ++ tables_1
theorem lw_privs_ok : ∀ q ∈ lw_privs, lw_okq q := lw_r1
/-! ===== BEGIN words of one list among another's, by their places ===== -/
theorem goodIn_r {big : List Cond} (ws : List Cond) (ps : List Nat) (hp : ws = ps.filterMap (fun i => big[i]?)) (h : ws.all goodWord = true) : GoodIn big ws := by
  intro w hw
  have h1 := List.all_eq_true.mp h w hw
  rw [hp] at hw
  obtain ⟨i, -, hi⟩ := List.mem_filterMap.mp hw
  have hm : w ∈ big := by first | exact List.mem_of_getElem? hi | exact List.getElem?_mem hi
  exact ⟨hm, good_of_word h1⟩
theorem goodIn_app {big a b : List Cond} (ha : GoodIn big a) (hb : GoodIn big b) : GoodIn big (a ++ b) := fun w h => (List.mem_append.mp h).elim (ha w) (hb w)
theorem goodIn_ca {big a b : List Cond} {c : Cond} (ha : GoodIn big (c :: a)) (hb : GoodIn big b) : GoodIn big (c :: (a ++ b)) := fun w h => (List.mem_cons.mp h).elim (fun e => ha w (List.mem_cons.mpr (Or.inl e))) (fun h => (List.mem_append.mp h).elim (fun h => ha w (List.mem_cons.mpr (Or.inr h))) (hb w))
theorem goodIn_sub {big ws : List Cond} (hm : ∀ w ∈ ws, w ∈ big) (h : ws.all goodWord = true) : GoodIn big ws := fun w hw => ⟨hm w hw, good_of_word (List.all_eq_true.mp h w hw)⟩
/-! ===== END ===== -/


/-! ===== BEGIN printed: names, fields, word lists, decode rows ===== -/
def RX0 : String := "GrowingCorners$Grid"
def TX0 : u_T := fun k => match k with
  | 0 => ("GrowingCorners$Grid", "rows", "I", false)
  | 1 => ("GrowingCorners$Grid", "columns", "I", false)
  | 2 => ("GrowingCorners$Grid", "cells", "[[I", true)
  | 3 => ("GrowingCorners$Grid", "greatest", "[[I", true)
  | 4 => ("GrowingCorners$Grid", "products", "[[J", true)
  | _ => ("GrowingCorners$Grid", "parts", "[[I", true)
def tyX0 : Nat → FieldType := fun k => match k with
  | 0 => .int
  | 1 => .int
  | 2 => .array (.array .int)
  | 3 => .array (.array .int)
  | 4 => .array (.array .long)
  | _ => .array (.array .int)
abbrev wsX00 : List Cond := u_ws RX0 TX0 6
theorem nmX0 : ∀ a, a < 6 → ∀ b, b < 6 → a ≠ b → (TX0 a).2.1 ≠ (TX0 b).2.1 := by decide +kernel
theorem tyX0_ok : ∀ k, k < 6 → parseFieldDescriptor (TX0 k).2.2.1 = some (tyX0 k) := by decide +kernel
abbrev cX0_init : ByteArray := prog_2_method_1_code
def yX0_init : MethodName := ⟨RX0, "<init>", "()V"⟩
abbrev cX0_reset : ByteArray := prog_2_method_2_code
def yX0_reset : MethodName := ⟨RX0, "reset", "(II)V"⟩
abbrev cX0_hasPlace : ByteArray := prog_2_method_3_code
def yX0_hasPlace : MethodName := ⟨RX0, "hasPlace", "(II)Z"⟩
abbrev cX0_hasCorner : ByteArray := prog_2_method_4_code
def yX0_hasCorner : MethodName := ⟨RX0, "hasCorner", "(II)Z"⟩
abbrev cX0_placeCount : ByteArray := prog_2_method_5_code
def yX0_placeCount : MethodName := ⟨RX0, "placeCount", "()I"⟩
abbrev cX0_lastStep : ByteArray := prog_2_method_6_code
def yX0_lastStep : MethodName := ⟨RX0, "lastStep", "()I"⟩
abbrev cX0_exchange : ByteArray := prog_2_method_7_code
def yX0_exchange : MethodName := ⟨RX0, "exchange", "(III)I"⟩
abbrev cX0_takeFrom : ByteArray := prog_2_method_8_code
def yX0_takeFrom : MethodName := ⟨RX0, "takeFrom", "(LGrowingCorners$Sheet;I)V"⟩
abbrev cX0_total : ByteArray := prog_2_method_9_code
def yX0_total : MethodName := ⟨RX0, "total", "()I"⟩
abbrev cX0_transpose : ByteArray := prog_2_method_10_code
def yX0_transpose : MethodName := ⟨RX0, "transpose", "()V"⟩
abbrev cX0_heaviest : ByteArray := prog_2_method_11_code
def yX0_heaviest : MethodName := ⟨RX0, "heaviest", "(IIII)I"⟩
abbrev cX0_growShapes : ByteArray := prog_2_method_12_code
def yX0_growShapes : MethodName := ⟨RX0, "growShapes", "()V"⟩
abbrev cX0_growCorner : ByteArray := prog_2_method_13_code
def yX0_growCorner : MethodName := ⟨RX0, "growCorner", "(II)V"⟩
abbrev cX0_cornerNumber : ByteArray := prog_2_method_14_code
def yX0_cornerNumber : MethodName := ⟨RX0, "cornerNumber", "(II)I"⟩
abbrev cX0_partAt : ByteArray := prog_2_method_15_code
def yX0_partAt : MethodName := ⟨RX0, "partAt", "(III)I"⟩
abbrev cX0_firstPartsAtEnd : ByteArray := prog_2_method_16_code
def yX0_firstPartsAtEnd : MethodName := ⟨RX0, "firstPartsAtEnd", "(I)I"⟩
abbrev cX0_productSum : ByteArray := prog_2_method_17_code
def yX0_productSum : MethodName := ⟨RX0, "productSum", "(II)J"⟩
abbrev cX0_productsBefore : ByteArray := prog_2_method_18_code
def yX0_productsBefore : MethodName := ⟨RX0, "productsBefore", "(II)J"⟩
abbrev cX0_countServed : ByteArray := prog_2_method_19_code
def yX0_countServed : MethodName := ⟨RX0, "countServed", "(II)I"⟩
abbrev cX0_placeOnLine : ByteArray := prog_2_method_20_code
def yX0_placeOnLine : MethodName := ⟨RX0, "placeOnLine", "(I)I"⟩
abbrev cX0_lineGoesDown : ByteArray := prog_2_method_21_code
def yX0_lineGoesDown : MethodName := ⟨RX0, "lineGoesDown", "(II)Z"⟩
abbrev cX0_spell : ByteArray := prog_2_method_22_code
def yX0_spell : MethodName := ⟨RX0, "spell", "([I)V"⟩
def RX1 : String := "GrowingCorners$Sheet"
def TX1 : u_T := fun k => match k with
  | 0 => ("GrowingCorners$Sheet", "items", "[J", true)
  | 1 => ("GrowingCorners$Sheet", "lane", "I", false)
  | _ => ("GrowingCorners$Sheet", "size", "I", false)
def tyX1 : Nat → FieldType := fun k => match k with
  | 0 => .array .long
  | 1 => .int
  | _ => .int
abbrev wsX10 : List Cond := u_ws RX1 TX1 3
theorem nmX1 : ∀ a, a < 3 → ∀ b, b < 3 → a ≠ b → (TX1 a).2.1 ≠ (TX1 b).2.1 := by decide +kernel
theorem tyX1_ok : ∀ k, k < 3 → parseFieldDescriptor (TX1 k).2.2.1 = some (tyX1 k) := by decide +kernel
abbrev cX1_init : ByteArray := prog_3_method_1_code
def yX1_init : MethodName := ⟨RX1, "<init>", "()V"⟩
abbrev cX1_isMissing : ByteArray := prog_3_method_2_code
def yX1_isMissing : MethodName := ⟨RX1, "isMissing", "()Z"⟩
abbrev cX1_isOf : ByteArray := prog_3_method_3_code
def yX1_isOf : MethodName := ⟨RX1, "isOf", "(I)Z"⟩
abbrev cX1_reaches : ByteArray := prog_3_method_4_code
def yX1_reaches : MethodName := ⟨RX1, "reaches", "(II)Z"⟩
abbrev cX1_renew : ByteArray := prog_3_method_5_code
def yX1_renew : MethodName := ⟨RX1, "renew", "(II)V"⟩
abbrev cX1_vanish : ByteArray := prog_3_method_6_code
def yX1_vanish : MethodName := ⟨RX1, "vanish", "()I"⟩
abbrev cX1_setItem : ByteArray := prog_3_method_7_code
def yX1_setItem : MethodName := ⟨RX1, "setItem", "(II)V"⟩
abbrev cX1_itemAt : ByteArray := prog_3_method_8_code
def yX1_itemAt : MethodName := ⟨RX1, "itemAt", "(I)J"⟩
abbrev cX1_areWeights : ByteArray := prog_3_method_9_code
def yX1_areWeights : MethodName := ⟨RX1, "areWeights", "(II)Z"⟩
def RX2 : String := "GrowingCorners$Tableau"
def TX2 : u_T := fun k => match k with
  | 0 => ("GrowingCorners$Tableau", "numbers", "[[I", true)
  | 1 => ("GrowingCorners$Tableau", "lengths", "[I", true)
  | 2 => ("GrowingCorners$Tableau", "rows", "I", false)
  | _ => ("GrowingCorners$Tableau", "places", "I", false)
def tyX2 : Nat → FieldType := fun k => match k with
  | 0 => .array (.array .int)
  | 1 => .array .int
  | 2 => .int
  | _ => .int
abbrev wsX20 : List Cond := u_ws RX2 TX2 4
theorem nmX2 : ∀ a, a < 4 → ∀ b, b < 4 → a ≠ b → (TX2 a).2.1 ≠ (TX2 b).2.1 := by decide +kernel
theorem tyX2_ok : ∀ k, k < 4 → parseFieldDescriptor (TX2 k).2.2.1 = some (tyX2 k) := by decide +kernel
abbrev cX2_init : ByteArray := prog_4_method_1_code
def yX2_init : MethodName := ⟨RX2, "<init>", "()V"⟩
abbrev cX2_rowCount : ByteArray := prog_4_method_2_code
def yX2_rowCount : MethodName := ⟨RX2, "rowCount", "()I"⟩
abbrev cX2_placeCount : ByteArray := prog_4_method_3_code
def yX2_placeCount : MethodName := ⟨RX2, "placeCount", "()I"⟩
abbrev cX2_lengthOf : ByteArray := prog_4_method_4_code
def yX2_lengthOf : MethodName := ⟨RX2, "lengthOf", "(I)I"⟩
abbrev cX2_has : ByteArray := prog_4_method_5_code
def yX2_has : MethodName := ⟨RX2, "has", "(II)Z"⟩
abbrev cX2_at : ByteArray := prog_4_method_6_code
def yX2_at : MethodName := ⟨RX2, "at", "(II)I"⟩
abbrev cX2_empty : ByteArray := prog_4_method_7_code
def yX2_empty : MethodName := ⟨RX2, "empty", "()V"⟩
abbrev cX2_append : ByteArray := prog_4_method_8_code
def yX2_append : MethodName := ⟨RX2, "append", "(II)V"⟩
abbrev cX2_takeLast : ByteArray := prog_4_method_9_code
def yX2_takeLast : MethodName := ⟨RX2, "takeLast", "(I)I"⟩
abbrev cX2_exchange : ByteArray := prog_4_method_10_code
def yX2_exchange : MethodName := ⟨RX2, "exchange", "(III)I"⟩
abbrev cX2_insert : ByteArray := prog_4_method_11_code
def yX2_insert : MethodName := ⟨RX2, "insert", "(I)I"⟩
abbrev cX2_firstGreater : ByteArray := prog_4_method_12_code
def yX2_firstGreater : MethodName := ⟨RX2, "firstGreater", "(II)I"⟩
abbrev cX2_takeOut : ByteArray := prog_4_method_13_code
def yX2_takeOut : MethodName := ⟨RX2, "takeOut", "(I)I"⟩
abbrev cX2_lastLess : ByteArray := prog_4_method_14_code
def yX2_lastLess : MethodName := ⟨RX2, "lastLess", "(II)I"⟩
abbrev cX2_rowEndingIn : ByteArray := prog_4_method_15_code
def yX2_rowEndingIn : MethodName := ⟨RX2, "rowEndingIn", "(I)I"⟩
abbrev cX2_hasShapeOf : ByteArray := prog_4_method_16_code
def yX2_hasShapeOf : MethodName := ⟨RX2, "hasShapeOf", "(LGrowingCorners$Tableau;)Z"⟩
abbrev cX2_isStaircase : ByteArray := prog_4_method_17_code
def yX2_isStaircase : MethodName := ⟨RX2, "isStaircase", "()Z"⟩
abbrev cX2_rises : ByteArray := prog_4_method_18_code
def yX2_rises : MethodName := ⟨RX2, "rises", "(I)Z"⟩
abbrev cX2_isBelow : ByteArray := prog_4_method_19_code
def yX2_isBelow : MethodName := ⟨RX2, "isBelow", "(I)Z"⟩
abbrev cX2_hasEachOnce : ByteArray := prog_4_method_20_code
def yX2_hasEachOnce : MethodName := ⟨RX2, "hasEachOnce", "()Z"⟩
def RX3 : String := "GrowingCorners$Word"
def TX3 : u_T := fun k => match k with
  | 0 => ("GrowingCorners$Word", "p", "LGrowingCorners$Tableau;", true)
  | _ => ("GrowingCorners$Word", "q", "LGrowingCorners$Tableau;", true)
def tyX3 : Nat → FieldType := fun k => match k with
  | 0 => .object "GrowingCorners$Tableau"
  | _ => .object "GrowingCorners$Tableau"
abbrev wsX30 : List Cond := u_ws RX3 TX3 2
theorem nmX3 : ∀ a, a < 2 → ∀ b, b < 2 → a ≠ b → (TX3 a).2.1 ≠ (TX3 b).2.1 := by decide +kernel
theorem tyX3_ok : ∀ k, k < 2 → parseFieldDescriptor (TX3 k).2.2.1 = some (tyX3 k) := by decide +kernel
abbrev cX3_init : ByteArray := prog_5_method_1_code
def yX3_init : MethodName := ⟨RX3, "<init>", "()V"⟩
abbrev cX3_letterCount : ByteArray := prog_5_method_2_code
def yX3_letterCount : MethodName := ⟨RX3, "letterCount", "()I"⟩
abbrev cX3_tableau : ByteArray := prog_5_method_3_code
def yX3_tableau : MethodName := ⟨RX3, "tableau", "(I)LGrowingCorners$Tableau;"⟩
abbrev cX3_forget : ByteArray := prog_5_method_4_code
def yX3_forget : MethodName := ⟨RX3, "forget", "()V"⟩
abbrev cX3_become : ByteArray := prog_5_method_5_code
def yX3_become : MethodName := ⟨RX3, "become", "([II)V"⟩
abbrev cX3_takeLetter : ByteArray := prog_5_method_6_code
def yX3_takeLetter : MethodName := ⟨RX3, "takeLetter", "(I)V"⟩
def RX4 : String := "GrowingCorners"
def TX4 : u_T := fun k => match k with
  | 0 => ("GrowingCorners", "grid", "LGrowingCorners$Grid;", true)
  | 1 => ("GrowingCorners", "sheets", "[LGrowingCorners$Sheet;", true)
  | 2 => ("GrowingCorners", "word", "LGrowingCorners$Word;", true)
  | 3 => ("GrowingCorners", "laidP", "LGrowingCorners$Tableau;", true)
  | 4 => ("GrowingCorners", "laidQ", "LGrowingCorners$Tableau;", true)
  | _ => ("GrowingCorners", "draft", "[I", true)
def tyX4 : Nat → FieldType := fun k => match k with
  | 0 => .object "GrowingCorners$Grid"
  | 1 => .array (.object "GrowingCorners$Sheet")
  | 2 => .object "GrowingCorners$Word"
  | 3 => .object "GrowingCorners$Tableau"
  | 4 => .object "GrowingCorners$Tableau"
  | _ => .array .int
abbrev wsX40 : List Cond := u_ws RX4 TX4 6
theorem nmX4 : ∀ a, a < 6 → ∀ b, b < 6 → a ≠ b → (TX4 a).2.1 ≠ (TX4 b).2.1 := by decide +kernel
theorem tyX4_ok : ∀ k, k < 6 → parseFieldDescriptor (TX4 k).2.2.1 = some (tyX4 k) := by decide +kernel
abbrev cX4_init : ByteArray := prog_1_method_1_code
def yX4_init : MethodName := ⟨RX4, "<init>", "()V"⟩
abbrev cX4_box : ByteArray := prog_1_method_2_code
def yX4_box : MethodName := ⟨RX4, "box", "(II)I"⟩
abbrev cX4_weight : ByteArray := prog_1_method_3_code
def yX4_weight : MethodName := ⟨RX4, "weight", "(III)I"⟩
abbrev cX4_sheet : ByteArray := prog_1_method_4_code
def yX4_sheet : MethodName := ⟨RX4, "sheet", "(III)I"⟩
abbrev cX4_drop : ByteArray := prog_1_method_5_code
def yX4_drop : MethodName := ⟨RX4, "drop", "(I)I"⟩
abbrev cX4_item : ByteArray := prog_1_method_6_code
def yX4_item : MethodName := ⟨RX4, "item", "(IIII)I"⟩
abbrev cX4_weights : ByteArray := prog_1_method_7_code
def yX4_weights : MethodName := ⟨RX4, "weights", "(III)I"⟩
abbrev cX4_turn : ByteArray := prog_1_method_8_code
def yX4_turn : MethodName := ⟨RX4, "turn", "()I"⟩
abbrev cX4_best : ByteArray := prog_1_method_9_code
def yX4_best : MethodName := ⟨RX4, "best", "(II)I"⟩
abbrev cX4_between : ByteArray := prog_1_method_10_code
def yX4_between : MethodName := ⟨RX4, "between", "(IIII)I"⟩
abbrev cX4_shape : ByteArray := prog_1_method_11_code
def yX4_shape : MethodName := ⟨RX4, "shape", "(III)I"⟩
abbrev cX4_ways : ByteArray := prog_1_method_12_code
def yX4_ways : MethodName := ⟨RX4, "ways", "(I)I"⟩
abbrev cX4_sums : ByteArray := prog_1_method_13_code
def yX4_sums : MethodName := ⟨RX4, "sums", "(II)J"⟩
abbrev cX4_served : ByteArray := prog_1_method_14_code
def yX4_served : MethodName := ⟨RX4, "served", "(II)I"⟩
abbrev cX4_line : ByteArray := prog_1_method_15_code
def yX4_line : MethodName := ⟨RX4, "line", "(I)I"⟩
abbrev cX4_letter : ByteArray := prog_1_method_16_code
def yX4_letter : MethodName := ⟨RX4, "letter", "(I)I"⟩
abbrev cX4_clear : ByteArray := prog_1_method_17_code
def yX4_clear : MethodName := ⟨RX4, "clear", "()I"⟩
abbrev cX4_row : ByteArray := prog_1_method_18_code
def yX4_row : MethodName := ⟨RX4, "row", "(I)I"⟩
abbrev cX4_place : ByteArray := prog_1_method_19_code
def yX4_place : MethodName := ⟨RX4, "place", "(III)I"⟩
abbrev cX4_longest : ByteArray := prog_1_method_20_code
def yX4_longest : MethodName := ⟨RX4, "longest", "(I)I"⟩
abbrev cX4_lay : ByteArray := prog_1_method_21_code
def yX4_lay : MethodName := ⟨RX4, "lay", "(III)I"⟩
abbrev cX4_unlay : ByteArray := prog_1_method_22_code
def yX4_unlay : MethodName := ⟨RX4, "unlay", "()I"⟩
abbrev cX4_back : ByteArray := prog_1_method_23_code
def yX4_back : MethodName := ⟨RX4, "back", "()I"⟩
abbrev cX4_wordOf : ByteArray := prog_1_method_24_code
def yX4_wordOf : MethodName := ⟨RX4, "wordOf", "()I"⟩
abbrev cX4_chance : ByteArray := prog_1_method_25_code
def yX4_chance : MethodName := ⟨RX4, "chance", "(III)J"⟩
abbrev cX4_isWithin : ByteArray := prog_1_method_26_code
def yX4_isWithin : MethodName := ⟨RX4, "isWithin", "(III)Z"⟩
abbrev cX4_isWeight : ByteArray := prog_1_method_27_code
def yX4_isWeight : MethodName := ⟨RX4, "isWeight", "(J)Z"⟩
abbrev cX4_isSheet : ByteArray := prog_1_method_28_code
def yX4_isSheet : MethodName := ⟨RX4, "isSheet", "(I)Z"⟩
abbrev cX4_isLane : ByteArray := prog_1_method_29_code
def yX4_isLane : MethodName := ⟨RX4, "isLane", "(I)Z"⟩
abbrev cX4_isWhich : ByteArray := prog_1_method_30_code
def yX4_isWhich : MethodName := ⟨RX4, "isWhich", "(I)Z"⟩
abbrev cX4_lookAtItems : ByteArray := prog_1_method_31_code
def yX4_lookAtItems : MethodName := ⟨RX4, "lookAtItems", "(IIII)I"⟩
abbrev cX4_laidIsAsTold : ByteArray := prog_1_method_32_code
def yX4_laidIsAsTold : MethodName := ⟨RX4, "laidIsAsTold", "()Z"⟩
abbrev cX4_readLaidIntoDraft : ByteArray := prog_1_method_33_code
def yX4_readLaidIntoDraft : MethodName := ⟨RX4, "readLaidIntoDraft", "(I)V"⟩
abbrev cX4_countByShapes : ByteArray := prog_1_method_34_code
def yX4_countByShapes : MethodName := ⟨RX4, "countByShapes", "(III)J"⟩
abbrev cX4_tableauxOf : ByteArray := prog_1_method_35_code
def yX4_tableauxOf : MethodName := ⟨RX4, "tableauxOf", "(IIII)J"⟩
def RX5 : String := "GrowingCornersModel"
def TX5 : u_T := fun k => match k with
  | 0 => ("GrowingCornersModel", "m", "I", false)
  | 1 => ("GrowingCornersModel", "n", "I", false)
  | 2 => ("GrowingCornersModel", "weights", "[I", true)
  | 3 => ("GrowingCornersModel", "lanes", "[I", true)
  | 4 => ("GrowingCornersModel", "sizes", "[I", true)
  | 5 => ("GrowingCornersModel", "items", "[I", true)
  | 6 => ("GrowingCornersModel", "best", "[I", true)
  | 7 => ("GrowingCornersModel", "parts", "[I", true)
  | 8 => ("GrowingCornersModel", "sums", "[J", true)
  | 9 => ("GrowingCornersModel", "word", "[I", true)
  | 10 => ("GrowingCornersModel", "letters", "I", false)
  | 11 => ("GrowingCornersModel", "p", "[I", true)
  | 12 => ("GrowingCornersModel", "q", "[I", true)
  | 13 => ("GrowingCornersModel", "rows", "[I", true)
  | 14 => ("GrowingCornersModel", "long0", "[I", true)
  | 15 => ("GrowingCornersModel", "laidP", "[I", true)
  | 16 => ("GrowingCornersModel", "laidQ", "[I", true)
  | 17 => ("GrowingCornersModel", "rowsP", "[I", true)
  | 18 => ("GrowingCornersModel", "rowsQ", "[I", true)
  | 19 => ("GrowingCornersModel", "seen", "[Z", true)
  | 20 => ("GrowingCornersModel", "now", "[J", true)
  | _ => ("GrowingCornersModel", "next", "[J", true)
def tyX5 : Nat → FieldType := fun k => match k with
  | 0 => .int
  | 1 => .int
  | 2 => .array .int
  | 3 => .array .int
  | 4 => .array .int
  | 5 => .array .int
  | 6 => .array .int
  | 7 => .array .int
  | 8 => .array .long
  | 9 => .array .int
  | 10 => .int
  | 11 => .array .int
  | 12 => .array .int
  | 13 => .array .int
  | 14 => .array .int
  | 15 => .array .int
  | 16 => .array .int
  | 17 => .array .int
  | 18 => .array .int
  | 19 => .array .boolean
  | 20 => .array .long
  | _ => .array .long
abbrev wsX50 : List Cond := u_ws RX5 TX5 22
theorem nmX5 : ∀ a, a < 22 → ∀ b, b < 22 → a ≠ b → (TX5 a).2.1 ≠ (TX5 b).2.1 := by decide +kernel
theorem tyX5_ok : ∀ k, k < 22 → parseFieldDescriptor (TX5 k).2.2.1 = some (tyX5 k) := by decide +kernel
abbrev cX5_in : ByteArray := prog_7_method_1_code
def yX5_in : MethodName := ⟨RX5, "in", "(JJJ)Z"⟩
abbrev cX5_greater : ByteArray := prog_7_method_2_code
def yX5_greater : MethodName := ⟨RX5, "greater", "(II)I"⟩
abbrev cX5_init : ByteArray := prog_7_method_3_code
def yX5_init : MethodName := ⟨RX5, "<init>", "()V"⟩
abbrev cX5_isPlace : ByteArray := prog_7_method_4_code
def yX5_isPlace : MethodName := ⟨RX5, "isPlace", "(II)Z"⟩
abbrev cX5_box : ByteArray := prog_7_method_5_code
def yX5_box : MethodName := ⟨RX5, "box", "(II)I"⟩
abbrev cX5_weight : ByteArray := prog_7_method_6_code
def yX5_weight : MethodName := ⟨RX5, "weight", "(III)I"⟩
abbrev cX5_isSheet : ByteArray := prog_7_method_7_code
def yX5_isSheet : MethodName := ⟨RX5, "isSheet", "(II)Z"⟩
abbrev cX5_sheet : ByteArray := prog_7_method_8_code
def yX5_sheet : MethodName := ⟨RX5, "sheet", "(III)I"⟩
abbrev cX5_drop : ByteArray := prog_7_method_9_code
def yX5_drop : MethodName := ⟨RX5, "drop", "(I)I"⟩
abbrev cX5_item : ByteArray := prog_7_method_10_code
def yX5_item : MethodName := ⟨RX5, "item", "(IIII)I"⟩
abbrev cX5_weights : ByteArray := prog_7_method_11_code
def yX5_weights : MethodName := ⟨RX5, "weights", "(III)I"⟩
abbrev cX5_turn : ByteArray := prog_7_method_12_code
def yX5_turn : MethodName := ⟨RX5, "turn", "()I"⟩
abbrev cX5_findBest : ByteArray := prog_7_method_13_code
def yX5_findBest : MethodName := ⟨RX5, "findBest", "(II)V"⟩
abbrev cX5_best : ByteArray := prog_7_method_14_code
def yX5_best : MethodName := ⟨RX5, "best", "(II)I"⟩
abbrev cX5_between : ByteArray := prog_7_method_15_code
def yX5_between : MethodName := ⟨RX5, "between", "(IIII)I"⟩
abbrev cX5_findShapes : ByteArray := prog_7_method_16_code
def yX5_findShapes : MethodName := ⟨RX5, "findShapes", "()V"⟩
abbrev cX5_shape : ByteArray := prog_7_method_17_code
def yX5_shape : MethodName := ⟨RX5, "shape", "(III)I"⟩
abbrev cX5_ways : ByteArray := prog_7_method_18_code
def yX5_ways : MethodName := ⟨RX5, "ways", "(I)I"⟩
abbrev cX5_sums : ByteArray := prog_7_method_19_code
def yX5_sums : MethodName := ⟨RX5, "sums", "(II)J"⟩
abbrev cX5_served : ByteArray := prog_7_method_20_code
def yX5_served : MethodName := ⟨RX5, "served", "(II)I"⟩
abbrev cX5_line : ByteArray := prog_7_method_21_code
def yX5_line : MethodName := ⟨RX5, "line", "(I)I"⟩
abbrev cX5_letter : ByteArray := prog_7_method_22_code
def yX5_letter : MethodName := ⟨RX5, "letter", "(I)I"⟩
abbrev cX5_clear : ByteArray := prog_7_method_23_code
def yX5_clear : MethodName := ⟨RX5, "clear", "()I"⟩
abbrev cX5_insert : ByteArray := prog_7_method_24_code
def yX5_insert : MethodName := ⟨RX5, "insert", "(II)V"⟩
abbrev cX5_makeTableaux : ByteArray := prog_7_method_25_code
def yX5_makeTableaux : MethodName := ⟨RX5, "makeTableaux", "()V"⟩
abbrev cX5_row : ByteArray := prog_7_method_26_code
def yX5_row : MethodName := ⟨RX5, "row", "(I)I"⟩
abbrev cX5_place : ByteArray := prog_7_method_27_code
def yX5_place : MethodName := ⟨RX5, "place", "(III)I"⟩
abbrev cX5_longest : ByteArray := prog_7_method_28_code
def yX5_longest : MethodName := ⟨RX5, "longest", "(I)I"⟩
abbrev cX5_total : ByteArray := prog_7_method_29_code
def yX5_total : MethodName := ⟨RX5, "total", "([I)I"⟩
abbrev cX5_manyRows : ByteArray := prog_7_method_30_code
def yX5_manyRows : MethodName := ⟨RX5, "manyRows", "([I)I"⟩
abbrev cX5_lay : ByteArray := prog_7_method_31_code
def yX5_lay : MethodName := ⟨RX5, "lay", "(III)I"⟩
abbrev cX5_unlay : ByteArray := prog_7_method_32_code
def yX5_unlay : MethodName := ⟨RX5, "unlay", "()I"⟩
abbrev cX5_areTableaux : ByteArray := prog_7_method_33_code
def yX5_areTableaux : MethodName := ⟨RX5, "areTableaux", "()Z"⟩
abbrev cX5_back : ByteArray := prog_7_method_34_code
def yX5_back : MethodName := ⟨RX5, "back", "()I"⟩
abbrev cX5_wordOf : ByteArray := prog_7_method_35_code
def yX5_wordOf : MethodName := ⟨RX5, "wordOf", "()I"⟩
abbrev cX5_power : ByteArray := prog_7_method_36_code
def yX5_power : MethodName := ⟨RX5, "power", "(I)I"⟩
abbrev cX5_addPlace : ByteArray := prog_7_method_37_code
def yX5_addPlace : MethodName := ⟨RX5, "addPlace", "(II)V"⟩
abbrev cX5_chance : ByteArray := prog_7_method_38_code
def yX5_chance : MethodName := ⟨RX5, "chance", "(III)J"⟩
def RJ9 : String := "java/lang/Math"
def TJ9 : u_T := fun k => match k with
  | _ => ("", "", "", false)
def tyJ9 : Nat → FieldType := fun k => match k with
  | _ => .int
abbrev wsJ90 : List Cond := u_ws RJ9 TJ9 0
theorem nmJ9 : ∀ a, a < 0 → ∀ b, b < 0 → a ≠ b → (TJ9 a).2.1 ≠ (TJ9 b).2.1 := by decide +kernel
theorem tyJ9_ok : ∀ k, k < 0 → parseFieldDescriptor (TJ9 k).2.2.1 = some (tyJ9 k) := by decide +kernel
abbrev cJ9_max_7cf53 : ByteArray := prog_8_method_65_code
def yJ9_max_7cf53 : MethodName := ⟨RJ9, "max", "(II)I"⟩
abbrev cJ9_min_7cf53 : ByteArray := prog_8_method_69_code
def yJ9_min_7cf53 : MethodName := ⟨RJ9, "min", "(II)I"⟩
def RJ7 : String := "java/util/Arrays"
def TJ7 : u_T := fun k => match k with
  | _ => ("", "", "", false)
def tyJ7 : Nat → FieldType := fun k => match k with
  | _ => .int
abbrev wsJ70 : List Cond := u_ws RJ7 TJ7 0
theorem nmJ7 : ∀ a, a < 0 → ∀ b, b < 0 → a ≠ b → (TJ7 a).2.1 ≠ (TJ7 b).2.1 := by decide +kernel
theorem tyJ7_ok : ∀ k, k < 0 → parseFieldDescriptor (TJ7 k).2.2.1 = some (tyJ7 k) := by decide +kernel
abbrev cJ7_fill_d0a16 : ByteArray := prog_9_method_101_code
def yJ7_fill_d0a16 : MethodName := ⟨RJ7, "fill", "([JJ)V"⟩
abbrev cJ7_fill_53178 : ByteArray := prog_9_method_103_code
def yJ7_fill_53178 : MethodName := ⟨RJ7, "fill", "([II)V"⟩
def RL : String := "GrowingCornersLaw"
abbrev cL_law : ByteArray := code
def yL_law : MethodName := ⟨RL, "law", "([I)Z"⟩
def wsX0_init : List Cond := .code yX0_init cX0_init 1 none :: ([.methodLink RX0 3 objectInit, .instanceMethod objectInit, .code objectInit ⟨#[0xb1]⟩ 1 none, .fieldLink RX0 11 "GrowingCorners$Grid" "rows" "I", .fieldLink RX0 15 "GrowingCorners$Grid" "columns" "I", .classLink RX0 18 "[[I", .arrayClass .int, .fieldLink RX0 20 "GrowingCorners$Grid" "cells" "[[I", .fieldLink RX0 23 "GrowingCorners$Grid" "greatest" "[[I", .classLink RX0 26 "[[J", .arrayClass .long, .fieldLink RX0 28 "GrowingCorners$Grid" "products" "[[J", .fieldLink RX0 31 "GrowingCorners$Grid" "parts" "[[I"] ++ wsX00)
def wsJ7_fill_53178 : List Cond := .code yJ7_fill_53178 cJ7_fill_53178 4 none :: ([])
def wsX0_reset : List Cond := .code yX0_reset cX0_reset 4 none :: ([.fieldLink RX0 11 "GrowingCorners$Grid" "rows" "I", .fieldLink RX0 15 "GrowingCorners$Grid" "columns" "I", .fieldLink RX0 20 "GrowingCorners$Grid" "cells" "[[I", .methodLink RX0 34 yJ7_fill_53178, .static yJ7_fill_53178, .initialized RJ7, .code yJ7_fill_53178 cJ7_fill_53178 4 none] ++ wsX00)
def wsX4_isWithin : List Cond := .code yX4_isWithin cX4_isWithin 3 (some .boolean) :: ([])
def wsX0_hasPlace : List Cond := .code yX0_hasPlace cX0_hasPlace 3 (some .boolean) :: ([.fieldLink RX0 11 "GrowingCorners$Grid" "rows" "I", .fieldLink RX0 15 "GrowingCorners$Grid" "columns" "I", .static yX4_isWithin, .initialized RX4, .code yX4_isWithin cX4_isWithin 3 (some .boolean)] ++ wsX00)
def wsX0_hasCorner : List Cond := .code yX0_hasCorner cX0_hasCorner 3 (some .boolean) :: ([.fieldLink RX0 11 "GrowingCorners$Grid" "rows" "I", .fieldLink RX0 15 "GrowingCorners$Grid" "columns" "I", .static yX4_isWithin, .initialized RX4, .code yX4_isWithin cX4_isWithin 3 (some .boolean)] ++ wsX00)
def wsX0_placeCount : List Cond := .code yX0_placeCount cX0_placeCount 1 (some .int) :: ([.fieldLink RX0 11 "GrowingCorners$Grid" "rows" "I", .fieldLink RX0 15 "GrowingCorners$Grid" "columns" "I"] ++ wsX00)
def wsX0_lastStep : List Cond := .code yX0_lastStep cX0_lastStep 1 (some .int) :: ([.fieldLink RX0 11 "GrowingCorners$Grid" "rows" "I", .fieldLink RX0 15 "GrowingCorners$Grid" "columns" "I"] ++ wsX00)
def wsX0_exchange : List Cond := .code yX0_exchange cX0_exchange 5 (some .int) :: ([.fieldLink RX0 20 "GrowingCorners$Grid" "cells" "[[I"] ++ wsX00)
def wsX1_itemAt : List Cond := .code yX1_itemAt cX1_itemAt 2 (some .long) :: ([.fieldLink RX1 9 "GrowingCorners$Sheet" "items" "[J"] ++ wsX10)
def wsX0_takeFrom : List Cond := .code yX0_takeFrom cX0_takeFrom 6 none :: ([.fieldLink RX0 11 "GrowingCorners$Grid" "rows" "I", .fieldLink RX0 15 "GrowingCorners$Grid" "columns" "I", .fieldLink RX0 20 "GrowingCorners$Grid" "cells" "[[I", .methodLink RX0 44 yX1_itemAt, .instanceMethod yX1_itemAt, .selects RX1 yX1_itemAt yX1_itemAt, .initialized RX1, .code yX1_itemAt cX1_itemAt 2 (some .long), .fieldLink RX1 9 "GrowingCorners$Sheet" "items" "[J"] ++ wsX00 ++ wsX10)
def wsX0_total : List Cond := .code yX0_total cX0_total 4 (some .int) :: ([.fieldLink RX0 11 "GrowingCorners$Grid" "rows" "I", .fieldLink RX0 15 "GrowingCorners$Grid" "columns" "I", .fieldLink RX0 20 "GrowingCorners$Grid" "cells" "[[I"] ++ wsX00)
def wsX0_transpose : List Cond := .code yX0_transpose cX0_transpose 4 none :: ([.fieldLink RX0 20 "GrowingCorners$Grid" "cells" "[[I", .fieldLink RX0 11 "GrowingCorners$Grid" "rows" "I", .fieldLink RX0 15 "GrowingCorners$Grid" "columns" "I"] ++ wsX00)
def wsX0_heaviest : List Cond := .code yX0_heaviest cX0_heaviest 9 (some .int) :: ([.fieldLink RX0 23 "GrowingCorners$Grid" "greatest" "[[I", .fieldLink RX0 20 "GrowingCorners$Grid" "cells" "[[I", .methodLink RX0 50 Lib.Math.max.name, .static Lib.Math.max.name, .initialized "java/lang/Math", .code Lib.Math.max.name Lib.Math.max.code 2 (some .int)] ++ wsX00)
def wsX0_cornerNumber : List Cond := .code yX0_cornerNumber cX0_cornerNumber 2 (some .int) :: ([])
def wsX0_growCorner : List Cond := .code yX0_growCorner cX0_growCorner 8 none :: ([.fieldLink RX0 31 "GrowingCorners$Grid" "parts" "[[I", .methodLink RX0 50 Lib.Math.max.name, .static Lib.Math.max.name, .initialized "java/lang/Math", .code Lib.Math.max.name Lib.Math.max.code 2 (some .int), .fieldLink RX0 20 "GrowingCorners$Grid" "cells" "[[I", .methodLink RX0 63 Lib.Math.min.name, .static Lib.Math.min.name, .code Lib.Math.min.name Lib.Math.min.code 2 (some .int), .methodLink RX0 60 yX0_cornerNumber, .static yX0_cornerNumber, .initialized RX0, .code yX0_cornerNumber cX0_cornerNumber 2 (some .int)] ++ wsX00)
def wsX0_growShapes : List Cond := .code yX0_growShapes cX0_growShapes 3 none :: ([.fieldLink RX0 11 "GrowingCorners$Grid" "rows" "I", .fieldLink RX0 15 "GrowingCorners$Grid" "columns" "I", .methodLink RX0 56 yX0_growCorner, .instanceMethod yX0_growCorner, .selects RX0 yX0_growCorner yX0_growCorner, .initialized RX0, .code yX0_growCorner cX0_growCorner 8 none, .fieldLink RX0 31 "GrowingCorners$Grid" "parts" "[[I", .methodLink RX0 50 Lib.Math.max.name, .static Lib.Math.max.name, .initialized "java/lang/Math", .code Lib.Math.max.name Lib.Math.max.code 2 (some .int), .fieldLink RX0 20 "GrowingCorners$Grid" "cells" "[[I", .methodLink RX0 63 Lib.Math.min.name, .static Lib.Math.min.name, .code Lib.Math.min.name Lib.Math.min.code 2 (some .int), .methodLink RX0 60 yX0_cornerNumber, .static yX0_cornerNumber, .code yX0_cornerNumber cX0_cornerNumber 2 (some .int)] ++ wsX00)
def wsX0_partAt : List Cond := .code yX0_partAt cX0_partAt 4 (some .int) :: ([.fieldLink RX0 31 "GrowingCorners$Grid" "parts" "[[I", .methodLink RX0 60 yX0_cornerNumber, .static yX0_cornerNumber, .initialized RX0, .code yX0_cornerNumber cX0_cornerNumber 2 (some .int)] ++ wsX00)
def wsX0_firstPartsAtEnd : List Cond := .code yX0_firstPartsAtEnd cX0_firstPartsAtEnd 4 (some .int) :: ([.fieldLink RX0 11 "GrowingCorners$Grid" "rows" "I", .fieldLink RX0 15 "GrowingCorners$Grid" "columns" "I", .methodLink RX0 66 yX0_partAt, .instanceMethod yX0_partAt, .selects RX0 yX0_partAt yX0_partAt, .initialized RX0, .code yX0_partAt cX0_partAt 4 (some .int), .fieldLink RX0 31 "GrowingCorners$Grid" "parts" "[[I", .methodLink RX0 60 yX0_cornerNumber, .static yX0_cornerNumber, .code yX0_cornerNumber cX0_cornerNumber 2 (some .int)] ++ wsX00)
def wsX0_productsBefore : List Cond := .code yX0_productsBefore cX0_productsBefore 7 (some .long) :: ([.fieldLink RX0 28 "GrowingCorners$Grid" "products" "[[J"] ++ wsX00)
def wsX0_productSum : List Cond := .code yX0_productSum cX0_productSum 5 (some .long) :: ([.fieldLink RX0 28 "GrowingCorners$Grid" "products" "[[J", .fieldLink RX0 20 "GrowingCorners$Grid" "cells" "[[I", .methodLink RX0 70 yX0_productsBefore, .instanceMethod yX0_productsBefore, .selects RX0 yX0_productsBefore yX0_productsBefore, .initialized RX0, .code yX0_productsBefore cX0_productsBefore 7 (some .long)] ++ wsX00)
def wsX0_countServed : List Cond := .code yX0_countServed cX0_countServed 5 (some .int) :: ([.fieldLink RX0 15 "GrowingCorners$Grid" "columns" "I", .fieldLink RX0 23 "GrowingCorners$Grid" "greatest" "[[I", .methodLink RX0 74 yX0_heaviest, .instanceMethod yX0_heaviest, .selects RX0 yX0_heaviest yX0_heaviest, .initialized RX0, .code yX0_heaviest cX0_heaviest 9 (some .int), .fieldLink RX0 20 "GrowingCorners$Grid" "cells" "[[I", .methodLink RX0 50 Lib.Math.max.name, .static Lib.Math.max.name, .initialized "java/lang/Math", .code Lib.Math.max.name Lib.Math.max.code 2 (some .int)] ++ wsX00)
def wsX0_lineGoesDown : List Cond := .code yX0_lineGoesDown cX0_lineGoesDown 3 (some .boolean) :: ([.fieldLink RX0 23 "GrowingCorners$Grid" "greatest" "[[I", .methodLink RX0 82 yX0_hasPlace, .instanceMethod yX0_hasPlace, .selects RX0 yX0_hasPlace yX0_hasPlace, .initialized RX0, .code yX0_hasPlace cX0_hasPlace 3 (some .boolean), .fieldLink RX0 11 "GrowingCorners$Grid" "rows" "I", .fieldLink RX0 15 "GrowingCorners$Grid" "columns" "I", .static yX4_isWithin, .initialized RX4, .code yX4_isWithin cX4_isWithin 3 (some .boolean)] ++ wsX00)
def wsX0_placeOnLine : List Cond := .code yX0_placeOnLine cX0_placeOnLine 5 (some .int) :: ([.fieldLink RX0 11 "GrowingCorners$Grid" "rows" "I", .fieldLink RX0 15 "GrowingCorners$Grid" "columns" "I", .methodLink RX0 74 yX0_heaviest, .instanceMethod yX0_heaviest, .selects RX0 yX0_heaviest yX0_heaviest, .initialized RX0, .code yX0_heaviest cX0_heaviest 9 (some .int), .fieldLink RX0 23 "GrowingCorners$Grid" "greatest" "[[I", .fieldLink RX0 20 "GrowingCorners$Grid" "cells" "[[I", .methodLink RX0 50 Lib.Math.max.name, .static Lib.Math.max.name, .initialized "java/lang/Math", .code Lib.Math.max.name Lib.Math.max.code 2 (some .int), .methodLink RX0 78 yX0_lineGoesDown, .instanceMethod yX0_lineGoesDown, .selects RX0 yX0_lineGoesDown yX0_lineGoesDown, .code yX0_lineGoesDown cX0_lineGoesDown 3 (some .boolean), .methodLink RX0 82 yX0_hasPlace, .instanceMethod yX0_hasPlace, .selects RX0 yX0_hasPlace yX0_hasPlace, .code yX0_hasPlace cX0_hasPlace 3 (some .boolean), .static yX4_isWithin, .initialized RX4, .code yX4_isWithin cX4_isWithin 3 (some .boolean)] ++ wsX00)
def wsX0_spell : List Cond := .code yX0_spell cX0_spell 6 none :: ([.fieldLink RX0 11 "GrowingCorners$Grid" "rows" "I", .fieldLink RX0 15 "GrowingCorners$Grid" "columns" "I", .fieldLink RX0 20 "GrowingCorners$Grid" "cells" "[[I"] ++ wsX00)
def wsX1_init : List Cond := .code yX1_init cX1_init 1 none :: ([.methodLink RX1 3 objectInit, .instanceMethod objectInit, .code objectInit ⟨#[0xb1]⟩ 1 none, .arrayClass .long, .fieldLink RX1 9 "GrowingCorners$Sheet" "items" "[J", .fieldLink RX1 15 "GrowingCorners$Sheet" "lane" "I", .fieldLink RX1 19 "GrowingCorners$Sheet" "size" "I"] ++ wsX10)
def wsX1_isMissing : List Cond := .code yX1_isMissing cX1_isMissing 1 (some .boolean) :: ([.fieldLink RX1 15 "GrowingCorners$Sheet" "lane" "I"] ++ wsX10)
def wsX1_isOf : List Cond := .code yX1_isOf cX1_isOf 2 (some .boolean) :: ([.fieldLink RX1 15 "GrowingCorners$Sheet" "lane" "I"] ++ wsX10)
def wsX1_reaches : List Cond := .code yX1_reaches cX1_reaches 3 (some .boolean) :: ([.fieldLink RX1 19 "GrowingCorners$Sheet" "size" "I"] ++ wsX10)
def wsJ7_fill_d0a16 : List Cond := .code yJ7_fill_d0a16 cJ7_fill_d0a16 5 none :: ([])
def wsX1_renew : List Cond := .code yX1_renew cX1_renew 3 none :: ([.fieldLink RX1 9 "GrowingCorners$Sheet" "items" "[J", .fieldLink RX1 15 "GrowingCorners$Sheet" "lane" "I", .fieldLink RX1 19 "GrowingCorners$Sheet" "size" "I", .methodLink RX1 22 yJ7_fill_d0a16, .static yJ7_fill_d0a16, .initialized RJ7, .code yJ7_fill_d0a16 cJ7_fill_d0a16 5 none] ++ wsX10)
def wsX1_vanish : List Cond := .code yX1_vanish cX1_vanish 2 (some .int) :: ([.fieldLink RX1 19 "GrowingCorners$Sheet" "size" "I", .fieldLink RX1 15 "GrowingCorners$Sheet" "lane" "I"] ++ wsX10)
def wsX1_setItem : List Cond := .code yX1_setItem cX1_setItem 3 none :: ([.fieldLink RX1 9 "GrowingCorners$Sheet" "items" "[J"] ++ wsX10)
def wsX4_isWeight : List Cond := .code yX4_isWeight cX4_isWeight 2 (some .boolean) :: ([.constantLong RX4 196 (20)])
def wsX1_areWeights : List Cond := .code yX1_areWeights cX1_areWeights 4 (some .boolean) :: ([.fieldLink RX1 9 "GrowingCorners$Sheet" "items" "[J", .static yX4_isWeight, .initialized RX4, .code yX4_isWeight cX4_isWeight 2 (some .boolean), .constantLong RX4 196 (20)] ++ wsX10)
def wsX2_init : List Cond := .code yX2_init cX2_init 1 none :: ([.methodLink RX2 3 objectInit, .instanceMethod objectInit, .code objectInit ⟨#[0xb1]⟩ 1 none, .classLink RX2 9 "[[I", .arrayClass .int, .fieldLink RX2 11 "GrowingCorners$Tableau" "numbers" "[[I", .fieldLink RX2 16 "GrowingCorners$Tableau" "lengths" "[I", .fieldLink RX2 20 "GrowingCorners$Tableau" "rows" "I", .fieldLink RX2 24 "GrowingCorners$Tableau" "places" "I"] ++ wsX20)
def wsX2_rowCount : List Cond := .code yX2_rowCount cX2_rowCount 1 (some .int) :: ([.fieldLink RX2 20 "GrowingCorners$Tableau" "rows" "I"] ++ wsX20)
def wsX2_placeCount : List Cond := .code yX2_placeCount cX2_placeCount 1 (some .int) :: ([.fieldLink RX2 24 "GrowingCorners$Tableau" "places" "I"] ++ wsX20)
def wsX2_lengthOf : List Cond := .code yX2_lengthOf cX2_lengthOf 2 (some .int) :: ([.fieldLink RX2 16 "GrowingCorners$Tableau" "lengths" "[I"] ++ wsX20)
def wsX2_has : List Cond := .code yX2_has cX2_has 3 (some .boolean) :: ([.methodLink RX2 27 yX2_lengthOf, .instanceMethod yX2_lengthOf, .selects RX2 yX2_lengthOf yX2_lengthOf, .initialized RX2, .code yX2_lengthOf cX2_lengthOf 2 (some .int), .fieldLink RX2 16 "GrowingCorners$Tableau" "lengths" "[I"] ++ wsX20)
def wsX2_at : List Cond := .code yX2_at cX2_at 3 (some .int) :: ([.fieldLink RX2 11 "GrowingCorners$Tableau" "numbers" "[[I", .methodLink RX2 31 yX2_has, .instanceMethod yX2_has, .selects RX2 yX2_has yX2_has, .initialized RX2, .code yX2_has cX2_has 3 (some .boolean), .methodLink RX2 27 yX2_lengthOf, .instanceMethod yX2_lengthOf, .selects RX2 yX2_lengthOf yX2_lengthOf, .code yX2_lengthOf cX2_lengthOf 2 (some .int), .fieldLink RX2 16 "GrowingCorners$Tableau" "lengths" "[I"] ++ wsX20)
def wsX2_empty : List Cond := .code yX2_empty cX2_empty 1 none :: ([.fieldLink RX2 16 "GrowingCorners$Tableau" "lengths" "[I", .fieldLink RX2 20 "GrowingCorners$Tableau" "rows" "I", .fieldLink RX2 24 "GrowingCorners$Tableau" "places" "I", .methodLink RX2 35 yJ7_fill_53178, .static yJ7_fill_53178, .initialized RJ7, .code yJ7_fill_53178 cJ7_fill_53178 4 none] ++ wsX20)
def wsX2_append : List Cond := .code yX2_append cX2_append 3 none :: ([.fieldLink RX2 24 "GrowingCorners$Tableau" "places" "I", .fieldLink RX2 11 "GrowingCorners$Tableau" "numbers" "[[I", .fieldLink RX2 16 "GrowingCorners$Tableau" "lengths" "[I", .fieldLink RX2 20 "GrowingCorners$Tableau" "rows" "I", .methodLink RX2 45 Lib.Math.max.name, .static Lib.Math.max.name, .initialized "java/lang/Math", .code Lib.Math.max.name Lib.Math.max.code 2 (some .int), .static yX4_isWithin, .initialized RX4, .code yX4_isWithin cX4_isWithin 3 (some .boolean)] ++ wsX20)
def wsX2_takeLast : List Cond := .code yX2_takeLast cX2_takeLast 3 (some .int) :: ([.fieldLink RX2 16 "GrowingCorners$Tableau" "lengths" "[I", .fieldLink RX2 24 "GrowingCorners$Tableau" "places" "I", .fieldLink RX2 20 "GrowingCorners$Tableau" "rows" "I", .fieldLink RX2 11 "GrowingCorners$Tableau" "numbers" "[[I", .methodLink RX2 27 yX2_lengthOf, .instanceMethod yX2_lengthOf, .selects RX2 yX2_lengthOf yX2_lengthOf, .initialized RX2, .code yX2_lengthOf cX2_lengthOf 2 (some .int)] ++ wsX20)
def wsX2_exchange : List Cond := .code yX2_exchange cX2_exchange 5 (some .int) :: ([.fieldLink RX2 11 "GrowingCorners$Tableau" "numbers" "[[I", .methodLink RX2 31 yX2_has, .instanceMethod yX2_has, .selects RX2 yX2_has yX2_has, .initialized RX2, .code yX2_has cX2_has 3 (some .boolean), .methodLink RX2 27 yX2_lengthOf, .instanceMethod yX2_lengthOf, .selects RX2 yX2_lengthOf yX2_lengthOf, .code yX2_lengthOf cX2_lengthOf 2 (some .int), .fieldLink RX2 16 "GrowingCorners$Tableau" "lengths" "[I"] ++ wsX20)
def wsX2_firstGreater : List Cond := .code yX2_firstGreater cX2_firstGreater 5 (some .int) :: ([.fieldLink RX2 11 "GrowingCorners$Tableau" "numbers" "[[I", .methodLink RX2 27 yX2_lengthOf, .instanceMethod yX2_lengthOf, .selects RX2 yX2_lengthOf yX2_lengthOf, .initialized RX2, .code yX2_lengthOf cX2_lengthOf 2 (some .int), .fieldLink RX2 16 "GrowingCorners$Tableau" "lengths" "[I"] ++ wsX20)
def wsX2_insert_r1 : List Cond := [Cond.methodLink RX2 51 yX2_firstGreater, Cond.instanceMethod yX2_firstGreater, Cond.selects RX2 yX2_firstGreater yX2_firstGreater, Cond.initialized RX2, Cond.code yX2_firstGreater cX2_firstGreater 5 (some .int), Cond.fieldLink RX2 11 "GrowingCorners$Tableau" "numbers" "[[I", Cond.methodLink RX2 27 yX2_lengthOf, Cond.instanceMethod yX2_lengthOf, Cond.selects RX2 yX2_lengthOf yX2_lengthOf, Cond.code yX2_lengthOf cX2_lengthOf 2 (some .int), Cond.fieldLink RX2 16 "GrowingCorners$Tableau" "lengths" "[I", Cond.methodLink RX2 31 yX2_has, Cond.instanceMethod yX2_has, Cond.selects RX2 yX2_has yX2_has, Cond.code yX2_has cX2_has 3 (some .boolean), Cond.methodLink RX2 54 yX2_append, Cond.instanceMethod yX2_append, Cond.selects RX2 yX2_append yX2_append, Cond.code yX2_append cX2_append 3 none, Cond.fieldLink RX2 24 "GrowingCorners$Tableau" "places" "I", Cond.fieldLink RX2 20 "GrowingCorners$Tableau" "rows" "I", Cond.methodLink RX2 45 Lib.Math.max.name, Cond.static Lib.Math.max.name, Cond.initialized "java/lang/Math"]
def wsX2_insert_r2 : List Cond := [Cond.code Lib.Math.max.name Lib.Math.max.code 2 (some .int), Cond.static yX4_isWithin, Cond.initialized RX4, Cond.code yX4_isWithin cX4_isWithin 3 (some .boolean), Cond.methodLink RX2 58 yX2_exchange, Cond.instanceMethod yX2_exchange, Cond.selects RX2 yX2_exchange yX2_exchange, Cond.code yX2_exchange cX2_exchange 5 (some .int)]
def wsX2_insert : List Cond := .code yX2_insert cX2_insert 5 (some .int) :: ((wsX2_insert_r1 ++ wsX2_insert_r2) ++ wsX20)
def wsX2_lastLess : List Cond := .code yX2_lastLess cX2_lastLess 4 (some .int) :: ([.fieldLink RX2 11 "GrowingCorners$Tableau" "numbers" "[[I", .methodLink RX2 27 yX2_lengthOf, .instanceMethod yX2_lengthOf, .selects RX2 yX2_lengthOf yX2_lengthOf, .initialized RX2, .code yX2_lengthOf cX2_lengthOf 2 (some .int), .fieldLink RX2 16 "GrowingCorners$Tableau" "lengths" "[I"] ++ wsX20)
def wsX2_takeOut_r1 : List Cond := [Cond.methodLink RX2 62 yX2_takeLast, Cond.instanceMethod yX2_takeLast, Cond.selects RX2 yX2_takeLast yX2_takeLast, Cond.initialized RX2, Cond.code yX2_takeLast cX2_takeLast 3 (some .int), Cond.fieldLink RX2 16 "GrowingCorners$Tableau" "lengths" "[I", Cond.fieldLink RX2 24 "GrowingCorners$Tableau" "places" "I", Cond.fieldLink RX2 20 "GrowingCorners$Tableau" "rows" "I", Cond.fieldLink RX2 11 "GrowingCorners$Tableau" "numbers" "[[I", Cond.methodLink RX2 27 yX2_lengthOf, Cond.instanceMethod yX2_lengthOf, Cond.selects RX2 yX2_lengthOf yX2_lengthOf, Cond.code yX2_lengthOf cX2_lengthOf 2 (some .int), Cond.methodLink RX2 65 yX2_lastLess, Cond.instanceMethod yX2_lastLess, Cond.selects RX2 yX2_lastLess yX2_lastLess, Cond.code yX2_lastLess cX2_lastLess 4 (some .int), Cond.methodLink RX2 58 yX2_exchange, Cond.instanceMethod yX2_exchange, Cond.selects RX2 yX2_exchange yX2_exchange, Cond.code yX2_exchange cX2_exchange 5 (some .int), Cond.methodLink RX2 31 yX2_has, Cond.instanceMethod yX2_has, Cond.selects RX2 yX2_has yX2_has]
def wsX2_takeOut_r2 : List Cond := [Cond.code yX2_has cX2_has 3 (some .boolean)]
def wsX2_takeOut : List Cond := .code yX2_takeOut cX2_takeOut 4 (some .int) :: ((wsX2_takeOut_r1 ++ wsX2_takeOut_r2) ++ wsX20)
def wsX2_rowEndingIn : List Cond := .code yX2_rowEndingIn cX2_rowEndingIn 3 (some .int) :: ([.fieldLink RX2 20 "GrowingCorners$Tableau" "rows" "I", .fieldLink RX2 16 "GrowingCorners$Tableau" "lengths" "[I", .methodLink RX2 68 yX2_at, .instanceMethod yX2_at, .selects RX2 yX2_at yX2_at, .initialized RX2, .code yX2_at cX2_at 3 (some .int), .fieldLink RX2 11 "GrowingCorners$Tableau" "numbers" "[[I", .methodLink RX2 31 yX2_has, .instanceMethod yX2_has, .selects RX2 yX2_has yX2_has, .code yX2_has cX2_has 3 (some .boolean), .methodLink RX2 27 yX2_lengthOf, .instanceMethod yX2_lengthOf, .selects RX2 yX2_lengthOf yX2_lengthOf, .code yX2_lengthOf cX2_lengthOf 2 (some .int)] ++ wsX20)
def wsX2_hasShapeOf : List Cond := .code yX2_hasShapeOf cX2_hasShapeOf 3 (some .boolean) :: ([.fieldLink RX2 16 "GrowingCorners$Tableau" "lengths" "[I", .methodLink RX2 27 yX2_lengthOf, .instanceMethod yX2_lengthOf, .selects RX2 yX2_lengthOf yX2_lengthOf, .initialized RX2, .code yX2_lengthOf cX2_lengthOf 2 (some .int)] ++ wsX20)
def wsX2_isStaircase : List Cond := .code yX2_isStaircase cX2_isStaircase 2 (some .boolean) :: ([.fieldLink RX2 20 "GrowingCorners$Tableau" "rows" "I", .fieldLink RX2 16 "GrowingCorners$Tableau" "lengths" "[I"] ++ wsX20)
def wsX2_rises : List Cond := .code yX2_rises cX2_rises 4 (some .boolean) :: ([.fieldLink RX2 20 "GrowingCorners$Tableau" "rows" "I", .fieldLink RX2 16 "GrowingCorners$Tableau" "lengths" "[I", .fieldLink RX2 11 "GrowingCorners$Tableau" "numbers" "[[I", .methodLink RX2 68 yX2_at, .instanceMethod yX2_at, .selects RX2 yX2_at yX2_at, .initialized RX2, .code yX2_at cX2_at 3 (some .int), .methodLink RX2 31 yX2_has, .instanceMethod yX2_has, .selects RX2 yX2_has yX2_has, .code yX2_has cX2_has 3 (some .boolean), .methodLink RX2 27 yX2_lengthOf, .instanceMethod yX2_lengthOf, .selects RX2 yX2_lengthOf yX2_lengthOf, .code yX2_lengthOf cX2_lengthOf 2 (some .int)] ++ wsX20)
def wsX2_isBelow : List Cond := .code yX2_isBelow cX2_isBelow 4 (some .boolean) :: ([.fieldLink RX2 20 "GrowingCorners$Tableau" "rows" "I", .fieldLink RX2 16 "GrowingCorners$Tableau" "lengths" "[I", .fieldLink RX2 11 "GrowingCorners$Tableau" "numbers" "[[I"] ++ wsX20)
def wsX2_hasEachOnce : List Cond := .code yX2_hasEachOnce cX2_hasEachOnce 5 (some .boolean) :: ([.fieldLink RX2 20 "GrowingCorners$Tableau" "rows" "I", .fieldLink RX2 16 "GrowingCorners$Tableau" "lengths" "[I", .fieldLink RX2 11 "GrowingCorners$Tableau" "numbers" "[[I", .fieldLink RX2 24 "GrowingCorners$Tableau" "places" "I"] ++ wsX20)
def wsX3_init : List Cond := .code yX3_init cX3_init 1 none :: ([.methodLink RX3 1 objectInit, .instanceMethod objectInit, .code objectInit ⟨#[0xb1]⟩ 1 none, .classLink RX3 7 RX2, .instantiable RX2 4, .initialized RX2, .fieldLink RX3 10 "GrowingCorners$Word" "p" "LGrowingCorners$Tableau;", .fieldLink RX3 16 "GrowingCorners$Word" "q" "LGrowingCorners$Tableau;", .methodLink RX3 9 yX2_init, .instanceMethod yX2_init, .code yX2_init cX2_init 1 none, .methodLink RX2 3 objectInit, .classLink RX2 9 "[[I", .arrayClass .int, .fieldLink RX2 11 "GrowingCorners$Tableau" "numbers" "[[I", .fieldLink RX2 16 "GrowingCorners$Tableau" "lengths" "[I", .fieldLink RX2 20 "GrowingCorners$Tableau" "rows" "I", .fieldLink RX2 24 "GrowingCorners$Tableau" "places" "I"] ++ wsX20 ++ wsX30)
def wsX3_letterCount : List Cond := .code yX3_letterCount cX3_letterCount 1 (some .int) :: ([.fieldLink RX3 10 "GrowingCorners$Word" "p" "LGrowingCorners$Tableau;", .methodLink RX3 19 yX2_placeCount, .instanceMethod yX2_placeCount, .selects RX2 yX2_placeCount yX2_placeCount, .initialized RX2, .code yX2_placeCount cX2_placeCount 1 (some .int), .fieldLink RX2 24 "GrowingCorners$Tableau" "places" "I"] ++ wsX30 ++ wsX20)
def wsX3_tableau : List Cond := .code yX3_tableau cX3_tableau 2 (some (.object "GrowingCorners$Tableau")) :: ([.fieldLink RX3 10 "GrowingCorners$Word" "p" "LGrowingCorners$Tableau;", .fieldLink RX3 16 "GrowingCorners$Word" "q" "LGrowingCorners$Tableau;"] ++ wsX30)
def wsX3_forget : List Cond := .code yX3_forget cX3_forget 1 none :: ([.fieldLink RX3 10 "GrowingCorners$Word" "p" "LGrowingCorners$Tableau;", .fieldLink RX3 16 "GrowingCorners$Word" "q" "LGrowingCorners$Tableau;", .methodLink RX3 23 yX2_empty, .instanceMethod yX2_empty, .selects RX2 yX2_empty yX2_empty, .initialized RX2, .code yX2_empty cX2_empty 1 none, .fieldLink RX2 16 "GrowingCorners$Tableau" "lengths" "[I", .fieldLink RX2 20 "GrowingCorners$Tableau" "rows" "I", .fieldLink RX2 24 "GrowingCorners$Tableau" "places" "I", .methodLink RX2 35 yJ7_fill_53178, .static yJ7_fill_53178, .initialized RJ7, .code yJ7_fill_53178 cJ7_fill_53178 4 none] ++ wsX30 ++ wsX20)
def wsX3_takeLetter_r1 : List Cond := [Cond.fieldLink RX3 10 "GrowingCorners$Word" "p" "LGrowingCorners$Tableau;", Cond.fieldLink RX3 16 "GrowingCorners$Word" "q" "LGrowingCorners$Tableau;", Cond.methodLink RX3 33 yX2_insert, Cond.instanceMethod yX2_insert, Cond.selects RX2 yX2_insert yX2_insert, Cond.initialized RX2, Cond.code yX2_insert cX2_insert 5 (some .int), Cond.methodLink RX2 51 yX2_firstGreater, Cond.instanceMethod yX2_firstGreater, Cond.selects RX2 yX2_firstGreater yX2_firstGreater, Cond.code yX2_firstGreater cX2_firstGreater 5 (some .int), Cond.fieldLink RX2 11 "GrowingCorners$Tableau" "numbers" "[[I", Cond.methodLink RX2 27 yX2_lengthOf, Cond.instanceMethod yX2_lengthOf, Cond.selects RX2 yX2_lengthOf yX2_lengthOf, Cond.code yX2_lengthOf cX2_lengthOf 2 (some .int), Cond.fieldLink RX2 16 "GrowingCorners$Tableau" "lengths" "[I", Cond.methodLink RX2 31 yX2_has, Cond.instanceMethod yX2_has, Cond.selects RX2 yX2_has yX2_has, Cond.code yX2_has cX2_has 3 (some .boolean), Cond.methodLink RX2 54 yX2_append, Cond.instanceMethod yX2_append, Cond.selects RX2 yX2_append yX2_append]
def wsX3_takeLetter_r2 : List Cond := [Cond.code yX2_append cX2_append 3 none, Cond.fieldLink RX2 24 "GrowingCorners$Tableau" "places" "I", Cond.fieldLink RX2 20 "GrowingCorners$Tableau" "rows" "I", Cond.methodLink RX2 45 Lib.Math.max.name, Cond.static Lib.Math.max.name, Cond.initialized "java/lang/Math", Cond.code Lib.Math.max.name Lib.Math.max.code 2 (some .int), Cond.static yX4_isWithin, Cond.initialized RX4, Cond.code yX4_isWithin cX4_isWithin 3 (some .boolean), Cond.methodLink RX2 58 yX2_exchange, Cond.instanceMethod yX2_exchange, Cond.selects RX2 yX2_exchange yX2_exchange, Cond.code yX2_exchange cX2_exchange 5 (some .int), Cond.methodLink RX3 37 yX3_letterCount, Cond.instanceMethod yX3_letterCount, Cond.selects RX3 yX3_letterCount yX3_letterCount, Cond.initialized RX3, Cond.code yX3_letterCount cX3_letterCount 1 (some .int), Cond.methodLink RX3 19 yX2_placeCount, Cond.instanceMethod yX2_placeCount, Cond.selects RX2 yX2_placeCount yX2_placeCount, Cond.code yX2_placeCount cX2_placeCount 1 (some .int), Cond.methodLink RX3 40 yX2_append]
def wsX3_takeLetter : List Cond := .code yX3_takeLetter cX3_takeLetter 3 none :: ((wsX3_takeLetter_r1 ++ wsX3_takeLetter_r2) ++ wsX30 ++ wsX20)
def wsX3_become_r1 : List Cond := [Cond.methodLink RX3 26 yX3_forget, Cond.instanceMethod yX3_forget, Cond.selects RX3 yX3_forget yX3_forget, Cond.initialized RX3, Cond.code yX3_forget cX3_forget 1 none, Cond.fieldLink RX3 10 "GrowingCorners$Word" "p" "LGrowingCorners$Tableau;", Cond.fieldLink RX3 16 "GrowingCorners$Word" "q" "LGrowingCorners$Tableau;", Cond.methodLink RX3 23 yX2_empty, Cond.instanceMethod yX2_empty, Cond.selects RX2 yX2_empty yX2_empty, Cond.initialized RX2, Cond.code yX2_empty cX2_empty 1 none, Cond.fieldLink RX2 16 "GrowingCorners$Tableau" "lengths" "[I", Cond.fieldLink RX2 20 "GrowingCorners$Tableau" "rows" "I", Cond.fieldLink RX2 24 "GrowingCorners$Tableau" "places" "I", Cond.methodLink RX2 35 yJ7_fill_53178, Cond.static yJ7_fill_53178, Cond.initialized RJ7, Cond.code yJ7_fill_53178 cJ7_fill_53178 4 none, Cond.methodLink RX3 29 yX3_takeLetter, Cond.instanceMethod yX3_takeLetter, Cond.selects RX3 yX3_takeLetter yX3_takeLetter, Cond.code yX3_takeLetter cX3_takeLetter 3 none, Cond.methodLink RX3 33 yX2_insert]
def wsX3_become_r2 : List Cond := [Cond.instanceMethod yX2_insert, Cond.selects RX2 yX2_insert yX2_insert, Cond.code yX2_insert cX2_insert 5 (some .int), Cond.methodLink RX2 51 yX2_firstGreater, Cond.instanceMethod yX2_firstGreater, Cond.selects RX2 yX2_firstGreater yX2_firstGreater, Cond.code yX2_firstGreater cX2_firstGreater 5 (some .int), Cond.fieldLink RX2 11 "GrowingCorners$Tableau" "numbers" "[[I", Cond.methodLink RX2 27 yX2_lengthOf, Cond.instanceMethod yX2_lengthOf, Cond.selects RX2 yX2_lengthOf yX2_lengthOf, Cond.code yX2_lengthOf cX2_lengthOf 2 (some .int), Cond.methodLink RX2 31 yX2_has, Cond.instanceMethod yX2_has, Cond.selects RX2 yX2_has yX2_has, Cond.code yX2_has cX2_has 3 (some .boolean), Cond.methodLink RX2 54 yX2_append, Cond.instanceMethod yX2_append, Cond.selects RX2 yX2_append yX2_append, Cond.code yX2_append cX2_append 3 none, Cond.methodLink RX2 45 Lib.Math.max.name, Cond.static Lib.Math.max.name, Cond.initialized "java/lang/Math", Cond.code Lib.Math.max.name Lib.Math.max.code 2 (some .int)]
def wsX3_become_r3 : List Cond := [Cond.static yX4_isWithin, Cond.initialized RX4, Cond.code yX4_isWithin cX4_isWithin 3 (some .boolean), Cond.methodLink RX2 58 yX2_exchange, Cond.instanceMethod yX2_exchange, Cond.selects RX2 yX2_exchange yX2_exchange, Cond.code yX2_exchange cX2_exchange 5 (some .int), Cond.methodLink RX3 37 yX3_letterCount, Cond.instanceMethod yX3_letterCount, Cond.selects RX3 yX3_letterCount yX3_letterCount, Cond.code yX3_letterCount cX3_letterCount 1 (some .int), Cond.methodLink RX3 19 yX2_placeCount, Cond.instanceMethod yX2_placeCount, Cond.selects RX2 yX2_placeCount yX2_placeCount, Cond.code yX2_placeCount cX2_placeCount 1 (some .int), Cond.methodLink RX3 40 yX2_append]
def wsX3_become : List Cond := .code yX3_become cX3_become 4 none :: ((wsX3_become_r1 ++ (wsX3_become_r2 ++ wsX3_become_r3)) ++ wsX30 ++ wsX20)
def wsX4_init_r1 : List Cond := [Cond.methodLink RX4 1 objectInit, Cond.instanceMethod objectInit, Cond.code objectInit ⟨#[0xb1]⟩ 1 none, Cond.classLink RX4 7 RX0, Cond.instantiable RX0 6, Cond.initialized RX0, Cond.fieldLink RX4 10 "GrowingCorners" "grid" "LGrowingCorners$Grid;", Cond.classLink RX4 16 RX1, Cond.fieldLink RX4 18 "GrowingCorners" "sheets" "[LGrowingCorners$Sheet;", Cond.instantiable RX1 3, Cond.initialized RX1, Cond.classLink RX4 23 RX3, Cond.instantiable RX3 2, Cond.initialized RX3, Cond.fieldLink RX4 26 "GrowingCorners" "word" "LGrowingCorners$Word;", Cond.classLink RX4 30 RX2, Cond.instantiable RX2 4, Cond.initialized RX2, Cond.fieldLink RX4 33 "GrowingCorners" "laidP" "LGrowingCorners$Tableau;", Cond.fieldLink RX4 37 "GrowingCorners" "laidQ" "LGrowingCorners$Tableau;", Cond.arrayClass .int, Cond.fieldLink RX4 40 "GrowingCorners" "draft" "[I", Cond.methodLink RX4 9 yX0_init, Cond.instanceMethod yX0_init]
def wsX4_init_r2 : List Cond := [Cond.code yX0_init cX0_init 1 none, Cond.methodLink RX0 3 objectInit, Cond.fieldLink RX0 11 "GrowingCorners$Grid" "rows" "I", Cond.fieldLink RX0 15 "GrowingCorners$Grid" "columns" "I", Cond.classLink RX0 18 "[[I", Cond.fieldLink RX0 20 "GrowingCorners$Grid" "cells" "[[I", Cond.fieldLink RX0 23 "GrowingCorners$Grid" "greatest" "[[I", Cond.classLink RX0 26 "[[J", Cond.arrayClass .long, Cond.fieldLink RX0 28 "GrowingCorners$Grid" "products" "[[J", Cond.fieldLink RX0 31 "GrowingCorners$Grid" "parts" "[[I", Cond.methodLink RX4 22 yX1_init, Cond.instanceMethod yX1_init, Cond.code yX1_init cX1_init 1 none, Cond.methodLink RX1 3 objectInit, Cond.fieldLink RX1 9 "GrowingCorners$Sheet" "items" "[J", Cond.fieldLink RX1 15 "GrowingCorners$Sheet" "lane" "I", Cond.fieldLink RX1 19 "GrowingCorners$Sheet" "size" "I", Cond.methodLink RX4 25 yX3_init, Cond.instanceMethod yX3_init, Cond.code yX3_init cX3_init 1 none, Cond.methodLink RX3 1 objectInit, Cond.classLink RX3 7 RX2, Cond.fieldLink RX3 10 "GrowingCorners$Word" "p" "LGrowingCorners$Tableau;"]
def wsX4_init_r3 : List Cond := [Cond.fieldLink RX3 16 "GrowingCorners$Word" "q" "LGrowingCorners$Tableau;", Cond.methodLink RX3 9 yX2_init, Cond.instanceMethod yX2_init, Cond.code yX2_init cX2_init 1 none, Cond.methodLink RX2 3 objectInit, Cond.classLink RX2 9 "[[I", Cond.fieldLink RX2 11 "GrowingCorners$Tableau" "numbers" "[[I", Cond.fieldLink RX2 16 "GrowingCorners$Tableau" "lengths" "[I", Cond.fieldLink RX2 20 "GrowingCorners$Tableau" "rows" "I", Cond.fieldLink RX2 24 "GrowingCorners$Tableau" "places" "I", Cond.methodLink RX4 32 yX2_init]
def wsX4_init : List Cond := .code yX4_init cX4_init 2 none :: ((wsX4_init_r1 ++ (wsX4_init_r2 ++ wsX4_init_r3)) ++ wsX00 ++ wsX40 ++ wsX10 ++ wsX30 ++ wsX20)
def wsX4_box : List Cond := .code yX4_box cX4_box 3 (some .int) :: ([.fieldLink RX4 10 "GrowingCorners" "grid" "LGrowingCorners$Grid;", .methodLink RX4 44 yX4_isWithin, .static yX4_isWithin, .initialized RX4, .code yX4_isWithin cX4_isWithin 3 (some .boolean), .methodLink RX4 48 yX0_reset, .instanceMethod yX0_reset, .selects RX0 yX0_reset yX0_reset, .initialized RX0, .code yX0_reset cX0_reset 4 none, .fieldLink RX0 11 "GrowingCorners$Grid" "rows" "I", .fieldLink RX0 15 "GrowingCorners$Grid" "columns" "I", .fieldLink RX0 20 "GrowingCorners$Grid" "cells" "[[I", .methodLink RX0 34 yJ7_fill_53178, .static yJ7_fill_53178, .initialized RJ7, .code yJ7_fill_53178 cJ7_fill_53178 4 none] ++ wsX40 ++ wsX00)
def wsX4_weight : List Cond := .code yX4_weight cX4_weight 4 (some .int) :: ([.fieldLink RX4 10 "GrowingCorners" "grid" "LGrowingCorners$Grid;", .methodLink RX4 52 yX0_hasPlace, .instanceMethod yX0_hasPlace, .selects RX0 yX0_hasPlace yX0_hasPlace, .initialized RX0, .code yX0_hasPlace cX0_hasPlace 3 (some .boolean), .fieldLink RX0 11 "GrowingCorners$Grid" "rows" "I", .fieldLink RX0 15 "GrowingCorners$Grid" "columns" "I", .static yX4_isWithin, .initialized RX4, .code yX4_isWithin cX4_isWithin 3 (some .boolean), .methodLink RX4 56 yX4_isWeight, .static yX4_isWeight, .code yX4_isWeight cX4_isWeight 2 (some .boolean), .constantLong RX4 196 (20), .methodLink RX4 60 yX0_exchange, .instanceMethod yX0_exchange, .selects RX0 yX0_exchange yX0_exchange, .code yX0_exchange cX0_exchange 5 (some .int), .fieldLink RX0 20 "GrowingCorners$Grid" "cells" "[[I"] ++ wsX40 ++ wsX00)
def wsX4_isSheet : List Cond := .code yX4_isSheet cX4_isSheet 1 (some .boolean) :: ([.methodLink RX4 44 yX4_isWithin, .static yX4_isWithin, .initialized RX4, .code yX4_isWithin cX4_isWithin 3 (some .boolean)])
def wsX4_isLane : List Cond := .code yX4_isLane cX4_isLane 1 (some .boolean) :: ([.methodLink RX4 44 yX4_isWithin, .static yX4_isWithin, .initialized RX4, .code yX4_isWithin cX4_isWithin 3 (some .boolean)])
def wsX4_sheet : List Cond := .code yX4_sheet cX4_sheet 4 (some .int) :: ([.fieldLink RX4 18 "GrowingCorners" "sheets" "[LGrowingCorners$Sheet;", .methodLink RX4 64 yX4_isSheet, .static yX4_isSheet, .initialized RX4, .code yX4_isSheet cX4_isSheet 1 (some .boolean), .methodLink RX4 44 yX4_isWithin, .static yX4_isWithin, .code yX4_isWithin cX4_isWithin 3 (some .boolean), .methodLink RX4 68 yX4_isLane, .static yX4_isLane, .code yX4_isLane cX4_isLane 1 (some .boolean), .methodLink RX4 71 yX1_renew, .instanceMethod yX1_renew, .selects RX1 yX1_renew yX1_renew, .initialized RX1, .code yX1_renew cX1_renew 3 none, .fieldLink RX1 9 "GrowingCorners$Sheet" "items" "[J", .fieldLink RX1 15 "GrowingCorners$Sheet" "lane" "I", .fieldLink RX1 19 "GrowingCorners$Sheet" "size" "I", .methodLink RX1 22 yJ7_fill_d0a16, .static yJ7_fill_d0a16, .initialized RJ7, .code yJ7_fill_d0a16 cJ7_fill_d0a16 5 none] ++ wsX40 ++ wsX10)
def wsX4_drop : List Cond := .code yX4_drop cX4_drop 2 (some .int) :: ([.fieldLink RX4 18 "GrowingCorners" "sheets" "[LGrowingCorners$Sheet;", .methodLink RX4 64 yX4_isSheet, .static yX4_isSheet, .initialized RX4, .code yX4_isSheet cX4_isSheet 1 (some .boolean), .methodLink RX4 44 yX4_isWithin, .static yX4_isWithin, .code yX4_isWithin cX4_isWithin 3 (some .boolean), .methodLink RX4 74 yX1_isMissing, .instanceMethod yX1_isMissing, .selects RX1 yX1_isMissing yX1_isMissing, .initialized RX1, .code yX1_isMissing cX1_isMissing 1 (some .boolean), .fieldLink RX1 15 "GrowingCorners$Sheet" "lane" "I", .methodLink RX4 78 yX1_vanish, .instanceMethod yX1_vanish, .selects RX1 yX1_vanish yX1_vanish, .code yX1_vanish cX1_vanish 2 (some .int), .fieldLink RX1 19 "GrowingCorners$Sheet" "size" "I"] ++ wsX40 ++ wsX10)
def wsX4_lookAtItems_r1 : List Cond := [Cond.fieldLink RX4 18 "GrowingCorners" "sheets" "[LGrowingCorners$Sheet;", Cond.methodLink RX4 64 yX4_isSheet, Cond.static yX4_isSheet, Cond.initialized RX4, Cond.code yX4_isSheet cX4_isSheet 1 (some .boolean), Cond.methodLink RX4 44 yX4_isWithin, Cond.static yX4_isWithin, Cond.code yX4_isWithin cX4_isWithin 3 (some .boolean), Cond.methodLink RX4 68 yX4_isLane, Cond.static yX4_isLane, Cond.code yX4_isLane cX4_isLane 1 (some .boolean), Cond.methodLink RX4 74 yX1_isMissing, Cond.instanceMethod yX1_isMissing, Cond.selects RX1 yX1_isMissing yX1_isMissing, Cond.initialized RX1, Cond.code yX1_isMissing cX1_isMissing 1 (some .boolean), Cond.fieldLink RX1 15 "GrowingCorners$Sheet" "lane" "I", Cond.methodLink RX4 198 yX1_isOf, Cond.instanceMethod yX1_isOf, Cond.selects RX1 yX1_isOf yX1_isOf, Cond.code yX1_isOf cX1_isOf 2 (some .boolean), Cond.methodLink RX4 201 yX1_reaches, Cond.instanceMethod yX1_reaches, Cond.selects RX1 yX1_reaches yX1_reaches]
def wsX4_lookAtItems_r2 : List Cond := [Cond.code yX1_reaches cX1_reaches 3 (some .boolean), Cond.fieldLink RX1 19 "GrowingCorners$Sheet" "size" "I"]
def wsX4_lookAtItems : List Cond := .code yX4_lookAtItems cX4_lookAtItems 6 (some .int) :: ((wsX4_lookAtItems_r1 ++ wsX4_lookAtItems_r2) ++ wsX40 ++ wsX10)
def wsX4_item_r1 : List Cond := [Cond.fieldLink RX4 18 "GrowingCorners" "sheets" "[LGrowingCorners$Sheet;", Cond.methodLink RX4 82 yX4_lookAtItems, Cond.instanceMethod yX4_lookAtItems, Cond.selects RX4 yX4_lookAtItems yX4_lookAtItems, Cond.initialized RX4, Cond.code yX4_lookAtItems cX4_lookAtItems 6 (some .int), Cond.methodLink RX4 64 yX4_isSheet, Cond.static yX4_isSheet, Cond.code yX4_isSheet cX4_isSheet 1 (some .boolean), Cond.methodLink RX4 44 yX4_isWithin, Cond.static yX4_isWithin, Cond.code yX4_isWithin cX4_isWithin 3 (some .boolean), Cond.methodLink RX4 68 yX4_isLane, Cond.static yX4_isLane, Cond.code yX4_isLane cX4_isLane 1 (some .boolean), Cond.methodLink RX4 74 yX1_isMissing, Cond.instanceMethod yX1_isMissing, Cond.selects RX1 yX1_isMissing yX1_isMissing, Cond.initialized RX1, Cond.code yX1_isMissing cX1_isMissing 1 (some .boolean), Cond.fieldLink RX1 15 "GrowingCorners$Sheet" "lane" "I", Cond.methodLink RX4 198 yX1_isOf, Cond.instanceMethod yX1_isOf, Cond.selects RX1 yX1_isOf yX1_isOf]
def wsX4_item_r2 : List Cond := [Cond.code yX1_isOf cX1_isOf 2 (some .boolean), Cond.methodLink RX4 201 yX1_reaches, Cond.instanceMethod yX1_reaches, Cond.selects RX1 yX1_reaches yX1_reaches, Cond.code yX1_reaches cX1_reaches 3 (some .boolean), Cond.fieldLink RX1 19 "GrowingCorners$Sheet" "size" "I", Cond.methodLink RX4 86 yX1_setItem, Cond.instanceMethod yX1_setItem, Cond.selects RX1 yX1_setItem yX1_setItem, Cond.code yX1_setItem cX1_setItem 3 none, Cond.fieldLink RX1 9 "GrowingCorners$Sheet" "items" "[J"]
def wsX4_item : List Cond := .code yX4_item cX4_item 6 (some .int) :: ((wsX4_item_r1 ++ wsX4_item_r2) ++ wsX40 ++ wsX10)
def wsX4_weights_r1 : List Cond := [Cond.fieldLink RX4 10 "GrowingCorners" "grid" "LGrowingCorners$Grid;", Cond.fieldLink RX4 18 "GrowingCorners" "sheets" "[LGrowingCorners$Sheet;", Cond.methodLink RX4 89 yX0_placeCount, Cond.instanceMethod yX0_placeCount, Cond.selects RX0 yX0_placeCount yX0_placeCount, Cond.initialized RX0, Cond.code yX0_placeCount cX0_placeCount 1 (some .int), Cond.fieldLink RX0 11 "GrowingCorners$Grid" "rows" "I", Cond.fieldLink RX0 15 "GrowingCorners$Grid" "columns" "I", Cond.methodLink RX4 82 yX4_lookAtItems, Cond.instanceMethod yX4_lookAtItems, Cond.selects RX4 yX4_lookAtItems yX4_lookAtItems, Cond.initialized RX4, Cond.code yX4_lookAtItems cX4_lookAtItems 6 (some .int), Cond.methodLink RX4 64 yX4_isSheet, Cond.static yX4_isSheet, Cond.code yX4_isSheet cX4_isSheet 1 (some .boolean), Cond.methodLink RX4 44 yX4_isWithin, Cond.static yX4_isWithin, Cond.code yX4_isWithin cX4_isWithin 3 (some .boolean), Cond.methodLink RX4 68 yX4_isLane, Cond.static yX4_isLane, Cond.code yX4_isLane cX4_isLane 1 (some .boolean), Cond.methodLink RX4 74 yX1_isMissing]
def wsX4_weights_r2 : List Cond := [Cond.instanceMethod yX1_isMissing, Cond.selects RX1 yX1_isMissing yX1_isMissing, Cond.initialized RX1, Cond.code yX1_isMissing cX1_isMissing 1 (some .boolean), Cond.fieldLink RX1 15 "GrowingCorners$Sheet" "lane" "I", Cond.methodLink RX4 198 yX1_isOf, Cond.instanceMethod yX1_isOf, Cond.selects RX1 yX1_isOf yX1_isOf, Cond.code yX1_isOf cX1_isOf 2 (some .boolean), Cond.methodLink RX4 201 yX1_reaches, Cond.instanceMethod yX1_reaches, Cond.selects RX1 yX1_reaches yX1_reaches, Cond.code yX1_reaches cX1_reaches 3 (some .boolean), Cond.fieldLink RX1 19 "GrowingCorners$Sheet" "size" "I", Cond.methodLink RX4 92 yX1_areWeights, Cond.instanceMethod yX1_areWeights, Cond.selects RX1 yX1_areWeights yX1_areWeights, Cond.code yX1_areWeights cX1_areWeights 4 (some .boolean), Cond.fieldLink RX1 9 "GrowingCorners$Sheet" "items" "[J", Cond.static yX4_isWeight, Cond.code yX4_isWeight cX4_isWeight 2 (some .boolean), Cond.constantLong RX4 196 (20), Cond.methodLink RX4 95 yX0_takeFrom, Cond.instanceMethod yX0_takeFrom]
def wsX4_weights_r3 : List Cond := [Cond.selects RX0 yX0_takeFrom yX0_takeFrom, Cond.code yX0_takeFrom cX0_takeFrom 6 none, Cond.fieldLink RX0 20 "GrowingCorners$Grid" "cells" "[[I", Cond.methodLink RX0 44 yX1_itemAt, Cond.instanceMethod yX1_itemAt, Cond.selects RX1 yX1_itemAt yX1_itemAt, Cond.code yX1_itemAt cX1_itemAt 2 (some .long), Cond.methodLink RX4 99 yX0_total, Cond.instanceMethod yX0_total, Cond.selects RX0 yX0_total yX0_total, Cond.code yX0_total cX0_total 4 (some .int)]
def wsX4_weights : List Cond := .code yX4_weights cX4_weights 6 (some .int) :: ((wsX4_weights_r1 ++ (wsX4_weights_r2 ++ wsX4_weights_r3)) ++ wsX40 ++ wsX00 ++ wsX10)
def wsX4_turn : List Cond := .code yX4_turn cX4_turn 1 (some .int) :: ([.fieldLink RX4 10 "GrowingCorners" "grid" "LGrowingCorners$Grid;", .methodLink RX4 102 yX0_transpose, .instanceMethod yX0_transpose, .selects RX0 yX0_transpose yX0_transpose, .initialized RX0, .code yX0_transpose cX0_transpose 4 none, .fieldLink RX0 20 "GrowingCorners$Grid" "cells" "[[I", .fieldLink RX0 11 "GrowingCorners$Grid" "rows" "I", .fieldLink RX0 15 "GrowingCorners$Grid" "columns" "I"] ++ wsX40 ++ wsX00)
def wsX4_best : List Cond := .code yX4_best cX4_best 3 (some .int) :: ([.fieldLink RX4 10 "GrowingCorners" "grid" "LGrowingCorners$Grid;", .methodLink RX4 52 yX0_hasPlace, .instanceMethod yX0_hasPlace, .selects RX0 yX0_hasPlace yX0_hasPlace, .initialized RX0, .code yX0_hasPlace cX0_hasPlace 3 (some .boolean), .fieldLink RX0 11 "GrowingCorners$Grid" "rows" "I", .fieldLink RX0 15 "GrowingCorners$Grid" "columns" "I", .static yX4_isWithin, .initialized RX4, .code yX4_isWithin cX4_isWithin 3 (some .boolean), .methodLink RX4 105 yX0_heaviest, .instanceMethod yX0_heaviest, .selects RX0 yX0_heaviest yX0_heaviest, .code yX0_heaviest cX0_heaviest 9 (some .int), .fieldLink RX0 23 "GrowingCorners$Grid" "greatest" "[[I", .fieldLink RX0 20 "GrowingCorners$Grid" "cells" "[[I", .methodLink RX0 50 Lib.Math.max.name, .static Lib.Math.max.name, .initialized "java/lang/Math", .code Lib.Math.max.name Lib.Math.max.code 2 (some .int)] ++ wsX40 ++ wsX00)
def wsX4_between : List Cond := .code yX4_between cX4_between 5 (some .int) :: ([.fieldLink RX4 10 "GrowingCorners" "grid" "LGrowingCorners$Grid;", .methodLink RX4 52 yX0_hasPlace, .instanceMethod yX0_hasPlace, .selects RX0 yX0_hasPlace yX0_hasPlace, .initialized RX0, .code yX0_hasPlace cX0_hasPlace 3 (some .boolean), .fieldLink RX0 11 "GrowingCorners$Grid" "rows" "I", .fieldLink RX0 15 "GrowingCorners$Grid" "columns" "I", .static yX4_isWithin, .initialized RX4, .code yX4_isWithin cX4_isWithin 3 (some .boolean), .methodLink RX4 105 yX0_heaviest, .instanceMethod yX0_heaviest, .selects RX0 yX0_heaviest yX0_heaviest, .code yX0_heaviest cX0_heaviest 9 (some .int), .fieldLink RX0 23 "GrowingCorners$Grid" "greatest" "[[I", .fieldLink RX0 20 "GrowingCorners$Grid" "cells" "[[I", .methodLink RX0 50 Lib.Math.max.name, .static Lib.Math.max.name, .initialized "java/lang/Math", .code Lib.Math.max.name Lib.Math.max.code 2 (some .int)] ++ wsX40 ++ wsX00)
def wsX4_shape_r1 : List Cond := [Cond.fieldLink RX4 10 "GrowingCorners" "grid" "LGrowingCorners$Grid;", Cond.methodLink RX4 108 yX0_hasCorner, Cond.instanceMethod yX0_hasCorner, Cond.selects RX0 yX0_hasCorner yX0_hasCorner, Cond.initialized RX0, Cond.code yX0_hasCorner cX0_hasCorner 3 (some .boolean), Cond.fieldLink RX0 11 "GrowingCorners$Grid" "rows" "I", Cond.fieldLink RX0 15 "GrowingCorners$Grid" "columns" "I", Cond.static yX4_isWithin, Cond.initialized RX4, Cond.code yX4_isWithin cX4_isWithin 3 (some .boolean), Cond.methodLink RX4 44 yX4_isWithin, Cond.methodLink RX4 111 yX0_growShapes, Cond.instanceMethod yX0_growShapes, Cond.selects RX0 yX0_growShapes yX0_growShapes, Cond.code yX0_growShapes cX0_growShapes 3 none, Cond.methodLink RX0 56 yX0_growCorner, Cond.instanceMethod yX0_growCorner, Cond.selects RX0 yX0_growCorner yX0_growCorner, Cond.code yX0_growCorner cX0_growCorner 8 none, Cond.fieldLink RX0 31 "GrowingCorners$Grid" "parts" "[[I", Cond.methodLink RX0 50 Lib.Math.max.name, Cond.static Lib.Math.max.name, Cond.initialized "java/lang/Math"]
def wsX4_shape_r2 : List Cond := [Cond.code Lib.Math.max.name Lib.Math.max.code 2 (some .int), Cond.fieldLink RX0 20 "GrowingCorners$Grid" "cells" "[[I", Cond.methodLink RX0 63 Lib.Math.min.name, Cond.static Lib.Math.min.name, Cond.code Lib.Math.min.name Lib.Math.min.code 2 (some .int), Cond.methodLink RX0 60 yX0_cornerNumber, Cond.static yX0_cornerNumber, Cond.code yX0_cornerNumber cX0_cornerNumber 2 (some .int), Cond.methodLink RX4 114 yX0_partAt, Cond.instanceMethod yX0_partAt, Cond.selects RX0 yX0_partAt yX0_partAt, Cond.code yX0_partAt cX0_partAt 4 (some .int)]
def wsX4_shape : List Cond := .code yX4_shape cX4_shape 4 (some .int) :: ((wsX4_shape_r1 ++ wsX4_shape_r2) ++ wsX40 ++ wsX00)
def wsX4_ways_r1 : List Cond := [Cond.fieldLink RX4 10 "GrowingCorners" "grid" "LGrowingCorners$Grid;", Cond.methodLink RX4 44 yX4_isWithin, Cond.static yX4_isWithin, Cond.initialized RX4, Cond.code yX4_isWithin cX4_isWithin 3 (some .boolean), Cond.methodLink RX4 111 yX0_growShapes, Cond.instanceMethod yX0_growShapes, Cond.selects RX0 yX0_growShapes yX0_growShapes, Cond.initialized RX0, Cond.code yX0_growShapes cX0_growShapes 3 none, Cond.fieldLink RX0 11 "GrowingCorners$Grid" "rows" "I", Cond.fieldLink RX0 15 "GrowingCorners$Grid" "columns" "I", Cond.methodLink RX0 56 yX0_growCorner, Cond.instanceMethod yX0_growCorner, Cond.selects RX0 yX0_growCorner yX0_growCorner, Cond.code yX0_growCorner cX0_growCorner 8 none, Cond.fieldLink RX0 31 "GrowingCorners$Grid" "parts" "[[I", Cond.methodLink RX0 50 Lib.Math.max.name, Cond.static Lib.Math.max.name, Cond.initialized "java/lang/Math", Cond.code Lib.Math.max.name Lib.Math.max.code 2 (some .int), Cond.fieldLink RX0 20 "GrowingCorners$Grid" "cells" "[[I", Cond.methodLink RX0 63 Lib.Math.min.name, Cond.static Lib.Math.min.name]
def wsX4_ways_r2 : List Cond := [Cond.code Lib.Math.min.name Lib.Math.min.code 2 (some .int), Cond.methodLink RX0 60 yX0_cornerNumber, Cond.static yX0_cornerNumber, Cond.code yX0_cornerNumber cX0_cornerNumber 2 (some .int), Cond.methodLink RX4 117 yX0_firstPartsAtEnd, Cond.instanceMethod yX0_firstPartsAtEnd, Cond.selects RX0 yX0_firstPartsAtEnd yX0_firstPartsAtEnd, Cond.code yX0_firstPartsAtEnd cX0_firstPartsAtEnd 4 (some .int), Cond.methodLink RX0 66 yX0_partAt, Cond.instanceMethod yX0_partAt, Cond.selects RX0 yX0_partAt yX0_partAt, Cond.code yX0_partAt cX0_partAt 4 (some .int)]
def wsX4_ways : List Cond := .code yX4_ways cX4_ways 2 (some .int) :: ((wsX4_ways_r1 ++ wsX4_ways_r2) ++ wsX40 ++ wsX00)
def wsX4_sums : List Cond := .code yX4_sums cX4_sums 3 (some .long) :: ([.fieldLink RX4 10 "GrowingCorners" "grid" "LGrowingCorners$Grid;", .constantLong RX4 121 (-1), .methodLink RX4 52 yX0_hasPlace, .instanceMethod yX0_hasPlace, .selects RX0 yX0_hasPlace yX0_hasPlace, .initialized RX0, .code yX0_hasPlace cX0_hasPlace 3 (some .boolean), .fieldLink RX0 11 "GrowingCorners$Grid" "rows" "I", .fieldLink RX0 15 "GrowingCorners$Grid" "columns" "I", .static yX4_isWithin, .initialized RX4, .code yX4_isWithin cX4_isWithin 3 (some .boolean), .methodLink RX4 123 yX0_productSum, .instanceMethod yX0_productSum, .selects RX0 yX0_productSum yX0_productSum, .code yX0_productSum cX0_productSum 5 (some .long), .fieldLink RX0 28 "GrowingCorners$Grid" "products" "[[J", .fieldLink RX0 20 "GrowingCorners$Grid" "cells" "[[I", .methodLink RX0 70 yX0_productsBefore, .instanceMethod yX0_productsBefore, .selects RX0 yX0_productsBefore yX0_productsBefore, .code yX0_productsBefore cX0_productsBefore 7 (some .long)] ++ wsX40 ++ wsX00)
def wsX4_served_r1 : List Cond := [Cond.fieldLink RX4 10 "GrowingCorners" "grid" "LGrowingCorners$Grid;", Cond.methodLink RX4 52 yX0_hasPlace, Cond.instanceMethod yX0_hasPlace, Cond.selects RX0 yX0_hasPlace yX0_hasPlace, Cond.initialized RX0, Cond.code yX0_hasPlace cX0_hasPlace 3 (some .boolean), Cond.fieldLink RX0 11 "GrowingCorners$Grid" "rows" "I", Cond.fieldLink RX0 15 "GrowingCorners$Grid" "columns" "I", Cond.static yX4_isWithin, Cond.initialized RX4, Cond.code yX4_isWithin cX4_isWithin 3 (some .boolean), Cond.methodLink RX4 127 yX0_countServed, Cond.instanceMethod yX0_countServed, Cond.selects RX0 yX0_countServed yX0_countServed, Cond.code yX0_countServed cX0_countServed 5 (some .int), Cond.fieldLink RX0 23 "GrowingCorners$Grid" "greatest" "[[I", Cond.methodLink RX0 74 yX0_heaviest, Cond.instanceMethod yX0_heaviest, Cond.selects RX0 yX0_heaviest yX0_heaviest, Cond.code yX0_heaviest cX0_heaviest 9 (some .int), Cond.fieldLink RX0 20 "GrowingCorners$Grid" "cells" "[[I", Cond.methodLink RX0 50 Lib.Math.max.name, Cond.static Lib.Math.max.name, Cond.initialized "java/lang/Math"]
def wsX4_served_r2 : List Cond := [Cond.code Lib.Math.max.name Lib.Math.max.code 2 (some .int)]
def wsX4_served : List Cond := .code yX4_served cX4_served 3 (some .int) :: ((wsX4_served_r1 ++ wsX4_served_r2) ++ wsX40 ++ wsX00)
def wsX4_line_r1 : List Cond := [Cond.fieldLink RX4 10 "GrowingCorners" "grid" "LGrowingCorners$Grid;", Cond.methodLink RX4 131 yX0_lastStep, Cond.instanceMethod yX0_lastStep, Cond.selects RX0 yX0_lastStep yX0_lastStep, Cond.initialized RX0, Cond.code yX0_lastStep cX0_lastStep 1 (some .int), Cond.fieldLink RX0 11 "GrowingCorners$Grid" "rows" "I", Cond.fieldLink RX0 15 "GrowingCorners$Grid" "columns" "I", Cond.methodLink RX4 44 yX4_isWithin, Cond.static yX4_isWithin, Cond.initialized RX4, Cond.code yX4_isWithin cX4_isWithin 3 (some .boolean), Cond.methodLink RX4 134 yX0_placeOnLine, Cond.instanceMethod yX0_placeOnLine, Cond.selects RX0 yX0_placeOnLine yX0_placeOnLine, Cond.code yX0_placeOnLine cX0_placeOnLine 5 (some .int), Cond.methodLink RX0 74 yX0_heaviest, Cond.instanceMethod yX0_heaviest, Cond.selects RX0 yX0_heaviest yX0_heaviest, Cond.code yX0_heaviest cX0_heaviest 9 (some .int), Cond.fieldLink RX0 23 "GrowingCorners$Grid" "greatest" "[[I", Cond.fieldLink RX0 20 "GrowingCorners$Grid" "cells" "[[I", Cond.methodLink RX0 50 Lib.Math.max.name, Cond.static Lib.Math.max.name]
def wsX4_line_r2 : List Cond := [Cond.initialized "java/lang/Math", Cond.code Lib.Math.max.name Lib.Math.max.code 2 (some .int), Cond.methodLink RX0 78 yX0_lineGoesDown, Cond.instanceMethod yX0_lineGoesDown, Cond.selects RX0 yX0_lineGoesDown yX0_lineGoesDown, Cond.code yX0_lineGoesDown cX0_lineGoesDown 3 (some .boolean), Cond.methodLink RX0 82 yX0_hasPlace, Cond.instanceMethod yX0_hasPlace, Cond.selects RX0 yX0_hasPlace yX0_hasPlace, Cond.code yX0_hasPlace cX0_hasPlace 3 (some .boolean)]
def wsX4_line : List Cond := .code yX4_line cX4_line 2 (some .int) :: ((wsX4_line_r1 ++ wsX4_line_r2) ++ wsX40 ++ wsX00)
def wsX4_letter_r1 : List Cond := [Cond.fieldLink RX4 26 "GrowingCorners" "word" "LGrowingCorners$Word;", Cond.methodLink RX4 44 yX4_isWithin, Cond.static yX4_isWithin, Cond.initialized RX4, Cond.code yX4_isWithin cX4_isWithin 3 (some .boolean), Cond.methodLink RX4 137 yX3_letterCount, Cond.instanceMethod yX3_letterCount, Cond.selects RX3 yX3_letterCount yX3_letterCount, Cond.initialized RX3, Cond.code yX3_letterCount cX3_letterCount 1 (some .int), Cond.fieldLink RX3 10 "GrowingCorners$Word" "p" "LGrowingCorners$Tableau;", Cond.methodLink RX3 19 yX2_placeCount, Cond.instanceMethod yX2_placeCount, Cond.selects RX2 yX2_placeCount yX2_placeCount, Cond.initialized RX2, Cond.code yX2_placeCount cX2_placeCount 1 (some .int), Cond.fieldLink RX2 24 "GrowingCorners$Tableau" "places" "I", Cond.methodLink RX4 140 yX3_takeLetter, Cond.instanceMethod yX3_takeLetter, Cond.selects RX3 yX3_takeLetter yX3_takeLetter, Cond.code yX3_takeLetter cX3_takeLetter 3 none, Cond.fieldLink RX3 16 "GrowingCorners$Word" "q" "LGrowingCorners$Tableau;", Cond.methodLink RX3 33 yX2_insert, Cond.instanceMethod yX2_insert]
def wsX4_letter_r2 : List Cond := [Cond.selects RX2 yX2_insert yX2_insert, Cond.code yX2_insert cX2_insert 5 (some .int), Cond.methodLink RX2 51 yX2_firstGreater, Cond.instanceMethod yX2_firstGreater, Cond.selects RX2 yX2_firstGreater yX2_firstGreater, Cond.code yX2_firstGreater cX2_firstGreater 5 (some .int), Cond.fieldLink RX2 11 "GrowingCorners$Tableau" "numbers" "[[I", Cond.methodLink RX2 27 yX2_lengthOf, Cond.instanceMethod yX2_lengthOf, Cond.selects RX2 yX2_lengthOf yX2_lengthOf, Cond.code yX2_lengthOf cX2_lengthOf 2 (some .int), Cond.fieldLink RX2 16 "GrowingCorners$Tableau" "lengths" "[I", Cond.methodLink RX2 31 yX2_has, Cond.instanceMethod yX2_has, Cond.selects RX2 yX2_has yX2_has, Cond.code yX2_has cX2_has 3 (some .boolean), Cond.methodLink RX2 54 yX2_append, Cond.instanceMethod yX2_append, Cond.selects RX2 yX2_append yX2_append, Cond.code yX2_append cX2_append 3 none, Cond.fieldLink RX2 20 "GrowingCorners$Tableau" "rows" "I", Cond.methodLink RX2 45 Lib.Math.max.name, Cond.static Lib.Math.max.name, Cond.initialized "java/lang/Math"]
def wsX4_letter_r3 : List Cond := [Cond.code Lib.Math.max.name Lib.Math.max.code 2 (some .int), Cond.methodLink RX2 58 yX2_exchange, Cond.instanceMethod yX2_exchange, Cond.selects RX2 yX2_exchange yX2_exchange, Cond.code yX2_exchange cX2_exchange 5 (some .int), Cond.methodLink RX3 37 yX3_letterCount, Cond.methodLink RX3 40 yX2_append]
def wsX4_letter : List Cond := .code yX4_letter cX4_letter 2 (some .int) :: ((wsX4_letter_r1 ++ (wsX4_letter_r2 ++ wsX4_letter_r3)) ++ wsX40 ++ wsX30 ++ wsX20)
def wsX4_clear_r1 : List Cond := [Cond.fieldLink RX4 26 "GrowingCorners" "word" "LGrowingCorners$Word;", Cond.methodLink RX4 137 yX3_letterCount, Cond.instanceMethod yX3_letterCount, Cond.selects RX3 yX3_letterCount yX3_letterCount, Cond.initialized RX3, Cond.code yX3_letterCount cX3_letterCount 1 (some .int), Cond.fieldLink RX3 10 "GrowingCorners$Word" "p" "LGrowingCorners$Tableau;", Cond.methodLink RX3 19 yX2_placeCount, Cond.instanceMethod yX2_placeCount, Cond.selects RX2 yX2_placeCount yX2_placeCount, Cond.initialized RX2, Cond.code yX2_placeCount cX2_placeCount 1 (some .int), Cond.fieldLink RX2 24 "GrowingCorners$Tableau" "places" "I", Cond.methodLink RX4 144 yX3_forget, Cond.instanceMethod yX3_forget, Cond.selects RX3 yX3_forget yX3_forget, Cond.code yX3_forget cX3_forget 1 none, Cond.fieldLink RX3 16 "GrowingCorners$Word" "q" "LGrowingCorners$Tableau;", Cond.methodLink RX3 23 yX2_empty, Cond.instanceMethod yX2_empty, Cond.selects RX2 yX2_empty yX2_empty, Cond.code yX2_empty cX2_empty 1 none, Cond.fieldLink RX2 16 "GrowingCorners$Tableau" "lengths" "[I", Cond.fieldLink RX2 20 "GrowingCorners$Tableau" "rows" "I"]
def wsX4_clear_r2 : List Cond := [Cond.methodLink RX2 35 yJ7_fill_53178, Cond.static yJ7_fill_53178, Cond.initialized RJ7, Cond.code yJ7_fill_53178 cJ7_fill_53178 4 none]
def wsX4_clear : List Cond := .code yX4_clear cX4_clear 2 (some .int) :: ((wsX4_clear_r1 ++ wsX4_clear_r2) ++ wsX40 ++ wsX30 ++ wsX20)
def wsX4_row : List Cond := .code yX4_row cX4_row 2 (some .int) :: ([.fieldLink RX4 26 "GrowingCorners" "word" "LGrowingCorners$Word;", .methodLink RX4 44 yX4_isWithin, .static yX4_isWithin, .initialized RX4, .code yX4_isWithin cX4_isWithin 3 (some .boolean), .methodLink RX4 147 yX3_tableau, .instanceMethod yX3_tableau, .selects RX3 yX3_tableau yX3_tableau, .initialized RX3, .code yX3_tableau cX3_tableau 2 (some (.object "GrowingCorners$Tableau")), .fieldLink RX3 10 "GrowingCorners$Word" "p" "LGrowingCorners$Tableau;", .fieldLink RX3 16 "GrowingCorners$Word" "q" "LGrowingCorners$Tableau;", .methodLink RX4 151 yX2_lengthOf, .instanceMethod yX2_lengthOf, .selects RX2 yX2_lengthOf yX2_lengthOf, .initialized RX2, .code yX2_lengthOf cX2_lengthOf 2 (some .int), .fieldLink RX2 16 "GrowingCorners$Tableau" "lengths" "[I"] ++ wsX40 ++ wsX30 ++ wsX20)
def wsX4_isWhich : List Cond := .code yX4_isWhich cX4_isWhich 1 (some .boolean) :: ([.methodLink RX4 44 yX4_isWithin, .static yX4_isWithin, .initialized RX4, .code yX4_isWithin cX4_isWithin 3 (some .boolean)])
def wsX4_place_r1 : List Cond := [Cond.fieldLink RX4 26 "GrowingCorners" "word" "LGrowingCorners$Word;", Cond.methodLink RX4 154 yX4_isWhich, Cond.static yX4_isWhich, Cond.initialized RX4, Cond.code yX4_isWhich cX4_isWhich 1 (some .boolean), Cond.methodLink RX4 44 yX4_isWithin, Cond.static yX4_isWithin, Cond.code yX4_isWithin cX4_isWithin 3 (some .boolean), Cond.methodLink RX4 147 yX3_tableau, Cond.instanceMethod yX3_tableau, Cond.selects RX3 yX3_tableau yX3_tableau, Cond.initialized RX3, Cond.code yX3_tableau cX3_tableau 2 (some (.object "GrowingCorners$Tableau")), Cond.fieldLink RX3 10 "GrowingCorners$Word" "p" "LGrowingCorners$Tableau;", Cond.fieldLink RX3 16 "GrowingCorners$Word" "q" "LGrowingCorners$Tableau;", Cond.methodLink RX4 157 yX2_has, Cond.instanceMethod yX2_has, Cond.selects RX2 yX2_has yX2_has, Cond.initialized RX2, Cond.code yX2_has cX2_has 3 (some .boolean), Cond.methodLink RX2 27 yX2_lengthOf, Cond.instanceMethod yX2_lengthOf, Cond.selects RX2 yX2_lengthOf yX2_lengthOf, Cond.code yX2_lengthOf cX2_lengthOf 2 (some .int)]
def wsX4_place_r2 : List Cond := [Cond.fieldLink RX2 16 "GrowingCorners$Tableau" "lengths" "[I", Cond.methodLink RX4 160 yX2_at, Cond.instanceMethod yX2_at, Cond.selects RX2 yX2_at yX2_at, Cond.code yX2_at cX2_at 3 (some .int), Cond.fieldLink RX2 11 "GrowingCorners$Tableau" "numbers" "[[I", Cond.methodLink RX2 31 yX2_has]
def wsX4_place : List Cond := .code yX4_place cX4_place 5 (some .int) :: ((wsX4_place_r1 ++ wsX4_place_r2) ++ wsX40 ++ wsX30 ++ wsX20)
def wsX4_longest_r1 : List Cond := [Cond.fieldLink RX4 26 "GrowingCorners" "word" "LGrowingCorners$Word;", Cond.methodLink RX4 154 yX4_isWhich, Cond.static yX4_isWhich, Cond.initialized RX4, Cond.code yX4_isWhich cX4_isWhich 1 (some .boolean), Cond.methodLink RX4 44 yX4_isWithin, Cond.static yX4_isWithin, Cond.code yX4_isWithin cX4_isWithin 3 (some .boolean), Cond.methodLink RX4 147 yX3_tableau, Cond.instanceMethod yX3_tableau, Cond.selects RX3 yX3_tableau yX3_tableau, Cond.initialized RX3, Cond.code yX3_tableau cX3_tableau 2 (some (.object "GrowingCorners$Tableau")), Cond.fieldLink RX3 10 "GrowingCorners$Word" "p" "LGrowingCorners$Tableau;", Cond.fieldLink RX3 16 "GrowingCorners$Word" "q" "LGrowingCorners$Tableau;", Cond.methodLink RX4 151 yX2_lengthOf, Cond.instanceMethod yX2_lengthOf, Cond.selects RX2 yX2_lengthOf yX2_lengthOf, Cond.initialized RX2, Cond.code yX2_lengthOf cX2_lengthOf 2 (some .int), Cond.fieldLink RX2 16 "GrowingCorners$Tableau" "lengths" "[I", Cond.methodLink RX4 163 yX2_rowCount, Cond.instanceMethod yX2_rowCount, Cond.selects RX2 yX2_rowCount yX2_rowCount]
def wsX4_longest_r2 : List Cond := [Cond.code yX2_rowCount cX2_rowCount 1 (some .int), Cond.fieldLink RX2 20 "GrowingCorners$Tableau" "rows" "I"]
def wsX4_longest : List Cond := .code yX4_longest cX4_longest 3 (some .int) :: ((wsX4_longest_r1 ++ wsX4_longest_r2) ++ wsX40 ++ wsX30 ++ wsX20)
def wsX4_lay_r1 : List Cond := [Cond.fieldLink RX4 33 "GrowingCorners" "laidP" "LGrowingCorners$Tableau;", Cond.fieldLink RX4 37 "GrowingCorners" "laidQ" "LGrowingCorners$Tableau;", Cond.methodLink RX4 166 Lib.Math.min.name, Cond.static Lib.Math.min.name, Cond.initialized "java/lang/Math", Cond.code Lib.Math.min.name Lib.Math.min.code 2 (some .int), Cond.methodLink RX4 154 yX4_isWhich, Cond.static yX4_isWhich, Cond.initialized RX4, Cond.code yX4_isWhich cX4_isWhich 1 (some .boolean), Cond.methodLink RX4 44 yX4_isWithin, Cond.static yX4_isWithin, Cond.code yX4_isWithin cX4_isWithin 3 (some .boolean), Cond.methodLink RX4 163 yX2_rowCount, Cond.instanceMethod yX2_rowCount, Cond.selects RX2 yX2_rowCount yX2_rowCount, Cond.initialized RX2, Cond.code yX2_rowCount cX2_rowCount 1 (some .int), Cond.fieldLink RX2 20 "GrowingCorners$Tableau" "rows" "I", Cond.methodLink RX4 171 yX2_placeCount, Cond.instanceMethod yX2_placeCount, Cond.selects RX2 yX2_placeCount yX2_placeCount, Cond.code yX2_placeCount cX2_placeCount 1 (some .int), Cond.fieldLink RX2 24 "GrowingCorners$Tableau" "places" "I"]
def wsX4_lay_r2 : List Cond := [Cond.methodLink RX4 172 yX2_append, Cond.instanceMethod yX2_append, Cond.selects RX2 yX2_append yX2_append, Cond.code yX2_append cX2_append 3 none, Cond.fieldLink RX2 11 "GrowingCorners$Tableau" "numbers" "[[I", Cond.fieldLink RX2 16 "GrowingCorners$Tableau" "lengths" "[I", Cond.methodLink RX2 45 Lib.Math.max.name, Cond.static Lib.Math.max.name, Cond.code Lib.Math.max.name Lib.Math.max.code 2 (some .int), Cond.methodLink RX4 151 yX2_lengthOf, Cond.instanceMethod yX2_lengthOf, Cond.selects RX2 yX2_lengthOf yX2_lengthOf, Cond.code yX2_lengthOf cX2_lengthOf 2 (some .int)]
def wsX4_lay : List Cond := .code yX4_lay cX4_lay 5 (some .int) :: ((wsX4_lay_r1 ++ wsX4_lay_r2) ++ wsX40 ++ wsX20)
def wsX4_unlay : List Cond := .code yX4_unlay cX4_unlay 2 (some .int) :: ([.fieldLink RX4 33 "GrowingCorners" "laidP" "LGrowingCorners$Tableau;", .fieldLink RX4 37 "GrowingCorners" "laidQ" "LGrowingCorners$Tableau;", .methodLink RX4 171 yX2_placeCount, .instanceMethod yX2_placeCount, .selects RX2 yX2_placeCount yX2_placeCount, .initialized RX2, .code yX2_placeCount cX2_placeCount 1 (some .int), .fieldLink RX2 24 "GrowingCorners$Tableau" "places" "I", .methodLink RX4 175 yX2_empty, .instanceMethod yX2_empty, .selects RX2 yX2_empty yX2_empty, .code yX2_empty cX2_empty 1 none, .fieldLink RX2 16 "GrowingCorners$Tableau" "lengths" "[I", .fieldLink RX2 20 "GrowingCorners$Tableau" "rows" "I", .methodLink RX2 35 yJ7_fill_53178, .static yJ7_fill_53178, .initialized RJ7, .code yJ7_fill_53178 cJ7_fill_53178 4 none] ++ wsX40 ++ wsX20)
def wsX4_laidIsAsTold_r1 : List Cond := [Cond.fieldLink RX4 33 "GrowingCorners" "laidP" "LGrowingCorners$Tableau;", Cond.fieldLink RX4 37 "GrowingCorners" "laidQ" "LGrowingCorners$Tableau;", Cond.methodLink RX4 204 yX2_hasShapeOf, Cond.instanceMethod yX2_hasShapeOf, Cond.selects RX2 yX2_hasShapeOf yX2_hasShapeOf, Cond.initialized RX2, Cond.code yX2_hasShapeOf cX2_hasShapeOf 3 (some .boolean), Cond.fieldLink RX2 16 "GrowingCorners$Tableau" "lengths" "[I", Cond.methodLink RX2 27 yX2_lengthOf, Cond.instanceMethod yX2_lengthOf, Cond.selects RX2 yX2_lengthOf yX2_lengthOf, Cond.code yX2_lengthOf cX2_lengthOf 2 (some .int), Cond.methodLink RX4 208 yX2_isStaircase, Cond.instanceMethod yX2_isStaircase, Cond.selects RX2 yX2_isStaircase yX2_isStaircase, Cond.code yX2_isStaircase cX2_isStaircase 2 (some .boolean), Cond.fieldLink RX2 20 "GrowingCorners$Tableau" "rows" "I", Cond.methodLink RX4 211 yX2_rises, Cond.instanceMethod yX2_rises, Cond.selects RX2 yX2_rises yX2_rises, Cond.code yX2_rises cX2_rises 4 (some .boolean), Cond.fieldLink RX2 11 "GrowingCorners$Tableau" "numbers" "[[I", Cond.methodLink RX2 68 yX2_at, Cond.instanceMethod yX2_at]
def wsX4_laidIsAsTold_r2 : List Cond := [Cond.selects RX2 yX2_at yX2_at, Cond.code yX2_at cX2_at 3 (some .int), Cond.methodLink RX2 31 yX2_has, Cond.instanceMethod yX2_has, Cond.selects RX2 yX2_has yX2_has, Cond.code yX2_has cX2_has 3 (some .boolean), Cond.methodLink RX4 214 yX2_isBelow, Cond.instanceMethod yX2_isBelow, Cond.selects RX2 yX2_isBelow yX2_isBelow, Cond.code yX2_isBelow cX2_isBelow 4 (some .boolean), Cond.methodLink RX4 217 yX2_hasEachOnce, Cond.instanceMethod yX2_hasEachOnce, Cond.selects RX2 yX2_hasEachOnce yX2_hasEachOnce, Cond.code yX2_hasEachOnce cX2_hasEachOnce 5 (some .boolean), Cond.fieldLink RX2 24 "GrowingCorners$Tableau" "places" "I"]
def wsX4_laidIsAsTold : List Cond := .code yX4_laidIsAsTold cX4_laidIsAsTold 1 (some .boolean) :: ((wsX4_laidIsAsTold_r1 ++ wsX4_laidIsAsTold_r2) ++ wsX40 ++ wsX20)
def wsX4_readLaidIntoDraft_r1 : List Cond := [Cond.fieldLink RX4 37 "GrowingCorners" "laidQ" "LGrowingCorners$Tableau;", Cond.fieldLink RX4 40 "GrowingCorners" "draft" "[I", Cond.fieldLink RX4 33 "GrowingCorners" "laidP" "LGrowingCorners$Tableau;", Cond.methodLink RX4 220 yX2_rowEndingIn, Cond.instanceMethod yX2_rowEndingIn, Cond.selects RX2 yX2_rowEndingIn yX2_rowEndingIn, Cond.initialized RX2, Cond.code yX2_rowEndingIn cX2_rowEndingIn 3 (some .int), Cond.fieldLink RX2 20 "GrowingCorners$Tableau" "rows" "I", Cond.fieldLink RX2 16 "GrowingCorners$Tableau" "lengths" "[I", Cond.methodLink RX2 68 yX2_at, Cond.instanceMethod yX2_at, Cond.selects RX2 yX2_at yX2_at, Cond.code yX2_at cX2_at 3 (some .int), Cond.fieldLink RX2 11 "GrowingCorners$Tableau" "numbers" "[[I", Cond.methodLink RX2 31 yX2_has, Cond.instanceMethod yX2_has, Cond.selects RX2 yX2_has yX2_has, Cond.code yX2_has cX2_has 3 (some .boolean), Cond.methodLink RX2 27 yX2_lengthOf, Cond.instanceMethod yX2_lengthOf, Cond.selects RX2 yX2_lengthOf yX2_lengthOf, Cond.code yX2_lengthOf cX2_lengthOf 2 (some .int), Cond.methodLink RX4 223 yX2_takeLast]
def wsX4_readLaidIntoDraft_r2 : List Cond := [Cond.instanceMethod yX2_takeLast, Cond.selects RX2 yX2_takeLast yX2_takeLast, Cond.code yX2_takeLast cX2_takeLast 3 (some .int), Cond.fieldLink RX2 24 "GrowingCorners$Tableau" "places" "I", Cond.methodLink RX4 226 yX2_takeOut, Cond.instanceMethod yX2_takeOut, Cond.selects RX2 yX2_takeOut yX2_takeOut, Cond.code yX2_takeOut cX2_takeOut 4 (some .int), Cond.methodLink RX2 62 yX2_takeLast, Cond.methodLink RX2 65 yX2_lastLess, Cond.instanceMethod yX2_lastLess, Cond.selects RX2 yX2_lastLess yX2_lastLess, Cond.code yX2_lastLess cX2_lastLess 4 (some .int), Cond.methodLink RX2 58 yX2_exchange, Cond.instanceMethod yX2_exchange, Cond.selects RX2 yX2_exchange yX2_exchange, Cond.code yX2_exchange cX2_exchange 5 (some .int)]
def wsX4_readLaidIntoDraft : List Cond := .code yX4_readLaidIntoDraft cX4_readLaidIntoDraft 4 none :: ((wsX4_readLaidIntoDraft_r1 ++ wsX4_readLaidIntoDraft_r2) ++ wsX40 ++ wsX20)
def wsX4_back_r1 : List Cond := [Cond.fieldLink RX4 33 "GrowingCorners" "laidP" "LGrowingCorners$Tableau;", Cond.fieldLink RX4 37 "GrowingCorners" "laidQ" "LGrowingCorners$Tableau;", Cond.fieldLink RX4 26 "GrowingCorners" "word" "LGrowingCorners$Word;", Cond.fieldLink RX4 40 "GrowingCorners" "draft" "[I", Cond.methodLink RX4 178 yX4_laidIsAsTold, Cond.instanceMethod yX4_laidIsAsTold, Cond.selects RX4 yX4_laidIsAsTold yX4_laidIsAsTold, Cond.initialized RX4, Cond.code yX4_laidIsAsTold cX4_laidIsAsTold 1 (some .boolean), Cond.methodLink RX4 204 yX2_hasShapeOf, Cond.instanceMethod yX2_hasShapeOf, Cond.selects RX2 yX2_hasShapeOf yX2_hasShapeOf, Cond.initialized RX2, Cond.code yX2_hasShapeOf cX2_hasShapeOf 3 (some .boolean), Cond.fieldLink RX2 16 "GrowingCorners$Tableau" "lengths" "[I", Cond.methodLink RX2 27 yX2_lengthOf, Cond.instanceMethod yX2_lengthOf, Cond.selects RX2 yX2_lengthOf yX2_lengthOf, Cond.code yX2_lengthOf cX2_lengthOf 2 (some .int), Cond.methodLink RX4 208 yX2_isStaircase, Cond.instanceMethod yX2_isStaircase, Cond.selects RX2 yX2_isStaircase yX2_isStaircase, Cond.code yX2_isStaircase cX2_isStaircase 2 (some .boolean), Cond.fieldLink RX2 20 "GrowingCorners$Tableau" "rows" "I"]
def wsX4_back_r2 : List Cond := [Cond.methodLink RX4 211 yX2_rises, Cond.instanceMethod yX2_rises, Cond.selects RX2 yX2_rises yX2_rises, Cond.code yX2_rises cX2_rises 4 (some .boolean), Cond.fieldLink RX2 11 "GrowingCorners$Tableau" "numbers" "[[I", Cond.methodLink RX2 68 yX2_at, Cond.instanceMethod yX2_at, Cond.selects RX2 yX2_at yX2_at, Cond.code yX2_at cX2_at 3 (some .int), Cond.methodLink RX2 31 yX2_has, Cond.instanceMethod yX2_has, Cond.selects RX2 yX2_has yX2_has, Cond.code yX2_has cX2_has 3 (some .boolean), Cond.methodLink RX4 214 yX2_isBelow, Cond.instanceMethod yX2_isBelow, Cond.selects RX2 yX2_isBelow yX2_isBelow, Cond.code yX2_isBelow cX2_isBelow 4 (some .boolean), Cond.methodLink RX4 217 yX2_hasEachOnce, Cond.instanceMethod yX2_hasEachOnce, Cond.selects RX2 yX2_hasEachOnce yX2_hasEachOnce, Cond.code yX2_hasEachOnce cX2_hasEachOnce 5 (some .boolean), Cond.fieldLink RX2 24 "GrowingCorners$Tableau" "places" "I", Cond.methodLink RX4 171 yX2_placeCount, Cond.instanceMethod yX2_placeCount]
def wsX4_back_r3 : List Cond := [Cond.selects RX2 yX2_placeCount yX2_placeCount, Cond.code yX2_placeCount cX2_placeCount 1 (some .int), Cond.methodLink RX4 181 yX4_readLaidIntoDraft, Cond.instanceMethod yX4_readLaidIntoDraft, Cond.selects RX4 yX4_readLaidIntoDraft yX4_readLaidIntoDraft, Cond.code yX4_readLaidIntoDraft cX4_readLaidIntoDraft 4 none, Cond.methodLink RX4 220 yX2_rowEndingIn, Cond.instanceMethod yX2_rowEndingIn, Cond.selects RX2 yX2_rowEndingIn yX2_rowEndingIn, Cond.code yX2_rowEndingIn cX2_rowEndingIn 3 (some .int), Cond.methodLink RX4 223 yX2_takeLast, Cond.instanceMethod yX2_takeLast, Cond.selects RX2 yX2_takeLast yX2_takeLast, Cond.code yX2_takeLast cX2_takeLast 3 (some .int), Cond.methodLink RX4 226 yX2_takeOut, Cond.instanceMethod yX2_takeOut, Cond.selects RX2 yX2_takeOut yX2_takeOut, Cond.code yX2_takeOut cX2_takeOut 4 (some .int), Cond.methodLink RX2 62 yX2_takeLast, Cond.methodLink RX2 65 yX2_lastLess, Cond.instanceMethod yX2_lastLess, Cond.selects RX2 yX2_lastLess yX2_lastLess, Cond.code yX2_lastLess cX2_lastLess 4 (some .int), Cond.methodLink RX2 58 yX2_exchange]
def wsX4_back_r4 : List Cond := [Cond.instanceMethod yX2_exchange, Cond.selects RX2 yX2_exchange yX2_exchange, Cond.code yX2_exchange cX2_exchange 5 (some .int), Cond.methodLink RX4 175 yX2_empty, Cond.instanceMethod yX2_empty, Cond.selects RX2 yX2_empty yX2_empty, Cond.code yX2_empty cX2_empty 1 none, Cond.methodLink RX2 35 yJ7_fill_53178, Cond.static yJ7_fill_53178, Cond.initialized RJ7, Cond.code yJ7_fill_53178 cJ7_fill_53178 4 none, Cond.methodLink RX4 184 yX3_become, Cond.instanceMethod yX3_become, Cond.selects RX3 yX3_become yX3_become, Cond.initialized RX3, Cond.code yX3_become cX3_become 4 none, Cond.methodLink RX3 26 yX3_forget, Cond.instanceMethod yX3_forget, Cond.selects RX3 yX3_forget yX3_forget, Cond.code yX3_forget cX3_forget 1 none, Cond.fieldLink RX3 10 "GrowingCorners$Word" "p" "LGrowingCorners$Tableau;", Cond.fieldLink RX3 16 "GrowingCorners$Word" "q" "LGrowingCorners$Tableau;", Cond.methodLink RX3 23 yX2_empty, Cond.methodLink RX3 29 yX3_takeLetter]
def wsX4_back_r5 : List Cond := [Cond.instanceMethod yX3_takeLetter, Cond.selects RX3 yX3_takeLetter yX3_takeLetter, Cond.code yX3_takeLetter cX3_takeLetter 3 none, Cond.methodLink RX3 33 yX2_insert, Cond.instanceMethod yX2_insert, Cond.selects RX2 yX2_insert yX2_insert, Cond.code yX2_insert cX2_insert 5 (some .int), Cond.methodLink RX2 51 yX2_firstGreater, Cond.instanceMethod yX2_firstGreater, Cond.selects RX2 yX2_firstGreater yX2_firstGreater, Cond.code yX2_firstGreater cX2_firstGreater 5 (some .int), Cond.methodLink RX2 54 yX2_append, Cond.instanceMethod yX2_append, Cond.selects RX2 yX2_append yX2_append, Cond.code yX2_append cX2_append 3 none, Cond.methodLink RX2 45 Lib.Math.max.name, Cond.static Lib.Math.max.name, Cond.initialized "java/lang/Math", Cond.code Lib.Math.max.name Lib.Math.max.code 2 (some .int), Cond.static yX4_isWithin, Cond.code yX4_isWithin cX4_isWithin 3 (some .boolean), Cond.methodLink RX3 37 yX3_letterCount, Cond.instanceMethod yX3_letterCount, Cond.selects RX3 yX3_letterCount yX3_letterCount]
def wsX4_back_r6 : List Cond := [Cond.code yX3_letterCount cX3_letterCount 1 (some .int), Cond.methodLink RX3 19 yX2_placeCount, Cond.methodLink RX3 40 yX2_append]
def wsX4_back : List Cond := .code yX4_back cX4_back 2 (some .int) :: ((wsX4_back_r1 ++ (wsX4_back_r2 ++ (wsX4_back_r3 ++ (wsX4_back_r4 ++ (wsX4_back_r5 ++ wsX4_back_r6))))) ++ wsX40 ++ wsX20 ++ wsX30)
def wsX4_wordOf_r1 : List Cond := [Cond.fieldLink RX4 10 "GrowingCorners" "grid" "LGrowingCorners$Grid;", Cond.fieldLink RX4 40 "GrowingCorners" "draft" "[I", Cond.fieldLink RX4 26 "GrowingCorners" "word" "LGrowingCorners$Word;", Cond.methodLink RX4 99 yX0_total, Cond.instanceMethod yX0_total, Cond.selects RX0 yX0_total yX0_total, Cond.initialized RX0, Cond.code yX0_total cX0_total 4 (some .int), Cond.fieldLink RX0 11 "GrowingCorners$Grid" "rows" "I", Cond.fieldLink RX0 15 "GrowingCorners$Grid" "columns" "I", Cond.fieldLink RX0 20 "GrowingCorners$Grid" "cells" "[[I", Cond.methodLink RX4 188 yX0_spell, Cond.instanceMethod yX0_spell, Cond.selects RX0 yX0_spell yX0_spell, Cond.code yX0_spell cX0_spell 6 none, Cond.methodLink RX4 184 yX3_become, Cond.instanceMethod yX3_become, Cond.selects RX3 yX3_become yX3_become, Cond.initialized RX3, Cond.code yX3_become cX3_become 4 none, Cond.methodLink RX3 26 yX3_forget, Cond.instanceMethod yX3_forget, Cond.selects RX3 yX3_forget yX3_forget, Cond.code yX3_forget cX3_forget 1 none]
def wsX4_wordOf_r2 : List Cond := [Cond.fieldLink RX3 10 "GrowingCorners$Word" "p" "LGrowingCorners$Tableau;", Cond.fieldLink RX3 16 "GrowingCorners$Word" "q" "LGrowingCorners$Tableau;", Cond.methodLink RX3 23 yX2_empty, Cond.instanceMethod yX2_empty, Cond.selects RX2 yX2_empty yX2_empty, Cond.initialized RX2, Cond.code yX2_empty cX2_empty 1 none, Cond.fieldLink RX2 16 "GrowingCorners$Tableau" "lengths" "[I", Cond.fieldLink RX2 20 "GrowingCorners$Tableau" "rows" "I", Cond.fieldLink RX2 24 "GrowingCorners$Tableau" "places" "I", Cond.methodLink RX2 35 yJ7_fill_53178, Cond.static yJ7_fill_53178, Cond.initialized RJ7, Cond.code yJ7_fill_53178 cJ7_fill_53178 4 none, Cond.methodLink RX3 29 yX3_takeLetter, Cond.instanceMethod yX3_takeLetter, Cond.selects RX3 yX3_takeLetter yX3_takeLetter, Cond.code yX3_takeLetter cX3_takeLetter 3 none, Cond.methodLink RX3 33 yX2_insert, Cond.instanceMethod yX2_insert, Cond.selects RX2 yX2_insert yX2_insert, Cond.code yX2_insert cX2_insert 5 (some .int), Cond.methodLink RX2 51 yX2_firstGreater, Cond.instanceMethod yX2_firstGreater]
def wsX4_wordOf_r3 : List Cond := [Cond.selects RX2 yX2_firstGreater yX2_firstGreater, Cond.code yX2_firstGreater cX2_firstGreater 5 (some .int), Cond.fieldLink RX2 11 "GrowingCorners$Tableau" "numbers" "[[I", Cond.methodLink RX2 27 yX2_lengthOf, Cond.instanceMethod yX2_lengthOf, Cond.selects RX2 yX2_lengthOf yX2_lengthOf, Cond.code yX2_lengthOf cX2_lengthOf 2 (some .int), Cond.methodLink RX2 31 yX2_has, Cond.instanceMethod yX2_has, Cond.selects RX2 yX2_has yX2_has, Cond.code yX2_has cX2_has 3 (some .boolean), Cond.methodLink RX2 54 yX2_append, Cond.instanceMethod yX2_append, Cond.selects RX2 yX2_append yX2_append, Cond.code yX2_append cX2_append 3 none, Cond.methodLink RX2 45 Lib.Math.max.name, Cond.static Lib.Math.max.name, Cond.initialized "java/lang/Math", Cond.code Lib.Math.max.name Lib.Math.max.code 2 (some .int), Cond.static yX4_isWithin, Cond.initialized RX4, Cond.code yX4_isWithin cX4_isWithin 3 (some .boolean), Cond.methodLink RX2 58 yX2_exchange, Cond.instanceMethod yX2_exchange]
def wsX4_wordOf_r4 : List Cond := [Cond.selects RX2 yX2_exchange yX2_exchange, Cond.code yX2_exchange cX2_exchange 5 (some .int), Cond.methodLink RX3 37 yX3_letterCount, Cond.instanceMethod yX3_letterCount, Cond.selects RX3 yX3_letterCount yX3_letterCount, Cond.code yX3_letterCount cX3_letterCount 1 (some .int), Cond.methodLink RX3 19 yX2_placeCount, Cond.instanceMethod yX2_placeCount, Cond.selects RX2 yX2_placeCount yX2_placeCount, Cond.code yX2_placeCount cX2_placeCount 1 (some .int), Cond.methodLink RX3 40 yX2_append]
def wsX4_wordOf : List Cond := .code yX4_wordOf cX4_wordOf 2 (some .int) :: ((wsX4_wordOf_r1 ++ (wsX4_wordOf_r2 ++ (wsX4_wordOf_r3 ++ wsX4_wordOf_r4))) ++ wsX40 ++ wsX00 ++ wsX30 ++ wsX20)
def wsX4_tableauxOf : List Cond := .code yX4_tableauxOf cX4_tableauxOf 4 (some .long) :: ([.constantLong RX4 233 (2)])
def wsX4_countByShapes : List Cond := .code yX4_countByShapes cX4_countByShapes 13 (some .long) :: ([.methodLink RX4 166 Lib.Math.min.name, .static Lib.Math.min.name, .initialized "java/lang/Math", .code Lib.Math.min.name Lib.Math.min.code 2 (some .int), .methodLink RX4 229 yX4_tableauxOf, .static yX4_tableauxOf, .initialized RX4, .code yX4_tableauxOf cX4_tableauxOf 4 (some .long), .constantLong RX4 233 (2)])
def wsX4_chance : List Cond := .code yX4_chance cX4_chance 4 (some .long) :: ([.constantLong RX4 121 (-1), .methodLink RX4 44 yX4_isWithin, .static yX4_isWithin, .initialized RX4, .code yX4_isWithin cX4_isWithin 3 (some .boolean), .methodLink RX4 192 yX4_countByShapes, .static yX4_countByShapes, .code yX4_countByShapes cX4_countByShapes 13 (some .long), .methodLink RX4 166 Lib.Math.min.name, .static Lib.Math.min.name, .initialized "java/lang/Math", .code Lib.Math.min.name Lib.Math.min.code 2 (some .int), .methodLink RX4 229 yX4_tableauxOf, .static yX4_tableauxOf, .code yX4_tableauxOf cX4_tableauxOf 4 (some .long), .constantLong RX4 233 (2)])
def wsX5_in : List Cond := .code yX5_in cX5_in 6 (some .boolean) :: ([])
def wsX5_greater : List Cond := .code yX5_greater cX5_greater 2 (some .int) :: ([])
def wsX5_init_r1 : List Cond := [Cond.methodLink RX5 1 objectInit, Cond.instanceMethod objectInit, Cond.code objectInit ⟨#[0xb1]⟩ 1 none, Cond.fieldLink RX5 7 "GrowingCornersModel" "m" "I", Cond.fieldLink RX5 13 "GrowingCornersModel" "n" "I", Cond.arrayClass .int, Cond.fieldLink RX5 16 "GrowingCornersModel" "weights" "[I", Cond.fieldLink RX5 20 "GrowingCornersModel" "lanes" "[I", Cond.fieldLink RX5 23 "GrowingCornersModel" "sizes" "[I", Cond.fieldLink RX5 26 "GrowingCornersModel" "items" "[I", Cond.fieldLink RX5 29 "GrowingCornersModel" "best" "[I", Cond.fieldLink RX5 32 "GrowingCornersModel" "parts" "[I", Cond.arrayClass .long, Cond.fieldLink RX5 35 "GrowingCornersModel" "sums" "[J", Cond.fieldLink RX5 39 "GrowingCornersModel" "word" "[I", Cond.fieldLink RX5 42 "GrowingCornersModel" "p" "[I", Cond.fieldLink RX5 45 "GrowingCornersModel" "q" "[I", Cond.fieldLink RX5 48 "GrowingCornersModel" "rows" "[I", Cond.fieldLink RX5 51 "GrowingCornersModel" "long0" "[I", Cond.fieldLink RX5 54 "GrowingCornersModel" "laidP" "[I", Cond.fieldLink RX5 57 "GrowingCornersModel" "laidQ" "[I", Cond.fieldLink RX5 60 "GrowingCornersModel" "rowsP" "[I", Cond.fieldLink RX5 63 "GrowingCornersModel" "rowsQ" "[I", Cond.arrayClass .boolean]
def wsX5_init_r2 : List Cond := [Cond.fieldLink RX5 66 "GrowingCornersModel" "seen" "[Z", Cond.fieldLink RX5 70 "GrowingCornersModel" "now" "[J", Cond.fieldLink RX5 73 "GrowingCornersModel" "next" "[J"]
def wsX5_init : List Cond := .code yX5_init cX5_init 2 none :: ((wsX5_init_r1 ++ wsX5_init_r2) ++ wsX50)
def wsX5_isPlace : List Cond := .code yX5_isPlace cX5_isPlace 3 (some .boolean) :: ([.fieldLink RX5 7 "GrowingCornersModel" "m" "I", .fieldLink RX5 13 "GrowingCornersModel" "n" "I", .methodLink RX5 76 yX5_in, .static yX5_in, .initialized RX5, .code yX5_in cX5_in 6 (some .boolean)] ++ wsX50)
def wsX5_box : List Cond := .code yX5_box cX5_box 4 (some .int) :: ([.constantLong RX5 80 (6), .fieldLink RX5 7 "GrowingCornersModel" "m" "I", .fieldLink RX5 13 "GrowingCornersModel" "n" "I", .fieldLink RX5 16 "GrowingCornersModel" "weights" "[I", .methodLink RX5 76 yX5_in, .static yX5_in, .initialized RX5, .code yX5_in cX5_in 6 (some .boolean)] ++ wsX50)
def wsX5_weight : List Cond := .code yX5_weight cX5_weight 5 (some .int) :: ([.constantLong RX5 86 (20), .fieldLink RX5 16 "GrowingCornersModel" "weights" "[I", .methodLink RX5 82 yX5_isPlace, .instanceMethod yX5_isPlace, .selects RX5 yX5_isPlace yX5_isPlace, .initialized RX5, .code yX5_isPlace cX5_isPlace 3 (some .boolean), .fieldLink RX5 7 "GrowingCornersModel" "m" "I", .fieldLink RX5 13 "GrowingCornersModel" "n" "I", .methodLink RX5 76 yX5_in, .static yX5_in, .code yX5_in cX5_in 6 (some .boolean)] ++ wsX50)
def wsX5_isSheet : List Cond := .code yX5_isSheet cX5_isSheet 2 (some .boolean) :: ([.constantLong RX5 88 (3), .methodLink RX5 76 yX5_in, .static yX5_in, .initialized RX5, .code yX5_in cX5_in 6 (some .boolean)])
def wsX5_sheet : List Cond := .code yX5_sheet cX5_sheet 5 (some .int) :: ([.fieldLink RX5 20 "GrowingCornersModel" "lanes" "[I", .fieldLink RX5 23 "GrowingCornersModel" "sizes" "[I", .fieldLink RX5 26 "GrowingCornersModel" "items" "[I", .methodLink RX5 90 yX5_isSheet, .static yX5_isSheet, .initialized RX5, .code yX5_isSheet cX5_isSheet 2 (some .boolean), .constantLong RX5 88 (3), .methodLink RX5 76 yX5_in, .static yX5_in, .code yX5_in cX5_in 6 (some .boolean)] ++ wsX50)
def wsX5_drop : List Cond := .code yX5_drop cX5_drop 2 (some .int) :: ([.constantLong RX5 88 (3), .fieldLink RX5 20 "GrowingCornersModel" "lanes" "[I", .fieldLink RX5 23 "GrowingCornersModel" "sizes" "[I", .methodLink RX5 76 yX5_in, .static yX5_in, .initialized RX5, .code yX5_in cX5_in 6 (some .boolean)] ++ wsX50)
def wsX5_item : List Cond := .code yX5_item cX5_item 5 (some .int) :: ([.fieldLink RX5 20 "GrowingCornersModel" "lanes" "[I", .fieldLink RX5 23 "GrowingCornersModel" "sizes" "[I", .fieldLink RX5 26 "GrowingCornersModel" "items" "[I", .methodLink RX5 90 yX5_isSheet, .static yX5_isSheet, .initialized RX5, .code yX5_isSheet cX5_isSheet 2 (some .boolean), .constantLong RX5 88 (3), .methodLink RX5 76 yX5_in, .static yX5_in, .code yX5_in cX5_in 6 (some .boolean)] ++ wsX50)
def wsX5_weights : List Cond := .code yX5_weights cX5_weights 7 (some .int) :: ([.fieldLink RX5 20 "GrowingCornersModel" "lanes" "[I", .fieldLink RX5 23 "GrowingCornersModel" "sizes" "[I", .fieldLink RX5 7 "GrowingCornersModel" "m" "I", .fieldLink RX5 13 "GrowingCornersModel" "n" "I", .fieldLink RX5 26 "GrowingCornersModel" "items" "[I", .constantLong RX5 86 (20), .fieldLink RX5 16 "GrowingCornersModel" "weights" "[I", .methodLink RX5 90 yX5_isSheet, .static yX5_isSheet, .initialized RX5, .code yX5_isSheet cX5_isSheet 2 (some .boolean), .constantLong RX5 88 (3), .methodLink RX5 76 yX5_in, .static yX5_in, .code yX5_in cX5_in 6 (some .boolean)] ++ wsX50)
def wsX5_turn : List Cond := .code yX5_turn cX5_turn 4 (some .int) :: ([.fieldLink RX5 16 "GrowingCornersModel" "weights" "[I", .fieldLink RX5 7 "GrowingCornersModel" "m" "I", .fieldLink RX5 13 "GrowingCornersModel" "n" "I"] ++ wsX50)
def wsX5_findBest : List Cond := .code yX5_findBest cX5_findBest 7 none :: ([.fieldLink RX5 7 "GrowingCornersModel" "m" "I", .fieldLink RX5 13 "GrowingCornersModel" "n" "I", .fieldLink RX5 29 "GrowingCornersModel" "best" "[I", .fieldLink RX5 16 "GrowingCornersModel" "weights" "[I", .methodLink RX5 93 yX5_greater, .static yX5_greater, .initialized RX5, .code yX5_greater cX5_greater 2 (some .int)] ++ wsX50)
def wsX5_best : List Cond := .code yX5_best cX5_best 3 (some .int) :: ([.fieldLink RX5 29 "GrowingCornersModel" "best" "[I", .methodLink RX5 82 yX5_isPlace, .instanceMethod yX5_isPlace, .selects RX5 yX5_isPlace yX5_isPlace, .initialized RX5, .code yX5_isPlace cX5_isPlace 3 (some .boolean), .fieldLink RX5 7 "GrowingCornersModel" "m" "I", .fieldLink RX5 13 "GrowingCornersModel" "n" "I", .methodLink RX5 76 yX5_in, .static yX5_in, .code yX5_in cX5_in 6 (some .boolean), .methodLink RX5 97 yX5_findBest, .instanceMethod yX5_findBest, .selects RX5 yX5_findBest yX5_findBest, .code yX5_findBest cX5_findBest 7 none, .fieldLink RX5 16 "GrowingCornersModel" "weights" "[I", .methodLink RX5 93 yX5_greater, .static yX5_greater, .code yX5_greater cX5_greater 2 (some .int)] ++ wsX50)
def wsX5_between : List Cond := .code yX5_between cX5_between 5 (some .int) :: ([.fieldLink RX5 29 "GrowingCornersModel" "best" "[I", .methodLink RX5 82 yX5_isPlace, .instanceMethod yX5_isPlace, .selects RX5 yX5_isPlace yX5_isPlace, .initialized RX5, .code yX5_isPlace cX5_isPlace 3 (some .boolean), .fieldLink RX5 7 "GrowingCornersModel" "m" "I", .fieldLink RX5 13 "GrowingCornersModel" "n" "I", .methodLink RX5 76 yX5_in, .static yX5_in, .code yX5_in cX5_in 6 (some .boolean), .methodLink RX5 97 yX5_findBest, .instanceMethod yX5_findBest, .selects RX5 yX5_findBest yX5_findBest, .code yX5_findBest cX5_findBest 7 none, .fieldLink RX5 16 "GrowingCornersModel" "weights" "[I", .methodLink RX5 93 yX5_greater, .static yX5_greater, .code yX5_greater cX5_greater 2 (some .int)] ++ wsX50)
def wsX5_findShapes : List Cond := .code yX5_findShapes cX5_findShapes 8 none :: ([.fieldLink RX5 7 "GrowingCornersModel" "m" "I", .fieldLink RX5 13 "GrowingCornersModel" "n" "I", .fieldLink RX5 32 "GrowingCornersModel" "parts" "[I", .fieldLink RX5 16 "GrowingCornersModel" "weights" "[I", .methodLink RX5 93 yX5_greater, .static yX5_greater, .initialized RX5, .code yX5_greater cX5_greater 2 (some .int)] ++ wsX50)
def wsX5_shape : List Cond := .code yX5_shape cX5_shape 4 (some .int) :: ([.fieldLink RX5 7 "GrowingCornersModel" "m" "I", .fieldLink RX5 13 "GrowingCornersModel" "n" "I", .constantLong RX5 101 (5), .fieldLink RX5 32 "GrowingCornersModel" "parts" "[I", .methodLink RX5 76 yX5_in, .static yX5_in, .initialized RX5, .code yX5_in cX5_in 6 (some .boolean), .methodLink RX5 103 yX5_findShapes, .instanceMethod yX5_findShapes, .selects RX5 yX5_findShapes yX5_findShapes, .code yX5_findShapes cX5_findShapes 8 none, .fieldLink RX5 16 "GrowingCornersModel" "weights" "[I", .methodLink RX5 93 yX5_greater, .static yX5_greater, .code yX5_greater cX5_greater 2 (some .int)] ++ wsX50)
def wsX5_ways : List Cond := .code yX5_ways cX5_ways 4 (some .int) :: ([.constantLong RX5 80 (6), .fieldLink RX5 32 "GrowingCornersModel" "parts" "[I", .fieldLink RX5 7 "GrowingCornersModel" "m" "I", .fieldLink RX5 13 "GrowingCornersModel" "n" "I", .methodLink RX5 76 yX5_in, .static yX5_in, .initialized RX5, .code yX5_in cX5_in 6 (some .boolean), .methodLink RX5 103 yX5_findShapes, .instanceMethod yX5_findShapes, .selects RX5 yX5_findShapes yX5_findShapes, .code yX5_findShapes cX5_findShapes 8 none, .fieldLink RX5 16 "GrowingCornersModel" "weights" "[I", .methodLink RX5 93 yX5_greater, .static yX5_greater, .code yX5_greater cX5_greater 2 (some .int)] ++ wsX50)
def wsX5_sums : List Cond := .code yX5_sums cX5_sums 7 (some .long) :: ([.constantLong RX5 106 (-1), .fieldLink RX5 35 "GrowingCornersModel" "sums" "[J", .fieldLink RX5 16 "GrowingCornersModel" "weights" "[I", .methodLink RX5 82 yX5_isPlace, .instanceMethod yX5_isPlace, .selects RX5 yX5_isPlace yX5_isPlace, .initialized RX5, .code yX5_isPlace cX5_isPlace 3 (some .boolean), .fieldLink RX5 7 "GrowingCornersModel" "m" "I", .fieldLink RX5 13 "GrowingCornersModel" "n" "I", .methodLink RX5 76 yX5_in, .static yX5_in, .code yX5_in cX5_in 6 (some .boolean)] ++ wsX50)
def wsX5_served : List Cond := .code yX5_served cX5_served 5 (some .int) :: ([.fieldLink RX5 7 "GrowingCornersModel" "m" "I", .fieldLink RX5 13 "GrowingCornersModel" "n" "I", .fieldLink RX5 29 "GrowingCornersModel" "best" "[I", .methodLink RX5 76 yX5_in, .static yX5_in, .initialized RX5, .code yX5_in cX5_in 6 (some .boolean), .methodLink RX5 97 yX5_findBest, .instanceMethod yX5_findBest, .selects RX5 yX5_findBest yX5_findBest, .code yX5_findBest cX5_findBest 7 none, .fieldLink RX5 16 "GrowingCornersModel" "weights" "[I", .methodLink RX5 93 yX5_greater, .static yX5_greater, .code yX5_greater cX5_greater 2 (some .int)] ++ wsX50)
def wsX5_line : List Cond := .code yX5_line cX5_line 6 (some .int) :: ([.fieldLink RX5 7 "GrowingCornersModel" "m" "I", .fieldLink RX5 13 "GrowingCornersModel" "n" "I", .fieldLink RX5 29 "GrowingCornersModel" "best" "[I", .methodLink RX5 76 yX5_in, .static yX5_in, .initialized RX5, .code yX5_in cX5_in 6 (some .boolean), .methodLink RX5 97 yX5_findBest, .instanceMethod yX5_findBest, .selects RX5 yX5_findBest yX5_findBest, .code yX5_findBest cX5_findBest 7 none, .fieldLink RX5 16 "GrowingCornersModel" "weights" "[I", .methodLink RX5 93 yX5_greater, .static yX5_greater, .code yX5_greater cX5_greater 2 (some .int)] ++ wsX50)
def wsX5_letter : List Cond := .code yX5_letter cX5_letter 2 (some .int) :: ([.constantLong RX5 108 (9), .fieldLink RX5 110 "GrowingCornersModel" "letters" "I", .fieldLink RX5 39 "GrowingCornersModel" "word" "[I", .methodLink RX5 76 yX5_in, .static yX5_in, .initialized RX5, .code yX5_in cX5_in 6 (some .boolean)] ++ wsX50)
def wsX5_clear : List Cond := .code yX5_clear cX5_clear 2 (some .int) :: ([.fieldLink RX5 110 "GrowingCornersModel" "letters" "I"] ++ wsX50)
def wsX5_insert : List Cond := .code yX5_insert cX5_insert 8 none :: ([.fieldLink RX5 48 "GrowingCornersModel" "rows" "[I", .fieldLink RX5 42 "GrowingCornersModel" "p" "[I", .fieldLink RX5 45 "GrowingCornersModel" "q" "[I"] ++ wsX50)
def wsX5_makeTableaux : List Cond := .code yX5_makeTableaux cX5_makeTableaux 2 none :: ([.fieldLink RX5 48 "GrowingCornersModel" "rows" "[I", .fieldLink RX5 110 "GrowingCornersModel" "letters" "I", .fieldLink RX5 39 "GrowingCornersModel" "word" "[I", .methodLink RX5 113 yX5_insert, .instanceMethod yX5_insert, .selects RX5 yX5_insert yX5_insert, .initialized RX5, .code yX5_insert cX5_insert 8 none, .fieldLink RX5 42 "GrowingCornersModel" "p" "[I", .fieldLink RX5 45 "GrowingCornersModel" "q" "[I"] ++ wsX50)
def wsX5_row : List Cond := .code yX5_row cX5_row 2 (some .int) :: ([.constantLong RX5 116 (8), .fieldLink RX5 48 "GrowingCornersModel" "rows" "[I", .methodLink RX5 76 yX5_in, .static yX5_in, .initialized RX5, .code yX5_in cX5_in 6 (some .boolean), .methodLink RX5 118 yX5_makeTableaux, .instanceMethod yX5_makeTableaux, .selects RX5 yX5_makeTableaux yX5_makeTableaux, .code yX5_makeTableaux cX5_makeTableaux 2 none, .fieldLink RX5 110 "GrowingCornersModel" "letters" "I", .fieldLink RX5 39 "GrowingCornersModel" "word" "[I", .methodLink RX5 113 yX5_insert, .instanceMethod yX5_insert, .selects RX5 yX5_insert yX5_insert, .code yX5_insert cX5_insert 8 none, .fieldLink RX5 42 "GrowingCornersModel" "p" "[I", .fieldLink RX5 45 "GrowingCornersModel" "q" "[I"] ++ wsX50)
def wsX5_place : List Cond := .code yX5_place cX5_place 4 (some .int) :: ([.constantLong RX5 116 (8), .fieldLink RX5 48 "GrowingCornersModel" "rows" "[I", .fieldLink RX5 42 "GrowingCornersModel" "p" "[I", .fieldLink RX5 45 "GrowingCornersModel" "q" "[I", .methodLink RX5 76 yX5_in, .static yX5_in, .initialized RX5, .code yX5_in cX5_in 6 (some .boolean), .methodLink RX5 118 yX5_makeTableaux, .instanceMethod yX5_makeTableaux, .selects RX5 yX5_makeTableaux yX5_makeTableaux, .code yX5_makeTableaux cX5_makeTableaux 2 none, .fieldLink RX5 110 "GrowingCornersModel" "letters" "I", .fieldLink RX5 39 "GrowingCornersModel" "word" "[I", .methodLink RX5 113 yX5_insert, .instanceMethod yX5_insert, .selects RX5 yX5_insert yX5_insert, .code yX5_insert cX5_insert 8 none] ++ wsX50)
def wsX5_longest : List Cond := .code yX5_longest cX5_longest 6 (some .int) :: ([.fieldLink RX5 110 "GrowingCornersModel" "letters" "I", .fieldLink RX5 51 "GrowingCornersModel" "long0" "[I", .fieldLink RX5 39 "GrowingCornersModel" "word" "[I", .methodLink RX5 76 yX5_in, .static yX5_in, .initialized RX5, .code yX5_in cX5_in 6 (some .boolean), .methodLink RX5 93 yX5_greater, .static yX5_greater, .code yX5_greater cX5_greater 2 (some .int)] ++ wsX50)
def wsX5_total : List Cond := .code yX5_total cX5_total 3 (some .int) :: ([])
def wsX5_manyRows : List Cond := .code yX5_manyRows cX5_manyRows 2 (some .int) :: ([])
def wsX5_lay : List Cond := .code yX5_lay cX5_lay 6 (some .int) :: ([.constantLong RX5 121 (40), .constantLong RX5 116 (8), .fieldLink RX5 60 "GrowingCornersModel" "rowsP" "[I", .fieldLink RX5 63 "GrowingCornersModel" "rowsQ" "[I", .fieldLink RX5 54 "GrowingCornersModel" "laidP" "[I", .fieldLink RX5 57 "GrowingCornersModel" "laidQ" "[I", .methodLink RX5 76 yX5_in, .static yX5_in, .initialized RX5, .code yX5_in cX5_in 6 (some .boolean), .methodLink RX5 123 yX5_manyRows, .static yX5_manyRows, .code yX5_manyRows cX5_manyRows 2 (some .int), .methodLink RX5 127 yX5_total, .static yX5_total, .code yX5_total cX5_total 3 (some .int)] ++ wsX50)
def wsX5_unlay : List Cond := .code yX5_unlay cX5_unlay 3 (some .int) :: ([.fieldLink RX5 60 "GrowingCornersModel" "rowsP" "[I", .fieldLink RX5 63 "GrowingCornersModel" "rowsQ" "[I", .methodLink RX5 127 yX5_total, .static yX5_total, .initialized RX5, .code yX5_total cX5_total 3 (some .int)] ++ wsX50)
def wsX5_areTableaux : List Cond := .code yX5_areTableaux cX5_areTableaux 6 (some .boolean) :: ([.fieldLink RX5 60 "GrowingCornersModel" "rowsP" "[I", .fieldLink RX5 66 "GrowingCornersModel" "seen" "[Z", .fieldLink RX5 63 "GrowingCornersModel" "rowsQ" "[I", .fieldLink RX5 54 "GrowingCornersModel" "laidP" "[I", .fieldLink RX5 57 "GrowingCornersModel" "laidQ" "[I", .methodLink RX5 127 yX5_total, .static yX5_total, .initialized RX5, .code yX5_total cX5_total 3 (some .int)] ++ wsX50)
def wsX5_back : List Cond := .code yX5_back cX5_back 7 (some .int) :: ([.fieldLink RX5 60 "GrowingCornersModel" "rowsP" "[I", .fieldLink RX5 110 "GrowingCornersModel" "letters" "I", .fieldLink RX5 63 "GrowingCornersModel" "rowsQ" "[I", .fieldLink RX5 57 "GrowingCornersModel" "laidQ" "[I", .fieldLink RX5 54 "GrowingCornersModel" "laidP" "[I", .fieldLink RX5 39 "GrowingCornersModel" "word" "[I", .methodLink RX5 130 yX5_areTableaux, .instanceMethod yX5_areTableaux, .selects RX5 yX5_areTableaux yX5_areTableaux, .initialized RX5, .code yX5_areTableaux cX5_areTableaux 6 (some .boolean), .fieldLink RX5 66 "GrowingCornersModel" "seen" "[Z", .methodLink RX5 127 yX5_total, .static yX5_total, .code yX5_total cX5_total 3 (some .int)] ++ wsX50)
def wsX5_wordOf : List Cond := .code yX5_wordOf cX5_wordOf 5 (some .int) :: ([.fieldLink RX5 7 "GrowingCornersModel" "m" "I", .fieldLink RX5 13 "GrowingCornersModel" "n" "I", .fieldLink RX5 16 "GrowingCornersModel" "weights" "[I", .fieldLink RX5 110 "GrowingCornersModel" "letters" "I", .fieldLink RX5 39 "GrowingCornersModel" "word" "[I"] ++ wsX50)
def wsX5_power : List Cond := .code yX5_power cX5_power 1 (some .int) :: ([])
def wsX5_addPlace : List Cond := .code yX5_addPlace cX5_addPlace 8 none :: ([.fieldLink RX5 73 "GrowingCornersModel" "next" "[J", .fieldLink RX5 70 "GrowingCornersModel" "now" "[J", .methodLink RX5 134 yX5_power, .static yX5_power, .initialized RX5, .code yX5_power cX5_power 1 (some .int), .methodLink RX5 93 yX5_greater, .static yX5_greater, .code yX5_greater cX5_greater 2 (some .int)] ++ wsX50)
def wsX5_chance : List Cond := .code yX5_chance cX5_chance 7 (some .long) :: ([.constantLong RX5 88 (3), .constantLong RX5 116 (8), .constantLong RX5 106 (-1), .fieldLink RX5 70 "GrowingCornersModel" "now" "[J", .methodLink RX5 76 yX5_in, .static yX5_in, .initialized RX5, .code yX5_in cX5_in 6 (some .boolean), .methodLink RX5 138 yX5_addPlace, .instanceMethod yX5_addPlace, .selects RX5 yX5_addPlace yX5_addPlace, .code yX5_addPlace cX5_addPlace 8 none, .fieldLink RX5 73 "GrowingCornersModel" "next" "[J", .methodLink RX5 134 yX5_power, .static yX5_power, .code yX5_power cX5_power 1 (some .int), .methodLink RX5 93 yX5_greater, .static yX5_greater, .code yX5_greater cX5_greater 2 (some .int)] ++ wsX50)
def wsJ9_max_7cf53 : List Cond := .code yJ9_max_7cf53 cJ9_max_7cf53 2 (some .int) :: ([])
def wsJ9_min_7cf53 : List Cond := .code yJ9_min_7cf53 cJ9_min_7cf53 2 (some .int) :: ([])
abbrev vwCl : List vw_C := [(RX0, TX0, 6), (RX1, TX1, 3), (RX2, TX2, 4), (RX3, TX3, 2), (RX4, TX4, 6), (RX5, TX5, 22)]
end
section
theorem dX0_init_0 : decode cX0_init 0 = .ok (.aload_n 0, 1) := by decide +kernel
theorem dX0_init_1 : decode cX0_init 1 = .ok (.invokespecial 3, 3) := by decide +kernel
theorem dX0_init_4 : decode cX0_init 4 = .ok (.aload_n 0, 1) := by decide +kernel
theorem dX0_init_5 : decode cX0_init 5 = .ok (.iconst 3, 1) := by decide +kernel
theorem dX0_init_6 : decode cX0_init 6 = .ok (.putfield 11, 3) := by decide +kernel
theorem dX0_init_9 : decode cX0_init 9 = .ok (.aload_n 0, 1) := by decide +kernel
theorem dX0_init_10 : decode cX0_init 10 = .ok (.iconst 3, 1) := by decide +kernel
theorem dX0_init_11 : decode cX0_init 11 = .ok (.putfield 15, 3) := by decide +kernel
theorem dX0_init_14 : decode cX0_init 14 = .ok (.aload_n 0, 1) := by decide +kernel
theorem dX0_init_15 : decode cX0_init 15 = .ok (.bipush 6, 2) := by decide +kernel
theorem dX0_init_17 : decode cX0_init 17 = .ok (.bipush 6, 2) := by decide +kernel
theorem dX0_init_19 : decode cX0_init 19 = .ok (.multianewarray 18 2, 4) := by decide +kernel
theorem dX0_init_23 : decode cX0_init 23 = .ok (.putfield 20, 3) := by decide +kernel
theorem dX0_init_26 : decode cX0_init 26 = .ok (.aload_n 0, 1) := by decide +kernel
theorem dX0_init_27 : decode cX0_init 27 = .ok (.bipush 6, 2) := by decide +kernel
theorem dX0_init_29 : decode cX0_init 29 = .ok (.bipush 6, 2) := by decide +kernel
theorem dX0_init_31 : decode cX0_init 31 = .ok (.multianewarray 18 2, 4) := by decide +kernel
theorem dX0_init_35 : decode cX0_init 35 = .ok (.putfield 23, 3) := by decide +kernel
theorem dX0_init_38 : decode cX0_init 38 = .ok (.aload_n 0, 1) := by decide +kernel
theorem dX0_init_39 : decode cX0_init 39 = .ok (.bipush 6, 2) := by decide +kernel
theorem dX0_init_41 : decode cX0_init 41 = .ok (.bipush 6, 2) := by decide +kernel
theorem dX0_init_43 : decode cX0_init 43 = .ok (.multianewarray 26 2, 4) := by decide +kernel
theorem dX0_init_47 : decode cX0_init 47 = .ok (.putfield 28, 3) := by decide +kernel
theorem dX0_init_50 : decode cX0_init 50 = .ok (.aload_n 0, 1) := by decide +kernel
theorem dX0_init_51 : decode cX0_init 51 = .ok (.bipush 49, 2) := by decide +kernel
theorem dX0_init_53 : decode cX0_init 53 = .ok (.bipush 6, 2) := by decide +kernel
theorem dX0_init_55 : decode cX0_init 55 = .ok (.multianewarray 18 2, 4) := by decide +kernel
theorem dX0_init_59 : decode cX0_init 59 = .ok (.putfield 31, 3) := by decide +kernel
theorem dX0_init_62 : decode cX0_init 62 = .ok (.return_, 1) := by decide +kernel
set_option maxRecDepth 20000 in
theorem ggX0_reset_J7_fill_53178 : GoodIn wsX0_reset wsJ7_fill_53178 := goodIn_r _ [7] (by decide +kernel) (by decide +kernel)
set_option maxRecDepth 20000 in
theorem gX0_reset_J7_fill_53178 : GoodIn wsX0_reset (va_wsS RX0 34 yJ7_fill_53178 wsJ7_fill_53178) := goodIn_app (goodIn_of _ (by decide +kernel)) ggX0_reset_J7_fill_53178
theorem dX0_reset_0 : decode cX0_reset 0 = .ok (.aload_n 0, 1) := by decide +kernel
theorem dX0_reset_1 : decode cX0_reset 1 = .ok (.iload_n 1, 1) := by decide +kernel
theorem dX0_reset_2 : decode cX0_reset 2 = .ok (.putfield 11, 3) := by decide +kernel
theorem dX0_reset_5 : decode cX0_reset 5 = .ok (.aload_n 0, 1) := by decide +kernel
theorem dX0_reset_6 : decode cX0_reset 6 = .ok (.iload_n 2, 1) := by decide +kernel
theorem dX0_reset_7 : decode cX0_reset 7 = .ok (.putfield 15, 3) := by decide +kernel
theorem dX0_reset_10 : decode cX0_reset 10 = .ok (.iconst 0, 1) := by decide +kernel
theorem dX0_reset_11 : decode cX0_reset 11 = .ok (.istore_n 3, 1) := by decide +kernel
theorem dX0_reset_12 : decode cX0_reset 12 = .ok (.iload_n 3, 1) := by decide +kernel
theorem dX0_reset_13 : decode cX0_reset 13 = .ok (.bipush 6, 2) := by decide +kernel
theorem dX0_reset_15 : decode cX0_reset 15 = .ok (.if_icmp .ge 19, 3) := by decide +kernel
theorem dX0_reset_18 : decode cX0_reset 18 = .ok (.aload_n 0, 1) := by decide +kernel
theorem dX0_reset_19 : decode cX0_reset 19 = .ok (.getfield 20, 3) := by decide +kernel
theorem dX0_reset_22 : decode cX0_reset 22 = .ok (.iload_n 3, 1) := by decide +kernel
theorem dX0_reset_23 : decode cX0_reset 23 = .ok (.aaload, 1) := by decide +kernel
theorem dX0_reset_24 : decode cX0_reset 24 = .ok (.iconst 0, 1) := by decide +kernel
theorem dX0_reset_25 : decode cX0_reset 25 = .ok (.invokestatic 34, 3) := by decide +kernel
theorem dX0_reset_28 : decode cX0_reset 28 = .ok (.iinc 3 1, 3) := by decide +kernel
theorem dX0_reset_31 : decode cX0_reset 31 = .ok (.goto (-19), 3) := by decide +kernel
theorem dX0_reset_34 : decode cX0_reset 34 = .ok (.return_, 1) := by decide +kernel
set_option maxRecDepth 20000 in
theorem ggX0_hasPlace_X4_isWithin : GoodIn wsX0_hasPlace wsX4_isWithin := goodIn_r _ [5] (by decide +kernel) (by decide +kernel)
set_option maxRecDepth 20000 in
theorem gX0_hasPlace_X4_isWithin_n40 : GoodIn wsX0_hasPlace (wsX4_isWithin) := ggX0_hasPlace_X4_isWithin
theorem dX0_hasPlace_0 : decode cX0_hasPlace 0 = .ok (.iload_n 1, 1) := by decide +kernel
theorem dX0_hasPlace_1 : decode cX0_hasPlace 1 = .ok (.iconst 0, 1) := by decide +kernel
theorem dX0_hasPlace_2 : decode cX0_hasPlace 2 = .ok (.aload_n 0, 1) := by decide +kernel
theorem dX0_hasPlace_3 : decode cX0_hasPlace 3 = .ok (.getfield 11, 3) := by decide +kernel
theorem dX0_hasPlace_6 : decode cX0_hasPlace 6 = .ok (.iconst 1, 1) := by decide +kernel
theorem dX0_hasPlace_7 : decode cX0_hasPlace 7 = .ok (.isub, 1) := by decide +kernel
theorem dX0_hasPlace_8 : decode cX0_hasPlace 8 = .ok (.invokestatic 40, 3) := by decide +kernel
theorem dX0_hasPlace_11 : decode cX0_hasPlace 11 = .ok (.ifCond .eq 21, 3) := by decide +kernel
theorem dX0_hasPlace_14 : decode cX0_hasPlace 14 = .ok (.iload_n 2, 1) := by decide +kernel
theorem dX0_hasPlace_15 : decode cX0_hasPlace 15 = .ok (.iconst 0, 1) := by decide +kernel
theorem dX0_hasPlace_16 : decode cX0_hasPlace 16 = .ok (.aload_n 0, 1) := by decide +kernel
theorem dX0_hasPlace_17 : decode cX0_hasPlace 17 = .ok (.getfield 15, 3) := by decide +kernel
theorem dX0_hasPlace_20 : decode cX0_hasPlace 20 = .ok (.iconst 1, 1) := by decide +kernel
theorem dX0_hasPlace_21 : decode cX0_hasPlace 21 = .ok (.isub, 1) := by decide +kernel
theorem dX0_hasPlace_22 : decode cX0_hasPlace 22 = .ok (.invokestatic 40, 3) := by decide +kernel
theorem dX0_hasPlace_25 : decode cX0_hasPlace 25 = .ok (.ifCond .eq 7, 3) := by decide +kernel
theorem dX0_hasPlace_28 : decode cX0_hasPlace 28 = .ok (.iconst 1, 1) := by decide +kernel
theorem dX0_hasPlace_29 : decode cX0_hasPlace 29 = .ok (.goto 4, 3) := by decide +kernel
theorem dX0_hasPlace_32 : decode cX0_hasPlace 32 = .ok (.iconst 0, 1) := by decide +kernel
theorem dX0_hasPlace_33 : decode cX0_hasPlace 33 = .ok (.ireturn, 1) := by decide +kernel
set_option maxRecDepth 20000 in
theorem ggX0_hasCorner_X4_isWithin : GoodIn wsX0_hasCorner wsX4_isWithin := goodIn_r _ [5] (by decide +kernel) (by decide +kernel)
set_option maxRecDepth 20000 in
theorem gX0_hasCorner_X4_isWithin_n40 : GoodIn wsX0_hasCorner (wsX4_isWithin) := ggX0_hasCorner_X4_isWithin
theorem dX0_hasCorner_0 : decode cX0_hasCorner 0 = .ok (.iload_n 1, 1) := by decide +kernel
theorem dX0_hasCorner_1 : decode cX0_hasCorner 1 = .ok (.iconst 0, 1) := by decide +kernel
theorem dX0_hasCorner_2 : decode cX0_hasCorner 2 = .ok (.aload_n 0, 1) := by decide +kernel
theorem dX0_hasCorner_3 : decode cX0_hasCorner 3 = .ok (.getfield 11, 3) := by decide +kernel
theorem dX0_hasCorner_6 : decode cX0_hasCorner 6 = .ok (.invokestatic 40, 3) := by decide +kernel
theorem dX0_hasCorner_9 : decode cX0_hasCorner 9 = .ok (.ifCond .eq 19, 3) := by decide +kernel
theorem dX0_hasCorner_12 : decode cX0_hasCorner 12 = .ok (.iload_n 2, 1) := by decide +kernel
theorem dX0_hasCorner_13 : decode cX0_hasCorner 13 = .ok (.iconst 0, 1) := by decide +kernel
theorem dX0_hasCorner_14 : decode cX0_hasCorner 14 = .ok (.aload_n 0, 1) := by decide +kernel
theorem dX0_hasCorner_15 : decode cX0_hasCorner 15 = .ok (.getfield 15, 3) := by decide +kernel
theorem dX0_hasCorner_18 : decode cX0_hasCorner 18 = .ok (.invokestatic 40, 3) := by decide +kernel
theorem dX0_hasCorner_21 : decode cX0_hasCorner 21 = .ok (.ifCond .eq 7, 3) := by decide +kernel
theorem dX0_hasCorner_24 : decode cX0_hasCorner 24 = .ok (.iconst 1, 1) := by decide +kernel
theorem dX0_hasCorner_25 : decode cX0_hasCorner 25 = .ok (.goto 4, 3) := by decide +kernel
theorem dX0_hasCorner_28 : decode cX0_hasCorner 28 = .ok (.iconst 0, 1) := by decide +kernel
theorem dX0_hasCorner_29 : decode cX0_hasCorner 29 = .ok (.ireturn, 1) := by decide +kernel
theorem dX0_placeCount_0 : decode cX0_placeCount 0 = .ok (.aload_n 0, 1) := by decide +kernel
theorem dX0_placeCount_1 : decode cX0_placeCount 1 = .ok (.getfield 11, 3) := by decide +kernel
theorem dX0_placeCount_4 : decode cX0_placeCount 4 = .ok (.aload_n 0, 1) := by decide +kernel
theorem dX0_placeCount_5 : decode cX0_placeCount 5 = .ok (.getfield 15, 3) := by decide +kernel
theorem dX0_placeCount_8 : decode cX0_placeCount 8 = .ok (.imul, 1) := by decide +kernel
theorem dX0_placeCount_9 : decode cX0_placeCount 9 = .ok (.ireturn, 1) := by decide +kernel
theorem dX0_lastStep_0 : decode cX0_lastStep 0 = .ok (.aload_n 0, 1) := by decide +kernel
theorem dX0_lastStep_1 : decode cX0_lastStep 1 = .ok (.getfield 11, 3) := by decide +kernel
theorem dX0_lastStep_4 : decode cX0_lastStep 4 = .ok (.aload_n 0, 1) := by decide +kernel
theorem dX0_lastStep_5 : decode cX0_lastStep 5 = .ok (.getfield 15, 3) := by decide +kernel
theorem dX0_lastStep_8 : decode cX0_lastStep 8 = .ok (.iadd, 1) := by decide +kernel
theorem dX0_lastStep_9 : decode cX0_lastStep 9 = .ok (.iconst 2, 1) := by decide +kernel
theorem dX0_lastStep_10 : decode cX0_lastStep 10 = .ok (.isub, 1) := by decide +kernel
theorem dX0_lastStep_11 : decode cX0_lastStep 11 = .ok (.ireturn, 1) := by decide +kernel
theorem dX0_exchange_0 : decode cX0_exchange 0 = .ok (.aload_n 0, 1) := by decide +kernel
theorem dX0_exchange_1 : decode cX0_exchange 1 = .ok (.getfield 20, 3) := by decide +kernel
theorem dX0_exchange_4 : decode cX0_exchange 4 = .ok (.iload_n 1, 1) := by decide +kernel
theorem dX0_exchange_5 : decode cX0_exchange 5 = .ok (.aaload, 1) := by decide +kernel
theorem dX0_exchange_6 : decode cX0_exchange 6 = .ok (.iload_n 2, 1) := by decide +kernel
theorem dX0_exchange_7 : decode cX0_exchange 7 = .ok (.iaload, 1) := by decide +kernel
theorem dX0_exchange_8 : decode cX0_exchange 8 = .ok (.istore 4, 2) := by decide +kernel
theorem dX0_exchange_10 : decode cX0_exchange 10 = .ok (.aload_n 0, 1) := by decide +kernel
theorem dX0_exchange_11 : decode cX0_exchange 11 = .ok (.getfield 20, 3) := by decide +kernel
theorem dX0_exchange_14 : decode cX0_exchange 14 = .ok (.iload_n 1, 1) := by decide +kernel
theorem dX0_exchange_15 : decode cX0_exchange 15 = .ok (.aaload, 1) := by decide +kernel
theorem dX0_exchange_16 : decode cX0_exchange 16 = .ok (.iload_n 2, 1) := by decide +kernel
theorem dX0_exchange_17 : decode cX0_exchange 17 = .ok (.iload_n 3, 1) := by decide +kernel
theorem dX0_exchange_18 : decode cX0_exchange 18 = .ok (.iastore, 1) := by decide +kernel
theorem dX0_exchange_19 : decode cX0_exchange 19 = .ok (.iload 4, 2) := by decide +kernel
theorem dX0_exchange_21 : decode cX0_exchange 21 = .ok (.ireturn, 1) := by decide +kernel
set_option maxRecDepth 20000 in
theorem ggX0_takeFrom_X1_itemAt : GoodIn wsX0_takeFrom wsX1_itemAt := goodIn_r _ [8, 9, 16, 17, 18] (by decide +kernel) (by decide +kernel)
set_option maxRecDepth 20000 in
theorem gX0_takeFrom_X1_itemAt : GoodIn wsX0_takeFrom (wsV RX0 44 RX1 yX1_itemAt wsX1_itemAt) := goodIn_app (goodIn_of _ (by decide +kernel)) ggX0_takeFrom_X1_itemAt
theorem dX0_takeFrom_0 : decode cX0_takeFrom 0 = .ok (.iload_n 2, 1) := by decide +kernel
theorem dX0_takeFrom_1 : decode cX0_takeFrom 1 = .ok (.istore_n 3, 1) := by decide +kernel
theorem dX0_takeFrom_2 : decode cX0_takeFrom 2 = .ok (.iconst 0, 1) := by decide +kernel
theorem dX0_takeFrom_3 : decode cX0_takeFrom 3 = .ok (.istore 4, 2) := by decide +kernel
theorem dX0_takeFrom_5 : decode cX0_takeFrom 5 = .ok (.iload 4, 2) := by decide +kernel
theorem dX0_takeFrom_7 : decode cX0_takeFrom 7 = .ok (.aload_n 0, 1) := by decide +kernel
theorem dX0_takeFrom_8 : decode cX0_takeFrom 8 = .ok (.getfield 11, 3) := by decide +kernel
theorem dX0_takeFrom_11 : decode cX0_takeFrom 11 = .ok (.if_icmp .ge 46, 3) := by decide +kernel
theorem dX0_takeFrom_14 : decode cX0_takeFrom 14 = .ok (.iconst 0, 1) := by decide +kernel
theorem dX0_takeFrom_15 : decode cX0_takeFrom 15 = .ok (.istore 5, 2) := by decide +kernel
theorem dX0_takeFrom_17 : decode cX0_takeFrom 17 = .ok (.iload 5, 2) := by decide +kernel
theorem dX0_takeFrom_19 : decode cX0_takeFrom 19 = .ok (.aload_n 0, 1) := by decide +kernel
theorem dX0_takeFrom_20 : decode cX0_takeFrom 20 = .ok (.getfield 15, 3) := by decide +kernel
theorem dX0_takeFrom_23 : decode cX0_takeFrom 23 = .ok (.if_icmp .ge 28, 3) := by decide +kernel
theorem dX0_takeFrom_26 : decode cX0_takeFrom 26 = .ok (.aload_n 0, 1) := by decide +kernel
theorem dX0_takeFrom_27 : decode cX0_takeFrom 27 = .ok (.getfield 20, 3) := by decide +kernel
theorem dX0_takeFrom_30 : decode cX0_takeFrom 30 = .ok (.iload 4, 2) := by decide +kernel
theorem dX0_takeFrom_32 : decode cX0_takeFrom 32 = .ok (.aaload, 1) := by decide +kernel
theorem dX0_takeFrom_33 : decode cX0_takeFrom 33 = .ok (.iload 5, 2) := by decide +kernel
theorem dX0_takeFrom_35 : decode cX0_takeFrom 35 = .ok (.aload_n 1, 1) := by decide +kernel
theorem dX0_takeFrom_36 : decode cX0_takeFrom 36 = .ok (.iload_n 3, 1) := by decide +kernel
theorem dX0_takeFrom_37 : decode cX0_takeFrom 37 = .ok (.invokevirtual 44, 3) := by decide +kernel
theorem dX0_takeFrom_40 : decode cX0_takeFrom 40 = .ok (.l2i, 1) := by decide +kernel
theorem dX0_takeFrom_41 : decode cX0_takeFrom 41 = .ok (.iastore, 1) := by decide +kernel
theorem dX0_takeFrom_42 : decode cX0_takeFrom 42 = .ok (.iinc 3 1, 3) := by decide +kernel
theorem dX0_takeFrom_45 : decode cX0_takeFrom 45 = .ok (.iinc 5 1, 3) := by decide +kernel
theorem dX0_takeFrom_48 : decode cX0_takeFrom 48 = .ok (.goto (-31), 3) := by decide +kernel
theorem dX0_takeFrom_51 : decode cX0_takeFrom 51 = .ok (.iinc 4 1, 3) := by decide +kernel
theorem dX0_takeFrom_54 : decode cX0_takeFrom 54 = .ok (.goto (-49), 3) := by decide +kernel
theorem dX0_takeFrom_57 : decode cX0_takeFrom 57 = .ok (.return_, 1) := by decide +kernel
theorem dX0_total_0 : decode cX0_total 0 = .ok (.iconst 0, 1) := by decide +kernel
theorem dX0_total_1 : decode cX0_total 1 = .ok (.istore_n 1, 1) := by decide +kernel
theorem dX0_total_2 : decode cX0_total 2 = .ok (.iconst 0, 1) := by decide +kernel
theorem dX0_total_3 : decode cX0_total 3 = .ok (.istore_n 2, 1) := by decide +kernel
theorem dX0_total_4 : decode cX0_total 4 = .ok (.iload_n 2, 1) := by decide +kernel
theorem dX0_total_5 : decode cX0_total 5 = .ok (.aload_n 0, 1) := by decide +kernel
theorem dX0_total_6 : decode cX0_total 6 = .ok (.getfield 11, 3) := by decide +kernel
theorem dX0_total_9 : decode cX0_total 9 = .ok (.if_icmp .ge 36, 3) := by decide +kernel
theorem dX0_total_12 : decode cX0_total 12 = .ok (.iconst 0, 1) := by decide +kernel
theorem dX0_total_13 : decode cX0_total 13 = .ok (.istore_n 3, 1) := by decide +kernel
theorem dX0_total_14 : decode cX0_total 14 = .ok (.iload_n 3, 1) := by decide +kernel
theorem dX0_total_15 : decode cX0_total 15 = .ok (.aload_n 0, 1) := by decide +kernel
theorem dX0_total_16 : decode cX0_total 16 = .ok (.getfield 15, 3) := by decide +kernel
theorem dX0_total_19 : decode cX0_total 19 = .ok (.if_icmp .ge 20, 3) := by decide +kernel
theorem dX0_total_22 : decode cX0_total 22 = .ok (.iload_n 1, 1) := by decide +kernel
theorem dX0_total_23 : decode cX0_total 23 = .ok (.aload_n 0, 1) := by decide +kernel
theorem dX0_total_24 : decode cX0_total 24 = .ok (.getfield 20, 3) := by decide +kernel
theorem dX0_total_27 : decode cX0_total 27 = .ok (.iload_n 2, 1) := by decide +kernel
theorem dX0_total_28 : decode cX0_total 28 = .ok (.aaload, 1) := by decide +kernel
theorem dX0_total_29 : decode cX0_total 29 = .ok (.iload_n 3, 1) := by decide +kernel
theorem dX0_total_30 : decode cX0_total 30 = .ok (.iaload, 1) := by decide +kernel
theorem dX0_total_31 : decode cX0_total 31 = .ok (.iadd, 1) := by decide +kernel
theorem dX0_total_32 : decode cX0_total 32 = .ok (.istore_n 1, 1) := by decide +kernel
theorem dX0_total_33 : decode cX0_total 33 = .ok (.iinc 3 1, 3) := by decide +kernel
theorem dX0_total_36 : decode cX0_total 36 = .ok (.goto (-22), 3) := by decide +kernel
theorem dX0_total_39 : decode cX0_total 39 = .ok (.iinc 2 1, 3) := by decide +kernel
theorem dX0_total_42 : decode cX0_total 42 = .ok (.goto (-38), 3) := by decide +kernel
theorem dX0_total_45 : decode cX0_total 45 = .ok (.iload_n 1, 1) := by decide +kernel
theorem dX0_total_46 : decode cX0_total 46 = .ok (.ireturn, 1) := by decide +kernel
theorem dX0_transpose_0 : decode cX0_transpose 0 = .ok (.iconst 0, 1) := by decide +kernel
theorem dX0_transpose_1 : decode cX0_transpose 1 = .ok (.istore_n 1, 1) := by decide +kernel
theorem dX0_transpose_2 : decode cX0_transpose 2 = .ok (.iload_n 1, 1) := by decide +kernel
theorem dX0_transpose_3 : decode cX0_transpose 3 = .ok (.bipush 6, 2) := by decide +kernel
theorem dX0_transpose_5 : decode cX0_transpose 5 = .ok (.if_icmp .ge 56, 3) := by decide +kernel
theorem dX0_transpose_8 : decode cX0_transpose 8 = .ok (.iconst 0, 1) := by decide +kernel
theorem dX0_transpose_9 : decode cX0_transpose 9 = .ok (.istore_n 2, 1) := by decide +kernel
theorem dX0_transpose_10 : decode cX0_transpose 10 = .ok (.iload_n 2, 1) := by decide +kernel
theorem dX0_transpose_11 : decode cX0_transpose 11 = .ok (.iload_n 1, 1) := by decide +kernel
theorem dX0_transpose_12 : decode cX0_transpose 12 = .ok (.if_icmp .ge 43, 3) := by decide +kernel
theorem dX0_transpose_15 : decode cX0_transpose 15 = .ok (.aload_n 0, 1) := by decide +kernel
theorem dX0_transpose_16 : decode cX0_transpose 16 = .ok (.getfield 20, 3) := by decide +kernel
theorem dX0_transpose_19 : decode cX0_transpose 19 = .ok (.iload_n 1, 1) := by decide +kernel
theorem dX0_transpose_20 : decode cX0_transpose 20 = .ok (.aaload, 1) := by decide +kernel
theorem dX0_transpose_21 : decode cX0_transpose 21 = .ok (.iload_n 2, 1) := by decide +kernel
theorem dX0_transpose_22 : decode cX0_transpose 22 = .ok (.iaload, 1) := by decide +kernel
theorem dX0_transpose_23 : decode cX0_transpose 23 = .ok (.istore_n 3, 1) := by decide +kernel
theorem dX0_transpose_24 : decode cX0_transpose 24 = .ok (.aload_n 0, 1) := by decide +kernel
theorem dX0_transpose_25 : decode cX0_transpose 25 = .ok (.getfield 20, 3) := by decide +kernel
theorem dX0_transpose_28 : decode cX0_transpose 28 = .ok (.iload_n 1, 1) := by decide +kernel
theorem dX0_transpose_29 : decode cX0_transpose 29 = .ok (.aaload, 1) := by decide +kernel
theorem dX0_transpose_30 : decode cX0_transpose 30 = .ok (.iload_n 2, 1) := by decide +kernel
theorem dX0_transpose_31 : decode cX0_transpose 31 = .ok (.aload_n 0, 1) := by decide +kernel
theorem dX0_transpose_32 : decode cX0_transpose 32 = .ok (.getfield 20, 3) := by decide +kernel
theorem dX0_transpose_35 : decode cX0_transpose 35 = .ok (.iload_n 2, 1) := by decide +kernel
theorem dX0_transpose_36 : decode cX0_transpose 36 = .ok (.aaload, 1) := by decide +kernel
theorem dX0_transpose_37 : decode cX0_transpose 37 = .ok (.iload_n 1, 1) := by decide +kernel
theorem dX0_transpose_38 : decode cX0_transpose 38 = .ok (.iaload, 1) := by decide +kernel
theorem dX0_transpose_39 : decode cX0_transpose 39 = .ok (.iastore, 1) := by decide +kernel
theorem dX0_transpose_40 : decode cX0_transpose 40 = .ok (.aload_n 0, 1) := by decide +kernel
theorem dX0_transpose_41 : decode cX0_transpose 41 = .ok (.getfield 20, 3) := by decide +kernel
theorem dX0_transpose_44 : decode cX0_transpose 44 = .ok (.iload_n 2, 1) := by decide +kernel
theorem dX0_transpose_45 : decode cX0_transpose 45 = .ok (.aaload, 1) := by decide +kernel
theorem dX0_transpose_46 : decode cX0_transpose 46 = .ok (.iload_n 1, 1) := by decide +kernel
theorem dX0_transpose_47 : decode cX0_transpose 47 = .ok (.iload_n 3, 1) := by decide +kernel
theorem dX0_transpose_48 : decode cX0_transpose 48 = .ok (.iastore, 1) := by decide +kernel
theorem dX0_transpose_49 : decode cX0_transpose 49 = .ok (.iinc 2 1, 3) := by decide +kernel
theorem dX0_transpose_52 : decode cX0_transpose 52 = .ok (.goto (-42), 3) := by decide +kernel
theorem dX0_transpose_55 : decode cX0_transpose 55 = .ok (.iinc 1 1, 3) := by decide +kernel
theorem dX0_transpose_58 : decode cX0_transpose 58 = .ok (.goto (-56), 3) := by decide +kernel
theorem dX0_transpose_61 : decode cX0_transpose 61 = .ok (.aload_n 0, 1) := by decide +kernel
theorem dX0_transpose_62 : decode cX0_transpose 62 = .ok (.getfield 11, 3) := by decide +kernel
theorem dX0_transpose_65 : decode cX0_transpose 65 = .ok (.istore_n 1, 1) := by decide +kernel
theorem dX0_transpose_66 : decode cX0_transpose 66 = .ok (.aload_n 0, 1) := by decide +kernel
theorem dX0_transpose_67 : decode cX0_transpose 67 = .ok (.aload_n 0, 1) := by decide +kernel
theorem dX0_transpose_68 : decode cX0_transpose 68 = .ok (.getfield 15, 3) := by decide +kernel
theorem dX0_transpose_71 : decode cX0_transpose 71 = .ok (.putfield 11, 3) := by decide +kernel
theorem dX0_transpose_74 : decode cX0_transpose 74 = .ok (.aload_n 0, 1) := by decide +kernel
theorem dX0_transpose_75 : decode cX0_transpose 75 = .ok (.iload_n 1, 1) := by decide +kernel
theorem dX0_transpose_76 : decode cX0_transpose 76 = .ok (.putfield 15, 3) := by decide +kernel
theorem dX0_transpose_79 : decode cX0_transpose 79 = .ok (.return_, 1) := by decide +kernel
theorem dX0_heaviest_0 : decode cX0_heaviest 0 = .ok (.iload_n 1, 1) := by decide +kernel
theorem dX0_heaviest_1 : decode cX0_heaviest 1 = .ok (.istore 5, 2) := by decide +kernel
theorem dX0_heaviest_3 : decode cX0_heaviest 3 = .ok (.iload 5, 2) := by decide +kernel
theorem dX0_heaviest_5 : decode cX0_heaviest 5 = .ok (.iload_n 3, 1) := by decide +kernel
theorem dX0_heaviest_6 : decode cX0_heaviest 6 = .ok (.if_icmp .gt 101, 3) := by decide +kernel
theorem dX0_heaviest_9 : decode cX0_heaviest 9 = .ok (.iload_n 2, 1) := by decide +kernel
theorem dX0_heaviest_10 : decode cX0_heaviest 10 = .ok (.istore 6, 2) := by decide +kernel
theorem dX0_heaviest_12 : decode cX0_heaviest 12 = .ok (.iload 6, 2) := by decide +kernel
theorem dX0_heaviest_14 : decode cX0_heaviest 14 = .ok (.iload 4, 2) := by decide +kernel
theorem dX0_heaviest_16 : decode cX0_heaviest 16 = .ok (.if_icmp .gt 85, 3) := by decide +kernel
theorem dX0_heaviest_19 : decode cX0_heaviest 19 = .ok (.iload 5, 2) := by decide +kernel
theorem dX0_heaviest_21 : decode cX0_heaviest 21 = .ok (.iload_n 1, 1) := by decide +kernel
theorem dX0_heaviest_22 : decode cX0_heaviest 22 = .ok (.if_icmp .le 18, 3) := by decide +kernel
theorem dX0_heaviest_25 : decode cX0_heaviest 25 = .ok (.aload_n 0, 1) := by decide +kernel
theorem dX0_heaviest_26 : decode cX0_heaviest 26 = .ok (.getfield 23, 3) := by decide +kernel
theorem dX0_heaviest_29 : decode cX0_heaviest 29 = .ok (.iload 5, 2) := by decide +kernel
theorem dX0_heaviest_31 : decode cX0_heaviest 31 = .ok (.iconst 1, 1) := by decide +kernel
theorem dX0_heaviest_32 : decode cX0_heaviest 32 = .ok (.isub, 1) := by decide +kernel
theorem dX0_heaviest_33 : decode cX0_heaviest 33 = .ok (.aaload, 1) := by decide +kernel
theorem dX0_heaviest_34 : decode cX0_heaviest 34 = .ok (.iload 6, 2) := by decide +kernel
theorem dX0_heaviest_36 : decode cX0_heaviest 36 = .ok (.iaload, 1) := by decide +kernel
theorem dX0_heaviest_37 : decode cX0_heaviest 37 = .ok (.goto 4, 3) := by decide +kernel
theorem dX0_heaviest_40 : decode cX0_heaviest 40 = .ok (.iconst 0, 1) := by decide +kernel
theorem dX0_heaviest_41 : decode cX0_heaviest 41 = .ok (.istore 7, 2) := by decide +kernel
theorem dX0_heaviest_43 : decode cX0_heaviest 43 = .ok (.iload 6, 2) := by decide +kernel
theorem dX0_heaviest_45 : decode cX0_heaviest 45 = .ok (.iload_n 2, 1) := by decide +kernel
theorem dX0_heaviest_46 : decode cX0_heaviest 46 = .ok (.if_icmp .le 18, 3) := by decide +kernel
theorem dX0_heaviest_49 : decode cX0_heaviest 49 = .ok (.aload_n 0, 1) := by decide +kernel
theorem dX0_heaviest_50 : decode cX0_heaviest 50 = .ok (.getfield 23, 3) := by decide +kernel
theorem dX0_heaviest_53 : decode cX0_heaviest 53 = .ok (.iload 5, 2) := by decide +kernel
theorem dX0_heaviest_55 : decode cX0_heaviest 55 = .ok (.aaload, 1) := by decide +kernel
theorem dX0_heaviest_56 : decode cX0_heaviest 56 = .ok (.iload 6, 2) := by decide +kernel
theorem dX0_heaviest_58 : decode cX0_heaviest 58 = .ok (.iconst 1, 1) := by decide +kernel
theorem dX0_heaviest_59 : decode cX0_heaviest 59 = .ok (.isub, 1) := by decide +kernel
theorem dX0_heaviest_60 : decode cX0_heaviest 60 = .ok (.iaload, 1) := by decide +kernel
theorem dX0_heaviest_61 : decode cX0_heaviest 61 = .ok (.goto 4, 3) := by decide +kernel
theorem dX0_heaviest_64 : decode cX0_heaviest 64 = .ok (.iconst 0, 1) := by decide +kernel
theorem dX0_heaviest_65 : decode cX0_heaviest 65 = .ok (.istore 8, 2) := by decide +kernel
theorem dX0_heaviest_67 : decode cX0_heaviest 67 = .ok (.aload_n 0, 1) := by decide +kernel
theorem dX0_heaviest_68 : decode cX0_heaviest 68 = .ok (.getfield 23, 3) := by decide +kernel
theorem dX0_heaviest_71 : decode cX0_heaviest 71 = .ok (.iload 5, 2) := by decide +kernel
theorem dX0_heaviest_73 : decode cX0_heaviest 73 = .ok (.aaload, 1) := by decide +kernel
theorem dX0_heaviest_74 : decode cX0_heaviest 74 = .ok (.iload 6, 2) := by decide +kernel
theorem dX0_heaviest_76 : decode cX0_heaviest 76 = .ok (.aload_n 0, 1) := by decide +kernel
theorem dX0_heaviest_77 : decode cX0_heaviest 77 = .ok (.getfield 20, 3) := by decide +kernel
theorem dX0_heaviest_80 : decode cX0_heaviest 80 = .ok (.iload 5, 2) := by decide +kernel
theorem dX0_heaviest_82 : decode cX0_heaviest 82 = .ok (.aaload, 1) := by decide +kernel
theorem dX0_heaviest_83 : decode cX0_heaviest 83 = .ok (.iload 6, 2) := by decide +kernel
theorem dX0_heaviest_85 : decode cX0_heaviest 85 = .ok (.iaload, 1) := by decide +kernel
theorem dX0_heaviest_86 : decode cX0_heaviest 86 = .ok (.iload 7, 2) := by decide +kernel
theorem dX0_heaviest_88 : decode cX0_heaviest 88 = .ok (.iload 8, 2) := by decide +kernel
theorem dX0_heaviest_90 : decode cX0_heaviest 90 = .ok (.invokestatic 50, 3) := by decide +kernel
theorem dX0_heaviest_93 : decode cX0_heaviest 93 = .ok (.iadd, 1) := by decide +kernel
theorem dX0_heaviest_94 : decode cX0_heaviest 94 = .ok (.iastore, 1) := by decide +kernel
theorem dX0_heaviest_95 : decode cX0_heaviest 95 = .ok (.iinc 6 1, 3) := by decide +kernel
theorem dX0_heaviest_98 : decode cX0_heaviest 98 = .ok (.goto (-86), 3) := by decide +kernel
theorem dX0_heaviest_101 : decode cX0_heaviest 101 = .ok (.iinc 5 1, 3) := by decide +kernel
theorem dX0_heaviest_104 : decode cX0_heaviest 104 = .ok (.goto (-101), 3) := by decide +kernel
theorem dX0_heaviest_107 : decode cX0_heaviest 107 = .ok (.aload_n 0, 1) := by decide +kernel
theorem dX0_heaviest_108 : decode cX0_heaviest 108 = .ok (.getfield 23, 3) := by decide +kernel
theorem dX0_heaviest_111 : decode cX0_heaviest 111 = .ok (.iload_n 3, 1) := by decide +kernel
theorem dX0_heaviest_112 : decode cX0_heaviest 112 = .ok (.aaload, 1) := by decide +kernel
theorem dX0_heaviest_113 : decode cX0_heaviest 113 = .ok (.iload 4, 2) := by decide +kernel
theorem dX0_heaviest_115 : decode cX0_heaviest 115 = .ok (.iaload, 1) := by decide +kernel
theorem dX0_heaviest_116 : decode cX0_heaviest 116 = .ok (.ireturn, 1) := by decide +kernel
set_option maxRecDepth 20000 in
theorem ggX0_growShapes_X0_growCorner : GoodIn wsX0_growShapes wsX0_growCorner := goodIn_r _ [7, 8, 9, 10, 11, 12, 13, 14, 15, 16, 17, 18, 6, 19, 20, 21, 22, 23, 24, 25] (by decide +kernel) (by decide +kernel)
set_option maxRecDepth 20000 in
theorem gX0_growShapes_X0_growCorner : GoodIn wsX0_growShapes (wsV RX0 56 RX0 yX0_growCorner wsX0_growCorner) := goodIn_app (goodIn_of _ (by decide +kernel)) ggX0_growShapes_X0_growCorner
theorem dX0_growShapes_0 : decode cX0_growShapes 0 = .ok (.iconst 1, 1) := by decide +kernel
theorem dX0_growShapes_1 : decode cX0_growShapes 1 = .ok (.istore_n 1, 1) := by decide +kernel
theorem dX0_growShapes_2 : decode cX0_growShapes 2 = .ok (.iload_n 1, 1) := by decide +kernel
theorem dX0_growShapes_3 : decode cX0_growShapes 3 = .ok (.aload_n 0, 1) := by decide +kernel
theorem dX0_growShapes_4 : decode cX0_growShapes 4 = .ok (.getfield 11, 3) := by decide +kernel
theorem dX0_growShapes_7 : decode cX0_growShapes 7 = .ok (.if_icmp .gt 31, 3) := by decide +kernel
theorem dX0_growShapes_10 : decode cX0_growShapes 10 = .ok (.iconst 1, 1) := by decide +kernel
theorem dX0_growShapes_11 : decode cX0_growShapes 11 = .ok (.istore_n 2, 1) := by decide +kernel
theorem dX0_growShapes_12 : decode cX0_growShapes 12 = .ok (.iload_n 2, 1) := by decide +kernel
theorem dX0_growShapes_13 : decode cX0_growShapes 13 = .ok (.aload_n 0, 1) := by decide +kernel
theorem dX0_growShapes_14 : decode cX0_growShapes 14 = .ok (.getfield 15, 3) := by decide +kernel
theorem dX0_growShapes_17 : decode cX0_growShapes 17 = .ok (.if_icmp .gt 15, 3) := by decide +kernel
theorem dX0_growShapes_20 : decode cX0_growShapes 20 = .ok (.aload_n 0, 1) := by decide +kernel
theorem dX0_growShapes_21 : decode cX0_growShapes 21 = .ok (.iload_n 1, 1) := by decide +kernel
theorem dX0_growShapes_22 : decode cX0_growShapes 22 = .ok (.iload_n 2, 1) := by decide +kernel
theorem dX0_growShapes_23 : decode cX0_growShapes 23 = .ok (.invokevirtual 56, 3) := by decide +kernel
theorem dX0_growShapes_26 : decode cX0_growShapes 26 = .ok (.iinc 2 1, 3) := by decide +kernel
theorem dX0_growShapes_29 : decode cX0_growShapes 29 = .ok (.goto (-17), 3) := by decide +kernel
theorem dX0_growShapes_32 : decode cX0_growShapes 32 = .ok (.iinc 1 1, 3) := by decide +kernel
theorem dX0_growShapes_35 : decode cX0_growShapes 35 = .ok (.goto (-33), 3) := by decide +kernel
theorem dX0_growShapes_38 : decode cX0_growShapes 38 = .ok (.return_, 1) := by decide +kernel
set_option maxRecDepth 20000 in
theorem ggX0_growCorner_X0_cornerNumber : GoodIn wsX0_growCorner wsX0_cornerNumber := goodIn_r _ [13] (by decide +kernel) (by decide +kernel)
set_option maxRecDepth 20000 in
theorem gX0_growCorner_X0_cornerNumber : GoodIn wsX0_growCorner (va_wsS RX0 60 yX0_cornerNumber wsX0_cornerNumber) := goodIn_app (goodIn_of _ (by decide +kernel)) ggX0_growCorner_X0_cornerNumber
theorem dX0_growCorner_0 : decode cX0_growCorner 0 = .ok (.aload_n 0, 1) := by decide +kernel
theorem dX0_growCorner_1 : decode cX0_growCorner 1 = .ok (.getfield 31, 3) := by decide +kernel
theorem dX0_growCorner_4 : decode cX0_growCorner 4 = .ok (.iload_n 1, 1) := by decide +kernel
theorem dX0_growCorner_5 : decode cX0_growCorner 5 = .ok (.iconst 1, 1) := by decide +kernel
theorem dX0_growCorner_6 : decode cX0_growCorner 6 = .ok (.isub, 1) := by decide +kernel
theorem dX0_growCorner_7 : decode cX0_growCorner 7 = .ok (.iload_n 2, 1) := by decide +kernel
theorem dX0_growCorner_8 : decode cX0_growCorner 8 = .ok (.iconst 1, 1) := by decide +kernel
theorem dX0_growCorner_9 : decode cX0_growCorner 9 = .ok (.isub, 1) := by decide +kernel
theorem dX0_growCorner_10 : decode cX0_growCorner 10 = .ok (.invokestatic 60, 3) := by decide +kernel
theorem dX0_growCorner_13 : decode cX0_growCorner 13 = .ok (.aaload, 1) := by decide +kernel
theorem dX0_growCorner_14 : decode cX0_growCorner 14 = .ok (.astore_n 3, 1) := by decide +kernel
theorem dX0_growCorner_15 : decode cX0_growCorner 15 = .ok (.aload_n 0, 1) := by decide +kernel
theorem dX0_growCorner_16 : decode cX0_growCorner 16 = .ok (.getfield 31, 3) := by decide +kernel
theorem dX0_growCorner_19 : decode cX0_growCorner 19 = .ok (.iload_n 1, 1) := by decide +kernel
theorem dX0_growCorner_20 : decode cX0_growCorner 20 = .ok (.iconst 1, 1) := by decide +kernel
theorem dX0_growCorner_21 : decode cX0_growCorner 21 = .ok (.isub, 1) := by decide +kernel
theorem dX0_growCorner_22 : decode cX0_growCorner 22 = .ok (.iload_n 2, 1) := by decide +kernel
theorem dX0_growCorner_23 : decode cX0_growCorner 23 = .ok (.invokestatic 60, 3) := by decide +kernel
theorem dX0_growCorner_26 : decode cX0_growCorner 26 = .ok (.aaload, 1) := by decide +kernel
theorem dX0_growCorner_27 : decode cX0_growCorner 27 = .ok (.astore 4, 2) := by decide +kernel
theorem dX0_growCorner_29 : decode cX0_growCorner 29 = .ok (.aload_n 0, 1) := by decide +kernel
theorem dX0_growCorner_30 : decode cX0_growCorner 30 = .ok (.getfield 31, 3) := by decide +kernel
theorem dX0_growCorner_33 : decode cX0_growCorner 33 = .ok (.iload_n 1, 1) := by decide +kernel
theorem dX0_growCorner_34 : decode cX0_growCorner 34 = .ok (.iload_n 2, 1) := by decide +kernel
theorem dX0_growCorner_35 : decode cX0_growCorner 35 = .ok (.iconst 1, 1) := by decide +kernel
theorem dX0_growCorner_36 : decode cX0_growCorner 36 = .ok (.isub, 1) := by decide +kernel
theorem dX0_growCorner_37 : decode cX0_growCorner 37 = .ok (.invokestatic 60, 3) := by decide +kernel
theorem dX0_growCorner_40 : decode cX0_growCorner 40 = .ok (.aaload, 1) := by decide +kernel
theorem dX0_growCorner_41 : decode cX0_growCorner 41 = .ok (.astore 5, 2) := by decide +kernel
theorem dX0_growCorner_43 : decode cX0_growCorner 43 = .ok (.aload_n 0, 1) := by decide +kernel
theorem dX0_growCorner_44 : decode cX0_growCorner 44 = .ok (.getfield 31, 3) := by decide +kernel
theorem dX0_growCorner_47 : decode cX0_growCorner 47 = .ok (.iload_n 1, 1) := by decide +kernel
theorem dX0_growCorner_48 : decode cX0_growCorner 48 = .ok (.iload_n 2, 1) := by decide +kernel
theorem dX0_growCorner_49 : decode cX0_growCorner 49 = .ok (.invokestatic 60, 3) := by decide +kernel
theorem dX0_growCorner_52 : decode cX0_growCorner 52 = .ok (.aaload, 1) := by decide +kernel
theorem dX0_growCorner_53 : decode cX0_growCorner 53 = .ok (.astore 6, 2) := by decide +kernel
theorem dX0_growCorner_55 : decode cX0_growCorner 55 = .ok (.aload 6, 2) := by decide +kernel
theorem dX0_growCorner_57 : decode cX0_growCorner 57 = .ok (.iconst 0, 1) := by decide +kernel
theorem dX0_growCorner_58 : decode cX0_growCorner 58 = .ok (.aload 4, 2) := by decide +kernel
theorem dX0_growCorner_60 : decode cX0_growCorner 60 = .ok (.iconst 0, 1) := by decide +kernel
theorem dX0_growCorner_61 : decode cX0_growCorner 61 = .ok (.iaload, 1) := by decide +kernel
theorem dX0_growCorner_62 : decode cX0_growCorner 62 = .ok (.aload 5, 2) := by decide +kernel
theorem dX0_growCorner_64 : decode cX0_growCorner 64 = .ok (.iconst 0, 1) := by decide +kernel
theorem dX0_growCorner_65 : decode cX0_growCorner 65 = .ok (.iaload, 1) := by decide +kernel
theorem dX0_growCorner_66 : decode cX0_growCorner 66 = .ok (.invokestatic 50, 3) := by decide +kernel
theorem dX0_growCorner_69 : decode cX0_growCorner 69 = .ok (.aload_n 0, 1) := by decide +kernel
theorem dX0_growCorner_70 : decode cX0_growCorner 70 = .ok (.getfield 20, 3) := by decide +kernel
theorem dX0_growCorner_73 : decode cX0_growCorner 73 = .ok (.iload_n 1, 1) := by decide +kernel
theorem dX0_growCorner_74 : decode cX0_growCorner 74 = .ok (.iconst 1, 1) := by decide +kernel
theorem dX0_growCorner_75 : decode cX0_growCorner 75 = .ok (.isub, 1) := by decide +kernel
theorem dX0_growCorner_76 : decode cX0_growCorner 76 = .ok (.aaload, 1) := by decide +kernel
theorem dX0_growCorner_77 : decode cX0_growCorner 77 = .ok (.iload_n 2, 1) := by decide +kernel
theorem dX0_growCorner_78 : decode cX0_growCorner 78 = .ok (.iconst 1, 1) := by decide +kernel
theorem dX0_growCorner_79 : decode cX0_growCorner 79 = .ok (.isub, 1) := by decide +kernel
theorem dX0_growCorner_80 : decode cX0_growCorner 80 = .ok (.iaload, 1) := by decide +kernel
theorem dX0_growCorner_81 : decode cX0_growCorner 81 = .ok (.iadd, 1) := by decide +kernel
theorem dX0_growCorner_82 : decode cX0_growCorner 82 = .ok (.iastore, 1) := by decide +kernel
theorem dX0_growCorner_83 : decode cX0_growCorner 83 = .ok (.iconst 1, 1) := by decide +kernel
theorem dX0_growCorner_84 : decode cX0_growCorner 84 = .ok (.istore 7, 2) := by decide +kernel
theorem dX0_growCorner_86 : decode cX0_growCorner 86 = .ok (.iload 7, 2) := by decide +kernel
theorem dX0_growCorner_88 : decode cX0_growCorner 88 = .ok (.bipush 6, 2) := by decide +kernel
theorem dX0_growCorner_90 : decode cX0_growCorner 90 = .ok (.if_icmp .ge 52, 3) := by decide +kernel
theorem dX0_growCorner_93 : decode cX0_growCorner 93 = .ok (.aload 6, 2) := by decide +kernel
theorem dX0_growCorner_95 : decode cX0_growCorner 95 = .ok (.iload 7, 2) := by decide +kernel
theorem dX0_growCorner_97 : decode cX0_growCorner 97 = .ok (.aload 4, 2) := by decide +kernel
theorem dX0_growCorner_99 : decode cX0_growCorner 99 = .ok (.iload 7, 2) := by decide +kernel
theorem dX0_growCorner_101 : decode cX0_growCorner 101 = .ok (.iaload, 1) := by decide +kernel
theorem dX0_growCorner_102 : decode cX0_growCorner 102 = .ok (.aload 5, 2) := by decide +kernel
theorem dX0_growCorner_104 : decode cX0_growCorner 104 = .ok (.iload 7, 2) := by decide +kernel
theorem dX0_growCorner_106 : decode cX0_growCorner 106 = .ok (.iaload, 1) := by decide +kernel
theorem dX0_growCorner_107 : decode cX0_growCorner 107 = .ok (.invokestatic 50, 3) := by decide +kernel
theorem dX0_growCorner_110 : decode cX0_growCorner 110 = .ok (.aload 4, 2) := by decide +kernel
theorem dX0_growCorner_112 : decode cX0_growCorner 112 = .ok (.iload 7, 2) := by decide +kernel
theorem dX0_growCorner_114 : decode cX0_growCorner 114 = .ok (.iconst 1, 1) := by decide +kernel
theorem dX0_growCorner_115 : decode cX0_growCorner 115 = .ok (.isub, 1) := by decide +kernel
theorem dX0_growCorner_116 : decode cX0_growCorner 116 = .ok (.iaload, 1) := by decide +kernel
theorem dX0_growCorner_117 : decode cX0_growCorner 117 = .ok (.aload 5, 2) := by decide +kernel
theorem dX0_growCorner_119 : decode cX0_growCorner 119 = .ok (.iload 7, 2) := by decide +kernel
theorem dX0_growCorner_121 : decode cX0_growCorner 121 = .ok (.iconst 1, 1) := by decide +kernel
theorem dX0_growCorner_122 : decode cX0_growCorner 122 = .ok (.isub, 1) := by decide +kernel
theorem dX0_growCorner_123 : decode cX0_growCorner 123 = .ok (.iaload, 1) := by decide +kernel
theorem dX0_growCorner_124 : decode cX0_growCorner 124 = .ok (.invokestatic 63, 3) := by decide +kernel
theorem dX0_growCorner_127 : decode cX0_growCorner 127 = .ok (.iadd, 1) := by decide +kernel
theorem dX0_growCorner_128 : decode cX0_growCorner 128 = .ok (.aload_n 3, 1) := by decide +kernel
theorem dX0_growCorner_129 : decode cX0_growCorner 129 = .ok (.iload 7, 2) := by decide +kernel
theorem dX0_growCorner_131 : decode cX0_growCorner 131 = .ok (.iconst 1, 1) := by decide +kernel
theorem dX0_growCorner_132 : decode cX0_growCorner 132 = .ok (.isub, 1) := by decide +kernel
theorem dX0_growCorner_133 : decode cX0_growCorner 133 = .ok (.iaload, 1) := by decide +kernel
theorem dX0_growCorner_134 : decode cX0_growCorner 134 = .ok (.isub, 1) := by decide +kernel
theorem dX0_growCorner_135 : decode cX0_growCorner 135 = .ok (.iastore, 1) := by decide +kernel
theorem dX0_growCorner_136 : decode cX0_growCorner 136 = .ok (.iinc 7 1, 3) := by decide +kernel
theorem dX0_growCorner_139 : decode cX0_growCorner 139 = .ok (.goto (-53), 3) := by decide +kernel
theorem dX0_growCorner_142 : decode cX0_growCorner 142 = .ok (.return_, 1) := by decide +kernel
theorem dX0_cornerNumber_0 : decode cX0_cornerNumber 0 = .ok (.iload_n 0, 1) := by decide +kernel
theorem dX0_cornerNumber_1 : decode cX0_cornerNumber 1 = .ok (.bipush 7, 2) := by decide +kernel
theorem dX0_cornerNumber_3 : decode cX0_cornerNumber 3 = .ok (.imul, 1) := by decide +kernel
theorem dX0_cornerNumber_4 : decode cX0_cornerNumber 4 = .ok (.iload_n 1, 1) := by decide +kernel
theorem dX0_cornerNumber_5 : decode cX0_cornerNumber 5 = .ok (.iadd, 1) := by decide +kernel
theorem dX0_cornerNumber_6 : decode cX0_cornerNumber 6 = .ok (.ireturn, 1) := by decide +kernel
set_option maxRecDepth 20000 in
theorem ggX0_partAt_X0_cornerNumber : GoodIn wsX0_partAt wsX0_cornerNumber := goodIn_r _ [5] (by decide +kernel) (by decide +kernel)
set_option maxRecDepth 20000 in
theorem gX0_partAt_X0_cornerNumber : GoodIn wsX0_partAt (va_wsS RX0 60 yX0_cornerNumber wsX0_cornerNumber) := goodIn_app (goodIn_of _ (by decide +kernel)) ggX0_partAt_X0_cornerNumber
theorem dX0_partAt_0 : decode cX0_partAt 0 = .ok (.aload_n 0, 1) := by decide +kernel
theorem dX0_partAt_1 : decode cX0_partAt 1 = .ok (.getfield 31, 3) := by decide +kernel
theorem dX0_partAt_4 : decode cX0_partAt 4 = .ok (.iload_n 1, 1) := by decide +kernel
theorem dX0_partAt_5 : decode cX0_partAt 5 = .ok (.iload_n 2, 1) := by decide +kernel
theorem dX0_partAt_6 : decode cX0_partAt 6 = .ok (.invokestatic 60, 3) := by decide +kernel
theorem dX0_partAt_9 : decode cX0_partAt 9 = .ok (.aaload, 1) := by decide +kernel
theorem dX0_partAt_10 : decode cX0_partAt 10 = .ok (.iload_n 3, 1) := by decide +kernel
theorem dX0_partAt_11 : decode cX0_partAt 11 = .ok (.iaload, 1) := by decide +kernel
theorem dX0_partAt_12 : decode cX0_partAt 12 = .ok (.ireturn, 1) := by decide +kernel
set_option maxRecDepth 20000 in
theorem ggX0_firstPartsAtEnd_X0_partAt : GoodIn wsX0_firstPartsAtEnd wsX0_partAt := goodIn_r _ [7, 8, 9, 10, 6, 11, 12, 13, 14, 15, 16, 17] (by decide +kernel) (by decide +kernel)
set_option maxRecDepth 20000 in
theorem gX0_firstPartsAtEnd_X0_partAt : GoodIn wsX0_firstPartsAtEnd (wsV RX0 66 RX0 yX0_partAt wsX0_partAt) := goodIn_app (goodIn_of _ (by decide +kernel)) ggX0_firstPartsAtEnd_X0_partAt
theorem dX0_firstPartsAtEnd_0 : decode cX0_firstPartsAtEnd 0 = .ok (.iconst 0, 1) := by decide +kernel
theorem dX0_firstPartsAtEnd_1 : decode cX0_firstPartsAtEnd 1 = .ok (.istore_n 2, 1) := by decide +kernel
theorem dX0_firstPartsAtEnd_2 : decode cX0_firstPartsAtEnd 2 = .ok (.iconst 0, 1) := by decide +kernel
theorem dX0_firstPartsAtEnd_3 : decode cX0_firstPartsAtEnd 3 = .ok (.istore_n 3, 1) := by decide +kernel
theorem dX0_firstPartsAtEnd_4 : decode cX0_firstPartsAtEnd 4 = .ok (.iload_n 3, 1) := by decide +kernel
theorem dX0_firstPartsAtEnd_5 : decode cX0_firstPartsAtEnd 5 = .ok (.iload_n 1, 1) := by decide +kernel
theorem dX0_firstPartsAtEnd_6 : decode cX0_firstPartsAtEnd 6 = .ok (.if_icmp .ge 25, 3) := by decide +kernel
theorem dX0_firstPartsAtEnd_9 : decode cX0_firstPartsAtEnd 9 = .ok (.iload_n 2, 1) := by decide +kernel
theorem dX0_firstPartsAtEnd_10 : decode cX0_firstPartsAtEnd 10 = .ok (.aload_n 0, 1) := by decide +kernel
theorem dX0_firstPartsAtEnd_11 : decode cX0_firstPartsAtEnd 11 = .ok (.aload_n 0, 1) := by decide +kernel
theorem dX0_firstPartsAtEnd_12 : decode cX0_firstPartsAtEnd 12 = .ok (.getfield 11, 3) := by decide +kernel
theorem dX0_firstPartsAtEnd_15 : decode cX0_firstPartsAtEnd 15 = .ok (.aload_n 0, 1) := by decide +kernel
theorem dX0_firstPartsAtEnd_16 : decode cX0_firstPartsAtEnd 16 = .ok (.getfield 15, 3) := by decide +kernel
theorem dX0_firstPartsAtEnd_19 : decode cX0_firstPartsAtEnd 19 = .ok (.iload_n 3, 1) := by decide +kernel
theorem dX0_firstPartsAtEnd_20 : decode cX0_firstPartsAtEnd 20 = .ok (.invokevirtual 66, 3) := by decide +kernel
theorem dX0_firstPartsAtEnd_23 : decode cX0_firstPartsAtEnd 23 = .ok (.iadd, 1) := by decide +kernel
theorem dX0_firstPartsAtEnd_24 : decode cX0_firstPartsAtEnd 24 = .ok (.istore_n 2, 1) := by decide +kernel
theorem dX0_firstPartsAtEnd_25 : decode cX0_firstPartsAtEnd 25 = .ok (.iinc 3 1, 3) := by decide +kernel
theorem dX0_firstPartsAtEnd_28 : decode cX0_firstPartsAtEnd 28 = .ok (.goto (-24), 3) := by decide +kernel
theorem dX0_firstPartsAtEnd_31 : decode cX0_firstPartsAtEnd 31 = .ok (.iload_n 2, 1) := by decide +kernel
theorem dX0_firstPartsAtEnd_32 : decode cX0_firstPartsAtEnd 32 = .ok (.ireturn, 1) := by decide +kernel
set_option maxRecDepth 20000 in
theorem ggX0_productSum_X0_productsBefore : GoodIn wsX0_productSum wsX0_productsBefore := goodIn_r _ [7, 1, 8, 9, 10, 11, 12, 13] (by decide +kernel) (by decide +kernel)
set_option maxRecDepth 20000 in
theorem gX0_productSum_X0_productsBefore : GoodIn wsX0_productSum (wsV RX0 70 RX0 yX0_productsBefore wsX0_productsBefore) := goodIn_app (goodIn_of _ (by decide +kernel)) ggX0_productSum_X0_productsBefore
theorem dX0_productSum_0 : decode cX0_productSum 0 = .ok (.iconst 0, 1) := by decide +kernel
theorem dX0_productSum_1 : decode cX0_productSum 1 = .ok (.istore_n 3, 1) := by decide +kernel
theorem dX0_productSum_2 : decode cX0_productSum 2 = .ok (.iload_n 3, 1) := by decide +kernel
theorem dX0_productSum_3 : decode cX0_productSum 3 = .ok (.iload_n 1, 1) := by decide +kernel
theorem dX0_productSum_4 : decode cX0_productSum 4 = .ok (.if_icmp .gt 51, 3) := by decide +kernel
theorem dX0_productSum_7 : decode cX0_productSum 7 = .ok (.iconst 0, 1) := by decide +kernel
theorem dX0_productSum_8 : decode cX0_productSum 8 = .ok (.istore 4, 2) := by decide +kernel
theorem dX0_productSum_10 : decode cX0_productSum 10 = .ok (.iload 4, 2) := by decide +kernel
theorem dX0_productSum_12 : decode cX0_productSum 12 = .ok (.iload_n 2, 1) := by decide +kernel
theorem dX0_productSum_13 : decode cX0_productSum 13 = .ok (.if_icmp .gt 36, 3) := by decide +kernel
theorem dX0_productSum_16 : decode cX0_productSum 16 = .ok (.aload_n 0, 1) := by decide +kernel
theorem dX0_productSum_17 : decode cX0_productSum 17 = .ok (.getfield 28, 3) := by decide +kernel
theorem dX0_productSum_20 : decode cX0_productSum 20 = .ok (.iload_n 3, 1) := by decide +kernel
theorem dX0_productSum_21 : decode cX0_productSum 21 = .ok (.aaload, 1) := by decide +kernel
theorem dX0_productSum_22 : decode cX0_productSum 22 = .ok (.iload 4, 2) := by decide +kernel
theorem dX0_productSum_24 : decode cX0_productSum 24 = .ok (.aload_n 0, 1) := by decide +kernel
theorem dX0_productSum_25 : decode cX0_productSum 25 = .ok (.getfield 20, 3) := by decide +kernel
theorem dX0_productSum_28 : decode cX0_productSum 28 = .ok (.iload_n 3, 1) := by decide +kernel
theorem dX0_productSum_29 : decode cX0_productSum 29 = .ok (.aaload, 1) := by decide +kernel
theorem dX0_productSum_30 : decode cX0_productSum 30 = .ok (.iload 4, 2) := by decide +kernel
theorem dX0_productSum_32 : decode cX0_productSum 32 = .ok (.iaload, 1) := by decide +kernel
theorem dX0_productSum_33 : decode cX0_productSum 33 = .ok (.i2l, 1) := by decide +kernel
theorem dX0_productSum_34 : decode cX0_productSum 34 = .ok (.aload_n 0, 1) := by decide +kernel
theorem dX0_productSum_35 : decode cX0_productSum 35 = .ok (.iload_n 3, 1) := by decide +kernel
theorem dX0_productSum_36 : decode cX0_productSum 36 = .ok (.iload 4, 2) := by decide +kernel
theorem dX0_productSum_38 : decode cX0_productSum 38 = .ok (.invokevirtual 70, 3) := by decide +kernel
theorem dX0_productSum_41 : decode cX0_productSum 41 = .ok (.lmul, 1) := by decide +kernel
theorem dX0_productSum_42 : decode cX0_productSum 42 = .ok (.lastore, 1) := by decide +kernel
theorem dX0_productSum_43 : decode cX0_productSum 43 = .ok (.iinc 4 1, 3) := by decide +kernel
theorem dX0_productSum_46 : decode cX0_productSum 46 = .ok (.goto (-36), 3) := by decide +kernel
theorem dX0_productSum_49 : decode cX0_productSum 49 = .ok (.iinc 3 1, 3) := by decide +kernel
theorem dX0_productSum_52 : decode cX0_productSum 52 = .ok (.goto (-50), 3) := by decide +kernel
theorem dX0_productSum_55 : decode cX0_productSum 55 = .ok (.aload_n 0, 1) := by decide +kernel
theorem dX0_productSum_56 : decode cX0_productSum 56 = .ok (.getfield 28, 3) := by decide +kernel
theorem dX0_productSum_59 : decode cX0_productSum 59 = .ok (.iload_n 1, 1) := by decide +kernel
theorem dX0_productSum_60 : decode cX0_productSum 60 = .ok (.aaload, 1) := by decide +kernel
theorem dX0_productSum_61 : decode cX0_productSum 61 = .ok (.iload_n 2, 1) := by decide +kernel
theorem dX0_productSum_62 : decode cX0_productSum 62 = .ok (.laload, 1) := by decide +kernel
theorem dX0_productSum_63 : decode cX0_productSum 63 = .ok (.lreturn, 1) := by decide +kernel
theorem dX0_productsBefore_0 : decode cX0_productsBefore 0 = .ok (.iload_n 1, 1) := by decide +kernel
theorem dX0_productsBefore_1 : decode cX0_productsBefore 1 = .ok (.ifCond .ne 9, 3) := by decide +kernel
theorem dX0_productsBefore_4 : decode cX0_productsBefore 4 = .ok (.iload_n 2, 1) := by decide +kernel
theorem dX0_productsBefore_5 : decode cX0_productsBefore 5 = .ok (.ifCond .ne 5, 3) := by decide +kernel
theorem dX0_productsBefore_8 : decode cX0_productsBefore 8 = .ok (.lconst 1, 1) := by decide +kernel
theorem dX0_productsBefore_9 : decode cX0_productsBefore 9 = .ok (.lreturn, 1) := by decide +kernel
theorem dX0_productsBefore_10 : decode cX0_productsBefore 10 = .ok (.iload_n 1, 1) := by decide +kernel
theorem dX0_productsBefore_11 : decode cX0_productsBefore 11 = .ok (.ifCond .le 16, 3) := by decide +kernel
theorem dX0_productsBefore_14 : decode cX0_productsBefore 14 = .ok (.aload_n 0, 1) := by decide +kernel
theorem dX0_productsBefore_15 : decode cX0_productsBefore 15 = .ok (.getfield 28, 3) := by decide +kernel
theorem dX0_productsBefore_18 : decode cX0_productsBefore 18 = .ok (.iload_n 1, 1) := by decide +kernel
theorem dX0_productsBefore_19 : decode cX0_productsBefore 19 = .ok (.iconst 1, 1) := by decide +kernel
theorem dX0_productsBefore_20 : decode cX0_productsBefore 20 = .ok (.isub, 1) := by decide +kernel
theorem dX0_productsBefore_21 : decode cX0_productsBefore 21 = .ok (.aaload, 1) := by decide +kernel
theorem dX0_productsBefore_22 : decode cX0_productsBefore 22 = .ok (.iload_n 2, 1) := by decide +kernel
theorem dX0_productsBefore_23 : decode cX0_productsBefore 23 = .ok (.laload, 1) := by decide +kernel
theorem dX0_productsBefore_24 : decode cX0_productsBefore 24 = .ok (.goto 4, 3) := by decide +kernel
theorem dX0_productsBefore_27 : decode cX0_productsBefore 27 = .ok (.lconst 0, 1) := by decide +kernel
theorem dX0_productsBefore_28 : decode cX0_productsBefore 28 = .ok (.lstore_n 3, 1) := by decide +kernel
theorem dX0_productsBefore_29 : decode cX0_productsBefore 29 = .ok (.iload_n 2, 1) := by decide +kernel
theorem dX0_productsBefore_30 : decode cX0_productsBefore 30 = .ok (.ifCond .le 16, 3) := by decide +kernel
theorem dX0_productsBefore_33 : decode cX0_productsBefore 33 = .ok (.aload_n 0, 1) := by decide +kernel
theorem dX0_productsBefore_34 : decode cX0_productsBefore 34 = .ok (.getfield 28, 3) := by decide +kernel
theorem dX0_productsBefore_37 : decode cX0_productsBefore 37 = .ok (.iload_n 1, 1) := by decide +kernel
theorem dX0_productsBefore_38 : decode cX0_productsBefore 38 = .ok (.aaload, 1) := by decide +kernel
theorem dX0_productsBefore_39 : decode cX0_productsBefore 39 = .ok (.iload_n 2, 1) := by decide +kernel
theorem dX0_productsBefore_40 : decode cX0_productsBefore 40 = .ok (.iconst 1, 1) := by decide +kernel
theorem dX0_productsBefore_41 : decode cX0_productsBefore 41 = .ok (.isub, 1) := by decide +kernel
theorem dX0_productsBefore_42 : decode cX0_productsBefore 42 = .ok (.laload, 1) := by decide +kernel
theorem dX0_productsBefore_43 : decode cX0_productsBefore 43 = .ok (.goto 4, 3) := by decide +kernel
theorem dX0_productsBefore_46 : decode cX0_productsBefore 46 = .ok (.lconst 0, 1) := by decide +kernel
theorem dX0_productsBefore_47 : decode cX0_productsBefore 47 = .ok (.lstore 5, 2) := by decide +kernel
theorem dX0_productsBefore_49 : decode cX0_productsBefore 49 = .ok (.lload_n 3, 1) := by decide +kernel
theorem dX0_productsBefore_50 : decode cX0_productsBefore 50 = .ok (.lload 5, 2) := by decide +kernel
theorem dX0_productsBefore_52 : decode cX0_productsBefore 52 = .ok (.ladd, 1) := by decide +kernel
theorem dX0_productsBefore_53 : decode cX0_productsBefore 53 = .ok (.lreturn, 1) := by decide +kernel
set_option maxRecDepth 20000 in
theorem ggX0_countServed_X0_heaviest : GoodIn wsX0_countServed wsX0_heaviest := goodIn_r _ [7, 2, 8, 9, 10, 11, 12, 13, 14, 15, 16, 17, 18] (by decide +kernel) (by decide +kernel)
set_option maxRecDepth 20000 in
theorem gX0_countServed_X0_heaviest : GoodIn wsX0_countServed (wsV RX0 74 RX0 yX0_heaviest wsX0_heaviest) := goodIn_app (goodIn_of _ (by decide +kernel)) ggX0_countServed_X0_heaviest
theorem dX0_countServed_0 : decode cX0_countServed 0 = .ok (.aload_n 0, 1) := by decide +kernel
theorem dX0_countServed_1 : decode cX0_countServed 1 = .ok (.iconst 0, 1) := by decide +kernel
theorem dX0_countServed_2 : decode cX0_countServed 2 = .ok (.iconst 0, 1) := by decide +kernel
theorem dX0_countServed_3 : decode cX0_countServed 3 = .ok (.iload_n 1, 1) := by decide +kernel
theorem dX0_countServed_4 : decode cX0_countServed 4 = .ok (.aload_n 0, 1) := by decide +kernel
theorem dX0_countServed_5 : decode cX0_countServed 5 = .ok (.getfield 15, 3) := by decide +kernel
theorem dX0_countServed_8 : decode cX0_countServed 8 = .ok (.iconst 1, 1) := by decide +kernel
theorem dX0_countServed_9 : decode cX0_countServed 9 = .ok (.isub, 1) := by decide +kernel
theorem dX0_countServed_10 : decode cX0_countServed 10 = .ok (.invokevirtual 74, 3) := by decide +kernel
theorem dX0_countServed_13 : decode cX0_countServed 13 = .ok (.pop, 1) := by decide +kernel
theorem dX0_countServed_14 : decode cX0_countServed 14 = .ok (.iconst 0, 1) := by decide +kernel
theorem dX0_countServed_15 : decode cX0_countServed 15 = .ok (.istore_n 3, 1) := by decide +kernel
theorem dX0_countServed_16 : decode cX0_countServed 16 = .ok (.iconst 0, 1) := by decide +kernel
theorem dX0_countServed_17 : decode cX0_countServed 17 = .ok (.istore 4, 2) := by decide +kernel
theorem dX0_countServed_19 : decode cX0_countServed 19 = .ok (.iload 4, 2) := by decide +kernel
theorem dX0_countServed_21 : decode cX0_countServed 21 = .ok (.aload_n 0, 1) := by decide +kernel
theorem dX0_countServed_22 : decode cX0_countServed 22 = .ok (.getfield 15, 3) := by decide +kernel
theorem dX0_countServed_25 : decode cX0_countServed 25 = .ok (.if_icmp .ge 25, 3) := by decide +kernel
theorem dX0_countServed_28 : decode cX0_countServed 28 = .ok (.aload_n 0, 1) := by decide +kernel
theorem dX0_countServed_29 : decode cX0_countServed 29 = .ok (.getfield 23, 3) := by decide +kernel
theorem dX0_countServed_32 : decode cX0_countServed 32 = .ok (.iload_n 1, 1) := by decide +kernel
theorem dX0_countServed_33 : decode cX0_countServed 33 = .ok (.aaload, 1) := by decide +kernel
theorem dX0_countServed_34 : decode cX0_countServed 34 = .ok (.iload 4, 2) := by decide +kernel
theorem dX0_countServed_36 : decode cX0_countServed 36 = .ok (.iaload, 1) := by decide +kernel
theorem dX0_countServed_37 : decode cX0_countServed 37 = .ok (.iload_n 2, 1) := by decide +kernel
theorem dX0_countServed_38 : decode cX0_countServed 38 = .ok (.if_icmp .gt 6, 3) := by decide +kernel
theorem dX0_countServed_41 : decode cX0_countServed 41 = .ok (.iinc 3 1, 3) := by decide +kernel
theorem dX0_countServed_44 : decode cX0_countServed 44 = .ok (.iinc 4 1, 3) := by decide +kernel
theorem dX0_countServed_47 : decode cX0_countServed 47 = .ok (.goto (-28), 3) := by decide +kernel
theorem dX0_countServed_50 : decode cX0_countServed 50 = .ok (.iload_n 3, 1) := by decide +kernel
theorem dX0_countServed_51 : decode cX0_countServed 51 = .ok (.ireturn, 1) := by decide +kernel
set_option maxRecDepth 20000 in
theorem ggX0_placeOnLine_X0_heaviest : GoodIn wsX0_placeOnLine wsX0_heaviest := goodIn_r _ [7, 8, 9, 10, 11, 12, 13, 25, 26, 27, 28, 29, 30] (by decide +kernel) (by decide +kernel)
set_option maxRecDepth 20000 in
theorem gX0_placeOnLine_X0_heaviest : GoodIn wsX0_placeOnLine (wsV RX0 74 RX0 yX0_heaviest wsX0_heaviest) := goodIn_app (goodIn_of _ (by decide +kernel)) ggX0_placeOnLine_X0_heaviest
set_option maxRecDepth 20000 in
theorem ggX0_placeOnLine_X0_lineGoesDown : GoodIn wsX0_placeOnLine wsX0_lineGoesDown := goodIn_r _ [17, 8, 18, 19, 20, 6, 21, 1, 2, 22, 23, 24, 25, 26, 27, 28, 29, 30] (by decide +kernel) (by decide +kernel)
set_option maxRecDepth 20000 in
theorem gX0_placeOnLine_X0_lineGoesDown : GoodIn wsX0_placeOnLine (wsV RX0 78 RX0 yX0_lineGoesDown wsX0_lineGoesDown) := goodIn_app (goodIn_of _ (by decide +kernel)) ggX0_placeOnLine_X0_lineGoesDown
theorem dX0_placeOnLine_0 : decode cX0_placeOnLine 0 = .ok (.aload_n 0, 1) := by decide +kernel
theorem dX0_placeOnLine_1 : decode cX0_placeOnLine 1 = .ok (.iconst 0, 1) := by decide +kernel
theorem dX0_placeOnLine_2 : decode cX0_placeOnLine 2 = .ok (.iconst 0, 1) := by decide +kernel
theorem dX0_placeOnLine_3 : decode cX0_placeOnLine 3 = .ok (.aload_n 0, 1) := by decide +kernel
theorem dX0_placeOnLine_4 : decode cX0_placeOnLine 4 = .ok (.getfield 11, 3) := by decide +kernel
theorem dX0_placeOnLine_7 : decode cX0_placeOnLine 7 = .ok (.iconst 1, 1) := by decide +kernel
theorem dX0_placeOnLine_8 : decode cX0_placeOnLine 8 = .ok (.isub, 1) := by decide +kernel
theorem dX0_placeOnLine_9 : decode cX0_placeOnLine 9 = .ok (.aload_n 0, 1) := by decide +kernel
theorem dX0_placeOnLine_10 : decode cX0_placeOnLine 10 = .ok (.getfield 15, 3) := by decide +kernel
theorem dX0_placeOnLine_13 : decode cX0_placeOnLine 13 = .ok (.iconst 1, 1) := by decide +kernel
theorem dX0_placeOnLine_14 : decode cX0_placeOnLine 14 = .ok (.isub, 1) := by decide +kernel
theorem dX0_placeOnLine_15 : decode cX0_placeOnLine 15 = .ok (.invokevirtual 74, 3) := by decide +kernel
theorem dX0_placeOnLine_18 : decode cX0_placeOnLine 18 = .ok (.pop, 1) := by decide +kernel
theorem dX0_placeOnLine_19 : decode cX0_placeOnLine 19 = .ok (.iconst 0, 1) := by decide +kernel
theorem dX0_placeOnLine_20 : decode cX0_placeOnLine 20 = .ok (.istore_n 2, 1) := by decide +kernel
theorem dX0_placeOnLine_21 : decode cX0_placeOnLine 21 = .ok (.iconst 0, 1) := by decide +kernel
theorem dX0_placeOnLine_22 : decode cX0_placeOnLine 22 = .ok (.istore_n 3, 1) := by decide +kernel
theorem dX0_placeOnLine_23 : decode cX0_placeOnLine 23 = .ok (.iconst 0, 1) := by decide +kernel
theorem dX0_placeOnLine_24 : decode cX0_placeOnLine 24 = .ok (.istore 4, 2) := by decide +kernel
theorem dX0_placeOnLine_26 : decode cX0_placeOnLine 26 = .ok (.iload 4, 2) := by decide +kernel
theorem dX0_placeOnLine_28 : decode cX0_placeOnLine 28 = .ok (.iload_n 1, 1) := by decide +kernel
theorem dX0_placeOnLine_29 : decode cX0_placeOnLine 29 = .ok (.if_icmp .ge 27, 3) := by decide +kernel
theorem dX0_placeOnLine_32 : decode cX0_placeOnLine 32 = .ok (.aload_n 0, 1) := by decide +kernel
theorem dX0_placeOnLine_33 : decode cX0_placeOnLine 33 = .ok (.iload_n 2, 1) := by decide +kernel
theorem dX0_placeOnLine_34 : decode cX0_placeOnLine 34 = .ok (.iload_n 3, 1) := by decide +kernel
theorem dX0_placeOnLine_35 : decode cX0_placeOnLine 35 = .ok (.invokevirtual 78, 3) := by decide +kernel
theorem dX0_placeOnLine_38 : decode cX0_placeOnLine 38 = .ok (.ifCond .eq 9, 3) := by decide +kernel
theorem dX0_placeOnLine_41 : decode cX0_placeOnLine 41 = .ok (.iinc 2 1, 3) := by decide +kernel
theorem dX0_placeOnLine_44 : decode cX0_placeOnLine 44 = .ok (.goto 6, 3) := by decide +kernel
theorem dX0_placeOnLine_47 : decode cX0_placeOnLine 47 = .ok (.iinc 3 1, 3) := by decide +kernel
theorem dX0_placeOnLine_50 : decode cX0_placeOnLine 50 = .ok (.iinc 4 1, 3) := by decide +kernel
theorem dX0_placeOnLine_53 : decode cX0_placeOnLine 53 = .ok (.goto (-27), 3) := by decide +kernel
theorem dX0_placeOnLine_56 : decode cX0_placeOnLine 56 = .ok (.bipush 10, 2) := by decide +kernel
theorem dX0_placeOnLine_58 : decode cX0_placeOnLine 58 = .ok (.iload_n 2, 1) := by decide +kernel
theorem dX0_placeOnLine_59 : decode cX0_placeOnLine 59 = .ok (.imul, 1) := by decide +kernel
theorem dX0_placeOnLine_60 : decode cX0_placeOnLine 60 = .ok (.iload_n 3, 1) := by decide +kernel
theorem dX0_placeOnLine_61 : decode cX0_placeOnLine 61 = .ok (.iadd, 1) := by decide +kernel
theorem dX0_placeOnLine_62 : decode cX0_placeOnLine 62 = .ok (.ireturn, 1) := by decide +kernel
set_option maxRecDepth 20000 in
theorem ggX0_lineGoesDown_X0_hasPlace : GoodIn wsX0_lineGoesDown wsX0_hasPlace := goodIn_r _ [6, 7, 8, 9, 10, 11, 12, 13, 14, 15, 16, 17] (by decide +kernel) (by decide +kernel)
set_option maxRecDepth 20000 in
theorem gX0_lineGoesDown_X0_hasPlace : GoodIn wsX0_lineGoesDown (wsV RX0 82 RX0 yX0_hasPlace wsX0_hasPlace) := goodIn_app (goodIn_of _ (by decide +kernel)) ggX0_lineGoesDown_X0_hasPlace
theorem dX0_lineGoesDown_0 : decode cX0_lineGoesDown 0 = .ok (.aload_n 0, 1) := by decide +kernel
theorem dX0_lineGoesDown_1 : decode cX0_lineGoesDown 1 = .ok (.iload_n 1, 1) := by decide +kernel
theorem dX0_lineGoesDown_2 : decode cX0_lineGoesDown 2 = .ok (.iconst 1, 1) := by decide +kernel
theorem dX0_lineGoesDown_3 : decode cX0_lineGoesDown 3 = .ok (.iadd, 1) := by decide +kernel
theorem dX0_lineGoesDown_4 : decode cX0_lineGoesDown 4 = .ok (.iload_n 2, 1) := by decide +kernel
theorem dX0_lineGoesDown_5 : decode cX0_lineGoesDown 5 = .ok (.invokevirtual 82, 3) := by decide +kernel
theorem dX0_lineGoesDown_8 : decode cX0_lineGoesDown 8 = .ok (.ifCond .ne 5, 3) := by decide +kernel
theorem dX0_lineGoesDown_11 : decode cX0_lineGoesDown 11 = .ok (.iconst 0, 1) := by decide +kernel
theorem dX0_lineGoesDown_12 : decode cX0_lineGoesDown 12 = .ok (.ireturn, 1) := by decide +kernel
theorem dX0_lineGoesDown_13 : decode cX0_lineGoesDown 13 = .ok (.aload_n 0, 1) := by decide +kernel
theorem dX0_lineGoesDown_14 : decode cX0_lineGoesDown 14 = .ok (.iload_n 1, 1) := by decide +kernel
theorem dX0_lineGoesDown_15 : decode cX0_lineGoesDown 15 = .ok (.iload_n 2, 1) := by decide +kernel
theorem dX0_lineGoesDown_16 : decode cX0_lineGoesDown 16 = .ok (.iconst 1, 1) := by decide +kernel
theorem dX0_lineGoesDown_17 : decode cX0_lineGoesDown 17 = .ok (.iadd, 1) := by decide +kernel
theorem dX0_lineGoesDown_18 : decode cX0_lineGoesDown 18 = .ok (.invokevirtual 82, 3) := by decide +kernel
theorem dX0_lineGoesDown_21 : decode cX0_lineGoesDown 21 = .ok (.ifCond .ne 5, 3) := by decide +kernel
theorem dX0_lineGoesDown_24 : decode cX0_lineGoesDown 24 = .ok (.iconst 1, 1) := by decide +kernel
theorem dX0_lineGoesDown_25 : decode cX0_lineGoesDown 25 = .ok (.ireturn, 1) := by decide +kernel
theorem dX0_lineGoesDown_26 : decode cX0_lineGoesDown 26 = .ok (.aload_n 0, 1) := by decide +kernel
theorem dX0_lineGoesDown_27 : decode cX0_lineGoesDown 27 = .ok (.getfield 23, 3) := by decide +kernel
theorem dX0_lineGoesDown_30 : decode cX0_lineGoesDown 30 = .ok (.iload_n 1, 1) := by decide +kernel
theorem dX0_lineGoesDown_31 : decode cX0_lineGoesDown 31 = .ok (.iconst 1, 1) := by decide +kernel
theorem dX0_lineGoesDown_32 : decode cX0_lineGoesDown 32 = .ok (.iadd, 1) := by decide +kernel
theorem dX0_lineGoesDown_33 : decode cX0_lineGoesDown 33 = .ok (.aaload, 1) := by decide +kernel
theorem dX0_lineGoesDown_34 : decode cX0_lineGoesDown 34 = .ok (.iload_n 2, 1) := by decide +kernel
theorem dX0_lineGoesDown_35 : decode cX0_lineGoesDown 35 = .ok (.iaload, 1) := by decide +kernel
theorem dX0_lineGoesDown_36 : decode cX0_lineGoesDown 36 = .ok (.aload_n 0, 1) := by decide +kernel
theorem dX0_lineGoesDown_37 : decode cX0_lineGoesDown 37 = .ok (.getfield 23, 3) := by decide +kernel
theorem dX0_lineGoesDown_40 : decode cX0_lineGoesDown 40 = .ok (.iload_n 1, 1) := by decide +kernel
theorem dX0_lineGoesDown_41 : decode cX0_lineGoesDown 41 = .ok (.aaload, 1) := by decide +kernel
theorem dX0_lineGoesDown_42 : decode cX0_lineGoesDown 42 = .ok (.iload_n 2, 1) := by decide +kernel
theorem dX0_lineGoesDown_43 : decode cX0_lineGoesDown 43 = .ok (.iconst 1, 1) := by decide +kernel
theorem dX0_lineGoesDown_44 : decode cX0_lineGoesDown 44 = .ok (.iadd, 1) := by decide +kernel
theorem dX0_lineGoesDown_45 : decode cX0_lineGoesDown 45 = .ok (.iaload, 1) := by decide +kernel
theorem dX0_lineGoesDown_46 : decode cX0_lineGoesDown 46 = .ok (.if_icmp .ge 7, 3) := by decide +kernel
theorem dX0_lineGoesDown_49 : decode cX0_lineGoesDown 49 = .ok (.iconst 1, 1) := by decide +kernel
theorem dX0_lineGoesDown_50 : decode cX0_lineGoesDown 50 = .ok (.goto 4, 3) := by decide +kernel
theorem dX0_lineGoesDown_53 : decode cX0_lineGoesDown 53 = .ok (.iconst 0, 1) := by decide +kernel
theorem dX0_lineGoesDown_54 : decode cX0_lineGoesDown 54 = .ok (.ireturn, 1) := by decide +kernel
theorem dX0_spell_0 : decode cX0_spell 0 = .ok (.iconst 0, 1) := by decide +kernel
theorem dX0_spell_1 : decode cX0_spell 1 = .ok (.istore_n 2, 1) := by decide +kernel
theorem dX0_spell_2 : decode cX0_spell 2 = .ok (.iconst 0, 1) := by decide +kernel
theorem dX0_spell_3 : decode cX0_spell 3 = .ok (.istore_n 3, 1) := by decide +kernel
theorem dX0_spell_4 : decode cX0_spell 4 = .ok (.iload_n 3, 1) := by decide +kernel
theorem dX0_spell_5 : decode cX0_spell 5 = .ok (.aload_n 0, 1) := by decide +kernel
theorem dX0_spell_6 : decode cX0_spell 6 = .ok (.getfield 11, 3) := by decide +kernel
theorem dX0_spell_9 : decode cX0_spell 9 = .ok (.if_icmp .ge 66, 3) := by decide +kernel
theorem dX0_spell_12 : decode cX0_spell 12 = .ok (.iconst 0, 1) := by decide +kernel
theorem dX0_spell_13 : decode cX0_spell 13 = .ok (.istore 4, 2) := by decide +kernel
theorem dX0_spell_15 : decode cX0_spell 15 = .ok (.iload 4, 2) := by decide +kernel
theorem dX0_spell_17 : decode cX0_spell 17 = .ok (.aload_n 0, 1) := by decide +kernel
theorem dX0_spell_18 : decode cX0_spell 18 = .ok (.getfield 15, 3) := by decide +kernel
theorem dX0_spell_21 : decode cX0_spell 21 = .ok (.if_icmp .ge 48, 3) := by decide +kernel
theorem dX0_spell_24 : decode cX0_spell 24 = .ok (.iconst 0, 1) := by decide +kernel
theorem dX0_spell_25 : decode cX0_spell 25 = .ok (.istore 5, 2) := by decide +kernel
theorem dX0_spell_27 : decode cX0_spell 27 = .ok (.iload 5, 2) := by decide +kernel
theorem dX0_spell_29 : decode cX0_spell 29 = .ok (.aload_n 0, 1) := by decide +kernel
theorem dX0_spell_30 : decode cX0_spell 30 = .ok (.getfield 20, 3) := by decide +kernel
theorem dX0_spell_33 : decode cX0_spell 33 = .ok (.iload_n 3, 1) := by decide +kernel
theorem dX0_spell_34 : decode cX0_spell 34 = .ok (.aaload, 1) := by decide +kernel
theorem dX0_spell_35 : decode cX0_spell 35 = .ok (.iload 4, 2) := by decide +kernel
theorem dX0_spell_37 : decode cX0_spell 37 = .ok (.iaload, 1) := by decide +kernel
theorem dX0_spell_38 : decode cX0_spell 38 = .ok (.if_icmp .ge 25, 3) := by decide +kernel
theorem dX0_spell_41 : decode cX0_spell 41 = .ok (.iload_n 2, 1) := by decide +kernel
theorem dX0_spell_42 : decode cX0_spell 42 = .ok (.aload_n 1, 1) := by decide +kernel
theorem dX0_spell_43 : decode cX0_spell 43 = .ok (.arraylength, 1) := by decide +kernel
theorem dX0_spell_44 : decode cX0_spell 44 = .ok (.if_icmp .ge 19, 3) := by decide +kernel
theorem dX0_spell_47 : decode cX0_spell 47 = .ok (.aload_n 1, 1) := by decide +kernel
theorem dX0_spell_48 : decode cX0_spell 48 = .ok (.iload_n 2, 1) := by decide +kernel
theorem dX0_spell_49 : decode cX0_spell 49 = .ok (.iload 4, 2) := by decide +kernel
theorem dX0_spell_51 : decode cX0_spell 51 = .ok (.iconst 1, 1) := by decide +kernel
theorem dX0_spell_52 : decode cX0_spell 52 = .ok (.iadd, 1) := by decide +kernel
theorem dX0_spell_53 : decode cX0_spell 53 = .ok (.iastore, 1) := by decide +kernel
theorem dX0_spell_54 : decode cX0_spell 54 = .ok (.iinc 2 1, 3) := by decide +kernel
theorem dX0_spell_57 : decode cX0_spell 57 = .ok (.iinc 5 1, 3) := by decide +kernel
theorem dX0_spell_60 : decode cX0_spell 60 = .ok (.goto (-33), 3) := by decide +kernel
theorem dX0_spell_63 : decode cX0_spell 63 = .ok (.iinc 4 1, 3) := by decide +kernel
theorem dX0_spell_66 : decode cX0_spell 66 = .ok (.goto (-51), 3) := by decide +kernel
theorem dX0_spell_69 : decode cX0_spell 69 = .ok (.iinc 3 1, 3) := by decide +kernel
theorem dX0_spell_72 : decode cX0_spell 72 = .ok (.goto (-68), 3) := by decide +kernel
theorem dX0_spell_75 : decode cX0_spell 75 = .ok (.return_, 1) := by decide +kernel
theorem dX1_init_0 : decode cX1_init 0 = .ok (.aload_n 0, 1) := by decide +kernel
theorem dX1_init_1 : decode cX1_init 1 = .ok (.invokespecial 3, 3) := by decide +kernel
theorem dX1_init_4 : decode cX1_init 4 = .ok (.aload_n 0, 1) := by decide +kernel
theorem dX1_init_5 : decode cX1_init 5 = .ok (.bipush 36, 2) := by decide +kernel
theorem dX1_init_7 : decode cX1_init 7 = .ok (.newarray .long, 2) := by decide +kernel
theorem dX1_init_9 : decode cX1_init 9 = .ok (.putfield 9, 3) := by decide +kernel
theorem dX1_init_12 : decode cX1_init 12 = .ok (.aload_n 0, 1) := by decide +kernel
theorem dX1_init_13 : decode cX1_init 13 = .ok (.iconst (-1), 1) := by decide +kernel
theorem dX1_init_14 : decode cX1_init 14 = .ok (.putfield 15, 3) := by decide +kernel
theorem dX1_init_17 : decode cX1_init 17 = .ok (.aload_n 0, 1) := by decide +kernel
theorem dX1_init_18 : decode cX1_init 18 = .ok (.iconst 0, 1) := by decide +kernel
theorem dX1_init_19 : decode cX1_init 19 = .ok (.putfield 19, 3) := by decide +kernel
theorem dX1_init_22 : decode cX1_init 22 = .ok (.return_, 1) := by decide +kernel
theorem dX1_isMissing_0 : decode cX1_isMissing 0 = .ok (.aload_n 0, 1) := by decide +kernel
theorem dX1_isMissing_1 : decode cX1_isMissing 1 = .ok (.getfield 15, 3) := by decide +kernel
theorem dX1_isMissing_4 : decode cX1_isMissing 4 = .ok (.iconst (-1), 1) := by decide +kernel
theorem dX1_isMissing_5 : decode cX1_isMissing 5 = .ok (.if_icmp .ne 7, 3) := by decide +kernel
theorem dX1_isMissing_8 : decode cX1_isMissing 8 = .ok (.iconst 1, 1) := by decide +kernel
theorem dX1_isMissing_9 : decode cX1_isMissing 9 = .ok (.goto 4, 3) := by decide +kernel
theorem dX1_isMissing_12 : decode cX1_isMissing 12 = .ok (.iconst 0, 1) := by decide +kernel
theorem dX1_isMissing_13 : decode cX1_isMissing 13 = .ok (.ireturn, 1) := by decide +kernel
theorem dX1_isOf_0 : decode cX1_isOf 0 = .ok (.aload_n 0, 1) := by decide +kernel
theorem dX1_isOf_1 : decode cX1_isOf 1 = .ok (.getfield 15, 3) := by decide +kernel
theorem dX1_isOf_4 : decode cX1_isOf 4 = .ok (.iload_n 1, 1) := by decide +kernel
theorem dX1_isOf_5 : decode cX1_isOf 5 = .ok (.if_icmp .ne 7, 3) := by decide +kernel
theorem dX1_isOf_8 : decode cX1_isOf 8 = .ok (.iconst 1, 1) := by decide +kernel
theorem dX1_isOf_9 : decode cX1_isOf 9 = .ok (.goto 4, 3) := by decide +kernel
theorem dX1_isOf_12 : decode cX1_isOf 12 = .ok (.iconst 0, 1) := by decide +kernel
theorem dX1_isOf_13 : decode cX1_isOf 13 = .ok (.ireturn, 1) := by decide +kernel
theorem dX1_reaches_0 : decode cX1_reaches 0 = .ok (.iload_n 1, 1) := by decide +kernel
theorem dX1_reaches_1 : decode cX1_reaches 1 = .ok (.ifCond .lt 17, 3) := by decide +kernel
theorem dX1_reaches_4 : decode cX1_reaches 4 = .ok (.iload_n 1, 1) := by decide +kernel
theorem dX1_reaches_5 : decode cX1_reaches 5 = .ok (.aload_n 0, 1) := by decide +kernel
theorem dX1_reaches_6 : decode cX1_reaches 6 = .ok (.getfield 19, 3) := by decide +kernel
theorem dX1_reaches_9 : decode cX1_reaches 9 = .ok (.iload_n 2, 1) := by decide +kernel
theorem dX1_reaches_10 : decode cX1_reaches 10 = .ok (.isub, 1) := by decide +kernel
theorem dX1_reaches_11 : decode cX1_reaches 11 = .ok (.if_icmp .gt 7, 3) := by decide +kernel
theorem dX1_reaches_14 : decode cX1_reaches 14 = .ok (.iconst 1, 1) := by decide +kernel
theorem dX1_reaches_15 : decode cX1_reaches 15 = .ok (.goto 4, 3) := by decide +kernel
theorem dX1_reaches_18 : decode cX1_reaches 18 = .ok (.iconst 0, 1) := by decide +kernel
theorem dX1_reaches_19 : decode cX1_reaches 19 = .ok (.ireturn, 1) := by decide +kernel
set_option maxRecDepth 20000 in
theorem ggX1_renew_J7_fill_d0a16 : GoodIn wsX1_renew wsJ7_fill_d0a16 := goodIn_r _ [7] (by decide +kernel) (by decide +kernel)
set_option maxRecDepth 20000 in
theorem gX1_renew_J7_fill_d0a16 : GoodIn wsX1_renew (va_wsS RX1 22 yJ7_fill_d0a16 wsJ7_fill_d0a16) := goodIn_app (goodIn_of _ (by decide +kernel)) ggX1_renew_J7_fill_d0a16
theorem dX1_renew_0 : decode cX1_renew 0 = .ok (.aload_n 0, 1) := by decide +kernel
theorem dX1_renew_1 : decode cX1_renew 1 = .ok (.getfield 9, 3) := by decide +kernel
theorem dX1_renew_4 : decode cX1_renew 4 = .ok (.lconst 0, 1) := by decide +kernel
theorem dX1_renew_5 : decode cX1_renew 5 = .ok (.invokestatic 22, 3) := by decide +kernel
theorem dX1_renew_8 : decode cX1_renew 8 = .ok (.aload_n 0, 1) := by decide +kernel
theorem dX1_renew_9 : decode cX1_renew 9 = .ok (.iload_n 1, 1) := by decide +kernel
theorem dX1_renew_10 : decode cX1_renew 10 = .ok (.putfield 15, 3) := by decide +kernel
theorem dX1_renew_13 : decode cX1_renew 13 = .ok (.aload_n 0, 1) := by decide +kernel
theorem dX1_renew_14 : decode cX1_renew 14 = .ok (.iload_n 2, 1) := by decide +kernel
theorem dX1_renew_15 : decode cX1_renew 15 = .ok (.putfield 19, 3) := by decide +kernel
theorem dX1_renew_18 : decode cX1_renew 18 = .ok (.return_, 1) := by decide +kernel
theorem dX1_vanish_0 : decode cX1_vanish 0 = .ok (.aload_n 0, 1) := by decide +kernel
theorem dX1_vanish_1 : decode cX1_vanish 1 = .ok (.getfield 19, 3) := by decide +kernel
theorem dX1_vanish_4 : decode cX1_vanish 4 = .ok (.istore_n 1, 1) := by decide +kernel
theorem dX1_vanish_5 : decode cX1_vanish 5 = .ok (.aload_n 0, 1) := by decide +kernel
theorem dX1_vanish_6 : decode cX1_vanish 6 = .ok (.iconst (-1), 1) := by decide +kernel
theorem dX1_vanish_7 : decode cX1_vanish 7 = .ok (.putfield 15, 3) := by decide +kernel
theorem dX1_vanish_10 : decode cX1_vanish 10 = .ok (.aload_n 0, 1) := by decide +kernel
theorem dX1_vanish_11 : decode cX1_vanish 11 = .ok (.iconst 0, 1) := by decide +kernel
theorem dX1_vanish_12 : decode cX1_vanish 12 = .ok (.putfield 19, 3) := by decide +kernel
theorem dX1_vanish_15 : decode cX1_vanish 15 = .ok (.iload_n 1, 1) := by decide +kernel
theorem dX1_vanish_16 : decode cX1_vanish 16 = .ok (.ireturn, 1) := by decide +kernel
theorem dX1_setItem_0 : decode cX1_setItem 0 = .ok (.aload_n 0, 1) := by decide +kernel
theorem dX1_setItem_1 : decode cX1_setItem 1 = .ok (.getfield 9, 3) := by decide +kernel
theorem dX1_setItem_4 : decode cX1_setItem 4 = .ok (.iload_n 1, 1) := by decide +kernel
theorem dX1_setItem_5 : decode cX1_setItem 5 = .ok (.iload_n 2, 1) := by decide +kernel
theorem dX1_setItem_6 : decode cX1_setItem 6 = .ok (.i2l, 1) := by decide +kernel
theorem dX1_setItem_7 : decode cX1_setItem 7 = .ok (.lastore, 1) := by decide +kernel
theorem dX1_setItem_8 : decode cX1_setItem 8 = .ok (.return_, 1) := by decide +kernel
theorem dX1_itemAt_0 : decode cX1_itemAt 0 = .ok (.aload_n 0, 1) := by decide +kernel
theorem dX1_itemAt_1 : decode cX1_itemAt 1 = .ok (.getfield 9, 3) := by decide +kernel
theorem dX1_itemAt_4 : decode cX1_itemAt 4 = .ok (.iload_n 1, 1) := by decide +kernel
theorem dX1_itemAt_5 : decode cX1_itemAt 5 = .ok (.laload, 1) := by decide +kernel
theorem dX1_itemAt_6 : decode cX1_itemAt 6 = .ok (.lreturn, 1) := by decide +kernel
set_option maxRecDepth 20000 in
theorem ggX1_areWeights_X4_isWeight : GoodIn wsX1_areWeights wsX4_isWeight := goodIn_r _ [4, 5] (by decide +kernel) (by decide +kernel)
set_option maxRecDepth 20000 in
theorem gX1_areWeights_X4_isWeight_n28 : GoodIn wsX1_areWeights (wsX4_isWeight) := ggX1_areWeights_X4_isWeight
theorem dX1_areWeights_0 : decode cX1_areWeights 0 = .ok (.iload_n 1, 1) := by decide +kernel
theorem dX1_areWeights_1 : decode cX1_areWeights 1 = .ok (.istore_n 3, 1) := by decide +kernel
theorem dX1_areWeights_2 : decode cX1_areWeights 2 = .ok (.iload_n 3, 1) := by decide +kernel
theorem dX1_areWeights_3 : decode cX1_areWeights 3 = .ok (.iload_n 1, 1) := by decide +kernel
theorem dX1_areWeights_4 : decode cX1_areWeights 4 = .ok (.iload_n 2, 1) := by decide +kernel
theorem dX1_areWeights_5 : decode cX1_areWeights 5 = .ok (.iadd, 1) := by decide +kernel
theorem dX1_areWeights_6 : decode cX1_areWeights 6 = .ok (.if_icmp .ge 23, 3) := by decide +kernel
theorem dX1_areWeights_9 : decode cX1_areWeights 9 = .ok (.aload_n 0, 1) := by decide +kernel
theorem dX1_areWeights_10 : decode cX1_areWeights 10 = .ok (.getfield 9, 3) := by decide +kernel
theorem dX1_areWeights_13 : decode cX1_areWeights 13 = .ok (.iload_n 3, 1) := by decide +kernel
theorem dX1_areWeights_14 : decode cX1_areWeights 14 = .ok (.laload, 1) := by decide +kernel
theorem dX1_areWeights_15 : decode cX1_areWeights 15 = .ok (.invokestatic 28, 3) := by decide +kernel
theorem dX1_areWeights_18 : decode cX1_areWeights 18 = .ok (.ifCond .ne 5, 3) := by decide +kernel
theorem dX1_areWeights_21 : decode cX1_areWeights 21 = .ok (.iconst 0, 1) := by decide +kernel
theorem dX1_areWeights_22 : decode cX1_areWeights 22 = .ok (.ireturn, 1) := by decide +kernel
theorem dX1_areWeights_23 : decode cX1_areWeights 23 = .ok (.iinc 3 1, 3) := by decide +kernel
theorem dX1_areWeights_26 : decode cX1_areWeights 26 = .ok (.goto (-24), 3) := by decide +kernel
theorem dX1_areWeights_29 : decode cX1_areWeights 29 = .ok (.iconst 1, 1) := by decide +kernel
theorem dX1_areWeights_30 : decode cX1_areWeights 30 = .ok (.ireturn, 1) := by decide +kernel
end
section
theorem dX2_init_0 : decode cX2_init 0 = .ok (.aload_n 0, 1) := by decide +kernel
theorem dX2_init_1 : decode cX2_init 1 = .ok (.invokespecial 3, 3) := by decide +kernel
theorem dX2_init_4 : decode cX2_init 4 = .ok (.aload_n 0, 1) := by decide +kernel
theorem dX2_init_5 : decode cX2_init 5 = .ok (.bipush 9, 2) := by decide +kernel
theorem dX2_init_7 : decode cX2_init 7 = .ok (.bipush 40, 2) := by decide +kernel
theorem dX2_init_9 : decode cX2_init 9 = .ok (.multianewarray 9 2, 4) := by decide +kernel
theorem dX2_init_13 : decode cX2_init 13 = .ok (.putfield 11, 3) := by decide +kernel
theorem dX2_init_16 : decode cX2_init 16 = .ok (.aload_n 0, 1) := by decide +kernel
theorem dX2_init_17 : decode cX2_init 17 = .ok (.bipush 9, 2) := by decide +kernel
theorem dX2_init_19 : decode cX2_init 19 = .ok (.newarray .int, 2) := by decide +kernel
theorem dX2_init_21 : decode cX2_init 21 = .ok (.putfield 16, 3) := by decide +kernel
theorem dX2_init_24 : decode cX2_init 24 = .ok (.aload_n 0, 1) := by decide +kernel
theorem dX2_init_25 : decode cX2_init 25 = .ok (.iconst 0, 1) := by decide +kernel
theorem dX2_init_26 : decode cX2_init 26 = .ok (.putfield 20, 3) := by decide +kernel
theorem dX2_init_29 : decode cX2_init 29 = .ok (.aload_n 0, 1) := by decide +kernel
theorem dX2_init_30 : decode cX2_init 30 = .ok (.iconst 0, 1) := by decide +kernel
theorem dX2_init_31 : decode cX2_init 31 = .ok (.putfield 24, 3) := by decide +kernel
theorem dX2_init_34 : decode cX2_init 34 = .ok (.return_, 1) := by decide +kernel
theorem dX2_rowCount_0 : decode cX2_rowCount 0 = .ok (.aload_n 0, 1) := by decide +kernel
theorem dX2_rowCount_1 : decode cX2_rowCount 1 = .ok (.getfield 20, 3) := by decide +kernel
theorem dX2_rowCount_4 : decode cX2_rowCount 4 = .ok (.ireturn, 1) := by decide +kernel
theorem dX2_placeCount_0 : decode cX2_placeCount 0 = .ok (.aload_n 0, 1) := by decide +kernel
theorem dX2_placeCount_1 : decode cX2_placeCount 1 = .ok (.getfield 24, 3) := by decide +kernel
theorem dX2_placeCount_4 : decode cX2_placeCount 4 = .ok (.ireturn, 1) := by decide +kernel
theorem dX2_lengthOf_0 : decode cX2_lengthOf 0 = .ok (.iload_n 1, 1) := by decide +kernel
theorem dX2_lengthOf_1 : decode cX2_lengthOf 1 = .ok (.ifCond .lt 18, 3) := by decide +kernel
theorem dX2_lengthOf_4 : decode cX2_lengthOf 4 = .ok (.iload_n 1, 1) := by decide +kernel
theorem dX2_lengthOf_5 : decode cX2_lengthOf 5 = .ok (.bipush 9, 2) := by decide +kernel
theorem dX2_lengthOf_7 : decode cX2_lengthOf 7 = .ok (.if_icmp .ge 12, 3) := by decide +kernel
theorem dX2_lengthOf_10 : decode cX2_lengthOf 10 = .ok (.aload_n 0, 1) := by decide +kernel
theorem dX2_lengthOf_11 : decode cX2_lengthOf 11 = .ok (.getfield 16, 3) := by decide +kernel
theorem dX2_lengthOf_14 : decode cX2_lengthOf 14 = .ok (.iload_n 1, 1) := by decide +kernel
theorem dX2_lengthOf_15 : decode cX2_lengthOf 15 = .ok (.iaload, 1) := by decide +kernel
theorem dX2_lengthOf_16 : decode cX2_lengthOf 16 = .ok (.goto 4, 3) := by decide +kernel
theorem dX2_lengthOf_19 : decode cX2_lengthOf 19 = .ok (.iconst 0, 1) := by decide +kernel
theorem dX2_lengthOf_20 : decode cX2_lengthOf 20 = .ok (.ireturn, 1) := by decide +kernel
set_option maxRecDepth 20000 in
theorem ggX2_has_X2_lengthOf : GoodIn wsX2_has wsX2_lengthOf := goodIn_r _ [5, 6, 7, 8, 9, 10] (by decide +kernel) (by decide +kernel)
set_option maxRecDepth 20000 in
theorem gX2_has_X2_lengthOf : GoodIn wsX2_has (wsV RX2 27 RX2 yX2_lengthOf wsX2_lengthOf) := goodIn_app (goodIn_of _ (by decide +kernel)) ggX2_has_X2_lengthOf
theorem dX2_has_0 : decode cX2_has 0 = .ok (.iload_n 2, 1) := by decide +kernel
theorem dX2_has_1 : decode cX2_has 1 = .ok (.ifCond .lt 16, 3) := by decide +kernel
theorem dX2_has_4 : decode cX2_has 4 = .ok (.iload_n 2, 1) := by decide +kernel
theorem dX2_has_5 : decode cX2_has 5 = .ok (.aload_n 0, 1) := by decide +kernel
theorem dX2_has_6 : decode cX2_has 6 = .ok (.iload_n 1, 1) := by decide +kernel
theorem dX2_has_7 : decode cX2_has 7 = .ok (.invokevirtual 27, 3) := by decide +kernel
theorem dX2_has_10 : decode cX2_has 10 = .ok (.if_icmp .ge 7, 3) := by decide +kernel
theorem dX2_has_13 : decode cX2_has 13 = .ok (.iconst 1, 1) := by decide +kernel
theorem dX2_has_14 : decode cX2_has 14 = .ok (.goto 4, 3) := by decide +kernel
theorem dX2_has_17 : decode cX2_has 17 = .ok (.iconst 0, 1) := by decide +kernel
theorem dX2_has_18 : decode cX2_has 18 = .ok (.ireturn, 1) := by decide +kernel
set_option maxRecDepth 20000 in
theorem ggX2_at_X2_has : GoodIn wsX2_at wsX2_has := goodIn_r _ [6, 7, 8, 9, 5, 10, 11, 12, 13, 14, 15] (by decide +kernel) (by decide +kernel)
set_option maxRecDepth 20000 in
theorem gX2_at_X2_has : GoodIn wsX2_at (wsV RX2 31 RX2 yX2_has wsX2_has) := goodIn_app (goodIn_of _ (by decide +kernel)) ggX2_at_X2_has
theorem dX2_at_0 : decode cX2_at 0 = .ok (.aload_n 0, 1) := by decide +kernel
theorem dX2_at_1 : decode cX2_at 1 = .ok (.iload_n 1, 1) := by decide +kernel
theorem dX2_at_2 : decode cX2_at 2 = .ok (.iload_n 2, 1) := by decide +kernel
theorem dX2_at_3 : decode cX2_at 3 = .ok (.invokevirtual 31, 3) := by decide +kernel
theorem dX2_at_6 : decode cX2_at 6 = .ok (.ifCond .eq 14, 3) := by decide +kernel
theorem dX2_at_9 : decode cX2_at 9 = .ok (.aload_n 0, 1) := by decide +kernel
theorem dX2_at_10 : decode cX2_at 10 = .ok (.getfield 11, 3) := by decide +kernel
theorem dX2_at_13 : decode cX2_at 13 = .ok (.iload_n 1, 1) := by decide +kernel
theorem dX2_at_14 : decode cX2_at 14 = .ok (.aaload, 1) := by decide +kernel
theorem dX2_at_15 : decode cX2_at 15 = .ok (.iload_n 2, 1) := by decide +kernel
theorem dX2_at_16 : decode cX2_at 16 = .ok (.iaload, 1) := by decide +kernel
theorem dX2_at_17 : decode cX2_at 17 = .ok (.goto 4, 3) := by decide +kernel
theorem dX2_at_20 : decode cX2_at 20 = .ok (.iconst 0, 1) := by decide +kernel
theorem dX2_at_21 : decode cX2_at 21 = .ok (.ireturn, 1) := by decide +kernel
set_option maxRecDepth 20000 in
theorem ggX2_empty_J7_fill_53178 : GoodIn wsX2_empty wsJ7_fill_53178 := goodIn_r _ [7] (by decide +kernel) (by decide +kernel)
set_option maxRecDepth 20000 in
theorem gX2_empty_J7_fill_53178 : GoodIn wsX2_empty (va_wsS RX2 35 yJ7_fill_53178 wsJ7_fill_53178) := goodIn_app (goodIn_of _ (by decide +kernel)) ggX2_empty_J7_fill_53178
theorem dX2_empty_0 : decode cX2_empty 0 = .ok (.aload_n 0, 1) := by decide +kernel
theorem dX2_empty_1 : decode cX2_empty 1 = .ok (.getfield 16, 3) := by decide +kernel
theorem dX2_empty_4 : decode cX2_empty 4 = .ok (.iconst 0, 1) := by decide +kernel
theorem dX2_empty_5 : decode cX2_empty 5 = .ok (.invokestatic 35, 3) := by decide +kernel
theorem dX2_empty_8 : decode cX2_empty 8 = .ok (.aload_n 0, 1) := by decide +kernel
theorem dX2_empty_9 : decode cX2_empty 9 = .ok (.iconst 0, 1) := by decide +kernel
theorem dX2_empty_10 : decode cX2_empty 10 = .ok (.putfield 20, 3) := by decide +kernel
theorem dX2_empty_13 : decode cX2_empty 13 = .ok (.aload_n 0, 1) := by decide +kernel
theorem dX2_empty_14 : decode cX2_empty 14 = .ok (.iconst 0, 1) := by decide +kernel
theorem dX2_empty_15 : decode cX2_empty 15 = .ok (.putfield 24, 3) := by decide +kernel
theorem dX2_empty_18 : decode cX2_empty 18 = .ok (.return_, 1) := by decide +kernel
set_option maxRecDepth 20000 in
theorem ggX2_append_X4_isWithin : GoodIn wsX2_append wsX4_isWithin := goodIn_r _ [11] (by decide +kernel) (by decide +kernel)
set_option maxRecDepth 20000 in
theorem gX2_append_X4_isWithin_n41 : GoodIn wsX2_append (wsX4_isWithin) := ggX2_append_X4_isWithin
theorem dX2_append_0 : decode cX2_append 0 = .ok (.iload_n 1, 1) := by decide +kernel
theorem dX2_append_1 : decode cX2_append 1 = .ok (.iconst 0, 1) := by decide +kernel
theorem dX2_append_2 : decode cX2_append 2 = .ok (.bipush 8, 2) := by decide +kernel
theorem dX2_append_4 : decode cX2_append 4 = .ok (.invokestatic 41, 3) := by decide +kernel
theorem dX2_append_7 : decode cX2_append 7 = .ok (.ifCond .eq 12, 3) := by decide +kernel
theorem dX2_append_10 : decode cX2_append 10 = .ok (.aload_n 0, 1) := by decide +kernel
theorem dX2_append_11 : decode cX2_append 11 = .ok (.getfield 24, 3) := by decide +kernel
theorem dX2_append_14 : decode cX2_append 14 = .ok (.bipush 40, 2) := by decide +kernel
theorem dX2_append_16 : decode cX2_append 16 = .ok (.if_icmp .lt 4, 3) := by decide +kernel
theorem dX2_append_19 : decode cX2_append 19 = .ok (.return_, 1) := by decide +kernel
theorem dX2_append_20 : decode cX2_append 20 = .ok (.aload_n 0, 1) := by decide +kernel
theorem dX2_append_21 : decode cX2_append 21 = .ok (.getfield 11, 3) := by decide +kernel
theorem dX2_append_24 : decode cX2_append 24 = .ok (.iload_n 1, 1) := by decide +kernel
theorem dX2_append_25 : decode cX2_append 25 = .ok (.aaload, 1) := by decide +kernel
theorem dX2_append_26 : decode cX2_append 26 = .ok (.aload_n 0, 1) := by decide +kernel
theorem dX2_append_27 : decode cX2_append 27 = .ok (.getfield 16, 3) := by decide +kernel
theorem dX2_append_30 : decode cX2_append 30 = .ok (.iload_n 1, 1) := by decide +kernel
theorem dX2_append_31 : decode cX2_append 31 = .ok (.iaload, 1) := by decide +kernel
theorem dX2_append_32 : decode cX2_append 32 = .ok (.iload_n 2, 1) := by decide +kernel
theorem dX2_append_33 : decode cX2_append 33 = .ok (.iastore, 1) := by decide +kernel
theorem dX2_append_34 : decode cX2_append 34 = .ok (.aload_n 0, 1) := by decide +kernel
theorem dX2_append_35 : decode cX2_append 35 = .ok (.getfield 16, 3) := by decide +kernel
theorem dX2_append_38 : decode cX2_append 38 = .ok (.iload_n 1, 1) := by decide +kernel
theorem dX2_append_39 : decode cX2_append 39 = .ok (.dup2, 1) := by decide +kernel
theorem dX2_append_40 : decode cX2_append 40 = .ok (.iaload, 1) := by decide +kernel
theorem dX2_append_41 : decode cX2_append 41 = .ok (.iconst 1, 1) := by decide +kernel
theorem dX2_append_42 : decode cX2_append 42 = .ok (.iadd, 1) := by decide +kernel
theorem dX2_append_43 : decode cX2_append 43 = .ok (.iastore, 1) := by decide +kernel
theorem dX2_append_44 : decode cX2_append 44 = .ok (.aload_n 0, 1) := by decide +kernel
theorem dX2_append_45 : decode cX2_append 45 = .ok (.dup, 1) := by decide +kernel
theorem dX2_append_46 : decode cX2_append 46 = .ok (.getfield 24, 3) := by decide +kernel
theorem dX2_append_49 : decode cX2_append 49 = .ok (.iconst 1, 1) := by decide +kernel
theorem dX2_append_50 : decode cX2_append 50 = .ok (.iadd, 1) := by decide +kernel
theorem dX2_append_51 : decode cX2_append 51 = .ok (.putfield 24, 3) := by decide +kernel
theorem dX2_append_54 : decode cX2_append 54 = .ok (.aload_n 0, 1) := by decide +kernel
theorem dX2_append_55 : decode cX2_append 55 = .ok (.aload_n 0, 1) := by decide +kernel
theorem dX2_append_56 : decode cX2_append 56 = .ok (.getfield 20, 3) := by decide +kernel
theorem dX2_append_59 : decode cX2_append 59 = .ok (.iload_n 1, 1) := by decide +kernel
theorem dX2_append_60 : decode cX2_append 60 = .ok (.iconst 1, 1) := by decide +kernel
theorem dX2_append_61 : decode cX2_append 61 = .ok (.iadd, 1) := by decide +kernel
theorem dX2_append_62 : decode cX2_append 62 = .ok (.invokestatic 45, 3) := by decide +kernel
theorem dX2_append_65 : decode cX2_append 65 = .ok (.putfield 20, 3) := by decide +kernel
theorem dX2_append_68 : decode cX2_append 68 = .ok (.return_, 1) := by decide +kernel
set_option maxRecDepth 20000 in
theorem ggX2_takeLast_X2_lengthOf : GoodIn wsX2_takeLast wsX2_lengthOf := goodIn_r _ [9, 1, 10, 11, 12, 13] (by decide +kernel) (by decide +kernel)
set_option maxRecDepth 20000 in
theorem gX2_takeLast_X2_lengthOf : GoodIn wsX2_takeLast (wsV RX2 27 RX2 yX2_lengthOf wsX2_lengthOf) := goodIn_app (goodIn_of _ (by decide +kernel)) ggX2_takeLast_X2_lengthOf
theorem dX2_takeLast_0 : decode cX2_takeLast 0 = .ok (.aload_n 0, 1) := by decide +kernel
theorem dX2_takeLast_1 : decode cX2_takeLast 1 = .ok (.iload_n 1, 1) := by decide +kernel
theorem dX2_takeLast_2 : decode cX2_takeLast 2 = .ok (.invokevirtual 27, 3) := by decide +kernel
theorem dX2_takeLast_5 : decode cX2_takeLast 5 = .ok (.iconst 1, 1) := by decide +kernel
theorem dX2_takeLast_6 : decode cX2_takeLast 6 = .ok (.isub, 1) := by decide +kernel
theorem dX2_takeLast_7 : decode cX2_takeLast 7 = .ok (.istore_n 2, 1) := by decide +kernel
theorem dX2_takeLast_8 : decode cX2_takeLast 8 = .ok (.iload_n 2, 1) := by decide +kernel
theorem dX2_takeLast_9 : decode cX2_takeLast 9 = .ok (.ifCond .ge 5, 3) := by decide +kernel
theorem dX2_takeLast_12 : decode cX2_takeLast 12 = .ok (.iconst 0, 1) := by decide +kernel
theorem dX2_takeLast_13 : decode cX2_takeLast 13 = .ok (.ireturn, 1) := by decide +kernel
theorem dX2_takeLast_14 : decode cX2_takeLast 14 = .ok (.aload_n 0, 1) := by decide +kernel
theorem dX2_takeLast_15 : decode cX2_takeLast 15 = .ok (.getfield 16, 3) := by decide +kernel
theorem dX2_takeLast_18 : decode cX2_takeLast 18 = .ok (.iload_n 1, 1) := by decide +kernel
theorem dX2_takeLast_19 : decode cX2_takeLast 19 = .ok (.iload_n 2, 1) := by decide +kernel
theorem dX2_takeLast_20 : decode cX2_takeLast 20 = .ok (.iastore, 1) := by decide +kernel
theorem dX2_takeLast_21 : decode cX2_takeLast 21 = .ok (.aload_n 0, 1) := by decide +kernel
theorem dX2_takeLast_22 : decode cX2_takeLast 22 = .ok (.dup, 1) := by decide +kernel
theorem dX2_takeLast_23 : decode cX2_takeLast 23 = .ok (.getfield 24, 3) := by decide +kernel
theorem dX2_takeLast_26 : decode cX2_takeLast 26 = .ok (.iconst 1, 1) := by decide +kernel
theorem dX2_takeLast_27 : decode cX2_takeLast 27 = .ok (.isub, 1) := by decide +kernel
theorem dX2_takeLast_28 : decode cX2_takeLast 28 = .ok (.putfield 24, 3) := by decide +kernel
theorem dX2_takeLast_31 : decode cX2_takeLast 31 = .ok (.iload_n 2, 1) := by decide +kernel
theorem dX2_takeLast_32 : decode cX2_takeLast 32 = .ok (.ifCond .ne 23, 3) := by decide +kernel
theorem dX2_takeLast_35 : decode cX2_takeLast 35 = .ok (.iload_n 1, 1) := by decide +kernel
theorem dX2_takeLast_36 : decode cX2_takeLast 36 = .ok (.aload_n 0, 1) := by decide +kernel
theorem dX2_takeLast_37 : decode cX2_takeLast 37 = .ok (.getfield 20, 3) := by decide +kernel
theorem dX2_takeLast_40 : decode cX2_takeLast 40 = .ok (.iconst 1, 1) := by decide +kernel
theorem dX2_takeLast_41 : decode cX2_takeLast 41 = .ok (.isub, 1) := by decide +kernel
theorem dX2_takeLast_42 : decode cX2_takeLast 42 = .ok (.if_icmp .ne 13, 3) := by decide +kernel
theorem dX2_takeLast_45 : decode cX2_takeLast 45 = .ok (.aload_n 0, 1) := by decide +kernel
theorem dX2_takeLast_46 : decode cX2_takeLast 46 = .ok (.dup, 1) := by decide +kernel
theorem dX2_takeLast_47 : decode cX2_takeLast 47 = .ok (.getfield 20, 3) := by decide +kernel
theorem dX2_takeLast_50 : decode cX2_takeLast 50 = .ok (.iconst 1, 1) := by decide +kernel
theorem dX2_takeLast_51 : decode cX2_takeLast 51 = .ok (.isub, 1) := by decide +kernel
theorem dX2_takeLast_52 : decode cX2_takeLast 52 = .ok (.putfield 20, 3) := by decide +kernel
theorem dX2_takeLast_55 : decode cX2_takeLast 55 = .ok (.aload_n 0, 1) := by decide +kernel
theorem dX2_takeLast_56 : decode cX2_takeLast 56 = .ok (.getfield 11, 3) := by decide +kernel
theorem dX2_takeLast_59 : decode cX2_takeLast 59 = .ok (.iload_n 1, 1) := by decide +kernel
theorem dX2_takeLast_60 : decode cX2_takeLast 60 = .ok (.aaload, 1) := by decide +kernel
theorem dX2_takeLast_61 : decode cX2_takeLast 61 = .ok (.iload_n 2, 1) := by decide +kernel
theorem dX2_takeLast_62 : decode cX2_takeLast 62 = .ok (.iaload, 1) := by decide +kernel
theorem dX2_takeLast_63 : decode cX2_takeLast 63 = .ok (.ireturn, 1) := by decide +kernel
set_option maxRecDepth 20000 in
theorem ggX2_exchange_X2_has : GoodIn wsX2_exchange wsX2_has := goodIn_r _ [6, 7, 8, 9, 5, 10, 11, 12, 13, 14, 15] (by decide +kernel) (by decide +kernel)
set_option maxRecDepth 20000 in
theorem gX2_exchange_X2_has : GoodIn wsX2_exchange (wsV RX2 31 RX2 yX2_has wsX2_has) := goodIn_app (goodIn_of _ (by decide +kernel)) ggX2_exchange_X2_has
theorem dX2_exchange_0 : decode cX2_exchange 0 = .ok (.aload_n 0, 1) := by decide +kernel
theorem dX2_exchange_1 : decode cX2_exchange 1 = .ok (.iload_n 1, 1) := by decide +kernel
theorem dX2_exchange_2 : decode cX2_exchange 2 = .ok (.iload_n 2, 1) := by decide +kernel
theorem dX2_exchange_3 : decode cX2_exchange 3 = .ok (.invokevirtual 31, 3) := by decide +kernel
theorem dX2_exchange_6 : decode cX2_exchange 6 = .ok (.ifCond .ne 5, 3) := by decide +kernel
theorem dX2_exchange_9 : decode cX2_exchange 9 = .ok (.iload_n 3, 1) := by decide +kernel
theorem dX2_exchange_10 : decode cX2_exchange 10 = .ok (.ireturn, 1) := by decide +kernel
theorem dX2_exchange_11 : decode cX2_exchange 11 = .ok (.aload_n 0, 1) := by decide +kernel
theorem dX2_exchange_12 : decode cX2_exchange 12 = .ok (.getfield 11, 3) := by decide +kernel
theorem dX2_exchange_15 : decode cX2_exchange 15 = .ok (.iload_n 1, 1) := by decide +kernel
theorem dX2_exchange_16 : decode cX2_exchange 16 = .ok (.aaload, 1) := by decide +kernel
theorem dX2_exchange_17 : decode cX2_exchange 17 = .ok (.iload_n 2, 1) := by decide +kernel
theorem dX2_exchange_18 : decode cX2_exchange 18 = .ok (.iaload, 1) := by decide +kernel
theorem dX2_exchange_19 : decode cX2_exchange 19 = .ok (.istore 4, 2) := by decide +kernel
theorem dX2_exchange_21 : decode cX2_exchange 21 = .ok (.aload_n 0, 1) := by decide +kernel
theorem dX2_exchange_22 : decode cX2_exchange 22 = .ok (.getfield 11, 3) := by decide +kernel
theorem dX2_exchange_25 : decode cX2_exchange 25 = .ok (.iload_n 1, 1) := by decide +kernel
theorem dX2_exchange_26 : decode cX2_exchange 26 = .ok (.aaload, 1) := by decide +kernel
theorem dX2_exchange_27 : decode cX2_exchange 27 = .ok (.iload_n 2, 1) := by decide +kernel
theorem dX2_exchange_28 : decode cX2_exchange 28 = .ok (.iload_n 3, 1) := by decide +kernel
theorem dX2_exchange_29 : decode cX2_exchange 29 = .ok (.iastore, 1) := by decide +kernel
theorem dX2_exchange_30 : decode cX2_exchange 30 = .ok (.iload 4, 2) := by decide +kernel
theorem dX2_exchange_32 : decode cX2_exchange 32 = .ok (.ireturn, 1) := by decide +kernel
set_option maxRecDepth 20000 in
theorem ggX2_insert_X2_firstGreater : GoodIn wsX2_insert wsX2_firstGreater := goodIn_r _ [5, 6, 7, 8, 9, 4, 10, 11, 33, 34, 35, 36] (by decide +kernel) (by decide +kernel)
set_option maxRecDepth 20000 in
theorem gX2_insert_X2_firstGreater : GoodIn wsX2_insert (wsV RX2 51 RX2 yX2_firstGreater wsX2_firstGreater) := goodIn_app (goodIn_of _ (by decide +kernel)) ggX2_insert_X2_firstGreater
set_option maxRecDepth 20000 in
theorem ggX2_insert_X2_has : GoodIn wsX2_insert wsX2_has := goodIn_r _ [15, 7, 8, 9, 4, 10, 11, 33, 34, 35, 36] (by decide +kernel) (by decide +kernel)
set_option maxRecDepth 20000 in
theorem gX2_insert_X2_has : GoodIn wsX2_insert (wsV RX2 31 RX2 yX2_has wsX2_has) := goodIn_app (goodIn_of _ (by decide +kernel)) ggX2_insert_X2_has
set_option maxRecDepth 20000 in
theorem ggX2_insert_X2_append : GoodIn wsX2_insert wsX2_append := goodIn_r _ [19, 20, 6, 11, 21, 22, 23, 24, 25, 26, 27, 28, 33, 34, 35, 36] (by decide +kernel) (by decide +kernel)
set_option maxRecDepth 20000 in
theorem gX2_insert_X2_append : GoodIn wsX2_insert (wsV RX2 54 RX2 yX2_append wsX2_append) := goodIn_app (goodIn_of _ (by decide +kernel)) ggX2_insert_X2_append
set_option maxRecDepth 20000 in
theorem ggX2_insert_X2_exchange : GoodIn wsX2_insert wsX2_exchange := goodIn_r _ [32, 6, 12, 13, 14, 4, 15, 7, 8, 9, 10, 11, 33, 34, 35, 36] (by decide +kernel) (by decide +kernel)
set_option maxRecDepth 20000 in
theorem gX2_insert_X2_exchange : GoodIn wsX2_insert (wsV RX2 58 RX2 yX2_exchange wsX2_exchange) := goodIn_app (goodIn_of _ (by decide +kernel)) ggX2_insert_X2_exchange
theorem dX2_insert_0 : decode cX2_insert 0 = .ok (.iload_n 1, 1) := by decide +kernel
theorem dX2_insert_1 : decode cX2_insert 1 = .ok (.istore_n 2, 1) := by decide +kernel
theorem dX2_insert_2 : decode cX2_insert 2 = .ok (.iconst 0, 1) := by decide +kernel
theorem dX2_insert_3 : decode cX2_insert 3 = .ok (.istore_n 3, 1) := by decide +kernel
theorem dX2_insert_4 : decode cX2_insert 4 = .ok (.iload_n 3, 1) := by decide +kernel
theorem dX2_insert_5 : decode cX2_insert 5 = .ok (.bipush 9, 2) := by decide +kernel
theorem dX2_insert_7 : decode cX2_insert 7 = .ok (.if_icmp .ge 44, 3) := by decide +kernel
theorem dX2_insert_10 : decode cX2_insert 10 = .ok (.aload_n 0, 1) := by decide +kernel
theorem dX2_insert_11 : decode cX2_insert 11 = .ok (.iload_n 3, 1) := by decide +kernel
theorem dX2_insert_12 : decode cX2_insert 12 = .ok (.iload_n 2, 1) := by decide +kernel
theorem dX2_insert_13 : decode cX2_insert 13 = .ok (.invokevirtual 51, 3) := by decide +kernel
theorem dX2_insert_16 : decode cX2_insert 16 = .ok (.istore 4, 2) := by decide +kernel
theorem dX2_insert_18 : decode cX2_insert 18 = .ok (.aload_n 0, 1) := by decide +kernel
theorem dX2_insert_19 : decode cX2_insert 19 = .ok (.iload_n 3, 1) := by decide +kernel
theorem dX2_insert_20 : decode cX2_insert 20 = .ok (.iload 4, 2) := by decide +kernel
theorem dX2_insert_22 : decode cX2_insert 22 = .ok (.invokevirtual 31, 3) := by decide +kernel
theorem dX2_insert_25 : decode cX2_insert 25 = .ok (.ifCond .ne 11, 3) := by decide +kernel
theorem dX2_insert_28 : decode cX2_insert 28 = .ok (.aload_n 0, 1) := by decide +kernel
theorem dX2_insert_29 : decode cX2_insert 29 = .ok (.iload_n 3, 1) := by decide +kernel
theorem dX2_insert_30 : decode cX2_insert 30 = .ok (.iload_n 2, 1) := by decide +kernel
theorem dX2_insert_31 : decode cX2_insert 31 = .ok (.invokevirtual 54, 3) := by decide +kernel
theorem dX2_insert_34 : decode cX2_insert 34 = .ok (.iload_n 3, 1) := by decide +kernel
theorem dX2_insert_35 : decode cX2_insert 35 = .ok (.ireturn, 1) := by decide +kernel
theorem dX2_insert_36 : decode cX2_insert 36 = .ok (.aload_n 0, 1) := by decide +kernel
theorem dX2_insert_37 : decode cX2_insert 37 = .ok (.iload_n 3, 1) := by decide +kernel
theorem dX2_insert_38 : decode cX2_insert 38 = .ok (.iload 4, 2) := by decide +kernel
theorem dX2_insert_40 : decode cX2_insert 40 = .ok (.iload_n 2, 1) := by decide +kernel
theorem dX2_insert_41 : decode cX2_insert 41 = .ok (.invokevirtual 58, 3) := by decide +kernel
theorem dX2_insert_44 : decode cX2_insert 44 = .ok (.istore_n 2, 1) := by decide +kernel
theorem dX2_insert_45 : decode cX2_insert 45 = .ok (.iinc 3 1, 3) := by decide +kernel
theorem dX2_insert_48 : decode cX2_insert 48 = .ok (.goto (-44), 3) := by decide +kernel
theorem dX2_insert_51 : decode cX2_insert 51 = .ok (.bipush 9, 2) := by decide +kernel
theorem dX2_insert_53 : decode cX2_insert 53 = .ok (.ireturn, 1) := by decide +kernel
set_option maxRecDepth 20000 in
theorem ggX2_firstGreater_X2_lengthOf : GoodIn wsX2_firstGreater wsX2_lengthOf := goodIn_r _ [6, 7, 8, 9, 10, 11] (by decide +kernel) (by decide +kernel)
set_option maxRecDepth 20000 in
theorem gX2_firstGreater_X2_lengthOf : GoodIn wsX2_firstGreater (wsV RX2 27 RX2 yX2_lengthOf wsX2_lengthOf) := goodIn_app (goodIn_of _ (by decide +kernel)) ggX2_firstGreater_X2_lengthOf
theorem dX2_firstGreater_0 : decode cX2_firstGreater 0 = .ok (.aload_n 0, 1) := by decide +kernel
theorem dX2_firstGreater_1 : decode cX2_firstGreater 1 = .ok (.iload_n 1, 1) := by decide +kernel
theorem dX2_firstGreater_2 : decode cX2_firstGreater 2 = .ok (.invokevirtual 27, 3) := by decide +kernel
theorem dX2_firstGreater_5 : decode cX2_firstGreater 5 = .ok (.istore_n 3, 1) := by decide +kernel
theorem dX2_firstGreater_6 : decode cX2_firstGreater 6 = .ok (.iconst 0, 1) := by decide +kernel
theorem dX2_firstGreater_7 : decode cX2_firstGreater 7 = .ok (.istore 4, 2) := by decide +kernel
theorem dX2_firstGreater_9 : decode cX2_firstGreater 9 = .ok (.iload 4, 2) := by decide +kernel
theorem dX2_firstGreater_11 : decode cX2_firstGreater 11 = .ok (.iload_n 3, 1) := by decide +kernel
theorem dX2_firstGreater_12 : decode cX2_firstGreater 12 = .ok (.if_icmp .ge 25, 3) := by decide +kernel
theorem dX2_firstGreater_15 : decode cX2_firstGreater 15 = .ok (.aload_n 0, 1) := by decide +kernel
theorem dX2_firstGreater_16 : decode cX2_firstGreater 16 = .ok (.getfield 11, 3) := by decide +kernel
theorem dX2_firstGreater_19 : decode cX2_firstGreater 19 = .ok (.iload_n 1, 1) := by decide +kernel
theorem dX2_firstGreater_20 : decode cX2_firstGreater 20 = .ok (.aaload, 1) := by decide +kernel
theorem dX2_firstGreater_21 : decode cX2_firstGreater 21 = .ok (.iload 4, 2) := by decide +kernel
theorem dX2_firstGreater_23 : decode cX2_firstGreater 23 = .ok (.iaload, 1) := by decide +kernel
theorem dX2_firstGreater_24 : decode cX2_firstGreater 24 = .ok (.iload_n 2, 1) := by decide +kernel
theorem dX2_firstGreater_25 : decode cX2_firstGreater 25 = .ok (.if_icmp .le 6, 3) := by decide +kernel
theorem dX2_firstGreater_28 : decode cX2_firstGreater 28 = .ok (.iload 4, 2) := by decide +kernel
theorem dX2_firstGreater_30 : decode cX2_firstGreater 30 = .ok (.ireturn, 1) := by decide +kernel
theorem dX2_firstGreater_31 : decode cX2_firstGreater 31 = .ok (.iinc 4 1, 3) := by decide +kernel
theorem dX2_firstGreater_34 : decode cX2_firstGreater 34 = .ok (.goto (-25), 3) := by decide +kernel
theorem dX2_firstGreater_37 : decode cX2_firstGreater 37 = .ok (.iload_n 3, 1) := by decide +kernel
theorem dX2_firstGreater_38 : decode cX2_firstGreater 38 = .ok (.ireturn, 1) := by decide +kernel
set_option maxRecDepth 20000 in
theorem ggX2_takeOut_X2_takeLast : GoodIn wsX2_takeOut wsX2_takeLast := goodIn_r _ [5, 6, 7, 8, 9, 10, 11, 12, 4, 13, 26, 27, 28, 29] (by decide +kernel) (by decide +kernel)
set_option maxRecDepth 20000 in
theorem gX2_takeOut_X2_takeLast : GoodIn wsX2_takeOut (wsV RX2 62 RX2 yX2_takeLast wsX2_takeLast) := goodIn_app (goodIn_of _ (by decide +kernel)) ggX2_takeOut_X2_takeLast
set_option maxRecDepth 20000 in
theorem ggX2_takeOut_X2_lastLess : GoodIn wsX2_takeOut wsX2_lastLess := goodIn_r _ [17, 9, 10, 11, 12, 4, 13, 6, 26, 27, 28, 29] (by decide +kernel) (by decide +kernel)
set_option maxRecDepth 20000 in
theorem gX2_takeOut_X2_lastLess : GoodIn wsX2_takeOut (wsV RX2 65 RX2 yX2_lastLess wsX2_lastLess) := goodIn_app (goodIn_of _ (by decide +kernel)) ggX2_takeOut_X2_lastLess
set_option maxRecDepth 20000 in
theorem ggX2_takeOut_X2_exchange : GoodIn wsX2_takeOut wsX2_exchange := goodIn_r _ [21, 9, 22, 23, 24, 4, 25, 10, 11, 12, 13, 6, 26, 27, 28, 29] (by decide +kernel) (by decide +kernel)
set_option maxRecDepth 20000 in
theorem gX2_takeOut_X2_exchange : GoodIn wsX2_takeOut (wsV RX2 58 RX2 yX2_exchange wsX2_exchange) := goodIn_app (goodIn_of _ (by decide +kernel)) ggX2_takeOut_X2_exchange
theorem dX2_takeOut_0 : decode cX2_takeOut 0 = .ok (.aload_n 0, 1) := by decide +kernel
theorem dX2_takeOut_1 : decode cX2_takeOut 1 = .ok (.iload_n 1, 1) := by decide +kernel
theorem dX2_takeOut_2 : decode cX2_takeOut 2 = .ok (.invokevirtual 62, 3) := by decide +kernel
theorem dX2_takeOut_5 : decode cX2_takeOut 5 = .ok (.istore_n 2, 1) := by decide +kernel
theorem dX2_takeOut_6 : decode cX2_takeOut 6 = .ok (.iload_n 1, 1) := by decide +kernel
theorem dX2_takeOut_7 : decode cX2_takeOut 7 = .ok (.iconst 1, 1) := by decide +kernel
theorem dX2_takeOut_8 : decode cX2_takeOut 8 = .ok (.isub, 1) := by decide +kernel
theorem dX2_takeOut_9 : decode cX2_takeOut 9 = .ok (.istore_n 3, 1) := by decide +kernel
theorem dX2_takeOut_10 : decode cX2_takeOut 10 = .ok (.iload_n 3, 1) := by decide +kernel
theorem dX2_takeOut_11 : decode cX2_takeOut 11 = .ok (.ifCond .lt 22, 3) := by decide +kernel
theorem dX2_takeOut_14 : decode cX2_takeOut 14 = .ok (.aload_n 0, 1) := by decide +kernel
theorem dX2_takeOut_15 : decode cX2_takeOut 15 = .ok (.iload_n 3, 1) := by decide +kernel
theorem dX2_takeOut_16 : decode cX2_takeOut 16 = .ok (.aload_n 0, 1) := by decide +kernel
theorem dX2_takeOut_17 : decode cX2_takeOut 17 = .ok (.iload_n 3, 1) := by decide +kernel
theorem dX2_takeOut_18 : decode cX2_takeOut 18 = .ok (.iload_n 2, 1) := by decide +kernel
theorem dX2_takeOut_19 : decode cX2_takeOut 19 = .ok (.invokevirtual 65, 3) := by decide +kernel
theorem dX2_takeOut_22 : decode cX2_takeOut 22 = .ok (.iload_n 2, 1) := by decide +kernel
theorem dX2_takeOut_23 : decode cX2_takeOut 23 = .ok (.invokevirtual 58, 3) := by decide +kernel
theorem dX2_takeOut_26 : decode cX2_takeOut 26 = .ok (.istore_n 2, 1) := by decide +kernel
theorem dX2_takeOut_27 : decode cX2_takeOut 27 = .ok (.iinc 3 (-1), 3) := by decide +kernel
theorem dX2_takeOut_30 : decode cX2_takeOut 30 = .ok (.goto (-20), 3) := by decide +kernel
theorem dX2_takeOut_33 : decode cX2_takeOut 33 = .ok (.iload_n 2, 1) := by decide +kernel
theorem dX2_takeOut_34 : decode cX2_takeOut 34 = .ok (.ireturn, 1) := by decide +kernel
set_option maxRecDepth 20000 in
theorem ggX2_lastLess_X2_lengthOf : GoodIn wsX2_lastLess wsX2_lengthOf := goodIn_r _ [6, 7, 8, 9, 10, 11] (by decide +kernel) (by decide +kernel)
set_option maxRecDepth 20000 in
theorem gX2_lastLess_X2_lengthOf : GoodIn wsX2_lastLess (wsV RX2 27 RX2 yX2_lengthOf wsX2_lengthOf) := goodIn_app (goodIn_of _ (by decide +kernel)) ggX2_lastLess_X2_lengthOf
theorem dX2_lastLess_0 : decode cX2_lastLess 0 = .ok (.aload_n 0, 1) := by decide +kernel
theorem dX2_lastLess_1 : decode cX2_lastLess 1 = .ok (.iload_n 1, 1) := by decide +kernel
theorem dX2_lastLess_2 : decode cX2_lastLess 2 = .ok (.invokevirtual 27, 3) := by decide +kernel
theorem dX2_lastLess_5 : decode cX2_lastLess 5 = .ok (.iconst 1, 1) := by decide +kernel
theorem dX2_lastLess_6 : decode cX2_lastLess 6 = .ok (.isub, 1) := by decide +kernel
theorem dX2_lastLess_7 : decode cX2_lastLess 7 = .ok (.istore_n 3, 1) := by decide +kernel
theorem dX2_lastLess_8 : decode cX2_lastLess 8 = .ok (.iload_n 3, 1) := by decide +kernel
theorem dX2_lastLess_9 : decode cX2_lastLess 9 = .ok (.ifCond .lt 21, 3) := by decide +kernel
theorem dX2_lastLess_12 : decode cX2_lastLess 12 = .ok (.aload_n 0, 1) := by decide +kernel
theorem dX2_lastLess_13 : decode cX2_lastLess 13 = .ok (.getfield 11, 3) := by decide +kernel
theorem dX2_lastLess_16 : decode cX2_lastLess 16 = .ok (.iload_n 1, 1) := by decide +kernel
theorem dX2_lastLess_17 : decode cX2_lastLess 17 = .ok (.aaload, 1) := by decide +kernel
theorem dX2_lastLess_18 : decode cX2_lastLess 18 = .ok (.iload_n 3, 1) := by decide +kernel
theorem dX2_lastLess_19 : decode cX2_lastLess 19 = .ok (.iaload, 1) := by decide +kernel
theorem dX2_lastLess_20 : decode cX2_lastLess 20 = .ok (.iload_n 2, 1) := by decide +kernel
theorem dX2_lastLess_21 : decode cX2_lastLess 21 = .ok (.if_icmp .lt 9, 3) := by decide +kernel
theorem dX2_lastLess_24 : decode cX2_lastLess 24 = .ok (.iinc 3 (-1), 3) := by decide +kernel
theorem dX2_lastLess_27 : decode cX2_lastLess 27 = .ok (.goto (-19), 3) := by decide +kernel
theorem dX2_lastLess_30 : decode cX2_lastLess 30 = .ok (.iload_n 3, 1) := by decide +kernel
theorem dX2_lastLess_31 : decode cX2_lastLess 31 = .ok (.ireturn, 1) := by decide +kernel
set_option maxRecDepth 20000 in
theorem ggX2_rowEndingIn_X2_at : GoodIn wsX2_rowEndingIn wsX2_at := goodIn_r _ [7, 8, 9, 10, 11, 6, 12, 13, 14, 15, 16, 2, 17, 18, 19, 20] (by decide +kernel) (by decide +kernel)
set_option maxRecDepth 20000 in
theorem gX2_rowEndingIn_X2_at : GoodIn wsX2_rowEndingIn (wsV RX2 68 RX2 yX2_at wsX2_at) := goodIn_app (goodIn_of _ (by decide +kernel)) ggX2_rowEndingIn_X2_at
theorem dX2_rowEndingIn_0 : decode cX2_rowEndingIn 0 = .ok (.iconst 0, 1) := by decide +kernel
theorem dX2_rowEndingIn_1 : decode cX2_rowEndingIn 1 = .ok (.istore_n 2, 1) := by decide +kernel
theorem dX2_rowEndingIn_2 : decode cX2_rowEndingIn 2 = .ok (.iload_n 2, 1) := by decide +kernel
theorem dX2_rowEndingIn_3 : decode cX2_rowEndingIn 3 = .ok (.aload_n 0, 1) := by decide +kernel
theorem dX2_rowEndingIn_4 : decode cX2_rowEndingIn 4 = .ok (.getfield 20, 3) := by decide +kernel
theorem dX2_rowEndingIn_7 : decode cX2_rowEndingIn 7 = .ok (.if_icmp .ge 28, 3) := by decide +kernel
theorem dX2_rowEndingIn_10 : decode cX2_rowEndingIn 10 = .ok (.aload_n 0, 1) := by decide +kernel
theorem dX2_rowEndingIn_11 : decode cX2_rowEndingIn 11 = .ok (.iload_n 2, 1) := by decide +kernel
theorem dX2_rowEndingIn_12 : decode cX2_rowEndingIn 12 = .ok (.aload_n 0, 1) := by decide +kernel
theorem dX2_rowEndingIn_13 : decode cX2_rowEndingIn 13 = .ok (.getfield 16, 3) := by decide +kernel
theorem dX2_rowEndingIn_16 : decode cX2_rowEndingIn 16 = .ok (.iload_n 2, 1) := by decide +kernel
theorem dX2_rowEndingIn_17 : decode cX2_rowEndingIn 17 = .ok (.iaload, 1) := by decide +kernel
theorem dX2_rowEndingIn_18 : decode cX2_rowEndingIn 18 = .ok (.iconst 1, 1) := by decide +kernel
theorem dX2_rowEndingIn_19 : decode cX2_rowEndingIn 19 = .ok (.isub, 1) := by decide +kernel
theorem dX2_rowEndingIn_20 : decode cX2_rowEndingIn 20 = .ok (.invokevirtual 68, 3) := by decide +kernel
theorem dX2_rowEndingIn_23 : decode cX2_rowEndingIn 23 = .ok (.iload_n 1, 1) := by decide +kernel
theorem dX2_rowEndingIn_24 : decode cX2_rowEndingIn 24 = .ok (.if_icmp .ne 5, 3) := by decide +kernel
theorem dX2_rowEndingIn_27 : decode cX2_rowEndingIn 27 = .ok (.iload_n 2, 1) := by decide +kernel
theorem dX2_rowEndingIn_28 : decode cX2_rowEndingIn 28 = .ok (.ireturn, 1) := by decide +kernel
theorem dX2_rowEndingIn_29 : decode cX2_rowEndingIn 29 = .ok (.iinc 2 1, 3) := by decide +kernel
theorem dX2_rowEndingIn_32 : decode cX2_rowEndingIn 32 = .ok (.goto (-30), 3) := by decide +kernel
theorem dX2_rowEndingIn_35 : decode cX2_rowEndingIn 35 = .ok (.iconst 0, 1) := by decide +kernel
theorem dX2_rowEndingIn_36 : decode cX2_rowEndingIn 36 = .ok (.ireturn, 1) := by decide +kernel
set_option maxRecDepth 20000 in
theorem ggX2_hasShapeOf_X2_lengthOf : GoodIn wsX2_hasShapeOf wsX2_lengthOf := goodIn_r _ [6, 1, 7, 8, 9, 10] (by decide +kernel) (by decide +kernel)
set_option maxRecDepth 20000 in
theorem gX2_hasShapeOf_X2_lengthOf : GoodIn wsX2_hasShapeOf (wsV RX2 27 RX2 yX2_lengthOf wsX2_lengthOf) := goodIn_app (goodIn_of _ (by decide +kernel)) ggX2_hasShapeOf_X2_lengthOf
theorem dX2_hasShapeOf_0 : decode cX2_hasShapeOf 0 = .ok (.iconst 0, 1) := by decide +kernel
theorem dX2_hasShapeOf_1 : decode cX2_hasShapeOf 1 = .ok (.istore_n 2, 1) := by decide +kernel
theorem dX2_hasShapeOf_2 : decode cX2_hasShapeOf 2 = .ok (.iload_n 2, 1) := by decide +kernel
theorem dX2_hasShapeOf_3 : decode cX2_hasShapeOf 3 = .ok (.bipush 9, 2) := by decide +kernel
theorem dX2_hasShapeOf_5 : decode cX2_hasShapeOf 5 = .ok (.if_icmp .ge 25, 3) := by decide +kernel
theorem dX2_hasShapeOf_8 : decode cX2_hasShapeOf 8 = .ok (.aload_n 0, 1) := by decide +kernel
theorem dX2_hasShapeOf_9 : decode cX2_hasShapeOf 9 = .ok (.getfield 16, 3) := by decide +kernel
theorem dX2_hasShapeOf_12 : decode cX2_hasShapeOf 12 = .ok (.iload_n 2, 1) := by decide +kernel
theorem dX2_hasShapeOf_13 : decode cX2_hasShapeOf 13 = .ok (.iaload, 1) := by decide +kernel
theorem dX2_hasShapeOf_14 : decode cX2_hasShapeOf 14 = .ok (.aload_n 1, 1) := by decide +kernel
theorem dX2_hasShapeOf_15 : decode cX2_hasShapeOf 15 = .ok (.iload_n 2, 1) := by decide +kernel
theorem dX2_hasShapeOf_16 : decode cX2_hasShapeOf 16 = .ok (.invokevirtual 27, 3) := by decide +kernel
theorem dX2_hasShapeOf_19 : decode cX2_hasShapeOf 19 = .ok (.if_icmp .eq 5, 3) := by decide +kernel
theorem dX2_hasShapeOf_22 : decode cX2_hasShapeOf 22 = .ok (.iconst 0, 1) := by decide +kernel
theorem dX2_hasShapeOf_23 : decode cX2_hasShapeOf 23 = .ok (.ireturn, 1) := by decide +kernel
theorem dX2_hasShapeOf_24 : decode cX2_hasShapeOf 24 = .ok (.iinc 2 1, 3) := by decide +kernel
theorem dX2_hasShapeOf_27 : decode cX2_hasShapeOf 27 = .ok (.goto (-25), 3) := by decide +kernel
theorem dX2_hasShapeOf_30 : decode cX2_hasShapeOf 30 = .ok (.iconst 1, 1) := by decide +kernel
theorem dX2_hasShapeOf_31 : decode cX2_hasShapeOf 31 = .ok (.ireturn, 1) := by decide +kernel
theorem dX2_isStaircase_0 : decode cX2_isStaircase 0 = .ok (.iconst 1, 1) := by decide +kernel
theorem dX2_isStaircase_1 : decode cX2_isStaircase 1 = .ok (.istore_n 1, 1) := by decide +kernel
theorem dX2_isStaircase_2 : decode cX2_isStaircase 2 = .ok (.iload_n 1, 1) := by decide +kernel
theorem dX2_isStaircase_3 : decode cX2_isStaircase 3 = .ok (.aload_n 0, 1) := by decide +kernel
theorem dX2_isStaircase_4 : decode cX2_isStaircase 4 = .ok (.getfield 20, 3) := by decide +kernel
theorem dX2_isStaircase_7 : decode cX2_isStaircase 7 = .ok (.if_icmp .ge 28, 3) := by decide +kernel
theorem dX2_isStaircase_10 : decode cX2_isStaircase 10 = .ok (.aload_n 0, 1) := by decide +kernel
theorem dX2_isStaircase_11 : decode cX2_isStaircase 11 = .ok (.getfield 16, 3) := by decide +kernel
theorem dX2_isStaircase_14 : decode cX2_isStaircase 14 = .ok (.iload_n 1, 1) := by decide +kernel
theorem dX2_isStaircase_15 : decode cX2_isStaircase 15 = .ok (.iaload, 1) := by decide +kernel
theorem dX2_isStaircase_16 : decode cX2_isStaircase 16 = .ok (.aload_n 0, 1) := by decide +kernel
theorem dX2_isStaircase_17 : decode cX2_isStaircase 17 = .ok (.getfield 16, 3) := by decide +kernel
theorem dX2_isStaircase_20 : decode cX2_isStaircase 20 = .ok (.iload_n 1, 1) := by decide +kernel
theorem dX2_isStaircase_21 : decode cX2_isStaircase 21 = .ok (.iconst 1, 1) := by decide +kernel
theorem dX2_isStaircase_22 : decode cX2_isStaircase 22 = .ok (.isub, 1) := by decide +kernel
theorem dX2_isStaircase_23 : decode cX2_isStaircase 23 = .ok (.iaload, 1) := by decide +kernel
theorem dX2_isStaircase_24 : decode cX2_isStaircase 24 = .ok (.if_icmp .le 5, 3) := by decide +kernel
theorem dX2_isStaircase_27 : decode cX2_isStaircase 27 = .ok (.iconst 0, 1) := by decide +kernel
theorem dX2_isStaircase_28 : decode cX2_isStaircase 28 = .ok (.ireturn, 1) := by decide +kernel
theorem dX2_isStaircase_29 : decode cX2_isStaircase 29 = .ok (.iinc 1 1, 3) := by decide +kernel
theorem dX2_isStaircase_32 : decode cX2_isStaircase 32 = .ok (.goto (-30), 3) := by decide +kernel
theorem dX2_isStaircase_35 : decode cX2_isStaircase 35 = .ok (.iconst 1, 1) := by decide +kernel
theorem dX2_isStaircase_36 : decode cX2_isStaircase 36 = .ok (.ireturn, 1) := by decide +kernel
set_option maxRecDepth 20000 in
theorem ggX2_rises_X2_at : GoodIn wsX2_rises wsX2_at := goodIn_r _ [8, 3, 9, 10, 11, 7, 12, 13, 14, 15, 16, 2, 17, 18, 19, 20] (by decide +kernel) (by decide +kernel)
set_option maxRecDepth 20000 in
theorem gX2_rises_X2_at : GoodIn wsX2_rises (wsV RX2 68 RX2 yX2_at wsX2_at) := goodIn_app (goodIn_of _ (by decide +kernel)) ggX2_rises_X2_at
theorem dX2_rises_0 : decode cX2_rises 0 = .ok (.iconst 0, 1) := by decide +kernel
theorem dX2_rises_1 : decode cX2_rises 1 = .ok (.istore_n 2, 1) := by decide +kernel
theorem dX2_rises_2 : decode cX2_rises 2 = .ok (.iload_n 2, 1) := by decide +kernel
theorem dX2_rises_3 : decode cX2_rises 3 = .ok (.aload_n 0, 1) := by decide +kernel
theorem dX2_rises_4 : decode cX2_rises 4 = .ok (.getfield 20, 3) := by decide +kernel
theorem dX2_rises_7 : decode cX2_rises 7 = .ok (.if_icmp .ge 81, 3) := by decide +kernel
theorem dX2_rises_10 : decode cX2_rises 10 = .ok (.iconst 0, 1) := by decide +kernel
theorem dX2_rises_11 : decode cX2_rises 11 = .ok (.istore_n 3, 1) := by decide +kernel
theorem dX2_rises_12 : decode cX2_rises 12 = .ok (.iload_n 3, 1) := by decide +kernel
theorem dX2_rises_13 : decode cX2_rises 13 = .ok (.aload_n 0, 1) := by decide +kernel
theorem dX2_rises_14 : decode cX2_rises 14 = .ok (.getfield 16, 3) := by decide +kernel
theorem dX2_rises_17 : decode cX2_rises 17 = .ok (.iload_n 2, 1) := by decide +kernel
theorem dX2_rises_18 : decode cX2_rises 18 = .ok (.iaload, 1) := by decide +kernel
theorem dX2_rises_19 : decode cX2_rises 19 = .ok (.if_icmp .ge 63, 3) := by decide +kernel
theorem dX2_rises_22 : decode cX2_rises 22 = .ok (.iload_n 3, 1) := by decide +kernel
theorem dX2_rises_23 : decode cX2_rises 23 = .ok (.ifCond .le 28, 3) := by decide +kernel
theorem dX2_rises_26 : decode cX2_rises 26 = .ok (.aload_n 0, 1) := by decide +kernel
theorem dX2_rises_27 : decode cX2_rises 27 = .ok (.getfield 11, 3) := by decide +kernel
theorem dX2_rises_30 : decode cX2_rises 30 = .ok (.iload_n 2, 1) := by decide +kernel
theorem dX2_rises_31 : decode cX2_rises 31 = .ok (.aaload, 1) := by decide +kernel
theorem dX2_rises_32 : decode cX2_rises 32 = .ok (.iload_n 3, 1) := by decide +kernel
theorem dX2_rises_33 : decode cX2_rises 33 = .ok (.iaload, 1) := by decide +kernel
theorem dX2_rises_34 : decode cX2_rises 34 = .ok (.aload_n 0, 1) := by decide +kernel
theorem dX2_rises_35 : decode cX2_rises 35 = .ok (.getfield 11, 3) := by decide +kernel
theorem dX2_rises_38 : decode cX2_rises 38 = .ok (.iload_n 2, 1) := by decide +kernel
theorem dX2_rises_39 : decode cX2_rises 39 = .ok (.aaload, 1) := by decide +kernel
theorem dX2_rises_40 : decode cX2_rises 40 = .ok (.iload_n 3, 1) := by decide +kernel
theorem dX2_rises_41 : decode cX2_rises 41 = .ok (.iconst 1, 1) := by decide +kernel
theorem dX2_rises_42 : decode cX2_rises 42 = .ok (.isub, 1) := by decide +kernel
theorem dX2_rises_43 : decode cX2_rises 43 = .ok (.iaload, 1) := by decide +kernel
theorem dX2_rises_44 : decode cX2_rises 44 = .ok (.iload_n 1, 1) := by decide +kernel
theorem dX2_rises_45 : decode cX2_rises 45 = .ok (.iadd, 1) := by decide +kernel
theorem dX2_rises_46 : decode cX2_rises 46 = .ok (.if_icmp .ge 5, 3) := by decide +kernel
theorem dX2_rises_49 : decode cX2_rises 49 = .ok (.iconst 0, 1) := by decide +kernel
theorem dX2_rises_50 : decode cX2_rises 50 = .ok (.ireturn, 1) := by decide +kernel
theorem dX2_rises_51 : decode cX2_rises 51 = .ok (.iload_n 2, 1) := by decide +kernel
theorem dX2_rises_52 : decode cX2_rises 52 = .ok (.ifCond .le 24, 3) := by decide +kernel
theorem dX2_rises_55 : decode cX2_rises 55 = .ok (.aload_n 0, 1) := by decide +kernel
theorem dX2_rises_56 : decode cX2_rises 56 = .ok (.getfield 11, 3) := by decide +kernel
theorem dX2_rises_59 : decode cX2_rises 59 = .ok (.iload_n 2, 1) := by decide +kernel
theorem dX2_rises_60 : decode cX2_rises 60 = .ok (.aaload, 1) := by decide +kernel
theorem dX2_rises_61 : decode cX2_rises 61 = .ok (.iload_n 3, 1) := by decide +kernel
theorem dX2_rises_62 : decode cX2_rises 62 = .ok (.iaload, 1) := by decide +kernel
theorem dX2_rises_63 : decode cX2_rises 63 = .ok (.aload_n 0, 1) := by decide +kernel
theorem dX2_rises_64 : decode cX2_rises 64 = .ok (.iload_n 2, 1) := by decide +kernel
theorem dX2_rises_65 : decode cX2_rises 65 = .ok (.iconst 1, 1) := by decide +kernel
theorem dX2_rises_66 : decode cX2_rises 66 = .ok (.isub, 1) := by decide +kernel
theorem dX2_rises_67 : decode cX2_rises 67 = .ok (.iload_n 3, 1) := by decide +kernel
theorem dX2_rises_68 : decode cX2_rises 68 = .ok (.invokevirtual 68, 3) := by decide +kernel
theorem dX2_rises_71 : decode cX2_rises 71 = .ok (.if_icmp .gt 5, 3) := by decide +kernel
theorem dX2_rises_74 : decode cX2_rises 74 = .ok (.iconst 0, 1) := by decide +kernel
theorem dX2_rises_75 : decode cX2_rises 75 = .ok (.ireturn, 1) := by decide +kernel
theorem dX2_rises_76 : decode cX2_rises 76 = .ok (.iinc 3 1, 3) := by decide +kernel
theorem dX2_rises_79 : decode cX2_rises 79 = .ok (.goto (-67), 3) := by decide +kernel
theorem dX2_rises_82 : decode cX2_rises 82 = .ok (.iinc 2 1, 3) := by decide +kernel
theorem dX2_rises_85 : decode cX2_rises 85 = .ok (.goto (-83), 3) := by decide +kernel
theorem dX2_rises_88 : decode cX2_rises 88 = .ok (.iconst 1, 1) := by decide +kernel
theorem dX2_rises_89 : decode cX2_rises 89 = .ok (.ireturn, 1) := by decide +kernel
theorem dX2_isBelow_0 : decode cX2_isBelow 0 = .ok (.iconst 0, 1) := by decide +kernel
theorem dX2_isBelow_1 : decode cX2_isBelow 1 = .ok (.istore_n 2, 1) := by decide +kernel
theorem dX2_isBelow_2 : decode cX2_isBelow 2 = .ok (.iload_n 2, 1) := by decide +kernel
theorem dX2_isBelow_3 : decode cX2_isBelow 3 = .ok (.aload_n 0, 1) := by decide +kernel
theorem dX2_isBelow_4 : decode cX2_isBelow 4 = .ok (.getfield 20, 3) := by decide +kernel
theorem dX2_isBelow_7 : decode cX2_isBelow 7 = .ok (.if_icmp .ge 41, 3) := by decide +kernel
theorem dX2_isBelow_10 : decode cX2_isBelow 10 = .ok (.iconst 0, 1) := by decide +kernel
theorem dX2_isBelow_11 : decode cX2_isBelow 11 = .ok (.istore_n 3, 1) := by decide +kernel
theorem dX2_isBelow_12 : decode cX2_isBelow 12 = .ok (.iload_n 3, 1) := by decide +kernel
theorem dX2_isBelow_13 : decode cX2_isBelow 13 = .ok (.aload_n 0, 1) := by decide +kernel
theorem dX2_isBelow_14 : decode cX2_isBelow 14 = .ok (.getfield 16, 3) := by decide +kernel
theorem dX2_isBelow_17 : decode cX2_isBelow 17 = .ok (.iload_n 2, 1) := by decide +kernel
theorem dX2_isBelow_18 : decode cX2_isBelow 18 = .ok (.iaload, 1) := by decide +kernel
theorem dX2_isBelow_19 : decode cX2_isBelow 19 = .ok (.if_icmp .ge 23, 3) := by decide +kernel
theorem dX2_isBelow_22 : decode cX2_isBelow 22 = .ok (.aload_n 0, 1) := by decide +kernel
theorem dX2_isBelow_23 : decode cX2_isBelow 23 = .ok (.getfield 11, 3) := by decide +kernel
theorem dX2_isBelow_26 : decode cX2_isBelow 26 = .ok (.iload_n 2, 1) := by decide +kernel
theorem dX2_isBelow_27 : decode cX2_isBelow 27 = .ok (.aaload, 1) := by decide +kernel
theorem dX2_isBelow_28 : decode cX2_isBelow 28 = .ok (.iload_n 3, 1) := by decide +kernel
theorem dX2_isBelow_29 : decode cX2_isBelow 29 = .ok (.iaload, 1) := by decide +kernel
theorem dX2_isBelow_30 : decode cX2_isBelow 30 = .ok (.iload_n 1, 1) := by decide +kernel
theorem dX2_isBelow_31 : decode cX2_isBelow 31 = .ok (.if_icmp .lt 5, 3) := by decide +kernel
theorem dX2_isBelow_34 : decode cX2_isBelow 34 = .ok (.iconst 0, 1) := by decide +kernel
theorem dX2_isBelow_35 : decode cX2_isBelow 35 = .ok (.ireturn, 1) := by decide +kernel
theorem dX2_isBelow_36 : decode cX2_isBelow 36 = .ok (.iinc 3 1, 3) := by decide +kernel
theorem dX2_isBelow_39 : decode cX2_isBelow 39 = .ok (.goto (-27), 3) := by decide +kernel
theorem dX2_isBelow_42 : decode cX2_isBelow 42 = .ok (.iinc 2 1, 3) := by decide +kernel
theorem dX2_isBelow_45 : decode cX2_isBelow 45 = .ok (.goto (-43), 3) := by decide +kernel
theorem dX2_isBelow_48 : decode cX2_isBelow 48 = .ok (.iconst 1, 1) := by decide +kernel
theorem dX2_isBelow_49 : decode cX2_isBelow 49 = .ok (.ireturn, 1) := by decide +kernel
theorem dX2_hasEachOnce_0 : decode cX2_hasEachOnce 0 = .ok (.lconst 0, 1) := by decide +kernel
theorem dX2_hasEachOnce_1 : decode cX2_hasEachOnce 1 = .ok (.lstore_n 1, 1) := by decide +kernel
theorem dX2_hasEachOnce_2 : decode cX2_hasEachOnce 2 = .ok (.iconst 0, 1) := by decide +kernel
theorem dX2_hasEachOnce_3 : decode cX2_hasEachOnce 3 = .ok (.istore_n 3, 1) := by decide +kernel
theorem dX2_hasEachOnce_4 : decode cX2_hasEachOnce 4 = .ok (.iload_n 3, 1) := by decide +kernel
theorem dX2_hasEachOnce_5 : decode cX2_hasEachOnce 5 = .ok (.aload_n 0, 1) := by decide +kernel
theorem dX2_hasEachOnce_6 : decode cX2_hasEachOnce 6 = .ok (.getfield 20, 3) := by decide +kernel
theorem dX2_hasEachOnce_9 : decode cX2_hasEachOnce 9 = .ok (.if_icmp .ge 45, 3) := by decide +kernel
theorem dX2_hasEachOnce_12 : decode cX2_hasEachOnce 12 = .ok (.iconst 0, 1) := by decide +kernel
theorem dX2_hasEachOnce_13 : decode cX2_hasEachOnce 13 = .ok (.istore 4, 2) := by decide +kernel
theorem dX2_hasEachOnce_15 : decode cX2_hasEachOnce 15 = .ok (.iload 4, 2) := by decide +kernel
theorem dX2_hasEachOnce_17 : decode cX2_hasEachOnce 17 = .ok (.aload_n 0, 1) := by decide +kernel
theorem dX2_hasEachOnce_18 : decode cX2_hasEachOnce 18 = .ok (.getfield 16, 3) := by decide +kernel
theorem dX2_hasEachOnce_21 : decode cX2_hasEachOnce 21 = .ok (.iload_n 3, 1) := by decide +kernel
theorem dX2_hasEachOnce_22 : decode cX2_hasEachOnce 22 = .ok (.iaload, 1) := by decide +kernel
theorem dX2_hasEachOnce_23 : decode cX2_hasEachOnce 23 = .ok (.if_icmp .ge 25, 3) := by decide +kernel
theorem dX2_hasEachOnce_26 : decode cX2_hasEachOnce 26 = .ok (.lload_n 1, 1) := by decide +kernel
theorem dX2_hasEachOnce_27 : decode cX2_hasEachOnce 27 = .ok (.lconst 1, 1) := by decide +kernel
theorem dX2_hasEachOnce_28 : decode cX2_hasEachOnce 28 = .ok (.aload_n 0, 1) := by decide +kernel
theorem dX2_hasEachOnce_29 : decode cX2_hasEachOnce 29 = .ok (.getfield 11, 3) := by decide +kernel
theorem dX2_hasEachOnce_32 : decode cX2_hasEachOnce 32 = .ok (.iload_n 3, 1) := by decide +kernel
theorem dX2_hasEachOnce_33 : decode cX2_hasEachOnce 33 = .ok (.aaload, 1) := by decide +kernel
theorem dX2_hasEachOnce_34 : decode cX2_hasEachOnce 34 = .ok (.iload 4, 2) := by decide +kernel
theorem dX2_hasEachOnce_36 : decode cX2_hasEachOnce 36 = .ok (.iaload, 1) := by decide +kernel
theorem dX2_hasEachOnce_37 : decode cX2_hasEachOnce 37 = .ok (.iconst 1, 1) := by decide +kernel
theorem dX2_hasEachOnce_38 : decode cX2_hasEachOnce 38 = .ok (.isub, 1) := by decide +kernel
theorem dX2_hasEachOnce_39 : decode cX2_hasEachOnce 39 = .ok (.lshl, 1) := by decide +kernel
theorem dX2_hasEachOnce_40 : decode cX2_hasEachOnce 40 = .ok (.lor, 1) := by decide +kernel
theorem dX2_hasEachOnce_41 : decode cX2_hasEachOnce 41 = .ok (.lstore_n 1, 1) := by decide +kernel
theorem dX2_hasEachOnce_42 : decode cX2_hasEachOnce 42 = .ok (.iinc 4 1, 3) := by decide +kernel
theorem dX2_hasEachOnce_45 : decode cX2_hasEachOnce 45 = .ok (.goto (-30), 3) := by decide +kernel
theorem dX2_hasEachOnce_48 : decode cX2_hasEachOnce 48 = .ok (.iinc 3 1, 3) := by decide +kernel
theorem dX2_hasEachOnce_51 : decode cX2_hasEachOnce 51 = .ok (.goto (-47), 3) := by decide +kernel
theorem dX2_hasEachOnce_54 : decode cX2_hasEachOnce 54 = .ok (.lload_n 1, 1) := by decide +kernel
theorem dX2_hasEachOnce_55 : decode cX2_hasEachOnce 55 = .ok (.lconst 1, 1) := by decide +kernel
theorem dX2_hasEachOnce_56 : decode cX2_hasEachOnce 56 = .ok (.aload_n 0, 1) := by decide +kernel
theorem dX2_hasEachOnce_57 : decode cX2_hasEachOnce 57 = .ok (.getfield 24, 3) := by decide +kernel
theorem dX2_hasEachOnce_60 : decode cX2_hasEachOnce 60 = .ok (.lshl, 1) := by decide +kernel
theorem dX2_hasEachOnce_61 : decode cX2_hasEachOnce 61 = .ok (.lconst 1, 1) := by decide +kernel
theorem dX2_hasEachOnce_62 : decode cX2_hasEachOnce 62 = .ok (.lsub, 1) := by decide +kernel
theorem dX2_hasEachOnce_63 : decode cX2_hasEachOnce 63 = .ok (.lcmp, 1) := by decide +kernel
theorem dX2_hasEachOnce_64 : decode cX2_hasEachOnce 64 = .ok (.ifCond .ne 7, 3) := by decide +kernel
theorem dX2_hasEachOnce_67 : decode cX2_hasEachOnce 67 = .ok (.iconst 1, 1) := by decide +kernel
theorem dX2_hasEachOnce_68 : decode cX2_hasEachOnce 68 = .ok (.goto 4, 3) := by decide +kernel
theorem dX2_hasEachOnce_71 : decode cX2_hasEachOnce 71 = .ok (.iconst 0, 1) := by decide +kernel
theorem dX2_hasEachOnce_72 : decode cX2_hasEachOnce 72 = .ok (.ireturn, 1) := by decide +kernel
set_option maxRecDepth 20000 in
theorem ggX3_init_X2_init : GoodIn wsX3_init wsX2_init := goodIn_r _ [11, 12, 2, 3, 13, 14, 15, 16, 17, 18, 19, 20, 21, 22] (by decide +kernel) (by decide +kernel)
set_option maxRecDepth 20000 in
theorem gX3_init_X2_init : GoodIn wsX3_init (wsX2_init) := ggX3_init_X2_init
theorem dX3_init_0 : decode cX3_init 0 = .ok (.aload_n 0, 1) := by decide +kernel
theorem dX3_init_1 : decode cX3_init 1 = .ok (.invokespecial 1, 3) := by decide +kernel
theorem dX3_init_4 : decode cX3_init 4 = .ok (.aload_n 0, 1) := by decide +kernel
theorem dX3_init_5 : decode cX3_init 5 = .ok (.new 7, 3) := by decide +kernel
theorem dX3_init_8 : decode cX3_init 8 = .ok (.dup, 1) := by decide +kernel
theorem dX3_init_9 : decode cX3_init 9 = .ok (.invokespecial 9, 3) := by decide +kernel
theorem dX3_init_12 : decode cX3_init 12 = .ok (.putfield 10, 3) := by decide +kernel
theorem dX3_init_15 : decode cX3_init 15 = .ok (.aload_n 0, 1) := by decide +kernel
theorem dX3_init_16 : decode cX3_init 16 = .ok (.new 7, 3) := by decide +kernel
theorem dX3_init_19 : decode cX3_init 19 = .ok (.dup, 1) := by decide +kernel
theorem dX3_init_20 : decode cX3_init 20 = .ok (.invokespecial 9, 3) := by decide +kernel
theorem dX3_init_23 : decode cX3_init 23 = .ok (.putfield 16, 3) := by decide +kernel
theorem dX3_init_26 : decode cX3_init 26 = .ok (.return_, 1) := by decide +kernel
set_option maxRecDepth 20000 in
theorem ggX3_letterCount_X2_placeCount : GoodIn wsX3_letterCount wsX2_placeCount := goodIn_r _ [6, 7, 10, 11, 12, 13] (by decide +kernel) (by decide +kernel)
set_option maxRecDepth 20000 in
theorem gX3_letterCount_X2_placeCount : GoodIn wsX3_letterCount (wsV RX3 19 RX2 yX2_placeCount wsX2_placeCount) := goodIn_app (goodIn_of _ (by decide +kernel)) ggX3_letterCount_X2_placeCount
theorem dX3_letterCount_0 : decode cX3_letterCount 0 = .ok (.aload_n 0, 1) := by decide +kernel
theorem dX3_letterCount_1 : decode cX3_letterCount 1 = .ok (.getfield 10, 3) := by decide +kernel
theorem dX3_letterCount_4 : decode cX3_letterCount 4 = .ok (.invokevirtual 19, 3) := by decide +kernel
theorem dX3_letterCount_7 : decode cX3_letterCount 7 = .ok (.ireturn, 1) := by decide +kernel
theorem dX3_tableau_0 : decode cX3_tableau 0 = .ok (.iload_n 1, 1) := by decide +kernel
theorem dX3_tableau_1 : decode cX3_tableau 1 = .ok (.ifCond .ne 10, 3) := by decide +kernel
theorem dX3_tableau_4 : decode cX3_tableau 4 = .ok (.aload_n 0, 1) := by decide +kernel
theorem dX3_tableau_5 : decode cX3_tableau 5 = .ok (.getfield 10, 3) := by decide +kernel
theorem dX3_tableau_8 : decode cX3_tableau 8 = .ok (.goto 7, 3) := by decide +kernel
theorem dX3_tableau_11 : decode cX3_tableau 11 = .ok (.aload_n 0, 1) := by decide +kernel
theorem dX3_tableau_12 : decode cX3_tableau 12 = .ok (.getfield 16, 3) := by decide +kernel
theorem dX3_tableau_15 : decode cX3_tableau 15 = .ok (.areturn, 1) := by decide +kernel
set_option maxRecDepth 20000 in
theorem ggX3_forget_X2_empty : GoodIn wsX3_forget wsX2_empty := goodIn_r _ [7, 8, 9, 10, 11, 12, 13, 14, 17, 18, 19, 20] (by decide +kernel) (by decide +kernel)
set_option maxRecDepth 20000 in
theorem gX3_forget_X2_empty : GoodIn wsX3_forget (wsV RX3 23 RX2 yX2_empty wsX2_empty) := goodIn_app (goodIn_of _ (by decide +kernel)) ggX3_forget_X2_empty
theorem dX3_forget_0 : decode cX3_forget 0 = .ok (.aload_n 0, 1) := by decide +kernel
theorem dX3_forget_1 : decode cX3_forget 1 = .ok (.getfield 10, 3) := by decide +kernel
theorem dX3_forget_4 : decode cX3_forget 4 = .ok (.invokevirtual 23, 3) := by decide +kernel
theorem dX3_forget_7 : decode cX3_forget 7 = .ok (.aload_n 0, 1) := by decide +kernel
theorem dX3_forget_8 : decode cX3_forget 8 = .ok (.getfield 16, 3) := by decide +kernel
theorem dX3_forget_11 : decode cX3_forget 11 = .ok (.invokevirtual 23, 3) := by decide +kernel
theorem dX3_forget_14 : decode cX3_forget 14 = .ok (.return_, 1) := by decide +kernel
set_option maxRecDepth 20000 in
theorem ggX3_become_X3_forget : GoodIn wsX3_become wsX3_forget := goodIn_r _ [5, 6, 7, 8, 9, 10, 11, 12, 13, 14, 15, 16, 17, 18, 19, 65, 66, 67, 68, 69, 70] (by decide +kernel) (by decide +kernel)
set_option maxRecDepth 20000 in
theorem gX3_become_X3_forget : GoodIn wsX3_become (wsV RX3 26 RX3 yX3_forget wsX3_forget) := goodIn_app (goodIn_of _ (by decide +kernel)) ggX3_become_X3_forget
set_option maxRecDepth 20000 in
theorem ggX3_become_X3_takeLetter : GoodIn wsX3_become wsX3_takeLetter := goodIn_r _ [23, 6, 7, 24, 25, 26, 11, 27, 28, 29, 30, 31, 32, 33, 34, 35, 36, 13, 37, 38, 39, 40, 41, 42, 43, 44, 15, 14, 45, 46, 47, 48, 49, 50, 51, 52, 53, 54, 55, 56, 57, 58, 4, 59, 60, 61, 62, 63, 64, 65, 66, 67, 68, 69, 70] (by decide +kernel) (by decide +kernel)
set_option maxRecDepth 20000 in
theorem gX3_become_X3_takeLetter : GoodIn wsX3_become (wsV RX3 29 RX3 yX3_takeLetter wsX3_takeLetter) := goodIn_app (goodIn_of _ (by decide +kernel)) ggX3_become_X3_takeLetter
theorem dX3_become_0 : decode cX3_become 0 = .ok (.aload_n 0, 1) := by decide +kernel
theorem dX3_become_1 : decode cX3_become 1 = .ok (.invokevirtual 26, 3) := by decide +kernel
theorem dX3_become_4 : decode cX3_become 4 = .ok (.iconst 0, 1) := by decide +kernel
theorem dX3_become_5 : decode cX3_become 5 = .ok (.istore_n 3, 1) := by decide +kernel
theorem dX3_become_6 : decode cX3_become 6 = .ok (.iload_n 3, 1) := by decide +kernel
theorem dX3_become_7 : decode cX3_become 7 = .ok (.iload_n 2, 1) := by decide +kernel
theorem dX3_become_8 : decode cX3_become 8 = .ok (.if_icmp .ge 16, 3) := by decide +kernel
theorem dX3_become_11 : decode cX3_become 11 = .ok (.aload_n 0, 1) := by decide +kernel
theorem dX3_become_12 : decode cX3_become 12 = .ok (.aload_n 1, 1) := by decide +kernel
theorem dX3_become_13 : decode cX3_become 13 = .ok (.iload_n 3, 1) := by decide +kernel
theorem dX3_become_14 : decode cX3_become 14 = .ok (.iaload, 1) := by decide +kernel
theorem dX3_become_15 : decode cX3_become 15 = .ok (.invokevirtual 29, 3) := by decide +kernel
theorem dX3_become_18 : decode cX3_become 18 = .ok (.iinc 3 1, 3) := by decide +kernel
theorem dX3_become_21 : decode cX3_become 21 = .ok (.goto (-15), 3) := by decide +kernel
theorem dX3_become_24 : decode cX3_become 24 = .ok (.return_, 1) := by decide +kernel
set_option maxRecDepth 20000 in
theorem ggX3_takeLetter_X2_insert : GoodIn wsX3_takeLetter wsX2_insert := goodIn_r _ [7, 8, 9, 10, 6, 11, 12, 13, 14, 15, 16, 17, 18, 19, 20, 21, 22, 23, 24, 25, 26, 27, 28, 29, 30, 31, 32, 33, 34, 35, 36, 37, 38, 51, 52, 53, 54] (by decide +kernel) (by decide +kernel)
set_option maxRecDepth 20000 in
theorem gX3_takeLetter_X2_insert : GoodIn wsX3_takeLetter (wsV RX3 33 RX2 yX2_insert wsX2_insert) := goodIn_app (goodIn_of _ (by decide +kernel)) ggX3_takeLetter_X2_insert
set_option maxRecDepth 20000 in
theorem ggX3_takeLetter_X3_letterCount : GoodIn wsX3_takeLetter wsX3_letterCount := goodIn_r _ [43, 1, 44, 45, 46, 6, 47, 26, 49, 50, 51, 52, 53, 54] (by decide +kernel) (by decide +kernel)
set_option maxRecDepth 20000 in
theorem gX3_takeLetter_X3_letterCount : GoodIn wsX3_takeLetter (wsV RX3 37 RX3 yX3_letterCount wsX3_letterCount) := goodIn_app (goodIn_of _ (by decide +kernel)) ggX3_takeLetter_X3_letterCount
set_option maxRecDepth 20000 in
theorem ggX3_takeLetter_X2_append : GoodIn wsX3_takeLetter wsX2_append := goodIn_r _ [25, 26, 12, 17, 27, 28, 29, 30, 31, 32, 33, 34, 51, 52, 53, 54] (by decide +kernel) (by decide +kernel)
set_option maxRecDepth 20000 in
theorem gX3_takeLetter_X2_append : GoodIn wsX3_takeLetter (wsV RX3 40 RX2 yX2_append wsX2_append) := goodIn_app (goodIn_of _ (by decide +kernel)) ggX3_takeLetter_X2_append
theorem dX3_takeLetter_0 : decode cX3_takeLetter 0 = .ok (.aload_n 0, 1) := by decide +kernel
theorem dX3_takeLetter_1 : decode cX3_takeLetter 1 = .ok (.getfield 10, 3) := by decide +kernel
theorem dX3_takeLetter_4 : decode cX3_takeLetter 4 = .ok (.iload_n 1, 1) := by decide +kernel
theorem dX3_takeLetter_5 : decode cX3_takeLetter 5 = .ok (.invokevirtual 33, 3) := by decide +kernel
theorem dX3_takeLetter_8 : decode cX3_takeLetter 8 = .ok (.istore_n 2, 1) := by decide +kernel
theorem dX3_takeLetter_9 : decode cX3_takeLetter 9 = .ok (.aload_n 0, 1) := by decide +kernel
theorem dX3_takeLetter_10 : decode cX3_takeLetter 10 = .ok (.getfield 16, 3) := by decide +kernel
theorem dX3_takeLetter_13 : decode cX3_takeLetter 13 = .ok (.iload_n 2, 1) := by decide +kernel
theorem dX3_takeLetter_14 : decode cX3_takeLetter 14 = .ok (.aload_n 0, 1) := by decide +kernel
theorem dX3_takeLetter_15 : decode cX3_takeLetter 15 = .ok (.invokevirtual 37, 3) := by decide +kernel
theorem dX3_takeLetter_18 : decode cX3_takeLetter 18 = .ok (.invokevirtual 40, 3) := by decide +kernel
theorem dX3_takeLetter_21 : decode cX3_takeLetter 21 = .ok (.return_, 1) := by decide +kernel
theorem dJ9_max_7cf53_0 : decode cJ9_max_7cf53 0 = .ok (.iload_n 0, 1) := by decide +kernel
theorem dJ9_max_7cf53_1 : decode cJ9_max_7cf53 1 = .ok (.iload_n 1, 1) := by decide +kernel
theorem dJ9_max_7cf53_2 : decode cJ9_max_7cf53 2 = .ok (.if_icmp .lt 7, 3) := by decide +kernel
theorem dJ9_max_7cf53_5 : decode cJ9_max_7cf53 5 = .ok (.iload_n 0, 1) := by decide +kernel
theorem dJ9_max_7cf53_6 : decode cJ9_max_7cf53 6 = .ok (.goto 4, 3) := by decide +kernel
theorem dJ9_max_7cf53_9 : decode cJ9_max_7cf53 9 = .ok (.iload_n 1, 1) := by decide +kernel
theorem dJ9_max_7cf53_10 : decode cJ9_max_7cf53 10 = .ok (.ireturn, 1) := by decide +kernel
theorem dJ9_min_7cf53_0 : decode cJ9_min_7cf53 0 = .ok (.iload_n 0, 1) := by decide +kernel
theorem dJ9_min_7cf53_1 : decode cJ9_min_7cf53 1 = .ok (.iload_n 1, 1) := by decide +kernel
theorem dJ9_min_7cf53_2 : decode cJ9_min_7cf53 2 = .ok (.if_icmp .gt 7, 3) := by decide +kernel
theorem dJ9_min_7cf53_5 : decode cJ9_min_7cf53 5 = .ok (.iload_n 0, 1) := by decide +kernel
theorem dJ9_min_7cf53_6 : decode cJ9_min_7cf53 6 = .ok (.goto 4, 3) := by decide +kernel
theorem dJ9_min_7cf53_9 : decode cJ9_min_7cf53 9 = .ok (.iload_n 1, 1) := by decide +kernel
theorem dJ9_min_7cf53_10 : decode cJ9_min_7cf53 10 = .ok (.ireturn, 1) := by decide +kernel
theorem dJ7_fill_d0a16_0 : decode cJ7_fill_d0a16 0 = .ok (.iconst 0, 1) := by decide +kernel
theorem dJ7_fill_d0a16_1 : decode cJ7_fill_d0a16 1 = .ok (.istore_n 3, 1) := by decide +kernel
theorem dJ7_fill_d0a16_2 : decode cJ7_fill_d0a16 2 = .ok (.aload_n 0, 1) := by decide +kernel
theorem dJ7_fill_d0a16_3 : decode cJ7_fill_d0a16 3 = .ok (.arraylength, 1) := by decide +kernel
theorem dJ7_fill_d0a16_4 : decode cJ7_fill_d0a16 4 = .ok (.istore 4, 2) := by decide +kernel
theorem dJ7_fill_d0a16_6 : decode cJ7_fill_d0a16 6 = .ok (.iload_n 3, 1) := by decide +kernel
theorem dJ7_fill_d0a16_7 : decode cJ7_fill_d0a16 7 = .ok (.iload 4, 2) := by decide +kernel
theorem dJ7_fill_d0a16_9 : decode cJ7_fill_d0a16 9 = .ok (.if_icmp .ge 13, 3) := by decide +kernel
theorem dJ7_fill_d0a16_12 : decode cJ7_fill_d0a16 12 = .ok (.aload_n 0, 1) := by decide +kernel
theorem dJ7_fill_d0a16_13 : decode cJ7_fill_d0a16 13 = .ok (.iload_n 3, 1) := by decide +kernel
theorem dJ7_fill_d0a16_14 : decode cJ7_fill_d0a16 14 = .ok (.lload_n 1, 1) := by decide +kernel
theorem dJ7_fill_d0a16_15 : decode cJ7_fill_d0a16 15 = .ok (.lastore, 1) := by decide +kernel
theorem dJ7_fill_d0a16_16 : decode cJ7_fill_d0a16 16 = .ok (.iinc 3 1, 3) := by decide +kernel
theorem dJ7_fill_d0a16_19 : decode cJ7_fill_d0a16 19 = .ok (.goto (-13), 3) := by decide +kernel
theorem dJ7_fill_d0a16_22 : decode cJ7_fill_d0a16 22 = .ok (.return_, 1) := by decide +kernel
theorem dJ7_fill_53178_0 : decode cJ7_fill_53178 0 = .ok (.iconst 0, 1) := by decide +kernel
theorem dJ7_fill_53178_1 : decode cJ7_fill_53178 1 = .ok (.istore_n 2, 1) := by decide +kernel
theorem dJ7_fill_53178_2 : decode cJ7_fill_53178 2 = .ok (.aload_n 0, 1) := by decide +kernel
theorem dJ7_fill_53178_3 : decode cJ7_fill_53178 3 = .ok (.arraylength, 1) := by decide +kernel
theorem dJ7_fill_53178_4 : decode cJ7_fill_53178 4 = .ok (.istore_n 3, 1) := by decide +kernel
theorem dJ7_fill_53178_5 : decode cJ7_fill_53178 5 = .ok (.iload_n 2, 1) := by decide +kernel
theorem dJ7_fill_53178_6 : decode cJ7_fill_53178 6 = .ok (.iload_n 3, 1) := by decide +kernel
theorem dJ7_fill_53178_7 : decode cJ7_fill_53178 7 = .ok (.if_icmp .ge 13, 3) := by decide +kernel
theorem dJ7_fill_53178_10 : decode cJ7_fill_53178 10 = .ok (.aload_n 0, 1) := by decide +kernel
theorem dJ7_fill_53178_11 : decode cJ7_fill_53178 11 = .ok (.iload_n 2, 1) := by decide +kernel
theorem dJ7_fill_53178_12 : decode cJ7_fill_53178 12 = .ok (.iload_n 1, 1) := by decide +kernel
theorem dJ7_fill_53178_13 : decode cJ7_fill_53178 13 = .ok (.iastore, 1) := by decide +kernel
theorem dJ7_fill_53178_14 : decode cJ7_fill_53178 14 = .ok (.iinc 2 1, 3) := by decide +kernel
theorem dJ7_fill_53178_17 : decode cJ7_fill_53178 17 = .ok (.goto (-12), 3) := by decide +kernel
theorem dJ7_fill_53178_20 : decode cJ7_fill_53178 20 = .ok (.return_, 1) := by decide +kernel
end
section
set_option maxRecDepth 20000 in
theorem ggX4_init_X0_init : GoodIn wsX4_init wsX0_init := goodIn_r _ [25, 26, 2, 3, 27, 28, 29, 21, 30, 31, 32, 33, 34, 35, 60, 61, 62, 63, 64, 65] (by decide +kernel) (by decide +kernel)
set_option maxRecDepth 20000 in
theorem gX4_init_X0_init : GoodIn wsX4_init (wsX0_init) := ggX4_init_X0_init
set_option maxRecDepth 20000 in
theorem ggX4_init_X1_init : GoodIn wsX4_init wsX1_init := goodIn_r _ [38, 39, 2, 3, 33, 40, 41, 42, 72, 73, 74] (by decide +kernel) (by decide +kernel)
set_option maxRecDepth 20000 in
theorem gX4_init_X1_init : GoodIn wsX4_init (wsX1_init) := ggX4_init_X1_init
set_option maxRecDepth 20000 in
theorem ggX4_init_X3_init : GoodIn wsX4_init wsX3_init := goodIn_r _ [45, 46, 2, 3, 47, 17, 18, 48, 49, 50, 51, 52, 53, 54, 21, 55, 56, 57, 58, 77, 78, 79, 80, 75, 76] (by decide +kernel) (by decide +kernel)
set_option maxRecDepth 20000 in
theorem gX4_init_X3_init : GoodIn wsX4_init (wsX3_init) := ggX4_init_X3_init
set_option maxRecDepth 20000 in
theorem ggX4_init_X2_init : GoodIn wsX4_init wsX2_init := goodIn_r _ [52, 53, 2, 3, 54, 21, 55, 56, 57, 58, 77, 78, 79, 80] (by decide +kernel) (by decide +kernel)
set_option maxRecDepth 20000 in
theorem gX4_init_X2_init : GoodIn wsX4_init (wsX2_init) := ggX4_init_X2_init
theorem dX4_init_0 : decode cX4_init 0 = .ok (.aload_n 0, 1) := by decide +kernel
theorem dX4_init_1 : decode cX4_init 1 = .ok (.invokespecial 1, 3) := by decide +kernel
theorem dX4_init_4 : decode cX4_init 4 = .ok (.aload_n 0, 1) := by decide +kernel
theorem dX4_init_5 : decode cX4_init 5 = .ok (.new 7, 3) := by decide +kernel
theorem dX4_init_8 : decode cX4_init 8 = .ok (.dup, 1) := by decide +kernel
theorem dX4_init_9 : decode cX4_init 9 = .ok (.invokespecial 9, 3) := by decide +kernel
theorem dX4_init_12 : decode cX4_init 12 = .ok (.putfield 10, 3) := by decide +kernel
theorem dX4_init_15 : decode cX4_init 15 = .ok (.aload_n 0, 1) := by decide +kernel
theorem dX4_init_16 : decode cX4_init 16 = .ok (.iconst 4, 1) := by decide +kernel
theorem dX4_init_17 : decode cX4_init 17 = .ok (.anewarray 16, 3) := by decide +kernel
theorem dX4_init_20 : decode cX4_init 20 = .ok (.putfield 18, 3) := by decide +kernel
theorem dX4_init_23 : decode cX4_init 23 = .ok (.iconst 0, 1) := by decide +kernel
theorem dX4_init_24 : decode cX4_init 24 = .ok (.istore_n 1, 1) := by decide +kernel
theorem dX4_init_25 : decode cX4_init 25 = .ok (.iload_n 1, 1) := by decide +kernel
theorem dX4_init_26 : decode cX4_init 26 = .ok (.iconst 4, 1) := by decide +kernel
theorem dX4_init_27 : decode cX4_init 27 = .ok (.if_icmp .ge 22, 3) := by decide +kernel
theorem dX4_init_30 : decode cX4_init 30 = .ok (.aload_n 0, 1) := by decide +kernel
theorem dX4_init_31 : decode cX4_init 31 = .ok (.getfield 18, 3) := by decide +kernel
theorem dX4_init_34 : decode cX4_init 34 = .ok (.iload_n 1, 1) := by decide +kernel
theorem dX4_init_35 : decode cX4_init 35 = .ok (.new 16, 3) := by decide +kernel
theorem dX4_init_38 : decode cX4_init 38 = .ok (.dup, 1) := by decide +kernel
theorem dX4_init_39 : decode cX4_init 39 = .ok (.invokespecial 22, 3) := by decide +kernel
theorem dX4_init_42 : decode cX4_init 42 = .ok (.aastore, 1) := by decide +kernel
theorem dX4_init_43 : decode cX4_init 43 = .ok (.iinc 1 1, 3) := by decide +kernel
theorem dX4_init_46 : decode cX4_init 46 = .ok (.goto (-21), 3) := by decide +kernel
theorem dX4_init_49 : decode cX4_init 49 = .ok (.aload_n 0, 1) := by decide +kernel
theorem dX4_init_50 : decode cX4_init 50 = .ok (.new 23, 3) := by decide +kernel
theorem dX4_init_53 : decode cX4_init 53 = .ok (.dup, 1) := by decide +kernel
theorem dX4_init_54 : decode cX4_init 54 = .ok (.invokespecial 25, 3) := by decide +kernel
theorem dX4_init_57 : decode cX4_init 57 = .ok (.putfield 26, 3) := by decide +kernel
theorem dX4_init_60 : decode cX4_init 60 = .ok (.aload_n 0, 1) := by decide +kernel
theorem dX4_init_61 : decode cX4_init 61 = .ok (.new 30, 3) := by decide +kernel
theorem dX4_init_64 : decode cX4_init 64 = .ok (.dup, 1) := by decide +kernel
theorem dX4_init_65 : decode cX4_init 65 = .ok (.invokespecial 32, 3) := by decide +kernel
theorem dX4_init_68 : decode cX4_init 68 = .ok (.putfield 33, 3) := by decide +kernel
theorem dX4_init_71 : decode cX4_init 71 = .ok (.aload_n 0, 1) := by decide +kernel
theorem dX4_init_72 : decode cX4_init 72 = .ok (.new 30, 3) := by decide +kernel
theorem dX4_init_75 : decode cX4_init 75 = .ok (.dup, 1) := by decide +kernel
theorem dX4_init_76 : decode cX4_init 76 = .ok (.invokespecial 32, 3) := by decide +kernel
theorem dX4_init_79 : decode cX4_init 79 = .ok (.putfield 37, 3) := by decide +kernel
theorem dX4_init_82 : decode cX4_init 82 = .ok (.aload_n 0, 1) := by decide +kernel
theorem dX4_init_83 : decode cX4_init 83 = .ok (.bipush 40, 2) := by decide +kernel
theorem dX4_init_85 : decode cX4_init 85 = .ok (.newarray .int, 2) := by decide +kernel
theorem dX4_init_87 : decode cX4_init 87 = .ok (.putfield 40, 3) := by decide +kernel
theorem dX4_init_90 : decode cX4_init 90 = .ok (.return_, 1) := by decide +kernel
set_option maxRecDepth 20000 in
theorem ggX4_box_X4_isWithin : GoodIn wsX4_box wsX4_isWithin := goodIn_r _ [5] (by decide +kernel) (by decide +kernel)
set_option maxRecDepth 20000 in
theorem gX4_box_X4_isWithin : GoodIn wsX4_box (va_wsS RX4 44 yX4_isWithin wsX4_isWithin) := goodIn_app (goodIn_of _ (by decide +kernel)) ggX4_box_X4_isWithin
set_option maxRecDepth 20000 in
theorem ggX4_box_X0_reset : GoodIn wsX4_box wsX0_reset := goodIn_r _ [10, 11, 12, 13, 14, 15, 16, 17, 24, 25, 26, 27, 28, 29] (by decide +kernel) (by decide +kernel)
set_option maxRecDepth 20000 in
theorem gX4_box_X0_reset : GoodIn wsX4_box (wsV RX4 48 RX0 yX0_reset wsX0_reset) := goodIn_app (goodIn_of _ (by decide +kernel)) ggX4_box_X0_reset
theorem dX4_box_0 : decode cX4_box 0 = .ok (.iload_n 1, 1) := by decide +kernel
theorem dX4_box_1 : decode cX4_box 1 = .ok (.iconst 1, 1) := by decide +kernel
theorem dX4_box_2 : decode cX4_box 2 = .ok (.bipush 6, 2) := by decide +kernel
theorem dX4_box_4 : decode cX4_box 4 = .ok (.invokestatic 44, 3) := by decide +kernel
theorem dX4_box_7 : decode cX4_box 7 = .ok (.ifCond .eq 13, 3) := by decide +kernel
theorem dX4_box_10 : decode cX4_box 10 = .ok (.iload_n 2, 1) := by decide +kernel
theorem dX4_box_11 : decode cX4_box 11 = .ok (.iconst 1, 1) := by decide +kernel
theorem dX4_box_12 : decode cX4_box 12 = .ok (.bipush 6, 2) := by decide +kernel
theorem dX4_box_14 : decode cX4_box 14 = .ok (.invokestatic 44, 3) := by decide +kernel
theorem dX4_box_17 : decode cX4_box 17 = .ok (.ifCond .ne 5, 3) := by decide +kernel
theorem dX4_box_20 : decode cX4_box 20 = .ok (.iconst (-1), 1) := by decide +kernel
theorem dX4_box_21 : decode cX4_box 21 = .ok (.ireturn, 1) := by decide +kernel
theorem dX4_box_22 : decode cX4_box 22 = .ok (.aload_n 0, 1) := by decide +kernel
theorem dX4_box_23 : decode cX4_box 23 = .ok (.getfield 10, 3) := by decide +kernel
theorem dX4_box_26 : decode cX4_box 26 = .ok (.iload_n 1, 1) := by decide +kernel
theorem dX4_box_27 : decode cX4_box 27 = .ok (.iload_n 2, 1) := by decide +kernel
theorem dX4_box_28 : decode cX4_box 28 = .ok (.invokevirtual 48, 3) := by decide +kernel
theorem dX4_box_31 : decode cX4_box 31 = .ok (.iconst 1, 1) := by decide +kernel
theorem dX4_box_32 : decode cX4_box 32 = .ok (.ireturn, 1) := by decide +kernel
set_option maxRecDepth 20000 in
theorem ggX4_weight_X0_hasPlace : GoodIn wsX4_weight wsX0_hasPlace := goodIn_r _ [6, 7, 8, 9, 10, 11, 27, 28, 29, 30, 31, 32] (by decide +kernel) (by decide +kernel)
set_option maxRecDepth 20000 in
theorem gX4_weight_X0_hasPlace : GoodIn wsX4_weight (wsV RX4 52 RX0 yX0_hasPlace wsX0_hasPlace) := goodIn_app (goodIn_of _ (by decide +kernel)) ggX4_weight_X0_hasPlace
set_option maxRecDepth 20000 in
theorem ggX4_weight_X4_isWeight : GoodIn wsX4_weight wsX4_isWeight := goodIn_r _ [14, 15] (by decide +kernel) (by decide +kernel)
set_option maxRecDepth 20000 in
theorem gX4_weight_X4_isWeight : GoodIn wsX4_weight (va_wsS RX4 56 yX4_isWeight wsX4_isWeight) := goodIn_app (goodIn_of _ (by decide +kernel)) ggX4_weight_X4_isWeight
set_option maxRecDepth 20000 in
theorem ggX4_weight_X0_exchange : GoodIn wsX4_weight wsX0_exchange := goodIn_r _ [19, 20, 27, 28, 29, 30, 31, 32] (by decide +kernel) (by decide +kernel)
set_option maxRecDepth 20000 in
theorem gX4_weight_X0_exchange : GoodIn wsX4_weight (wsV RX4 60 RX0 yX0_exchange wsX0_exchange) := goodIn_app (goodIn_of _ (by decide +kernel)) ggX4_weight_X0_exchange
theorem dX4_weight_0 : decode cX4_weight 0 = .ok (.aload_n 0, 1) := by decide +kernel
theorem dX4_weight_1 : decode cX4_weight 1 = .ok (.getfield 10, 3) := by decide +kernel
theorem dX4_weight_4 : decode cX4_weight 4 = .ok (.iload_n 1, 1) := by decide +kernel
theorem dX4_weight_5 : decode cX4_weight 5 = .ok (.iload_n 2, 1) := by decide +kernel
theorem dX4_weight_6 : decode cX4_weight 6 = .ok (.invokevirtual 52, 3) := by decide +kernel
theorem dX4_weight_9 : decode cX4_weight 9 = .ok (.ifCond .eq 11, 3) := by decide +kernel
theorem dX4_weight_12 : decode cX4_weight 12 = .ok (.iload_n 3, 1) := by decide +kernel
theorem dX4_weight_13 : decode cX4_weight 13 = .ok (.i2l, 1) := by decide +kernel
theorem dX4_weight_14 : decode cX4_weight 14 = .ok (.invokestatic 56, 3) := by decide +kernel
theorem dX4_weight_17 : decode cX4_weight 17 = .ok (.ifCond .ne 5, 3) := by decide +kernel
theorem dX4_weight_20 : decode cX4_weight 20 = .ok (.iconst (-1), 1) := by decide +kernel
theorem dX4_weight_21 : decode cX4_weight 21 = .ok (.ireturn, 1) := by decide +kernel
theorem dX4_weight_22 : decode cX4_weight 22 = .ok (.aload_n 0, 1) := by decide +kernel
theorem dX4_weight_23 : decode cX4_weight 23 = .ok (.getfield 10, 3) := by decide +kernel
theorem dX4_weight_26 : decode cX4_weight 26 = .ok (.iload_n 1, 1) := by decide +kernel
theorem dX4_weight_27 : decode cX4_weight 27 = .ok (.iload_n 2, 1) := by decide +kernel
theorem dX4_weight_28 : decode cX4_weight 28 = .ok (.iload_n 3, 1) := by decide +kernel
theorem dX4_weight_29 : decode cX4_weight 29 = .ok (.invokevirtual 60, 3) := by decide +kernel
theorem dX4_weight_32 : decode cX4_weight 32 = .ok (.ireturn, 1) := by decide +kernel
set_option maxRecDepth 20000 in
theorem ggX4_sheet_X4_isSheet : GoodIn wsX4_sheet wsX4_isSheet := goodIn_r _ [5, 6, 7, 4, 8] (by decide +kernel) (by decide +kernel)
set_option maxRecDepth 20000 in
theorem gX4_sheet_X4_isSheet : GoodIn wsX4_sheet (va_wsS RX4 64 yX4_isSheet wsX4_isSheet) := goodIn_app (goodIn_of _ (by decide +kernel)) ggX4_sheet_X4_isSheet
set_option maxRecDepth 20000 in
theorem ggX4_sheet_X4_isLane : GoodIn wsX4_sheet wsX4_isLane := goodIn_r _ [11, 6, 7, 4, 8] (by decide +kernel) (by decide +kernel)
set_option maxRecDepth 20000 in
theorem gX4_sheet_X4_isLane : GoodIn wsX4_sheet (va_wsS RX4 68 yX4_isLane wsX4_isLane) := goodIn_app (goodIn_of _ (by decide +kernel)) ggX4_sheet_X4_isLane
set_option maxRecDepth 20000 in
theorem ggX4_sheet_X1_renew : GoodIn wsX4_sheet wsX1_renew := goodIn_r _ [16, 17, 18, 19, 20, 21, 22, 23, 30, 31, 32] (by decide +kernel) (by decide +kernel)
set_option maxRecDepth 20000 in
theorem gX4_sheet_X1_renew : GoodIn wsX4_sheet (wsV RX4 71 RX1 yX1_renew wsX1_renew) := goodIn_app (goodIn_of _ (by decide +kernel)) ggX4_sheet_X1_renew
theorem dX4_sheet_0 : decode cX4_sheet 0 = .ok (.iload_n 1, 1) := by decide +kernel
theorem dX4_sheet_1 : decode cX4_sheet 1 = .ok (.invokestatic 64, 3) := by decide +kernel
theorem dX4_sheet_4 : decode cX4_sheet 4 = .ok (.ifCond .eq 16, 3) := by decide +kernel
theorem dX4_sheet_7 : decode cX4_sheet 7 = .ok (.iload_n 2, 1) := by decide +kernel
theorem dX4_sheet_8 : decode cX4_sheet 8 = .ok (.invokestatic 68, 3) := by decide +kernel
theorem dX4_sheet_11 : decode cX4_sheet 11 = .ok (.ifCond .eq 9, 3) := by decide +kernel
theorem dX4_sheet_14 : decode cX4_sheet 14 = .ok (.iload_n 3, 1) := by decide +kernel
theorem dX4_sheet_15 : decode cX4_sheet 15 = .ok (.bipush 36, 2) := by decide +kernel
theorem dX4_sheet_17 : decode cX4_sheet 17 = .ok (.if_icmp .le 5, 3) := by decide +kernel
theorem dX4_sheet_20 : decode cX4_sheet 20 = .ok (.iconst (-1), 1) := by decide +kernel
theorem dX4_sheet_21 : decode cX4_sheet 21 = .ok (.ireturn, 1) := by decide +kernel
theorem dX4_sheet_22 : decode cX4_sheet 22 = .ok (.iload_n 3, 1) := by decide +kernel
theorem dX4_sheet_23 : decode cX4_sheet 23 = .ok (.ifCond .ge 6, 3) := by decide +kernel
theorem dX4_sheet_26 : decode cX4_sheet 26 = .ok (.bipush (-14), 2) := by decide +kernel
theorem dX4_sheet_28 : decode cX4_sheet 28 = .ok (.ireturn, 1) := by decide +kernel
theorem dX4_sheet_29 : decode cX4_sheet 29 = .ok (.aload_n 0, 1) := by decide +kernel
theorem dX4_sheet_30 : decode cX4_sheet 30 = .ok (.getfield 18, 3) := by decide +kernel
theorem dX4_sheet_33 : decode cX4_sheet 33 = .ok (.iload_n 1, 1) := by decide +kernel
theorem dX4_sheet_34 : decode cX4_sheet 34 = .ok (.aaload, 1) := by decide +kernel
theorem dX4_sheet_35 : decode cX4_sheet 35 = .ok (.iload_n 2, 1) := by decide +kernel
theorem dX4_sheet_36 : decode cX4_sheet 36 = .ok (.iload_n 3, 1) := by decide +kernel
theorem dX4_sheet_37 : decode cX4_sheet 37 = .ok (.invokevirtual 71, 3) := by decide +kernel
theorem dX4_sheet_40 : decode cX4_sheet 40 = .ok (.iload_n 3, 1) := by decide +kernel
theorem dX4_sheet_41 : decode cX4_sheet 41 = .ok (.ireturn, 1) := by decide +kernel
set_option maxRecDepth 20000 in
theorem ggX4_drop_X4_isSheet : GoodIn wsX4_drop wsX4_isSheet := goodIn_r _ [5, 6, 7, 4, 8] (by decide +kernel) (by decide +kernel)
set_option maxRecDepth 20000 in
theorem gX4_drop_X4_isSheet : GoodIn wsX4_drop (va_wsS RX4 64 yX4_isSheet wsX4_isSheet) := goodIn_app (goodIn_of _ (by decide +kernel)) ggX4_drop_X4_isSheet
set_option maxRecDepth 20000 in
theorem ggX4_drop_X1_isMissing : GoodIn wsX4_drop wsX1_isMissing := goodIn_r _ [13, 14, 26, 27, 28] (by decide +kernel) (by decide +kernel)
set_option maxRecDepth 20000 in
theorem gX4_drop_X1_isMissing : GoodIn wsX4_drop (wsV RX4 74 RX1 yX1_isMissing wsX1_isMissing) := goodIn_app (goodIn_of _ (by decide +kernel)) ggX4_drop_X1_isMissing
set_option maxRecDepth 20000 in
theorem ggX4_drop_X1_vanish : GoodIn wsX4_drop wsX1_vanish := goodIn_r _ [18, 19, 14, 26, 27, 28] (by decide +kernel) (by decide +kernel)
set_option maxRecDepth 20000 in
theorem gX4_drop_X1_vanish : GoodIn wsX4_drop (wsV RX4 78 RX1 yX1_vanish wsX1_vanish) := goodIn_app (goodIn_of _ (by decide +kernel)) ggX4_drop_X1_vanish
theorem dX4_drop_0 : decode cX4_drop 0 = .ok (.iload_n 1, 1) := by decide +kernel
theorem dX4_drop_1 : decode cX4_drop 1 = .ok (.invokestatic 64, 3) := by decide +kernel
theorem dX4_drop_4 : decode cX4_drop 4 = .ok (.ifCond .ne 5, 3) := by decide +kernel
theorem dX4_drop_7 : decode cX4_drop 7 = .ok (.iconst (-1), 1) := by decide +kernel
theorem dX4_drop_8 : decode cX4_drop 8 = .ok (.ireturn, 1) := by decide +kernel
theorem dX4_drop_9 : decode cX4_drop 9 = .ok (.aload_n 0, 1) := by decide +kernel
theorem dX4_drop_10 : decode cX4_drop 10 = .ok (.getfield 18, 3) := by decide +kernel
theorem dX4_drop_13 : decode cX4_drop 13 = .ok (.iload_n 1, 1) := by decide +kernel
theorem dX4_drop_14 : decode cX4_drop 14 = .ok (.aaload, 1) := by decide +kernel
theorem dX4_drop_15 : decode cX4_drop 15 = .ok (.invokevirtual 74, 3) := by decide +kernel
theorem dX4_drop_18 : decode cX4_drop 18 = .ok (.ifCond .eq 6, 3) := by decide +kernel
theorem dX4_drop_21 : decode cX4_drop 21 = .ok (.bipush (-11), 2) := by decide +kernel
theorem dX4_drop_23 : decode cX4_drop 23 = .ok (.ireturn, 1) := by decide +kernel
theorem dX4_drop_24 : decode cX4_drop 24 = .ok (.aload_n 0, 1) := by decide +kernel
theorem dX4_drop_25 : decode cX4_drop 25 = .ok (.getfield 18, 3) := by decide +kernel
theorem dX4_drop_28 : decode cX4_drop 28 = .ok (.iload_n 1, 1) := by decide +kernel
theorem dX4_drop_29 : decode cX4_drop 29 = .ok (.aaload, 1) := by decide +kernel
theorem dX4_drop_30 : decode cX4_drop 30 = .ok (.invokevirtual 78, 3) := by decide +kernel
theorem dX4_drop_33 : decode cX4_drop 33 = .ok (.ireturn, 1) := by decide +kernel
set_option maxRecDepth 20000 in
theorem ggX4_item_X4_lookAtItems : GoodIn wsX4_item wsX4_lookAtItems := goodIn_r _ [6, 1, 7, 8, 5, 9, 10, 11, 12, 13, 14, 15, 16, 17, 18, 19, 20, 21, 22, 23, 24, 25, 26, 27, 28, 29, 30, 36, 37, 38, 39, 40, 41, 42, 43, 44] (by decide +kernel) (by decide +kernel)
set_option maxRecDepth 20000 in
theorem gX4_item_X4_lookAtItems : GoodIn wsX4_item (wsV RX4 82 RX4 yX4_lookAtItems wsX4_lookAtItems) := goodIn_app (goodIn_of _ (by decide +kernel)) ggX4_item_X4_lookAtItems
set_option maxRecDepth 20000 in
theorem ggX4_item_X1_setItem : GoodIn wsX4_item wsX1_setItem := goodIn_r _ [34, 35, 42, 43, 44] (by decide +kernel) (by decide +kernel)
set_option maxRecDepth 20000 in
theorem gX4_item_X1_setItem : GoodIn wsX4_item (wsV RX4 86 RX1 yX1_setItem wsX1_setItem) := goodIn_app (goodIn_of _ (by decide +kernel)) ggX4_item_X1_setItem
theorem dX4_item_0 : decode cX4_item 0 = .ok (.aload_n 0, 1) := by decide +kernel
theorem dX4_item_1 : decode cX4_item 1 = .ok (.iload_n 1, 1) := by decide +kernel
theorem dX4_item_2 : decode cX4_item 2 = .ok (.iload_n 2, 1) := by decide +kernel
theorem dX4_item_3 : decode cX4_item 3 = .ok (.iload_n 3, 1) := by decide +kernel
theorem dX4_item_4 : decode cX4_item 4 = .ok (.iconst 1, 1) := by decide +kernel
theorem dX4_item_5 : decode cX4_item 5 = .ok (.invokevirtual 82, 3) := by decide +kernel
theorem dX4_item_8 : decode cX4_item 8 = .ok (.istore 5, 2) := by decide +kernel
theorem dX4_item_10 : decode cX4_item 10 = .ok (.iload 5, 2) := by decide +kernel
theorem dX4_item_12 : decode cX4_item 12 = .ok (.iconst 1, 1) := by decide +kernel
theorem dX4_item_13 : decode cX4_item 13 = .ok (.if_icmp .eq 6, 3) := by decide +kernel
theorem dX4_item_16 : decode cX4_item 16 = .ok (.iload 5, 2) := by decide +kernel
theorem dX4_item_18 : decode cX4_item 18 = .ok (.ireturn, 1) := by decide +kernel
theorem dX4_item_19 : decode cX4_item 19 = .ok (.aload_n 0, 1) := by decide +kernel
theorem dX4_item_20 : decode cX4_item 20 = .ok (.getfield 18, 3) := by decide +kernel
theorem dX4_item_23 : decode cX4_item 23 = .ok (.iload_n 1, 1) := by decide +kernel
theorem dX4_item_24 : decode cX4_item 24 = .ok (.aaload, 1) := by decide +kernel
theorem dX4_item_25 : decode cX4_item 25 = .ok (.iload_n 3, 1) := by decide +kernel
theorem dX4_item_26 : decode cX4_item 26 = .ok (.iload 4, 2) := by decide +kernel
theorem dX4_item_28 : decode cX4_item 28 = .ok (.invokevirtual 86, 3) := by decide +kernel
theorem dX4_item_31 : decode cX4_item 31 = .ok (.iconst 1, 1) := by decide +kernel
theorem dX4_item_32 : decode cX4_item 32 = .ok (.ireturn, 1) := by decide +kernel
set_option maxRecDepth 20000 in
theorem ggX4_weights_X0_placeCount : GoodIn wsX4_weights wsX0_placeCount := goodIn_r _ [7, 8, 9, 66, 67, 68, 69, 70, 71] (by decide +kernel) (by decide +kernel)
set_option maxRecDepth 20000 in
theorem gX4_weights_X0_placeCount : GoodIn wsX4_weights (wsV RX4 89 RX0 yX0_placeCount wsX0_placeCount) := goodIn_app (goodIn_of _ (by decide +kernel)) ggX4_weights_X0_placeCount
set_option maxRecDepth 20000 in
theorem ggX4_weights_X4_lookAtItems : GoodIn wsX4_weights wsX4_lookAtItems := goodIn_r _ [14, 2, 15, 16, 13, 17, 18, 19, 20, 21, 22, 23, 24, 25, 26, 27, 28, 29, 30, 31, 32, 33, 34, 35, 36, 37, 38, 60, 61, 62, 63, 64, 65, 72, 73, 74] (by decide +kernel) (by decide +kernel)
set_option maxRecDepth 20000 in
theorem gX4_weights_X4_lookAtItems : GoodIn wsX4_weights (wsV RX4 82 RX4 yX4_lookAtItems wsX4_lookAtItems) := goodIn_app (goodIn_of _ (by decide +kernel)) ggX4_weights_X4_lookAtItems
set_option maxRecDepth 20000 in
theorem ggX4_weights_X1_areWeights : GoodIn wsX4_weights wsX1_areWeights := goodIn_r _ [42, 43, 44, 13, 45, 46, 72, 73, 74] (by decide +kernel) (by decide +kernel)
set_option maxRecDepth 20000 in
theorem gX4_weights_X1_areWeights : GoodIn wsX4_weights (wsV RX4 92 RX1 yX1_areWeights wsX1_areWeights) := goodIn_app (goodIn_of _ (by decide +kernel)) ggX4_weights_X1_areWeights
set_option maxRecDepth 20000 in
theorem ggX4_weights_X0_takeFrom : GoodIn wsX4_weights wsX0_takeFrom := goodIn_r _ [50, 8, 9, 51, 52, 53, 54, 27, 55, 43, 66, 67, 68, 69, 70, 71, 72, 73, 74] (by decide +kernel) (by decide +kernel)
set_option maxRecDepth 20000 in
theorem gX4_weights_X0_takeFrom : GoodIn wsX4_weights (wsV RX4 95 RX0 yX0_takeFrom wsX0_takeFrom) := goodIn_app (goodIn_of _ (by decide +kernel)) ggX4_weights_X0_takeFrom
set_option maxRecDepth 20000 in
theorem ggX4_weights_X0_total : GoodIn wsX4_weights wsX0_total := goodIn_r _ [59, 8, 9, 51, 66, 67, 68, 69, 70, 71] (by decide +kernel) (by decide +kernel)
set_option maxRecDepth 20000 in
theorem gX4_weights_X0_total : GoodIn wsX4_weights (wsV RX4 99 RX0 yX0_total wsX0_total) := goodIn_app (goodIn_of _ (by decide +kernel)) ggX4_weights_X0_total
theorem dX4_weights_0 : decode cX4_weights 0 = .ok (.aload_n 0, 1) := by decide +kernel
theorem dX4_weights_1 : decode cX4_weights 1 = .ok (.iload_n 1, 1) := by decide +kernel
theorem dX4_weights_2 : decode cX4_weights 2 = .ok (.iload_n 2, 1) := by decide +kernel
theorem dX4_weights_3 : decode cX4_weights 3 = .ok (.iload_n 3, 1) := by decide +kernel
theorem dX4_weights_4 : decode cX4_weights 4 = .ok (.aload_n 0, 1) := by decide +kernel
theorem dX4_weights_5 : decode cX4_weights 5 = .ok (.getfield 10, 3) := by decide +kernel
theorem dX4_weights_8 : decode cX4_weights 8 = .ok (.invokevirtual 89, 3) := by decide +kernel
theorem dX4_weights_11 : decode cX4_weights 11 = .ok (.invokevirtual 82, 3) := by decide +kernel
theorem dX4_weights_14 : decode cX4_weights 14 = .ok (.istore 4, 2) := by decide +kernel
theorem dX4_weights_16 : decode cX4_weights 16 = .ok (.iload 4, 2) := by decide +kernel
theorem dX4_weights_18 : decode cX4_weights 18 = .ok (.iconst 1, 1) := by decide +kernel
theorem dX4_weights_19 : decode cX4_weights 19 = .ok (.if_icmp .eq 6, 3) := by decide +kernel
theorem dX4_weights_22 : decode cX4_weights 22 = .ok (.iload 4, 2) := by decide +kernel
theorem dX4_weights_24 : decode cX4_weights 24 = .ok (.ireturn, 1) := by decide +kernel
theorem dX4_weights_25 : decode cX4_weights 25 = .ok (.aload_n 0, 1) := by decide +kernel
theorem dX4_weights_26 : decode cX4_weights 26 = .ok (.getfield 18, 3) := by decide +kernel
theorem dX4_weights_29 : decode cX4_weights 29 = .ok (.iload_n 1, 1) := by decide +kernel
theorem dX4_weights_30 : decode cX4_weights 30 = .ok (.aaload, 1) := by decide +kernel
theorem dX4_weights_31 : decode cX4_weights 31 = .ok (.astore 5, 2) := by decide +kernel
theorem dX4_weights_33 : decode cX4_weights 33 = .ok (.aload 5, 2) := by decide +kernel
theorem dX4_weights_35 : decode cX4_weights 35 = .ok (.iload_n 3, 1) := by decide +kernel
theorem dX4_weights_36 : decode cX4_weights 36 = .ok (.aload_n 0, 1) := by decide +kernel
theorem dX4_weights_37 : decode cX4_weights 37 = .ok (.getfield 10, 3) := by decide +kernel
theorem dX4_weights_40 : decode cX4_weights 40 = .ok (.invokevirtual 89, 3) := by decide +kernel
theorem dX4_weights_43 : decode cX4_weights 43 = .ok (.invokevirtual 92, 3) := by decide +kernel
theorem dX4_weights_46 : decode cX4_weights 46 = .ok (.ifCond .ne 6, 3) := by decide +kernel
theorem dX4_weights_49 : decode cX4_weights 49 = .ok (.bipush (-2), 2) := by decide +kernel
theorem dX4_weights_51 : decode cX4_weights 51 = .ok (.ireturn, 1) := by decide +kernel
theorem dX4_weights_52 : decode cX4_weights 52 = .ok (.aload_n 0, 1) := by decide +kernel
theorem dX4_weights_53 : decode cX4_weights 53 = .ok (.getfield 10, 3) := by decide +kernel
theorem dX4_weights_56 : decode cX4_weights 56 = .ok (.aload 5, 2) := by decide +kernel
theorem dX4_weights_58 : decode cX4_weights 58 = .ok (.iload_n 3, 1) := by decide +kernel
theorem dX4_weights_59 : decode cX4_weights 59 = .ok (.invokevirtual 95, 3) := by decide +kernel
theorem dX4_weights_62 : decode cX4_weights 62 = .ok (.aload_n 0, 1) := by decide +kernel
theorem dX4_weights_63 : decode cX4_weights 63 = .ok (.getfield 10, 3) := by decide +kernel
theorem dX4_weights_66 : decode cX4_weights 66 = .ok (.invokevirtual 99, 3) := by decide +kernel
theorem dX4_weights_69 : decode cX4_weights 69 = .ok (.ireturn, 1) := by decide +kernel
set_option maxRecDepth 20000 in
theorem ggX4_turn_X0_transpose : GoodIn wsX4_turn wsX0_transpose := goodIn_r _ [6, 7, 8, 9, 16, 17, 18, 19, 20, 21] (by decide +kernel) (by decide +kernel)
set_option maxRecDepth 20000 in
theorem gX4_turn_X0_transpose : GoodIn wsX4_turn (wsV RX4 102 RX0 yX0_transpose wsX0_transpose) := goodIn_app (goodIn_of _ (by decide +kernel)) ggX4_turn_X0_transpose
theorem dX4_turn_0 : decode cX4_turn 0 = .ok (.aload_n 0, 1) := by decide +kernel
theorem dX4_turn_1 : decode cX4_turn 1 = .ok (.getfield 10, 3) := by decide +kernel
theorem dX4_turn_4 : decode cX4_turn 4 = .ok (.invokevirtual 102, 3) := by decide +kernel
theorem dX4_turn_7 : decode cX4_turn 7 = .ok (.iconst 1, 1) := by decide +kernel
theorem dX4_turn_8 : decode cX4_turn 8 = .ok (.ireturn, 1) := by decide +kernel
set_option maxRecDepth 20000 in
theorem ggX4_best_X0_hasPlace : GoodIn wsX4_best wsX0_hasPlace := goodIn_r _ [6, 7, 8, 9, 10, 11, 28, 29, 30, 31, 32, 33] (by decide +kernel) (by decide +kernel)
set_option maxRecDepth 20000 in
theorem gX4_best_X0_hasPlace : GoodIn wsX4_best (wsV RX4 52 RX0 yX0_hasPlace wsX0_hasPlace) := goodIn_app (goodIn_of _ (by decide +kernel)) ggX4_best_X0_hasPlace
set_option maxRecDepth 20000 in
theorem ggX4_best_X0_heaviest : GoodIn wsX4_best wsX0_heaviest := goodIn_r _ [15, 16, 17, 18, 19, 20, 21, 28, 29, 30, 31, 32, 33] (by decide +kernel) (by decide +kernel)
set_option maxRecDepth 20000 in
theorem gX4_best_X0_heaviest : GoodIn wsX4_best (wsV RX4 105 RX0 yX0_heaviest wsX0_heaviest) := goodIn_app (goodIn_of _ (by decide +kernel)) ggX4_best_X0_heaviest
theorem dX4_best_0 : decode cX4_best 0 = .ok (.aload_n 0, 1) := by decide +kernel
theorem dX4_best_1 : decode cX4_best 1 = .ok (.getfield 10, 3) := by decide +kernel
theorem dX4_best_4 : decode cX4_best 4 = .ok (.iload_n 1, 1) := by decide +kernel
theorem dX4_best_5 : decode cX4_best 5 = .ok (.iload_n 2, 1) := by decide +kernel
theorem dX4_best_6 : decode cX4_best 6 = .ok (.invokevirtual 52, 3) := by decide +kernel
theorem dX4_best_9 : decode cX4_best 9 = .ok (.ifCond .ne 5, 3) := by decide +kernel
theorem dX4_best_12 : decode cX4_best 12 = .ok (.iconst (-1), 1) := by decide +kernel
theorem dX4_best_13 : decode cX4_best 13 = .ok (.ireturn, 1) := by decide +kernel
theorem dX4_best_14 : decode cX4_best 14 = .ok (.aload_n 0, 1) := by decide +kernel
theorem dX4_best_15 : decode cX4_best 15 = .ok (.getfield 10, 3) := by decide +kernel
theorem dX4_best_18 : decode cX4_best 18 = .ok (.iconst 0, 1) := by decide +kernel
theorem dX4_best_19 : decode cX4_best 19 = .ok (.iconst 0, 1) := by decide +kernel
theorem dX4_best_20 : decode cX4_best 20 = .ok (.iload_n 1, 1) := by decide +kernel
theorem dX4_best_21 : decode cX4_best 21 = .ok (.iload_n 2, 1) := by decide +kernel
theorem dX4_best_22 : decode cX4_best 22 = .ok (.invokevirtual 105, 3) := by decide +kernel
theorem dX4_best_25 : decode cX4_best 25 = .ok (.ireturn, 1) := by decide +kernel
set_option maxRecDepth 20000 in
theorem ggX4_between_X0_hasPlace : GoodIn wsX4_between wsX0_hasPlace := goodIn_r _ [6, 7, 8, 9, 10, 11, 28, 29, 30, 31, 32, 33] (by decide +kernel) (by decide +kernel)
set_option maxRecDepth 20000 in
theorem gX4_between_X0_hasPlace : GoodIn wsX4_between (wsV RX4 52 RX0 yX0_hasPlace wsX0_hasPlace) := goodIn_app (goodIn_of _ (by decide +kernel)) ggX4_between_X0_hasPlace
set_option maxRecDepth 20000 in
theorem ggX4_between_X0_heaviest : GoodIn wsX4_between wsX0_heaviest := goodIn_r _ [15, 16, 17, 18, 19, 20, 21, 28, 29, 30, 31, 32, 33] (by decide +kernel) (by decide +kernel)
set_option maxRecDepth 20000 in
theorem gX4_between_X0_heaviest : GoodIn wsX4_between (wsV RX4 105 RX0 yX0_heaviest wsX0_heaviest) := goodIn_app (goodIn_of _ (by decide +kernel)) ggX4_between_X0_heaviest
theorem dX4_between_0 : decode cX4_between 0 = .ok (.aload_n 0, 1) := by decide +kernel
theorem dX4_between_1 : decode cX4_between 1 = .ok (.getfield 10, 3) := by decide +kernel
theorem dX4_between_4 : decode cX4_between 4 = .ok (.iload_n 1, 1) := by decide +kernel
theorem dX4_between_5 : decode cX4_between 5 = .ok (.iload_n 2, 1) := by decide +kernel
theorem dX4_between_6 : decode cX4_between 6 = .ok (.invokevirtual 52, 3) := by decide +kernel
theorem dX4_between_9 : decode cX4_between 9 = .ok (.ifCond .eq 16, 3) := by decide +kernel
theorem dX4_between_12 : decode cX4_between 12 = .ok (.aload_n 0, 1) := by decide +kernel
theorem dX4_between_13 : decode cX4_between 13 = .ok (.getfield 10, 3) := by decide +kernel
theorem dX4_between_16 : decode cX4_between 16 = .ok (.iload_n 3, 1) := by decide +kernel
theorem dX4_between_17 : decode cX4_between 17 = .ok (.iload 4, 2) := by decide +kernel
theorem dX4_between_19 : decode cX4_between 19 = .ok (.invokevirtual 52, 3) := by decide +kernel
theorem dX4_between_22 : decode cX4_between 22 = .ok (.ifCond .ne 5, 3) := by decide +kernel
theorem dX4_between_25 : decode cX4_between 25 = .ok (.iconst (-1), 1) := by decide +kernel
theorem dX4_between_26 : decode cX4_between 26 = .ok (.ireturn, 1) := by decide +kernel
theorem dX4_between_27 : decode cX4_between 27 = .ok (.iload_n 3, 1) := by decide +kernel
theorem dX4_between_28 : decode cX4_between 28 = .ok (.iload_n 1, 1) := by decide +kernel
theorem dX4_between_29 : decode cX4_between 29 = .ok (.if_icmp .lt 9, 3) := by decide +kernel
theorem dX4_between_32 : decode cX4_between 32 = .ok (.iload 4, 2) := by decide +kernel
theorem dX4_between_34 : decode cX4_between 34 = .ok (.iload_n 2, 1) := by decide +kernel
theorem dX4_between_35 : decode cX4_between 35 = .ok (.if_icmp .ge 6, 3) := by decide +kernel
theorem dX4_between_38 : decode cX4_between 38 = .ok (.bipush (-4), 2) := by decide +kernel
theorem dX4_between_40 : decode cX4_between 40 = .ok (.ireturn, 1) := by decide +kernel
theorem dX4_between_41 : decode cX4_between 41 = .ok (.aload_n 0, 1) := by decide +kernel
theorem dX4_between_42 : decode cX4_between 42 = .ok (.getfield 10, 3) := by decide +kernel
theorem dX4_between_45 : decode cX4_between 45 = .ok (.iload_n 1, 1) := by decide +kernel
theorem dX4_between_46 : decode cX4_between 46 = .ok (.iload_n 2, 1) := by decide +kernel
theorem dX4_between_47 : decode cX4_between 47 = .ok (.iload_n 3, 1) := by decide +kernel
theorem dX4_between_48 : decode cX4_between 48 = .ok (.iload 4, 2) := by decide +kernel
theorem dX4_between_50 : decode cX4_between 50 = .ok (.invokevirtual 105, 3) := by decide +kernel
theorem dX4_between_53 : decode cX4_between 53 = .ok (.ireturn, 1) := by decide +kernel
set_option maxRecDepth 20000 in
theorem ggX4_shape_X0_hasCorner : GoodIn wsX4_shape wsX0_hasCorner := goodIn_r _ [6, 7, 8, 9, 10, 11, 43, 44, 45, 46, 47, 48] (by decide +kernel) (by decide +kernel)
set_option maxRecDepth 20000 in
theorem gX4_shape_X0_hasCorner : GoodIn wsX4_shape (wsV RX4 108 RX0 yX0_hasCorner wsX0_hasCorner) := goodIn_app (goodIn_of _ (by decide +kernel)) ggX4_shape_X0_hasCorner
set_option maxRecDepth 20000 in
theorem ggX4_shape_X4_isWithin : GoodIn wsX4_shape wsX4_isWithin := goodIn_r _ [11] (by decide +kernel) (by decide +kernel)
set_option maxRecDepth 20000 in
theorem gX4_shape_X4_isWithin : GoodIn wsX4_shape (va_wsS RX4 44 yX4_isWithin wsX4_isWithin) := goodIn_app (goodIn_of _ (by decide +kernel)) ggX4_shape_X4_isWithin
set_option maxRecDepth 20000 in
theorem ggX4_shape_X0_growShapes : GoodIn wsX4_shape wsX0_growShapes := goodIn_r _ [16, 7, 8, 17, 18, 19, 5, 20, 21, 22, 23, 24, 25, 26, 27, 28, 29, 30, 31, 32, 43, 44, 45, 46, 47, 48] (by decide +kernel) (by decide +kernel)
set_option maxRecDepth 20000 in
theorem gX4_shape_X0_growShapes : GoodIn wsX4_shape (wsV RX4 111 RX0 yX0_growShapes wsX0_growShapes) := goodIn_app (goodIn_of _ (by decide +kernel)) ggX4_shape_X0_growShapes
set_option maxRecDepth 20000 in
theorem ggX4_shape_X0_partAt : GoodIn wsX4_shape wsX0_partAt := goodIn_r _ [36, 21, 30, 31, 5, 32, 43, 44, 45, 46, 47, 48] (by decide +kernel) (by decide +kernel)
set_option maxRecDepth 20000 in
theorem gX4_shape_X0_partAt : GoodIn wsX4_shape (wsV RX4 114 RX0 yX0_partAt wsX0_partAt) := goodIn_app (goodIn_of _ (by decide +kernel)) ggX4_shape_X0_partAt
theorem dX4_shape_0 : decode cX4_shape 0 = .ok (.aload_n 0, 1) := by decide +kernel
theorem dX4_shape_1 : decode cX4_shape 1 = .ok (.getfield 10, 3) := by decide +kernel
theorem dX4_shape_4 : decode cX4_shape 4 = .ok (.iload_n 1, 1) := by decide +kernel
theorem dX4_shape_5 : decode cX4_shape 5 = .ok (.iload_n 2, 1) := by decide +kernel
theorem dX4_shape_6 : decode cX4_shape 6 = .ok (.invokevirtual 108, 3) := by decide +kernel
theorem dX4_shape_9 : decode cX4_shape 9 = .ok (.ifCond .eq 12, 3) := by decide +kernel
theorem dX4_shape_12 : decode cX4_shape 12 = .ok (.iload_n 3, 1) := by decide +kernel
theorem dX4_shape_13 : decode cX4_shape 13 = .ok (.iconst 0, 1) := by decide +kernel
theorem dX4_shape_14 : decode cX4_shape 14 = .ok (.iconst 5, 1) := by decide +kernel
theorem dX4_shape_15 : decode cX4_shape 15 = .ok (.invokestatic 44, 3) := by decide +kernel
theorem dX4_shape_18 : decode cX4_shape 18 = .ok (.ifCond .ne 5, 3) := by decide +kernel
theorem dX4_shape_21 : decode cX4_shape 21 = .ok (.iconst (-1), 1) := by decide +kernel
theorem dX4_shape_22 : decode cX4_shape 22 = .ok (.ireturn, 1) := by decide +kernel
theorem dX4_shape_23 : decode cX4_shape 23 = .ok (.aload_n 0, 1) := by decide +kernel
theorem dX4_shape_24 : decode cX4_shape 24 = .ok (.getfield 10, 3) := by decide +kernel
theorem dX4_shape_27 : decode cX4_shape 27 = .ok (.invokevirtual 111, 3) := by decide +kernel
theorem dX4_shape_30 : decode cX4_shape 30 = .ok (.aload_n 0, 1) := by decide +kernel
theorem dX4_shape_31 : decode cX4_shape 31 = .ok (.getfield 10, 3) := by decide +kernel
theorem dX4_shape_34 : decode cX4_shape 34 = .ok (.iload_n 1, 1) := by decide +kernel
theorem dX4_shape_35 : decode cX4_shape 35 = .ok (.iload_n 2, 1) := by decide +kernel
theorem dX4_shape_36 : decode cX4_shape 36 = .ok (.iload_n 3, 1) := by decide +kernel
theorem dX4_shape_37 : decode cX4_shape 37 = .ok (.invokevirtual 114, 3) := by decide +kernel
theorem dX4_shape_40 : decode cX4_shape 40 = .ok (.ireturn, 1) := by decide +kernel
set_option maxRecDepth 20000 in
theorem ggX4_ways_X4_isWithin : GoodIn wsX4_ways wsX4_isWithin := goodIn_r _ [5] (by decide +kernel) (by decide +kernel)
set_option maxRecDepth 20000 in
theorem gX4_ways_X4_isWithin : GoodIn wsX4_ways (va_wsS RX4 44 yX4_isWithin wsX4_isWithin) := goodIn_app (goodIn_of _ (by decide +kernel)) ggX4_ways_X4_isWithin
set_option maxRecDepth 20000 in
theorem ggX4_ways_X0_growShapes : GoodIn wsX4_ways wsX0_growShapes := goodIn_r _ [10, 11, 12, 13, 14, 15, 9, 16, 17, 18, 19, 20, 21, 22, 23, 24, 25, 26, 27, 28, 43, 44, 45, 46, 47, 48] (by decide +kernel) (by decide +kernel)
set_option maxRecDepth 20000 in
theorem gX4_ways_X0_growShapes : GoodIn wsX4_ways (wsV RX4 111 RX0 yX0_growShapes wsX0_growShapes) := goodIn_app (goodIn_of _ (by decide +kernel)) ggX4_ways_X0_growShapes
set_option maxRecDepth 20000 in
theorem ggX4_ways_X0_firstPartsAtEnd : GoodIn wsX4_ways wsX0_firstPartsAtEnd := goodIn_r _ [32, 11, 12, 33, 34, 35, 9, 36, 17, 26, 27, 28, 43, 44, 45, 46, 47, 48] (by decide +kernel) (by decide +kernel)
set_option maxRecDepth 20000 in
theorem gX4_ways_X0_firstPartsAtEnd : GoodIn wsX4_ways (wsV RX4 117 RX0 yX0_firstPartsAtEnd wsX0_firstPartsAtEnd) := goodIn_app (goodIn_of _ (by decide +kernel)) ggX4_ways_X0_firstPartsAtEnd
theorem dX4_ways_0 : decode cX4_ways 0 = .ok (.iload_n 1, 1) := by decide +kernel
theorem dX4_ways_1 : decode cX4_ways 1 = .ok (.iconst 1, 1) := by decide +kernel
theorem dX4_ways_2 : decode cX4_ways 2 = .ok (.bipush 6, 2) := by decide +kernel
theorem dX4_ways_4 : decode cX4_ways 4 = .ok (.invokestatic 44, 3) := by decide +kernel
theorem dX4_ways_7 : decode cX4_ways 7 = .ok (.ifCond .ne 5, 3) := by decide +kernel
theorem dX4_ways_10 : decode cX4_ways 10 = .ok (.iconst (-1), 1) := by decide +kernel
theorem dX4_ways_11 : decode cX4_ways 11 = .ok (.ireturn, 1) := by decide +kernel
theorem dX4_ways_12 : decode cX4_ways 12 = .ok (.aload_n 0, 1) := by decide +kernel
theorem dX4_ways_13 : decode cX4_ways 13 = .ok (.getfield 10, 3) := by decide +kernel
theorem dX4_ways_16 : decode cX4_ways 16 = .ok (.invokevirtual 111, 3) := by decide +kernel
theorem dX4_ways_19 : decode cX4_ways 19 = .ok (.aload_n 0, 1) := by decide +kernel
theorem dX4_ways_20 : decode cX4_ways 20 = .ok (.getfield 10, 3) := by decide +kernel
theorem dX4_ways_23 : decode cX4_ways 23 = .ok (.iload_n 1, 1) := by decide +kernel
theorem dX4_ways_24 : decode cX4_ways 24 = .ok (.invokevirtual 117, 3) := by decide +kernel
theorem dX4_ways_27 : decode cX4_ways 27 = .ok (.ireturn, 1) := by decide +kernel
set_option maxRecDepth 20000 in
theorem ggX4_sums_X0_hasPlace : GoodIn wsX4_sums wsX0_hasPlace := goodIn_r _ [7, 8, 9, 10, 11, 12, 29, 30, 31, 32, 33, 34] (by decide +kernel) (by decide +kernel)
set_option maxRecDepth 20000 in
theorem gX4_sums_X0_hasPlace : GoodIn wsX4_sums (wsV RX4 52 RX0 yX0_hasPlace wsX0_hasPlace) := goodIn_app (goodIn_of _ (by decide +kernel)) ggX4_sums_X0_hasPlace
set_option maxRecDepth 20000 in
theorem ggX4_sums_X0_productSum : GoodIn wsX4_sums wsX0_productSum := goodIn_r _ [16, 17, 18, 19, 20, 21, 6, 22, 29, 30, 31, 32, 33, 34] (by decide +kernel) (by decide +kernel)
set_option maxRecDepth 20000 in
theorem gX4_sums_X0_productSum : GoodIn wsX4_sums (wsV RX4 123 RX0 yX0_productSum wsX0_productSum) := goodIn_app (goodIn_of _ (by decide +kernel)) ggX4_sums_X0_productSum
theorem dX4_sums_0 : decode cX4_sums 0 = .ok (.aload_n 0, 1) := by decide +kernel
theorem dX4_sums_1 : decode cX4_sums 1 = .ok (.getfield 10, 3) := by decide +kernel
theorem dX4_sums_4 : decode cX4_sums 4 = .ok (.iload_n 1, 1) := by decide +kernel
theorem dX4_sums_5 : decode cX4_sums 5 = .ok (.iload_n 2, 1) := by decide +kernel
theorem dX4_sums_6 : decode cX4_sums 6 = .ok (.invokevirtual 52, 3) := by decide +kernel
theorem dX4_sums_9 : decode cX4_sums 9 = .ok (.ifCond .ne 7, 3) := by decide +kernel
theorem dX4_sums_12 : decode cX4_sums 12 = .ok (.ldc2_w 121, 3) := by decide +kernel
theorem dX4_sums_15 : decode cX4_sums 15 = .ok (.lreturn, 1) := by decide +kernel
theorem dX4_sums_16 : decode cX4_sums 16 = .ok (.aload_n 0, 1) := by decide +kernel
theorem dX4_sums_17 : decode cX4_sums 17 = .ok (.getfield 10, 3) := by decide +kernel
theorem dX4_sums_20 : decode cX4_sums 20 = .ok (.iload_n 1, 1) := by decide +kernel
theorem dX4_sums_21 : decode cX4_sums 21 = .ok (.iload_n 2, 1) := by decide +kernel
theorem dX4_sums_22 : decode cX4_sums 22 = .ok (.invokevirtual 123, 3) := by decide +kernel
theorem dX4_sums_25 : decode cX4_sums 25 = .ok (.lreturn, 1) := by decide +kernel
set_option maxRecDepth 20000 in
theorem ggX4_served_X0_hasPlace : GoodIn wsX4_served wsX0_hasPlace := goodIn_r _ [6, 7, 8, 9, 10, 11, 32, 33, 34, 35, 36, 37] (by decide +kernel) (by decide +kernel)
set_option maxRecDepth 20000 in
theorem gX4_served_X0_hasPlace : GoodIn wsX4_served (wsV RX4 52 RX0 yX0_hasPlace wsX0_hasPlace) := goodIn_app (goodIn_of _ (by decide +kernel)) ggX4_served_X0_hasPlace
set_option maxRecDepth 20000 in
theorem ggX4_served_X0_countServed : GoodIn wsX4_served wsX0_countServed := goodIn_r _ [15, 8, 16, 17, 18, 19, 5, 20, 21, 22, 23, 24, 25, 32, 33, 34, 35, 36, 37] (by decide +kernel) (by decide +kernel)
set_option maxRecDepth 20000 in
theorem gX4_served_X0_countServed : GoodIn wsX4_served (wsV RX4 127 RX0 yX0_countServed wsX0_countServed) := goodIn_app (goodIn_of _ (by decide +kernel)) ggX4_served_X0_countServed
theorem dX4_served_0 : decode cX4_served 0 = .ok (.aload_n 0, 1) := by decide +kernel
theorem dX4_served_1 : decode cX4_served 1 = .ok (.getfield 10, 3) := by decide +kernel
theorem dX4_served_4 : decode cX4_served 4 = .ok (.iload_n 1, 1) := by decide +kernel
theorem dX4_served_5 : decode cX4_served 5 = .ok (.iconst 0, 1) := by decide +kernel
theorem dX4_served_6 : decode cX4_served 6 = .ok (.invokevirtual 52, 3) := by decide +kernel
theorem dX4_served_9 : decode cX4_served 9 = .ok (.ifCond .eq 7, 3) := by decide +kernel
theorem dX4_served_12 : decode cX4_served 12 = .ok (.iload_n 2, 1) := by decide +kernel
theorem dX4_served_13 : decode cX4_served 13 = .ok (.ifCond .ge 5, 3) := by decide +kernel
theorem dX4_served_16 : decode cX4_served 16 = .ok (.iconst (-1), 1) := by decide +kernel
theorem dX4_served_17 : decode cX4_served 17 = .ok (.ireturn, 1) := by decide +kernel
theorem dX4_served_18 : decode cX4_served 18 = .ok (.aload_n 0, 1) := by decide +kernel
theorem dX4_served_19 : decode cX4_served 19 = .ok (.getfield 10, 3) := by decide +kernel
theorem dX4_served_22 : decode cX4_served 22 = .ok (.iload_n 1, 1) := by decide +kernel
theorem dX4_served_23 : decode cX4_served 23 = .ok (.iload_n 2, 1) := by decide +kernel
theorem dX4_served_24 : decode cX4_served 24 = .ok (.invokevirtual 127, 3) := by decide +kernel
theorem dX4_served_27 : decode cX4_served 27 = .ok (.ireturn, 1) := by decide +kernel
set_option maxRecDepth 20000 in
theorem ggX4_line_X0_lastStep : GoodIn wsX4_line wsX0_lastStep := goodIn_r _ [6, 7, 8, 41, 42, 43, 44, 45, 46] (by decide +kernel) (by decide +kernel)
set_option maxRecDepth 20000 in
theorem gX4_line_X0_lastStep : GoodIn wsX4_line (wsV RX4 131 RX0 yX0_lastStep wsX0_lastStep) := goodIn_app (goodIn_of _ (by decide +kernel)) ggX4_line_X0_lastStep
set_option maxRecDepth 20000 in
theorem ggX4_line_X4_isWithin : GoodIn wsX4_line wsX4_isWithin := goodIn_r _ [12] (by decide +kernel) (by decide +kernel)
set_option maxRecDepth 20000 in
theorem gX4_line_X4_isWithin : GoodIn wsX4_line (va_wsS RX4 44 yX4_isWithin wsX4_isWithin) := goodIn_app (goodIn_of _ (by decide +kernel)) ggX4_line_X4_isWithin
set_option maxRecDepth 20000 in
theorem ggX4_line_X0_placeOnLine : GoodIn wsX4_line wsX0_placeOnLine := goodIn_r _ [16, 7, 8, 17, 18, 19, 5, 20, 21, 22, 23, 24, 25, 26, 27, 28, 29, 30, 31, 32, 33, 34, 10, 11, 12, 41, 42, 43, 44, 45, 46] (by decide +kernel) (by decide +kernel)
set_option maxRecDepth 20000 in
theorem gX4_line_X0_placeOnLine : GoodIn wsX4_line (wsV RX4 134 RX0 yX0_placeOnLine wsX0_placeOnLine) := goodIn_app (goodIn_of _ (by decide +kernel)) ggX4_line_X0_placeOnLine
theorem dX4_line_0 : decode cX4_line 0 = .ok (.iload_n 1, 1) := by decide +kernel
theorem dX4_line_1 : decode cX4_line 1 = .ok (.iconst 0, 1) := by decide +kernel
theorem dX4_line_2 : decode cX4_line 2 = .ok (.aload_n 0, 1) := by decide +kernel
theorem dX4_line_3 : decode cX4_line 3 = .ok (.getfield 10, 3) := by decide +kernel
theorem dX4_line_6 : decode cX4_line 6 = .ok (.invokevirtual 131, 3) := by decide +kernel
theorem dX4_line_9 : decode cX4_line 9 = .ok (.invokestatic 44, 3) := by decide +kernel
theorem dX4_line_12 : decode cX4_line 12 = .ok (.ifCond .ne 5, 3) := by decide +kernel
theorem dX4_line_15 : decode cX4_line 15 = .ok (.iconst (-1), 1) := by decide +kernel
theorem dX4_line_16 : decode cX4_line 16 = .ok (.ireturn, 1) := by decide +kernel
theorem dX4_line_17 : decode cX4_line 17 = .ok (.aload_n 0, 1) := by decide +kernel
theorem dX4_line_18 : decode cX4_line 18 = .ok (.getfield 10, 3) := by decide +kernel
theorem dX4_line_21 : decode cX4_line 21 = .ok (.iload_n 1, 1) := by decide +kernel
theorem dX4_line_22 : decode cX4_line 22 = .ok (.invokevirtual 134, 3) := by decide +kernel
theorem dX4_line_25 : decode cX4_line 25 = .ok (.ireturn, 1) := by decide +kernel
set_option maxRecDepth 20000 in
theorem ggX4_letter_X4_isWithin : GoodIn wsX4_letter wsX4_isWithin := goodIn_r _ [5] (by decide +kernel) (by decide +kernel)
set_option maxRecDepth 20000 in
theorem gX4_letter_X4_isWithin : GoodIn wsX4_letter (va_wsS RX4 44 yX4_isWithin wsX4_isWithin) := goodIn_app (goodIn_of _ (by decide +kernel)) ggX4_letter_X4_isWithin
set_option maxRecDepth 20000 in
theorem ggX4_letter_X3_letterCount : GoodIn wsX4_letter wsX3_letterCount := goodIn_r _ [10, 11, 12, 13, 14, 15, 16, 17, 62, 63, 64, 65, 66, 67] (by decide +kernel) (by decide +kernel)
set_option maxRecDepth 20000 in
theorem gX4_letter_X3_letterCount : GoodIn wsX4_letter (wsV RX4 137 RX3 yX3_letterCount wsX3_letterCount) := goodIn_app (goodIn_of _ (by decide +kernel)) ggX4_letter_X3_letterCount
set_option maxRecDepth 20000 in
theorem ggX4_letter_X3_takeLetter : GoodIn wsX4_letter wsX3_takeLetter := goodIn_r _ [21, 11, 22, 23, 24, 25, 15, 26, 27, 28, 29, 30, 31, 32, 33, 34, 35, 36, 37, 38, 39, 40, 41, 42, 43, 44, 17, 45, 46, 47, 48, 49, 3, 4, 5, 50, 51, 52, 53, 54, 7, 8, 9, 10, 12, 13, 14, 16, 55, 62, 63, 64, 65, 66, 67] (by decide +kernel) (by decide +kernel)
set_option maxRecDepth 20000 in
theorem gX4_letter_X3_takeLetter : GoodIn wsX4_letter (wsV RX4 140 RX3 yX3_takeLetter wsX3_takeLetter) := goodIn_app (goodIn_of _ (by decide +kernel)) ggX4_letter_X3_takeLetter
theorem dX4_letter_0 : decode cX4_letter 0 = .ok (.iload_n 1, 1) := by decide +kernel
theorem dX4_letter_1 : decode cX4_letter 1 = .ok (.iconst 1, 1) := by decide +kernel
theorem dX4_letter_2 : decode cX4_letter 2 = .ok (.bipush 9, 2) := by decide +kernel
theorem dX4_letter_4 : decode cX4_letter 4 = .ok (.invokestatic 44, 3) := by decide +kernel
theorem dX4_letter_7 : decode cX4_letter 7 = .ok (.ifCond .ne 5, 3) := by decide +kernel
theorem dX4_letter_10 : decode cX4_letter 10 = .ok (.iconst (-1), 1) := by decide +kernel
theorem dX4_letter_11 : decode cX4_letter 11 = .ok (.ireturn, 1) := by decide +kernel
theorem dX4_letter_12 : decode cX4_letter 12 = .ok (.aload_n 0, 1) := by decide +kernel
theorem dX4_letter_13 : decode cX4_letter 13 = .ok (.getfield 26, 3) := by decide +kernel
theorem dX4_letter_16 : decode cX4_letter 16 = .ok (.invokevirtual 137, 3) := by decide +kernel
theorem dX4_letter_19 : decode cX4_letter 19 = .ok (.bipush 40, 2) := by decide +kernel
theorem dX4_letter_21 : decode cX4_letter 21 = .ok (.if_icmp .lt 6, 3) := by decide +kernel
theorem dX4_letter_24 : decode cX4_letter 24 = .ok (.bipush (-3), 2) := by decide +kernel
theorem dX4_letter_26 : decode cX4_letter 26 = .ok (.ireturn, 1) := by decide +kernel
theorem dX4_letter_27 : decode cX4_letter 27 = .ok (.aload_n 0, 1) := by decide +kernel
theorem dX4_letter_28 : decode cX4_letter 28 = .ok (.getfield 26, 3) := by decide +kernel
theorem dX4_letter_31 : decode cX4_letter 31 = .ok (.iload_n 1, 1) := by decide +kernel
theorem dX4_letter_32 : decode cX4_letter 32 = .ok (.invokevirtual 140, 3) := by decide +kernel
theorem dX4_letter_35 : decode cX4_letter 35 = .ok (.aload_n 0, 1) := by decide +kernel
theorem dX4_letter_36 : decode cX4_letter 36 = .ok (.getfield 26, 3) := by decide +kernel
theorem dX4_letter_39 : decode cX4_letter 39 = .ok (.invokevirtual 137, 3) := by decide +kernel
theorem dX4_letter_42 : decode cX4_letter 42 = .ok (.ireturn, 1) := by decide +kernel
set_option maxRecDepth 20000 in
theorem ggX4_clear_X3_letterCount : GoodIn wsX4_clear wsX3_letterCount := goodIn_r _ [6, 7, 8, 9, 10, 11, 12, 13, 35, 36, 37, 38, 39, 40] (by decide +kernel) (by decide +kernel)
set_option maxRecDepth 20000 in
theorem gX4_clear_X3_letterCount : GoodIn wsX4_clear (wsV RX4 137 RX3 yX3_letterCount wsX3_letterCount) := goodIn_app (goodIn_of _ (by decide +kernel)) ggX4_clear_X3_letterCount
set_option maxRecDepth 20000 in
theorem ggX4_clear_X3_forget : GoodIn wsX4_clear wsX3_forget := goodIn_r _ [17, 7, 18, 19, 20, 21, 11, 22, 23, 24, 13, 25, 26, 27, 28, 35, 36, 37, 38, 39, 40] (by decide +kernel) (by decide +kernel)
set_option maxRecDepth 20000 in
theorem gX4_clear_X3_forget : GoodIn wsX4_clear (wsV RX4 144 RX3 yX3_forget wsX3_forget) := goodIn_app (goodIn_of _ (by decide +kernel)) ggX4_clear_X3_forget
theorem dX4_clear_0 : decode cX4_clear 0 = .ok (.aload_n 0, 1) := by decide +kernel
theorem dX4_clear_1 : decode cX4_clear 1 = .ok (.getfield 26, 3) := by decide +kernel
theorem dX4_clear_4 : decode cX4_clear 4 = .ok (.invokevirtual 137, 3) := by decide +kernel
theorem dX4_clear_7 : decode cX4_clear 7 = .ok (.istore_n 1, 1) := by decide +kernel
theorem dX4_clear_8 : decode cX4_clear 8 = .ok (.aload_n 0, 1) := by decide +kernel
theorem dX4_clear_9 : decode cX4_clear 9 = .ok (.getfield 26, 3) := by decide +kernel
theorem dX4_clear_12 : decode cX4_clear 12 = .ok (.invokevirtual 144, 3) := by decide +kernel
theorem dX4_clear_15 : decode cX4_clear 15 = .ok (.iload_n 1, 1) := by decide +kernel
theorem dX4_clear_16 : decode cX4_clear 16 = .ok (.ireturn, 1) := by decide +kernel
set_option maxRecDepth 20000 in
theorem ggX4_row_X4_isWithin : GoodIn wsX4_row wsX4_isWithin := goodIn_r _ [5] (by decide +kernel) (by decide +kernel)
set_option maxRecDepth 20000 in
theorem gX4_row_X4_isWithin : GoodIn wsX4_row (va_wsS RX4 44 yX4_isWithin wsX4_isWithin) := goodIn_app (goodIn_of _ (by decide +kernel)) ggX4_row_X4_isWithin
set_option maxRecDepth 20000 in
theorem ggX4_row_X3_tableau : GoodIn wsX4_row wsX3_tableau := goodIn_r _ [10, 11, 12, 25, 26] (by decide +kernel) (by decide +kernel)
set_option maxRecDepth 20000 in
theorem gX4_row_X3_tableau : GoodIn wsX4_row (wsV RX4 147 RX3 yX3_tableau wsX3_tableau) := goodIn_app (goodIn_of _ (by decide +kernel)) ggX4_row_X3_tableau
set_option maxRecDepth 20000 in
theorem ggX4_row_X2_lengthOf : GoodIn wsX4_row wsX2_lengthOf := goodIn_r _ [17, 18, 27, 28, 29, 30] (by decide +kernel) (by decide +kernel)
set_option maxRecDepth 20000 in
theorem gX4_row_X2_lengthOf : GoodIn wsX4_row (wsV RX4 151 RX2 yX2_lengthOf wsX2_lengthOf) := goodIn_app (goodIn_of _ (by decide +kernel)) ggX4_row_X2_lengthOf
theorem dX4_row_0 : decode cX4_row 0 = .ok (.iload_n 1, 1) := by decide +kernel
theorem dX4_row_1 : decode cX4_row 1 = .ok (.iconst 0, 1) := by decide +kernel
theorem dX4_row_2 : decode cX4_row 2 = .ok (.bipush 8, 2) := by decide +kernel
theorem dX4_row_4 : decode cX4_row 4 = .ok (.invokestatic 44, 3) := by decide +kernel
theorem dX4_row_7 : decode cX4_row 7 = .ok (.ifCond .ne 5, 3) := by decide +kernel
theorem dX4_row_10 : decode cX4_row 10 = .ok (.iconst (-1), 1) := by decide +kernel
theorem dX4_row_11 : decode cX4_row 11 = .ok (.ireturn, 1) := by decide +kernel
theorem dX4_row_12 : decode cX4_row 12 = .ok (.aload_n 0, 1) := by decide +kernel
theorem dX4_row_13 : decode cX4_row 13 = .ok (.getfield 26, 3) := by decide +kernel
theorem dX4_row_16 : decode cX4_row 16 = .ok (.iconst 0, 1) := by decide +kernel
theorem dX4_row_17 : decode cX4_row 17 = .ok (.invokevirtual 147, 3) := by decide +kernel
theorem dX4_row_20 : decode cX4_row 20 = .ok (.iload_n 1, 1) := by decide +kernel
theorem dX4_row_21 : decode cX4_row 21 = .ok (.invokevirtual 151, 3) := by decide +kernel
theorem dX4_row_24 : decode cX4_row 24 = .ok (.ireturn, 1) := by decide +kernel
set_option maxRecDepth 20000 in
theorem ggX4_place_X4_isWhich : GoodIn wsX4_place wsX4_isWhich := goodIn_r _ [5, 6, 7, 4, 8] (by decide +kernel) (by decide +kernel)
set_option maxRecDepth 20000 in
theorem gX4_place_X4_isWhich : GoodIn wsX4_place (va_wsS RX4 154 yX4_isWhich wsX4_isWhich) := goodIn_app (goodIn_of _ (by decide +kernel)) ggX4_place_X4_isWhich
set_option maxRecDepth 20000 in
theorem ggX4_place_X4_isWithin : GoodIn wsX4_place wsX4_isWithin := goodIn_r _ [8] (by decide +kernel) (by decide +kernel)
set_option maxRecDepth 20000 in
theorem gX4_place_X4_isWithin : GoodIn wsX4_place (va_wsS RX4 44 yX4_isWithin wsX4_isWithin) := goodIn_app (goodIn_of _ (by decide +kernel)) ggX4_place_X4_isWithin
set_option maxRecDepth 20000 in
theorem ggX4_place_X3_tableau : GoodIn wsX4_place wsX3_tableau := goodIn_r _ [13, 14, 15, 38, 39] (by decide +kernel) (by decide +kernel)
set_option maxRecDepth 20000 in
theorem gX4_place_X3_tableau : GoodIn wsX4_place (wsV RX4 147 RX3 yX3_tableau wsX3_tableau) := goodIn_app (goodIn_of _ (by decide +kernel)) ggX4_place_X3_tableau
set_option maxRecDepth 20000 in
theorem ggX4_place_X2_has : GoodIn wsX4_place wsX2_has := goodIn_r _ [20, 21, 22, 23, 19, 24, 25, 40, 41, 42, 43] (by decide +kernel) (by decide +kernel)
set_option maxRecDepth 20000 in
theorem gX4_place_X2_has : GoodIn wsX4_place (wsV RX4 157 RX2 yX2_has wsX2_has) := goodIn_app (goodIn_of _ (by decide +kernel)) ggX4_place_X2_has
set_option maxRecDepth 20000 in
theorem ggX4_place_X2_at : GoodIn wsX4_place wsX2_at := goodIn_r _ [29, 30, 31, 17, 18, 19, 20, 21, 22, 23, 24, 25, 40, 41, 42, 43] (by decide +kernel) (by decide +kernel)
set_option maxRecDepth 20000 in
theorem gX4_place_X2_at : GoodIn wsX4_place (wsV RX4 160 RX2 yX2_at wsX2_at) := goodIn_app (goodIn_of _ (by decide +kernel)) ggX4_place_X2_at
theorem dX4_place_0 : decode cX4_place 0 = .ok (.iload_n 1, 1) := by decide +kernel
theorem dX4_place_1 : decode cX4_place 1 = .ok (.invokestatic 154, 3) := by decide +kernel
theorem dX4_place_4 : decode cX4_place 4 = .ok (.ifCond .eq 17, 3) := by decide +kernel
theorem dX4_place_7 : decode cX4_place 7 = .ok (.iload_n 2, 1) := by decide +kernel
theorem dX4_place_8 : decode cX4_place 8 = .ok (.iconst 0, 1) := by decide +kernel
theorem dX4_place_9 : decode cX4_place 9 = .ok (.bipush 8, 2) := by decide +kernel
theorem dX4_place_11 : decode cX4_place 11 = .ok (.invokestatic 44, 3) := by decide +kernel
theorem dX4_place_14 : decode cX4_place 14 = .ok (.ifCond .eq 7, 3) := by decide +kernel
theorem dX4_place_17 : decode cX4_place 17 = .ok (.iload_n 3, 1) := by decide +kernel
theorem dX4_place_18 : decode cX4_place 18 = .ok (.ifCond .ge 5, 3) := by decide +kernel
theorem dX4_place_21 : decode cX4_place 21 = .ok (.iconst (-1), 1) := by decide +kernel
theorem dX4_place_22 : decode cX4_place 22 = .ok (.ireturn, 1) := by decide +kernel
theorem dX4_place_23 : decode cX4_place 23 = .ok (.aload_n 0, 1) := by decide +kernel
theorem dX4_place_24 : decode cX4_place 24 = .ok (.getfield 26, 3) := by decide +kernel
theorem dX4_place_27 : decode cX4_place 27 = .ok (.iload_n 1, 1) := by decide +kernel
theorem dX4_place_28 : decode cX4_place 28 = .ok (.invokevirtual 147, 3) := by decide +kernel
theorem dX4_place_31 : decode cX4_place 31 = .ok (.astore 4, 2) := by decide +kernel
theorem dX4_place_33 : decode cX4_place 33 = .ok (.aload 4, 2) := by decide +kernel
theorem dX4_place_35 : decode cX4_place 35 = .ok (.iload_n 2, 1) := by decide +kernel
theorem dX4_place_36 : decode cX4_place 36 = .ok (.iload_n 3, 1) := by decide +kernel
theorem dX4_place_37 : decode cX4_place 37 = .ok (.invokevirtual 157, 3) := by decide +kernel
theorem dX4_place_40 : decode cX4_place 40 = .ok (.ifCond .eq 13, 3) := by decide +kernel
theorem dX4_place_43 : decode cX4_place 43 = .ok (.aload 4, 2) := by decide +kernel
theorem dX4_place_45 : decode cX4_place 45 = .ok (.iload_n 2, 1) := by decide +kernel
theorem dX4_place_46 : decode cX4_place 46 = .ok (.iload_n 3, 1) := by decide +kernel
theorem dX4_place_47 : decode cX4_place 47 = .ok (.invokevirtual 160, 3) := by decide +kernel
theorem dX4_place_50 : decode cX4_place 50 = .ok (.goto 5, 3) := by decide +kernel
theorem dX4_place_53 : decode cX4_place 53 = .ok (.bipush (-4), 2) := by decide +kernel
theorem dX4_place_55 : decode cX4_place 55 = .ok (.ireturn, 1) := by decide +kernel
set_option maxRecDepth 20000 in
theorem ggX4_longest_X4_isWhich : GoodIn wsX4_longest wsX4_isWhich := goodIn_r _ [5, 6, 7, 4, 8] (by decide +kernel) (by decide +kernel)
set_option maxRecDepth 20000 in
theorem gX4_longest_X4_isWhich : GoodIn wsX4_longest (va_wsS RX4 154 yX4_isWhich wsX4_isWhich) := goodIn_app (goodIn_of _ (by decide +kernel)) ggX4_longest_X4_isWhich
set_option maxRecDepth 20000 in
theorem ggX4_longest_X3_tableau : GoodIn wsX4_longest wsX3_tableau := goodIn_r _ [13, 14, 15, 33, 34] (by decide +kernel) (by decide +kernel)
set_option maxRecDepth 20000 in
theorem gX4_longest_X3_tableau : GoodIn wsX4_longest (wsV RX4 147 RX3 yX3_tableau wsX3_tableau) := goodIn_app (goodIn_of _ (by decide +kernel)) ggX4_longest_X3_tableau
set_option maxRecDepth 20000 in
theorem ggX4_longest_X2_lengthOf : GoodIn wsX4_longest wsX2_lengthOf := goodIn_r _ [20, 21, 35, 36, 37, 38] (by decide +kernel) (by decide +kernel)
set_option maxRecDepth 20000 in
theorem gX4_longest_X2_lengthOf : GoodIn wsX4_longest (wsV RX4 151 RX2 yX2_lengthOf wsX2_lengthOf) := goodIn_app (goodIn_of _ (by decide +kernel)) ggX4_longest_X2_lengthOf
set_option maxRecDepth 20000 in
theorem ggX4_longest_X2_rowCount : GoodIn wsX4_longest wsX2_rowCount := goodIn_r _ [25, 26, 35, 36, 37, 38] (by decide +kernel) (by decide +kernel)
set_option maxRecDepth 20000 in
theorem gX4_longest_X2_rowCount : GoodIn wsX4_longest (wsV RX4 163 RX2 yX2_rowCount wsX2_rowCount) := goodIn_app (goodIn_of _ (by decide +kernel)) ggX4_longest_X2_rowCount
theorem dX4_longest_0 : decode cX4_longest 0 = .ok (.iload_n 1, 1) := by decide +kernel
theorem dX4_longest_1 : decode cX4_longest 1 = .ok (.invokestatic 154, 3) := by decide +kernel
theorem dX4_longest_4 : decode cX4_longest 4 = .ok (.ifCond .ne 5, 3) := by decide +kernel
theorem dX4_longest_7 : decode cX4_longest 7 = .ok (.iconst (-1), 1) := by decide +kernel
theorem dX4_longest_8 : decode cX4_longest 8 = .ok (.ireturn, 1) := by decide +kernel
theorem dX4_longest_9 : decode cX4_longest 9 = .ok (.aload_n 0, 1) := by decide +kernel
theorem dX4_longest_10 : decode cX4_longest 10 = .ok (.getfield 26, 3) := by decide +kernel
theorem dX4_longest_13 : decode cX4_longest 13 = .ok (.iconst 0, 1) := by decide +kernel
theorem dX4_longest_14 : decode cX4_longest 14 = .ok (.invokevirtual 147, 3) := by decide +kernel
theorem dX4_longest_17 : decode cX4_longest 17 = .ok (.astore_n 2, 1) := by decide +kernel
theorem dX4_longest_18 : decode cX4_longest 18 = .ok (.iload_n 1, 1) := by decide +kernel
theorem dX4_longest_19 : decode cX4_longest 19 = .ok (.ifCond .ne 11, 3) := by decide +kernel
theorem dX4_longest_22 : decode cX4_longest 22 = .ok (.aload_n 2, 1) := by decide +kernel
theorem dX4_longest_23 : decode cX4_longest 23 = .ok (.iconst 0, 1) := by decide +kernel
theorem dX4_longest_24 : decode cX4_longest 24 = .ok (.invokevirtual 151, 3) := by decide +kernel
theorem dX4_longest_27 : decode cX4_longest 27 = .ok (.goto 7, 3) := by decide +kernel
theorem dX4_longest_30 : decode cX4_longest 30 = .ok (.aload_n 2, 1) := by decide +kernel
theorem dX4_longest_31 : decode cX4_longest 31 = .ok (.invokevirtual 163, 3) := by decide +kernel
theorem dX4_longest_34 : decode cX4_longest 34 = .ok (.ireturn, 1) := by decide +kernel
set_option maxRecDepth 20000 in
theorem ggX4_lay_X4_isWhich : GoodIn wsX4_lay wsX4_isWhich := goodIn_r _ [10, 11, 12, 9, 13] (by decide +kernel) (by decide +kernel)
set_option maxRecDepth 20000 in
theorem gX4_lay_X4_isWhich : GoodIn wsX4_lay (va_wsS RX4 154 yX4_isWhich wsX4_isWhich) := goodIn_app (goodIn_of _ (by decide +kernel)) ggX4_lay_X4_isWhich
set_option maxRecDepth 20000 in
theorem ggX4_lay_X4_isWithin : GoodIn wsX4_lay wsX4_isWithin := goodIn_r _ [13] (by decide +kernel) (by decide +kernel)
set_option maxRecDepth 20000 in
theorem gX4_lay_X4_isWithin : GoodIn wsX4_lay (va_wsS RX4 44 yX4_isWithin wsX4_isWithin) := goodIn_app (goodIn_of _ (by decide +kernel)) ggX4_lay_X4_isWithin
set_option maxRecDepth 20000 in
theorem ggX4_lay_X2_rowCount : GoodIn wsX4_lay wsX2_rowCount := goodIn_r _ [18, 19, 44, 45, 46, 47] (by decide +kernel) (by decide +kernel)
set_option maxRecDepth 20000 in
theorem gX4_lay_X2_rowCount : GoodIn wsX4_lay (wsV RX4 163 RX2 yX2_rowCount wsX2_rowCount) := goodIn_app (goodIn_of _ (by decide +kernel)) ggX4_lay_X2_rowCount
set_option maxRecDepth 20000 in
theorem ggX4_lay_X2_placeCount : GoodIn wsX4_lay wsX2_placeCount := goodIn_r _ [23, 24, 44, 45, 46, 47] (by decide +kernel) (by decide +kernel)
set_option maxRecDepth 20000 in
theorem gX4_lay_X2_placeCount : GoodIn wsX4_lay (wsV RX4 171 RX2 yX2_placeCount wsX2_placeCount) := goodIn_app (goodIn_of _ (by decide +kernel)) ggX4_lay_X2_placeCount
set_option maxRecDepth 20000 in
theorem ggX4_lay_X2_append : GoodIn wsX4_lay wsX2_append := goodIn_r _ [28, 24, 29, 30, 19, 31, 32, 5, 33, 12, 9, 13, 44, 45, 46, 47] (by decide +kernel) (by decide +kernel)
set_option maxRecDepth 20000 in
theorem gX4_lay_X2_append : GoodIn wsX4_lay (wsV RX4 172 RX2 yX2_append wsX2_append) := goodIn_app (goodIn_of _ (by decide +kernel)) ggX4_lay_X2_append
set_option maxRecDepth 20000 in
theorem ggX4_lay_X2_lengthOf : GoodIn wsX4_lay wsX2_lengthOf := goodIn_r _ [37, 30, 44, 45, 46, 47] (by decide +kernel) (by decide +kernel)
set_option maxRecDepth 20000 in
theorem gX4_lay_X2_lengthOf : GoodIn wsX4_lay (wsV RX4 151 RX2 yX2_lengthOf wsX2_lengthOf) := goodIn_app (goodIn_of _ (by decide +kernel)) ggX4_lay_X2_lengthOf
theorem dX4_lay_0 : decode cX4_lay 0 = .ok (.iload_n 1, 1) := by decide +kernel
theorem dX4_lay_1 : decode cX4_lay 1 = .ok (.invokestatic 154, 3) := by decide +kernel
theorem dX4_lay_4 : decode cX4_lay 4 = .ok (.ifCond .eq 13, 3) := by decide +kernel
theorem dX4_lay_7 : decode cX4_lay 7 = .ok (.iload_n 3, 1) := by decide +kernel
theorem dX4_lay_8 : decode cX4_lay 8 = .ok (.iconst 1, 1) := by decide +kernel
theorem dX4_lay_9 : decode cX4_lay 9 = .ok (.bipush 40, 2) := by decide +kernel
theorem dX4_lay_11 : decode cX4_lay 11 = .ok (.invokestatic 44, 3) := by decide +kernel
theorem dX4_lay_14 : decode cX4_lay 14 = .ok (.ifCond .ne 5, 3) := by decide +kernel
theorem dX4_lay_17 : decode cX4_lay 17 = .ok (.iconst (-1), 1) := by decide +kernel
theorem dX4_lay_18 : decode cX4_lay 18 = .ok (.ireturn, 1) := by decide +kernel
theorem dX4_lay_19 : decode cX4_lay 19 = .ok (.iload_n 1, 1) := by decide +kernel
theorem dX4_lay_20 : decode cX4_lay 20 = .ok (.ifCond .ne 10, 3) := by decide +kernel
theorem dX4_lay_23 : decode cX4_lay 23 = .ok (.aload_n 0, 1) := by decide +kernel
theorem dX4_lay_24 : decode cX4_lay 24 = .ok (.getfield 33, 3) := by decide +kernel
theorem dX4_lay_27 : decode cX4_lay 27 = .ok (.goto 7, 3) := by decide +kernel
theorem dX4_lay_30 : decode cX4_lay 30 = .ok (.aload_n 0, 1) := by decide +kernel
theorem dX4_lay_31 : decode cX4_lay 31 = .ok (.getfield 37, 3) := by decide +kernel
theorem dX4_lay_34 : decode cX4_lay 34 = .ok (.astore 4, 2) := by decide +kernel
theorem dX4_lay_36 : decode cX4_lay 36 = .ok (.iload_n 2, 1) := by decide +kernel
theorem dX4_lay_37 : decode cX4_lay 37 = .ok (.iconst 0, 1) := by decide +kernel
theorem dX4_lay_38 : decode cX4_lay 38 = .ok (.aload 4, 2) := by decide +kernel
theorem dX4_lay_40 : decode cX4_lay 40 = .ok (.invokevirtual 163, 3) := by decide +kernel
theorem dX4_lay_43 : decode cX4_lay 43 = .ok (.bipush 8, 2) := by decide +kernel
theorem dX4_lay_45 : decode cX4_lay 45 = .ok (.invokestatic 166, 3) := by decide +kernel
theorem dX4_lay_48 : decode cX4_lay 48 = .ok (.invokestatic 44, 3) := by decide +kernel
theorem dX4_lay_51 : decode cX4_lay 51 = .ok (.ifCond .ne 5, 3) := by decide +kernel
theorem dX4_lay_54 : decode cX4_lay 54 = .ok (.iconst (-1), 1) := by decide +kernel
theorem dX4_lay_55 : decode cX4_lay 55 = .ok (.ireturn, 1) := by decide +kernel
theorem dX4_lay_56 : decode cX4_lay 56 = .ok (.aload 4, 2) := by decide +kernel
theorem dX4_lay_58 : decode cX4_lay 58 = .ok (.invokevirtual 171, 3) := by decide +kernel
theorem dX4_lay_61 : decode cX4_lay 61 = .ok (.bipush 40, 2) := by decide +kernel
theorem dX4_lay_63 : decode cX4_lay 63 = .ok (.if_icmp .lt 6, 3) := by decide +kernel
theorem dX4_lay_66 : decode cX4_lay 66 = .ok (.bipush (-3), 2) := by decide +kernel
theorem dX4_lay_68 : decode cX4_lay 68 = .ok (.ireturn, 1) := by decide +kernel
theorem dX4_lay_69 : decode cX4_lay 69 = .ok (.aload 4, 2) := by decide +kernel
theorem dX4_lay_71 : decode cX4_lay 71 = .ok (.iload_n 2, 1) := by decide +kernel
theorem dX4_lay_72 : decode cX4_lay 72 = .ok (.iload_n 3, 1) := by decide +kernel
theorem dX4_lay_73 : decode cX4_lay 73 = .ok (.invokevirtual 172, 3) := by decide +kernel
theorem dX4_lay_76 : decode cX4_lay 76 = .ok (.aload 4, 2) := by decide +kernel
theorem dX4_lay_78 : decode cX4_lay 78 = .ok (.iload_n 2, 1) := by decide +kernel
theorem dX4_lay_79 : decode cX4_lay 79 = .ok (.invokevirtual 151, 3) := by decide +kernel
theorem dX4_lay_82 : decode cX4_lay 82 = .ok (.ireturn, 1) := by decide +kernel
set_option maxRecDepth 20000 in
theorem ggX4_unlay_X2_placeCount : GoodIn wsX4_unlay wsX2_placeCount := goodIn_r _ [7, 8, 25, 26, 27, 28] (by decide +kernel) (by decide +kernel)
set_option maxRecDepth 20000 in
theorem gX4_unlay_X2_placeCount : GoodIn wsX4_unlay (wsV RX4 171 RX2 yX2_placeCount wsX2_placeCount) := goodIn_app (goodIn_of _ (by decide +kernel)) ggX4_unlay_X2_placeCount
set_option maxRecDepth 20000 in
theorem ggX4_unlay_X2_empty : GoodIn wsX4_unlay wsX2_empty := goodIn_r _ [12, 13, 14, 8, 15, 16, 17, 18, 25, 26, 27, 28] (by decide +kernel) (by decide +kernel)
set_option maxRecDepth 20000 in
theorem gX4_unlay_X2_empty : GoodIn wsX4_unlay (wsV RX4 175 RX2 yX2_empty wsX2_empty) := goodIn_app (goodIn_of _ (by decide +kernel)) ggX4_unlay_X2_empty
theorem dX4_unlay_0 : decode cX4_unlay 0 = .ok (.aload_n 0, 1) := by decide +kernel
theorem dX4_unlay_1 : decode cX4_unlay 1 = .ok (.getfield 33, 3) := by decide +kernel
theorem dX4_unlay_4 : decode cX4_unlay 4 = .ok (.invokevirtual 171, 3) := by decide +kernel
theorem dX4_unlay_7 : decode cX4_unlay 7 = .ok (.aload_n 0, 1) := by decide +kernel
theorem dX4_unlay_8 : decode cX4_unlay 8 = .ok (.getfield 37, 3) := by decide +kernel
theorem dX4_unlay_11 : decode cX4_unlay 11 = .ok (.invokevirtual 171, 3) := by decide +kernel
theorem dX4_unlay_14 : decode cX4_unlay 14 = .ok (.iadd, 1) := by decide +kernel
theorem dX4_unlay_15 : decode cX4_unlay 15 = .ok (.istore_n 1, 1) := by decide +kernel
theorem dX4_unlay_16 : decode cX4_unlay 16 = .ok (.aload_n 0, 1) := by decide +kernel
theorem dX4_unlay_17 : decode cX4_unlay 17 = .ok (.getfield 33, 3) := by decide +kernel
theorem dX4_unlay_20 : decode cX4_unlay 20 = .ok (.invokevirtual 175, 3) := by decide +kernel
theorem dX4_unlay_23 : decode cX4_unlay 23 = .ok (.aload_n 0, 1) := by decide +kernel
theorem dX4_unlay_24 : decode cX4_unlay 24 = .ok (.getfield 37, 3) := by decide +kernel
theorem dX4_unlay_27 : decode cX4_unlay 27 = .ok (.invokevirtual 175, 3) := by decide +kernel
theorem dX4_unlay_30 : decode cX4_unlay 30 = .ok (.iload_n 1, 1) := by decide +kernel
theorem dX4_unlay_31 : decode cX4_unlay 31 = .ok (.ireturn, 1) := by decide +kernel
set_option maxRecDepth 20000 in
theorem ggX4_back_X4_laidIsAsTold : GoodIn wsX4_back wsX4_laidIsAsTold := goodIn_r _ [9, 1, 2, 10, 11, 12, 13, 14, 15, 16, 17, 18, 19, 20, 21, 22, 23, 24, 25, 26, 27, 28, 29, 30, 31, 32, 33, 34, 35, 36, 37, 38, 39, 40, 41, 42, 43, 44, 45, 46, 124, 125, 126, 127, 128, 129, 130, 131, 132, 133] (by decide +kernel) (by decide +kernel)
set_option maxRecDepth 20000 in
theorem gX4_back_X4_laidIsAsTold : GoodIn wsX4_back (wsV RX4 178 RX4 yX4_laidIsAsTold wsX4_laidIsAsTold) := goodIn_app (goodIn_of _ (by decide +kernel)) ggX4_back_X4_laidIsAsTold
set_option maxRecDepth 20000 in
theorem ggX4_back_X2_placeCount : GoodIn wsX4_back wsX2_placeCount := goodIn_r _ [50, 46, 130, 131, 132, 133] (by decide +kernel) (by decide +kernel)
set_option maxRecDepth 20000 in
theorem gX4_back_X2_placeCount : GoodIn wsX4_back (wsV RX4 171 RX2 yX2_placeCount wsX2_placeCount) := goodIn_app (goodIn_of _ (by decide +kernel)) ggX4_back_X2_placeCount
set_option maxRecDepth 20000 in
theorem ggX4_back_X4_readLaidIntoDraft : GoodIn wsX4_back wsX4_readLaidIntoDraft := goodIn_r _ [54, 2, 4, 1, 55, 56, 57, 13, 58, 24, 15, 30, 31, 32, 33, 29, 34, 35, 36, 37, 16, 17, 18, 19, 59, 60, 61, 62, 46, 63, 64, 65, 66, 67, 68, 69, 70, 71, 72, 73, 74, 75, 124, 125, 126, 127, 128, 129, 130, 131, 132, 133] (by decide +kernel) (by decide +kernel)
set_option maxRecDepth 20000 in
theorem gX4_back_X4_readLaidIntoDraft : GoodIn wsX4_back (wsV RX4 181 RX4 yX4_readLaidIntoDraft wsX4_readLaidIntoDraft) := goodIn_app (goodIn_of _ (by decide +kernel)) ggX4_back_X4_readLaidIntoDraft
set_option maxRecDepth 20000 in
theorem ggX4_back_X2_empty : GoodIn wsX4_back wsX2_empty := goodIn_r _ [79, 15, 24, 46, 80, 81, 82, 83, 130, 131, 132, 133] (by decide +kernel) (by decide +kernel)
set_option maxRecDepth 20000 in
theorem gX4_back_X2_empty : GoodIn wsX4_back (wsV RX4 175 RX2 yX2_empty wsX2_empty) := goodIn_app (goodIn_of _ (by decide +kernel)) ggX4_back_X2_empty
set_option maxRecDepth 20000 in
theorem ggX4_back_X3_become : GoodIn wsX4_back wsX3_become := goodIn_r _ [88, 89, 90, 91, 87, 92, 93, 94, 95, 77, 78, 13, 79, 15, 24, 46, 80, 81, 82, 83, 96, 97, 98, 99, 100, 101, 102, 103, 104, 105, 106, 107, 29, 16, 17, 18, 19, 34, 35, 36, 37, 108, 109, 110, 111, 112, 113, 114, 115, 116, 8, 117, 72, 73, 74, 75, 118, 119, 120, 121, 122, 48, 49, 50, 123, 134, 135, 130, 131, 132, 133] (by decide +kernel) (by decide +kernel)
set_option maxRecDepth 20000 in
theorem gX4_back_X3_become : GoodIn wsX4_back (wsV RX4 184 RX3 yX3_become wsX3_become) := goodIn_app (goodIn_of _ (by decide +kernel)) ggX4_back_X3_become
theorem dX4_back_0 : decode cX4_back 0 = .ok (.aload_n 0, 1) := by decide +kernel
theorem dX4_back_1 : decode cX4_back 1 = .ok (.invokevirtual 178, 3) := by decide +kernel
theorem dX4_back_4 : decode cX4_back 4 = .ok (.ifCond .ne 6, 3) := by decide +kernel
theorem dX4_back_7 : decode cX4_back 7 = .ok (.bipush (-2), 2) := by decide +kernel
theorem dX4_back_9 : decode cX4_back 9 = .ok (.ireturn, 1) := by decide +kernel
theorem dX4_back_10 : decode cX4_back 10 = .ok (.aload_n 0, 1) := by decide +kernel
theorem dX4_back_11 : decode cX4_back 11 = .ok (.getfield 33, 3) := by decide +kernel
theorem dX4_back_14 : decode cX4_back 14 = .ok (.invokevirtual 171, 3) := by decide +kernel
theorem dX4_back_17 : decode cX4_back 17 = .ok (.istore_n 1, 1) := by decide +kernel
theorem dX4_back_18 : decode cX4_back 18 = .ok (.aload_n 0, 1) := by decide +kernel
theorem dX4_back_19 : decode cX4_back 19 = .ok (.iload_n 1, 1) := by decide +kernel
theorem dX4_back_20 : decode cX4_back 20 = .ok (.invokevirtual 181, 3) := by decide +kernel
theorem dX4_back_23 : decode cX4_back 23 = .ok (.aload_n 0, 1) := by decide +kernel
theorem dX4_back_24 : decode cX4_back 24 = .ok (.getfield 33, 3) := by decide +kernel
theorem dX4_back_27 : decode cX4_back 27 = .ok (.invokevirtual 175, 3) := by decide +kernel
theorem dX4_back_30 : decode cX4_back 30 = .ok (.aload_n 0, 1) := by decide +kernel
theorem dX4_back_31 : decode cX4_back 31 = .ok (.getfield 37, 3) := by decide +kernel
theorem dX4_back_34 : decode cX4_back 34 = .ok (.invokevirtual 175, 3) := by decide +kernel
theorem dX4_back_37 : decode cX4_back 37 = .ok (.aload_n 0, 1) := by decide +kernel
theorem dX4_back_38 : decode cX4_back 38 = .ok (.getfield 26, 3) := by decide +kernel
theorem dX4_back_41 : decode cX4_back 41 = .ok (.aload_n 0, 1) := by decide +kernel
theorem dX4_back_42 : decode cX4_back 42 = .ok (.getfield 40, 3) := by decide +kernel
theorem dX4_back_45 : decode cX4_back 45 = .ok (.iload_n 1, 1) := by decide +kernel
theorem dX4_back_46 : decode cX4_back 46 = .ok (.invokevirtual 184, 3) := by decide +kernel
theorem dX4_back_49 : decode cX4_back 49 = .ok (.iload_n 1, 1) := by decide +kernel
theorem dX4_back_50 : decode cX4_back 50 = .ok (.ireturn, 1) := by decide +kernel
set_option maxRecDepth 20000 in
theorem ggX4_wordOf_X0_total : GoodIn wsX4_wordOf wsX0_total := goodIn_r _ [8, 9, 10, 11, 90, 91, 92, 93, 94, 95] (by decide +kernel) (by decide +kernel)
set_option maxRecDepth 20000 in
theorem gX4_wordOf_X0_total : GoodIn wsX4_wordOf (wsV RX4 99 RX0 yX0_total wsX0_total) := goodIn_app (goodIn_of _ (by decide +kernel)) ggX4_wordOf_X0_total
set_option maxRecDepth 20000 in
theorem ggX4_wordOf_X0_spell : GoodIn wsX4_wordOf wsX0_spell := goodIn_r _ [15, 9, 10, 11, 90, 91, 92, 93, 94, 95] (by decide +kernel) (by decide +kernel)
set_option maxRecDepth 20000 in
theorem gX4_wordOf_X0_spell : GoodIn wsX4_wordOf (wsV RX4 188 RX0 yX0_spell wsX0_spell) := goodIn_app (goodIn_of _ (by decide +kernel)) ggX4_wordOf_X0_spell
set_option maxRecDepth 20000 in
theorem ggX4_wordOf_X3_become : GoodIn wsX4_wordOf wsX3_become := goodIn_r _ [20, 21, 22, 23, 19, 24, 25, 26, 27, 28, 29, 30, 31, 32, 33, 34, 35, 36, 37, 38, 39, 40, 41, 42, 43, 44, 45, 46, 47, 48, 49, 50, 51, 52, 53, 54, 55, 56, 57, 58, 59, 60, 61, 62, 63, 64, 65, 66, 67, 68, 69, 70, 71, 72, 73, 74, 75, 76, 77, 78, 79, 80, 81, 82, 83, 96, 97, 98, 99, 100, 101] (by decide +kernel) (by decide +kernel)
set_option maxRecDepth 20000 in
theorem gX4_wordOf_X3_become : GoodIn wsX4_wordOf (wsV RX4 184 RX3 yX3_become wsX3_become) := goodIn_app (goodIn_of _ (by decide +kernel)) ggX4_wordOf_X3_become
theorem dX4_wordOf_0 : decode cX4_wordOf 0 = .ok (.aload_n 0, 1) := by decide +kernel
theorem dX4_wordOf_1 : decode cX4_wordOf 1 = .ok (.getfield 10, 3) := by decide +kernel
theorem dX4_wordOf_4 : decode cX4_wordOf 4 = .ok (.invokevirtual 99, 3) := by decide +kernel
theorem dX4_wordOf_7 : decode cX4_wordOf 7 = .ok (.istore_n 1, 1) := by decide +kernel
theorem dX4_wordOf_8 : decode cX4_wordOf 8 = .ok (.iload_n 1, 1) := by decide +kernel
theorem dX4_wordOf_9 : decode cX4_wordOf 9 = .ok (.bipush 40, 2) := by decide +kernel
theorem dX4_wordOf_11 : decode cX4_wordOf 11 = .ok (.if_icmp .le 6, 3) := by decide +kernel
theorem dX4_wordOf_14 : decode cX4_wordOf 14 = .ok (.bipush (-3), 2) := by decide +kernel
theorem dX4_wordOf_16 : decode cX4_wordOf 16 = .ok (.ireturn, 1) := by decide +kernel
theorem dX4_wordOf_17 : decode cX4_wordOf 17 = .ok (.aload_n 0, 1) := by decide +kernel
theorem dX4_wordOf_18 : decode cX4_wordOf 18 = .ok (.getfield 10, 3) := by decide +kernel
theorem dX4_wordOf_21 : decode cX4_wordOf 21 = .ok (.aload_n 0, 1) := by decide +kernel
theorem dX4_wordOf_22 : decode cX4_wordOf 22 = .ok (.getfield 40, 3) := by decide +kernel
theorem dX4_wordOf_25 : decode cX4_wordOf 25 = .ok (.invokevirtual 188, 3) := by decide +kernel
theorem dX4_wordOf_28 : decode cX4_wordOf 28 = .ok (.aload_n 0, 1) := by decide +kernel
theorem dX4_wordOf_29 : decode cX4_wordOf 29 = .ok (.getfield 26, 3) := by decide +kernel
theorem dX4_wordOf_32 : decode cX4_wordOf 32 = .ok (.aload_n 0, 1) := by decide +kernel
theorem dX4_wordOf_33 : decode cX4_wordOf 33 = .ok (.getfield 40, 3) := by decide +kernel
theorem dX4_wordOf_36 : decode cX4_wordOf 36 = .ok (.iload_n 1, 1) := by decide +kernel
theorem dX4_wordOf_37 : decode cX4_wordOf 37 = .ok (.invokevirtual 184, 3) := by decide +kernel
theorem dX4_wordOf_40 : decode cX4_wordOf 40 = .ok (.iload_n 1, 1) := by decide +kernel
theorem dX4_wordOf_41 : decode cX4_wordOf 41 = .ok (.ireturn, 1) := by decide +kernel
set_option maxRecDepth 20000 in
theorem ggX4_chance_X4_isWithin : GoodIn wsX4_chance wsX4_isWithin := goodIn_r _ [5] (by decide +kernel) (by decide +kernel)
set_option maxRecDepth 20000 in
theorem gX4_chance_X4_isWithin : GoodIn wsX4_chance (va_wsS RX4 44 yX4_isWithin wsX4_isWithin) := goodIn_app (goodIn_of _ (by decide +kernel)) ggX4_chance_X4_isWithin
set_option maxRecDepth 20000 in
theorem ggX4_chance_X4_countByShapes : GoodIn wsX4_chance wsX4_countByShapes := goodIn_r _ [8, 9, 10, 11, 12, 13, 14, 4, 15, 16] (by decide +kernel) (by decide +kernel)
set_option maxRecDepth 20000 in
theorem gX4_chance_X4_countByShapes : GoodIn wsX4_chance (va_wsS RX4 192 yX4_countByShapes wsX4_countByShapes) := goodIn_app (goodIn_of _ (by decide +kernel)) ggX4_chance_X4_countByShapes
theorem dX4_chance_0 : decode cX4_chance 0 = .ok (.iload_n 1, 1) := by decide +kernel
theorem dX4_chance_1 : decode cX4_chance 1 = .ok (.iconst 1, 1) := by decide +kernel
theorem dX4_chance_2 : decode cX4_chance 2 = .ok (.iconst 3, 1) := by decide +kernel
theorem dX4_chance_3 : decode cX4_chance 3 = .ok (.invokestatic 44, 3) := by decide +kernel
theorem dX4_chance_6 : decode cX4_chance 6 = .ok (.ifCond .eq 22, 3) := by decide +kernel
theorem dX4_chance_9 : decode cX4_chance 9 = .ok (.iload_n 2, 1) := by decide +kernel
theorem dX4_chance_10 : decode cX4_chance 10 = .ok (.iconst 1, 1) := by decide +kernel
theorem dX4_chance_11 : decode cX4_chance 11 = .ok (.iconst 3, 1) := by decide +kernel
theorem dX4_chance_12 : decode cX4_chance 12 = .ok (.invokestatic 44, 3) := by decide +kernel
theorem dX4_chance_15 : decode cX4_chance 15 = .ok (.ifCond .eq 13, 3) := by decide +kernel
theorem dX4_chance_18 : decode cX4_chance 18 = .ok (.iload_n 3, 1) := by decide +kernel
theorem dX4_chance_19 : decode cX4_chance 19 = .ok (.iconst 0, 1) := by decide +kernel
theorem dX4_chance_20 : decode cX4_chance 20 = .ok (.bipush 8, 2) := by decide +kernel
theorem dX4_chance_22 : decode cX4_chance 22 = .ok (.invokestatic 44, 3) := by decide +kernel
theorem dX4_chance_25 : decode cX4_chance 25 = .ok (.ifCond .ne 7, 3) := by decide +kernel
theorem dX4_chance_28 : decode cX4_chance 28 = .ok (.ldc2_w 121, 3) := by decide +kernel
theorem dX4_chance_31 : decode cX4_chance 31 = .ok (.lreturn, 1) := by decide +kernel
theorem dX4_chance_32 : decode cX4_chance 32 = .ok (.iload_n 1, 1) := by decide +kernel
theorem dX4_chance_33 : decode cX4_chance 33 = .ok (.iload_n 2, 1) := by decide +kernel
theorem dX4_chance_34 : decode cX4_chance 34 = .ok (.iload_n 3, 1) := by decide +kernel
theorem dX4_chance_35 : decode cX4_chance 35 = .ok (.invokestatic 192, 3) := by decide +kernel
theorem dX4_chance_38 : decode cX4_chance 38 = .ok (.lreturn, 1) := by decide +kernel
theorem dX4_isWithin_0 : decode cX4_isWithin 0 = .ok (.iload_n 0, 1) := by decide +kernel
theorem dX4_isWithin_1 : decode cX4_isWithin 1 = .ok (.iload_n 1, 1) := by decide +kernel
theorem dX4_isWithin_2 : decode cX4_isWithin 2 = .ok (.if_icmp .lt 12, 3) := by decide +kernel
theorem dX4_isWithin_5 : decode cX4_isWithin 5 = .ok (.iload_n 0, 1) := by decide +kernel
theorem dX4_isWithin_6 : decode cX4_isWithin 6 = .ok (.iload_n 2, 1) := by decide +kernel
theorem dX4_isWithin_7 : decode cX4_isWithin 7 = .ok (.if_icmp .gt 7, 3) := by decide +kernel
theorem dX4_isWithin_10 : decode cX4_isWithin 10 = .ok (.iconst 1, 1) := by decide +kernel
theorem dX4_isWithin_11 : decode cX4_isWithin 11 = .ok (.goto 4, 3) := by decide +kernel
theorem dX4_isWithin_14 : decode cX4_isWithin 14 = .ok (.iconst 0, 1) := by decide +kernel
theorem dX4_isWithin_15 : decode cX4_isWithin 15 = .ok (.ireturn, 1) := by decide +kernel
theorem dX4_isWeight_0 : decode cX4_isWeight 0 = .ok (.lload_n 0, 1) := by decide +kernel
theorem dX4_isWeight_1 : decode cX4_isWeight 1 = .ok (.lconst 0, 1) := by decide +kernel
theorem dX4_isWeight_2 : decode cX4_isWeight 2 = .ok (.lcmp, 1) := by decide +kernel
theorem dX4_isWeight_3 : decode cX4_isWeight 3 = .ok (.ifCond .lt 15, 3) := by decide +kernel
theorem dX4_isWeight_6 : decode cX4_isWeight 6 = .ok (.lload_n 0, 1) := by decide +kernel
theorem dX4_isWeight_7 : decode cX4_isWeight 7 = .ok (.ldc2_w 196, 3) := by decide +kernel
theorem dX4_isWeight_10 : decode cX4_isWeight 10 = .ok (.lcmp, 1) := by decide +kernel
theorem dX4_isWeight_11 : decode cX4_isWeight 11 = .ok (.ifCond .gt 7, 3) := by decide +kernel
theorem dX4_isWeight_14 : decode cX4_isWeight 14 = .ok (.iconst 1, 1) := by decide +kernel
theorem dX4_isWeight_15 : decode cX4_isWeight 15 = .ok (.goto 4, 3) := by decide +kernel
theorem dX4_isWeight_18 : decode cX4_isWeight 18 = .ok (.iconst 0, 1) := by decide +kernel
theorem dX4_isWeight_19 : decode cX4_isWeight 19 = .ok (.ireturn, 1) := by decide +kernel
set_option maxRecDepth 20000 in
theorem ggX4_isSheet_X4_isWithin : GoodIn wsX4_isSheet wsX4_isWithin := goodIn_r _ [4] (by decide +kernel) (by decide +kernel)
set_option maxRecDepth 20000 in
theorem gX4_isSheet_X4_isWithin : GoodIn wsX4_isSheet (va_wsS RX4 44 yX4_isWithin wsX4_isWithin) := goodIn_app (goodIn_of _ (by decide +kernel)) ggX4_isSheet_X4_isWithin
theorem dX4_isSheet_0 : decode cX4_isSheet 0 = .ok (.iload_n 0, 1) := by decide +kernel
theorem dX4_isSheet_1 : decode cX4_isSheet 1 = .ok (.iconst 0, 1) := by decide +kernel
theorem dX4_isSheet_2 : decode cX4_isSheet 2 = .ok (.iconst 3, 1) := by decide +kernel
theorem dX4_isSheet_3 : decode cX4_isSheet 3 = .ok (.invokestatic 44, 3) := by decide +kernel
theorem dX4_isSheet_6 : decode cX4_isSheet 6 = .ok (.ireturn, 1) := by decide +kernel
set_option maxRecDepth 20000 in
theorem ggX4_isLane_X4_isWithin : GoodIn wsX4_isLane wsX4_isWithin := goodIn_r _ [4] (by decide +kernel) (by decide +kernel)
set_option maxRecDepth 20000 in
theorem gX4_isLane_X4_isWithin : GoodIn wsX4_isLane (va_wsS RX4 44 yX4_isWithin wsX4_isWithin) := goodIn_app (goodIn_of _ (by decide +kernel)) ggX4_isLane_X4_isWithin
theorem dX4_isLane_0 : decode cX4_isLane 0 = .ok (.iload_n 0, 1) := by decide +kernel
theorem dX4_isLane_1 : decode cX4_isLane 1 = .ok (.iconst 0, 1) := by decide +kernel
theorem dX4_isLane_2 : decode cX4_isLane 2 = .ok (.iconst 1, 1) := by decide +kernel
theorem dX4_isLane_3 : decode cX4_isLane 3 = .ok (.invokestatic 44, 3) := by decide +kernel
theorem dX4_isLane_6 : decode cX4_isLane 6 = .ok (.ireturn, 1) := by decide +kernel
set_option maxRecDepth 20000 in
theorem ggX4_isWhich_X4_isWithin : GoodIn wsX4_isWhich wsX4_isWithin := goodIn_r _ [4] (by decide +kernel) (by decide +kernel)
set_option maxRecDepth 20000 in
theorem gX4_isWhich_X4_isWithin : GoodIn wsX4_isWhich (va_wsS RX4 44 yX4_isWithin wsX4_isWithin) := goodIn_app (goodIn_of _ (by decide +kernel)) ggX4_isWhich_X4_isWithin
theorem dX4_isWhich_0 : decode cX4_isWhich 0 = .ok (.iload_n 0, 1) := by decide +kernel
theorem dX4_isWhich_1 : decode cX4_isWhich 1 = .ok (.iconst 0, 1) := by decide +kernel
theorem dX4_isWhich_2 : decode cX4_isWhich 2 = .ok (.iconst 1, 1) := by decide +kernel
theorem dX4_isWhich_3 : decode cX4_isWhich 3 = .ok (.invokestatic 44, 3) := by decide +kernel
theorem dX4_isWhich_6 : decode cX4_isWhich 6 = .ok (.ireturn, 1) := by decide +kernel
set_option maxRecDepth 20000 in
theorem ggX4_lookAtItems_X4_isSheet : GoodIn wsX4_lookAtItems wsX4_isSheet := goodIn_r _ [5, 6, 7, 4, 8] (by decide +kernel) (by decide +kernel)
set_option maxRecDepth 20000 in
theorem gX4_lookAtItems_X4_isSheet : GoodIn wsX4_lookAtItems (va_wsS RX4 64 yX4_isSheet wsX4_isSheet) := goodIn_app (goodIn_of _ (by decide +kernel)) ggX4_lookAtItems_X4_isSheet
set_option maxRecDepth 20000 in
theorem ggX4_lookAtItems_X4_isLane : GoodIn wsX4_lookAtItems wsX4_isLane := goodIn_r _ [11, 6, 7, 4, 8] (by decide +kernel) (by decide +kernel)
set_option maxRecDepth 20000 in
theorem gX4_lookAtItems_X4_isLane : GoodIn wsX4_lookAtItems (va_wsS RX4 68 yX4_isLane wsX4_isLane) := goodIn_app (goodIn_of _ (by decide +kernel)) ggX4_lookAtItems_X4_isLane
set_option maxRecDepth 20000 in
theorem ggX4_lookAtItems_X1_isMissing : GoodIn wsX4_lookAtItems wsX1_isMissing := goodIn_r _ [16, 17, 33, 34, 35] (by decide +kernel) (by decide +kernel)
set_option maxRecDepth 20000 in
theorem gX4_lookAtItems_X1_isMissing : GoodIn wsX4_lookAtItems (wsV RX4 74 RX1 yX1_isMissing wsX1_isMissing) := goodIn_app (goodIn_of _ (by decide +kernel)) ggX4_lookAtItems_X1_isMissing
set_option maxRecDepth 20000 in
theorem ggX4_lookAtItems_X1_isOf : GoodIn wsX4_lookAtItems wsX1_isOf := goodIn_r _ [21, 17, 33, 34, 35] (by decide +kernel) (by decide +kernel)
set_option maxRecDepth 20000 in
theorem gX4_lookAtItems_X1_isOf : GoodIn wsX4_lookAtItems (wsV RX4 198 RX1 yX1_isOf wsX1_isOf) := goodIn_app (goodIn_of _ (by decide +kernel)) ggX4_lookAtItems_X1_isOf
set_option maxRecDepth 20000 in
theorem ggX4_lookAtItems_X1_reaches : GoodIn wsX4_lookAtItems wsX1_reaches := goodIn_r _ [25, 26, 33, 34, 35] (by decide +kernel) (by decide +kernel)
set_option maxRecDepth 20000 in
theorem gX4_lookAtItems_X1_reaches : GoodIn wsX4_lookAtItems (wsV RX4 201 RX1 yX1_reaches wsX1_reaches) := goodIn_app (goodIn_of _ (by decide +kernel)) ggX4_lookAtItems_X1_reaches
theorem dX4_lookAtItems_0 : decode cX4_lookAtItems 0 = .ok (.iload_n 1, 1) := by decide +kernel
theorem dX4_lookAtItems_1 : decode cX4_lookAtItems 1 = .ok (.invokestatic 64, 3) := by decide +kernel
theorem dX4_lookAtItems_4 : decode cX4_lookAtItems 4 = .ok (.ifCond .eq 10, 3) := by decide +kernel
theorem dX4_lookAtItems_7 : decode cX4_lookAtItems 7 = .ok (.iload_n 2, 1) := by decide +kernel
theorem dX4_lookAtItems_8 : decode cX4_lookAtItems 8 = .ok (.invokestatic 68, 3) := by decide +kernel
theorem dX4_lookAtItems_11 : decode cX4_lookAtItems 11 = .ok (.ifCond .ne 5, 3) := by decide +kernel
theorem dX4_lookAtItems_14 : decode cX4_lookAtItems 14 = .ok (.iconst (-1), 1) := by decide +kernel
theorem dX4_lookAtItems_15 : decode cX4_lookAtItems 15 = .ok (.ireturn, 1) := by decide +kernel
theorem dX4_lookAtItems_16 : decode cX4_lookAtItems 16 = .ok (.aload_n 0, 1) := by decide +kernel
theorem dX4_lookAtItems_17 : decode cX4_lookAtItems 17 = .ok (.getfield 18, 3) := by decide +kernel
theorem dX4_lookAtItems_20 : decode cX4_lookAtItems 20 = .ok (.iload_n 1, 1) := by decide +kernel
theorem dX4_lookAtItems_21 : decode cX4_lookAtItems 21 = .ok (.aaload, 1) := by decide +kernel
theorem dX4_lookAtItems_22 : decode cX4_lookAtItems 22 = .ok (.astore 5, 2) := by decide +kernel
theorem dX4_lookAtItems_24 : decode cX4_lookAtItems 24 = .ok (.aload 5, 2) := by decide +kernel
theorem dX4_lookAtItems_26 : decode cX4_lookAtItems 26 = .ok (.invokevirtual 74, 3) := by decide +kernel
theorem dX4_lookAtItems_29 : decode cX4_lookAtItems 29 = .ok (.ifCond .eq 6, 3) := by decide +kernel
theorem dX4_lookAtItems_32 : decode cX4_lookAtItems 32 = .ok (.bipush (-11), 2) := by decide +kernel
theorem dX4_lookAtItems_34 : decode cX4_lookAtItems 34 = .ok (.ireturn, 1) := by decide +kernel
theorem dX4_lookAtItems_35 : decode cX4_lookAtItems 35 = .ok (.aload 5, 2) := by decide +kernel
theorem dX4_lookAtItems_37 : decode cX4_lookAtItems 37 = .ok (.iload_n 2, 1) := by decide +kernel
theorem dX4_lookAtItems_38 : decode cX4_lookAtItems 38 = .ok (.invokevirtual 198, 3) := by decide +kernel
theorem dX4_lookAtItems_41 : decode cX4_lookAtItems 41 = .ok (.ifCond .ne 6, 3) := by decide +kernel
theorem dX4_lookAtItems_44 : decode cX4_lookAtItems 44 = .ok (.bipush (-12), 2) := by decide +kernel
theorem dX4_lookAtItems_46 : decode cX4_lookAtItems 46 = .ok (.ireturn, 1) := by decide +kernel
theorem dX4_lookAtItems_47 : decode cX4_lookAtItems 47 = .ok (.aload 5, 2) := by decide +kernel
theorem dX4_lookAtItems_49 : decode cX4_lookAtItems 49 = .ok (.iload_n 3, 1) := by decide +kernel
theorem dX4_lookAtItems_50 : decode cX4_lookAtItems 50 = .ok (.iload 4, 2) := by decide +kernel
theorem dX4_lookAtItems_52 : decode cX4_lookAtItems 52 = .ok (.invokevirtual 201, 3) := by decide +kernel
theorem dX4_lookAtItems_55 : decode cX4_lookAtItems 55 = .ok (.ifCond .eq 7, 3) := by decide +kernel
theorem dX4_lookAtItems_58 : decode cX4_lookAtItems 58 = .ok (.iconst 1, 1) := by decide +kernel
theorem dX4_lookAtItems_59 : decode cX4_lookAtItems 59 = .ok (.goto 5, 3) := by decide +kernel
theorem dX4_lookAtItems_62 : decode cX4_lookAtItems 62 = .ok (.bipush (-13), 2) := by decide +kernel
theorem dX4_lookAtItems_64 : decode cX4_lookAtItems 64 = .ok (.ireturn, 1) := by decide +kernel
set_option maxRecDepth 20000 in
theorem ggX4_laidIsAsTold_X2_hasShapeOf : GoodIn wsX4_laidIsAsTold wsX2_hasShapeOf := goodIn_r _ [7, 8, 9, 10, 11, 6, 12, 46, 47, 48, 49] (by decide +kernel) (by decide +kernel)
set_option maxRecDepth 20000 in
theorem gX4_laidIsAsTold_X2_hasShapeOf : GoodIn wsX4_laidIsAsTold (wsV RX4 204 RX2 yX2_hasShapeOf wsX2_hasShapeOf) := goodIn_app (goodIn_of _ (by decide +kernel)) ggX4_laidIsAsTold_X2_hasShapeOf
set_option maxRecDepth 20000 in
theorem ggX4_laidIsAsTold_X2_isStaircase : GoodIn wsX4_laidIsAsTold wsX2_isStaircase := goodIn_r _ [16, 17, 8, 46, 47, 48, 49] (by decide +kernel) (by decide +kernel)
set_option maxRecDepth 20000 in
theorem gX4_laidIsAsTold_X2_isStaircase : GoodIn wsX4_laidIsAsTold (wsV RX4 208 RX2 yX2_isStaircase wsX2_isStaircase) := goodIn_app (goodIn_of _ (by decide +kernel)) ggX4_laidIsAsTold_X2_isStaircase
set_option maxRecDepth 20000 in
theorem ggX4_laidIsAsTold_X2_rises : GoodIn wsX4_laidIsAsTold wsX2_rises := goodIn_r _ [21, 17, 8, 22, 23, 24, 25, 6, 26, 27, 28, 29, 30, 9, 10, 11, 12, 46, 47, 48, 49] (by decide +kernel) (by decide +kernel)
set_option maxRecDepth 20000 in
theorem gX4_laidIsAsTold_X2_rises : GoodIn wsX4_laidIsAsTold (wsV RX4 211 RX2 yX2_rises wsX2_rises) := goodIn_app (goodIn_of _ (by decide +kernel)) ggX4_laidIsAsTold_X2_rises
set_option maxRecDepth 20000 in
theorem ggX4_laidIsAsTold_X2_isBelow : GoodIn wsX4_laidIsAsTold wsX2_isBelow := goodIn_r _ [34, 17, 8, 22, 46, 47, 48, 49] (by decide +kernel) (by decide +kernel)
set_option maxRecDepth 20000 in
theorem gX4_laidIsAsTold_X2_isBelow : GoodIn wsX4_laidIsAsTold (wsV RX4 214 RX2 yX2_isBelow wsX2_isBelow) := goodIn_app (goodIn_of _ (by decide +kernel)) ggX4_laidIsAsTold_X2_isBelow
set_option maxRecDepth 20000 in
theorem ggX4_laidIsAsTold_X2_hasEachOnce : GoodIn wsX4_laidIsAsTold wsX2_hasEachOnce := goodIn_r _ [38, 17, 8, 22, 39, 46, 47, 48, 49] (by decide +kernel) (by decide +kernel)
set_option maxRecDepth 20000 in
theorem gX4_laidIsAsTold_X2_hasEachOnce : GoodIn wsX4_laidIsAsTold (wsV RX4 217 RX2 yX2_hasEachOnce wsX2_hasEachOnce) := goodIn_app (goodIn_of _ (by decide +kernel)) ggX4_laidIsAsTold_X2_hasEachOnce
theorem dX4_laidIsAsTold_0 : decode cX4_laidIsAsTold 0 = .ok (.aload_n 0, 1) := by decide +kernel
theorem dX4_laidIsAsTold_1 : decode cX4_laidIsAsTold 1 = .ok (.getfield 33, 3) := by decide +kernel
theorem dX4_laidIsAsTold_4 : decode cX4_laidIsAsTold 4 = .ok (.aload_n 0, 1) := by decide +kernel
theorem dX4_laidIsAsTold_5 : decode cX4_laidIsAsTold 5 = .ok (.getfield 37, 3) := by decide +kernel
theorem dX4_laidIsAsTold_8 : decode cX4_laidIsAsTold 8 = .ok (.invokevirtual 204, 3) := by decide +kernel
theorem dX4_laidIsAsTold_11 : decode cX4_laidIsAsTold 11 = .ok (.ifCond .eq 61, 3) := by decide +kernel
theorem dX4_laidIsAsTold_14 : decode cX4_laidIsAsTold 14 = .ok (.aload_n 0, 1) := by decide +kernel
theorem dX4_laidIsAsTold_15 : decode cX4_laidIsAsTold 15 = .ok (.getfield 33, 3) := by decide +kernel
theorem dX4_laidIsAsTold_18 : decode cX4_laidIsAsTold 18 = .ok (.invokevirtual 208, 3) := by decide +kernel
theorem dX4_laidIsAsTold_21 : decode cX4_laidIsAsTold 21 = .ok (.ifCond .eq 51, 3) := by decide +kernel
theorem dX4_laidIsAsTold_24 : decode cX4_laidIsAsTold 24 = .ok (.aload_n 0, 1) := by decide +kernel
theorem dX4_laidIsAsTold_25 : decode cX4_laidIsAsTold 25 = .ok (.getfield 33, 3) := by decide +kernel
theorem dX4_laidIsAsTold_28 : decode cX4_laidIsAsTold 28 = .ok (.iconst 0, 1) := by decide +kernel
theorem dX4_laidIsAsTold_29 : decode cX4_laidIsAsTold 29 = .ok (.invokevirtual 211, 3) := by decide +kernel
theorem dX4_laidIsAsTold_32 : decode cX4_laidIsAsTold 32 = .ok (.ifCond .eq 40, 3) := by decide +kernel
theorem dX4_laidIsAsTold_35 : decode cX4_laidIsAsTold 35 = .ok (.aload_n 0, 1) := by decide +kernel
theorem dX4_laidIsAsTold_36 : decode cX4_laidIsAsTold 36 = .ok (.getfield 33, 3) := by decide +kernel
theorem dX4_laidIsAsTold_39 : decode cX4_laidIsAsTold 39 = .ok (.bipush 10, 2) := by decide +kernel
theorem dX4_laidIsAsTold_41 : decode cX4_laidIsAsTold 41 = .ok (.invokevirtual 214, 3) := by decide +kernel
theorem dX4_laidIsAsTold_44 : decode cX4_laidIsAsTold 44 = .ok (.ifCond .eq 28, 3) := by decide +kernel
theorem dX4_laidIsAsTold_47 : decode cX4_laidIsAsTold 47 = .ok (.aload_n 0, 1) := by decide +kernel
theorem dX4_laidIsAsTold_48 : decode cX4_laidIsAsTold 48 = .ok (.getfield 37, 3) := by decide +kernel
theorem dX4_laidIsAsTold_51 : decode cX4_laidIsAsTold 51 = .ok (.iconst 1, 1) := by decide +kernel
theorem dX4_laidIsAsTold_52 : decode cX4_laidIsAsTold 52 = .ok (.invokevirtual 211, 3) := by decide +kernel
theorem dX4_laidIsAsTold_55 : decode cX4_laidIsAsTold 55 = .ok (.ifCond .eq 17, 3) := by decide +kernel
theorem dX4_laidIsAsTold_58 : decode cX4_laidIsAsTold 58 = .ok (.aload_n 0, 1) := by decide +kernel
theorem dX4_laidIsAsTold_59 : decode cX4_laidIsAsTold 59 = .ok (.getfield 37, 3) := by decide +kernel
theorem dX4_laidIsAsTold_62 : decode cX4_laidIsAsTold 62 = .ok (.invokevirtual 217, 3) := by decide +kernel
theorem dX4_laidIsAsTold_65 : decode cX4_laidIsAsTold 65 = .ok (.ifCond .eq 7, 3) := by decide +kernel
theorem dX4_laidIsAsTold_68 : decode cX4_laidIsAsTold 68 = .ok (.iconst 1, 1) := by decide +kernel
theorem dX4_laidIsAsTold_69 : decode cX4_laidIsAsTold 69 = .ok (.goto 4, 3) := by decide +kernel
theorem dX4_laidIsAsTold_72 : decode cX4_laidIsAsTold 72 = .ok (.iconst 0, 1) := by decide +kernel
theorem dX4_laidIsAsTold_73 : decode cX4_laidIsAsTold 73 = .ok (.ireturn, 1) := by decide +kernel
set_option maxRecDepth 20000 in
theorem ggX4_readLaidIntoDraft_X2_rowEndingIn : GoodIn wsX4_readLaidIntoDraft wsX2_rowEndingIn := goodIn_r _ [8, 9, 10, 11, 12, 13, 7, 14, 15, 16, 17, 18, 19, 20, 21, 22, 23, 48, 49, 50, 51] (by decide +kernel) (by decide +kernel)
set_option maxRecDepth 20000 in
theorem gX4_readLaidIntoDraft_X2_rowEndingIn : GoodIn wsX4_readLaidIntoDraft (wsV RX4 220 RX2 yX2_rowEndingIn wsX2_rowEndingIn) := goodIn_app (goodIn_of _ (by decide +kernel)) ggX4_readLaidIntoDraft_X2_rowEndingIn
set_option maxRecDepth 20000 in
theorem ggX4_readLaidIntoDraft_X2_takeLast : GoodIn wsX4_readLaidIntoDraft wsX2_takeLast := goodIn_r _ [27, 10, 28, 9, 15, 20, 21, 22, 7, 23, 48, 49, 50, 51] (by decide +kernel) (by decide +kernel)
set_option maxRecDepth 20000 in
theorem gX4_readLaidIntoDraft_X2_takeLast : GoodIn wsX4_readLaidIntoDraft (wsV RX4 223 RX2 yX2_takeLast wsX2_takeLast) := goodIn_app (goodIn_of _ (by decide +kernel)) ggX4_readLaidIntoDraft_X2_takeLast
set_option maxRecDepth 20000 in
theorem ggX4_readLaidIntoDraft_X2_takeOut : GoodIn wsX4_readLaidIntoDraft wsX2_takeOut := goodIn_r _ [32, 33, 25, 26, 7, 27, 10, 28, 9, 15, 20, 21, 22, 23, 34, 35, 36, 37, 38, 39, 40, 41, 16, 17, 18, 19, 48, 49, 50, 51] (by decide +kernel) (by decide +kernel)
set_option maxRecDepth 20000 in
theorem gX4_readLaidIntoDraft_X2_takeOut : GoodIn wsX4_readLaidIntoDraft (wsV RX4 226 RX2 yX2_takeOut wsX2_takeOut) := goodIn_app (goodIn_of _ (by decide +kernel)) ggX4_readLaidIntoDraft_X2_takeOut
theorem dX4_readLaidIntoDraft_0 : decode cX4_readLaidIntoDraft 0 = .ok (.iload_n 1, 1) := by decide +kernel
theorem dX4_readLaidIntoDraft_1 : decode cX4_readLaidIntoDraft 1 = .ok (.istore_n 2, 1) := by decide +kernel
theorem dX4_readLaidIntoDraft_2 : decode cX4_readLaidIntoDraft 2 = .ok (.iload_n 2, 1) := by decide +kernel
theorem dX4_readLaidIntoDraft_3 : decode cX4_readLaidIntoDraft 3 = .ok (.iconst 1, 1) := by decide +kernel
theorem dX4_readLaidIntoDraft_4 : decode cX4_readLaidIntoDraft 4 = .ok (.if_icmp .lt 43, 3) := by decide +kernel
theorem dX4_readLaidIntoDraft_7 : decode cX4_readLaidIntoDraft 7 = .ok (.aload_n 0, 1) := by decide +kernel
theorem dX4_readLaidIntoDraft_8 : decode cX4_readLaidIntoDraft 8 = .ok (.getfield 37, 3) := by decide +kernel
theorem dX4_readLaidIntoDraft_11 : decode cX4_readLaidIntoDraft 11 = .ok (.iload_n 2, 1) := by decide +kernel
theorem dX4_readLaidIntoDraft_12 : decode cX4_readLaidIntoDraft 12 = .ok (.invokevirtual 220, 3) := by decide +kernel
theorem dX4_readLaidIntoDraft_15 : decode cX4_readLaidIntoDraft 15 = .ok (.istore_n 3, 1) := by decide +kernel
theorem dX4_readLaidIntoDraft_16 : decode cX4_readLaidIntoDraft 16 = .ok (.aload_n 0, 1) := by decide +kernel
theorem dX4_readLaidIntoDraft_17 : decode cX4_readLaidIntoDraft 17 = .ok (.getfield 37, 3) := by decide +kernel
theorem dX4_readLaidIntoDraft_20 : decode cX4_readLaidIntoDraft 20 = .ok (.iload_n 3, 1) := by decide +kernel
theorem dX4_readLaidIntoDraft_21 : decode cX4_readLaidIntoDraft 21 = .ok (.invokevirtual 223, 3) := by decide +kernel
theorem dX4_readLaidIntoDraft_24 : decode cX4_readLaidIntoDraft 24 = .ok (.pop, 1) := by decide +kernel
theorem dX4_readLaidIntoDraft_25 : decode cX4_readLaidIntoDraft 25 = .ok (.aload_n 0, 1) := by decide +kernel
theorem dX4_readLaidIntoDraft_26 : decode cX4_readLaidIntoDraft 26 = .ok (.getfield 40, 3) := by decide +kernel
theorem dX4_readLaidIntoDraft_29 : decode cX4_readLaidIntoDraft 29 = .ok (.iload_n 2, 1) := by decide +kernel
theorem dX4_readLaidIntoDraft_30 : decode cX4_readLaidIntoDraft 30 = .ok (.iconst 1, 1) := by decide +kernel
theorem dX4_readLaidIntoDraft_31 : decode cX4_readLaidIntoDraft 31 = .ok (.isub, 1) := by decide +kernel
theorem dX4_readLaidIntoDraft_32 : decode cX4_readLaidIntoDraft 32 = .ok (.aload_n 0, 1) := by decide +kernel
theorem dX4_readLaidIntoDraft_33 : decode cX4_readLaidIntoDraft 33 = .ok (.getfield 33, 3) := by decide +kernel
theorem dX4_readLaidIntoDraft_36 : decode cX4_readLaidIntoDraft 36 = .ok (.iload_n 3, 1) := by decide +kernel
theorem dX4_readLaidIntoDraft_37 : decode cX4_readLaidIntoDraft 37 = .ok (.invokevirtual 226, 3) := by decide +kernel
theorem dX4_readLaidIntoDraft_40 : decode cX4_readLaidIntoDraft 40 = .ok (.iastore, 1) := by decide +kernel
theorem dX4_readLaidIntoDraft_41 : decode cX4_readLaidIntoDraft 41 = .ok (.iinc 2 (-1), 3) := by decide +kernel
theorem dX4_readLaidIntoDraft_44 : decode cX4_readLaidIntoDraft 44 = .ok (.goto (-42), 3) := by decide +kernel
theorem dX4_readLaidIntoDraft_47 : decode cX4_readLaidIntoDraft 47 = .ok (.return_, 1) := by decide +kernel
set_option maxRecDepth 20000 in
theorem ggX4_countByShapes_X4_tableauxOf : GoodIn wsX4_countByShapes wsX4_tableauxOf := goodIn_r _ [8, 9] (by decide +kernel) (by decide +kernel)
set_option maxRecDepth 20000 in
theorem gX4_countByShapes_X4_tableauxOf : GoodIn wsX4_countByShapes (va_wsS RX4 229 yX4_tableauxOf wsX4_tableauxOf) := goodIn_app (goodIn_of _ (by decide +kernel)) ggX4_countByShapes_X4_tableauxOf
theorem dX4_countByShapes_0 : decode cX4_countByShapes 0 = .ok (.iload_n 0, 1) := by decide +kernel
theorem dX4_countByShapes_1 : decode cX4_countByShapes 1 = .ok (.iload_n 1, 1) := by decide +kernel
theorem dX4_countByShapes_2 : decode cX4_countByShapes 2 = .ok (.invokestatic 166, 3) := by decide +kernel
theorem dX4_countByShapes_5 : decode cX4_countByShapes 5 = .ok (.istore_n 3, 1) := by decide +kernel
theorem dX4_countByShapes_6 : decode cX4_countByShapes 6 = .ok (.lconst 0, 1) := by decide +kernel
theorem dX4_countByShapes_7 : decode cX4_countByShapes 7 = .ok (.lstore 4, 2) := by decide +kernel
theorem dX4_countByShapes_9 : decode cX4_countByShapes 9 = .ok (.iconst 0, 1) := by decide +kernel
theorem dX4_countByShapes_10 : decode cX4_countByShapes 10 = .ok (.istore 6, 2) := by decide +kernel
theorem dX4_countByShapes_12 : decode cX4_countByShapes 12 = .ok (.iload 6, 2) := by decide +kernel
theorem dX4_countByShapes_14 : decode cX4_countByShapes 14 = .ok (.iload_n 2, 1) := by decide +kernel
theorem dX4_countByShapes_15 : decode cX4_countByShapes 15 = .ok (.if_icmp .gt 110, 3) := by decide +kernel
theorem dX4_countByShapes_18 : decode cX4_countByShapes 18 = .ok (.iload_n 3, 1) := by decide +kernel
theorem dX4_countByShapes_19 : decode cX4_countByShapes 19 = .ok (.iconst 1, 1) := by decide +kernel
theorem dX4_countByShapes_20 : decode cX4_countByShapes 20 = .ok (.if_icmp .le 8, 3) := by decide +kernel
theorem dX4_countByShapes_23 : decode cX4_countByShapes 23 = .ok (.iload 6, 2) := by decide +kernel
theorem dX4_countByShapes_25 : decode cX4_countByShapes 25 = .ok (.goto 4, 3) := by decide +kernel
theorem dX4_countByShapes_28 : decode cX4_countByShapes 28 = .ok (.iconst 0, 1) := by decide +kernel
theorem dX4_countByShapes_29 : decode cX4_countByShapes 29 = .ok (.istore 7, 2) := by decide +kernel
theorem dX4_countByShapes_31 : decode cX4_countByShapes 31 = .ok (.iconst 0, 1) := by decide +kernel
theorem dX4_countByShapes_32 : decode cX4_countByShapes 32 = .ok (.istore 8, 2) := by decide +kernel
theorem dX4_countByShapes_34 : decode cX4_countByShapes 34 = .ok (.iload 8, 2) := by decide +kernel
theorem dX4_countByShapes_36 : decode cX4_countByShapes 36 = .ok (.iload 7, 2) := by decide +kernel
theorem dX4_countByShapes_38 : decode cX4_countByShapes 38 = .ok (.if_icmp .gt 81, 3) := by decide +kernel
theorem dX4_countByShapes_41 : decode cX4_countByShapes 41 = .ok (.iload_n 3, 1) := by decide +kernel
theorem dX4_countByShapes_42 : decode cX4_countByShapes 42 = .ok (.iconst 2, 1) := by decide +kernel
theorem dX4_countByShapes_43 : decode cX4_countByShapes 43 = .ok (.if_icmp .le 8, 3) := by decide +kernel
theorem dX4_countByShapes_46 : decode cX4_countByShapes 46 = .ok (.iload 8, 2) := by decide +kernel
theorem dX4_countByShapes_48 : decode cX4_countByShapes 48 = .ok (.goto 4, 3) := by decide +kernel
theorem dX4_countByShapes_51 : decode cX4_countByShapes 51 = .ok (.iconst 0, 1) := by decide +kernel
theorem dX4_countByShapes_52 : decode cX4_countByShapes 52 = .ok (.istore 9, 2) := by decide +kernel
theorem dX4_countByShapes_54 : decode cX4_countByShapes 54 = .ok (.iconst 0, 1) := by decide +kernel
theorem dX4_countByShapes_55 : decode cX4_countByShapes 55 = .ok (.istore 10, 2) := by decide +kernel
theorem dX4_countByShapes_57 : decode cX4_countByShapes 57 = .ok (.iload 10, 2) := by decide +kernel
theorem dX4_countByShapes_59 : decode cX4_countByShapes 59 = .ok (.iload 9, 2) := by decide +kernel
theorem dX4_countByShapes_61 : decode cX4_countByShapes 61 = .ok (.if_icmp .gt 52, 3) := by decide +kernel
theorem dX4_countByShapes_64 : decode cX4_countByShapes 64 = .ok (.iload_n 0, 1) := by decide +kernel
theorem dX4_countByShapes_65 : decode cX4_countByShapes 65 = .ok (.iload 6, 2) := by decide +kernel
theorem dX4_countByShapes_67 : decode cX4_countByShapes 67 = .ok (.iload 8, 2) := by decide +kernel
theorem dX4_countByShapes_69 : decode cX4_countByShapes 69 = .ok (.iload 10, 2) := by decide +kernel
theorem dX4_countByShapes_71 : decode cX4_countByShapes 71 = .ok (.invokestatic 229, 3) := by decide +kernel
theorem dX4_countByShapes_74 : decode cX4_countByShapes 74 = .ok (.iload_n 1, 1) := by decide +kernel
theorem dX4_countByShapes_75 : decode cX4_countByShapes 75 = .ok (.iload 6, 2) := by decide +kernel
theorem dX4_countByShapes_77 : decode cX4_countByShapes 77 = .ok (.iload 8, 2) := by decide +kernel
theorem dX4_countByShapes_79 : decode cX4_countByShapes 79 = .ok (.iload 10, 2) := by decide +kernel
theorem dX4_countByShapes_81 : decode cX4_countByShapes 81 = .ok (.invokestatic 229, 3) := by decide +kernel
theorem dX4_countByShapes_84 : decode cX4_countByShapes 84 = .ok (.lmul, 1) := by decide +kernel
theorem dX4_countByShapes_85 : decode cX4_countByShapes 85 = .ok (.lstore 11, 2) := by decide +kernel
theorem dX4_countByShapes_87 : decode cX4_countByShapes 87 = .ok (.lload 4, 2) := by decide +kernel
theorem dX4_countByShapes_89 : decode cX4_countByShapes 89 = .ok (.lload 11, 2) := by decide +kernel
theorem dX4_countByShapes_91 : decode cX4_countByShapes 91 = .ok (.iload_n 2, 1) := by decide +kernel
theorem dX4_countByShapes_92 : decode cX4_countByShapes 92 = .ok (.iload_n 3, 1) := by decide +kernel
theorem dX4_countByShapes_93 : decode cX4_countByShapes 93 = .ok (.imul, 1) := by decide +kernel
theorem dX4_countByShapes_94 : decode cX4_countByShapes 94 = .ok (.iload 6, 2) := by decide +kernel
theorem dX4_countByShapes_96 : decode cX4_countByShapes 96 = .ok (.isub, 1) := by decide +kernel
theorem dX4_countByShapes_97 : decode cX4_countByShapes 97 = .ok (.iload 8, 2) := by decide +kernel
theorem dX4_countByShapes_99 : decode cX4_countByShapes 99 = .ok (.isub, 1) := by decide +kernel
theorem dX4_countByShapes_100 : decode cX4_countByShapes 100 = .ok (.iload 10, 2) := by decide +kernel
theorem dX4_countByShapes_102 : decode cX4_countByShapes 102 = .ok (.isub, 1) := by decide +kernel
theorem dX4_countByShapes_103 : decode cX4_countByShapes 103 = .ok (.lshl, 1) := by decide +kernel
theorem dX4_countByShapes_104 : decode cX4_countByShapes 104 = .ok (.ladd, 1) := by decide +kernel
theorem dX4_countByShapes_105 : decode cX4_countByShapes 105 = .ok (.lstore 4, 2) := by decide +kernel
theorem dX4_countByShapes_107 : decode cX4_countByShapes 107 = .ok (.iinc 10 1, 3) := by decide +kernel
theorem dX4_countByShapes_110 : decode cX4_countByShapes 110 = .ok (.goto (-53), 3) := by decide +kernel
theorem dX4_countByShapes_113 : decode cX4_countByShapes 113 = .ok (.iinc 8 1, 3) := by decide +kernel
theorem dX4_countByShapes_116 : decode cX4_countByShapes 116 = .ok (.goto (-82), 3) := by decide +kernel
theorem dX4_countByShapes_119 : decode cX4_countByShapes 119 = .ok (.iinc 6 1, 3) := by decide +kernel
theorem dX4_countByShapes_122 : decode cX4_countByShapes 122 = .ok (.goto (-110), 3) := by decide +kernel
theorem dX4_countByShapes_125 : decode cX4_countByShapes 125 = .ok (.lload 4, 2) := by decide +kernel
theorem dX4_countByShapes_127 : decode cX4_countByShapes 127 = .ok (.lreturn, 1) := by decide +kernel
theorem dX4_tableauxOf_0 : decode cX4_tableauxOf 0 = .ok (.iload_n 0, 1) := by decide +kernel
theorem dX4_tableauxOf_1 : decode cX4_tableauxOf 1 = .ok (.iconst 1, 1) := by decide +kernel
theorem dX4_tableauxOf_2 : decode cX4_tableauxOf 2 = .ok (.if_icmp .ne 5, 3) := by decide +kernel
theorem dX4_tableauxOf_5 : decode cX4_tableauxOf 5 = .ok (.lconst 1, 1) := by decide +kernel
theorem dX4_tableauxOf_6 : decode cX4_tableauxOf 6 = .ok (.lreturn, 1) := by decide +kernel
theorem dX4_tableauxOf_7 : decode cX4_tableauxOf 7 = .ok (.iload_n 0, 1) := by decide +kernel
theorem dX4_tableauxOf_8 : decode cX4_tableauxOf 8 = .ok (.iconst 2, 1) := by decide +kernel
theorem dX4_tableauxOf_9 : decode cX4_tableauxOf 9 = .ok (.if_icmp .ne 10, 3) := by decide +kernel
theorem dX4_tableauxOf_12 : decode cX4_tableauxOf 12 = .ok (.iload_n 1, 1) := by decide +kernel
theorem dX4_tableauxOf_13 : decode cX4_tableauxOf 13 = .ok (.iload_n 2, 1) := by decide +kernel
theorem dX4_tableauxOf_14 : decode cX4_tableauxOf 14 = .ok (.isub, 1) := by decide +kernel
theorem dX4_tableauxOf_15 : decode cX4_tableauxOf 15 = .ok (.iconst 1, 1) := by decide +kernel
theorem dX4_tableauxOf_16 : decode cX4_tableauxOf 16 = .ok (.iadd, 1) := by decide +kernel
theorem dX4_tableauxOf_17 : decode cX4_tableauxOf 17 = .ok (.i2l, 1) := by decide +kernel
theorem dX4_tableauxOf_18 : decode cX4_tableauxOf 18 = .ok (.lreturn, 1) := by decide +kernel
theorem dX4_tableauxOf_19 : decode cX4_tableauxOf 19 = .ok (.iload_n 1, 1) := by decide +kernel
theorem dX4_tableauxOf_20 : decode cX4_tableauxOf 20 = .ok (.iload_n 2, 1) := by decide +kernel
theorem dX4_tableauxOf_21 : decode cX4_tableauxOf 21 = .ok (.isub, 1) := by decide +kernel
theorem dX4_tableauxOf_22 : decode cX4_tableauxOf 22 = .ok (.iconst 1, 1) := by decide +kernel
theorem dX4_tableauxOf_23 : decode cX4_tableauxOf 23 = .ok (.iadd, 1) := by decide +kernel
theorem dX4_tableauxOf_24 : decode cX4_tableauxOf 24 = .ok (.i2l, 1) := by decide +kernel
theorem dX4_tableauxOf_25 : decode cX4_tableauxOf 25 = .ok (.iload_n 2, 1) := by decide +kernel
theorem dX4_tableauxOf_26 : decode cX4_tableauxOf 26 = .ok (.iload_n 3, 1) := by decide +kernel
theorem dX4_tableauxOf_27 : decode cX4_tableauxOf 27 = .ok (.isub, 1) := by decide +kernel
theorem dX4_tableauxOf_28 : decode cX4_tableauxOf 28 = .ok (.iconst 1, 1) := by decide +kernel
theorem dX4_tableauxOf_29 : decode cX4_tableauxOf 29 = .ok (.iadd, 1) := by decide +kernel
theorem dX4_tableauxOf_30 : decode cX4_tableauxOf 30 = .ok (.i2l, 1) := by decide +kernel
theorem dX4_tableauxOf_31 : decode cX4_tableauxOf 31 = .ok (.lmul, 1) := by decide +kernel
theorem dX4_tableauxOf_32 : decode cX4_tableauxOf 32 = .ok (.iload_n 1, 1) := by decide +kernel
theorem dX4_tableauxOf_33 : decode cX4_tableauxOf 33 = .ok (.iload_n 3, 1) := by decide +kernel
theorem dX4_tableauxOf_34 : decode cX4_tableauxOf 34 = .ok (.isub, 1) := by decide +kernel
theorem dX4_tableauxOf_35 : decode cX4_tableauxOf 35 = .ok (.iconst 2, 1) := by decide +kernel
theorem dX4_tableauxOf_36 : decode cX4_tableauxOf 36 = .ok (.iadd, 1) := by decide +kernel
theorem dX4_tableauxOf_37 : decode cX4_tableauxOf 37 = .ok (.i2l, 1) := by decide +kernel
theorem dX4_tableauxOf_38 : decode cX4_tableauxOf 38 = .ok (.lmul, 1) := by decide +kernel
theorem dX4_tableauxOf_39 : decode cX4_tableauxOf 39 = .ok (.ldc2_w 233, 3) := by decide +kernel
theorem dX4_tableauxOf_42 : decode cX4_tableauxOf 42 = .ok (.ldiv, 1) := by decide +kernel
theorem dX4_tableauxOf_43 : decode cX4_tableauxOf 43 = .ok (.lreturn, 1) := by decide +kernel
end
section
theorem dX5_in_0 : decode cX5_in 0 = .ok (.lload_n 0, 1) := by decide +kernel
theorem dX5_in_1 : decode cX5_in 1 = .ok (.lload_n 2, 1) := by decide +kernel
theorem dX5_in_2 : decode cX5_in 2 = .ok (.lcmp, 1) := by decide +kernel
theorem dX5_in_3 : decode cX5_in 3 = .ok (.ifCond .lt 14, 3) := by decide +kernel
theorem dX5_in_6 : decode cX5_in 6 = .ok (.lload_n 0, 1) := by decide +kernel
theorem dX5_in_7 : decode cX5_in 7 = .ok (.lload 4, 2) := by decide +kernel
theorem dX5_in_9 : decode cX5_in 9 = .ok (.lcmp, 1) := by decide +kernel
theorem dX5_in_10 : decode cX5_in 10 = .ok (.ifCond .gt 7, 3) := by decide +kernel
theorem dX5_in_13 : decode cX5_in 13 = .ok (.iconst 1, 1) := by decide +kernel
theorem dX5_in_14 : decode cX5_in 14 = .ok (.goto 4, 3) := by decide +kernel
theorem dX5_in_17 : decode cX5_in 17 = .ok (.iconst 0, 1) := by decide +kernel
theorem dX5_in_18 : decode cX5_in 18 = .ok (.ireturn, 1) := by decide +kernel
theorem dX5_greater_0 : decode cX5_greater 0 = .ok (.iload_n 0, 1) := by decide +kernel
theorem dX5_greater_1 : decode cX5_greater 1 = .ok (.iload_n 1, 1) := by decide +kernel
theorem dX5_greater_2 : decode cX5_greater 2 = .ok (.if_icmp .le 7, 3) := by decide +kernel
theorem dX5_greater_5 : decode cX5_greater 5 = .ok (.iload_n 0, 1) := by decide +kernel
theorem dX5_greater_6 : decode cX5_greater 6 = .ok (.goto 4, 3) := by decide +kernel
theorem dX5_greater_9 : decode cX5_greater 9 = .ok (.iload_n 1, 1) := by decide +kernel
theorem dX5_greater_10 : decode cX5_greater 10 = .ok (.ireturn, 1) := by decide +kernel
theorem dX5_init_0 : decode cX5_init 0 = .ok (.aload_n 0, 1) := by decide +kernel
theorem dX5_init_1 : decode cX5_init 1 = .ok (.invokespecial 1, 3) := by decide +kernel
theorem dX5_init_4 : decode cX5_init 4 = .ok (.aload_n 0, 1) := by decide +kernel
theorem dX5_init_5 : decode cX5_init 5 = .ok (.iconst 3, 1) := by decide +kernel
theorem dX5_init_6 : decode cX5_init 6 = .ok (.putfield 7, 3) := by decide +kernel
theorem dX5_init_9 : decode cX5_init 9 = .ok (.aload_n 0, 1) := by decide +kernel
theorem dX5_init_10 : decode cX5_init 10 = .ok (.iconst 3, 1) := by decide +kernel
theorem dX5_init_11 : decode cX5_init 11 = .ok (.putfield 13, 3) := by decide +kernel
theorem dX5_init_14 : decode cX5_init 14 = .ok (.aload_n 0, 1) := by decide +kernel
theorem dX5_init_15 : decode cX5_init 15 = .ok (.bipush 36, 2) := by decide +kernel
theorem dX5_init_17 : decode cX5_init 17 = .ok (.newarray .int, 2) := by decide +kernel
theorem dX5_init_19 : decode cX5_init 19 = .ok (.putfield 16, 3) := by decide +kernel
theorem dX5_init_22 : decode cX5_init 22 = .ok (.aload_n 0, 1) := by decide +kernel
theorem dX5_init_23 : decode cX5_init 23 = .ok (.iconst 4, 1) := by decide +kernel
theorem dX5_init_24 : decode cX5_init 24 = .ok (.newarray .int, 2) := by decide +kernel
theorem dX5_init_26 : decode cX5_init 26 = .ok (.putfield 20, 3) := by decide +kernel
theorem dX5_init_29 : decode cX5_init 29 = .ok (.aload_n 0, 1) := by decide +kernel
theorem dX5_init_30 : decode cX5_init 30 = .ok (.iconst 4, 1) := by decide +kernel
theorem dX5_init_31 : decode cX5_init 31 = .ok (.newarray .int, 2) := by decide +kernel
theorem dX5_init_33 : decode cX5_init 33 = .ok (.putfield 23, 3) := by decide +kernel
theorem dX5_init_36 : decode cX5_init 36 = .ok (.aload_n 0, 1) := by decide +kernel
theorem dX5_init_37 : decode cX5_init 37 = .ok (.sipush 144, 3) := by decide +kernel
theorem dX5_init_40 : decode cX5_init 40 = .ok (.newarray .int, 2) := by decide +kernel
theorem dX5_init_42 : decode cX5_init 42 = .ok (.putfield 26, 3) := by decide +kernel
theorem dX5_init_45 : decode cX5_init 45 = .ok (.aload_n 0, 1) := by decide +kernel
theorem dX5_init_46 : decode cX5_init 46 = .ok (.bipush 36, 2) := by decide +kernel
theorem dX5_init_48 : decode cX5_init 48 = .ok (.newarray .int, 2) := by decide +kernel
theorem dX5_init_50 : decode cX5_init 50 = .ok (.putfield 29, 3) := by decide +kernel
theorem dX5_init_53 : decode cX5_init 53 = .ok (.aload_n 0, 1) := by decide +kernel
theorem dX5_init_54 : decode cX5_init 54 = .ok (.sipush 294, 3) := by decide +kernel
theorem dX5_init_57 : decode cX5_init 57 = .ok (.newarray .int, 2) := by decide +kernel
theorem dX5_init_59 : decode cX5_init 59 = .ok (.putfield 32, 3) := by decide +kernel
theorem dX5_init_62 : decode cX5_init 62 = .ok (.aload_n 0, 1) := by decide +kernel
theorem dX5_init_63 : decode cX5_init 63 = .ok (.bipush 36, 2) := by decide +kernel
theorem dX5_init_65 : decode cX5_init 65 = .ok (.newarray .long, 2) := by decide +kernel
theorem dX5_init_67 : decode cX5_init 67 = .ok (.putfield 35, 3) := by decide +kernel
theorem dX5_init_70 : decode cX5_init 70 = .ok (.aload_n 0, 1) := by decide +kernel
theorem dX5_init_71 : decode cX5_init 71 = .ok (.bipush 40, 2) := by decide +kernel
theorem dX5_init_73 : decode cX5_init 73 = .ok (.newarray .int, 2) := by decide +kernel
theorem dX5_init_75 : decode cX5_init 75 = .ok (.putfield 39, 3) := by decide +kernel
theorem dX5_init_78 : decode cX5_init 78 = .ok (.aload_n 0, 1) := by decide +kernel
theorem dX5_init_79 : decode cX5_init 79 = .ok (.sipush 360, 3) := by decide +kernel
theorem dX5_init_82 : decode cX5_init 82 = .ok (.newarray .int, 2) := by decide +kernel
theorem dX5_init_84 : decode cX5_init 84 = .ok (.putfield 42, 3) := by decide +kernel
theorem dX5_init_87 : decode cX5_init 87 = .ok (.aload_n 0, 1) := by decide +kernel
theorem dX5_init_88 : decode cX5_init 88 = .ok (.sipush 360, 3) := by decide +kernel
theorem dX5_init_91 : decode cX5_init 91 = .ok (.newarray .int, 2) := by decide +kernel
theorem dX5_init_93 : decode cX5_init 93 = .ok (.putfield 45, 3) := by decide +kernel
theorem dX5_init_96 : decode cX5_init 96 = .ok (.aload_n 0, 1) := by decide +kernel
theorem dX5_init_97 : decode cX5_init 97 = .ok (.bipush 9, 2) := by decide +kernel
theorem dX5_init_99 : decode cX5_init 99 = .ok (.newarray .int, 2) := by decide +kernel
theorem dX5_init_101 : decode cX5_init 101 = .ok (.putfield 48, 3) := by decide +kernel
theorem dX5_init_104 : decode cX5_init 104 = .ok (.aload_n 0, 1) := by decide +kernel
theorem dX5_init_105 : decode cX5_init 105 = .ok (.bipush 40, 2) := by decide +kernel
theorem dX5_init_107 : decode cX5_init 107 = .ok (.newarray .int, 2) := by decide +kernel
theorem dX5_init_109 : decode cX5_init 109 = .ok (.putfield 51, 3) := by decide +kernel
theorem dX5_init_112 : decode cX5_init 112 = .ok (.aload_n 0, 1) := by decide +kernel
theorem dX5_init_113 : decode cX5_init 113 = .ok (.sipush 360, 3) := by decide +kernel
theorem dX5_init_116 : decode cX5_init 116 = .ok (.newarray .int, 2) := by decide +kernel
theorem dX5_init_118 : decode cX5_init 118 = .ok (.putfield 54, 3) := by decide +kernel
theorem dX5_init_121 : decode cX5_init 121 = .ok (.aload_n 0, 1) := by decide +kernel
theorem dX5_init_122 : decode cX5_init 122 = .ok (.sipush 360, 3) := by decide +kernel
theorem dX5_init_125 : decode cX5_init 125 = .ok (.newarray .int, 2) := by decide +kernel
theorem dX5_init_127 : decode cX5_init 127 = .ok (.putfield 57, 3) := by decide +kernel
theorem dX5_init_130 : decode cX5_init 130 = .ok (.aload_n 0, 1) := by decide +kernel
theorem dX5_init_131 : decode cX5_init 131 = .ok (.bipush 9, 2) := by decide +kernel
theorem dX5_init_133 : decode cX5_init 133 = .ok (.newarray .int, 2) := by decide +kernel
theorem dX5_init_135 : decode cX5_init 135 = .ok (.putfield 60, 3) := by decide +kernel
theorem dX5_init_138 : decode cX5_init 138 = .ok (.aload_n 0, 1) := by decide +kernel
theorem dX5_init_139 : decode cX5_init 139 = .ok (.bipush 9, 2) := by decide +kernel
theorem dX5_init_141 : decode cX5_init 141 = .ok (.newarray .int, 2) := by decide +kernel
theorem dX5_init_143 : decode cX5_init 143 = .ok (.putfield 63, 3) := by decide +kernel
theorem dX5_init_146 : decode cX5_init 146 = .ok (.aload_n 0, 1) := by decide +kernel
theorem dX5_init_147 : decode cX5_init 147 = .ok (.bipush 41, 2) := by decide +kernel
theorem dX5_init_149 : decode cX5_init 149 = .ok (.newarray .boolean, 2) := by decide +kernel
theorem dX5_init_151 : decode cX5_init 151 = .ok (.putfield 66, 3) := by decide +kernel
theorem dX5_init_154 : decode cX5_init 154 = .ok (.aload_n 0, 1) := by decide +kernel
theorem dX5_init_155 : decode cX5_init 155 = .ok (.sipush 729, 3) := by decide +kernel
theorem dX5_init_158 : decode cX5_init 158 = .ok (.newarray .long, 2) := by decide +kernel
theorem dX5_init_160 : decode cX5_init 160 = .ok (.putfield 70, 3) := by decide +kernel
theorem dX5_init_163 : decode cX5_init 163 = .ok (.aload_n 0, 1) := by decide +kernel
theorem dX5_init_164 : decode cX5_init 164 = .ok (.sipush 729, 3) := by decide +kernel
theorem dX5_init_167 : decode cX5_init 167 = .ok (.newarray .long, 2) := by decide +kernel
theorem dX5_init_169 : decode cX5_init 169 = .ok (.putfield 73, 3) := by decide +kernel
theorem dX5_init_172 : decode cX5_init 172 = .ok (.iconst 0, 1) := by decide +kernel
theorem dX5_init_173 : decode cX5_init 173 = .ok (.istore_n 1, 1) := by decide +kernel
theorem dX5_init_174 : decode cX5_init 174 = .ok (.iload_n 1, 1) := by decide +kernel
theorem dX5_init_175 : decode cX5_init 175 = .ok (.iconst 4, 1) := by decide +kernel
theorem dX5_init_176 : decode cX5_init 176 = .ok (.if_icmp .ge 16, 3) := by decide +kernel
theorem dX5_init_179 : decode cX5_init 179 = .ok (.aload_n 0, 1) := by decide +kernel
theorem dX5_init_180 : decode cX5_init 180 = .ok (.getfield 20, 3) := by decide +kernel
theorem dX5_init_183 : decode cX5_init 183 = .ok (.iload_n 1, 1) := by decide +kernel
theorem dX5_init_184 : decode cX5_init 184 = .ok (.iconst (-1), 1) := by decide +kernel
theorem dX5_init_185 : decode cX5_init 185 = .ok (.iastore, 1) := by decide +kernel
theorem dX5_init_186 : decode cX5_init 186 = .ok (.iinc 1 1, 3) := by decide +kernel
theorem dX5_init_189 : decode cX5_init 189 = .ok (.goto (-15), 3) := by decide +kernel
theorem dX5_init_192 : decode cX5_init 192 = .ok (.return_, 1) := by decide +kernel
set_option maxRecDepth 20000 in
theorem ggX5_isPlace_X5_in : GoodIn wsX5_isPlace wsX5_in := goodIn_r _ [6] (by decide +kernel) (by decide +kernel)
set_option maxRecDepth 20000 in
theorem gX5_isPlace_X5_in : GoodIn wsX5_isPlace (va_wsS RX5 76 yX5_in wsX5_in) := goodIn_app (goodIn_of _ (by decide +kernel)) ggX5_isPlace_X5_in
theorem dX5_isPlace_0 : decode cX5_isPlace 0 = .ok (.iload_n 1, 1) := by decide +kernel
theorem dX5_isPlace_1 : decode cX5_isPlace 1 = .ok (.i2l, 1) := by decide +kernel
theorem dX5_isPlace_2 : decode cX5_isPlace 2 = .ok (.lconst 0, 1) := by decide +kernel
theorem dX5_isPlace_3 : decode cX5_isPlace 3 = .ok (.aload_n 0, 1) := by decide +kernel
theorem dX5_isPlace_4 : decode cX5_isPlace 4 = .ok (.getfield 7, 3) := by decide +kernel
theorem dX5_isPlace_7 : decode cX5_isPlace 7 = .ok (.iconst 1, 1) := by decide +kernel
theorem dX5_isPlace_8 : decode cX5_isPlace 8 = .ok (.isub, 1) := by decide +kernel
theorem dX5_isPlace_9 : decode cX5_isPlace 9 = .ok (.i2l, 1) := by decide +kernel
theorem dX5_isPlace_10 : decode cX5_isPlace 10 = .ok (.invokestatic 76, 3) := by decide +kernel
theorem dX5_isPlace_13 : decode cX5_isPlace 13 = .ok (.ifCond .eq 23, 3) := by decide +kernel
theorem dX5_isPlace_16 : decode cX5_isPlace 16 = .ok (.iload_n 2, 1) := by decide +kernel
theorem dX5_isPlace_17 : decode cX5_isPlace 17 = .ok (.i2l, 1) := by decide +kernel
theorem dX5_isPlace_18 : decode cX5_isPlace 18 = .ok (.lconst 0, 1) := by decide +kernel
theorem dX5_isPlace_19 : decode cX5_isPlace 19 = .ok (.aload_n 0, 1) := by decide +kernel
theorem dX5_isPlace_20 : decode cX5_isPlace 20 = .ok (.getfield 13, 3) := by decide +kernel
theorem dX5_isPlace_23 : decode cX5_isPlace 23 = .ok (.iconst 1, 1) := by decide +kernel
theorem dX5_isPlace_24 : decode cX5_isPlace 24 = .ok (.isub, 1) := by decide +kernel
theorem dX5_isPlace_25 : decode cX5_isPlace 25 = .ok (.i2l, 1) := by decide +kernel
theorem dX5_isPlace_26 : decode cX5_isPlace 26 = .ok (.invokestatic 76, 3) := by decide +kernel
theorem dX5_isPlace_29 : decode cX5_isPlace 29 = .ok (.ifCond .eq 7, 3) := by decide +kernel
theorem dX5_isPlace_32 : decode cX5_isPlace 32 = .ok (.iconst 1, 1) := by decide +kernel
theorem dX5_isPlace_33 : decode cX5_isPlace 33 = .ok (.goto 4, 3) := by decide +kernel
theorem dX5_isPlace_36 : decode cX5_isPlace 36 = .ok (.iconst 0, 1) := by decide +kernel
theorem dX5_isPlace_37 : decode cX5_isPlace 37 = .ok (.ireturn, 1) := by decide +kernel
set_option maxRecDepth 20000 in
theorem ggX5_box_X5_in : GoodIn wsX5_box wsX5_in := goodIn_r _ [8] (by decide +kernel) (by decide +kernel)
set_option maxRecDepth 20000 in
theorem gX5_box_X5_in : GoodIn wsX5_box (va_wsS RX5 76 yX5_in wsX5_in) := goodIn_app (goodIn_of _ (by decide +kernel)) ggX5_box_X5_in
theorem dX5_box_0 : decode cX5_box 0 = .ok (.iload_n 1, 1) := by decide +kernel
theorem dX5_box_1 : decode cX5_box 1 = .ok (.i2l, 1) := by decide +kernel
theorem dX5_box_2 : decode cX5_box 2 = .ok (.lconst 1, 1) := by decide +kernel
theorem dX5_box_3 : decode cX5_box 3 = .ok (.ldc2_w 80, 3) := by decide +kernel
theorem dX5_box_6 : decode cX5_box 6 = .ok (.invokestatic 76, 3) := by decide +kernel
theorem dX5_box_9 : decode cX5_box 9 = .ok (.ifCond .eq 15, 3) := by decide +kernel
theorem dX5_box_12 : decode cX5_box 12 = .ok (.iload_n 2, 1) := by decide +kernel
theorem dX5_box_13 : decode cX5_box 13 = .ok (.i2l, 1) := by decide +kernel
theorem dX5_box_14 : decode cX5_box 14 = .ok (.lconst 1, 1) := by decide +kernel
theorem dX5_box_15 : decode cX5_box 15 = .ok (.ldc2_w 80, 3) := by decide +kernel
theorem dX5_box_18 : decode cX5_box 18 = .ok (.invokestatic 76, 3) := by decide +kernel
theorem dX5_box_21 : decode cX5_box 21 = .ok (.ifCond .ne 5, 3) := by decide +kernel
theorem dX5_box_24 : decode cX5_box 24 = .ok (.iconst (-1), 1) := by decide +kernel
theorem dX5_box_25 : decode cX5_box 25 = .ok (.ireturn, 1) := by decide +kernel
theorem dX5_box_26 : decode cX5_box 26 = .ok (.aload_n 0, 1) := by decide +kernel
theorem dX5_box_27 : decode cX5_box 27 = .ok (.iload_n 1, 1) := by decide +kernel
theorem dX5_box_28 : decode cX5_box 28 = .ok (.putfield 7, 3) := by decide +kernel
theorem dX5_box_31 : decode cX5_box 31 = .ok (.aload_n 0, 1) := by decide +kernel
theorem dX5_box_32 : decode cX5_box 32 = .ok (.iload_n 2, 1) := by decide +kernel
theorem dX5_box_33 : decode cX5_box 33 = .ok (.putfield 13, 3) := by decide +kernel
theorem dX5_box_36 : decode cX5_box 36 = .ok (.iconst 0, 1) := by decide +kernel
theorem dX5_box_37 : decode cX5_box 37 = .ok (.istore_n 3, 1) := by decide +kernel
theorem dX5_box_38 : decode cX5_box 38 = .ok (.iload_n 3, 1) := by decide +kernel
theorem dX5_box_39 : decode cX5_box 39 = .ok (.bipush 36, 2) := by decide +kernel
theorem dX5_box_41 : decode cX5_box 41 = .ok (.if_icmp .ge 16, 3) := by decide +kernel
theorem dX5_box_44 : decode cX5_box 44 = .ok (.aload_n 0, 1) := by decide +kernel
theorem dX5_box_45 : decode cX5_box 45 = .ok (.getfield 16, 3) := by decide +kernel
theorem dX5_box_48 : decode cX5_box 48 = .ok (.iload_n 3, 1) := by decide +kernel
theorem dX5_box_49 : decode cX5_box 49 = .ok (.iconst 0, 1) := by decide +kernel
theorem dX5_box_50 : decode cX5_box 50 = .ok (.iastore, 1) := by decide +kernel
theorem dX5_box_51 : decode cX5_box 51 = .ok (.iinc 3 1, 3) := by decide +kernel
theorem dX5_box_54 : decode cX5_box 54 = .ok (.goto (-16), 3) := by decide +kernel
theorem dX5_box_57 : decode cX5_box 57 = .ok (.iconst 1, 1) := by decide +kernel
theorem dX5_box_58 : decode cX5_box 58 = .ok (.ireturn, 1) := by decide +kernel
set_option maxRecDepth 20000 in
theorem ggX5_weight_X5_isPlace : GoodIn wsX5_weight wsX5_isPlace := goodIn_r _ [7, 8, 9, 10, 11, 6, 12, 13, 14, 15, 16, 17, 18, 19, 20, 21, 22, 23, 24, 25, 26, 27, 28, 29, 30, 31, 32, 33, 34] (by decide +kernel) (by decide +kernel)
set_option maxRecDepth 20000 in
theorem gX5_weight_X5_isPlace : GoodIn wsX5_weight (wsV RX5 82 RX5 yX5_isPlace wsX5_isPlace) := goodIn_app (goodIn_of _ (by decide +kernel)) ggX5_weight_X5_isPlace
set_option maxRecDepth 20000 in
theorem ggX5_weight_X5_in : GoodIn wsX5_weight wsX5_in := goodIn_r _ [12] (by decide +kernel) (by decide +kernel)
set_option maxRecDepth 20000 in
theorem gX5_weight_X5_in : GoodIn wsX5_weight (va_wsS RX5 76 yX5_in wsX5_in) := goodIn_app (goodIn_of _ (by decide +kernel)) ggX5_weight_X5_in
theorem dX5_weight_0 : decode cX5_weight 0 = .ok (.aload_n 0, 1) := by decide +kernel
theorem dX5_weight_1 : decode cX5_weight 1 = .ok (.iload_n 1, 1) := by decide +kernel
theorem dX5_weight_2 : decode cX5_weight 2 = .ok (.iload_n 2, 1) := by decide +kernel
theorem dX5_weight_3 : decode cX5_weight 3 = .ok (.invokevirtual 82, 3) := by decide +kernel
theorem dX5_weight_6 : decode cX5_weight 6 = .ok (.ifCond .eq 15, 3) := by decide +kernel
theorem dX5_weight_9 : decode cX5_weight 9 = .ok (.iload_n 3, 1) := by decide +kernel
theorem dX5_weight_10 : decode cX5_weight 10 = .ok (.i2l, 1) := by decide +kernel
theorem dX5_weight_11 : decode cX5_weight 11 = .ok (.lconst 0, 1) := by decide +kernel
theorem dX5_weight_12 : decode cX5_weight 12 = .ok (.ldc2_w 86, 3) := by decide +kernel
theorem dX5_weight_15 : decode cX5_weight 15 = .ok (.invokestatic 76, 3) := by decide +kernel
theorem dX5_weight_18 : decode cX5_weight 18 = .ok (.ifCond .ne 5, 3) := by decide +kernel
theorem dX5_weight_21 : decode cX5_weight 21 = .ok (.iconst (-1), 1) := by decide +kernel
theorem dX5_weight_22 : decode cX5_weight 22 = .ok (.ireturn, 1) := by decide +kernel
theorem dX5_weight_23 : decode cX5_weight 23 = .ok (.aload_n 0, 1) := by decide +kernel
theorem dX5_weight_24 : decode cX5_weight 24 = .ok (.getfield 16, 3) := by decide +kernel
theorem dX5_weight_27 : decode cX5_weight 27 = .ok (.bipush 6, 2) := by decide +kernel
theorem dX5_weight_29 : decode cX5_weight 29 = .ok (.iload_n 1, 1) := by decide +kernel
theorem dX5_weight_30 : decode cX5_weight 30 = .ok (.imul, 1) := by decide +kernel
theorem dX5_weight_31 : decode cX5_weight 31 = .ok (.iload_n 2, 1) := by decide +kernel
theorem dX5_weight_32 : decode cX5_weight 32 = .ok (.iadd, 1) := by decide +kernel
theorem dX5_weight_33 : decode cX5_weight 33 = .ok (.iaload, 1) := by decide +kernel
theorem dX5_weight_34 : decode cX5_weight 34 = .ok (.istore 4, 2) := by decide +kernel
theorem dX5_weight_36 : decode cX5_weight 36 = .ok (.aload_n 0, 1) := by decide +kernel
theorem dX5_weight_37 : decode cX5_weight 37 = .ok (.getfield 16, 3) := by decide +kernel
theorem dX5_weight_40 : decode cX5_weight 40 = .ok (.bipush 6, 2) := by decide +kernel
theorem dX5_weight_42 : decode cX5_weight 42 = .ok (.iload_n 1, 1) := by decide +kernel
theorem dX5_weight_43 : decode cX5_weight 43 = .ok (.imul, 1) := by decide +kernel
theorem dX5_weight_44 : decode cX5_weight 44 = .ok (.iload_n 2, 1) := by decide +kernel
theorem dX5_weight_45 : decode cX5_weight 45 = .ok (.iadd, 1) := by decide +kernel
theorem dX5_weight_46 : decode cX5_weight 46 = .ok (.iload_n 3, 1) := by decide +kernel
theorem dX5_weight_47 : decode cX5_weight 47 = .ok (.iastore, 1) := by decide +kernel
theorem dX5_weight_48 : decode cX5_weight 48 = .ok (.iload 4, 2) := by decide +kernel
theorem dX5_weight_50 : decode cX5_weight 50 = .ok (.ireturn, 1) := by decide +kernel
set_option maxRecDepth 20000 in
theorem ggX5_isSheet_X5_in : GoodIn wsX5_isSheet wsX5_in := goodIn_r _ [5] (by decide +kernel) (by decide +kernel)
set_option maxRecDepth 20000 in
theorem gX5_isSheet_X5_in : GoodIn wsX5_isSheet (va_wsS RX5 76 yX5_in wsX5_in) := goodIn_app (goodIn_of _ (by decide +kernel)) ggX5_isSheet_X5_in
theorem dX5_isSheet_0 : decode cX5_isSheet 0 = .ok (.iload_n 0, 1) := by decide +kernel
theorem dX5_isSheet_1 : decode cX5_isSheet 1 = .ok (.i2l, 1) := by decide +kernel
theorem dX5_isSheet_2 : decode cX5_isSheet 2 = .ok (.lconst 0, 1) := by decide +kernel
theorem dX5_isSheet_3 : decode cX5_isSheet 3 = .ok (.ldc2_w 88, 3) := by decide +kernel
theorem dX5_isSheet_6 : decode cX5_isSheet 6 = .ok (.invokestatic 76, 3) := by decide +kernel
theorem dX5_isSheet_9 : decode cX5_isSheet 9 = .ok (.ifCond .eq 17, 3) := by decide +kernel
theorem dX5_isSheet_12 : decode cX5_isSheet 12 = .ok (.iload_n 1, 1) := by decide +kernel
theorem dX5_isSheet_13 : decode cX5_isSheet 13 = .ok (.i2l, 1) := by decide +kernel
theorem dX5_isSheet_14 : decode cX5_isSheet 14 = .ok (.lconst 0, 1) := by decide +kernel
theorem dX5_isSheet_15 : decode cX5_isSheet 15 = .ok (.lconst 1, 1) := by decide +kernel
theorem dX5_isSheet_16 : decode cX5_isSheet 16 = .ok (.invokestatic 76, 3) := by decide +kernel
theorem dX5_isSheet_19 : decode cX5_isSheet 19 = .ok (.ifCond .eq 7, 3) := by decide +kernel
theorem dX5_isSheet_22 : decode cX5_isSheet 22 = .ok (.iconst 1, 1) := by decide +kernel
theorem dX5_isSheet_23 : decode cX5_isSheet 23 = .ok (.goto 4, 3) := by decide +kernel
theorem dX5_isSheet_26 : decode cX5_isSheet 26 = .ok (.iconst 0, 1) := by decide +kernel
theorem dX5_isSheet_27 : decode cX5_isSheet 27 = .ok (.ireturn, 1) := by decide +kernel
set_option maxRecDepth 20000 in
theorem ggX5_sheet_X5_isSheet : GoodIn wsX5_sheet wsX5_isSheet := goodIn_r _ [7, 8, 9, 10, 6, 11] (by decide +kernel) (by decide +kernel)
set_option maxRecDepth 20000 in
theorem gX5_sheet_X5_isSheet : GoodIn wsX5_sheet (va_wsS RX5 90 yX5_isSheet wsX5_isSheet) := goodIn_app (goodIn_of _ (by decide +kernel)) ggX5_sheet_X5_isSheet
theorem dX5_sheet_0 : decode cX5_sheet 0 = .ok (.iload_n 1, 1) := by decide +kernel
theorem dX5_sheet_1 : decode cX5_sheet 1 = .ok (.iload_n 2, 1) := by decide +kernel
theorem dX5_sheet_2 : decode cX5_sheet 2 = .ok (.invokestatic 90, 3) := by decide +kernel
theorem dX5_sheet_5 : decode cX5_sheet 5 = .ok (.ifCond .eq 9, 3) := by decide +kernel
theorem dX5_sheet_8 : decode cX5_sheet 8 = .ok (.iload_n 3, 1) := by decide +kernel
theorem dX5_sheet_9 : decode cX5_sheet 9 = .ok (.bipush 36, 2) := by decide +kernel
theorem dX5_sheet_11 : decode cX5_sheet 11 = .ok (.if_icmp .le 5, 3) := by decide +kernel
theorem dX5_sheet_14 : decode cX5_sheet 14 = .ok (.iconst (-1), 1) := by decide +kernel
theorem dX5_sheet_15 : decode cX5_sheet 15 = .ok (.ireturn, 1) := by decide +kernel
theorem dX5_sheet_16 : decode cX5_sheet 16 = .ok (.iload_n 3, 1) := by decide +kernel
theorem dX5_sheet_17 : decode cX5_sheet 17 = .ok (.ifCond .ge 6, 3) := by decide +kernel
theorem dX5_sheet_20 : decode cX5_sheet 20 = .ok (.bipush (-14), 2) := by decide +kernel
theorem dX5_sheet_22 : decode cX5_sheet 22 = .ok (.ireturn, 1) := by decide +kernel
theorem dX5_sheet_23 : decode cX5_sheet 23 = .ok (.aload_n 0, 1) := by decide +kernel
theorem dX5_sheet_24 : decode cX5_sheet 24 = .ok (.getfield 20, 3) := by decide +kernel
theorem dX5_sheet_27 : decode cX5_sheet 27 = .ok (.iload_n 1, 1) := by decide +kernel
theorem dX5_sheet_28 : decode cX5_sheet 28 = .ok (.iload_n 2, 1) := by decide +kernel
theorem dX5_sheet_29 : decode cX5_sheet 29 = .ok (.iastore, 1) := by decide +kernel
theorem dX5_sheet_30 : decode cX5_sheet 30 = .ok (.aload_n 0, 1) := by decide +kernel
theorem dX5_sheet_31 : decode cX5_sheet 31 = .ok (.getfield 23, 3) := by decide +kernel
theorem dX5_sheet_34 : decode cX5_sheet 34 = .ok (.iload_n 1, 1) := by decide +kernel
theorem dX5_sheet_35 : decode cX5_sheet 35 = .ok (.iload_n 3, 1) := by decide +kernel
theorem dX5_sheet_36 : decode cX5_sheet 36 = .ok (.iastore, 1) := by decide +kernel
theorem dX5_sheet_37 : decode cX5_sheet 37 = .ok (.iconst 0, 1) := by decide +kernel
theorem dX5_sheet_38 : decode cX5_sheet 38 = .ok (.istore 4, 2) := by decide +kernel
theorem dX5_sheet_40 : decode cX5_sheet 40 = .ok (.iload 4, 2) := by decide +kernel
theorem dX5_sheet_42 : decode cX5_sheet 42 = .ok (.bipush 36, 2) := by decide +kernel
theorem dX5_sheet_44 : decode cX5_sheet 44 = .ok (.if_icmp .ge 22, 3) := by decide +kernel
theorem dX5_sheet_47 : decode cX5_sheet 47 = .ok (.aload_n 0, 1) := by decide +kernel
theorem dX5_sheet_48 : decode cX5_sheet 48 = .ok (.getfield 26, 3) := by decide +kernel
theorem dX5_sheet_51 : decode cX5_sheet 51 = .ok (.bipush 36, 2) := by decide +kernel
theorem dX5_sheet_53 : decode cX5_sheet 53 = .ok (.iload_n 1, 1) := by decide +kernel
theorem dX5_sheet_54 : decode cX5_sheet 54 = .ok (.imul, 1) := by decide +kernel
theorem dX5_sheet_55 : decode cX5_sheet 55 = .ok (.iload 4, 2) := by decide +kernel
theorem dX5_sheet_57 : decode cX5_sheet 57 = .ok (.iadd, 1) := by decide +kernel
theorem dX5_sheet_58 : decode cX5_sheet 58 = .ok (.iconst 0, 1) := by decide +kernel
theorem dX5_sheet_59 : decode cX5_sheet 59 = .ok (.iastore, 1) := by decide +kernel
theorem dX5_sheet_60 : decode cX5_sheet 60 = .ok (.iinc 4 1, 3) := by decide +kernel
theorem dX5_sheet_63 : decode cX5_sheet 63 = .ok (.goto (-23), 3) := by decide +kernel
theorem dX5_sheet_66 : decode cX5_sheet 66 = .ok (.iload_n 3, 1) := by decide +kernel
theorem dX5_sheet_67 : decode cX5_sheet 67 = .ok (.ireturn, 1) := by decide +kernel
set_option maxRecDepth 20000 in
theorem ggX5_drop_X5_in : GoodIn wsX5_drop wsX5_in := goodIn_r _ [7] (by decide +kernel) (by decide +kernel)
set_option maxRecDepth 20000 in
theorem gX5_drop_X5_in : GoodIn wsX5_drop (va_wsS RX5 76 yX5_in wsX5_in) := goodIn_app (goodIn_of _ (by decide +kernel)) ggX5_drop_X5_in
theorem dX5_drop_0 : decode cX5_drop 0 = .ok (.iload_n 1, 1) := by decide +kernel
theorem dX5_drop_1 : decode cX5_drop 1 = .ok (.i2l, 1) := by decide +kernel
theorem dX5_drop_2 : decode cX5_drop 2 = .ok (.lconst 0, 1) := by decide +kernel
theorem dX5_drop_3 : decode cX5_drop 3 = .ok (.ldc2_w 88, 3) := by decide +kernel
theorem dX5_drop_6 : decode cX5_drop 6 = .ok (.invokestatic 76, 3) := by decide +kernel
theorem dX5_drop_9 : decode cX5_drop 9 = .ok (.ifCond .ne 5, 3) := by decide +kernel
theorem dX5_drop_12 : decode cX5_drop 12 = .ok (.iconst (-1), 1) := by decide +kernel
theorem dX5_drop_13 : decode cX5_drop 13 = .ok (.ireturn, 1) := by decide +kernel
theorem dX5_drop_14 : decode cX5_drop 14 = .ok (.aload_n 0, 1) := by decide +kernel
theorem dX5_drop_15 : decode cX5_drop 15 = .ok (.getfield 20, 3) := by decide +kernel
theorem dX5_drop_18 : decode cX5_drop 18 = .ok (.iload_n 1, 1) := by decide +kernel
theorem dX5_drop_19 : decode cX5_drop 19 = .ok (.iaload, 1) := by decide +kernel
theorem dX5_drop_20 : decode cX5_drop 20 = .ok (.ifCond .ge 6, 3) := by decide +kernel
theorem dX5_drop_23 : decode cX5_drop 23 = .ok (.bipush (-11), 2) := by decide +kernel
theorem dX5_drop_25 : decode cX5_drop 25 = .ok (.ireturn, 1) := by decide +kernel
theorem dX5_drop_26 : decode cX5_drop 26 = .ok (.aload_n 0, 1) := by decide +kernel
theorem dX5_drop_27 : decode cX5_drop 27 = .ok (.getfield 20, 3) := by decide +kernel
theorem dX5_drop_30 : decode cX5_drop 30 = .ok (.iload_n 1, 1) := by decide +kernel
theorem dX5_drop_31 : decode cX5_drop 31 = .ok (.iconst (-1), 1) := by decide +kernel
theorem dX5_drop_32 : decode cX5_drop 32 = .ok (.iastore, 1) := by decide +kernel
theorem dX5_drop_33 : decode cX5_drop 33 = .ok (.aload_n 0, 1) := by decide +kernel
theorem dX5_drop_34 : decode cX5_drop 34 = .ok (.getfield 23, 3) := by decide +kernel
theorem dX5_drop_37 : decode cX5_drop 37 = .ok (.iload_n 1, 1) := by decide +kernel
theorem dX5_drop_38 : decode cX5_drop 38 = .ok (.iaload, 1) := by decide +kernel
theorem dX5_drop_39 : decode cX5_drop 39 = .ok (.ireturn, 1) := by decide +kernel
set_option maxRecDepth 20000 in
theorem ggX5_item_X5_isSheet : GoodIn wsX5_item wsX5_isSheet := goodIn_r _ [7, 8, 9, 10, 6, 11] (by decide +kernel) (by decide +kernel)
set_option maxRecDepth 20000 in
theorem gX5_item_X5_isSheet : GoodIn wsX5_item (va_wsS RX5 90 yX5_isSheet wsX5_isSheet) := goodIn_app (goodIn_of _ (by decide +kernel)) ggX5_item_X5_isSheet
set_option maxRecDepth 20000 in
theorem ggX5_item_X5_in : GoodIn wsX5_item wsX5_in := goodIn_r _ [11] (by decide +kernel) (by decide +kernel)
set_option maxRecDepth 20000 in
theorem gX5_item_X5_in : GoodIn wsX5_item (va_wsS RX5 76 yX5_in wsX5_in) := goodIn_app (goodIn_of _ (by decide +kernel)) ggX5_item_X5_in
theorem dX5_item_0 : decode cX5_item 0 = .ok (.iload_n 1, 1) := by decide +kernel
theorem dX5_item_1 : decode cX5_item 1 = .ok (.iload_n 2, 1) := by decide +kernel
theorem dX5_item_2 : decode cX5_item 2 = .ok (.invokestatic 90, 3) := by decide +kernel
theorem dX5_item_5 : decode cX5_item 5 = .ok (.ifCond .ne 5, 3) := by decide +kernel
theorem dX5_item_8 : decode cX5_item 8 = .ok (.iconst (-1), 1) := by decide +kernel
theorem dX5_item_9 : decode cX5_item 9 = .ok (.ireturn, 1) := by decide +kernel
theorem dX5_item_10 : decode cX5_item 10 = .ok (.aload_n 0, 1) := by decide +kernel
theorem dX5_item_11 : decode cX5_item 11 = .ok (.getfield 20, 3) := by decide +kernel
theorem dX5_item_14 : decode cX5_item 14 = .ok (.iload_n 1, 1) := by decide +kernel
theorem dX5_item_15 : decode cX5_item 15 = .ok (.iaload, 1) := by decide +kernel
theorem dX5_item_16 : decode cX5_item 16 = .ok (.iload_n 2, 1) := by decide +kernel
theorem dX5_item_17 : decode cX5_item 17 = .ok (.if_icmp .eq 20, 3) := by decide +kernel
theorem dX5_item_20 : decode cX5_item 20 = .ok (.aload_n 0, 1) := by decide +kernel
theorem dX5_item_21 : decode cX5_item 21 = .ok (.getfield 20, 3) := by decide +kernel
theorem dX5_item_24 : decode cX5_item 24 = .ok (.iload_n 1, 1) := by decide +kernel
theorem dX5_item_25 : decode cX5_item 25 = .ok (.iaload, 1) := by decide +kernel
theorem dX5_item_26 : decode cX5_item 26 = .ok (.ifCond .ge 8, 3) := by decide +kernel
theorem dX5_item_29 : decode cX5_item 29 = .ok (.bipush (-11), 2) := by decide +kernel
theorem dX5_item_31 : decode cX5_item 31 = .ok (.goto 5, 3) := by decide +kernel
theorem dX5_item_34 : decode cX5_item 34 = .ok (.bipush (-12), 2) := by decide +kernel
theorem dX5_item_36 : decode cX5_item 36 = .ok (.ireturn, 1) := by decide +kernel
theorem dX5_item_37 : decode cX5_item 37 = .ok (.iload_n 3, 1) := by decide +kernel
theorem dX5_item_38 : decode cX5_item 38 = .ok (.i2l, 1) := by decide +kernel
theorem dX5_item_39 : decode cX5_item 39 = .ok (.lconst 0, 1) := by decide +kernel
theorem dX5_item_40 : decode cX5_item 40 = .ok (.aload_n 0, 1) := by decide +kernel
theorem dX5_item_41 : decode cX5_item 41 = .ok (.getfield 23, 3) := by decide +kernel
theorem dX5_item_44 : decode cX5_item 44 = .ok (.iload_n 1, 1) := by decide +kernel
theorem dX5_item_45 : decode cX5_item 45 = .ok (.iaload, 1) := by decide +kernel
theorem dX5_item_46 : decode cX5_item 46 = .ok (.iconst 1, 1) := by decide +kernel
theorem dX5_item_47 : decode cX5_item 47 = .ok (.isub, 1) := by decide +kernel
theorem dX5_item_48 : decode cX5_item 48 = .ok (.i2l, 1) := by decide +kernel
theorem dX5_item_49 : decode cX5_item 49 = .ok (.invokestatic 76, 3) := by decide +kernel
theorem dX5_item_52 : decode cX5_item 52 = .ok (.ifCond .ne 6, 3) := by decide +kernel
theorem dX5_item_55 : decode cX5_item 55 = .ok (.bipush (-13), 2) := by decide +kernel
theorem dX5_item_57 : decode cX5_item 57 = .ok (.ireturn, 1) := by decide +kernel
theorem dX5_item_58 : decode cX5_item 58 = .ok (.aload_n 0, 1) := by decide +kernel
theorem dX5_item_59 : decode cX5_item 59 = .ok (.getfield 26, 3) := by decide +kernel
theorem dX5_item_62 : decode cX5_item 62 = .ok (.bipush 36, 2) := by decide +kernel
theorem dX5_item_64 : decode cX5_item 64 = .ok (.iload_n 1, 1) := by decide +kernel
theorem dX5_item_65 : decode cX5_item 65 = .ok (.imul, 1) := by decide +kernel
theorem dX5_item_66 : decode cX5_item 66 = .ok (.iload_n 3, 1) := by decide +kernel
theorem dX5_item_67 : decode cX5_item 67 = .ok (.iadd, 1) := by decide +kernel
theorem dX5_item_68 : decode cX5_item 68 = .ok (.iload 4, 2) := by decide +kernel
theorem dX5_item_70 : decode cX5_item 70 = .ok (.iastore, 1) := by decide +kernel
theorem dX5_item_71 : decode cX5_item 71 = .ok (.iconst 1, 1) := by decide +kernel
theorem dX5_item_72 : decode cX5_item 72 = .ok (.ireturn, 1) := by decide +kernel
set_option maxRecDepth 20000 in
theorem ggX5_weights_X5_isSheet : GoodIn wsX5_weights wsX5_isSheet := goodIn_r _ [11, 12, 13, 14, 10, 15] (by decide +kernel) (by decide +kernel)
set_option maxRecDepth 20000 in
theorem gX5_weights_X5_isSheet : GoodIn wsX5_weights (va_wsS RX5 90 yX5_isSheet wsX5_isSheet) := goodIn_app (goodIn_of _ (by decide +kernel)) ggX5_weights_X5_isSheet
set_option maxRecDepth 20000 in
theorem ggX5_weights_X5_in : GoodIn wsX5_weights wsX5_in := goodIn_r _ [15] (by decide +kernel) (by decide +kernel)
set_option maxRecDepth 20000 in
theorem gX5_weights_X5_in : GoodIn wsX5_weights (va_wsS RX5 76 yX5_in wsX5_in) := goodIn_app (goodIn_of _ (by decide +kernel)) ggX5_weights_X5_in
theorem dX5_weights_0 : decode cX5_weights 0 = .ok (.iload_n 1, 1) := by decide +kernel
theorem dX5_weights_1 : decode cX5_weights 1 = .ok (.iload_n 2, 1) := by decide +kernel
theorem dX5_weights_2 : decode cX5_weights 2 = .ok (.invokestatic 90, 3) := by decide +kernel
theorem dX5_weights_5 : decode cX5_weights 5 = .ok (.ifCond .ne 5, 3) := by decide +kernel
theorem dX5_weights_8 : decode cX5_weights 8 = .ok (.iconst (-1), 1) := by decide +kernel
theorem dX5_weights_9 : decode cX5_weights 9 = .ok (.ireturn, 1) := by decide +kernel
theorem dX5_weights_10 : decode cX5_weights 10 = .ok (.aload_n 0, 1) := by decide +kernel
theorem dX5_weights_11 : decode cX5_weights 11 = .ok (.getfield 20, 3) := by decide +kernel
theorem dX5_weights_14 : decode cX5_weights 14 = .ok (.iload_n 1, 1) := by decide +kernel
theorem dX5_weights_15 : decode cX5_weights 15 = .ok (.iaload, 1) := by decide +kernel
theorem dX5_weights_16 : decode cX5_weights 16 = .ok (.iload_n 2, 1) := by decide +kernel
theorem dX5_weights_17 : decode cX5_weights 17 = .ok (.if_icmp .eq 20, 3) := by decide +kernel
theorem dX5_weights_20 : decode cX5_weights 20 = .ok (.aload_n 0, 1) := by decide +kernel
theorem dX5_weights_21 : decode cX5_weights 21 = .ok (.getfield 20, 3) := by decide +kernel
theorem dX5_weights_24 : decode cX5_weights 24 = .ok (.iload_n 1, 1) := by decide +kernel
theorem dX5_weights_25 : decode cX5_weights 25 = .ok (.iaload, 1) := by decide +kernel
theorem dX5_weights_26 : decode cX5_weights 26 = .ok (.ifCond .ge 8, 3) := by decide +kernel
theorem dX5_weights_29 : decode cX5_weights 29 = .ok (.bipush (-11), 2) := by decide +kernel
theorem dX5_weights_31 : decode cX5_weights 31 = .ok (.goto 5, 3) := by decide +kernel
theorem dX5_weights_34 : decode cX5_weights 34 = .ok (.bipush (-12), 2) := by decide +kernel
theorem dX5_weights_36 : decode cX5_weights 36 = .ok (.ireturn, 1) := by decide +kernel
theorem dX5_weights_37 : decode cX5_weights 37 = .ok (.iload_n 3, 1) := by decide +kernel
theorem dX5_weights_38 : decode cX5_weights 38 = .ok (.i2l, 1) := by decide +kernel
theorem dX5_weights_39 : decode cX5_weights 39 = .ok (.lconst 0, 1) := by decide +kernel
theorem dX5_weights_40 : decode cX5_weights 40 = .ok (.aload_n 0, 1) := by decide +kernel
theorem dX5_weights_41 : decode cX5_weights 41 = .ok (.getfield 23, 3) := by decide +kernel
theorem dX5_weights_44 : decode cX5_weights 44 = .ok (.iload_n 1, 1) := by decide +kernel
theorem dX5_weights_45 : decode cX5_weights 45 = .ok (.iaload, 1) := by decide +kernel
theorem dX5_weights_46 : decode cX5_weights 46 = .ok (.aload_n 0, 1) := by decide +kernel
theorem dX5_weights_47 : decode cX5_weights 47 = .ok (.getfield 7, 3) := by decide +kernel
theorem dX5_weights_50 : decode cX5_weights 50 = .ok (.aload_n 0, 1) := by decide +kernel
theorem dX5_weights_51 : decode cX5_weights 51 = .ok (.getfield 13, 3) := by decide +kernel
theorem dX5_weights_54 : decode cX5_weights 54 = .ok (.imul, 1) := by decide +kernel
theorem dX5_weights_55 : decode cX5_weights 55 = .ok (.isub, 1) := by decide +kernel
theorem dX5_weights_56 : decode cX5_weights 56 = .ok (.i2l, 1) := by decide +kernel
theorem dX5_weights_57 : decode cX5_weights 57 = .ok (.invokestatic 76, 3) := by decide +kernel
theorem dX5_weights_60 : decode cX5_weights 60 = .ok (.ifCond .ne 6, 3) := by decide +kernel
theorem dX5_weights_63 : decode cX5_weights 63 = .ok (.bipush (-13), 2) := by decide +kernel
theorem dX5_weights_65 : decode cX5_weights 65 = .ok (.ireturn, 1) := by decide +kernel
theorem dX5_weights_66 : decode cX5_weights 66 = .ok (.iconst 0, 1) := by decide +kernel
theorem dX5_weights_67 : decode cX5_weights 67 = .ok (.istore 4, 2) := by decide +kernel
theorem dX5_weights_69 : decode cX5_weights 69 = .ok (.bipush 36, 2) := by decide +kernel
theorem dX5_weights_71 : decode cX5_weights 71 = .ok (.iload_n 1, 1) := by decide +kernel
theorem dX5_weights_72 : decode cX5_weights 72 = .ok (.imul, 1) := by decide +kernel
theorem dX5_weights_73 : decode cX5_weights 73 = .ok (.iload_n 3, 1) := by decide +kernel
theorem dX5_weights_74 : decode cX5_weights 74 = .ok (.iadd, 1) := by decide +kernel
theorem dX5_weights_75 : decode cX5_weights 75 = .ok (.istore 5, 2) := by decide +kernel
theorem dX5_weights_77 : decode cX5_weights 77 = .ok (.iconst 0, 1) := by decide +kernel
theorem dX5_weights_78 : decode cX5_weights 78 = .ok (.istore 6, 2) := by decide +kernel
theorem dX5_weights_80 : decode cX5_weights 80 = .ok (.iload 6, 2) := by decide +kernel
theorem dX5_weights_82 : decode cX5_weights 82 = .ok (.aload_n 0, 1) := by decide +kernel
theorem dX5_weights_83 : decode cX5_weights 83 = .ok (.getfield 7, 3) := by decide +kernel
theorem dX5_weights_86 : decode cX5_weights 86 = .ok (.aload_n 0, 1) := by decide +kernel
theorem dX5_weights_87 : decode cX5_weights 87 = .ok (.getfield 13, 3) := by decide +kernel
theorem dX5_weights_90 : decode cX5_weights 90 = .ok (.imul, 1) := by decide +kernel
theorem dX5_weights_91 : decode cX5_weights 91 = .ok (.if_icmp .ge 48, 3) := by decide +kernel
theorem dX5_weights_94 : decode cX5_weights 94 = .ok (.aload_n 0, 1) := by decide +kernel
theorem dX5_weights_95 : decode cX5_weights 95 = .ok (.getfield 26, 3) := by decide +kernel
theorem dX5_weights_98 : decode cX5_weights 98 = .ok (.iload 5, 2) := by decide +kernel
theorem dX5_weights_100 : decode cX5_weights 100 = .ok (.iload 6, 2) := by decide +kernel
theorem dX5_weights_102 : decode cX5_weights 102 = .ok (.iadd, 1) := by decide +kernel
theorem dX5_weights_103 : decode cX5_weights 103 = .ok (.iaload, 1) := by decide +kernel
theorem dX5_weights_104 : decode cX5_weights 104 = .ok (.i2l, 1) := by decide +kernel
theorem dX5_weights_105 : decode cX5_weights 105 = .ok (.lconst 0, 1) := by decide +kernel
theorem dX5_weights_106 : decode cX5_weights 106 = .ok (.ldc2_w 86, 3) := by decide +kernel
theorem dX5_weights_109 : decode cX5_weights 109 = .ok (.invokestatic 76, 3) := by decide +kernel
theorem dX5_weights_112 : decode cX5_weights 112 = .ok (.ifCond .ne 6, 3) := by decide +kernel
theorem dX5_weights_115 : decode cX5_weights 115 = .ok (.bipush (-2), 2) := by decide +kernel
theorem dX5_weights_117 : decode cX5_weights 117 = .ok (.ireturn, 1) := by decide +kernel
theorem dX5_weights_118 : decode cX5_weights 118 = .ok (.iload 4, 2) := by decide +kernel
theorem dX5_weights_120 : decode cX5_weights 120 = .ok (.aload_n 0, 1) := by decide +kernel
theorem dX5_weights_121 : decode cX5_weights 121 = .ok (.getfield 26, 3) := by decide +kernel
theorem dX5_weights_124 : decode cX5_weights 124 = .ok (.iload 5, 2) := by decide +kernel
theorem dX5_weights_126 : decode cX5_weights 126 = .ok (.iload 6, 2) := by decide +kernel
theorem dX5_weights_128 : decode cX5_weights 128 = .ok (.iadd, 1) := by decide +kernel
theorem dX5_weights_129 : decode cX5_weights 129 = .ok (.iaload, 1) := by decide +kernel
theorem dX5_weights_130 : decode cX5_weights 130 = .ok (.iadd, 1) := by decide +kernel
theorem dX5_weights_131 : decode cX5_weights 131 = .ok (.istore 4, 2) := by decide +kernel
theorem dX5_weights_133 : decode cX5_weights 133 = .ok (.iinc 6 1, 3) := by decide +kernel
theorem dX5_weights_136 : decode cX5_weights 136 = .ok (.goto (-56), 3) := by decide +kernel
theorem dX5_weights_139 : decode cX5_weights 139 = .ok (.iconst 0, 1) := by decide +kernel
theorem dX5_weights_140 : decode cX5_weights 140 = .ok (.istore 6, 2) := by decide +kernel
theorem dX5_weights_142 : decode cX5_weights 142 = .ok (.iload 6, 2) := by decide +kernel
theorem dX5_weights_144 : decode cX5_weights 144 = .ok (.aload_n 0, 1) := by decide +kernel
theorem dX5_weights_145 : decode cX5_weights 145 = .ok (.getfield 7, 3) := by decide +kernel
theorem dX5_weights_148 : decode cX5_weights 148 = .ok (.aload_n 0, 1) := by decide +kernel
theorem dX5_weights_149 : decode cX5_weights 149 = .ok (.getfield 13, 3) := by decide +kernel
theorem dX5_weights_152 : decode cX5_weights 152 = .ok (.imul, 1) := by decide +kernel
theorem dX5_weights_153 : decode cX5_weights 153 = .ok (.if_icmp .ge 42, 3) := by decide +kernel
theorem dX5_weights_156 : decode cX5_weights 156 = .ok (.aload_n 0, 1) := by decide +kernel
theorem dX5_weights_157 : decode cX5_weights 157 = .ok (.getfield 16, 3) := by decide +kernel
theorem dX5_weights_160 : decode cX5_weights 160 = .ok (.bipush 6, 2) := by decide +kernel
theorem dX5_weights_162 : decode cX5_weights 162 = .ok (.iload 6, 2) := by decide +kernel
theorem dX5_weights_164 : decode cX5_weights 164 = .ok (.aload_n 0, 1) := by decide +kernel
theorem dX5_weights_165 : decode cX5_weights 165 = .ok (.getfield 13, 3) := by decide +kernel
theorem dX5_weights_168 : decode cX5_weights 168 = .ok (.idiv, 1) := by decide +kernel
theorem dX5_weights_169 : decode cX5_weights 169 = .ok (.imul, 1) := by decide +kernel
theorem dX5_weights_170 : decode cX5_weights 170 = .ok (.iload 6, 2) := by decide +kernel
theorem dX5_weights_172 : decode cX5_weights 172 = .ok (.aload_n 0, 1) := by decide +kernel
theorem dX5_weights_173 : decode cX5_weights 173 = .ok (.getfield 13, 3) := by decide +kernel
theorem dX5_weights_176 : decode cX5_weights 176 = .ok (.irem, 1) := by decide +kernel
theorem dX5_weights_177 : decode cX5_weights 177 = .ok (.iadd, 1) := by decide +kernel
theorem dX5_weights_178 : decode cX5_weights 178 = .ok (.aload_n 0, 1) := by decide +kernel
theorem dX5_weights_179 : decode cX5_weights 179 = .ok (.getfield 26, 3) := by decide +kernel
theorem dX5_weights_182 : decode cX5_weights 182 = .ok (.iload 5, 2) := by decide +kernel
theorem dX5_weights_184 : decode cX5_weights 184 = .ok (.iload 6, 2) := by decide +kernel
theorem dX5_weights_186 : decode cX5_weights 186 = .ok (.iadd, 1) := by decide +kernel
theorem dX5_weights_187 : decode cX5_weights 187 = .ok (.iaload, 1) := by decide +kernel
theorem dX5_weights_188 : decode cX5_weights 188 = .ok (.iastore, 1) := by decide +kernel
theorem dX5_weights_189 : decode cX5_weights 189 = .ok (.iinc 6 1, 3) := by decide +kernel
theorem dX5_weights_192 : decode cX5_weights 192 = .ok (.goto (-50), 3) := by decide +kernel
theorem dX5_weights_195 : decode cX5_weights 195 = .ok (.iload 4, 2) := by decide +kernel
theorem dX5_weights_197 : decode cX5_weights 197 = .ok (.ireturn, 1) := by decide +kernel
theorem dX5_turn_0 : decode cX5_turn 0 = .ok (.iconst 0, 1) := by decide +kernel
theorem dX5_turn_1 : decode cX5_turn 1 = .ok (.istore_n 1, 1) := by decide +kernel
theorem dX5_turn_2 : decode cX5_turn 2 = .ok (.iload_n 1, 1) := by decide +kernel
theorem dX5_turn_3 : decode cX5_turn 3 = .ok (.bipush 6, 2) := by decide +kernel
theorem dX5_turn_5 : decode cX5_turn 5 = .ok (.if_icmp .ge 68, 3) := by decide +kernel
theorem dX5_turn_8 : decode cX5_turn 8 = .ok (.iconst 0, 1) := by decide +kernel
theorem dX5_turn_9 : decode cX5_turn 9 = .ok (.istore_n 2, 1) := by decide +kernel
theorem dX5_turn_10 : decode cX5_turn 10 = .ok (.iload_n 2, 1) := by decide +kernel
theorem dX5_turn_11 : decode cX5_turn 11 = .ok (.iload_n 1, 1) := by decide +kernel
theorem dX5_turn_12 : decode cX5_turn 12 = .ok (.if_icmp .ge 55, 3) := by decide +kernel
theorem dX5_turn_15 : decode cX5_turn 15 = .ok (.aload_n 0, 1) := by decide +kernel
theorem dX5_turn_16 : decode cX5_turn 16 = .ok (.getfield 16, 3) := by decide +kernel
theorem dX5_turn_19 : decode cX5_turn 19 = .ok (.bipush 6, 2) := by decide +kernel
theorem dX5_turn_21 : decode cX5_turn 21 = .ok (.iload_n 1, 1) := by decide +kernel
theorem dX5_turn_22 : decode cX5_turn 22 = .ok (.imul, 1) := by decide +kernel
theorem dX5_turn_23 : decode cX5_turn 23 = .ok (.iload_n 2, 1) := by decide +kernel
theorem dX5_turn_24 : decode cX5_turn 24 = .ok (.iadd, 1) := by decide +kernel
theorem dX5_turn_25 : decode cX5_turn 25 = .ok (.iaload, 1) := by decide +kernel
theorem dX5_turn_26 : decode cX5_turn 26 = .ok (.istore_n 3, 1) := by decide +kernel
theorem dX5_turn_27 : decode cX5_turn 27 = .ok (.aload_n 0, 1) := by decide +kernel
theorem dX5_turn_28 : decode cX5_turn 28 = .ok (.getfield 16, 3) := by decide +kernel
theorem dX5_turn_31 : decode cX5_turn 31 = .ok (.bipush 6, 2) := by decide +kernel
theorem dX5_turn_33 : decode cX5_turn 33 = .ok (.iload_n 1, 1) := by decide +kernel
theorem dX5_turn_34 : decode cX5_turn 34 = .ok (.imul, 1) := by decide +kernel
theorem dX5_turn_35 : decode cX5_turn 35 = .ok (.iload_n 2, 1) := by decide +kernel
theorem dX5_turn_36 : decode cX5_turn 36 = .ok (.iadd, 1) := by decide +kernel
theorem dX5_turn_37 : decode cX5_turn 37 = .ok (.aload_n 0, 1) := by decide +kernel
theorem dX5_turn_38 : decode cX5_turn 38 = .ok (.getfield 16, 3) := by decide +kernel
theorem dX5_turn_41 : decode cX5_turn 41 = .ok (.bipush 6, 2) := by decide +kernel
theorem dX5_turn_43 : decode cX5_turn 43 = .ok (.iload_n 2, 1) := by decide +kernel
theorem dX5_turn_44 : decode cX5_turn 44 = .ok (.imul, 1) := by decide +kernel
theorem dX5_turn_45 : decode cX5_turn 45 = .ok (.iload_n 1, 1) := by decide +kernel
theorem dX5_turn_46 : decode cX5_turn 46 = .ok (.iadd, 1) := by decide +kernel
theorem dX5_turn_47 : decode cX5_turn 47 = .ok (.iaload, 1) := by decide +kernel
theorem dX5_turn_48 : decode cX5_turn 48 = .ok (.iastore, 1) := by decide +kernel
theorem dX5_turn_49 : decode cX5_turn 49 = .ok (.aload_n 0, 1) := by decide +kernel
theorem dX5_turn_50 : decode cX5_turn 50 = .ok (.getfield 16, 3) := by decide +kernel
theorem dX5_turn_53 : decode cX5_turn 53 = .ok (.bipush 6, 2) := by decide +kernel
theorem dX5_turn_55 : decode cX5_turn 55 = .ok (.iload_n 2, 1) := by decide +kernel
theorem dX5_turn_56 : decode cX5_turn 56 = .ok (.imul, 1) := by decide +kernel
theorem dX5_turn_57 : decode cX5_turn 57 = .ok (.iload_n 1, 1) := by decide +kernel
theorem dX5_turn_58 : decode cX5_turn 58 = .ok (.iadd, 1) := by decide +kernel
theorem dX5_turn_59 : decode cX5_turn 59 = .ok (.iload_n 3, 1) := by decide +kernel
theorem dX5_turn_60 : decode cX5_turn 60 = .ok (.iastore, 1) := by decide +kernel
theorem dX5_turn_61 : decode cX5_turn 61 = .ok (.iinc 2 1, 3) := by decide +kernel
theorem dX5_turn_64 : decode cX5_turn 64 = .ok (.goto (-54), 3) := by decide +kernel
theorem dX5_turn_67 : decode cX5_turn 67 = .ok (.iinc 1 1, 3) := by decide +kernel
theorem dX5_turn_70 : decode cX5_turn 70 = .ok (.goto (-68), 3) := by decide +kernel
theorem dX5_turn_73 : decode cX5_turn 73 = .ok (.aload_n 0, 1) := by decide +kernel
theorem dX5_turn_74 : decode cX5_turn 74 = .ok (.getfield 7, 3) := by decide +kernel
theorem dX5_turn_77 : decode cX5_turn 77 = .ok (.istore_n 1, 1) := by decide +kernel
theorem dX5_turn_78 : decode cX5_turn 78 = .ok (.aload_n 0, 1) := by decide +kernel
theorem dX5_turn_79 : decode cX5_turn 79 = .ok (.aload_n 0, 1) := by decide +kernel
theorem dX5_turn_80 : decode cX5_turn 80 = .ok (.getfield 13, 3) := by decide +kernel
theorem dX5_turn_83 : decode cX5_turn 83 = .ok (.putfield 7, 3) := by decide +kernel
theorem dX5_turn_86 : decode cX5_turn 86 = .ok (.aload_n 0, 1) := by decide +kernel
theorem dX5_turn_87 : decode cX5_turn 87 = .ok (.iload_n 1, 1) := by decide +kernel
theorem dX5_turn_88 : decode cX5_turn 88 = .ok (.putfield 13, 3) := by decide +kernel
theorem dX5_turn_91 : decode cX5_turn 91 = .ok (.iconst 1, 1) := by decide +kernel
theorem dX5_turn_92 : decode cX5_turn 92 = .ok (.ireturn, 1) := by decide +kernel
set_option maxRecDepth 20000 in
theorem ggX5_findBest_X5_greater : GoodIn wsX5_findBest wsX5_greater := goodIn_r _ [8] (by decide +kernel) (by decide +kernel)
set_option maxRecDepth 20000 in
theorem gX5_findBest_X5_greater : GoodIn wsX5_findBest (va_wsS RX5 93 yX5_greater wsX5_greater) := goodIn_app (goodIn_of _ (by decide +kernel)) ggX5_findBest_X5_greater
theorem dX5_findBest_0 : decode cX5_findBest 0 = .ok (.iload_n 1, 1) := by decide +kernel
theorem dX5_findBest_1 : decode cX5_findBest 1 = .ok (.istore_n 3, 1) := by decide +kernel
theorem dX5_findBest_2 : decode cX5_findBest 2 = .ok (.iload_n 3, 1) := by decide +kernel
theorem dX5_findBest_3 : decode cX5_findBest 3 = .ok (.aload_n 0, 1) := by decide +kernel
theorem dX5_findBest_4 : decode cX5_findBest 4 = .ok (.getfield 7, 3) := by decide +kernel
theorem dX5_findBest_7 : decode cX5_findBest 7 = .ok (.if_icmp .ge 110, 3) := by decide +kernel
theorem dX5_findBest_10 : decode cX5_findBest 10 = .ok (.iload_n 2, 1) := by decide +kernel
theorem dX5_findBest_11 : decode cX5_findBest 11 = .ok (.istore 4, 2) := by decide +kernel
theorem dX5_findBest_13 : decode cX5_findBest 13 = .ok (.iload 4, 2) := by decide +kernel
theorem dX5_findBest_15 : decode cX5_findBest 15 = .ok (.aload_n 0, 1) := by decide +kernel
theorem dX5_findBest_16 : decode cX5_findBest 16 = .ok (.getfield 13, 3) := by decide +kernel
theorem dX5_findBest_19 : decode cX5_findBest 19 = .ok (.if_icmp .ge 92, 3) := by decide +kernel
theorem dX5_findBest_22 : decode cX5_findBest 22 = .ok (.iload_n 3, 1) := by decide +kernel
theorem dX5_findBest_23 : decode cX5_findBest 23 = .ok (.iload_n 1, 1) := by decide +kernel
theorem dX5_findBest_24 : decode cX5_findBest 24 = .ok (.if_icmp .le 20, 3) := by decide +kernel
theorem dX5_findBest_27 : decode cX5_findBest 27 = .ok (.aload_n 0, 1) := by decide +kernel
theorem dX5_findBest_28 : decode cX5_findBest 28 = .ok (.getfield 29, 3) := by decide +kernel
theorem dX5_findBest_31 : decode cX5_findBest 31 = .ok (.bipush 6, 2) := by decide +kernel
theorem dX5_findBest_33 : decode cX5_findBest 33 = .ok (.iload_n 3, 1) := by decide +kernel
theorem dX5_findBest_34 : decode cX5_findBest 34 = .ok (.iconst 1, 1) := by decide +kernel
theorem dX5_findBest_35 : decode cX5_findBest 35 = .ok (.isub, 1) := by decide +kernel
theorem dX5_findBest_36 : decode cX5_findBest 36 = .ok (.imul, 1) := by decide +kernel
theorem dX5_findBest_37 : decode cX5_findBest 37 = .ok (.iload 4, 2) := by decide +kernel
theorem dX5_findBest_39 : decode cX5_findBest 39 = .ok (.iadd, 1) := by decide +kernel
theorem dX5_findBest_40 : decode cX5_findBest 40 = .ok (.iaload, 1) := by decide +kernel
theorem dX5_findBest_41 : decode cX5_findBest 41 = .ok (.goto 4, 3) := by decide +kernel
theorem dX5_findBest_44 : decode cX5_findBest 44 = .ok (.iconst 0, 1) := by decide +kernel
theorem dX5_findBest_45 : decode cX5_findBest 45 = .ok (.istore 5, 2) := by decide +kernel
theorem dX5_findBest_47 : decode cX5_findBest 47 = .ok (.iload 4, 2) := by decide +kernel
theorem dX5_findBest_49 : decode cX5_findBest 49 = .ok (.iload_n 2, 1) := by decide +kernel
theorem dX5_findBest_50 : decode cX5_findBest 50 = .ok (.if_icmp .le 20, 3) := by decide +kernel
theorem dX5_findBest_53 : decode cX5_findBest 53 = .ok (.aload_n 0, 1) := by decide +kernel
theorem dX5_findBest_54 : decode cX5_findBest 54 = .ok (.getfield 29, 3) := by decide +kernel
theorem dX5_findBest_57 : decode cX5_findBest 57 = .ok (.bipush 6, 2) := by decide +kernel
theorem dX5_findBest_59 : decode cX5_findBest 59 = .ok (.iload_n 3, 1) := by decide +kernel
theorem dX5_findBest_60 : decode cX5_findBest 60 = .ok (.imul, 1) := by decide +kernel
theorem dX5_findBest_61 : decode cX5_findBest 61 = .ok (.iload 4, 2) := by decide +kernel
theorem dX5_findBest_63 : decode cX5_findBest 63 = .ok (.iadd, 1) := by decide +kernel
theorem dX5_findBest_64 : decode cX5_findBest 64 = .ok (.iconst 1, 1) := by decide +kernel
theorem dX5_findBest_65 : decode cX5_findBest 65 = .ok (.isub, 1) := by decide +kernel
theorem dX5_findBest_66 : decode cX5_findBest 66 = .ok (.iaload, 1) := by decide +kernel
theorem dX5_findBest_67 : decode cX5_findBest 67 = .ok (.goto 4, 3) := by decide +kernel
theorem dX5_findBest_70 : decode cX5_findBest 70 = .ok (.iconst 0, 1) := by decide +kernel
theorem dX5_findBest_71 : decode cX5_findBest 71 = .ok (.istore 6, 2) := by decide +kernel
theorem dX5_findBest_73 : decode cX5_findBest 73 = .ok (.aload_n 0, 1) := by decide +kernel
theorem dX5_findBest_74 : decode cX5_findBest 74 = .ok (.getfield 29, 3) := by decide +kernel
theorem dX5_findBest_77 : decode cX5_findBest 77 = .ok (.bipush 6, 2) := by decide +kernel
theorem dX5_findBest_79 : decode cX5_findBest 79 = .ok (.iload_n 3, 1) := by decide +kernel
theorem dX5_findBest_80 : decode cX5_findBest 80 = .ok (.imul, 1) := by decide +kernel
theorem dX5_findBest_81 : decode cX5_findBest 81 = .ok (.iload 4, 2) := by decide +kernel
theorem dX5_findBest_83 : decode cX5_findBest 83 = .ok (.iadd, 1) := by decide +kernel
theorem dX5_findBest_84 : decode cX5_findBest 84 = .ok (.iload 5, 2) := by decide +kernel
theorem dX5_findBest_86 : decode cX5_findBest 86 = .ok (.iload 6, 2) := by decide +kernel
theorem dX5_findBest_88 : decode cX5_findBest 88 = .ok (.invokestatic 93, 3) := by decide +kernel
theorem dX5_findBest_91 : decode cX5_findBest 91 = .ok (.aload_n 0, 1) := by decide +kernel
theorem dX5_findBest_92 : decode cX5_findBest 92 = .ok (.getfield 16, 3) := by decide +kernel
theorem dX5_findBest_95 : decode cX5_findBest 95 = .ok (.bipush 6, 2) := by decide +kernel
theorem dX5_findBest_97 : decode cX5_findBest 97 = .ok (.iload_n 3, 1) := by decide +kernel
theorem dX5_findBest_98 : decode cX5_findBest 98 = .ok (.imul, 1) := by decide +kernel
theorem dX5_findBest_99 : decode cX5_findBest 99 = .ok (.iload 4, 2) := by decide +kernel
theorem dX5_findBest_101 : decode cX5_findBest 101 = .ok (.iadd, 1) := by decide +kernel
theorem dX5_findBest_102 : decode cX5_findBest 102 = .ok (.iaload, 1) := by decide +kernel
theorem dX5_findBest_103 : decode cX5_findBest 103 = .ok (.iadd, 1) := by decide +kernel
theorem dX5_findBest_104 : decode cX5_findBest 104 = .ok (.iastore, 1) := by decide +kernel
theorem dX5_findBest_105 : decode cX5_findBest 105 = .ok (.iinc 4 1, 3) := by decide +kernel
theorem dX5_findBest_108 : decode cX5_findBest 108 = .ok (.goto (-95), 3) := by decide +kernel
theorem dX5_findBest_111 : decode cX5_findBest 111 = .ok (.iinc 3 1, 3) := by decide +kernel
theorem dX5_findBest_114 : decode cX5_findBest 114 = .ok (.goto (-112), 3) := by decide +kernel
theorem dX5_findBest_117 : decode cX5_findBest 117 = .ok (.return_, 1) := by decide +kernel
set_option maxRecDepth 20000 in
theorem ggX5_best_X5_isPlace : GoodIn wsX5_best wsX5_isPlace := goodIn_r _ [6, 7, 8, 9, 10, 5, 11, 20, 21, 22, 23, 24, 25, 26, 27, 28, 29, 30, 31, 32, 33, 34, 35, 36, 37, 38, 39, 40, 41] (by decide +kernel) (by decide +kernel)
set_option maxRecDepth 20000 in
theorem gX5_best_X5_isPlace : GoodIn wsX5_best (wsV RX5 82 RX5 yX5_isPlace wsX5_isPlace) := goodIn_app (goodIn_of _ (by decide +kernel)) ggX5_best_X5_isPlace
set_option maxRecDepth 20000 in
theorem ggX5_best_X5_findBest : GoodIn wsX5_best wsX5_findBest := goodIn_r _ [15, 7, 8, 1, 16, 17, 18, 5, 19, 20, 21, 22, 23, 24, 25, 26, 27, 28, 29, 30, 31, 32, 33, 34, 35, 36, 37, 38, 39, 40, 41] (by decide +kernel) (by decide +kernel)
set_option maxRecDepth 20000 in
theorem gX5_best_X5_findBest : GoodIn wsX5_best (wsV RX5 97 RX5 yX5_findBest wsX5_findBest) := goodIn_app (goodIn_of _ (by decide +kernel)) ggX5_best_X5_findBest
theorem dX5_best_0 : decode cX5_best 0 = .ok (.aload_n 0, 1) := by decide +kernel
theorem dX5_best_1 : decode cX5_best 1 = .ok (.iload_n 1, 1) := by decide +kernel
theorem dX5_best_2 : decode cX5_best 2 = .ok (.iload_n 2, 1) := by decide +kernel
theorem dX5_best_3 : decode cX5_best 3 = .ok (.invokevirtual 82, 3) := by decide +kernel
theorem dX5_best_6 : decode cX5_best 6 = .ok (.ifCond .ne 5, 3) := by decide +kernel
theorem dX5_best_9 : decode cX5_best 9 = .ok (.iconst (-1), 1) := by decide +kernel
theorem dX5_best_10 : decode cX5_best 10 = .ok (.ireturn, 1) := by decide +kernel
theorem dX5_best_11 : decode cX5_best 11 = .ok (.aload_n 0, 1) := by decide +kernel
theorem dX5_best_12 : decode cX5_best 12 = .ok (.iconst 0, 1) := by decide +kernel
theorem dX5_best_13 : decode cX5_best 13 = .ok (.iconst 0, 1) := by decide +kernel
theorem dX5_best_14 : decode cX5_best 14 = .ok (.invokevirtual 97, 3) := by decide +kernel
theorem dX5_best_17 : decode cX5_best 17 = .ok (.aload_n 0, 1) := by decide +kernel
theorem dX5_best_18 : decode cX5_best 18 = .ok (.getfield 29, 3) := by decide +kernel
theorem dX5_best_21 : decode cX5_best 21 = .ok (.bipush 6, 2) := by decide +kernel
theorem dX5_best_23 : decode cX5_best 23 = .ok (.iload_n 1, 1) := by decide +kernel
theorem dX5_best_24 : decode cX5_best 24 = .ok (.imul, 1) := by decide +kernel
theorem dX5_best_25 : decode cX5_best 25 = .ok (.iload_n 2, 1) := by decide +kernel
theorem dX5_best_26 : decode cX5_best 26 = .ok (.iadd, 1) := by decide +kernel
theorem dX5_best_27 : decode cX5_best 27 = .ok (.iaload, 1) := by decide +kernel
theorem dX5_best_28 : decode cX5_best 28 = .ok (.ireturn, 1) := by decide +kernel
set_option maxRecDepth 20000 in
theorem ggX5_between_X5_isPlace : GoodIn wsX5_between wsX5_isPlace := goodIn_r _ [6, 7, 8, 9, 10, 5, 11, 20, 21, 22, 23, 24, 25, 26, 27, 28, 29, 30, 31, 32, 33, 34, 35, 36, 37, 38, 39, 40, 41] (by decide +kernel) (by decide +kernel)
set_option maxRecDepth 20000 in
theorem gX5_between_X5_isPlace : GoodIn wsX5_between (wsV RX5 82 RX5 yX5_isPlace wsX5_isPlace) := goodIn_app (goodIn_of _ (by decide +kernel)) ggX5_between_X5_isPlace
set_option maxRecDepth 20000 in
theorem ggX5_between_X5_findBest : GoodIn wsX5_between wsX5_findBest := goodIn_r _ [15, 7, 8, 1, 16, 17, 18, 5, 19, 20, 21, 22, 23, 24, 25, 26, 27, 28, 29, 30, 31, 32, 33, 34, 35, 36, 37, 38, 39, 40, 41] (by decide +kernel) (by decide +kernel)
set_option maxRecDepth 20000 in
theorem gX5_between_X5_findBest : GoodIn wsX5_between (wsV RX5 97 RX5 yX5_findBest wsX5_findBest) := goodIn_app (goodIn_of _ (by decide +kernel)) ggX5_between_X5_findBest
theorem dX5_between_0 : decode cX5_between 0 = .ok (.aload_n 0, 1) := by decide +kernel
theorem dX5_between_1 : decode cX5_between 1 = .ok (.iload_n 1, 1) := by decide +kernel
theorem dX5_between_2 : decode cX5_between 2 = .ok (.iload_n 2, 1) := by decide +kernel
theorem dX5_between_3 : decode cX5_between 3 = .ok (.invokevirtual 82, 3) := by decide +kernel
theorem dX5_between_6 : decode cX5_between 6 = .ok (.ifCond .eq 13, 3) := by decide +kernel
theorem dX5_between_9 : decode cX5_between 9 = .ok (.aload_n 0, 1) := by decide +kernel
theorem dX5_between_10 : decode cX5_between 10 = .ok (.iload_n 3, 1) := by decide +kernel
theorem dX5_between_11 : decode cX5_between 11 = .ok (.iload 4, 2) := by decide +kernel
theorem dX5_between_13 : decode cX5_between 13 = .ok (.invokevirtual 82, 3) := by decide +kernel
theorem dX5_between_16 : decode cX5_between 16 = .ok (.ifCond .ne 5, 3) := by decide +kernel
theorem dX5_between_19 : decode cX5_between 19 = .ok (.iconst (-1), 1) := by decide +kernel
theorem dX5_between_20 : decode cX5_between 20 = .ok (.ireturn, 1) := by decide +kernel
theorem dX5_between_21 : decode cX5_between 21 = .ok (.iload_n 3, 1) := by decide +kernel
theorem dX5_between_22 : decode cX5_between 22 = .ok (.iload_n 1, 1) := by decide +kernel
theorem dX5_between_23 : decode cX5_between 23 = .ok (.if_icmp .lt 9, 3) := by decide +kernel
theorem dX5_between_26 : decode cX5_between 26 = .ok (.iload 4, 2) := by decide +kernel
theorem dX5_between_28 : decode cX5_between 28 = .ok (.iload_n 2, 1) := by decide +kernel
theorem dX5_between_29 : decode cX5_between 29 = .ok (.if_icmp .ge 6, 3) := by decide +kernel
theorem dX5_between_32 : decode cX5_between 32 = .ok (.bipush (-4), 2) := by decide +kernel
theorem dX5_between_34 : decode cX5_between 34 = .ok (.ireturn, 1) := by decide +kernel
theorem dX5_between_35 : decode cX5_between 35 = .ok (.aload_n 0, 1) := by decide +kernel
theorem dX5_between_36 : decode cX5_between 36 = .ok (.iload_n 1, 1) := by decide +kernel
theorem dX5_between_37 : decode cX5_between 37 = .ok (.iload_n 2, 1) := by decide +kernel
theorem dX5_between_38 : decode cX5_between 38 = .ok (.invokevirtual 97, 3) := by decide +kernel
theorem dX5_between_41 : decode cX5_between 41 = .ok (.aload_n 0, 1) := by decide +kernel
theorem dX5_between_42 : decode cX5_between 42 = .ok (.getfield 29, 3) := by decide +kernel
theorem dX5_between_45 : decode cX5_between 45 = .ok (.bipush 6, 2) := by decide +kernel
theorem dX5_between_47 : decode cX5_between 47 = .ok (.iload_n 3, 1) := by decide +kernel
theorem dX5_between_48 : decode cX5_between 48 = .ok (.imul, 1) := by decide +kernel
theorem dX5_between_49 : decode cX5_between 49 = .ok (.iload 4, 2) := by decide +kernel
theorem dX5_between_51 : decode cX5_between 51 = .ok (.iadd, 1) := by decide +kernel
theorem dX5_between_52 : decode cX5_between 52 = .ok (.iaload, 1) := by decide +kernel
theorem dX5_between_53 : decode cX5_between 53 = .ok (.ireturn, 1) := by decide +kernel
set_option maxRecDepth 20000 in
theorem ggX5_findShapes_X5_greater : GoodIn wsX5_findShapes wsX5_greater := goodIn_r _ [8] (by decide +kernel) (by decide +kernel)
set_option maxRecDepth 20000 in
theorem gX5_findShapes_X5_greater : GoodIn wsX5_findShapes (va_wsS RX5 93 yX5_greater wsX5_greater) := goodIn_app (goodIn_of _ (by decide +kernel)) ggX5_findShapes_X5_greater
theorem dX5_findShapes_0 : decode cX5_findShapes 0 = .ok (.iconst 0, 1) := by decide +kernel
theorem dX5_findShapes_1 : decode cX5_findShapes 1 = .ok (.istore_n 1, 1) := by decide +kernel
theorem dX5_findShapes_2 : decode cX5_findShapes 2 = .ok (.iload_n 1, 1) := by decide +kernel
theorem dX5_findShapes_3 : decode cX5_findShapes 3 = .ok (.aload_n 0, 1) := by decide +kernel
theorem dX5_findShapes_4 : decode cX5_findShapes 4 = .ok (.getfield 7, 3) := by decide +kernel
theorem dX5_findShapes_7 : decode cX5_findShapes 7 = .ok (.if_icmp .gt 225, 3) := by decide +kernel
theorem dX5_findShapes_10 : decode cX5_findShapes 10 = .ok (.iconst 0, 1) := by decide +kernel
theorem dX5_findShapes_11 : decode cX5_findShapes 11 = .ok (.istore_n 2, 1) := by decide +kernel
theorem dX5_findShapes_12 : decode cX5_findShapes 12 = .ok (.iload_n 2, 1) := by decide +kernel
theorem dX5_findShapes_13 : decode cX5_findShapes 13 = .ok (.aload_n 0, 1) := by decide +kernel
theorem dX5_findShapes_14 : decode cX5_findShapes 14 = .ok (.getfield 13, 3) := by decide +kernel
theorem dX5_findShapes_17 : decode cX5_findShapes 17 = .ok (.if_icmp .gt 209, 3) := by decide +kernel
theorem dX5_findShapes_20 : decode cX5_findShapes 20 = .ok (.bipush 6, 2) := by decide +kernel
theorem dX5_findShapes_22 : decode cX5_findShapes 22 = .ok (.bipush 7, 2) := by decide +kernel
theorem dX5_findShapes_24 : decode cX5_findShapes 24 = .ok (.iload_n 1, 1) := by decide +kernel
theorem dX5_findShapes_25 : decode cX5_findShapes 25 = .ok (.imul, 1) := by decide +kernel
theorem dX5_findShapes_26 : decode cX5_findShapes 26 = .ok (.iload_n 2, 1) := by decide +kernel
theorem dX5_findShapes_27 : decode cX5_findShapes 27 = .ok (.iadd, 1) := by decide +kernel
theorem dX5_findShapes_28 : decode cX5_findShapes 28 = .ok (.imul, 1) := by decide +kernel
theorem dX5_findShapes_29 : decode cX5_findShapes 29 = .ok (.istore_n 3, 1) := by decide +kernel
theorem dX5_findShapes_30 : decode cX5_findShapes 30 = .ok (.iconst 0, 1) := by decide +kernel
theorem dX5_findShapes_31 : decode cX5_findShapes 31 = .ok (.istore 4, 2) := by decide +kernel
theorem dX5_findShapes_33 : decode cX5_findShapes 33 = .ok (.iload 4, 2) := by decide +kernel
theorem dX5_findShapes_35 : decode cX5_findShapes 35 = .ok (.bipush 6, 2) := by decide +kernel
theorem dX5_findShapes_37 : decode cX5_findShapes 37 = .ok (.if_icmp .ge 183, 3) := by decide +kernel
theorem dX5_findShapes_40 : decode cX5_findShapes 40 = .ok (.iload_n 3, 1) := by decide +kernel
theorem dX5_findShapes_41 : decode cX5_findShapes 41 = .ok (.bipush 42, 2) := by decide +kernel
theorem dX5_findShapes_43 : decode cX5_findShapes 43 = .ok (.isub, 1) := by decide +kernel
theorem dX5_findShapes_44 : decode cX5_findShapes 44 = .ok (.iload 4, 2) := by decide +kernel
theorem dX5_findShapes_46 : decode cX5_findShapes 46 = .ok (.iadd, 1) := by decide +kernel
theorem dX5_findShapes_47 : decode cX5_findShapes 47 = .ok (.istore 5, 2) := by decide +kernel
theorem dX5_findShapes_49 : decode cX5_findShapes 49 = .ok (.iload_n 3, 1) := by decide +kernel
theorem dX5_findShapes_50 : decode cX5_findShapes 50 = .ok (.bipush 6, 2) := by decide +kernel
theorem dX5_findShapes_52 : decode cX5_findShapes 52 = .ok (.isub, 1) := by decide +kernel
theorem dX5_findShapes_53 : decode cX5_findShapes 53 = .ok (.iload 4, 2) := by decide +kernel
theorem dX5_findShapes_55 : decode cX5_findShapes 55 = .ok (.iadd, 1) := by decide +kernel
theorem dX5_findShapes_56 : decode cX5_findShapes 56 = .ok (.istore 6, 2) := by decide +kernel
theorem dX5_findShapes_58 : decode cX5_findShapes 58 = .ok (.iload_n 1, 1) := by decide +kernel
theorem dX5_findShapes_59 : decode cX5_findShapes 59 = .ok (.ifCond .eq 7, 3) := by decide +kernel
theorem dX5_findShapes_62 : decode cX5_findShapes 62 = .ok (.iload_n 2, 1) := by decide +kernel
theorem dX5_findShapes_63 : decode cX5_findShapes 63 = .ok (.ifCond .ne 16, 3) := by decide +kernel
theorem dX5_findShapes_66 : decode cX5_findShapes 66 = .ok (.aload_n 0, 1) := by decide +kernel
theorem dX5_findShapes_67 : decode cX5_findShapes 67 = .ok (.getfield 32, 3) := by decide +kernel
theorem dX5_findShapes_70 : decode cX5_findShapes 70 = .ok (.iload_n 3, 1) := by decide +kernel
theorem dX5_findShapes_71 : decode cX5_findShapes 71 = .ok (.iload 4, 2) := by decide +kernel
theorem dX5_findShapes_73 : decode cX5_findShapes 73 = .ok (.iadd, 1) := by decide +kernel
theorem dX5_findShapes_74 : decode cX5_findShapes 74 = .ok (.iconst 0, 1) := by decide +kernel
theorem dX5_findShapes_75 : decode cX5_findShapes 75 = .ok (.iastore, 1) := by decide +kernel
theorem dX5_findShapes_76 : decode cX5_findShapes 76 = .ok (.goto 138, 3) := by decide +kernel
theorem dX5_findShapes_79 : decode cX5_findShapes 79 = .ok (.iload 4, 2) := by decide +kernel
theorem dX5_findShapes_81 : decode cX5_findShapes 81 = .ok (.ifCond .ne 45, 3) := by decide +kernel
theorem dX5_findShapes_84 : decode cX5_findShapes 84 = .ok (.aload_n 0, 1) := by decide +kernel
theorem dX5_findShapes_85 : decode cX5_findShapes 85 = .ok (.getfield 32, 3) := by decide +kernel
theorem dX5_findShapes_88 : decode cX5_findShapes 88 = .ok (.iload_n 3, 1) := by decide +kernel
theorem dX5_findShapes_89 : decode cX5_findShapes 89 = .ok (.aload_n 0, 1) := by decide +kernel
theorem dX5_findShapes_90 : decode cX5_findShapes 90 = .ok (.getfield 32, 3) := by decide +kernel
theorem dX5_findShapes_93 : decode cX5_findShapes 93 = .ok (.iload 5, 2) := by decide +kernel
theorem dX5_findShapes_95 : decode cX5_findShapes 95 = .ok (.iaload, 1) := by decide +kernel
theorem dX5_findShapes_96 : decode cX5_findShapes 96 = .ok (.aload_n 0, 1) := by decide +kernel
theorem dX5_findShapes_97 : decode cX5_findShapes 97 = .ok (.getfield 32, 3) := by decide +kernel
theorem dX5_findShapes_100 : decode cX5_findShapes 100 = .ok (.iload 6, 2) := by decide +kernel
theorem dX5_findShapes_102 : decode cX5_findShapes 102 = .ok (.iaload, 1) := by decide +kernel
theorem dX5_findShapes_103 : decode cX5_findShapes 103 = .ok (.invokestatic 93, 3) := by decide +kernel
theorem dX5_findShapes_106 : decode cX5_findShapes 106 = .ok (.aload_n 0, 1) := by decide +kernel
theorem dX5_findShapes_107 : decode cX5_findShapes 107 = .ok (.getfield 16, 3) := by decide +kernel
theorem dX5_findShapes_110 : decode cX5_findShapes 110 = .ok (.bipush 6, 2) := by decide +kernel
theorem dX5_findShapes_112 : decode cX5_findShapes 112 = .ok (.iload_n 1, 1) := by decide +kernel
theorem dX5_findShapes_113 : decode cX5_findShapes 113 = .ok (.iconst 1, 1) := by decide +kernel
theorem dX5_findShapes_114 : decode cX5_findShapes 114 = .ok (.isub, 1) := by decide +kernel
theorem dX5_findShapes_115 : decode cX5_findShapes 115 = .ok (.imul, 1) := by decide +kernel
theorem dX5_findShapes_116 : decode cX5_findShapes 116 = .ok (.iload_n 2, 1) := by decide +kernel
theorem dX5_findShapes_117 : decode cX5_findShapes 117 = .ok (.iadd, 1) := by decide +kernel
theorem dX5_findShapes_118 : decode cX5_findShapes 118 = .ok (.iconst 1, 1) := by decide +kernel
theorem dX5_findShapes_119 : decode cX5_findShapes 119 = .ok (.isub, 1) := by decide +kernel
theorem dX5_findShapes_120 : decode cX5_findShapes 120 = .ok (.iaload, 1) := by decide +kernel
theorem dX5_findShapes_121 : decode cX5_findShapes 121 = .ok (.iadd, 1) := by decide +kernel
theorem dX5_findShapes_122 : decode cX5_findShapes 122 = .ok (.iastore, 1) := by decide +kernel
theorem dX5_findShapes_123 : decode cX5_findShapes 123 = .ok (.goto 91, 3) := by decide +kernel
theorem dX5_findShapes_126 : decode cX5_findShapes 126 = .ok (.aload_n 0, 1) := by decide +kernel
theorem dX5_findShapes_127 : decode cX5_findShapes 127 = .ok (.getfield 32, 3) := by decide +kernel
theorem dX5_findShapes_130 : decode cX5_findShapes 130 = .ok (.iload 5, 2) := by decide +kernel
theorem dX5_findShapes_132 : decode cX5_findShapes 132 = .ok (.iconst 1, 1) := by decide +kernel
theorem dX5_findShapes_133 : decode cX5_findShapes 133 = .ok (.isub, 1) := by decide +kernel
theorem dX5_findShapes_134 : decode cX5_findShapes 134 = .ok (.iaload, 1) := by decide +kernel
theorem dX5_findShapes_135 : decode cX5_findShapes 135 = .ok (.aload_n 0, 1) := by decide +kernel
theorem dX5_findShapes_136 : decode cX5_findShapes 136 = .ok (.getfield 32, 3) := by decide +kernel
theorem dX5_findShapes_139 : decode cX5_findShapes 139 = .ok (.iload 6, 2) := by decide +kernel
theorem dX5_findShapes_141 : decode cX5_findShapes 141 = .ok (.iconst 1, 1) := by decide +kernel
theorem dX5_findShapes_142 : decode cX5_findShapes 142 = .ok (.isub, 1) := by decide +kernel
theorem dX5_findShapes_143 : decode cX5_findShapes 143 = .ok (.iaload, 1) := by decide +kernel
theorem dX5_findShapes_144 : decode cX5_findShapes 144 = .ok (.if_icmp .ge 15, 3) := by decide +kernel
theorem dX5_findShapes_147 : decode cX5_findShapes 147 = .ok (.aload_n 0, 1) := by decide +kernel
theorem dX5_findShapes_148 : decode cX5_findShapes 148 = .ok (.getfield 32, 3) := by decide +kernel
theorem dX5_findShapes_151 : decode cX5_findShapes 151 = .ok (.iload 5, 2) := by decide +kernel
theorem dX5_findShapes_153 : decode cX5_findShapes 153 = .ok (.iconst 1, 1) := by decide +kernel
theorem dX5_findShapes_154 : decode cX5_findShapes 154 = .ok (.isub, 1) := by decide +kernel
theorem dX5_findShapes_155 : decode cX5_findShapes 155 = .ok (.iaload, 1) := by decide +kernel
theorem dX5_findShapes_156 : decode cX5_findShapes 156 = .ok (.goto 12, 3) := by decide +kernel
theorem dX5_findShapes_159 : decode cX5_findShapes 159 = .ok (.aload_n 0, 1) := by decide +kernel
theorem dX5_findShapes_160 : decode cX5_findShapes 160 = .ok (.getfield 32, 3) := by decide +kernel
theorem dX5_findShapes_163 : decode cX5_findShapes 163 = .ok (.iload 6, 2) := by decide +kernel
theorem dX5_findShapes_165 : decode cX5_findShapes 165 = .ok (.iconst 1, 1) := by decide +kernel
theorem dX5_findShapes_166 : decode cX5_findShapes 166 = .ok (.isub, 1) := by decide +kernel
theorem dX5_findShapes_167 : decode cX5_findShapes 167 = .ok (.iaload, 1) := by decide +kernel
theorem dX5_findShapes_168 : decode cX5_findShapes 168 = .ok (.istore 7, 2) := by decide +kernel
theorem dX5_findShapes_170 : decode cX5_findShapes 170 = .ok (.aload_n 0, 1) := by decide +kernel
theorem dX5_findShapes_171 : decode cX5_findShapes 171 = .ok (.getfield 32, 3) := by decide +kernel
theorem dX5_findShapes_174 : decode cX5_findShapes 174 = .ok (.iload_n 3, 1) := by decide +kernel
theorem dX5_findShapes_175 : decode cX5_findShapes 175 = .ok (.iload 4, 2) := by decide +kernel
theorem dX5_findShapes_177 : decode cX5_findShapes 177 = .ok (.iadd, 1) := by decide +kernel
theorem dX5_findShapes_178 : decode cX5_findShapes 178 = .ok (.aload_n 0, 1) := by decide +kernel
theorem dX5_findShapes_179 : decode cX5_findShapes 179 = .ok (.getfield 32, 3) := by decide +kernel
theorem dX5_findShapes_182 : decode cX5_findShapes 182 = .ok (.iload 5, 2) := by decide +kernel
theorem dX5_findShapes_184 : decode cX5_findShapes 184 = .ok (.iaload, 1) := by decide +kernel
theorem dX5_findShapes_185 : decode cX5_findShapes 185 = .ok (.aload_n 0, 1) := by decide +kernel
theorem dX5_findShapes_186 : decode cX5_findShapes 186 = .ok (.getfield 32, 3) := by decide +kernel
theorem dX5_findShapes_189 : decode cX5_findShapes 189 = .ok (.iload 6, 2) := by decide +kernel
theorem dX5_findShapes_191 : decode cX5_findShapes 191 = .ok (.iaload, 1) := by decide +kernel
theorem dX5_findShapes_192 : decode cX5_findShapes 192 = .ok (.invokestatic 93, 3) := by decide +kernel
theorem dX5_findShapes_195 : decode cX5_findShapes 195 = .ok (.iload 7, 2) := by decide +kernel
theorem dX5_findShapes_197 : decode cX5_findShapes 197 = .ok (.iadd, 1) := by decide +kernel
theorem dX5_findShapes_198 : decode cX5_findShapes 198 = .ok (.aload_n 0, 1) := by decide +kernel
theorem dX5_findShapes_199 : decode cX5_findShapes 199 = .ok (.getfield 32, 3) := by decide +kernel
theorem dX5_findShapes_202 : decode cX5_findShapes 202 = .ok (.iload_n 3, 1) := by decide +kernel
theorem dX5_findShapes_203 : decode cX5_findShapes 203 = .ok (.bipush 48, 2) := by decide +kernel
theorem dX5_findShapes_205 : decode cX5_findShapes 205 = .ok (.isub, 1) := by decide +kernel
theorem dX5_findShapes_206 : decode cX5_findShapes 206 = .ok (.iload 4, 2) := by decide +kernel
theorem dX5_findShapes_208 : decode cX5_findShapes 208 = .ok (.iadd, 1) := by decide +kernel
theorem dX5_findShapes_209 : decode cX5_findShapes 209 = .ok (.iconst 1, 1) := by decide +kernel
theorem dX5_findShapes_210 : decode cX5_findShapes 210 = .ok (.isub, 1) := by decide +kernel
theorem dX5_findShapes_211 : decode cX5_findShapes 211 = .ok (.iaload, 1) := by decide +kernel
theorem dX5_findShapes_212 : decode cX5_findShapes 212 = .ok (.isub, 1) := by decide +kernel
theorem dX5_findShapes_213 : decode cX5_findShapes 213 = .ok (.iastore, 1) := by decide +kernel
theorem dX5_findShapes_214 : decode cX5_findShapes 214 = .ok (.iinc 4 1, 3) := by decide +kernel
theorem dX5_findShapes_217 : decode cX5_findShapes 217 = .ok (.goto (-184), 3) := by decide +kernel
theorem dX5_findShapes_220 : decode cX5_findShapes 220 = .ok (.iinc 2 1, 3) := by decide +kernel
theorem dX5_findShapes_223 : decode cX5_findShapes 223 = .ok (.goto (-211), 3) := by decide +kernel
theorem dX5_findShapes_226 : decode cX5_findShapes 226 = .ok (.iinc 1 1, 3) := by decide +kernel
theorem dX5_findShapes_229 : decode cX5_findShapes 229 = .ok (.goto (-227), 3) := by decide +kernel
theorem dX5_findShapes_232 : decode cX5_findShapes 232 = .ok (.return_, 1) := by decide +kernel
set_option maxRecDepth 20000 in
theorem ggX5_shape_X5_in : GoodIn wsX5_shape wsX5_in := goodIn_r _ [8] (by decide +kernel) (by decide +kernel)
set_option maxRecDepth 20000 in
theorem gX5_shape_X5_in : GoodIn wsX5_shape (va_wsS RX5 76 yX5_in wsX5_in) := goodIn_app (goodIn_of _ (by decide +kernel)) ggX5_shape_X5_in
set_option maxRecDepth 20000 in
theorem ggX5_shape_X5_findShapes : GoodIn wsX5_shape wsX5_findShapes := goodIn_r _ [12, 1, 2, 4, 13, 14, 15, 7, 16, 17, 18, 19, 20, 21, 22, 23, 24, 25, 26, 27, 28, 29, 30, 31, 32, 33, 34, 35, 36, 37, 38] (by decide +kernel) (by decide +kernel)
set_option maxRecDepth 20000 in
theorem gX5_shape_X5_findShapes : GoodIn wsX5_shape (wsV RX5 103 RX5 yX5_findShapes wsX5_findShapes) := goodIn_app (goodIn_of _ (by decide +kernel)) ggX5_shape_X5_findShapes
theorem dX5_shape_0 : decode cX5_shape 0 = .ok (.iload_n 1, 1) := by decide +kernel
theorem dX5_shape_1 : decode cX5_shape 1 = .ok (.i2l, 1) := by decide +kernel
theorem dX5_shape_2 : decode cX5_shape 2 = .ok (.lconst 0, 1) := by decide +kernel
theorem dX5_shape_3 : decode cX5_shape 3 = .ok (.aload_n 0, 1) := by decide +kernel
theorem dX5_shape_4 : decode cX5_shape 4 = .ok (.getfield 7, 3) := by decide +kernel
theorem dX5_shape_7 : decode cX5_shape 7 = .ok (.i2l, 1) := by decide +kernel
theorem dX5_shape_8 : decode cX5_shape 8 = .ok (.invokestatic 76, 3) := by decide +kernel
theorem dX5_shape_11 : decode cX5_shape 11 = .ok (.ifCond .eq 29, 3) := by decide +kernel
theorem dX5_shape_14 : decode cX5_shape 14 = .ok (.iload_n 2, 1) := by decide +kernel
theorem dX5_shape_15 : decode cX5_shape 15 = .ok (.i2l, 1) := by decide +kernel
theorem dX5_shape_16 : decode cX5_shape 16 = .ok (.lconst 0, 1) := by decide +kernel
theorem dX5_shape_17 : decode cX5_shape 17 = .ok (.aload_n 0, 1) := by decide +kernel
theorem dX5_shape_18 : decode cX5_shape 18 = .ok (.getfield 13, 3) := by decide +kernel
theorem dX5_shape_21 : decode cX5_shape 21 = .ok (.i2l, 1) := by decide +kernel
theorem dX5_shape_22 : decode cX5_shape 22 = .ok (.invokestatic 76, 3) := by decide +kernel
theorem dX5_shape_25 : decode cX5_shape 25 = .ok (.ifCond .eq 15, 3) := by decide +kernel
theorem dX5_shape_28 : decode cX5_shape 28 = .ok (.iload_n 3, 1) := by decide +kernel
theorem dX5_shape_29 : decode cX5_shape 29 = .ok (.i2l, 1) := by decide +kernel
theorem dX5_shape_30 : decode cX5_shape 30 = .ok (.lconst 0, 1) := by decide +kernel
theorem dX5_shape_31 : decode cX5_shape 31 = .ok (.ldc2_w 101, 3) := by decide +kernel
theorem dX5_shape_34 : decode cX5_shape 34 = .ok (.invokestatic 76, 3) := by decide +kernel
theorem dX5_shape_37 : decode cX5_shape 37 = .ok (.ifCond .ne 5, 3) := by decide +kernel
theorem dX5_shape_40 : decode cX5_shape 40 = .ok (.iconst (-1), 1) := by decide +kernel
theorem dX5_shape_41 : decode cX5_shape 41 = .ok (.ireturn, 1) := by decide +kernel
theorem dX5_shape_42 : decode cX5_shape 42 = .ok (.aload_n 0, 1) := by decide +kernel
theorem dX5_shape_43 : decode cX5_shape 43 = .ok (.invokevirtual 103, 3) := by decide +kernel
theorem dX5_shape_46 : decode cX5_shape 46 = .ok (.aload_n 0, 1) := by decide +kernel
theorem dX5_shape_47 : decode cX5_shape 47 = .ok (.getfield 32, 3) := by decide +kernel
theorem dX5_shape_50 : decode cX5_shape 50 = .ok (.bipush 6, 2) := by decide +kernel
theorem dX5_shape_52 : decode cX5_shape 52 = .ok (.bipush 7, 2) := by decide +kernel
theorem dX5_shape_54 : decode cX5_shape 54 = .ok (.iload_n 1, 1) := by decide +kernel
theorem dX5_shape_55 : decode cX5_shape 55 = .ok (.imul, 1) := by decide +kernel
theorem dX5_shape_56 : decode cX5_shape 56 = .ok (.iload_n 2, 1) := by decide +kernel
theorem dX5_shape_57 : decode cX5_shape 57 = .ok (.iadd, 1) := by decide +kernel
theorem dX5_shape_58 : decode cX5_shape 58 = .ok (.imul, 1) := by decide +kernel
theorem dX5_shape_59 : decode cX5_shape 59 = .ok (.iload_n 3, 1) := by decide +kernel
theorem dX5_shape_60 : decode cX5_shape 60 = .ok (.iadd, 1) := by decide +kernel
theorem dX5_shape_61 : decode cX5_shape 61 = .ok (.iaload, 1) := by decide +kernel
theorem dX5_shape_62 : decode cX5_shape 62 = .ok (.ireturn, 1) := by decide +kernel
set_option maxRecDepth 20000 in
theorem ggX5_ways_X5_in : GoodIn wsX5_ways wsX5_in := goodIn_r _ [8] (by decide +kernel) (by decide +kernel)
set_option maxRecDepth 20000 in
theorem gX5_ways_X5_in : GoodIn wsX5_ways (va_wsS RX5 76 yX5_in wsX5_in) := goodIn_app (goodIn_of _ (by decide +kernel)) ggX5_ways_X5_in
set_option maxRecDepth 20000 in
theorem ggX5_ways_X5_findShapes : GoodIn wsX5_ways wsX5_findShapes := goodIn_r _ [12, 3, 4, 2, 13, 14, 15, 7, 16, 17, 18, 19, 20, 21, 22, 23, 24, 25, 26, 27, 28, 29, 30, 31, 32, 33, 34, 35, 36, 37, 38] (by decide +kernel) (by decide +kernel)
set_option maxRecDepth 20000 in
theorem gX5_ways_X5_findShapes : GoodIn wsX5_ways (wsV RX5 103 RX5 yX5_findShapes wsX5_findShapes) := goodIn_app (goodIn_of _ (by decide +kernel)) ggX5_ways_X5_findShapes
theorem dX5_ways_0 : decode cX5_ways 0 = .ok (.iload_n 1, 1) := by decide +kernel
theorem dX5_ways_1 : decode cX5_ways 1 = .ok (.i2l, 1) := by decide +kernel
theorem dX5_ways_2 : decode cX5_ways 2 = .ok (.lconst 1, 1) := by decide +kernel
theorem dX5_ways_3 : decode cX5_ways 3 = .ok (.ldc2_w 80, 3) := by decide +kernel
theorem dX5_ways_6 : decode cX5_ways 6 = .ok (.invokestatic 76, 3) := by decide +kernel
theorem dX5_ways_9 : decode cX5_ways 9 = .ok (.ifCond .ne 5, 3) := by decide +kernel
theorem dX5_ways_12 : decode cX5_ways 12 = .ok (.iconst (-1), 1) := by decide +kernel
theorem dX5_ways_13 : decode cX5_ways 13 = .ok (.ireturn, 1) := by decide +kernel
theorem dX5_ways_14 : decode cX5_ways 14 = .ok (.aload_n 0, 1) := by decide +kernel
theorem dX5_ways_15 : decode cX5_ways 15 = .ok (.invokevirtual 103, 3) := by decide +kernel
theorem dX5_ways_18 : decode cX5_ways 18 = .ok (.iconst 0, 1) := by decide +kernel
theorem dX5_ways_19 : decode cX5_ways 19 = .ok (.istore_n 2, 1) := by decide +kernel
theorem dX5_ways_20 : decode cX5_ways 20 = .ok (.iconst 0, 1) := by decide +kernel
theorem dX5_ways_21 : decode cX5_ways 21 = .ok (.istore_n 3, 1) := by decide +kernel
theorem dX5_ways_22 : decode cX5_ways 22 = .ok (.iload_n 3, 1) := by decide +kernel
theorem dX5_ways_23 : decode cX5_ways 23 = .ok (.iload_n 1, 1) := by decide +kernel
theorem dX5_ways_24 : decode cX5_ways 24 = .ok (.if_icmp .ge 34, 3) := by decide +kernel
theorem dX5_ways_27 : decode cX5_ways 27 = .ok (.iload_n 2, 1) := by decide +kernel
theorem dX5_ways_28 : decode cX5_ways 28 = .ok (.aload_n 0, 1) := by decide +kernel
theorem dX5_ways_29 : decode cX5_ways 29 = .ok (.getfield 32, 3) := by decide +kernel
theorem dX5_ways_32 : decode cX5_ways 32 = .ok (.bipush 6, 2) := by decide +kernel
theorem dX5_ways_34 : decode cX5_ways 34 = .ok (.bipush 7, 2) := by decide +kernel
theorem dX5_ways_36 : decode cX5_ways 36 = .ok (.aload_n 0, 1) := by decide +kernel
theorem dX5_ways_37 : decode cX5_ways 37 = .ok (.getfield 7, 3) := by decide +kernel
theorem dX5_ways_40 : decode cX5_ways 40 = .ok (.imul, 1) := by decide +kernel
theorem dX5_ways_41 : decode cX5_ways 41 = .ok (.aload_n 0, 1) := by decide +kernel
theorem dX5_ways_42 : decode cX5_ways 42 = .ok (.getfield 13, 3) := by decide +kernel
theorem dX5_ways_45 : decode cX5_ways 45 = .ok (.iadd, 1) := by decide +kernel
theorem dX5_ways_46 : decode cX5_ways 46 = .ok (.imul, 1) := by decide +kernel
theorem dX5_ways_47 : decode cX5_ways 47 = .ok (.iload_n 3, 1) := by decide +kernel
theorem dX5_ways_48 : decode cX5_ways 48 = .ok (.iadd, 1) := by decide +kernel
theorem dX5_ways_49 : decode cX5_ways 49 = .ok (.iaload, 1) := by decide +kernel
theorem dX5_ways_50 : decode cX5_ways 50 = .ok (.iadd, 1) := by decide +kernel
theorem dX5_ways_51 : decode cX5_ways 51 = .ok (.istore_n 2, 1) := by decide +kernel
theorem dX5_ways_52 : decode cX5_ways 52 = .ok (.iinc 3 1, 3) := by decide +kernel
theorem dX5_ways_55 : decode cX5_ways 55 = .ok (.goto (-33), 3) := by decide +kernel
theorem dX5_ways_58 : decode cX5_ways 58 = .ok (.iload_n 2, 1) := by decide +kernel
theorem dX5_ways_59 : decode cX5_ways 59 = .ok (.ireturn, 1) := by decide +kernel
set_option maxRecDepth 20000 in
theorem ggX5_sums_X5_isPlace : GoodIn wsX5_sums wsX5_isPlace := goodIn_r _ [8, 9, 10, 11, 12, 7, 13, 14, 15, 16, 17, 18, 19, 20, 21, 22, 23, 24, 25, 26, 27, 28, 29, 30, 31, 32, 33, 34, 35] (by decide +kernel) (by decide +kernel)
set_option maxRecDepth 20000 in
theorem gX5_sums_X5_isPlace : GoodIn wsX5_sums (wsV RX5 82 RX5 yX5_isPlace wsX5_isPlace) := goodIn_app (goodIn_of _ (by decide +kernel)) ggX5_sums_X5_isPlace
theorem dX5_sums_0 : decode cX5_sums 0 = .ok (.aload_n 0, 1) := by decide +kernel
theorem dX5_sums_1 : decode cX5_sums 1 = .ok (.iload_n 1, 1) := by decide +kernel
theorem dX5_sums_2 : decode cX5_sums 2 = .ok (.iload_n 2, 1) := by decide +kernel
theorem dX5_sums_3 : decode cX5_sums 3 = .ok (.invokevirtual 82, 3) := by decide +kernel
theorem dX5_sums_6 : decode cX5_sums 6 = .ok (.ifCond .ne 7, 3) := by decide +kernel
theorem dX5_sums_9 : decode cX5_sums 9 = .ok (.ldc2_w 106, 3) := by decide +kernel
theorem dX5_sums_12 : decode cX5_sums 12 = .ok (.lreturn, 1) := by decide +kernel
theorem dX5_sums_13 : decode cX5_sums 13 = .ok (.iconst 0, 1) := by decide +kernel
theorem dX5_sums_14 : decode cX5_sums 14 = .ok (.istore_n 3, 1) := by decide +kernel
theorem dX5_sums_15 : decode cX5_sums 15 = .ok (.iload_n 3, 1) := by decide +kernel
theorem dX5_sums_16 : decode cX5_sums 16 = .ok (.iload_n 1, 1) := by decide +kernel
theorem dX5_sums_17 : decode cX5_sums 17 = .ok (.if_icmp .gt 123, 3) := by decide +kernel
theorem dX5_sums_20 : decode cX5_sums 20 = .ok (.iconst 0, 1) := by decide +kernel
theorem dX5_sums_21 : decode cX5_sums 21 = .ok (.istore 4, 2) := by decide +kernel
theorem dX5_sums_23 : decode cX5_sums 23 = .ok (.iload 4, 2) := by decide +kernel
theorem dX5_sums_25 : decode cX5_sums 25 = .ok (.iload_n 2, 1) := by decide +kernel
theorem dX5_sums_26 : decode cX5_sums 26 = .ok (.if_icmp .gt 108, 3) := by decide +kernel
theorem dX5_sums_29 : decode cX5_sums 29 = .ok (.iload_n 3, 1) := by decide +kernel
theorem dX5_sums_30 : decode cX5_sums 30 = .ok (.ifCond .ne 12, 3) := by decide +kernel
theorem dX5_sums_33 : decode cX5_sums 33 = .ok (.iload 4, 2) := by decide +kernel
theorem dX5_sums_35 : decode cX5_sums 35 = .ok (.ifCond .ne 7, 3) := by decide +kernel
theorem dX5_sums_38 : decode cX5_sums 38 = .ok (.lconst 1, 1) := by decide +kernel
theorem dX5_sums_39 : decode cX5_sums 39 = .ok (.goto 4, 3) := by decide +kernel
theorem dX5_sums_42 : decode cX5_sums 42 = .ok (.lconst 0, 1) := by decide +kernel
theorem dX5_sums_43 : decode cX5_sums 43 = .ok (.lstore 5, 2) := by decide +kernel
theorem dX5_sums_45 : decode cX5_sums 45 = .ok (.lload 5, 2) := by decide +kernel
theorem dX5_sums_47 : decode cX5_sums 47 = .ok (.iload_n 3, 1) := by decide +kernel
theorem dX5_sums_48 : decode cX5_sums 48 = .ok (.ifCond .le 20, 3) := by decide +kernel
theorem dX5_sums_51 : decode cX5_sums 51 = .ok (.aload_n 0, 1) := by decide +kernel
theorem dX5_sums_52 : decode cX5_sums 52 = .ok (.getfield 35, 3) := by decide +kernel
theorem dX5_sums_55 : decode cX5_sums 55 = .ok (.bipush 6, 2) := by decide +kernel
theorem dX5_sums_57 : decode cX5_sums 57 = .ok (.iload_n 3, 1) := by decide +kernel
theorem dX5_sums_58 : decode cX5_sums 58 = .ok (.iconst 1, 1) := by decide +kernel
theorem dX5_sums_59 : decode cX5_sums 59 = .ok (.isub, 1) := by decide +kernel
theorem dX5_sums_60 : decode cX5_sums 60 = .ok (.imul, 1) := by decide +kernel
theorem dX5_sums_61 : decode cX5_sums 61 = .ok (.iload 4, 2) := by decide +kernel
theorem dX5_sums_63 : decode cX5_sums 63 = .ok (.iadd, 1) := by decide +kernel
theorem dX5_sums_64 : decode cX5_sums 64 = .ok (.laload, 1) := by decide +kernel
theorem dX5_sums_65 : decode cX5_sums 65 = .ok (.goto 4, 3) := by decide +kernel
theorem dX5_sums_68 : decode cX5_sums 68 = .ok (.lconst 0, 1) := by decide +kernel
theorem dX5_sums_69 : decode cX5_sums 69 = .ok (.ladd, 1) := by decide +kernel
theorem dX5_sums_70 : decode cX5_sums 70 = .ok (.lstore 5, 2) := by decide +kernel
theorem dX5_sums_72 : decode cX5_sums 72 = .ok (.lload 5, 2) := by decide +kernel
theorem dX5_sums_74 : decode cX5_sums 74 = .ok (.iload 4, 2) := by decide +kernel
theorem dX5_sums_76 : decode cX5_sums 76 = .ok (.ifCond .le 20, 3) := by decide +kernel
theorem dX5_sums_79 : decode cX5_sums 79 = .ok (.aload_n 0, 1) := by decide +kernel
theorem dX5_sums_80 : decode cX5_sums 80 = .ok (.getfield 35, 3) := by decide +kernel
theorem dX5_sums_83 : decode cX5_sums 83 = .ok (.bipush 6, 2) := by decide +kernel
theorem dX5_sums_85 : decode cX5_sums 85 = .ok (.iload_n 3, 1) := by decide +kernel
theorem dX5_sums_86 : decode cX5_sums 86 = .ok (.imul, 1) := by decide +kernel
theorem dX5_sums_87 : decode cX5_sums 87 = .ok (.iload 4, 2) := by decide +kernel
theorem dX5_sums_89 : decode cX5_sums 89 = .ok (.iadd, 1) := by decide +kernel
theorem dX5_sums_90 : decode cX5_sums 90 = .ok (.iconst 1, 1) := by decide +kernel
theorem dX5_sums_91 : decode cX5_sums 91 = .ok (.isub, 1) := by decide +kernel
theorem dX5_sums_92 : decode cX5_sums 92 = .ok (.laload, 1) := by decide +kernel
theorem dX5_sums_93 : decode cX5_sums 93 = .ok (.goto 4, 3) := by decide +kernel
theorem dX5_sums_96 : decode cX5_sums 96 = .ok (.lconst 0, 1) := by decide +kernel
theorem dX5_sums_97 : decode cX5_sums 97 = .ok (.ladd, 1) := by decide +kernel
theorem dX5_sums_98 : decode cX5_sums 98 = .ok (.lstore 5, 2) := by decide +kernel
theorem dX5_sums_100 : decode cX5_sums 100 = .ok (.aload_n 0, 1) := by decide +kernel
theorem dX5_sums_101 : decode cX5_sums 101 = .ok (.getfield 35, 3) := by decide +kernel
theorem dX5_sums_104 : decode cX5_sums 104 = .ok (.bipush 6, 2) := by decide +kernel
theorem dX5_sums_106 : decode cX5_sums 106 = .ok (.iload_n 3, 1) := by decide +kernel
theorem dX5_sums_107 : decode cX5_sums 107 = .ok (.imul, 1) := by decide +kernel
theorem dX5_sums_108 : decode cX5_sums 108 = .ok (.iload 4, 2) := by decide +kernel
theorem dX5_sums_110 : decode cX5_sums 110 = .ok (.iadd, 1) := by decide +kernel
theorem dX5_sums_111 : decode cX5_sums 111 = .ok (.lload 5, 2) := by decide +kernel
theorem dX5_sums_113 : decode cX5_sums 113 = .ok (.aload_n 0, 1) := by decide +kernel
theorem dX5_sums_114 : decode cX5_sums 114 = .ok (.getfield 16, 3) := by decide +kernel
theorem dX5_sums_117 : decode cX5_sums 117 = .ok (.bipush 6, 2) := by decide +kernel
theorem dX5_sums_119 : decode cX5_sums 119 = .ok (.iload_n 3, 1) := by decide +kernel
theorem dX5_sums_120 : decode cX5_sums 120 = .ok (.imul, 1) := by decide +kernel
theorem dX5_sums_121 : decode cX5_sums 121 = .ok (.iload 4, 2) := by decide +kernel
theorem dX5_sums_123 : decode cX5_sums 123 = .ok (.iadd, 1) := by decide +kernel
theorem dX5_sums_124 : decode cX5_sums 124 = .ok (.iaload, 1) := by decide +kernel
theorem dX5_sums_125 : decode cX5_sums 125 = .ok (.i2l, 1) := by decide +kernel
theorem dX5_sums_126 : decode cX5_sums 126 = .ok (.lmul, 1) := by decide +kernel
theorem dX5_sums_127 : decode cX5_sums 127 = .ok (.lastore, 1) := by decide +kernel
theorem dX5_sums_128 : decode cX5_sums 128 = .ok (.iinc 4 1, 3) := by decide +kernel
theorem dX5_sums_131 : decode cX5_sums 131 = .ok (.goto (-108), 3) := by decide +kernel
theorem dX5_sums_134 : decode cX5_sums 134 = .ok (.iinc 3 1, 3) := by decide +kernel
theorem dX5_sums_137 : decode cX5_sums 137 = .ok (.goto (-122), 3) := by decide +kernel
theorem dX5_sums_140 : decode cX5_sums 140 = .ok (.aload_n 0, 1) := by decide +kernel
theorem dX5_sums_141 : decode cX5_sums 141 = .ok (.getfield 35, 3) := by decide +kernel
theorem dX5_sums_144 : decode cX5_sums 144 = .ok (.bipush 6, 2) := by decide +kernel
theorem dX5_sums_146 : decode cX5_sums 146 = .ok (.iload_n 1, 1) := by decide +kernel
theorem dX5_sums_147 : decode cX5_sums 147 = .ok (.imul, 1) := by decide +kernel
theorem dX5_sums_148 : decode cX5_sums 148 = .ok (.iload_n 2, 1) := by decide +kernel
theorem dX5_sums_149 : decode cX5_sums 149 = .ok (.iadd, 1) := by decide +kernel
theorem dX5_sums_150 : decode cX5_sums 150 = .ok (.laload, 1) := by decide +kernel
theorem dX5_sums_151 : decode cX5_sums 151 = .ok (.lreturn, 1) := by decide +kernel
set_option maxRecDepth 20000 in
theorem ggX5_served_X5_in : GoodIn wsX5_served wsX5_in := goodIn_r _ [7] (by decide +kernel) (by decide +kernel)
set_option maxRecDepth 20000 in
theorem gX5_served_X5_in : GoodIn wsX5_served (va_wsS RX5 76 yX5_in wsX5_in) := goodIn_app (goodIn_of _ (by decide +kernel)) ggX5_served_X5_in
set_option maxRecDepth 20000 in
theorem ggX5_served_X5_findBest : GoodIn wsX5_served wsX5_findBest := goodIn_r _ [11, 1, 2, 3, 12, 13, 14, 6, 15, 16, 17, 18, 19, 20, 21, 22, 23, 24, 25, 26, 27, 28, 29, 30, 31, 32, 33, 34, 35, 36, 37] (by decide +kernel) (by decide +kernel)
set_option maxRecDepth 20000 in
theorem gX5_served_X5_findBest : GoodIn wsX5_served (wsV RX5 97 RX5 yX5_findBest wsX5_findBest) := goodIn_app (goodIn_of _ (by decide +kernel)) ggX5_served_X5_findBest
theorem dX5_served_0 : decode cX5_served 0 = .ok (.iload_n 1, 1) := by decide +kernel
theorem dX5_served_1 : decode cX5_served 1 = .ok (.i2l, 1) := by decide +kernel
theorem dX5_served_2 : decode cX5_served 2 = .ok (.lconst 0, 1) := by decide +kernel
theorem dX5_served_3 : decode cX5_served 3 = .ok (.aload_n 0, 1) := by decide +kernel
theorem dX5_served_4 : decode cX5_served 4 = .ok (.getfield 7, 3) := by decide +kernel
theorem dX5_served_7 : decode cX5_served 7 = .ok (.iconst 1, 1) := by decide +kernel
theorem dX5_served_8 : decode cX5_served 8 = .ok (.isub, 1) := by decide +kernel
theorem dX5_served_9 : decode cX5_served 9 = .ok (.i2l, 1) := by decide +kernel
theorem dX5_served_10 : decode cX5_served 10 = .ok (.invokestatic 76, 3) := by decide +kernel
theorem dX5_served_13 : decode cX5_served 13 = .ok (.ifCond .eq 7, 3) := by decide +kernel
theorem dX5_served_16 : decode cX5_served 16 = .ok (.iload_n 2, 1) := by decide +kernel
theorem dX5_served_17 : decode cX5_served 17 = .ok (.ifCond .ge 5, 3) := by decide +kernel
theorem dX5_served_20 : decode cX5_served 20 = .ok (.iconst (-1), 1) := by decide +kernel
theorem dX5_served_21 : decode cX5_served 21 = .ok (.ireturn, 1) := by decide +kernel
theorem dX5_served_22 : decode cX5_served 22 = .ok (.aload_n 0, 1) := by decide +kernel
theorem dX5_served_23 : decode cX5_served 23 = .ok (.iconst 0, 1) := by decide +kernel
theorem dX5_served_24 : decode cX5_served 24 = .ok (.iconst 0, 1) := by decide +kernel
theorem dX5_served_25 : decode cX5_served 25 = .ok (.invokevirtual 97, 3) := by decide +kernel
theorem dX5_served_28 : decode cX5_served 28 = .ok (.iconst 0, 1) := by decide +kernel
theorem dX5_served_29 : decode cX5_served 29 = .ok (.istore_n 3, 1) := by decide +kernel
theorem dX5_served_30 : decode cX5_served 30 = .ok (.iconst 0, 1) := by decide +kernel
theorem dX5_served_31 : decode cX5_served 31 = .ok (.istore 4, 2) := by decide +kernel
theorem dX5_served_33 : decode cX5_served 33 = .ok (.iload 4, 2) := by decide +kernel
theorem dX5_served_35 : decode cX5_served 35 = .ok (.aload_n 0, 1) := by decide +kernel
theorem dX5_served_36 : decode cX5_served 36 = .ok (.getfield 13, 3) := by decide +kernel
theorem dX5_served_39 : decode cX5_served 39 = .ok (.if_icmp .ge 33, 3) := by decide +kernel
theorem dX5_served_42 : decode cX5_served 42 = .ok (.iload_n 3, 1) := by decide +kernel
theorem dX5_served_43 : decode cX5_served 43 = .ok (.aload_n 0, 1) := by decide +kernel
theorem dX5_served_44 : decode cX5_served 44 = .ok (.getfield 29, 3) := by decide +kernel
theorem dX5_served_47 : decode cX5_served 47 = .ok (.bipush 6, 2) := by decide +kernel
theorem dX5_served_49 : decode cX5_served 49 = .ok (.iload_n 1, 1) := by decide +kernel
theorem dX5_served_50 : decode cX5_served 50 = .ok (.imul, 1) := by decide +kernel
theorem dX5_served_51 : decode cX5_served 51 = .ok (.iload 4, 2) := by decide +kernel
theorem dX5_served_53 : decode cX5_served 53 = .ok (.iadd, 1) := by decide +kernel
theorem dX5_served_54 : decode cX5_served 54 = .ok (.iaload, 1) := by decide +kernel
theorem dX5_served_55 : decode cX5_served 55 = .ok (.iload_n 2, 1) := by decide +kernel
theorem dX5_served_56 : decode cX5_served 56 = .ok (.if_icmp .gt 7, 3) := by decide +kernel
theorem dX5_served_59 : decode cX5_served 59 = .ok (.iconst 1, 1) := by decide +kernel
theorem dX5_served_60 : decode cX5_served 60 = .ok (.goto 4, 3) := by decide +kernel
theorem dX5_served_63 : decode cX5_served 63 = .ok (.iconst 0, 1) := by decide +kernel
theorem dX5_served_64 : decode cX5_served 64 = .ok (.iadd, 1) := by decide +kernel
theorem dX5_served_65 : decode cX5_served 65 = .ok (.istore_n 3, 1) := by decide +kernel
theorem dX5_served_66 : decode cX5_served 66 = .ok (.iinc 4 1, 3) := by decide +kernel
theorem dX5_served_69 : decode cX5_served 69 = .ok (.goto (-36), 3) := by decide +kernel
theorem dX5_served_72 : decode cX5_served 72 = .ok (.iload_n 3, 1) := by decide +kernel
theorem dX5_served_73 : decode cX5_served 73 = .ok (.ireturn, 1) := by decide +kernel
set_option maxRecDepth 20000 in
theorem ggX5_line_X5_in : GoodIn wsX5_line wsX5_in := goodIn_r _ [7] (by decide +kernel) (by decide +kernel)
set_option maxRecDepth 20000 in
theorem gX5_line_X5_in : GoodIn wsX5_line (va_wsS RX5 76 yX5_in wsX5_in) := goodIn_app (goodIn_of _ (by decide +kernel)) ggX5_line_X5_in
set_option maxRecDepth 20000 in
theorem ggX5_line_X5_findBest : GoodIn wsX5_line wsX5_findBest := goodIn_r _ [11, 1, 2, 3, 12, 13, 14, 6, 15, 16, 17, 18, 19, 20, 21, 22, 23, 24, 25, 26, 27, 28, 29, 30, 31, 32, 33, 34, 35, 36, 37] (by decide +kernel) (by decide +kernel)
set_option maxRecDepth 20000 in
theorem gX5_line_X5_findBest : GoodIn wsX5_line (wsV RX5 97 RX5 yX5_findBest wsX5_findBest) := goodIn_app (goodIn_of _ (by decide +kernel)) ggX5_line_X5_findBest
theorem dX5_line_0 : decode cX5_line 0 = .ok (.iload_n 1, 1) := by decide +kernel
theorem dX5_line_1 : decode cX5_line 1 = .ok (.i2l, 1) := by decide +kernel
theorem dX5_line_2 : decode cX5_line 2 = .ok (.lconst 0, 1) := by decide +kernel
theorem dX5_line_3 : decode cX5_line 3 = .ok (.aload_n 0, 1) := by decide +kernel
theorem dX5_line_4 : decode cX5_line 4 = .ok (.getfield 7, 3) := by decide +kernel
theorem dX5_line_7 : decode cX5_line 7 = .ok (.aload_n 0, 1) := by decide +kernel
theorem dX5_line_8 : decode cX5_line 8 = .ok (.getfield 13, 3) := by decide +kernel
theorem dX5_line_11 : decode cX5_line 11 = .ok (.iadd, 1) := by decide +kernel
theorem dX5_line_12 : decode cX5_line 12 = .ok (.iconst 2, 1) := by decide +kernel
theorem dX5_line_13 : decode cX5_line 13 = .ok (.isub, 1) := by decide +kernel
theorem dX5_line_14 : decode cX5_line 14 = .ok (.i2l, 1) := by decide +kernel
theorem dX5_line_15 : decode cX5_line 15 = .ok (.invokestatic 76, 3) := by decide +kernel
theorem dX5_line_18 : decode cX5_line 18 = .ok (.ifCond .ne 5, 3) := by decide +kernel
theorem dX5_line_21 : decode cX5_line 21 = .ok (.iconst (-1), 1) := by decide +kernel
theorem dX5_line_22 : decode cX5_line 22 = .ok (.ireturn, 1) := by decide +kernel
theorem dX5_line_23 : decode cX5_line 23 = .ok (.aload_n 0, 1) := by decide +kernel
theorem dX5_line_24 : decode cX5_line 24 = .ok (.iconst 0, 1) := by decide +kernel
theorem dX5_line_25 : decode cX5_line 25 = .ok (.iconst 0, 1) := by decide +kernel
theorem dX5_line_26 : decode cX5_line 26 = .ok (.invokevirtual 97, 3) := by decide +kernel
theorem dX5_line_29 : decode cX5_line 29 = .ok (.iconst 0, 1) := by decide +kernel
theorem dX5_line_30 : decode cX5_line 30 = .ok (.istore_n 2, 1) := by decide +kernel
theorem dX5_line_31 : decode cX5_line 31 = .ok (.iconst 0, 1) := by decide +kernel
theorem dX5_line_32 : decode cX5_line 32 = .ok (.istore_n 3, 1) := by decide +kernel
theorem dX5_line_33 : decode cX5_line 33 = .ok (.iconst 0, 1) := by decide +kernel
theorem dX5_line_34 : decode cX5_line 34 = .ok (.istore 4, 2) := by decide +kernel
theorem dX5_line_36 : decode cX5_line 36 = .ok (.iload 4, 2) := by decide +kernel
theorem dX5_line_38 : decode cX5_line 38 = .ok (.iload_n 1, 1) := by decide +kernel
theorem dX5_line_39 : decode cX5_line 39 = .ok (.if_icmp .ge 91, 3) := by decide +kernel
theorem dX5_line_42 : decode cX5_line 42 = .ok (.iload_n 3, 1) := by decide +kernel
theorem dX5_line_43 : decode cX5_line 43 = .ok (.aload_n 0, 1) := by decide +kernel
theorem dX5_line_44 : decode cX5_line 44 = .ok (.getfield 13, 3) := by decide +kernel
theorem dX5_line_47 : decode cX5_line 47 = .ok (.iconst 1, 1) := by decide +kernel
theorem dX5_line_48 : decode cX5_line 48 = .ok (.isub, 1) := by decide +kernel
theorem dX5_line_49 : decode cX5_line 49 = .ok (.if_icmp .eq 42, 3) := by decide +kernel
theorem dX5_line_52 : decode cX5_line 52 = .ok (.iload_n 2, 1) := by decide +kernel
theorem dX5_line_53 : decode cX5_line 53 = .ok (.aload_n 0, 1) := by decide +kernel
theorem dX5_line_54 : decode cX5_line 54 = .ok (.getfield 7, 3) := by decide +kernel
theorem dX5_line_57 : decode cX5_line 57 = .ok (.iconst 1, 1) := by decide +kernel
theorem dX5_line_58 : decode cX5_line 58 = .ok (.isub, 1) := by decide +kernel
theorem dX5_line_59 : decode cX5_line 59 = .ok (.if_icmp .ge 36, 3) := by decide +kernel
theorem dX5_line_62 : decode cX5_line 62 = .ok (.aload_n 0, 1) := by decide +kernel
theorem dX5_line_63 : decode cX5_line 63 = .ok (.getfield 29, 3) := by decide +kernel
theorem dX5_line_66 : decode cX5_line 66 = .ok (.bipush 6, 2) := by decide +kernel
theorem dX5_line_68 : decode cX5_line 68 = .ok (.iload_n 2, 1) := by decide +kernel
theorem dX5_line_69 : decode cX5_line 69 = .ok (.iconst 1, 1) := by decide +kernel
theorem dX5_line_70 : decode cX5_line 70 = .ok (.iadd, 1) := by decide +kernel
theorem dX5_line_71 : decode cX5_line 71 = .ok (.imul, 1) := by decide +kernel
theorem dX5_line_72 : decode cX5_line 72 = .ok (.iload_n 3, 1) := by decide +kernel
theorem dX5_line_73 : decode cX5_line 73 = .ok (.iadd, 1) := by decide +kernel
theorem dX5_line_74 : decode cX5_line 74 = .ok (.iaload, 1) := by decide +kernel
theorem dX5_line_75 : decode cX5_line 75 = .ok (.aload_n 0, 1) := by decide +kernel
theorem dX5_line_76 : decode cX5_line 76 = .ok (.getfield 29, 3) := by decide +kernel
theorem dX5_line_79 : decode cX5_line 79 = .ok (.bipush 6, 2) := by decide +kernel
theorem dX5_line_81 : decode cX5_line 81 = .ok (.iload_n 2, 1) := by decide +kernel
theorem dX5_line_82 : decode cX5_line 82 = .ok (.imul, 1) := by decide +kernel
theorem dX5_line_83 : decode cX5_line 83 = .ok (.iload_n 3, 1) := by decide +kernel
theorem dX5_line_84 : decode cX5_line 84 = .ok (.iadd, 1) := by decide +kernel
theorem dX5_line_85 : decode cX5_line 85 = .ok (.iconst 1, 1) := by decide +kernel
theorem dX5_line_86 : decode cX5_line 86 = .ok (.iadd, 1) := by decide +kernel
theorem dX5_line_87 : decode cX5_line 87 = .ok (.iaload, 1) := by decide +kernel
theorem dX5_line_88 : decode cX5_line 88 = .ok (.if_icmp .ge 7, 3) := by decide +kernel
theorem dX5_line_91 : decode cX5_line 91 = .ok (.iconst 1, 1) := by decide +kernel
theorem dX5_line_92 : decode cX5_line 92 = .ok (.goto 4, 3) := by decide +kernel
theorem dX5_line_95 : decode cX5_line 95 = .ok (.iconst 0, 1) := by decide +kernel
theorem dX5_line_96 : decode cX5_line 96 = .ok (.istore 5, 2) := by decide +kernel
theorem dX5_line_98 : decode cX5_line 98 = .ok (.iload_n 2, 1) := by decide +kernel
theorem dX5_line_99 : decode cX5_line 99 = .ok (.iload 5, 2) := by decide +kernel
theorem dX5_line_101 : decode cX5_line 101 = .ok (.ifCond .eq 7, 3) := by decide +kernel
theorem dX5_line_104 : decode cX5_line 104 = .ok (.iconst 1, 1) := by decide +kernel
theorem dX5_line_105 : decode cX5_line 105 = .ok (.goto 4, 3) := by decide +kernel
theorem dX5_line_108 : decode cX5_line 108 = .ok (.iconst 0, 1) := by decide +kernel
theorem dX5_line_109 : decode cX5_line 109 = .ok (.iadd, 1) := by decide +kernel
theorem dX5_line_110 : decode cX5_line 110 = .ok (.istore_n 2, 1) := by decide +kernel
theorem dX5_line_111 : decode cX5_line 111 = .ok (.iload_n 3, 1) := by decide +kernel
theorem dX5_line_112 : decode cX5_line 112 = .ok (.iload 5, 2) := by decide +kernel
theorem dX5_line_114 : decode cX5_line 114 = .ok (.ifCond .eq 7, 3) := by decide +kernel
theorem dX5_line_117 : decode cX5_line 117 = .ok (.iconst 0, 1) := by decide +kernel
theorem dX5_line_118 : decode cX5_line 118 = .ok (.goto 4, 3) := by decide +kernel
theorem dX5_line_121 : decode cX5_line 121 = .ok (.iconst 1, 1) := by decide +kernel
theorem dX5_line_122 : decode cX5_line 122 = .ok (.iadd, 1) := by decide +kernel
theorem dX5_line_123 : decode cX5_line 123 = .ok (.istore_n 3, 1) := by decide +kernel
theorem dX5_line_124 : decode cX5_line 124 = .ok (.iinc 4 1, 3) := by decide +kernel
theorem dX5_line_127 : decode cX5_line 127 = .ok (.goto (-91), 3) := by decide +kernel
theorem dX5_line_130 : decode cX5_line 130 = .ok (.bipush 10, 2) := by decide +kernel
theorem dX5_line_132 : decode cX5_line 132 = .ok (.iload_n 2, 1) := by decide +kernel
theorem dX5_line_133 : decode cX5_line 133 = .ok (.imul, 1) := by decide +kernel
theorem dX5_line_134 : decode cX5_line 134 = .ok (.iload_n 3, 1) := by decide +kernel
theorem dX5_line_135 : decode cX5_line 135 = .ok (.iadd, 1) := by decide +kernel
theorem dX5_line_136 : decode cX5_line 136 = .ok (.ireturn, 1) := by decide +kernel
set_option maxRecDepth 20000 in
theorem ggX5_letter_X5_in : GoodIn wsX5_letter wsX5_in := goodIn_r _ [7] (by decide +kernel) (by decide +kernel)
set_option maxRecDepth 20000 in
theorem gX5_letter_X5_in : GoodIn wsX5_letter (va_wsS RX5 76 yX5_in wsX5_in) := goodIn_app (goodIn_of _ (by decide +kernel)) ggX5_letter_X5_in
theorem dX5_letter_0 : decode cX5_letter 0 = .ok (.iload_n 1, 1) := by decide +kernel
theorem dX5_letter_1 : decode cX5_letter 1 = .ok (.i2l, 1) := by decide +kernel
theorem dX5_letter_2 : decode cX5_letter 2 = .ok (.lconst 1, 1) := by decide +kernel
theorem dX5_letter_3 : decode cX5_letter 3 = .ok (.ldc2_w 108, 3) := by decide +kernel
theorem dX5_letter_6 : decode cX5_letter 6 = .ok (.invokestatic 76, 3) := by decide +kernel
theorem dX5_letter_9 : decode cX5_letter 9 = .ok (.ifCond .ne 5, 3) := by decide +kernel
theorem dX5_letter_12 : decode cX5_letter 12 = .ok (.iconst (-1), 1) := by decide +kernel
theorem dX5_letter_13 : decode cX5_letter 13 = .ok (.ireturn, 1) := by decide +kernel
theorem dX5_letter_14 : decode cX5_letter 14 = .ok (.aload_n 0, 1) := by decide +kernel
theorem dX5_letter_15 : decode cX5_letter 15 = .ok (.getfield 110, 3) := by decide +kernel
theorem dX5_letter_18 : decode cX5_letter 18 = .ok (.bipush 40, 2) := by decide +kernel
theorem dX5_letter_20 : decode cX5_letter 20 = .ok (.if_icmp .ne 6, 3) := by decide +kernel
theorem dX5_letter_23 : decode cX5_letter 23 = .ok (.bipush (-3), 2) := by decide +kernel
theorem dX5_letter_25 : decode cX5_letter 25 = .ok (.ireturn, 1) := by decide +kernel
theorem dX5_letter_26 : decode cX5_letter 26 = .ok (.aload_n 0, 1) := by decide +kernel
theorem dX5_letter_27 : decode cX5_letter 27 = .ok (.getfield 39, 3) := by decide +kernel
theorem dX5_letter_30 : decode cX5_letter 30 = .ok (.aload_n 0, 1) := by decide +kernel
theorem dX5_letter_31 : decode cX5_letter 31 = .ok (.getfield 110, 3) := by decide +kernel
theorem dX5_letter_34 : decode cX5_letter 34 = .ok (.iload_n 1, 1) := by decide +kernel
theorem dX5_letter_35 : decode cX5_letter 35 = .ok (.iastore, 1) := by decide +kernel
theorem dX5_letter_36 : decode cX5_letter 36 = .ok (.aload_n 0, 1) := by decide +kernel
theorem dX5_letter_37 : decode cX5_letter 37 = .ok (.dup, 1) := by decide +kernel
theorem dX5_letter_38 : decode cX5_letter 38 = .ok (.getfield 110, 3) := by decide +kernel
theorem dX5_letter_41 : decode cX5_letter 41 = .ok (.iconst 1, 1) := by decide +kernel
theorem dX5_letter_42 : decode cX5_letter 42 = .ok (.iadd, 1) := by decide +kernel
theorem dX5_letter_43 : decode cX5_letter 43 = .ok (.putfield 110, 3) := by decide +kernel
theorem dX5_letter_46 : decode cX5_letter 46 = .ok (.aload_n 0, 1) := by decide +kernel
theorem dX5_letter_47 : decode cX5_letter 47 = .ok (.getfield 110, 3) := by decide +kernel
theorem dX5_letter_50 : decode cX5_letter 50 = .ok (.ireturn, 1) := by decide +kernel
theorem dX5_clear_0 : decode cX5_clear 0 = .ok (.aload_n 0, 1) := by decide +kernel
theorem dX5_clear_1 : decode cX5_clear 1 = .ok (.getfield 110, 3) := by decide +kernel
theorem dX5_clear_4 : decode cX5_clear 4 = .ok (.istore_n 1, 1) := by decide +kernel
theorem dX5_clear_5 : decode cX5_clear 5 = .ok (.aload_n 0, 1) := by decide +kernel
theorem dX5_clear_6 : decode cX5_clear 6 = .ok (.iconst 0, 1) := by decide +kernel
theorem dX5_clear_7 : decode cX5_clear 7 = .ok (.putfield 110, 3) := by decide +kernel
theorem dX5_clear_10 : decode cX5_clear 10 = .ok (.iload_n 1, 1) := by decide +kernel
theorem dX5_clear_11 : decode cX5_clear 11 = .ok (.ireturn, 1) := by decide +kernel
theorem dX5_insert_0 : decode cX5_insert 0 = .ok (.iload_n 1, 1) := by decide +kernel
theorem dX5_insert_1 : decode cX5_insert 1 = .ok (.istore_n 3, 1) := by decide +kernel
theorem dX5_insert_2 : decode cX5_insert 2 = .ok (.iconst 0, 1) := by decide +kernel
theorem dX5_insert_3 : decode cX5_insert 3 = .ok (.istore 4, 2) := by decide +kernel
theorem dX5_insert_5 : decode cX5_insert 5 = .ok (.iconst 1, 1) := by decide +kernel
theorem dX5_insert_6 : decode cX5_insert 6 = .ok (.istore 5, 2) := by decide +kernel
theorem dX5_insert_8 : decode cX5_insert 8 = .ok (.iload 5, 2) := by decide +kernel
theorem dX5_insert_10 : decode cX5_insert 10 = .ok (.ifCond .eq 137, 3) := by decide +kernel
theorem dX5_insert_13 : decode cX5_insert 13 = .ok (.iconst 0, 1) := by decide +kernel
theorem dX5_insert_14 : decode cX5_insert 14 = .ok (.istore 6, 2) := by decide +kernel
theorem dX5_insert_16 : decode cX5_insert 16 = .ok (.iload 6, 2) := by decide +kernel
theorem dX5_insert_18 : decode cX5_insert 18 = .ok (.aload_n 0, 1) := by decide +kernel
theorem dX5_insert_19 : decode cX5_insert 19 = .ok (.getfield 48, 3) := by decide +kernel
theorem dX5_insert_22 : decode cX5_insert 22 = .ok (.iload 4, 2) := by decide +kernel
theorem dX5_insert_24 : decode cX5_insert 24 = .ok (.iaload, 1) := by decide +kernel
theorem dX5_insert_25 : decode cX5_insert 25 = .ok (.if_icmp .ge 26, 3) := by decide +kernel
theorem dX5_insert_28 : decode cX5_insert 28 = .ok (.aload_n 0, 1) := by decide +kernel
theorem dX5_insert_29 : decode cX5_insert 29 = .ok (.getfield 42, 3) := by decide +kernel
theorem dX5_insert_32 : decode cX5_insert 32 = .ok (.bipush 40, 2) := by decide +kernel
theorem dX5_insert_34 : decode cX5_insert 34 = .ok (.iload 4, 2) := by decide +kernel
theorem dX5_insert_36 : decode cX5_insert 36 = .ok (.imul, 1) := by decide +kernel
theorem dX5_insert_37 : decode cX5_insert 37 = .ok (.iload 6, 2) := by decide +kernel
theorem dX5_insert_39 : decode cX5_insert 39 = .ok (.iadd, 1) := by decide +kernel
theorem dX5_insert_40 : decode cX5_insert 40 = .ok (.iaload, 1) := by decide +kernel
theorem dX5_insert_41 : decode cX5_insert 41 = .ok (.iload_n 3, 1) := by decide +kernel
theorem dX5_insert_42 : decode cX5_insert 42 = .ok (.if_icmp .gt 9, 3) := by decide +kernel
theorem dX5_insert_45 : decode cX5_insert 45 = .ok (.iinc 6 1, 3) := by decide +kernel
theorem dX5_insert_48 : decode cX5_insert 48 = .ok (.goto (-32), 3) := by decide +kernel
theorem dX5_insert_51 : decode cX5_insert 51 = .ok (.iload 6, 2) := by decide +kernel
theorem dX5_insert_53 : decode cX5_insert 53 = .ok (.aload_n 0, 1) := by decide +kernel
theorem dX5_insert_54 : decode cX5_insert 54 = .ok (.getfield 48, 3) := by decide +kernel
theorem dX5_insert_57 : decode cX5_insert 57 = .ok (.iload 4, 2) := by decide +kernel
theorem dX5_insert_59 : decode cX5_insert 59 = .ok (.iaload, 1) := by decide +kernel
theorem dX5_insert_60 : decode cX5_insert 60 = .ok (.if_icmp .ge 7, 3) := by decide +kernel
theorem dX5_insert_63 : decode cX5_insert 63 = .ok (.iconst 1, 1) := by decide +kernel
theorem dX5_insert_64 : decode cX5_insert 64 = .ok (.goto 4, 3) := by decide +kernel
theorem dX5_insert_67 : decode cX5_insert 67 = .ok (.iconst 0, 1) := by decide +kernel
theorem dX5_insert_68 : decode cX5_insert 68 = .ok (.istore 5, 2) := by decide +kernel
theorem dX5_insert_70 : decode cX5_insert 70 = .ok (.iload 5, 2) := by decide +kernel
theorem dX5_insert_72 : decode cX5_insert 72 = .ok (.ifCond .eq 19, 3) := by decide +kernel
theorem dX5_insert_75 : decode cX5_insert 75 = .ok (.aload_n 0, 1) := by decide +kernel
theorem dX5_insert_76 : decode cX5_insert 76 = .ok (.getfield 42, 3) := by decide +kernel
theorem dX5_insert_79 : decode cX5_insert 79 = .ok (.bipush 40, 2) := by decide +kernel
theorem dX5_insert_81 : decode cX5_insert 81 = .ok (.iload 4, 2) := by decide +kernel
theorem dX5_insert_83 : decode cX5_insert 83 = .ok (.imul, 1) := by decide +kernel
theorem dX5_insert_84 : decode cX5_insert 84 = .ok (.iload 6, 2) := by decide +kernel
theorem dX5_insert_86 : decode cX5_insert 86 = .ok (.iadd, 1) := by decide +kernel
theorem dX5_insert_87 : decode cX5_insert 87 = .ok (.iaload, 1) := by decide +kernel
theorem dX5_insert_88 : decode cX5_insert 88 = .ok (.goto 4, 3) := by decide +kernel
theorem dX5_insert_91 : decode cX5_insert 91 = .ok (.iconst 0, 1) := by decide +kernel
theorem dX5_insert_92 : decode cX5_insert 92 = .ok (.istore 7, 2) := by decide +kernel
theorem dX5_insert_94 : decode cX5_insert 94 = .ok (.aload_n 0, 1) := by decide +kernel
theorem dX5_insert_95 : decode cX5_insert 95 = .ok (.getfield 42, 3) := by decide +kernel
theorem dX5_insert_98 : decode cX5_insert 98 = .ok (.bipush 40, 2) := by decide +kernel
theorem dX5_insert_100 : decode cX5_insert 100 = .ok (.iload 4, 2) := by decide +kernel
theorem dX5_insert_102 : decode cX5_insert 102 = .ok (.imul, 1) := by decide +kernel
theorem dX5_insert_103 : decode cX5_insert 103 = .ok (.iload 6, 2) := by decide +kernel
theorem dX5_insert_105 : decode cX5_insert 105 = .ok (.iadd, 1) := by decide +kernel
theorem dX5_insert_106 : decode cX5_insert 106 = .ok (.iload_n 3, 1) := by decide +kernel
theorem dX5_insert_107 : decode cX5_insert 107 = .ok (.iastore, 1) := by decide +kernel
theorem dX5_insert_108 : decode cX5_insert 108 = .ok (.iload 5, 2) := by decide +kernel
theorem dX5_insert_110 : decode cX5_insert 110 = .ok (.ifCond .ne 28, 3) := by decide +kernel
theorem dX5_insert_113 : decode cX5_insert 113 = .ok (.aload_n 0, 1) := by decide +kernel
theorem dX5_insert_114 : decode cX5_insert 114 = .ok (.getfield 45, 3) := by decide +kernel
theorem dX5_insert_117 : decode cX5_insert 117 = .ok (.bipush 40, 2) := by decide +kernel
theorem dX5_insert_119 : decode cX5_insert 119 = .ok (.iload 4, 2) := by decide +kernel
theorem dX5_insert_121 : decode cX5_insert 121 = .ok (.imul, 1) := by decide +kernel
theorem dX5_insert_122 : decode cX5_insert 122 = .ok (.iload 6, 2) := by decide +kernel
theorem dX5_insert_124 : decode cX5_insert 124 = .ok (.iadd, 1) := by decide +kernel
theorem dX5_insert_125 : decode cX5_insert 125 = .ok (.iload_n 2, 1) := by decide +kernel
theorem dX5_insert_126 : decode cX5_insert 126 = .ok (.iastore, 1) := by decide +kernel
theorem dX5_insert_127 : decode cX5_insert 127 = .ok (.aload_n 0, 1) := by decide +kernel
theorem dX5_insert_128 : decode cX5_insert 128 = .ok (.getfield 48, 3) := by decide +kernel
theorem dX5_insert_131 : decode cX5_insert 131 = .ok (.iload 4, 2) := by decide +kernel
theorem dX5_insert_133 : decode cX5_insert 133 = .ok (.dup2, 1) := by decide +kernel
theorem dX5_insert_134 : decode cX5_insert 134 = .ok (.iaload, 1) := by decide +kernel
theorem dX5_insert_135 : decode cX5_insert 135 = .ok (.iconst 1, 1) := by decide +kernel
theorem dX5_insert_136 : decode cX5_insert 136 = .ok (.iadd, 1) := by decide +kernel
theorem dX5_insert_137 : decode cX5_insert 137 = .ok (.iastore, 1) := by decide +kernel
theorem dX5_insert_138 : decode cX5_insert 138 = .ok (.iload 7, 2) := by decide +kernel
theorem dX5_insert_140 : decode cX5_insert 140 = .ok (.istore_n 3, 1) := by decide +kernel
theorem dX5_insert_141 : decode cX5_insert 141 = .ok (.iinc 4 1, 3) := by decide +kernel
theorem dX5_insert_144 : decode cX5_insert 144 = .ok (.goto (-136), 3) := by decide +kernel
theorem dX5_insert_147 : decode cX5_insert 147 = .ok (.return_, 1) := by decide +kernel
set_option maxRecDepth 20000 in
theorem ggX5_makeTableaux_X5_insert : GoodIn wsX5_makeTableaux wsX5_insert := goodIn_r _ [8, 1, 9, 10, 11, 12, 13, 14, 15, 16, 17, 18, 19, 20, 21, 22, 23, 24, 25, 26, 27, 28, 29, 30, 31, 32] (by decide +kernel) (by decide +kernel)
set_option maxRecDepth 20000 in
theorem gX5_makeTableaux_X5_insert : GoodIn wsX5_makeTableaux (wsV RX5 113 RX5 yX5_insert wsX5_insert) := goodIn_app (goodIn_of _ (by decide +kernel)) ggX5_makeTableaux_X5_insert
theorem dX5_makeTableaux_0 : decode cX5_makeTableaux 0 = .ok (.iconst 0, 1) := by decide +kernel
theorem dX5_makeTableaux_1 : decode cX5_makeTableaux 1 = .ok (.istore_n 1, 1) := by decide +kernel
theorem dX5_makeTableaux_2 : decode cX5_makeTableaux 2 = .ok (.iload_n 1, 1) := by decide +kernel
theorem dX5_makeTableaux_3 : decode cX5_makeTableaux 3 = .ok (.bipush 9, 2) := by decide +kernel
theorem dX5_makeTableaux_5 : decode cX5_makeTableaux 5 = .ok (.if_icmp .ge 16, 3) := by decide +kernel
theorem dX5_makeTableaux_8 : decode cX5_makeTableaux 8 = .ok (.aload_n 0, 1) := by decide +kernel
theorem dX5_makeTableaux_9 : decode cX5_makeTableaux 9 = .ok (.getfield 48, 3) := by decide +kernel
theorem dX5_makeTableaux_12 : decode cX5_makeTableaux 12 = .ok (.iload_n 1, 1) := by decide +kernel
theorem dX5_makeTableaux_13 : decode cX5_makeTableaux 13 = .ok (.iconst 0, 1) := by decide +kernel
theorem dX5_makeTableaux_14 : decode cX5_makeTableaux 14 = .ok (.iastore, 1) := by decide +kernel
theorem dX5_makeTableaux_15 : decode cX5_makeTableaux 15 = .ok (.iinc 1 1, 3) := by decide +kernel
theorem dX5_makeTableaux_18 : decode cX5_makeTableaux 18 = .ok (.goto (-16), 3) := by decide +kernel
theorem dX5_makeTableaux_21 : decode cX5_makeTableaux 21 = .ok (.iconst 0, 1) := by decide +kernel
theorem dX5_makeTableaux_22 : decode cX5_makeTableaux 22 = .ok (.istore_n 1, 1) := by decide +kernel
theorem dX5_makeTableaux_23 : decode cX5_makeTableaux 23 = .ok (.iload_n 1, 1) := by decide +kernel
theorem dX5_makeTableaux_24 : decode cX5_makeTableaux 24 = .ok (.aload_n 0, 1) := by decide +kernel
theorem dX5_makeTableaux_25 : decode cX5_makeTableaux 25 = .ok (.getfield 110, 3) := by decide +kernel
theorem dX5_makeTableaux_28 : decode cX5_makeTableaux 28 = .ok (.if_icmp .ge 22, 3) := by decide +kernel
theorem dX5_makeTableaux_31 : decode cX5_makeTableaux 31 = .ok (.aload_n 0, 1) := by decide +kernel
theorem dX5_makeTableaux_32 : decode cX5_makeTableaux 32 = .ok (.aload_n 0, 1) := by decide +kernel
theorem dX5_makeTableaux_33 : decode cX5_makeTableaux 33 = .ok (.getfield 39, 3) := by decide +kernel
theorem dX5_makeTableaux_36 : decode cX5_makeTableaux 36 = .ok (.iload_n 1, 1) := by decide +kernel
theorem dX5_makeTableaux_37 : decode cX5_makeTableaux 37 = .ok (.iaload, 1) := by decide +kernel
theorem dX5_makeTableaux_38 : decode cX5_makeTableaux 38 = .ok (.iload_n 1, 1) := by decide +kernel
theorem dX5_makeTableaux_39 : decode cX5_makeTableaux 39 = .ok (.iconst 1, 1) := by decide +kernel
theorem dX5_makeTableaux_40 : decode cX5_makeTableaux 40 = .ok (.iadd, 1) := by decide +kernel
theorem dX5_makeTableaux_41 : decode cX5_makeTableaux 41 = .ok (.invokevirtual 113, 3) := by decide +kernel
theorem dX5_makeTableaux_44 : decode cX5_makeTableaux 44 = .ok (.iinc 1 1, 3) := by decide +kernel
theorem dX5_makeTableaux_47 : decode cX5_makeTableaux 47 = .ok (.goto (-24), 3) := by decide +kernel
theorem dX5_makeTableaux_50 : decode cX5_makeTableaux 50 = .ok (.return_, 1) := by decide +kernel
set_option maxRecDepth 20000 in
theorem ggX5_row_X5_in : GoodIn wsX5_row wsX5_in := goodIn_r _ [6] (by decide +kernel) (by decide +kernel)
set_option maxRecDepth 20000 in
theorem gX5_row_X5_in : GoodIn wsX5_row (va_wsS RX5 76 yX5_in wsX5_in) := goodIn_app (goodIn_of _ (by decide +kernel)) ggX5_row_X5_in
set_option maxRecDepth 20000 in
theorem ggX5_row_X5_makeTableaux : GoodIn wsX5_row wsX5_makeTableaux := goodIn_r _ [10, 2, 11, 12, 13, 14, 15, 5, 16, 17, 18, 19, 20, 21, 22, 23, 24, 25, 26, 27, 28, 29, 30, 31, 32, 33, 34, 35, 36, 37, 38, 39, 40] (by decide +kernel) (by decide +kernel)
set_option maxRecDepth 20000 in
theorem gX5_row_X5_makeTableaux : GoodIn wsX5_row (wsV RX5 118 RX5 yX5_makeTableaux wsX5_makeTableaux) := goodIn_app (goodIn_of _ (by decide +kernel)) ggX5_row_X5_makeTableaux
theorem dX5_row_0 : decode cX5_row 0 = .ok (.iload_n 1, 1) := by decide +kernel
theorem dX5_row_1 : decode cX5_row 1 = .ok (.i2l, 1) := by decide +kernel
theorem dX5_row_2 : decode cX5_row 2 = .ok (.lconst 0, 1) := by decide +kernel
theorem dX5_row_3 : decode cX5_row 3 = .ok (.ldc2_w 116, 3) := by decide +kernel
theorem dX5_row_6 : decode cX5_row 6 = .ok (.invokestatic 76, 3) := by decide +kernel
theorem dX5_row_9 : decode cX5_row 9 = .ok (.ifCond .ne 5, 3) := by decide +kernel
theorem dX5_row_12 : decode cX5_row 12 = .ok (.iconst (-1), 1) := by decide +kernel
theorem dX5_row_13 : decode cX5_row 13 = .ok (.ireturn, 1) := by decide +kernel
theorem dX5_row_14 : decode cX5_row 14 = .ok (.aload_n 0, 1) := by decide +kernel
theorem dX5_row_15 : decode cX5_row 15 = .ok (.invokevirtual 118, 3) := by decide +kernel
theorem dX5_row_18 : decode cX5_row 18 = .ok (.aload_n 0, 1) := by decide +kernel
theorem dX5_row_19 : decode cX5_row 19 = .ok (.getfield 48, 3) := by decide +kernel
theorem dX5_row_22 : decode cX5_row 22 = .ok (.iload_n 1, 1) := by decide +kernel
theorem dX5_row_23 : decode cX5_row 23 = .ok (.iaload, 1) := by decide +kernel
theorem dX5_row_24 : decode cX5_row 24 = .ok (.ireturn, 1) := by decide +kernel
set_option maxRecDepth 20000 in
theorem ggX5_place_X5_in : GoodIn wsX5_place wsX5_in := goodIn_r _ [8] (by decide +kernel) (by decide +kernel)
set_option maxRecDepth 20000 in
theorem gX5_place_X5_in : GoodIn wsX5_place (va_wsS RX5 76 yX5_in wsX5_in) := goodIn_app (goodIn_of _ (by decide +kernel)) ggX5_place_X5_in
set_option maxRecDepth 20000 in
theorem ggX5_place_X5_makeTableaux : GoodIn wsX5_place wsX5_makeTableaux := goodIn_r _ [12, 2, 13, 14, 15, 16, 17, 7, 18, 3, 4, 19, 20, 21, 22, 23, 24, 25, 26, 27, 28, 29, 30, 31, 32, 33, 34, 35, 36, 37, 38, 39, 40] (by decide +kernel) (by decide +kernel)
set_option maxRecDepth 20000 in
theorem gX5_place_X5_makeTableaux : GoodIn wsX5_place (wsV RX5 118 RX5 yX5_makeTableaux wsX5_makeTableaux) := goodIn_app (goodIn_of _ (by decide +kernel)) ggX5_place_X5_makeTableaux
theorem dX5_place_0 : decode cX5_place 0 = .ok (.iload_n 1, 1) := by decide +kernel
theorem dX5_place_1 : decode cX5_place 1 = .ok (.i2l, 1) := by decide +kernel
theorem dX5_place_2 : decode cX5_place 2 = .ok (.lconst 0, 1) := by decide +kernel
theorem dX5_place_3 : decode cX5_place 3 = .ok (.lconst 1, 1) := by decide +kernel
theorem dX5_place_4 : decode cX5_place 4 = .ok (.invokestatic 76, 3) := by decide +kernel
theorem dX5_place_7 : decode cX5_place 7 = .ok (.ifCond .eq 19, 3) := by decide +kernel
theorem dX5_place_10 : decode cX5_place 10 = .ok (.iload_n 2, 1) := by decide +kernel
theorem dX5_place_11 : decode cX5_place 11 = .ok (.i2l, 1) := by decide +kernel
theorem dX5_place_12 : decode cX5_place 12 = .ok (.lconst 0, 1) := by decide +kernel
theorem dX5_place_13 : decode cX5_place 13 = .ok (.ldc2_w 116, 3) := by decide +kernel
theorem dX5_place_16 : decode cX5_place 16 = .ok (.invokestatic 76, 3) := by decide +kernel
theorem dX5_place_19 : decode cX5_place 19 = .ok (.ifCond .eq 7, 3) := by decide +kernel
theorem dX5_place_22 : decode cX5_place 22 = .ok (.iload_n 3, 1) := by decide +kernel
theorem dX5_place_23 : decode cX5_place 23 = .ok (.ifCond .ge 5, 3) := by decide +kernel
theorem dX5_place_26 : decode cX5_place 26 = .ok (.iconst (-1), 1) := by decide +kernel
theorem dX5_place_27 : decode cX5_place 27 = .ok (.ireturn, 1) := by decide +kernel
theorem dX5_place_28 : decode cX5_place 28 = .ok (.aload_n 0, 1) := by decide +kernel
theorem dX5_place_29 : decode cX5_place 29 = .ok (.invokevirtual 118, 3) := by decide +kernel
theorem dX5_place_32 : decode cX5_place 32 = .ok (.iload_n 3, 1) := by decide +kernel
theorem dX5_place_33 : decode cX5_place 33 = .ok (.aload_n 0, 1) := by decide +kernel
theorem dX5_place_34 : decode cX5_place 34 = .ok (.getfield 48, 3) := by decide +kernel
theorem dX5_place_37 : decode cX5_place 37 = .ok (.iload_n 2, 1) := by decide +kernel
theorem dX5_place_38 : decode cX5_place 38 = .ok (.iaload, 1) := by decide +kernel
theorem dX5_place_39 : decode cX5_place 39 = .ok (.if_icmp .lt 8, 3) := by decide +kernel
theorem dX5_place_42 : decode cX5_place 42 = .ok (.bipush (-4), 2) := by decide +kernel
theorem dX5_place_44 : decode cX5_place 44 = .ok (.goto 32, 3) := by decide +kernel
theorem dX5_place_47 : decode cX5_place 47 = .ok (.iload_n 1, 1) := by decide +kernel
theorem dX5_place_48 : decode cX5_place 48 = .ok (.ifCond .ne 17, 3) := by decide +kernel
theorem dX5_place_51 : decode cX5_place 51 = .ok (.aload_n 0, 1) := by decide +kernel
theorem dX5_place_52 : decode cX5_place 52 = .ok (.getfield 42, 3) := by decide +kernel
theorem dX5_place_55 : decode cX5_place 55 = .ok (.bipush 40, 2) := by decide +kernel
theorem dX5_place_57 : decode cX5_place 57 = .ok (.iload_n 2, 1) := by decide +kernel
theorem dX5_place_58 : decode cX5_place 58 = .ok (.imul, 1) := by decide +kernel
theorem dX5_place_59 : decode cX5_place 59 = .ok (.iload_n 3, 1) := by decide +kernel
theorem dX5_place_60 : decode cX5_place 60 = .ok (.iadd, 1) := by decide +kernel
theorem dX5_place_61 : decode cX5_place 61 = .ok (.iaload, 1) := by decide +kernel
theorem dX5_place_62 : decode cX5_place 62 = .ok (.goto 14, 3) := by decide +kernel
theorem dX5_place_65 : decode cX5_place 65 = .ok (.aload_n 0, 1) := by decide +kernel
theorem dX5_place_66 : decode cX5_place 66 = .ok (.getfield 45, 3) := by decide +kernel
theorem dX5_place_69 : decode cX5_place 69 = .ok (.bipush 40, 2) := by decide +kernel
theorem dX5_place_71 : decode cX5_place 71 = .ok (.iload_n 2, 1) := by decide +kernel
theorem dX5_place_72 : decode cX5_place 72 = .ok (.imul, 1) := by decide +kernel
theorem dX5_place_73 : decode cX5_place 73 = .ok (.iload_n 3, 1) := by decide +kernel
theorem dX5_place_74 : decode cX5_place 74 = .ok (.iadd, 1) := by decide +kernel
theorem dX5_place_75 : decode cX5_place 75 = .ok (.iaload, 1) := by decide +kernel
theorem dX5_place_76 : decode cX5_place 76 = .ok (.ireturn, 1) := by decide +kernel
set_option maxRecDepth 20000 in
theorem ggX5_longest_X5_in : GoodIn wsX5_longest wsX5_in := goodIn_r _ [7] (by decide +kernel) (by decide +kernel)
set_option maxRecDepth 20000 in
theorem gX5_longest_X5_in : GoodIn wsX5_longest (va_wsS RX5 76 yX5_in wsX5_in) := goodIn_app (goodIn_of _ (by decide +kernel)) ggX5_longest_X5_in
set_option maxRecDepth 20000 in
theorem ggX5_longest_X5_greater : GoodIn wsX5_longest wsX5_greater := goodIn_r _ [10] (by decide +kernel) (by decide +kernel)
set_option maxRecDepth 20000 in
theorem gX5_longest_X5_greater : GoodIn wsX5_longest (va_wsS RX5 93 yX5_greater wsX5_greater) := goodIn_app (goodIn_of _ (by decide +kernel)) ggX5_longest_X5_greater
theorem dX5_longest_0 : decode cX5_longest 0 = .ok (.iload_n 1, 1) := by decide +kernel
theorem dX5_longest_1 : decode cX5_longest 1 = .ok (.i2l, 1) := by decide +kernel
theorem dX5_longest_2 : decode cX5_longest 2 = .ok (.lconst 0, 1) := by decide +kernel
theorem dX5_longest_3 : decode cX5_longest 3 = .ok (.lconst 1, 1) := by decide +kernel
theorem dX5_longest_4 : decode cX5_longest 4 = .ok (.invokestatic 76, 3) := by decide +kernel
theorem dX5_longest_7 : decode cX5_longest 7 = .ok (.ifCond .ne 5, 3) := by decide +kernel
theorem dX5_longest_10 : decode cX5_longest 10 = .ok (.iconst (-1), 1) := by decide +kernel
theorem dX5_longest_11 : decode cX5_longest 11 = .ok (.ireturn, 1) := by decide +kernel
theorem dX5_longest_12 : decode cX5_longest 12 = .ok (.iconst 0, 1) := by decide +kernel
theorem dX5_longest_13 : decode cX5_longest 13 = .ok (.istore_n 2, 1) := by decide +kernel
theorem dX5_longest_14 : decode cX5_longest 14 = .ok (.iconst 0, 1) := by decide +kernel
theorem dX5_longest_15 : decode cX5_longest 15 = .ok (.istore_n 3, 1) := by decide +kernel
theorem dX5_longest_16 : decode cX5_longest 16 = .ok (.iload_n 3, 1) := by decide +kernel
theorem dX5_longest_17 : decode cX5_longest 17 = .ok (.aload_n 0, 1) := by decide +kernel
theorem dX5_longest_18 : decode cX5_longest 18 = .ok (.getfield 110, 3) := by decide +kernel
theorem dX5_longest_21 : decode cX5_longest 21 = .ok (.if_icmp .ge 131, 3) := by decide +kernel
theorem dX5_longest_24 : decode cX5_longest 24 = .ok (.aload_n 0, 1) := by decide +kernel
theorem dX5_longest_25 : decode cX5_longest 25 = .ok (.getfield 51, 3) := by decide +kernel
theorem dX5_longest_28 : decode cX5_longest 28 = .ok (.iload_n 3, 1) := by decide +kernel
theorem dX5_longest_29 : decode cX5_longest 29 = .ok (.iconst 1, 1) := by decide +kernel
theorem dX5_longest_30 : decode cX5_longest 30 = .ok (.iastore, 1) := by decide +kernel
theorem dX5_longest_31 : decode cX5_longest 31 = .ok (.iconst 0, 1) := by decide +kernel
theorem dX5_longest_32 : decode cX5_longest 32 = .ok (.istore 4, 2) := by decide +kernel
theorem dX5_longest_34 : decode cX5_longest 34 = .ok (.iload 4, 2) := by decide +kernel
theorem dX5_longest_36 : decode cX5_longest 36 = .ok (.iload_n 3, 1) := by decide +kernel
theorem dX5_longest_37 : decode cX5_longest 37 = .ok (.if_icmp .ge 98, 3) := by decide +kernel
theorem dX5_longest_40 : decode cX5_longest 40 = .ok (.iload_n 1, 1) := by decide +kernel
theorem dX5_longest_41 : decode cX5_longest 41 = .ok (.ifCond .ne 27, 3) := by decide +kernel
theorem dX5_longest_44 : decode cX5_longest 44 = .ok (.aload_n 0, 1) := by decide +kernel
theorem dX5_longest_45 : decode cX5_longest 45 = .ok (.getfield 39, 3) := by decide +kernel
theorem dX5_longest_48 : decode cX5_longest 48 = .ok (.iload 4, 2) := by decide +kernel
theorem dX5_longest_50 : decode cX5_longest 50 = .ok (.iaload, 1) := by decide +kernel
theorem dX5_longest_51 : decode cX5_longest 51 = .ok (.aload_n 0, 1) := by decide +kernel
theorem dX5_longest_52 : decode cX5_longest 52 = .ok (.getfield 39, 3) := by decide +kernel
theorem dX5_longest_55 : decode cX5_longest 55 = .ok (.iload_n 3, 1) := by decide +kernel
theorem dX5_longest_56 : decode cX5_longest 56 = .ok (.iaload, 1) := by decide +kernel
theorem dX5_longest_57 : decode cX5_longest 57 = .ok (.if_icmp .gt 7, 3) := by decide +kernel
theorem dX5_longest_60 : decode cX5_longest 60 = .ok (.iconst 1, 1) := by decide +kernel
theorem dX5_longest_61 : decode cX5_longest 61 = .ok (.goto 28, 3) := by decide +kernel
theorem dX5_longest_64 : decode cX5_longest 64 = .ok (.iconst 0, 1) := by decide +kernel
theorem dX5_longest_65 : decode cX5_longest 65 = .ok (.goto 24, 3) := by decide +kernel
theorem dX5_longest_68 : decode cX5_longest 68 = .ok (.aload_n 0, 1) := by decide +kernel
theorem dX5_longest_69 : decode cX5_longest 69 = .ok (.getfield 39, 3) := by decide +kernel
theorem dX5_longest_72 : decode cX5_longest 72 = .ok (.iload 4, 2) := by decide +kernel
theorem dX5_longest_74 : decode cX5_longest 74 = .ok (.iaload, 1) := by decide +kernel
theorem dX5_longest_75 : decode cX5_longest 75 = .ok (.aload_n 0, 1) := by decide +kernel
theorem dX5_longest_76 : decode cX5_longest 76 = .ok (.getfield 39, 3) := by decide +kernel
theorem dX5_longest_79 : decode cX5_longest 79 = .ok (.iload_n 3, 1) := by decide +kernel
theorem dX5_longest_80 : decode cX5_longest 80 = .ok (.iaload, 1) := by decide +kernel
theorem dX5_longest_81 : decode cX5_longest 81 = .ok (.if_icmp .le 7, 3) := by decide +kernel
theorem dX5_longest_84 : decode cX5_longest 84 = .ok (.iconst 1, 1) := by decide +kernel
theorem dX5_longest_85 : decode cX5_longest 85 = .ok (.goto 4, 3) := by decide +kernel
theorem dX5_longest_88 : decode cX5_longest 88 = .ok (.iconst 0, 1) := by decide +kernel
theorem dX5_longest_89 : decode cX5_longest 89 = .ok (.istore 5, 2) := by decide +kernel
theorem dX5_longest_91 : decode cX5_longest 91 = .ok (.aload_n 0, 1) := by decide +kernel
theorem dX5_longest_92 : decode cX5_longest 92 = .ok (.getfield 51, 3) := by decide +kernel
theorem dX5_longest_95 : decode cX5_longest 95 = .ok (.iload_n 3, 1) := by decide +kernel
theorem dX5_longest_96 : decode cX5_longest 96 = .ok (.iload 5, 2) := by decide +kernel
theorem dX5_longest_98 : decode cX5_longest 98 = .ok (.ifCond .eq 24, 3) := by decide +kernel
theorem dX5_longest_101 : decode cX5_longest 101 = .ok (.aload_n 0, 1) := by decide +kernel
theorem dX5_longest_102 : decode cX5_longest 102 = .ok (.getfield 51, 3) := by decide +kernel
theorem dX5_longest_105 : decode cX5_longest 105 = .ok (.iload_n 3, 1) := by decide +kernel
theorem dX5_longest_106 : decode cX5_longest 106 = .ok (.iaload, 1) := by decide +kernel
theorem dX5_longest_107 : decode cX5_longest 107 = .ok (.aload_n 0, 1) := by decide +kernel
theorem dX5_longest_108 : decode cX5_longest 108 = .ok (.getfield 51, 3) := by decide +kernel
theorem dX5_longest_111 : decode cX5_longest 111 = .ok (.iload 4, 2) := by decide +kernel
theorem dX5_longest_113 : decode cX5_longest 113 = .ok (.iaload, 1) := by decide +kernel
theorem dX5_longest_114 : decode cX5_longest 114 = .ok (.iconst 1, 1) := by decide +kernel
theorem dX5_longest_115 : decode cX5_longest 115 = .ok (.iadd, 1) := by decide +kernel
theorem dX5_longest_116 : decode cX5_longest 116 = .ok (.invokestatic 93, 3) := by decide +kernel
theorem dX5_longest_119 : decode cX5_longest 119 = .ok (.goto 9, 3) := by decide +kernel
theorem dX5_longest_122 : decode cX5_longest 122 = .ok (.aload_n 0, 1) := by decide +kernel
theorem dX5_longest_123 : decode cX5_longest 123 = .ok (.getfield 51, 3) := by decide +kernel
theorem dX5_longest_126 : decode cX5_longest 126 = .ok (.iload_n 3, 1) := by decide +kernel
theorem dX5_longest_127 : decode cX5_longest 127 = .ok (.iaload, 1) := by decide +kernel
theorem dX5_longest_128 : decode cX5_longest 128 = .ok (.iastore, 1) := by decide +kernel
theorem dX5_longest_129 : decode cX5_longest 129 = .ok (.iinc 4 1, 3) := by decide +kernel
theorem dX5_longest_132 : decode cX5_longest 132 = .ok (.goto (-98), 3) := by decide +kernel
theorem dX5_longest_135 : decode cX5_longest 135 = .ok (.iload_n 2, 1) := by decide +kernel
theorem dX5_longest_136 : decode cX5_longest 136 = .ok (.aload_n 0, 1) := by decide +kernel
theorem dX5_longest_137 : decode cX5_longest 137 = .ok (.getfield 51, 3) := by decide +kernel
theorem dX5_longest_140 : decode cX5_longest 140 = .ok (.iload_n 3, 1) := by decide +kernel
theorem dX5_longest_141 : decode cX5_longest 141 = .ok (.iaload, 1) := by decide +kernel
theorem dX5_longest_142 : decode cX5_longest 142 = .ok (.invokestatic 93, 3) := by decide +kernel
theorem dX5_longest_145 : decode cX5_longest 145 = .ok (.istore_n 2, 1) := by decide +kernel
theorem dX5_longest_146 : decode cX5_longest 146 = .ok (.iinc 3 1, 3) := by decide +kernel
theorem dX5_longest_149 : decode cX5_longest 149 = .ok (.goto (-133), 3) := by decide +kernel
theorem dX5_longest_152 : decode cX5_longest 152 = .ok (.iload_n 2, 1) := by decide +kernel
theorem dX5_longest_153 : decode cX5_longest 153 = .ok (.ireturn, 1) := by decide +kernel
theorem dX5_total_0 : decode cX5_total 0 = .ok (.iconst 0, 1) := by decide +kernel
theorem dX5_total_1 : decode cX5_total 1 = .ok (.istore_n 1, 1) := by decide +kernel
theorem dX5_total_2 : decode cX5_total 2 = .ok (.iconst 0, 1) := by decide +kernel
theorem dX5_total_3 : decode cX5_total 3 = .ok (.istore_n 2, 1) := by decide +kernel
theorem dX5_total_4 : decode cX5_total 4 = .ok (.iload_n 2, 1) := by decide +kernel
theorem dX5_total_5 : decode cX5_total 5 = .ok (.bipush 9, 2) := by decide +kernel
theorem dX5_total_7 : decode cX5_total 7 = .ok (.if_icmp .ge 15, 3) := by decide +kernel
theorem dX5_total_10 : decode cX5_total 10 = .ok (.iload_n 1, 1) := by decide +kernel
theorem dX5_total_11 : decode cX5_total 11 = .ok (.aload_n 0, 1) := by decide +kernel
theorem dX5_total_12 : decode cX5_total 12 = .ok (.iload_n 2, 1) := by decide +kernel
theorem dX5_total_13 : decode cX5_total 13 = .ok (.iaload, 1) := by decide +kernel
theorem dX5_total_14 : decode cX5_total 14 = .ok (.iadd, 1) := by decide +kernel
theorem dX5_total_15 : decode cX5_total 15 = .ok (.istore_n 1, 1) := by decide +kernel
theorem dX5_total_16 : decode cX5_total 16 = .ok (.iinc 2 1, 3) := by decide +kernel
theorem dX5_total_19 : decode cX5_total 19 = .ok (.goto (-15), 3) := by decide +kernel
theorem dX5_total_22 : decode cX5_total 22 = .ok (.iload_n 1, 1) := by decide +kernel
theorem dX5_total_23 : decode cX5_total 23 = .ok (.ireturn, 1) := by decide +kernel
theorem dX5_manyRows_0 : decode cX5_manyRows 0 = .ok (.iconst 0, 1) := by decide +kernel
theorem dX5_manyRows_1 : decode cX5_manyRows 1 = .ok (.istore_n 1, 1) := by decide +kernel
theorem dX5_manyRows_2 : decode cX5_manyRows 2 = .ok (.iload_n 1, 1) := by decide +kernel
theorem dX5_manyRows_3 : decode cX5_manyRows 3 = .ok (.bipush 9, 2) := by decide +kernel
theorem dX5_manyRows_5 : decode cX5_manyRows 5 = .ok (.if_icmp .ge 15, 3) := by decide +kernel
theorem dX5_manyRows_8 : decode cX5_manyRows 8 = .ok (.aload_n 0, 1) := by decide +kernel
theorem dX5_manyRows_9 : decode cX5_manyRows 9 = .ok (.iload_n 1, 1) := by decide +kernel
theorem dX5_manyRows_10 : decode cX5_manyRows 10 = .ok (.iaload, 1) := by decide +kernel
theorem dX5_manyRows_11 : decode cX5_manyRows 11 = .ok (.ifCond .le 9, 3) := by decide +kernel
theorem dX5_manyRows_14 : decode cX5_manyRows 14 = .ok (.iinc 1 1, 3) := by decide +kernel
theorem dX5_manyRows_17 : decode cX5_manyRows 17 = .ok (.goto (-15), 3) := by decide +kernel
theorem dX5_manyRows_20 : decode cX5_manyRows 20 = .ok (.iload_n 1, 1) := by decide +kernel
theorem dX5_manyRows_21 : decode cX5_manyRows 21 = .ok (.ireturn, 1) := by decide +kernel
set_option maxRecDepth 20000 in
theorem ggX5_lay_X5_in : GoodIn wsX5_lay wsX5_in := goodIn_r _ [10] (by decide +kernel) (by decide +kernel)
set_option maxRecDepth 20000 in
theorem gX5_lay_X5_in : GoodIn wsX5_lay (va_wsS RX5 76 yX5_in wsX5_in) := goodIn_app (goodIn_of _ (by decide +kernel)) ggX5_lay_X5_in
set_option maxRecDepth 20000 in
theorem ggX5_lay_X5_manyRows : GoodIn wsX5_lay wsX5_manyRows := goodIn_r _ [13] (by decide +kernel) (by decide +kernel)
set_option maxRecDepth 20000 in
theorem gX5_lay_X5_manyRows : GoodIn wsX5_lay (va_wsS RX5 123 yX5_manyRows wsX5_manyRows) := goodIn_app (goodIn_of _ (by decide +kernel)) ggX5_lay_X5_manyRows
set_option maxRecDepth 20000 in
theorem ggX5_lay_X5_total : GoodIn wsX5_lay wsX5_total := goodIn_r _ [16] (by decide +kernel) (by decide +kernel)
set_option maxRecDepth 20000 in
theorem gX5_lay_X5_total : GoodIn wsX5_lay (va_wsS RX5 127 yX5_total wsX5_total) := goodIn_app (goodIn_of _ (by decide +kernel)) ggX5_lay_X5_total
theorem dX5_lay_0 : decode cX5_lay 0 = .ok (.iload_n 1, 1) := by decide +kernel
theorem dX5_lay_1 : decode cX5_lay 1 = .ok (.i2l, 1) := by decide +kernel
theorem dX5_lay_2 : decode cX5_lay 2 = .ok (.lconst 0, 1) := by decide +kernel
theorem dX5_lay_3 : decode cX5_lay 3 = .ok (.lconst 1, 1) := by decide +kernel
theorem dX5_lay_4 : decode cX5_lay 4 = .ok (.invokestatic 76, 3) := by decide +kernel
theorem dX5_lay_7 : decode cX5_lay 7 = .ok (.ifCond .eq 27, 3) := by decide +kernel
theorem dX5_lay_10 : decode cX5_lay 10 = .ok (.iload_n 3, 1) := by decide +kernel
theorem dX5_lay_11 : decode cX5_lay 11 = .ok (.i2l, 1) := by decide +kernel
theorem dX5_lay_12 : decode cX5_lay 12 = .ok (.lconst 1, 1) := by decide +kernel
theorem dX5_lay_13 : decode cX5_lay 13 = .ok (.ldc2_w 121, 3) := by decide +kernel
theorem dX5_lay_16 : decode cX5_lay 16 = .ok (.invokestatic 76, 3) := by decide +kernel
theorem dX5_lay_19 : decode cX5_lay 19 = .ok (.ifCond .eq 15, 3) := by decide +kernel
theorem dX5_lay_22 : decode cX5_lay 22 = .ok (.iload_n 2, 1) := by decide +kernel
theorem dX5_lay_23 : decode cX5_lay 23 = .ok (.i2l, 1) := by decide +kernel
theorem dX5_lay_24 : decode cX5_lay 24 = .ok (.lconst 0, 1) := by decide +kernel
theorem dX5_lay_25 : decode cX5_lay 25 = .ok (.ldc2_w 116, 3) := by decide +kernel
theorem dX5_lay_28 : decode cX5_lay 28 = .ok (.invokestatic 76, 3) := by decide +kernel
theorem dX5_lay_31 : decode cX5_lay 31 = .ok (.ifCond .ne 5, 3) := by decide +kernel
theorem dX5_lay_34 : decode cX5_lay 34 = .ok (.iconst (-1), 1) := by decide +kernel
theorem dX5_lay_35 : decode cX5_lay 35 = .ok (.ireturn, 1) := by decide +kernel
theorem dX5_lay_36 : decode cX5_lay 36 = .ok (.iload_n 1, 1) := by decide +kernel
theorem dX5_lay_37 : decode cX5_lay 37 = .ok (.ifCond .ne 10, 3) := by decide +kernel
theorem dX5_lay_40 : decode cX5_lay 40 = .ok (.aload_n 0, 1) := by decide +kernel
theorem dX5_lay_41 : decode cX5_lay 41 = .ok (.getfield 60, 3) := by decide +kernel
theorem dX5_lay_44 : decode cX5_lay 44 = .ok (.goto 7, 3) := by decide +kernel
theorem dX5_lay_47 : decode cX5_lay 47 = .ok (.aload_n 0, 1) := by decide +kernel
theorem dX5_lay_48 : decode cX5_lay 48 = .ok (.getfield 63, 3) := by decide +kernel
theorem dX5_lay_51 : decode cX5_lay 51 = .ok (.astore 4, 2) := by decide +kernel
theorem dX5_lay_53 : decode cX5_lay 53 = .ok (.iload_n 1, 1) := by decide +kernel
theorem dX5_lay_54 : decode cX5_lay 54 = .ok (.ifCond .ne 10, 3) := by decide +kernel
theorem dX5_lay_57 : decode cX5_lay 57 = .ok (.aload_n 0, 1) := by decide +kernel
theorem dX5_lay_58 : decode cX5_lay 58 = .ok (.getfield 54, 3) := by decide +kernel
theorem dX5_lay_61 : decode cX5_lay 61 = .ok (.goto 7, 3) := by decide +kernel
theorem dX5_lay_64 : decode cX5_lay 64 = .ok (.aload_n 0, 1) := by decide +kernel
theorem dX5_lay_65 : decode cX5_lay 65 = .ok (.getfield 57, 3) := by decide +kernel
theorem dX5_lay_68 : decode cX5_lay 68 = .ok (.astore 5, 2) := by decide +kernel
theorem dX5_lay_70 : decode cX5_lay 70 = .ok (.iload_n 2, 1) := by decide +kernel
theorem dX5_lay_71 : decode cX5_lay 71 = .ok (.aload 4, 2) := by decide +kernel
theorem dX5_lay_73 : decode cX5_lay 73 = .ok (.invokestatic 123, 3) := by decide +kernel
theorem dX5_lay_76 : decode cX5_lay 76 = .ok (.if_icmp .le 5, 3) := by decide +kernel
theorem dX5_lay_79 : decode cX5_lay 79 = .ok (.iconst (-1), 1) := by decide +kernel
theorem dX5_lay_80 : decode cX5_lay 80 = .ok (.ireturn, 1) := by decide +kernel
theorem dX5_lay_81 : decode cX5_lay 81 = .ok (.aload 4, 2) := by decide +kernel
theorem dX5_lay_83 : decode cX5_lay 83 = .ok (.invokestatic 127, 3) := by decide +kernel
theorem dX5_lay_86 : decode cX5_lay 86 = .ok (.bipush 40, 2) := by decide +kernel
theorem dX5_lay_88 : decode cX5_lay 88 = .ok (.if_icmp .ne 6, 3) := by decide +kernel
theorem dX5_lay_91 : decode cX5_lay 91 = .ok (.bipush (-3), 2) := by decide +kernel
theorem dX5_lay_93 : decode cX5_lay 93 = .ok (.ireturn, 1) := by decide +kernel
theorem dX5_lay_94 : decode cX5_lay 94 = .ok (.aload 5, 2) := by decide +kernel
theorem dX5_lay_96 : decode cX5_lay 96 = .ok (.bipush 40, 2) := by decide +kernel
theorem dX5_lay_98 : decode cX5_lay 98 = .ok (.iload_n 2, 1) := by decide +kernel
theorem dX5_lay_99 : decode cX5_lay 99 = .ok (.imul, 1) := by decide +kernel
theorem dX5_lay_100 : decode cX5_lay 100 = .ok (.aload 4, 2) := by decide +kernel
theorem dX5_lay_102 : decode cX5_lay 102 = .ok (.iload_n 2, 1) := by decide +kernel
theorem dX5_lay_103 : decode cX5_lay 103 = .ok (.iaload, 1) := by decide +kernel
theorem dX5_lay_104 : decode cX5_lay 104 = .ok (.iadd, 1) := by decide +kernel
theorem dX5_lay_105 : decode cX5_lay 105 = .ok (.iload_n 3, 1) := by decide +kernel
theorem dX5_lay_106 : decode cX5_lay 106 = .ok (.iastore, 1) := by decide +kernel
theorem dX5_lay_107 : decode cX5_lay 107 = .ok (.aload 4, 2) := by decide +kernel
theorem dX5_lay_109 : decode cX5_lay 109 = .ok (.iload_n 2, 1) := by decide +kernel
theorem dX5_lay_110 : decode cX5_lay 110 = .ok (.dup2, 1) := by decide +kernel
theorem dX5_lay_111 : decode cX5_lay 111 = .ok (.iaload, 1) := by decide +kernel
theorem dX5_lay_112 : decode cX5_lay 112 = .ok (.iconst 1, 1) := by decide +kernel
theorem dX5_lay_113 : decode cX5_lay 113 = .ok (.iadd, 1) := by decide +kernel
theorem dX5_lay_114 : decode cX5_lay 114 = .ok (.iastore, 1) := by decide +kernel
theorem dX5_lay_115 : decode cX5_lay 115 = .ok (.aload 4, 2) := by decide +kernel
theorem dX5_lay_117 : decode cX5_lay 117 = .ok (.iload_n 2, 1) := by decide +kernel
theorem dX5_lay_118 : decode cX5_lay 118 = .ok (.iaload, 1) := by decide +kernel
theorem dX5_lay_119 : decode cX5_lay 119 = .ok (.ireturn, 1) := by decide +kernel
set_option maxRecDepth 20000 in
theorem ggX5_unlay_X5_total : GoodIn wsX5_unlay wsX5_total := goodIn_r _ [6] (by decide +kernel) (by decide +kernel)
set_option maxRecDepth 20000 in
theorem gX5_unlay_X5_total : GoodIn wsX5_unlay (va_wsS RX5 127 yX5_total wsX5_total) := goodIn_app (goodIn_of _ (by decide +kernel)) ggX5_unlay_X5_total
theorem dX5_unlay_0 : decode cX5_unlay 0 = .ok (.aload_n 0, 1) := by decide +kernel
theorem dX5_unlay_1 : decode cX5_unlay 1 = .ok (.getfield 60, 3) := by decide +kernel
theorem dX5_unlay_4 : decode cX5_unlay 4 = .ok (.invokestatic 127, 3) := by decide +kernel
theorem dX5_unlay_7 : decode cX5_unlay 7 = .ok (.aload_n 0, 1) := by decide +kernel
theorem dX5_unlay_8 : decode cX5_unlay 8 = .ok (.getfield 63, 3) := by decide +kernel
theorem dX5_unlay_11 : decode cX5_unlay 11 = .ok (.invokestatic 127, 3) := by decide +kernel
theorem dX5_unlay_14 : decode cX5_unlay 14 = .ok (.iadd, 1) := by decide +kernel
theorem dX5_unlay_15 : decode cX5_unlay 15 = .ok (.istore_n 1, 1) := by decide +kernel
theorem dX5_unlay_16 : decode cX5_unlay 16 = .ok (.iconst 0, 1) := by decide +kernel
theorem dX5_unlay_17 : decode cX5_unlay 17 = .ok (.istore_n 2, 1) := by decide +kernel
theorem dX5_unlay_18 : decode cX5_unlay 18 = .ok (.iload_n 2, 1) := by decide +kernel
theorem dX5_unlay_19 : decode cX5_unlay 19 = .ok (.bipush 9, 2) := by decide +kernel
theorem dX5_unlay_21 : decode cX5_unlay 21 = .ok (.if_icmp .ge 23, 3) := by decide +kernel
theorem dX5_unlay_24 : decode cX5_unlay 24 = .ok (.aload_n 0, 1) := by decide +kernel
theorem dX5_unlay_25 : decode cX5_unlay 25 = .ok (.getfield 60, 3) := by decide +kernel
theorem dX5_unlay_28 : decode cX5_unlay 28 = .ok (.iload_n 2, 1) := by decide +kernel
theorem dX5_unlay_29 : decode cX5_unlay 29 = .ok (.iconst 0, 1) := by decide +kernel
theorem dX5_unlay_30 : decode cX5_unlay 30 = .ok (.iastore, 1) := by decide +kernel
theorem dX5_unlay_31 : decode cX5_unlay 31 = .ok (.aload_n 0, 1) := by decide +kernel
theorem dX5_unlay_32 : decode cX5_unlay 32 = .ok (.getfield 63, 3) := by decide +kernel
theorem dX5_unlay_35 : decode cX5_unlay 35 = .ok (.iload_n 2, 1) := by decide +kernel
theorem dX5_unlay_36 : decode cX5_unlay 36 = .ok (.iconst 0, 1) := by decide +kernel
theorem dX5_unlay_37 : decode cX5_unlay 37 = .ok (.iastore, 1) := by decide +kernel
theorem dX5_unlay_38 : decode cX5_unlay 38 = .ok (.iinc 2 1, 3) := by decide +kernel
theorem dX5_unlay_41 : decode cX5_unlay 41 = .ok (.goto (-23), 3) := by decide +kernel
theorem dX5_unlay_44 : decode cX5_unlay 44 = .ok (.iload_n 1, 1) := by decide +kernel
theorem dX5_unlay_45 : decode cX5_unlay 45 = .ok (.ireturn, 1) := by decide +kernel
set_option maxRecDepth 20000 in
theorem ggX5_areTableaux_X5_total : GoodIn wsX5_areTableaux wsX5_total := goodIn_r _ [9] (by decide +kernel) (by decide +kernel)
set_option maxRecDepth 20000 in
theorem gX5_areTableaux_X5_total : GoodIn wsX5_areTableaux (va_wsS RX5 127 yX5_total wsX5_total) := goodIn_app (goodIn_of _ (by decide +kernel)) ggX5_areTableaux_X5_total
theorem dX5_areTableaux_0 : decode cX5_areTableaux 0 = .ok (.aload_n 0, 1) := by decide +kernel
theorem dX5_areTableaux_1 : decode cX5_areTableaux 1 = .ok (.getfield 60, 3) := by decide +kernel
theorem dX5_areTableaux_4 : decode cX5_areTableaux 4 = .ok (.invokestatic 127, 3) := by decide +kernel
theorem dX5_areTableaux_7 : decode cX5_areTableaux 7 = .ok (.istore_n 1, 1) := by decide +kernel
theorem dX5_areTableaux_8 : decode cX5_areTableaux 8 = .ok (.iconst 1, 1) := by decide +kernel
theorem dX5_areTableaux_9 : decode cX5_areTableaux 9 = .ok (.istore_n 2, 1) := by decide +kernel
theorem dX5_areTableaux_10 : decode cX5_areTableaux 10 = .ok (.iconst 0, 1) := by decide +kernel
theorem dX5_areTableaux_11 : decode cX5_areTableaux 11 = .ok (.istore_n 3, 1) := by decide +kernel
theorem dX5_areTableaux_12 : decode cX5_areTableaux 12 = .ok (.iload_n 3, 1) := by decide +kernel
theorem dX5_areTableaux_13 : decode cX5_areTableaux 13 = .ok (.bipush 40, 2) := by decide +kernel
theorem dX5_areTableaux_15 : decode cX5_areTableaux 15 = .ok (.if_icmp .gt 16, 3) := by decide +kernel
theorem dX5_areTableaux_18 : decode cX5_areTableaux 18 = .ok (.aload_n 0, 1) := by decide +kernel
theorem dX5_areTableaux_19 : decode cX5_areTableaux 19 = .ok (.getfield 66, 3) := by decide +kernel
theorem dX5_areTableaux_22 : decode cX5_areTableaux 22 = .ok (.iload_n 3, 1) := by decide +kernel
theorem dX5_areTableaux_23 : decode cX5_areTableaux 23 = .ok (.iconst 0, 1) := by decide +kernel
theorem dX5_areTableaux_24 : decode cX5_areTableaux 24 = .ok (.bastore, 1) := by decide +kernel
theorem dX5_areTableaux_25 : decode cX5_areTableaux 25 = .ok (.iinc 3 1, 3) := by decide +kernel
theorem dX5_areTableaux_28 : decode cX5_areTableaux 28 = .ok (.goto (-16), 3) := by decide +kernel
theorem dX5_areTableaux_31 : decode cX5_areTableaux 31 = .ok (.iconst 0, 1) := by decide +kernel
theorem dX5_areTableaux_32 : decode cX5_areTableaux 32 = .ok (.istore_n 3, 1) := by decide +kernel
theorem dX5_areTableaux_33 : decode cX5_areTableaux 33 = .ok (.iload_n 3, 1) := by decide +kernel
theorem dX5_areTableaux_34 : decode cX5_areTableaux 34 = .ok (.bipush 9, 2) := by decide +kernel
theorem dX5_areTableaux_36 : decode cX5_areTableaux 36 = .ok (.if_icmp .ge 55, 3) := by decide +kernel
theorem dX5_areTableaux_39 : decode cX5_areTableaux 39 = .ok (.iload_n 2, 1) := by decide +kernel
theorem dX5_areTableaux_40 : decode cX5_areTableaux 40 = .ok (.ifCond .eq 43, 3) := by decide +kernel
theorem dX5_areTableaux_43 : decode cX5_areTableaux 43 = .ok (.aload_n 0, 1) := by decide +kernel
theorem dX5_areTableaux_44 : decode cX5_areTableaux 44 = .ok (.getfield 60, 3) := by decide +kernel
theorem dX5_areTableaux_47 : decode cX5_areTableaux 47 = .ok (.iload_n 3, 1) := by decide +kernel
theorem dX5_areTableaux_48 : decode cX5_areTableaux 48 = .ok (.iaload, 1) := by decide +kernel
theorem dX5_areTableaux_49 : decode cX5_areTableaux 49 = .ok (.aload_n 0, 1) := by decide +kernel
theorem dX5_areTableaux_50 : decode cX5_areTableaux 50 = .ok (.getfield 63, 3) := by decide +kernel
theorem dX5_areTableaux_53 : decode cX5_areTableaux 53 = .ok (.iload_n 3, 1) := by decide +kernel
theorem dX5_areTableaux_54 : decode cX5_areTableaux 54 = .ok (.iaload, 1) := by decide +kernel
theorem dX5_areTableaux_55 : decode cX5_areTableaux 55 = .ok (.if_icmp .ne 28, 3) := by decide +kernel
theorem dX5_areTableaux_58 : decode cX5_areTableaux 58 = .ok (.iload_n 3, 1) := by decide +kernel
theorem dX5_areTableaux_59 : decode cX5_areTableaux 59 = .ok (.ifCond .eq 20, 3) := by decide +kernel
theorem dX5_areTableaux_62 : decode cX5_areTableaux 62 = .ok (.aload_n 0, 1) := by decide +kernel
theorem dX5_areTableaux_63 : decode cX5_areTableaux 63 = .ok (.getfield 60, 3) := by decide +kernel
theorem dX5_areTableaux_66 : decode cX5_areTableaux 66 = .ok (.iload_n 3, 1) := by decide +kernel
theorem dX5_areTableaux_67 : decode cX5_areTableaux 67 = .ok (.iaload, 1) := by decide +kernel
theorem dX5_areTableaux_68 : decode cX5_areTableaux 68 = .ok (.aload_n 0, 1) := by decide +kernel
theorem dX5_areTableaux_69 : decode cX5_areTableaux 69 = .ok (.getfield 60, 3) := by decide +kernel
theorem dX5_areTableaux_72 : decode cX5_areTableaux 72 = .ok (.iload_n 3, 1) := by decide +kernel
theorem dX5_areTableaux_73 : decode cX5_areTableaux 73 = .ok (.iconst 1, 1) := by decide +kernel
theorem dX5_areTableaux_74 : decode cX5_areTableaux 74 = .ok (.isub, 1) := by decide +kernel
theorem dX5_areTableaux_75 : decode cX5_areTableaux 75 = .ok (.iaload, 1) := by decide +kernel
theorem dX5_areTableaux_76 : decode cX5_areTableaux 76 = .ok (.if_icmp .gt 7, 3) := by decide +kernel
theorem dX5_areTableaux_79 : decode cX5_areTableaux 79 = .ok (.iconst 1, 1) := by decide +kernel
theorem dX5_areTableaux_80 : decode cX5_areTableaux 80 = .ok (.goto 4, 3) := by decide +kernel
theorem dX5_areTableaux_83 : decode cX5_areTableaux 83 = .ok (.iconst 0, 1) := by decide +kernel
theorem dX5_areTableaux_84 : decode cX5_areTableaux 84 = .ok (.istore_n 2, 1) := by decide +kernel
theorem dX5_areTableaux_85 : decode cX5_areTableaux 85 = .ok (.iinc 3 1, 3) := by decide +kernel
theorem dX5_areTableaux_88 : decode cX5_areTableaux 88 = .ok (.goto (-55), 3) := by decide +kernel
theorem dX5_areTableaux_91 : decode cX5_areTableaux 91 = .ok (.iconst 0, 1) := by decide +kernel
theorem dX5_areTableaux_92 : decode cX5_areTableaux 92 = .ok (.istore_n 3, 1) := by decide +kernel
theorem dX5_areTableaux_93 : decode cX5_areTableaux 93 = .ok (.iload_n 3, 1) := by decide +kernel
theorem dX5_areTableaux_94 : decode cX5_areTableaux 94 = .ok (.bipush 9, 2) := by decide +kernel
theorem dX5_areTableaux_96 : decode cX5_areTableaux 96 = .ok (.if_icmp .ge 210, 3) := by decide +kernel
theorem dX5_areTableaux_99 : decode cX5_areTableaux 99 = .ok (.iload_n 2, 1) := by decide +kernel
theorem dX5_areTableaux_100 : decode cX5_areTableaux 100 = .ok (.ifCond .eq 206, 3) := by decide +kernel
theorem dX5_areTableaux_103 : decode cX5_areTableaux 103 = .ok (.iconst 0, 1) := by decide +kernel
theorem dX5_areTableaux_104 : decode cX5_areTableaux 104 = .ok (.istore 4, 2) := by decide +kernel
theorem dX5_areTableaux_106 : decode cX5_areTableaux 106 = .ok (.iload 4, 2) := by decide +kernel
theorem dX5_areTableaux_108 : decode cX5_areTableaux 108 = .ok (.aload_n 0, 1) := by decide +kernel
theorem dX5_areTableaux_109 : decode cX5_areTableaux 109 = .ok (.getfield 60, 3) := by decide +kernel
theorem dX5_areTableaux_112 : decode cX5_areTableaux 112 = .ok (.iload_n 3, 1) := by decide +kernel
theorem dX5_areTableaux_113 : decode cX5_areTableaux 113 = .ok (.iaload, 1) := by decide +kernel
theorem dX5_areTableaux_114 : decode cX5_areTableaux 114 = .ok (.if_icmp .ge 186, 3) := by decide +kernel
theorem dX5_areTableaux_117 : decode cX5_areTableaux 117 = .ok (.bipush 40, 2) := by decide +kernel
theorem dX5_areTableaux_119 : decode cX5_areTableaux 119 = .ok (.iload_n 3, 1) := by decide +kernel
theorem dX5_areTableaux_120 : decode cX5_areTableaux 120 = .ok (.imul, 1) := by decide +kernel
theorem dX5_areTableaux_121 : decode cX5_areTableaux 121 = .ok (.iload 4, 2) := by decide +kernel
theorem dX5_areTableaux_123 : decode cX5_areTableaux 123 = .ok (.iadd, 1) := by decide +kernel
theorem dX5_areTableaux_124 : decode cX5_areTableaux 124 = .ok (.istore 5, 2) := by decide +kernel
theorem dX5_areTableaux_126 : decode cX5_areTableaux 126 = .ok (.iload_n 2, 1) := by decide +kernel
theorem dX5_areTableaux_127 : decode cX5_areTableaux 127 = .ok (.ifCond .eq 45, 3) := by decide +kernel
theorem dX5_areTableaux_130 : decode cX5_areTableaux 130 = .ok (.aload_n 0, 1) := by decide +kernel
theorem dX5_areTableaux_131 : decode cX5_areTableaux 131 = .ok (.getfield 54, 3) := by decide +kernel
theorem dX5_areTableaux_134 : decode cX5_areTableaux 134 = .ok (.iload 5, 2) := by decide +kernel
theorem dX5_areTableaux_136 : decode cX5_areTableaux 136 = .ok (.iaload, 1) := by decide +kernel
theorem dX5_areTableaux_137 : decode cX5_areTableaux 137 = .ok (.bipush 9, 2) := by decide +kernel
theorem dX5_areTableaux_139 : decode cX5_areTableaux 139 = .ok (.if_icmp .gt 33, 3) := by decide +kernel
theorem dX5_areTableaux_142 : decode cX5_areTableaux 142 = .ok (.aload_n 0, 1) := by decide +kernel
theorem dX5_areTableaux_143 : decode cX5_areTableaux 143 = .ok (.getfield 57, 3) := by decide +kernel
theorem dX5_areTableaux_146 : decode cX5_areTableaux 146 = .ok (.iload 5, 2) := by decide +kernel
theorem dX5_areTableaux_148 : decode cX5_areTableaux 148 = .ok (.iaload, 1) := by decide +kernel
theorem dX5_areTableaux_149 : decode cX5_areTableaux 149 = .ok (.iload_n 1, 1) := by decide +kernel
theorem dX5_areTableaux_150 : decode cX5_areTableaux 150 = .ok (.if_icmp .gt 22, 3) := by decide +kernel
theorem dX5_areTableaux_153 : decode cX5_areTableaux 153 = .ok (.aload_n 0, 1) := by decide +kernel
theorem dX5_areTableaux_154 : decode cX5_areTableaux 154 = .ok (.getfield 66, 3) := by decide +kernel
theorem dX5_areTableaux_157 : decode cX5_areTableaux 157 = .ok (.aload_n 0, 1) := by decide +kernel
theorem dX5_areTableaux_158 : decode cX5_areTableaux 158 = .ok (.getfield 57, 3) := by decide +kernel
theorem dX5_areTableaux_161 : decode cX5_areTableaux 161 = .ok (.iload 5, 2) := by decide +kernel
theorem dX5_areTableaux_163 : decode cX5_areTableaux 163 = .ok (.iaload, 1) := by decide +kernel
theorem dX5_areTableaux_164 : decode cX5_areTableaux 164 = .ok (.baload, 1) := by decide +kernel
theorem dX5_areTableaux_165 : decode cX5_areTableaux 165 = .ok (.ifCond .ne 7, 3) := by decide +kernel
theorem dX5_areTableaux_168 : decode cX5_areTableaux 168 = .ok (.iconst 1, 1) := by decide +kernel
theorem dX5_areTableaux_169 : decode cX5_areTableaux 169 = .ok (.goto 4, 3) := by decide +kernel
theorem dX5_areTableaux_172 : decode cX5_areTableaux 172 = .ok (.iconst 0, 1) := by decide +kernel
theorem dX5_areTableaux_173 : decode cX5_areTableaux 173 = .ok (.istore_n 2, 1) := by decide +kernel
theorem dX5_areTableaux_174 : decode cX5_areTableaux 174 = .ok (.aload_n 0, 1) := by decide +kernel
theorem dX5_areTableaux_175 : decode cX5_areTableaux 175 = .ok (.getfield 66, 3) := by decide +kernel
theorem dX5_areTableaux_178 : decode cX5_areTableaux 178 = .ok (.aload_n 0, 1) := by decide +kernel
theorem dX5_areTableaux_179 : decode cX5_areTableaux 179 = .ok (.getfield 57, 3) := by decide +kernel
theorem dX5_areTableaux_182 : decode cX5_areTableaux 182 = .ok (.iload 5, 2) := by decide +kernel
theorem dX5_areTableaux_184 : decode cX5_areTableaux 184 = .ok (.iaload, 1) := by decide +kernel
theorem dX5_areTableaux_185 : decode cX5_areTableaux 185 = .ok (.iconst 1, 1) := by decide +kernel
theorem dX5_areTableaux_186 : decode cX5_areTableaux 186 = .ok (.bastore, 1) := by decide +kernel
theorem dX5_areTableaux_187 : decode cX5_areTableaux 187 = .ok (.iload_n 2, 1) := by decide +kernel
theorem dX5_areTableaux_188 : decode cX5_areTableaux 188 = .ok (.ifCond .eq 50, 3) := by decide +kernel
theorem dX5_areTableaux_191 : decode cX5_areTableaux 191 = .ok (.iload 4, 2) := by decide +kernel
theorem dX5_areTableaux_193 : decode cX5_areTableaux 193 = .ok (.ifCond .eq 41, 3) := by decide +kernel
theorem dX5_areTableaux_196 : decode cX5_areTableaux 196 = .ok (.aload_n 0, 1) := by decide +kernel
theorem dX5_areTableaux_197 : decode cX5_areTableaux 197 = .ok (.getfield 54, 3) := by decide +kernel
theorem dX5_areTableaux_200 : decode cX5_areTableaux 200 = .ok (.iload 5, 2) := by decide +kernel
theorem dX5_areTableaux_202 : decode cX5_areTableaux 202 = .ok (.iaload, 1) := by decide +kernel
theorem dX5_areTableaux_203 : decode cX5_areTableaux 203 = .ok (.aload_n 0, 1) := by decide +kernel
theorem dX5_areTableaux_204 : decode cX5_areTableaux 204 = .ok (.getfield 54, 3) := by decide +kernel
theorem dX5_areTableaux_207 : decode cX5_areTableaux 207 = .ok (.iload 5, 2) := by decide +kernel
theorem dX5_areTableaux_209 : decode cX5_areTableaux 209 = .ok (.iconst 1, 1) := by decide +kernel
theorem dX5_areTableaux_210 : decode cX5_areTableaux 210 = .ok (.isub, 1) := by decide +kernel
theorem dX5_areTableaux_211 : decode cX5_areTableaux 211 = .ok (.iaload, 1) := by decide +kernel
theorem dX5_areTableaux_212 : decode cX5_areTableaux 212 = .ok (.if_icmp .lt 26, 3) := by decide +kernel
theorem dX5_areTableaux_215 : decode cX5_areTableaux 215 = .ok (.aload_n 0, 1) := by decide +kernel
theorem dX5_areTableaux_216 : decode cX5_areTableaux 216 = .ok (.getfield 57, 3) := by decide +kernel
theorem dX5_areTableaux_219 : decode cX5_areTableaux 219 = .ok (.iload 5, 2) := by decide +kernel
theorem dX5_areTableaux_221 : decode cX5_areTableaux 221 = .ok (.iaload, 1) := by decide +kernel
theorem dX5_areTableaux_222 : decode cX5_areTableaux 222 = .ok (.aload_n 0, 1) := by decide +kernel
theorem dX5_areTableaux_223 : decode cX5_areTableaux 223 = .ok (.getfield 57, 3) := by decide +kernel
theorem dX5_areTableaux_226 : decode cX5_areTableaux 226 = .ok (.iload 5, 2) := by decide +kernel
theorem dX5_areTableaux_228 : decode cX5_areTableaux 228 = .ok (.iconst 1, 1) := by decide +kernel
theorem dX5_areTableaux_229 : decode cX5_areTableaux 229 = .ok (.isub, 1) := by decide +kernel
theorem dX5_areTableaux_230 : decode cX5_areTableaux 230 = .ok (.iaload, 1) := by decide +kernel
theorem dX5_areTableaux_231 : decode cX5_areTableaux 231 = .ok (.if_icmp .le 7, 3) := by decide +kernel
theorem dX5_areTableaux_234 : decode cX5_areTableaux 234 = .ok (.iconst 1, 1) := by decide +kernel
theorem dX5_areTableaux_235 : decode cX5_areTableaux 235 = .ok (.goto 4, 3) := by decide +kernel
theorem dX5_areTableaux_238 : decode cX5_areTableaux 238 = .ok (.iconst 0, 1) := by decide +kernel
theorem dX5_areTableaux_239 : decode cX5_areTableaux 239 = .ok (.istore_n 2, 1) := by decide +kernel
theorem dX5_areTableaux_240 : decode cX5_areTableaux 240 = .ok (.iload_n 2, 1) := by decide +kernel
theorem dX5_areTableaux_241 : decode cX5_areTableaux 241 = .ok (.ifCond .eq 51, 3) := by decide +kernel
theorem dX5_areTableaux_244 : decode cX5_areTableaux 244 = .ok (.iload_n 3, 1) := by decide +kernel
theorem dX5_areTableaux_245 : decode cX5_areTableaux 245 = .ok (.ifCond .eq 43, 3) := by decide +kernel
theorem dX5_areTableaux_248 : decode cX5_areTableaux 248 = .ok (.aload_n 0, 1) := by decide +kernel
theorem dX5_areTableaux_249 : decode cX5_areTableaux 249 = .ok (.getfield 54, 3) := by decide +kernel
theorem dX5_areTableaux_252 : decode cX5_areTableaux 252 = .ok (.iload 5, 2) := by decide +kernel
theorem dX5_areTableaux_254 : decode cX5_areTableaux 254 = .ok (.iaload, 1) := by decide +kernel
theorem dX5_areTableaux_255 : decode cX5_areTableaux 255 = .ok (.aload_n 0, 1) := by decide +kernel
theorem dX5_areTableaux_256 : decode cX5_areTableaux 256 = .ok (.getfield 54, 3) := by decide +kernel
theorem dX5_areTableaux_259 : decode cX5_areTableaux 259 = .ok (.iload 5, 2) := by decide +kernel
theorem dX5_areTableaux_261 : decode cX5_areTableaux 261 = .ok (.bipush 40, 2) := by decide +kernel
theorem dX5_areTableaux_263 : decode cX5_areTableaux 263 = .ok (.isub, 1) := by decide +kernel
theorem dX5_areTableaux_264 : decode cX5_areTableaux 264 = .ok (.iaload, 1) := by decide +kernel
theorem dX5_areTableaux_265 : decode cX5_areTableaux 265 = .ok (.if_icmp .le 27, 3) := by decide +kernel
theorem dX5_areTableaux_268 : decode cX5_areTableaux 268 = .ok (.aload_n 0, 1) := by decide +kernel
theorem dX5_areTableaux_269 : decode cX5_areTableaux 269 = .ok (.getfield 57, 3) := by decide +kernel
theorem dX5_areTableaux_272 : decode cX5_areTableaux 272 = .ok (.iload 5, 2) := by decide +kernel
theorem dX5_areTableaux_274 : decode cX5_areTableaux 274 = .ok (.iaload, 1) := by decide +kernel
theorem dX5_areTableaux_275 : decode cX5_areTableaux 275 = .ok (.aload_n 0, 1) := by decide +kernel
theorem dX5_areTableaux_276 : decode cX5_areTableaux 276 = .ok (.getfield 57, 3) := by decide +kernel
theorem dX5_areTableaux_279 : decode cX5_areTableaux 279 = .ok (.iload 5, 2) := by decide +kernel
theorem dX5_areTableaux_281 : decode cX5_areTableaux 281 = .ok (.bipush 40, 2) := by decide +kernel
theorem dX5_areTableaux_283 : decode cX5_areTableaux 283 = .ok (.isub, 1) := by decide +kernel
theorem dX5_areTableaux_284 : decode cX5_areTableaux 284 = .ok (.iaload, 1) := by decide +kernel
theorem dX5_areTableaux_285 : decode cX5_areTableaux 285 = .ok (.if_icmp .le 7, 3) := by decide +kernel
theorem dX5_areTableaux_288 : decode cX5_areTableaux 288 = .ok (.iconst 1, 1) := by decide +kernel
theorem dX5_areTableaux_289 : decode cX5_areTableaux 289 = .ok (.goto 4, 3) := by decide +kernel
theorem dX5_areTableaux_292 : decode cX5_areTableaux 292 = .ok (.iconst 0, 1) := by decide +kernel
theorem dX5_areTableaux_293 : decode cX5_areTableaux 293 = .ok (.istore_n 2, 1) := by decide +kernel
theorem dX5_areTableaux_294 : decode cX5_areTableaux 294 = .ok (.iinc 4 1, 3) := by decide +kernel
theorem dX5_areTableaux_297 : decode cX5_areTableaux 297 = .ok (.goto (-191), 3) := by decide +kernel
theorem dX5_areTableaux_300 : decode cX5_areTableaux 300 = .ok (.iinc 3 1, 3) := by decide +kernel
theorem dX5_areTableaux_303 : decode cX5_areTableaux 303 = .ok (.goto (-210), 3) := by decide +kernel
theorem dX5_areTableaux_306 : decode cX5_areTableaux 306 = .ok (.iload_n 2, 1) := by decide +kernel
theorem dX5_areTableaux_307 : decode cX5_areTableaux 307 = .ok (.ireturn, 1) := by decide +kernel
set_option maxRecDepth 20000 in
theorem ggX5_back_X5_areTableaux : GoodIn wsX5_back wsX5_areTableaux := goodIn_r _ [11, 1, 12, 3, 5, 4, 13, 14, 10, 15, 16, 17, 18, 19, 20, 21, 22, 23, 24, 25, 26, 27, 28, 29, 30, 31, 32, 33, 34, 35, 36, 37] (by decide +kernel) (by decide +kernel)
set_option maxRecDepth 20000 in
theorem gX5_back_X5_areTableaux : GoodIn wsX5_back (wsV RX5 130 RX5 yX5_areTableaux wsX5_areTableaux) := goodIn_app (goodIn_of _ (by decide +kernel)) ggX5_back_X5_areTableaux
set_option maxRecDepth 20000 in
theorem ggX5_back_X5_total : GoodIn wsX5_back wsX5_total := goodIn_r _ [15] (by decide +kernel) (by decide +kernel)
set_option maxRecDepth 20000 in
theorem gX5_back_X5_total : GoodIn wsX5_back (va_wsS RX5 127 yX5_total wsX5_total) := goodIn_app (goodIn_of _ (by decide +kernel)) ggX5_back_X5_total
theorem dX5_back_0 : decode cX5_back 0 = .ok (.aload_n 0, 1) := by decide +kernel
theorem dX5_back_1 : decode cX5_back 1 = .ok (.invokevirtual 130, 3) := by decide +kernel
theorem dX5_back_4 : decode cX5_back 4 = .ok (.ifCond .ne 6, 3) := by decide +kernel
theorem dX5_back_7 : decode cX5_back 7 = .ok (.bipush (-2), 2) := by decide +kernel
theorem dX5_back_9 : decode cX5_back 9 = .ok (.ireturn, 1) := by decide +kernel
theorem dX5_back_10 : decode cX5_back 10 = .ok (.aload_n 0, 1) := by decide +kernel
theorem dX5_back_11 : decode cX5_back 11 = .ok (.aload_n 0, 1) := by decide +kernel
theorem dX5_back_12 : decode cX5_back 12 = .ok (.getfield 60, 3) := by decide +kernel
theorem dX5_back_15 : decode cX5_back 15 = .ok (.invokestatic 127, 3) := by decide +kernel
theorem dX5_back_18 : decode cX5_back 18 = .ok (.putfield 110, 3) := by decide +kernel
theorem dX5_back_21 : decode cX5_back 21 = .ok (.aload_n 0, 1) := by decide +kernel
theorem dX5_back_22 : decode cX5_back 22 = .ok (.getfield 110, 3) := by decide +kernel
theorem dX5_back_25 : decode cX5_back 25 = .ok (.istore_n 1, 1) := by decide +kernel
theorem dX5_back_26 : decode cX5_back 26 = .ok (.iload_n 1, 1) := by decide +kernel
theorem dX5_back_27 : decode cX5_back 27 = .ok (.iconst 1, 1) := by decide +kernel
theorem dX5_back_28 : decode cX5_back 28 = .ok (.if_icmp .lt 176, 3) := by decide +kernel
theorem dX5_back_31 : decode cX5_back 31 = .ok (.iconst 0, 1) := by decide +kernel
theorem dX5_back_32 : decode cX5_back 32 = .ok (.istore_n 2, 1) := by decide +kernel
theorem dX5_back_33 : decode cX5_back 33 = .ok (.aload_n 0, 1) := by decide +kernel
theorem dX5_back_34 : decode cX5_back 34 = .ok (.getfield 63, 3) := by decide +kernel
theorem dX5_back_37 : decode cX5_back 37 = .ok (.iload_n 2, 1) := by decide +kernel
theorem dX5_back_38 : decode cX5_back 38 = .ok (.iaload, 1) := by decide +kernel
theorem dX5_back_39 : decode cX5_back 39 = .ok (.ifCond .eq 25, 3) := by decide +kernel
theorem dX5_back_42 : decode cX5_back 42 = .ok (.aload_n 0, 1) := by decide +kernel
theorem dX5_back_43 : decode cX5_back 43 = .ok (.getfield 57, 3) := by decide +kernel
theorem dX5_back_46 : decode cX5_back 46 = .ok (.bipush 40, 2) := by decide +kernel
theorem dX5_back_48 : decode cX5_back 48 = .ok (.iload_n 2, 1) := by decide +kernel
theorem dX5_back_49 : decode cX5_back 49 = .ok (.imul, 1) := by decide +kernel
theorem dX5_back_50 : decode cX5_back 50 = .ok (.aload_n 0, 1) := by decide +kernel
theorem dX5_back_51 : decode cX5_back 51 = .ok (.getfield 63, 3) := by decide +kernel
theorem dX5_back_54 : decode cX5_back 54 = .ok (.iload_n 2, 1) := by decide +kernel
theorem dX5_back_55 : decode cX5_back 55 = .ok (.iaload, 1) := by decide +kernel
theorem dX5_back_56 : decode cX5_back 56 = .ok (.iadd, 1) := by decide +kernel
theorem dX5_back_57 : decode cX5_back 57 = .ok (.iconst 1, 1) := by decide +kernel
theorem dX5_back_58 : decode cX5_back 58 = .ok (.isub, 1) := by decide +kernel
theorem dX5_back_59 : decode cX5_back 59 = .ok (.iaload, 1) := by decide +kernel
theorem dX5_back_60 : decode cX5_back 60 = .ok (.iload_n 1, 1) := by decide +kernel
theorem dX5_back_61 : decode cX5_back 61 = .ok (.if_icmp .eq 9, 3) := by decide +kernel
theorem dX5_back_64 : decode cX5_back 64 = .ok (.iinc 2 1, 3) := by decide +kernel
theorem dX5_back_67 : decode cX5_back 67 = .ok (.goto (-34), 3) := by decide +kernel
theorem dX5_back_70 : decode cX5_back 70 = .ok (.aload_n 0, 1) := by decide +kernel
theorem dX5_back_71 : decode cX5_back 71 = .ok (.getfield 63, 3) := by decide +kernel
theorem dX5_back_74 : decode cX5_back 74 = .ok (.iload_n 2, 1) := by decide +kernel
theorem dX5_back_75 : decode cX5_back 75 = .ok (.dup2, 1) := by decide +kernel
theorem dX5_back_76 : decode cX5_back 76 = .ok (.iaload, 1) := by decide +kernel
theorem dX5_back_77 : decode cX5_back 77 = .ok (.iconst 1, 1) := by decide +kernel
theorem dX5_back_78 : decode cX5_back 78 = .ok (.isub, 1) := by decide +kernel
theorem dX5_back_79 : decode cX5_back 79 = .ok (.iastore, 1) := by decide +kernel
theorem dX5_back_80 : decode cX5_back 80 = .ok (.aload_n 0, 1) := by decide +kernel
theorem dX5_back_81 : decode cX5_back 81 = .ok (.getfield 60, 3) := by decide +kernel
theorem dX5_back_84 : decode cX5_back 84 = .ok (.iload_n 2, 1) := by decide +kernel
theorem dX5_back_85 : decode cX5_back 85 = .ok (.dup2, 1) := by decide +kernel
theorem dX5_back_86 : decode cX5_back 86 = .ok (.iaload, 1) := by decide +kernel
theorem dX5_back_87 : decode cX5_back 87 = .ok (.iconst 1, 1) := by decide +kernel
theorem dX5_back_88 : decode cX5_back 88 = .ok (.isub, 1) := by decide +kernel
theorem dX5_back_89 : decode cX5_back 89 = .ok (.iastore, 1) := by decide +kernel
theorem dX5_back_90 : decode cX5_back 90 = .ok (.aload_n 0, 1) := by decide +kernel
theorem dX5_back_91 : decode cX5_back 91 = .ok (.getfield 54, 3) := by decide +kernel
theorem dX5_back_94 : decode cX5_back 94 = .ok (.bipush 40, 2) := by decide +kernel
theorem dX5_back_96 : decode cX5_back 96 = .ok (.iload_n 2, 1) := by decide +kernel
theorem dX5_back_97 : decode cX5_back 97 = .ok (.imul, 1) := by decide +kernel
theorem dX5_back_98 : decode cX5_back 98 = .ok (.aload_n 0, 1) := by decide +kernel
theorem dX5_back_99 : decode cX5_back 99 = .ok (.getfield 60, 3) := by decide +kernel
theorem dX5_back_102 : decode cX5_back 102 = .ok (.iload_n 2, 1) := by decide +kernel
theorem dX5_back_103 : decode cX5_back 103 = .ok (.iaload, 1) := by decide +kernel
theorem dX5_back_104 : decode cX5_back 104 = .ok (.iadd, 1) := by decide +kernel
theorem dX5_back_105 : decode cX5_back 105 = .ok (.iaload, 1) := by decide +kernel
theorem dX5_back_106 : decode cX5_back 106 = .ok (.istore_n 3, 1) := by decide +kernel
theorem dX5_back_107 : decode cX5_back 107 = .ok (.iload_n 2, 1) := by decide +kernel
theorem dX5_back_108 : decode cX5_back 108 = .ok (.iconst 1, 1) := by decide +kernel
theorem dX5_back_109 : decode cX5_back 109 = .ok (.isub, 1) := by decide +kernel
theorem dX5_back_110 : decode cX5_back 110 = .ok (.istore 4, 2) := by decide +kernel
theorem dX5_back_112 : decode cX5_back 112 = .ok (.iload 4, 2) := by decide +kernel
theorem dX5_back_114 : decode cX5_back 114 = .ok (.ifCond .lt 75, 3) := by decide +kernel
theorem dX5_back_117 : decode cX5_back 117 = .ok (.aload_n 0, 1) := by decide +kernel
theorem dX5_back_118 : decode cX5_back 118 = .ok (.getfield 60, 3) := by decide +kernel
theorem dX5_back_121 : decode cX5_back 121 = .ok (.iload 4, 2) := by decide +kernel
theorem dX5_back_123 : decode cX5_back 123 = .ok (.iaload, 1) := by decide +kernel
theorem dX5_back_124 : decode cX5_back 124 = .ok (.iconst 1, 1) := by decide +kernel
theorem dX5_back_125 : decode cX5_back 125 = .ok (.isub, 1) := by decide +kernel
theorem dX5_back_126 : decode cX5_back 126 = .ok (.istore 5, 2) := by decide +kernel
theorem dX5_back_128 : decode cX5_back 128 = .ok (.aload_n 0, 1) := by decide +kernel
theorem dX5_back_129 : decode cX5_back 129 = .ok (.getfield 54, 3) := by decide +kernel
theorem dX5_back_132 : decode cX5_back 132 = .ok (.bipush 40, 2) := by decide +kernel
theorem dX5_back_134 : decode cX5_back 134 = .ok (.iload 4, 2) := by decide +kernel
theorem dX5_back_136 : decode cX5_back 136 = .ok (.imul, 1) := by decide +kernel
theorem dX5_back_137 : decode cX5_back 137 = .ok (.iload 5, 2) := by decide +kernel
theorem dX5_back_139 : decode cX5_back 139 = .ok (.iadd, 1) := by decide +kernel
theorem dX5_back_140 : decode cX5_back 140 = .ok (.iaload, 1) := by decide +kernel
theorem dX5_back_141 : decode cX5_back 141 = .ok (.iload_n 3, 1) := by decide +kernel
theorem dX5_back_142 : decode cX5_back 142 = .ok (.if_icmp .lt 9, 3) := by decide +kernel
theorem dX5_back_145 : decode cX5_back 145 = .ok (.iinc 5 (-1), 3) := by decide +kernel
theorem dX5_back_148 : decode cX5_back 148 = .ok (.goto (-20), 3) := by decide +kernel
theorem dX5_back_151 : decode cX5_back 151 = .ok (.aload_n 0, 1) := by decide +kernel
theorem dX5_back_152 : decode cX5_back 152 = .ok (.getfield 54, 3) := by decide +kernel
theorem dX5_back_155 : decode cX5_back 155 = .ok (.bipush 40, 2) := by decide +kernel
theorem dX5_back_157 : decode cX5_back 157 = .ok (.iload 4, 2) := by decide +kernel
theorem dX5_back_159 : decode cX5_back 159 = .ok (.imul, 1) := by decide +kernel
theorem dX5_back_160 : decode cX5_back 160 = .ok (.iload 5, 2) := by decide +kernel
theorem dX5_back_162 : decode cX5_back 162 = .ok (.iadd, 1) := by decide +kernel
theorem dX5_back_163 : decode cX5_back 163 = .ok (.iaload, 1) := by decide +kernel
theorem dX5_back_164 : decode cX5_back 164 = .ok (.istore 6, 2) := by decide +kernel
theorem dX5_back_166 : decode cX5_back 166 = .ok (.aload_n 0, 1) := by decide +kernel
theorem dX5_back_167 : decode cX5_back 167 = .ok (.getfield 54, 3) := by decide +kernel
theorem dX5_back_170 : decode cX5_back 170 = .ok (.bipush 40, 2) := by decide +kernel
theorem dX5_back_172 : decode cX5_back 172 = .ok (.iload 4, 2) := by decide +kernel
theorem dX5_back_174 : decode cX5_back 174 = .ok (.imul, 1) := by decide +kernel
theorem dX5_back_175 : decode cX5_back 175 = .ok (.iload 5, 2) := by decide +kernel
theorem dX5_back_177 : decode cX5_back 177 = .ok (.iadd, 1) := by decide +kernel
theorem dX5_back_178 : decode cX5_back 178 = .ok (.iload_n 3, 1) := by decide +kernel
theorem dX5_back_179 : decode cX5_back 179 = .ok (.iastore, 1) := by decide +kernel
theorem dX5_back_180 : decode cX5_back 180 = .ok (.iload 6, 2) := by decide +kernel
theorem dX5_back_182 : decode cX5_back 182 = .ok (.istore_n 3, 1) := by decide +kernel
theorem dX5_back_183 : decode cX5_back 183 = .ok (.iinc 4 (-1), 3) := by decide +kernel
theorem dX5_back_186 : decode cX5_back 186 = .ok (.goto (-74), 3) := by decide +kernel
theorem dX5_back_189 : decode cX5_back 189 = .ok (.aload_n 0, 1) := by decide +kernel
theorem dX5_back_190 : decode cX5_back 190 = .ok (.getfield 39, 3) := by decide +kernel
theorem dX5_back_193 : decode cX5_back 193 = .ok (.iload_n 1, 1) := by decide +kernel
theorem dX5_back_194 : decode cX5_back 194 = .ok (.iconst 1, 1) := by decide +kernel
theorem dX5_back_195 : decode cX5_back 195 = .ok (.isub, 1) := by decide +kernel
theorem dX5_back_196 : decode cX5_back 196 = .ok (.iload_n 3, 1) := by decide +kernel
theorem dX5_back_197 : decode cX5_back 197 = .ok (.iastore, 1) := by decide +kernel
theorem dX5_back_198 : decode cX5_back 198 = .ok (.iinc 1 (-1), 3) := by decide +kernel
theorem dX5_back_201 : decode cX5_back 201 = .ok (.goto (-175), 3) := by decide +kernel
theorem dX5_back_204 : decode cX5_back 204 = .ok (.aload_n 0, 1) := by decide +kernel
theorem dX5_back_205 : decode cX5_back 205 = .ok (.getfield 110, 3) := by decide +kernel
theorem dX5_back_208 : decode cX5_back 208 = .ok (.ireturn, 1) := by decide +kernel
theorem dX5_wordOf_0 : decode cX5_wordOf 0 = .ok (.iconst 0, 1) := by decide +kernel
theorem dX5_wordOf_1 : decode cX5_wordOf 1 = .ok (.istore_n 1, 1) := by decide +kernel
theorem dX5_wordOf_2 : decode cX5_wordOf 2 = .ok (.iconst 0, 1) := by decide +kernel
theorem dX5_wordOf_3 : decode cX5_wordOf 3 = .ok (.istore_n 2, 1) := by decide +kernel
theorem dX5_wordOf_4 : decode cX5_wordOf 4 = .ok (.iload_n 2, 1) := by decide +kernel
theorem dX5_wordOf_5 : decode cX5_wordOf 5 = .ok (.aload_n 0, 1) := by decide +kernel
theorem dX5_wordOf_6 : decode cX5_wordOf 6 = .ok (.getfield 7, 3) := by decide +kernel
theorem dX5_wordOf_9 : decode cX5_wordOf 9 = .ok (.if_icmp .ge 39, 3) := by decide +kernel
theorem dX5_wordOf_12 : decode cX5_wordOf 12 = .ok (.iconst 0, 1) := by decide +kernel
theorem dX5_wordOf_13 : decode cX5_wordOf 13 = .ok (.istore_n 3, 1) := by decide +kernel
theorem dX5_wordOf_14 : decode cX5_wordOf 14 = .ok (.iload_n 3, 1) := by decide +kernel
theorem dX5_wordOf_15 : decode cX5_wordOf 15 = .ok (.aload_n 0, 1) := by decide +kernel
theorem dX5_wordOf_16 : decode cX5_wordOf 16 = .ok (.getfield 13, 3) := by decide +kernel
theorem dX5_wordOf_19 : decode cX5_wordOf 19 = .ok (.if_icmp .ge 23, 3) := by decide +kernel
theorem dX5_wordOf_22 : decode cX5_wordOf 22 = .ok (.iload_n 1, 1) := by decide +kernel
theorem dX5_wordOf_23 : decode cX5_wordOf 23 = .ok (.aload_n 0, 1) := by decide +kernel
theorem dX5_wordOf_24 : decode cX5_wordOf 24 = .ok (.getfield 16, 3) := by decide +kernel
theorem dX5_wordOf_27 : decode cX5_wordOf 27 = .ok (.bipush 6, 2) := by decide +kernel
theorem dX5_wordOf_29 : decode cX5_wordOf 29 = .ok (.iload_n 2, 1) := by decide +kernel
theorem dX5_wordOf_30 : decode cX5_wordOf 30 = .ok (.imul, 1) := by decide +kernel
theorem dX5_wordOf_31 : decode cX5_wordOf 31 = .ok (.iload_n 3, 1) := by decide +kernel
theorem dX5_wordOf_32 : decode cX5_wordOf 32 = .ok (.iadd, 1) := by decide +kernel
theorem dX5_wordOf_33 : decode cX5_wordOf 33 = .ok (.iaload, 1) := by decide +kernel
theorem dX5_wordOf_34 : decode cX5_wordOf 34 = .ok (.iadd, 1) := by decide +kernel
theorem dX5_wordOf_35 : decode cX5_wordOf 35 = .ok (.istore_n 1, 1) := by decide +kernel
theorem dX5_wordOf_36 : decode cX5_wordOf 36 = .ok (.iinc 3 1, 3) := by decide +kernel
theorem dX5_wordOf_39 : decode cX5_wordOf 39 = .ok (.goto (-25), 3) := by decide +kernel
theorem dX5_wordOf_42 : decode cX5_wordOf 42 = .ok (.iinc 2 1, 3) := by decide +kernel
theorem dX5_wordOf_45 : decode cX5_wordOf 45 = .ok (.goto (-41), 3) := by decide +kernel
theorem dX5_wordOf_48 : decode cX5_wordOf 48 = .ok (.iload_n 1, 1) := by decide +kernel
theorem dX5_wordOf_49 : decode cX5_wordOf 49 = .ok (.bipush 40, 2) := by decide +kernel
theorem dX5_wordOf_51 : decode cX5_wordOf 51 = .ok (.if_icmp .le 6, 3) := by decide +kernel
theorem dX5_wordOf_54 : decode cX5_wordOf 54 = .ok (.bipush (-3), 2) := by decide +kernel
theorem dX5_wordOf_56 : decode cX5_wordOf 56 = .ok (.ireturn, 1) := by decide +kernel
theorem dX5_wordOf_57 : decode cX5_wordOf 57 = .ok (.aload_n 0, 1) := by decide +kernel
theorem dX5_wordOf_58 : decode cX5_wordOf 58 = .ok (.iconst 0, 1) := by decide +kernel
theorem dX5_wordOf_59 : decode cX5_wordOf 59 = .ok (.putfield 110, 3) := by decide +kernel
theorem dX5_wordOf_62 : decode cX5_wordOf 62 = .ok (.iconst 0, 1) := by decide +kernel
theorem dX5_wordOf_63 : decode cX5_wordOf 63 = .ok (.istore_n 2, 1) := by decide +kernel
theorem dX5_wordOf_64 : decode cX5_wordOf 64 = .ok (.iload_n 2, 1) := by decide +kernel
theorem dX5_wordOf_65 : decode cX5_wordOf 65 = .ok (.aload_n 0, 1) := by decide +kernel
theorem dX5_wordOf_66 : decode cX5_wordOf 66 = .ok (.getfield 7, 3) := by decide +kernel
theorem dX5_wordOf_69 : decode cX5_wordOf 69 = .ok (.if_icmp .ge 72, 3) := by decide +kernel
theorem dX5_wordOf_72 : decode cX5_wordOf 72 = .ok (.iconst 0, 1) := by decide +kernel
theorem dX5_wordOf_73 : decode cX5_wordOf 73 = .ok (.istore_n 3, 1) := by decide +kernel
theorem dX5_wordOf_74 : decode cX5_wordOf 74 = .ok (.iload_n 3, 1) := by decide +kernel
theorem dX5_wordOf_75 : decode cX5_wordOf 75 = .ok (.aload_n 0, 1) := by decide +kernel
theorem dX5_wordOf_76 : decode cX5_wordOf 76 = .ok (.getfield 13, 3) := by decide +kernel
theorem dX5_wordOf_79 : decode cX5_wordOf 79 = .ok (.if_icmp .ge 56, 3) := by decide +kernel
theorem dX5_wordOf_82 : decode cX5_wordOf 82 = .ok (.iconst 0, 1) := by decide +kernel
theorem dX5_wordOf_83 : decode cX5_wordOf 83 = .ok (.istore 4, 2) := by decide +kernel
theorem dX5_wordOf_85 : decode cX5_wordOf 85 = .ok (.iload 4, 2) := by decide +kernel
theorem dX5_wordOf_87 : decode cX5_wordOf 87 = .ok (.aload_n 0, 1) := by decide +kernel
theorem dX5_wordOf_88 : decode cX5_wordOf 88 = .ok (.getfield 16, 3) := by decide +kernel
theorem dX5_wordOf_91 : decode cX5_wordOf 91 = .ok (.bipush 6, 2) := by decide +kernel
theorem dX5_wordOf_93 : decode cX5_wordOf 93 = .ok (.iload_n 2, 1) := by decide +kernel
theorem dX5_wordOf_94 : decode cX5_wordOf 94 = .ok (.imul, 1) := by decide +kernel
theorem dX5_wordOf_95 : decode cX5_wordOf 95 = .ok (.iload_n 3, 1) := by decide +kernel
theorem dX5_wordOf_96 : decode cX5_wordOf 96 = .ok (.iadd, 1) := by decide +kernel
theorem dX5_wordOf_97 : decode cX5_wordOf 97 = .ok (.iaload, 1) := by decide +kernel
theorem dX5_wordOf_98 : decode cX5_wordOf 98 = .ok (.if_icmp .ge 31, 3) := by decide +kernel
theorem dX5_wordOf_101 : decode cX5_wordOf 101 = .ok (.aload_n 0, 1) := by decide +kernel
theorem dX5_wordOf_102 : decode cX5_wordOf 102 = .ok (.getfield 39, 3) := by decide +kernel
theorem dX5_wordOf_105 : decode cX5_wordOf 105 = .ok (.aload_n 0, 1) := by decide +kernel
theorem dX5_wordOf_106 : decode cX5_wordOf 106 = .ok (.getfield 110, 3) := by decide +kernel
theorem dX5_wordOf_109 : decode cX5_wordOf 109 = .ok (.iload_n 3, 1) := by decide +kernel
theorem dX5_wordOf_110 : decode cX5_wordOf 110 = .ok (.iconst 1, 1) := by decide +kernel
theorem dX5_wordOf_111 : decode cX5_wordOf 111 = .ok (.iadd, 1) := by decide +kernel
theorem dX5_wordOf_112 : decode cX5_wordOf 112 = .ok (.iastore, 1) := by decide +kernel
theorem dX5_wordOf_113 : decode cX5_wordOf 113 = .ok (.aload_n 0, 1) := by decide +kernel
theorem dX5_wordOf_114 : decode cX5_wordOf 114 = .ok (.dup, 1) := by decide +kernel
theorem dX5_wordOf_115 : decode cX5_wordOf 115 = .ok (.getfield 110, 3) := by decide +kernel
theorem dX5_wordOf_118 : decode cX5_wordOf 118 = .ok (.iconst 1, 1) := by decide +kernel
theorem dX5_wordOf_119 : decode cX5_wordOf 119 = .ok (.iadd, 1) := by decide +kernel
theorem dX5_wordOf_120 : decode cX5_wordOf 120 = .ok (.putfield 110, 3) := by decide +kernel
theorem dX5_wordOf_123 : decode cX5_wordOf 123 = .ok (.iinc 4 1, 3) := by decide +kernel
theorem dX5_wordOf_126 : decode cX5_wordOf 126 = .ok (.goto (-41), 3) := by decide +kernel
theorem dX5_wordOf_129 : decode cX5_wordOf 129 = .ok (.iinc 3 1, 3) := by decide +kernel
theorem dX5_wordOf_132 : decode cX5_wordOf 132 = .ok (.goto (-58), 3) := by decide +kernel
theorem dX5_wordOf_135 : decode cX5_wordOf 135 = .ok (.iinc 2 1, 3) := by decide +kernel
theorem dX5_wordOf_138 : decode cX5_wordOf 138 = .ok (.goto (-74), 3) := by decide +kernel
theorem dX5_wordOf_141 : decode cX5_wordOf 141 = .ok (.aload_n 0, 1) := by decide +kernel
theorem dX5_wordOf_142 : decode cX5_wordOf 142 = .ok (.getfield 110, 3) := by decide +kernel
theorem dX5_wordOf_145 : decode cX5_wordOf 145 = .ok (.ireturn, 1) := by decide +kernel
theorem dX5_power_0 : decode cX5_power 0 = .ok (.iload_n 0, 1) := by decide +kernel
theorem dX5_power_1 : decode cX5_power 1 = .ok (.ifCond .ne 7, 3) := by decide +kernel
theorem dX5_power_4 : decode cX5_power 4 = .ok (.iconst 1, 1) := by decide +kernel
theorem dX5_power_5 : decode cX5_power 5 = .ok (.goto 15, 3) := by decide +kernel
theorem dX5_power_8 : decode cX5_power 8 = .ok (.iload_n 0, 1) := by decide +kernel
theorem dX5_power_9 : decode cX5_power 9 = .ok (.iconst 1, 1) := by decide +kernel
theorem dX5_power_10 : decode cX5_power 10 = .ok (.if_icmp .ne 8, 3) := by decide +kernel
theorem dX5_power_13 : decode cX5_power 13 = .ok (.bipush 9, 2) := by decide +kernel
theorem dX5_power_15 : decode cX5_power 15 = .ok (.goto 5, 3) := by decide +kernel
theorem dX5_power_18 : decode cX5_power 18 = .ok (.bipush 81, 2) := by decide +kernel
theorem dX5_power_20 : decode cX5_power 20 = .ok (.ireturn, 1) := by decide +kernel
set_option maxRecDepth 20000 in
theorem ggX5_addPlace_X5_power : GoodIn wsX5_addPlace wsX5_power := goodIn_r _ [6] (by decide +kernel) (by decide +kernel)
set_option maxRecDepth 20000 in
theorem gX5_addPlace_X5_power : GoodIn wsX5_addPlace (va_wsS RX5 134 yX5_power wsX5_power) := goodIn_app (goodIn_of _ (by decide +kernel)) ggX5_addPlace_X5_power
set_option maxRecDepth 20000 in
theorem ggX5_addPlace_X5_greater : GoodIn wsX5_addPlace wsX5_greater := goodIn_r _ [9] (by decide +kernel) (by decide +kernel)
set_option maxRecDepth 20000 in
theorem gX5_addPlace_X5_greater : GoodIn wsX5_addPlace (va_wsS RX5 93 yX5_greater wsX5_greater) := goodIn_app (goodIn_of _ (by decide +kernel)) ggX5_addPlace_X5_greater
theorem dX5_addPlace_0 : decode cX5_addPlace 0 = .ok (.iconst 0, 1) := by decide +kernel
theorem dX5_addPlace_1 : decode cX5_addPlace 1 = .ok (.istore_n 3, 1) := by decide +kernel
theorem dX5_addPlace_2 : decode cX5_addPlace 2 = .ok (.iload_n 3, 1) := by decide +kernel
theorem dX5_addPlace_3 : decode cX5_addPlace 3 = .ok (.sipush 729, 3) := by decide +kernel
theorem dX5_addPlace_6 : decode cX5_addPlace 6 = .ok (.if_icmp .ge 16, 3) := by decide +kernel
theorem dX5_addPlace_9 : decode cX5_addPlace 9 = .ok (.aload_n 0, 1) := by decide +kernel
theorem dX5_addPlace_10 : decode cX5_addPlace 10 = .ok (.getfield 73, 3) := by decide +kernel
theorem dX5_addPlace_13 : decode cX5_addPlace 13 = .ok (.iload_n 3, 1) := by decide +kernel
theorem dX5_addPlace_14 : decode cX5_addPlace 14 = .ok (.lconst 0, 1) := by decide +kernel
theorem dX5_addPlace_15 : decode cX5_addPlace 15 = .ok (.lastore, 1) := by decide +kernel
theorem dX5_addPlace_16 : decode cX5_addPlace 16 = .ok (.iinc 3 1, 3) := by decide +kernel
theorem dX5_addPlace_19 : decode cX5_addPlace 19 = .ok (.goto (-17), 3) := by decide +kernel
theorem dX5_addPlace_22 : decode cX5_addPlace 22 = .ok (.iconst 0, 1) := by decide +kernel
theorem dX5_addPlace_23 : decode cX5_addPlace 23 = .ok (.istore_n 3, 1) := by decide +kernel
theorem dX5_addPlace_24 : decode cX5_addPlace 24 = .ok (.iload_n 3, 1) := by decide +kernel
theorem dX5_addPlace_25 : decode cX5_addPlace 25 = .ok (.sipush 729, 3) := by decide +kernel
theorem dX5_addPlace_28 : decode cX5_addPlace 28 = .ok (.if_icmp .ge 109, 3) := by decide +kernel
theorem dX5_addPlace_31 : decode cX5_addPlace 31 = .ok (.aload_n 0, 1) := by decide +kernel
theorem dX5_addPlace_32 : decode cX5_addPlace 32 = .ok (.getfield 70, 3) := by decide +kernel
theorem dX5_addPlace_35 : decode cX5_addPlace 35 = .ok (.iload_n 3, 1) := by decide +kernel
theorem dX5_addPlace_36 : decode cX5_addPlace 36 = .ok (.laload, 1) := by decide +kernel
theorem dX5_addPlace_37 : decode cX5_addPlace 37 = .ok (.lconst 0, 1) := by decide +kernel
theorem dX5_addPlace_38 : decode cX5_addPlace 38 = .ok (.lcmp, 1) := by decide +kernel
theorem dX5_addPlace_39 : decode cX5_addPlace 39 = .ok (.ifCond .le 92, 3) := by decide +kernel
theorem dX5_addPlace_42 : decode cX5_addPlace 42 = .ok (.iload_n 3, 1) := by decide +kernel
theorem dX5_addPlace_43 : decode cX5_addPlace 43 = .ok (.iload_n 1, 1) := by decide +kernel
theorem dX5_addPlace_44 : decode cX5_addPlace 44 = .ok (.invokestatic 134, 3) := by decide +kernel
theorem dX5_addPlace_47 : decode cX5_addPlace 47 = .ok (.idiv, 1) := by decide +kernel
theorem dX5_addPlace_48 : decode cX5_addPlace 48 = .ok (.bipush 9, 2) := by decide +kernel
theorem dX5_addPlace_50 : decode cX5_addPlace 50 = .ok (.irem, 1) := by decide +kernel
theorem dX5_addPlace_51 : decode cX5_addPlace 51 = .ok (.istore 4, 2) := by decide +kernel
theorem dX5_addPlace_53 : decode cX5_addPlace 53 = .ok (.iload_n 1, 1) := by decide +kernel
theorem dX5_addPlace_54 : decode cX5_addPlace 54 = .ok (.ifCond .ne 7, 3) := by decide +kernel
theorem dX5_addPlace_57 : decode cX5_addPlace 57 = .ok (.iconst 0, 1) := by decide +kernel
theorem dX5_addPlace_58 : decode cX5_addPlace 58 = .ok (.goto 14, 3) := by decide +kernel
theorem dX5_addPlace_61 : decode cX5_addPlace 61 = .ok (.iload_n 3, 1) := by decide +kernel
theorem dX5_addPlace_62 : decode cX5_addPlace 62 = .ok (.iload_n 1, 1) := by decide +kernel
theorem dX5_addPlace_63 : decode cX5_addPlace 63 = .ok (.iconst 1, 1) := by decide +kernel
theorem dX5_addPlace_64 : decode cX5_addPlace 64 = .ok (.isub, 1) := by decide +kernel
theorem dX5_addPlace_65 : decode cX5_addPlace 65 = .ok (.invokestatic 134, 3) := by decide +kernel
theorem dX5_addPlace_68 : decode cX5_addPlace 68 = .ok (.idiv, 1) := by decide +kernel
theorem dX5_addPlace_69 : decode cX5_addPlace 69 = .ok (.bipush 9, 2) := by decide +kernel
theorem dX5_addPlace_71 : decode cX5_addPlace 71 = .ok (.irem, 1) := by decide +kernel
theorem dX5_addPlace_72 : decode cX5_addPlace 72 = .ok (.istore 5, 2) := by decide +kernel
theorem dX5_addPlace_74 : decode cX5_addPlace 74 = .ok (.iload 4, 2) := by decide +kernel
theorem dX5_addPlace_76 : decode cX5_addPlace 76 = .ok (.iload 5, 2) := by decide +kernel
theorem dX5_addPlace_78 : decode cX5_addPlace 78 = .ok (.invokestatic 93, 3) := by decide +kernel
theorem dX5_addPlace_81 : decode cX5_addPlace 81 = .ok (.istore 6, 2) := by decide +kernel
theorem dX5_addPlace_83 : decode cX5_addPlace 83 = .ok (.iload 6, 2) := by decide +kernel
theorem dX5_addPlace_85 : decode cX5_addPlace 85 = .ok (.istore 7, 2) := by decide +kernel
theorem dX5_addPlace_87 : decode cX5_addPlace 87 = .ok (.iload 7, 2) := by decide +kernel
theorem dX5_addPlace_89 : decode cX5_addPlace 89 = .ok (.iload_n 2, 1) := by decide +kernel
theorem dX5_addPlace_90 : decode cX5_addPlace 90 = .ok (.if_icmp .gt 41, 3) := by decide +kernel
theorem dX5_addPlace_93 : decode cX5_addPlace 93 = .ok (.aload_n 0, 1) := by decide +kernel
theorem dX5_addPlace_94 : decode cX5_addPlace 94 = .ok (.getfield 73, 3) := by decide +kernel
theorem dX5_addPlace_97 : decode cX5_addPlace 97 = .ok (.iload_n 3, 1) := by decide +kernel
theorem dX5_addPlace_98 : decode cX5_addPlace 98 = .ok (.iload 7, 2) := by decide +kernel
theorem dX5_addPlace_100 : decode cX5_addPlace 100 = .ok (.iload 4, 2) := by decide +kernel
theorem dX5_addPlace_102 : decode cX5_addPlace 102 = .ok (.isub, 1) := by decide +kernel
theorem dX5_addPlace_103 : decode cX5_addPlace 103 = .ok (.iload_n 1, 1) := by decide +kernel
theorem dX5_addPlace_104 : decode cX5_addPlace 104 = .ok (.invokestatic 134, 3) := by decide +kernel
theorem dX5_addPlace_107 : decode cX5_addPlace 107 = .ok (.imul, 1) := by decide +kernel
theorem dX5_addPlace_108 : decode cX5_addPlace 108 = .ok (.iadd, 1) := by decide +kernel
theorem dX5_addPlace_109 : decode cX5_addPlace 109 = .ok (.dup2, 1) := by decide +kernel
theorem dX5_addPlace_110 : decode cX5_addPlace 110 = .ok (.laload, 1) := by decide +kernel
theorem dX5_addPlace_111 : decode cX5_addPlace 111 = .ok (.aload_n 0, 1) := by decide +kernel
theorem dX5_addPlace_112 : decode cX5_addPlace 112 = .ok (.getfield 70, 3) := by decide +kernel
theorem dX5_addPlace_115 : decode cX5_addPlace 115 = .ok (.iload_n 3, 1) := by decide +kernel
theorem dX5_addPlace_116 : decode cX5_addPlace 116 = .ok (.laload, 1) := by decide +kernel
theorem dX5_addPlace_117 : decode cX5_addPlace 117 = .ok (.iload 7, 2) := by decide +kernel
theorem dX5_addPlace_119 : decode cX5_addPlace 119 = .ok (.iload 6, 2) := by decide +kernel
theorem dX5_addPlace_121 : decode cX5_addPlace 121 = .ok (.isub, 1) := by decide +kernel
theorem dX5_addPlace_122 : decode cX5_addPlace 122 = .ok (.lshr, 1) := by decide +kernel
theorem dX5_addPlace_123 : decode cX5_addPlace 123 = .ok (.ladd, 1) := by decide +kernel
theorem dX5_addPlace_124 : decode cX5_addPlace 124 = .ok (.lastore, 1) := by decide +kernel
theorem dX5_addPlace_125 : decode cX5_addPlace 125 = .ok (.iinc 7 1, 3) := by decide +kernel
theorem dX5_addPlace_128 : decode cX5_addPlace 128 = .ok (.goto (-41), 3) := by decide +kernel
theorem dX5_addPlace_131 : decode cX5_addPlace 131 = .ok (.iinc 3 1, 3) := by decide +kernel
theorem dX5_addPlace_134 : decode cX5_addPlace 134 = .ok (.goto (-110), 3) := by decide +kernel
theorem dX5_addPlace_137 : decode cX5_addPlace 137 = .ok (.iconst 0, 1) := by decide +kernel
theorem dX5_addPlace_138 : decode cX5_addPlace 138 = .ok (.istore_n 3, 1) := by decide +kernel
theorem dX5_addPlace_139 : decode cX5_addPlace 139 = .ok (.iload_n 3, 1) := by decide +kernel
theorem dX5_addPlace_140 : decode cX5_addPlace 140 = .ok (.sipush 729, 3) := by decide +kernel
theorem dX5_addPlace_143 : decode cX5_addPlace 143 = .ok (.if_icmp .ge 21, 3) := by decide +kernel
theorem dX5_addPlace_146 : decode cX5_addPlace 146 = .ok (.aload_n 0, 1) := by decide +kernel
theorem dX5_addPlace_147 : decode cX5_addPlace 147 = .ok (.getfield 70, 3) := by decide +kernel
theorem dX5_addPlace_150 : decode cX5_addPlace 150 = .ok (.iload_n 3, 1) := by decide +kernel
theorem dX5_addPlace_151 : decode cX5_addPlace 151 = .ok (.aload_n 0, 1) := by decide +kernel
theorem dX5_addPlace_152 : decode cX5_addPlace 152 = .ok (.getfield 73, 3) := by decide +kernel
theorem dX5_addPlace_155 : decode cX5_addPlace 155 = .ok (.iload_n 3, 1) := by decide +kernel
theorem dX5_addPlace_156 : decode cX5_addPlace 156 = .ok (.laload, 1) := by decide +kernel
theorem dX5_addPlace_157 : decode cX5_addPlace 157 = .ok (.lastore, 1) := by decide +kernel
theorem dX5_addPlace_158 : decode cX5_addPlace 158 = .ok (.iinc 3 1, 3) := by decide +kernel
theorem dX5_addPlace_161 : decode cX5_addPlace 161 = .ok (.goto (-22), 3) := by decide +kernel
theorem dX5_addPlace_164 : decode cX5_addPlace 164 = .ok (.return_, 1) := by decide +kernel
set_option maxRecDepth 20000 in
theorem ggX5_chance_X5_in : GoodIn wsX5_chance wsX5_in := goodIn_r _ [8] (by decide +kernel) (by decide +kernel)
set_option maxRecDepth 20000 in
theorem gX5_chance_X5_in : GoodIn wsX5_chance (va_wsS RX5 76 yX5_in wsX5_in) := goodIn_app (goodIn_of _ (by decide +kernel)) ggX5_chance_X5_in
set_option maxRecDepth 20000 in
theorem ggX5_chance_X5_addPlace : GoodIn wsX5_chance wsX5_addPlace := goodIn_r _ [12, 13, 4, 14, 15, 7, 16, 17, 18, 19, 20, 21, 22, 23, 24, 25, 26, 27, 28, 29, 30, 31, 32, 33, 34, 35, 36, 37, 38, 39, 40, 41] (by decide +kernel) (by decide +kernel)
set_option maxRecDepth 20000 in
theorem gX5_chance_X5_addPlace : GoodIn wsX5_chance (wsV RX5 138 RX5 yX5_addPlace wsX5_addPlace) := goodIn_app (goodIn_of _ (by decide +kernel)) ggX5_chance_X5_addPlace
theorem dX5_chance_0 : decode cX5_chance 0 = .ok (.iload_n 1, 1) := by decide +kernel
theorem dX5_chance_1 : decode cX5_chance 1 = .ok (.i2l, 1) := by decide +kernel
theorem dX5_chance_2 : decode cX5_chance 2 = .ok (.lconst 1, 1) := by decide +kernel
theorem dX5_chance_3 : decode cX5_chance 3 = .ok (.ldc2_w 88, 3) := by decide +kernel
theorem dX5_chance_6 : decode cX5_chance 6 = .ok (.invokestatic 76, 3) := by decide +kernel
theorem dX5_chance_9 : decode cX5_chance 9 = .ok (.ifCond .eq 27, 3) := by decide +kernel
theorem dX5_chance_12 : decode cX5_chance 12 = .ok (.iload_n 2, 1) := by decide +kernel
theorem dX5_chance_13 : decode cX5_chance 13 = .ok (.i2l, 1) := by decide +kernel
theorem dX5_chance_14 : decode cX5_chance 14 = .ok (.lconst 1, 1) := by decide +kernel
theorem dX5_chance_15 : decode cX5_chance 15 = .ok (.ldc2_w 88, 3) := by decide +kernel
theorem dX5_chance_18 : decode cX5_chance 18 = .ok (.invokestatic 76, 3) := by decide +kernel
theorem dX5_chance_21 : decode cX5_chance 21 = .ok (.ifCond .eq 15, 3) := by decide +kernel
theorem dX5_chance_24 : decode cX5_chance 24 = .ok (.iload_n 3, 1) := by decide +kernel
theorem dX5_chance_25 : decode cX5_chance 25 = .ok (.i2l, 1) := by decide +kernel
theorem dX5_chance_26 : decode cX5_chance 26 = .ok (.lconst 0, 1) := by decide +kernel
theorem dX5_chance_27 : decode cX5_chance 27 = .ok (.ldc2_w 116, 3) := by decide +kernel
theorem dX5_chance_30 : decode cX5_chance 30 = .ok (.invokestatic 76, 3) := by decide +kernel
theorem dX5_chance_33 : decode cX5_chance 33 = .ok (.ifCond .ne 7, 3) := by decide +kernel
theorem dX5_chance_36 : decode cX5_chance 36 = .ok (.ldc2_w 106, 3) := by decide +kernel
theorem dX5_chance_39 : decode cX5_chance 39 = .ok (.lreturn, 1) := by decide +kernel
theorem dX5_chance_40 : decode cX5_chance 40 = .ok (.iconst 0, 1) := by decide +kernel
theorem dX5_chance_41 : decode cX5_chance 41 = .ok (.istore 4, 2) := by decide +kernel
theorem dX5_chance_43 : decode cX5_chance 43 = .ok (.iload 4, 2) := by decide +kernel
theorem dX5_chance_45 : decode cX5_chance 45 = .ok (.sipush 729, 3) := by decide +kernel
theorem dX5_chance_48 : decode cX5_chance 48 = .ok (.if_icmp .ge 17, 3) := by decide +kernel
theorem dX5_chance_51 : decode cX5_chance 51 = .ok (.aload_n 0, 1) := by decide +kernel
theorem dX5_chance_52 : decode cX5_chance 52 = .ok (.getfield 70, 3) := by decide +kernel
theorem dX5_chance_55 : decode cX5_chance 55 = .ok (.iload 4, 2) := by decide +kernel
theorem dX5_chance_57 : decode cX5_chance 57 = .ok (.lconst 0, 1) := by decide +kernel
theorem dX5_chance_58 : decode cX5_chance 58 = .ok (.lastore, 1) := by decide +kernel
theorem dX5_chance_59 : decode cX5_chance 59 = .ok (.iinc 4 1, 3) := by decide +kernel
theorem dX5_chance_62 : decode cX5_chance 62 = .ok (.goto (-19), 3) := by decide +kernel
theorem dX5_chance_65 : decode cX5_chance 65 = .ok (.aload_n 0, 1) := by decide +kernel
theorem dX5_chance_66 : decode cX5_chance 66 = .ok (.getfield 70, 3) := by decide +kernel
theorem dX5_chance_69 : decode cX5_chance 69 = .ok (.iconst 0, 1) := by decide +kernel
theorem dX5_chance_70 : decode cX5_chance 70 = .ok (.lconst 1, 1) := by decide +kernel
theorem dX5_chance_71 : decode cX5_chance 71 = .ok (.iload_n 3, 1) := by decide +kernel
theorem dX5_chance_72 : decode cX5_chance 72 = .ok (.iload_n 1, 1) := by decide +kernel
theorem dX5_chance_73 : decode cX5_chance 73 = .ok (.iload_n 2, 1) := by decide +kernel
theorem dX5_chance_74 : decode cX5_chance 74 = .ok (.if_icmp .ge 7, 3) := by decide +kernel
theorem dX5_chance_77 : decode cX5_chance 77 = .ok (.iload_n 1, 1) := by decide +kernel
theorem dX5_chance_78 : decode cX5_chance 78 = .ok (.goto 4, 3) := by decide +kernel
theorem dX5_chance_81 : decode cX5_chance 81 = .ok (.iload_n 2, 1) := by decide +kernel
theorem dX5_chance_82 : decode cX5_chance 82 = .ok (.imul, 1) := by decide +kernel
theorem dX5_chance_83 : decode cX5_chance 83 = .ok (.lshl, 1) := by decide +kernel
theorem dX5_chance_84 : decode cX5_chance 84 = .ok (.lastore, 1) := by decide +kernel
theorem dX5_chance_85 : decode cX5_chance 85 = .ok (.iconst 0, 1) := by decide +kernel
theorem dX5_chance_86 : decode cX5_chance 86 = .ok (.istore 4, 2) := by decide +kernel
theorem dX5_chance_88 : decode cX5_chance 88 = .ok (.iload 4, 2) := by decide +kernel
theorem dX5_chance_90 : decode cX5_chance 90 = .ok (.iload_n 1, 1) := by decide +kernel
theorem dX5_chance_91 : decode cX5_chance 91 = .ok (.if_icmp .ge 31, 3) := by decide +kernel
theorem dX5_chance_94 : decode cX5_chance 94 = .ok (.iconst 0, 1) := by decide +kernel
theorem dX5_chance_95 : decode cX5_chance 95 = .ok (.istore 5, 2) := by decide +kernel
theorem dX5_chance_97 : decode cX5_chance 97 = .ok (.iload 5, 2) := by decide +kernel
theorem dX5_chance_99 : decode cX5_chance 99 = .ok (.iload_n 2, 1) := by decide +kernel
theorem dX5_chance_100 : decode cX5_chance 100 = .ok (.if_icmp .ge 16, 3) := by decide +kernel
theorem dX5_chance_103 : decode cX5_chance 103 = .ok (.aload_n 0, 1) := by decide +kernel
theorem dX5_chance_104 : decode cX5_chance 104 = .ok (.iload 5, 2) := by decide +kernel
theorem dX5_chance_106 : decode cX5_chance 106 = .ok (.iload_n 3, 1) := by decide +kernel
theorem dX5_chance_107 : decode cX5_chance 107 = .ok (.invokevirtual 138, 3) := by decide +kernel
theorem dX5_chance_110 : decode cX5_chance 110 = .ok (.iinc 5 1, 3) := by decide +kernel
theorem dX5_chance_113 : decode cX5_chance 113 = .ok (.goto (-16), 3) := by decide +kernel
theorem dX5_chance_116 : decode cX5_chance 116 = .ok (.iinc 4 1, 3) := by decide +kernel
theorem dX5_chance_119 : decode cX5_chance 119 = .ok (.goto (-31), 3) := by decide +kernel
theorem dX5_chance_122 : decode cX5_chance 122 = .ok (.lconst 0, 1) := by decide +kernel
theorem dX5_chance_123 : decode cX5_chance 123 = .ok (.lstore 4, 2) := by decide +kernel
theorem dX5_chance_125 : decode cX5_chance 125 = .ok (.iconst 0, 1) := by decide +kernel
theorem dX5_chance_126 : decode cX5_chance 126 = .ok (.istore 6, 2) := by decide +kernel
theorem dX5_chance_128 : decode cX5_chance 128 = .ok (.iload 6, 2) := by decide +kernel
theorem dX5_chance_130 : decode cX5_chance 130 = .ok (.sipush 729, 3) := by decide +kernel
theorem dX5_chance_133 : decode cX5_chance 133 = .ok (.if_icmp .ge 21, 3) := by decide +kernel
theorem dX5_chance_136 : decode cX5_chance 136 = .ok (.lload 4, 2) := by decide +kernel
theorem dX5_chance_138 : decode cX5_chance 138 = .ok (.aload_n 0, 1) := by decide +kernel
theorem dX5_chance_139 : decode cX5_chance 139 = .ok (.getfield 70, 3) := by decide +kernel
theorem dX5_chance_142 : decode cX5_chance 142 = .ok (.iload 6, 2) := by decide +kernel
theorem dX5_chance_144 : decode cX5_chance 144 = .ok (.laload, 1) := by decide +kernel
theorem dX5_chance_145 : decode cX5_chance 145 = .ok (.ladd, 1) := by decide +kernel
theorem dX5_chance_146 : decode cX5_chance 146 = .ok (.lstore 4, 2) := by decide +kernel
theorem dX5_chance_148 : decode cX5_chance 148 = .ok (.iinc 6 1, 3) := by decide +kernel
theorem dX5_chance_151 : decode cX5_chance 151 = .ok (.goto (-23), 3) := by decide +kernel
theorem dX5_chance_154 : decode cX5_chance 154 = .ok (.lload 4, 2) := by decide +kernel
theorem dX5_chance_156 : decode cX5_chance 156 = .ok (.lreturn, 1) := by decide +kernel
end
section
theorem i_vc : Claimed_1_1 ∧ Claimed_1_2 := sorry
end
