def RX0 : String := "PromiseDepot$Clerk"
def TX0 : u_T := fun k => match k with
  | _ => ("", "", "", false)
def tyX0 : Nat → FieldType := fun k => match k with
  | _ => .int
abbrev wsX00 : List Cond := u_ws RX0 TX0 0
theorem nmX0 : ∀ a, a < 0 → ∀ b, b < 0 → a ≠ b → (TX0 a).2.1 ≠ (TX0 b).2.1 := by decide +kernel
theorem tyX0_ok : ∀ k, k < 0 → parseFieldDescriptor (TX0 k).2.2.1 = some (tyX0 k) := by decide +kernel
abbrev cX0_perform : ByteArray := prog_2_method_2_code
def yX0_perform : MethodName := ⟨RX0, "perform", "(LPromiseDepot$Stock;IIIII)I"⟩
abbrev cX0_takeIn : ByteArray := prog_2_method_3_code
def yX0_takeIn : MethodName := ⟨RX0, "takeIn", "(LPromiseDepot$Stock;IIII)I"⟩
abbrev cX0_divide : ByteArray := prog_2_method_4_code
def yX0_divide : MethodName := ⟨RX0, "divide", "(LPromiseDepot$Stock;II)I"⟩
abbrev cX0_unite : ByteArray := prog_2_method_5_code
def yX0_unite : MethodName := ⟨RX0, "unite", "(LPromiseDepot$Stock;II)I"⟩
abbrev cX0_sendOut : ByteArray := prog_2_method_6_code
def yX0_sendOut : MethodName := ⟨RX0, "sendOut", "(LPromiseDepot$Stock;II)I"⟩
abbrev cX0_callBack : ByteArray := prog_2_method_7_code
def yX0_callBack : MethodName := ⟨RX0, "callBack", "(LPromiseDepot$Stock;I)I"⟩
abbrev cX0_takeFromHeap : ByteArray := prog_2_method_8_code
def yX0_takeFromHeap : MethodName := ⟨RX0, "takeFromHeap", "(LPromiseDepot$Stock;)I"⟩
abbrev cX0_letPass : ByteArray := prog_2_method_9_code
def yX0_letPass : MethodName := ⟨RX0, "letPass", "(LPromiseDepot$Stock;I)I"⟩
def RX1 : String := "PromiseDepot$CompostHeap"
def TX1 : u_T := fun k => match k with
  | 0 => ("PromiseDepot$CompostHeap", "cells", "LPromiseDepot$Row;", true)
  | _ => ("PromiseDepot$CompostHeap", "size", "I", false)
def tyX1 : Nat → FieldType := fun k => match k with
  | 0 => .object "PromiseDepot$Row"
  | _ => .int
abbrev wsX10 : List Cond := u_ws RX1 TX1 2
theorem nmX1 : ∀ a, a < 2 → ∀ b, b < 2 → a ≠ b → (TX1 a).2.1 ≠ (TX1 b).2.1 := by decide +kernel
theorem tyX1_ok : ∀ k, k < 2 → parseFieldDescriptor (TX1 k).2.2.1 = some (tyX1 k) := by decide +kernel
abbrev cX1_init : ByteArray := prog_3_method_1_code
def yX1_init : MethodName := ⟨RX1, "<init>", "()V"⟩
abbrev cX1_copyFrom : ByteArray := prog_3_method_2_code
def yX1_copyFrom : MethodName := ⟨RX1, "copyFrom", "(LPromiseDepot$CompostHeap;)V"⟩
abbrev cX1_top : ByteArray := prog_3_method_3_code
def yX1_top : MethodName := ⟨RX1, "top", "()I"⟩
abbrev cX1_push : ByteArray := prog_3_method_4_code
def yX1_push : MethodName := ⟨RX1, "push", "(LPromiseDepot$Lots;I)V"⟩
abbrev cX1_removeTop : ByteArray := prog_3_method_5_code
def yX1_removeTop : MethodName := ⟨RX1, "removeTop", "(LPromiseDepot$Lots;)V"⟩
abbrev cX1_firstOfThree : ByteArray := prog_3_method_6_code
def yX1_firstOfThree : MethodName := ⟨RX1, "firstOfThree", "(LPromiseDepot$Lots;I)I"⟩
abbrev cX1_swap : ByteArray := prog_3_method_7_code
def yX1_swap : MethodName := ⟨RX1, "swap", "(II)V"⟩
abbrev cX1_firstByScan : ByteArray := prog_3_method_8_code
def yX1_firstByScan : MethodName := ⟨RX1, "firstByScan", "(LPromiseDepot$Lots;)I"⟩
def RX2 : String := "PromiseDepot$Descent"
def TX2 : u_T := fun k => match k with
  | _ => ("PromiseDepot$Descent", "table", "LPromiseDepot$Row;", true)
def tyX2 : Nat → FieldType := fun k => match k with
  | _ => .object "PromiseDepot$Row"
abbrev wsX20 : List Cond := u_ws RX2 TX2 1
theorem nmX2 : ∀ a, a < 1 → ∀ b, b < 1 → a ≠ b → (TX2 a).2.1 ≠ (TX2 b).2.1 := by decide +kernel
theorem tyX2_ok : ∀ k, k < 1 → parseFieldDescriptor (TX2 k).2.2.1 = some (tyX2 k) := by decide +kernel
abbrev cX2_init : ByteArray := prog_4_method_1_code
def yX2_init : MethodName := ⟨RX2, "<init>", "()V"⟩
abbrev cX2_setInDepth : ByteArray := prog_4_method_2_code
def yX2_setInDepth : MethodName := ⟨RX2, "setInDepth", "(LPromiseDepot$Lots;I)I"⟩
abbrev cX2_follow : ByteArray := prog_4_method_3_code
def yX2_follow : MethodName := ⟨RX2, "follow", "(LPromiseDepot$Lots;III)I"⟩
abbrev cX2_shelvedFamily : ByteArray := prog_4_method_4_code
def yX2_shelvedFamily : MethodName := ⟨RX2, "shelvedFamily", "(LPromiseDepot$Lots;I)I"⟩
abbrev cX2_countByTable : ByteArray := prog_4_method_5_code
def yX2_countByTable : MethodName := ⟨RX2, "countByTable", "(LPromiseDepot$Lots;I)I"⟩
abbrev cX2_enterParents : ByteArray := prog_4_method_6_code
def yX2_enterParents : MethodName := ⟨RX2, "enterParents", "(LPromiseDepot$Lots;)V"⟩
abbrev cX2_joinThrough : ByteArray := prog_4_method_7_code
def yX2_joinThrough : MethodName := ⟨RX2, "joinThrough", "(II)V"⟩
abbrev cX2_cell : ByteArray := prog_4_method_8_code
def yX2_cell : MethodName := ⟨RX2, "cell", "(II)I"⟩
def RX3 : String := "PromiseDepot$Gate"
def TX3 : u_T := fun k => match k with
  | _ => ("PromiseDepot$Gate", "detail", "I", false)
def tyX3 : Nat → FieldType := fun k => match k with
  | _ => .int
abbrev wsX30 : List Cond := u_ws RX3 TX3 1
theorem nmX3 : ∀ a, a < 1 → ∀ b, b < 1 → a ≠ b → (TX3 a).2.1 ≠ (TX3 b).2.1 := by decide +kernel
theorem tyX3_ok : ∀ k, k < 1 → parseFieldDescriptor (TX3 k).2.2.1 = some (tyX3 k) := by decide +kernel
abbrev cX3_init : ByteArray := prog_5_method_1_code
def yX3_init : MethodName := ⟨RX3, "<init>", "()V"⟩
abbrev cX3_verdict : ByteArray := prog_5_method_2_code
def yX3_verdict : MethodName := ⟨RX3, "verdict", "(LPromiseDepot$Stock;IIIII)I"⟩
abbrev cX3_deny : ByteArray := prog_5_method_3_code
def yX3_deny : MethodName := ⟨RX3, "deny", "(II)I"⟩
abbrev cX3_isWithin : ByteArray := prog_5_method_4_code
def yX3_isWithin : MethodName := ⟨RX3, "isWithin", "(III)Z"⟩
abbrev cX3_onAddShelf : ByteArray := prog_5_method_5_code
def yX3_onAddShelf : MethodName := ⟨RX3, "onAddShelf", "(LPromiseDepot$Stock;II)I"⟩
abbrev cX3_onReceive : ByteArray := prog_5_method_6_code
def yX3_onReceive : MethodName := ⟨RX3, "onReceive", "(LPromiseDepot$Stock;IIII)I"⟩
abbrev cX3_onLotLimit : ByteArray := prog_5_method_7_code
def yX3_onLotLimit : MethodName := ⟨RX3, "onLotLimit", "(LPromiseDepot$Stock;)I"⟩
abbrev cX3_onBothLimits : ByteArray := prog_5_method_8_code
def yX3_onBothLimits : MethodName := ⟨RX3, "onBothLimits", "(LPromiseDepot$Stock;)I"⟩
abbrev cX3_onSplit : ByteArray := prog_5_method_9_code
def yX3_onSplit : MethodName := ⟨RX3, "onSplit", "(LPromiseDepot$Stock;II)I"⟩
abbrev cX3_onMix : ByteArray := prog_5_method_10_code
def yX3_onMix : MethodName := ⟨RX3, "onMix", "(LPromiseDepot$Stock;II)I"⟩
abbrev cX3_onMove : ByteArray := prog_5_method_11_code
def yX3_onMove : MethodName := ⟨RX3, "onMove", "(LPromiseDepot$Stock;II)I"⟩
abbrev cX3_onShip : ByteArray := prog_5_method_12_code
def yX3_onShip : MethodName := ⟨RX3, "onShip", "(LPromiseDepot$Stock;II)I"⟩
def RX4 : String := "PromiseDepot$History"
def TX4 : u_T := fun k => match k with
  | 0 => ("PromiseDepot$History", "ring", "[LPromiseDepot$Stock;", true)
  | 1 => ("PromiseDepot$History", "next", "I", false)
  | _ => ("PromiseDepot$History", "size", "I", false)
def tyX4 : Nat → FieldType := fun k => match k with
  | 0 => .array (.object "PromiseDepot$Stock")
  | 1 => .int
  | _ => .int
abbrev wsX40 : List Cond := u_ws RX4 TX4 3
theorem nmX4 : ∀ a, a < 3 → ∀ b, b < 3 → a ≠ b → (TX4 a).2.1 ≠ (TX4 b).2.1 := by decide +kernel
theorem tyX4_ok : ∀ k, k < 3 → parseFieldDescriptor (TX4 k).2.2.1 = some (tyX4 k) := by decide +kernel
abbrev cX4_init : ByteArray := prog_6_method_1_code
def yX4_init : MethodName := ⟨RX4, "<init>", "()V"⟩
abbrev cX4_keep : ByteArray := prog_6_method_2_code
def yX4_keep : MethodName := ⟨RX4, "keep", "(LPromiseDepot$Stock;)V"⟩
abbrev cX4_giveBack : ByteArray := prog_6_method_3_code
def yX4_giveBack : MethodName := ⟨RX4, "giveBack", "(LPromiseDepot$Stock;)V"⟩
abbrev cX4_forget : ByteArray := prog_6_method_4_code
def yX4_forget : MethodName := ⟨RX4, "forget", "()V"⟩
def RX5 : String := "PromiseDepot$Lots"
def TX5 : u_T := fun k => match k with
  | 0 => ("PromiseDepot$Lots", "kinds", "LPromiseDepot$Row;", true)
  | 1 => ("PromiseDepot$Lots", "zones", "LPromiseDepot$Row;", true)
  | 2 => ("PromiseDepot$Lots", "volumes", "LPromiseDepot$Row;", true)
  | 3 => ("PromiseDepot$Lots", "expiries", "LPromiseDepot$Row;", true)
  | 4 => ("PromiseDepot$Lots", "places", "LPromiseDepot$Row;", true)
  | 5 => ("PromiseDepot$Lots", "firstParents", "LPromiseDepot$Row;", true)
  | 6 => ("PromiseDepot$Lots", "secondParents", "LPromiseDepot$Row;", true)
  | _ => ("PromiseDepot$Lots", "size", "I", false)
def tyX5 : Nat → FieldType := fun k => match k with
  | 0 => .object "PromiseDepot$Row"
  | 1 => .object "PromiseDepot$Row"
  | 2 => .object "PromiseDepot$Row"
  | 3 => .object "PromiseDepot$Row"
  | 4 => .object "PromiseDepot$Row"
  | 5 => .object "PromiseDepot$Row"
  | 6 => .object "PromiseDepot$Row"
  | _ => .int
abbrev wsX50 : List Cond := u_ws RX5 TX5 8
theorem nmX5 : ∀ a, a < 8 → ∀ b, b < 8 → a ≠ b → (TX5 a).2.1 ≠ (TX5 b).2.1 := by decide +kernel
theorem tyX5_ok : ∀ k, k < 8 → parseFieldDescriptor (TX5 k).2.2.1 = some (tyX5 k) := by decide +kernel
abbrev cX5_init : ByteArray := prog_7_method_1_code
def yX5_init : MethodName := ⟨RX5, "<init>", "()V"⟩
abbrev cX5_copyFrom : ByteArray := prog_7_method_2_code
def yX5_copyFrom : MethodName := ⟨RX5, "copyFrom", "(LPromiseDepot$Lots;)V"⟩
abbrev cX5_has : ByteArray := prog_7_method_3_code
def yX5_has : MethodName := ⟨RX5, "has", "(I)Z"⟩
abbrev cX5_add : ByteArray := prog_7_method_4_code
def yX5_add : MethodName := ⟨RX5, "add", "(IIIII)I"⟩
abbrev cX5_setParents : ByteArray := prog_7_method_5_code
def yX5_setParents : MethodName := ⟨RX5, "setParents", "(III)V"⟩
abbrev cX5_remove : ByteArray := prog_7_method_6_code
def yX5_remove : MethodName := ⟨RX5, "remove", "(I)V"⟩
abbrev cX5_isShelved : ByteArray := prog_7_method_7_code
def yX5_isShelved : MethodName := ⟨RX5, "isShelved", "(I)Z"⟩
abbrev cX5_parentsOf : ByteArray := prog_7_method_8_code
def yX5_parentsOf : MethodName := ⟨RX5, "parentsOf", "(I)I"⟩
abbrev cX5_isParent : ByteArray := prog_7_method_9_code
def yX5_isParent : MethodName := ⟨RX5, "isParent", "(II)Z"⟩
abbrev cX5_countAt : ByteArray := prog_7_method_10_code
def yX5_countAt : MethodName := ⟨RX5, "countAt", "(I)I"⟩
abbrev cX5_volumeAt : ByteArray := prog_7_method_11_code
def yX5_volumeAt : MethodName := ⟨RX5, "volumeAt", "(I)I"⟩
abbrev cX5_shelvedCount : ByteArray := prog_7_method_12_code
def yX5_shelvedCount : MethodName := ⟨RX5, "shelvedCount", "()I"⟩
abbrev cX5_shelvedVolume : ByteArray := prog_7_method_13_code
def yX5_shelvedVolume : MethodName := ⟨RX5, "shelvedVolume", "()I"⟩
abbrev cX5_expiresBefore : ByteArray := prog_7_method_14_code
def yX5_expiresBefore : MethodName := ⟨RX5, "expiresBefore", "(II)Z"⟩
abbrev cX5_compostsBefore : ByteArray := prog_7_method_15_code
def yX5_compostsBefore : MethodName := ⟨RX5, "compostsBefore", "(II)Z"⟩
def RX6 : String := "PromiseDepot$Packing"
def TX6 : u_T := fun k => match k with
  | 0 => ("PromiseDepot$Packing", "capacities", "LPromiseDepot$Row;", true)
  | 1 => ("PromiseDepot$Packing", "volumes", "LPromiseDepot$Row;", true)
  | 2 => ("PromiseDepot$Packing", "rooms", "LPromiseDepot$Row;", true)
  | 3 => ("PromiseDepot$Packing", "fillings", "LPromiseDepot$Row;", true)
  | 4 => ("PromiseDepot$Packing", "shelfTotal", "I", false)
  | _ => ("PromiseDepot$Packing", "lotTotal", "I", false)
def tyX6 : Nat → FieldType := fun k => match k with
  | 0 => .object "PromiseDepot$Row"
  | 1 => .object "PromiseDepot$Row"
  | 2 => .object "PromiseDepot$Row"
  | 3 => .object "PromiseDepot$Row"
  | 4 => .int
  | _ => .int
abbrev wsX60 : List Cond := u_ws RX6 TX6 6
theorem nmX6 : ∀ a, a < 6 → ∀ b, b < 6 → a ≠ b → (TX6 a).2.1 ≠ (TX6 b).2.1 := by decide +kernel
theorem tyX6_ok : ∀ k, k < 6 → parseFieldDescriptor (TX6 k).2.2.1 = some (tyX6 k) := by decide +kernel
abbrev cX6_init : ByteArray := prog_8_method_1_code
def yX6_init : MethodName := ⟨RX6, "<init>", "()V"⟩
abbrev cX6_fewestBySets : ByteArray := prog_8_method_2_code
def yX6_fewestBySets : MethodName := ⟨RX6, "fewestBySets", "(LPromiseDepot$Stock;I)I"⟩
abbrev cX6_leastFilling : ByteArray := prog_8_method_3_code
def yX6_leastFilling : MethodName := ⟨RX6, "leastFilling", "(I)I"⟩
abbrev cX6_fillingWith : ByteArray := prog_8_method_4_code
def yX6_fillingWith : MethodName := ⟨RX6, "fillingWith", "(II)I"⟩
abbrev cX6_fewestBySearch : ByteArray := prog_8_method_5_code
def yX6_fewestBySearch : MethodName := ⟨RX6, "fewestBySearch", "(LPromiseDepot$Stock;I)I"⟩
abbrev cX6_lay : ByteArray := prog_8_method_6_code
def yX6_lay : MethodName := ⟨RX6, "lay", "(LPromiseDepot$Row;ILPromiseDepot$Row;II)Z"⟩
abbrev cX6_hasRoomBefore : ByteArray := prog_8_method_7_code
def yX6_hasRoomBefore : MethodName := ⟨RX6, "hasRoomBefore", "(LPromiseDepot$Row;I)Z"⟩
abbrev cX6_gather : ByteArray := prog_8_method_8_code
def yX6_gather : MethodName := ⟨RX6, "gather", "(LPromiseDepot$Stock;I)V"⟩
abbrev cX6_insert : ByteArray := prog_8_method_9_code
def yX6_insert : MethodName := ⟨RX6, "insert", "(LPromiseDepot$Row;II)V"⟩
def RX7 : String := "PromiseDepot$Row"
def TX7 : u_T := fun k => match k with
  | _ => ("PromiseDepot$Row", "cells", "[I", true)
def tyX7 : Nat → FieldType := fun k => match k with
  | _ => .array .int
abbrev wsX70 : List Cond := u_ws RX7 TX7 1
theorem nmX7 : ∀ a, a < 1 → ∀ b, b < 1 → a ≠ b → (TX7 a).2.1 ≠ (TX7 b).2.1 := by decide +kernel
theorem tyX7_ok : ∀ k, k < 1 → parseFieldDescriptor (TX7 k).2.2.1 = some (tyX7 k) := by decide +kernel
abbrev cX7_init : ByteArray := prog_9_method_1_code
def yX7_init : MethodName := ⟨RX7, "<init>", "(I)V"⟩
abbrev cX7_get : ByteArray := prog_9_method_2_code
def yX7_get : MethodName := ⟨RX7, "get", "(I)I"⟩
abbrev cX7_set : ByteArray := prog_9_method_3_code
def yX7_set : MethodName := ⟨RX7, "set", "(II)V"⟩
abbrev cX7_fill : ByteArray := prog_9_method_4_code
def yX7_fill : MethodName := ⟨RX7, "fill", "(I)V"⟩
abbrev cX7_copyFrom : ByteArray := prog_9_method_5_code
def yX7_copyFrom : MethodName := ⟨RX7, "copyFrom", "(LPromiseDepot$Row;)V"⟩
def RX8 : String := "PromiseDepot$Shelves"
def TX8 : u_T := fun k => match k with
  | 0 => ("PromiseDepot$Shelves", "zones", "LPromiseDepot$Row;", true)
  | 1 => ("PromiseDepot$Shelves", "capacities", "LPromiseDepot$Row;", true)
  | 2 => ("PromiseDepot$Shelves", "countedDays", "LPromiseDepot$Row;", true)
  | _ => ("PromiseDepot$Shelves", "size", "I", false)
def tyX8 : Nat → FieldType := fun k => match k with
  | 0 => .object "PromiseDepot$Row"
  | 1 => .object "PromiseDepot$Row"
  | 2 => .object "PromiseDepot$Row"
  | _ => .int
abbrev wsX80 : List Cond := u_ws RX8 TX8 4
theorem nmX8 : ∀ a, a < 4 → ∀ b, b < 4 → a ≠ b → (TX8 a).2.1 ≠ (TX8 b).2.1 := by decide +kernel
theorem tyX8_ok : ∀ k, k < 4 → parseFieldDescriptor (TX8 k).2.2.1 = some (tyX8 k) := by decide +kernel
abbrev cX8_init : ByteArray := prog_10_method_1_code
def yX8_init : MethodName := ⟨RX8, "<init>", "()V"⟩
abbrev cX8_copyFrom : ByteArray := prog_10_method_2_code
def yX8_copyFrom : MethodName := ⟨RX8, "copyFrom", "(LPromiseDepot$Shelves;)V"⟩
abbrev cX8_has : ByteArray := prog_10_method_3_code
def yX8_has : MethodName := ⟨RX8, "has", "(I)Z"⟩
abbrev cX8_add : ByteArray := prog_10_method_4_code
def yX8_add : MethodName := ⟨RX8, "add", "(II)I"⟩
def RX9 : String := "PromiseDepot$Stock"
def TX9 : u_T := fun k => match k with
  | 0 => ("PromiseDepot$Stock", "shelves", "LPromiseDepot$Shelves;", true)
  | 1 => ("PromiseDepot$Stock", "lots", "LPromiseDepot$Lots;", true)
  | 2 => ("PromiseDepot$Stock", "heap", "LPromiseDepot$CompostHeap;", true)
  | 3 => ("PromiseDepot$Stock", "today", "I", false)
  | 4 => ("PromiseDepot$Stock", "receivedVolume", "I", false)
  | 5 => ("PromiseDepot$Stock", "shippedVolume", "I", false)
  | _ => ("PromiseDepot$Stock", "compostedVolume", "I", false)
def tyX9 : Nat → FieldType := fun k => match k with
  | 0 => .object "PromiseDepot$Shelves"
  | 1 => .object "PromiseDepot$Lots"
  | 2 => .object "PromiseDepot$CompostHeap"
  | 3 => .int
  | 4 => .int
  | 5 => .int
  | _ => .int
abbrev wsX90 : List Cond := u_ws RX9 TX9 7
theorem nmX9 : ∀ a, a < 7 → ∀ b, b < 7 → a ≠ b → (TX9 a).2.1 ≠ (TX9 b).2.1 := by decide +kernel
theorem tyX9_ok : ∀ k, k < 7 → parseFieldDescriptor (TX9 k).2.2.1 = some (tyX9 k) := by decide +kernel
abbrev cX9_init : ByteArray := prog_11_method_1_code
def yX9_init : MethodName := ⟨RX9, "<init>", "()V"⟩
abbrev cX9_copyFrom : ByteArray := prog_11_method_2_code
def yX9_copyFrom : MethodName := ⟨RX9, "copyFrom", "(LPromiseDepot$Stock;)V"⟩
abbrev cX9_hasExpired : ByteArray := prog_11_method_3_code
def yX9_hasExpired : MethodName := ⟨RX9, "hasExpired", "(I)Z"⟩
abbrev cX9_expiredCount : ByteArray := prog_11_method_4_code
def yX9_expiredCount : MethodName := ⟨RX9, "expiredCount", "()I"⟩
abbrev cX9_roomWithout : ByteArray := prog_11_method_5_code
def yX9_roomWithout : MethodName := ⟨RX9, "roomWithout", "(III)I"⟩
abbrev cX9_placeFor : ByteArray := prog_11_method_6_code
def yX9_placeFor : MethodName := ⟨RX9, "placeFor", "(IIII)I"⟩
abbrev cX9_isShippable : ByteArray := prog_11_method_7_code
def yX9_isShippable : MethodName := ⟨RX9, "isShippable", "(II)Z"⟩
abbrev cX9_shippableVolume : ByteArray := prog_11_method_8_code
def yX9_shippableVolume : MethodName := ⟨RX9, "shippableVolume", "(I)I"⟩
abbrev cX9_earliestShippable : ByteArray := prog_11_method_9_code
def yX9_earliestShippable : MethodName := ⟨RX9, "earliestShippable", "(I)I"⟩
abbrev cX9_shelvedAtRank : ByteArray := prog_11_method_10_code
def yX9_shelvedAtRank : MethodName := ⟨RX9, "shelvedAtRank", "(I)I"⟩
abbrev cX9_rankOfShelved : ByteArray := prog_11_method_11_code
def yX9_rankOfShelved : MethodName := ⟨RX9, "rankOfShelved", "(I)I"⟩
abbrev cX9_shelfAtRank : ByteArray := prog_11_method_12_code
def yX9_shelfAtRank : MethodName := ⟨RX9, "shelfAtRank", "(I)I"⟩
abbrev cX9_rankOfShelf : ByteArray := prog_11_method_13_code
def yX9_rankOfShelf : MethodName := ⟨RX9, "rankOfShelf", "(I)I"⟩
abbrev cX9_isDueBefore : ByteArray := prog_11_method_14_code
def yX9_isDueBefore : MethodName := ⟨RX9, "isDueBefore", "(II)Z"⟩
def RX10 : String := "PromiseDepot$Text"
def TX10 : u_T := fun k => match k with
  | 0 => ("PromiseDepot$Text", "characters", "LPromiseDepot$Row;", true)
  | 1 => ("PromiseDepot$Text", "parameters", "LPromiseDepot$Row;", true)
  | 2 => ("PromiseDepot$Text", "length", "I", false)
  | 3 => ("PromiseDepot$Text", "fault", "I", false)
  | 4 => ("PromiseDepot$Text", "command", "I", false)
  | _ => ("PromiseDepot$Text", "position", "I", false)
def tyX10 : Nat → FieldType := fun k => match k with
  | 0 => .object "PromiseDepot$Row"
  | 1 => .object "PromiseDepot$Row"
  | 2 => .int
  | 3 => .int
  | 4 => .int
  | _ => .int
abbrev wsX100 : List Cond := u_ws RX10 TX10 6
theorem nmX10 : ∀ a, a < 6 → ∀ b, b < 6 → a ≠ b → (TX10 a).2.1 ≠ (TX10 b).2.1 := by decide +kernel
theorem tyX10_ok : ∀ k, k < 6 → parseFieldDescriptor (TX10 k).2.2.1 = some (tyX10 k) := by decide +kernel
abbrev cX10_init : ByteArray := prog_12_method_1_code
def yX10_init : MethodName := ⟨RX10, "<init>", "()V"⟩
abbrev cX10_append : ByteArray := prog_12_method_2_code
def yX10_append : MethodName := ⟨RX10, "append", "(C)V"⟩
abbrev cX10_clear : ByteArray := prog_12_method_3_code
def yX10_clear : MethodName := ⟨RX10, "clear", "()V"⟩
abbrev cX10_commandsOrFault : ByteArray := prog_12_method_4_code
def yX10_commandsOrFault : MethodName := ⟨RX10, "commandsOrFault", "()I"⟩
abbrev cX10_read : ByteArray := prog_12_method_5_code
def yX10_read : MethodName := ⟨RX10, "read", "(I)Z"⟩
abbrev cX10_pattern : ByteArray := prog_12_method_6_code
def yX10_pattern : MethodName := ⟨RX10, "pattern", "(I)Ljava/lang/String;"⟩
abbrev cX10_fits : ByteArray := prog_12_method_7_code
def yX10_fits : MethodName := ⟨RX10, "fits", "(Ljava/lang/String;I)Z"⟩
abbrev cX10_takeDigits : ByteArray := prog_12_method_8_code
def yX10_takeDigits : MethodName := ⟨RX10, "takeDigits", "(II)Z"⟩
abbrev cX10_characterAt : ByteArray := prog_12_method_9_code
def yX10_characterAt : MethodName := ⟨RX10, "characterAt", "(I)I"⟩
abbrev cX10_isDigit : ByteArray := prog_12_method_10_code
def yX10_isDigit : MethodName := ⟨RX10, "isDigit", "(I)Z"⟩
def RX11 : String := "PromiseDepot"
def TX11 : u_T := fun k => match k with
  | 0 => ("PromiseDepot", "stock", "LPromiseDepot$Stock;", true)
  | 1 => ("PromiseDepot", "draft", "LPromiseDepot$Stock;", true)
  | 2 => ("PromiseDepot", "snapshot", "LPromiseDepot$Stock;", true)
  | 3 => ("PromiseDepot", "history", "LPromiseDepot$History;", true)
  | 4 => ("PromiseDepot", "gate", "LPromiseDepot$Gate;", true)
  | 5 => ("PromiseDepot", "descent", "LPromiseDepot$Descent;", true)
  | 6 => ("PromiseDepot", "packing", "LPromiseDepot$Packing;", true)
  | 7 => ("PromiseDepot", "text", "LPromiseDepot$Text;", true)
  | 8 => ("PromiseDepot", "line", "Ljava/lang/StringBuilder;", true)
  | 9 => ("PromiseDepot", "hasSnapshot", "Z", false)
  | 10 => ("PromiseDepot", "latestDenial", "I", false)
  | 11 => ("PromiseDepot", "latestDetail", "I", false)
  | _ => ("PromiseDepot", "latestCause", "I", false)
def tyX11 : Nat → FieldType := fun k => match k with
  | 0 => .object "PromiseDepot$Stock"
  | 1 => .object "PromiseDepot$Stock"
  | 2 => .object "PromiseDepot$Stock"
  | 3 => .object "PromiseDepot$History"
  | 4 => .object "PromiseDepot$Gate"
  | 5 => .object "PromiseDepot$Descent"
  | 6 => .object "PromiseDepot$Packing"
  | 7 => .object "PromiseDepot$Text"
  | 8 => .object "java/lang/StringBuilder"
  | 9 => .boolean
  | 10 => .int
  | 11 => .int
  | _ => .int
abbrev wsX110 : List Cond := u_ws RX11 TX11 13
theorem nmX11 : ∀ a, a < 13 → ∀ b, b < 13 → a ≠ b → (TX11 a).2.1 ≠ (TX11 b).2.1 := by decide +kernel
theorem tyX11_ok : ∀ k, k < 13 → parseFieldDescriptor (TX11 k).2.2.1 = some (tyX11 k) := by decide +kernel
abbrev cX11_init : ByteArray := prog_1_method_1_code
def yX11_init : MethodName := ⟨RX11, "<init>", "()V"⟩
abbrev cX11_addShelf : ByteArray := prog_1_method_2_code
def yX11_addShelf : MethodName := ⟨RX11, "addShelf", "(II)I"⟩
abbrev cX11_count : ByteArray := prog_1_method_3_code
def yX11_count : MethodName := ⟨RX11, "count", "(I)I"⟩
abbrev cX11_shelfCount : ByteArray := prog_1_method_4_code
def yX11_shelfCount : MethodName := ⟨RX11, "shelfCount", "()I"⟩
abbrev cX11_zoneOf : ByteArray := prog_1_method_5_code
def yX11_zoneOf : MethodName := ⟨RX11, "zoneOf", "(I)I"⟩
abbrev cX11_roomOf : ByteArray := prog_1_method_6_code
def yX11_roomOf : MethodName := ⟨RX11, "roomOf", "(I)I"⟩
abbrev cX11_lotsOn : ByteArray := prog_1_method_7_code
def yX11_lotsOn : MethodName := ⟨RX11, "lotsOn", "(I)I"⟩
abbrev cX11_shelfFor : ByteArray := prog_1_method_8_code
def yX11_shelfFor : MethodName := ⟨RX11, "shelfFor", "(II)I"⟩
abbrev cX11_countedDay : ByteArray := prog_1_method_9_code
def yX11_countedDay : MethodName := ⟨RX11, "countedDay", "(I)I"⟩
abbrev cX11_shelfToCount : ByteArray := prog_1_method_10_code
def yX11_shelfToCount : MethodName := ⟨RX11, "shelfToCount", "(I)I"⟩
abbrev cX11_fewestShelves : ByteArray := prog_1_method_11_code
def yX11_fewestShelves : MethodName := ⟨RX11, "fewestShelves", "(I)I"⟩
abbrev cX11_fewestShelvesBySearch : ByteArray := prog_1_method_12_code
def yX11_fewestShelvesBySearch : MethodName := ⟨RX11, "fewestShelvesBySearch", "(I)I"⟩
abbrev cX11_receive : ByteArray := prog_1_method_13_code
def yX11_receive : MethodName := ⟨RX11, "receive", "(IIII)I"⟩
abbrev cX11_split : ByteArray := prog_1_method_14_code
def yX11_split : MethodName := ⟨RX11, "split", "(II)I"⟩
abbrev cX11_mix : ByteArray := prog_1_method_15_code
def yX11_mix : MethodName := ⟨RX11, "mix", "(II)I"⟩
abbrev cX11_move : ByteArray := prog_1_method_16_code
def yX11_move : MethodName := ⟨RX11, "move", "(II)I"⟩
abbrev cX11_ship : ByteArray := prog_1_method_17_code
def yX11_ship : MethodName := ⟨RX11, "ship", "(II)I"⟩
abbrev cX11_recall : ByteArray := prog_1_method_18_code
def yX11_recall : MethodName := ⟨RX11, "recall", "(I)I"⟩
abbrev cX11_lotCount : ByteArray := prog_1_method_19_code
def yX11_lotCount : MethodName := ⟨RX11, "lotCount", "()I"⟩
abbrev cX11_isOnShelf : ByteArray := prog_1_method_20_code
def yX11_isOnShelf : MethodName := ⟨RX11, "isOnShelf", "(I)Z"⟩
abbrev cX11_shelfOf : ByteArray := prog_1_method_21_code
def yX11_shelfOf : MethodName := ⟨RX11, "shelfOf", "(I)I"⟩
abbrev cX11_volumeOf : ByteArray := prog_1_method_22_code
def yX11_volumeOf : MethodName := ⟨RX11, "volumeOf", "(I)I"⟩
abbrev cX11_expiryOf : ByteArray := prog_1_method_23_code
def yX11_expiryOf : MethodName := ⟨RX11, "expiryOf", "(I)I"⟩
abbrev cX11_isExpired : ByteArray := prog_1_method_24_code
def yX11_isExpired : MethodName := ⟨RX11, "isExpired", "(I)Z"⟩
abbrev cX11_parentCount : ByteArray := prog_1_method_25_code
def yX11_parentCount : MethodName := ⟨RX11, "parentCount", "(I)I"⟩
abbrev cX11_descendants : ByteArray := prog_1_method_26_code
def yX11_descendants : MethodName := ⟨RX11, "descendants", "(I)I"⟩
abbrev cX11_descendantsByTable : ByteArray := prog_1_method_27_code
def yX11_descendantsByTable : MethodName := ⟨RX11, "descendantsByTable", "(I)I"⟩
abbrev cX11_descendsFrom : ByteArray := prog_1_method_28_code
def yX11_descendsFrom : MethodName := ⟨RX11, "descendsFrom", "(II)Z"⟩
abbrev cX11_recallSize : ByteArray := prog_1_method_29_code
def yX11_recallSize : MethodName := ⟨RX11, "recallSize", "(I)I"⟩
abbrev cX11_available : ByteArray := prog_1_method_30_code
def yX11_available : MethodName := ⟨RX11, "available", "(I)I"⟩
abbrev cX11_firstToShip : ByteArray := prog_1_method_31_code
def yX11_firstToShip : MethodName := ⟨RX11, "firstToShip", "(I)I"⟩
abbrev cX11_lotByExpiry : ByteArray := prog_1_method_32_code
def yX11_lotByExpiry : MethodName := ⟨RX11, "lotByExpiry", "(I)I"⟩
abbrev cX11_compost : ByteArray := prog_1_method_33_code
def yX11_compost : MethodName := ⟨RX11, "compost", "()I"⟩
abbrev cX11_heapSize : ByteArray := prog_1_method_34_code
def yX11_heapSize : MethodName := ⟨RX11, "heapSize", "()I"⟩
abbrev cX11_nextCompost : ByteArray := prog_1_method_35_code
def yX11_nextCompost : MethodName := ⟨RX11, "nextCompost", "()I"⟩
abbrev cX11_nextCompostByScan : ByteArray := prog_1_method_36_code
def yX11_nextCompostByScan : MethodName := ⟨RX11, "nextCompostByScan", "()I"⟩
abbrev cX11_pass : ByteArray := prog_1_method_37_code
def yX11_pass : MethodName := ⟨RX11, "pass", "(I)I"⟩
abbrev cX11_day : ByteArray := prog_1_method_38_code
def yX11_day : MethodName := ⟨RX11, "day", "()I"⟩
abbrev cX11_received : ByteArray := prog_1_method_39_code
def yX11_received : MethodName := ⟨RX11, "received", "()I"⟩
abbrev cX11_stored : ByteArray := prog_1_method_40_code
def yX11_stored : MethodName := ⟨RX11, "stored", "()I"⟩
abbrev cX11_heaped : ByteArray := prog_1_method_41_code
def yX11_heaped : MethodName := ⟨RX11, "heaped", "()I"⟩
abbrev cX11_shipped : ByteArray := prog_1_method_42_code
def yX11_shipped : MethodName := ⟨RX11, "shipped", "()I"⟩
abbrev cX11_composted : ByteArray := prog_1_method_43_code
def yX11_composted : MethodName := ⟨RX11, "composted", "()I"⟩
abbrev cX11_meanVolume : ByteArray := prog_1_method_44_code
def yX11_meanVolume : MethodName := ⟨RX11, "meanVolume", "()D"⟩
abbrev cX11_expiredShare : ByteArray := prog_1_method_45_code
def yX11_expiredShare : MethodName := ⟨RX11, "expiredShare", "()F"⟩
abbrev cX11_feed : ByteArray := prog_1_method_46_code
def yX11_feed : MethodName := ⟨RX11, "feed", "(C)I"⟩
abbrev cX11_execute : ByteArray := prog_1_method_47_code
def yX11_execute : MethodName := ⟨RX11, "execute", "()I"⟩
abbrev cX11_writeLot : ByteArray := prog_1_method_49_code
def yX11_writeLot : MethodName := ⟨RX11, "writeLot", "(I)I"⟩
abbrev cX11_denial : ByteArray := prog_1_method_51_code
def yX11_denial : MethodName := ⟨RX11, "denial", "()I"⟩
abbrev cX11_denialCause : ByteArray := prog_1_method_53_code
def yX11_denialCause : MethodName := ⟨RX11, "denialCause", "()I"⟩
abbrev cX11_undo : ByteArray := prog_1_method_54_code
def yX11_undo : MethodName := ⟨RX11, "undo", "()I"⟩
abbrev cX11_undoCount : ByteArray := prog_1_method_55_code
def yX11_undoCount : MethodName := ⟨RX11, "undoCount", "()I"⟩
abbrev cX11_saveSnapshot : ByteArray := prog_1_method_56_code
def yX11_saveSnapshot : MethodName := ⟨RX11, "saveSnapshot", "()I"⟩
abbrev cX11_restoreSnapshot : ByteArray := prog_1_method_57_code
def yX11_restoreSnapshot : MethodName := ⟨RX11, "restoreSnapshot", "()I"⟩
abbrev cX11_change : ByteArray := prog_1_method_58_code
def yX11_change : MethodName := ⟨RX11, "change", "(IIIII)I"⟩
abbrev cX11_refuse : ByteArray := prog_1_method_59_code
def yX11_refuse : MethodName := ⟨RX11, "refuse", "(I)V"⟩
abbrev cX11_keepDenial : ByteArray := prog_1_method_60_code
def yX11_keepDenial : MethodName := ⟨RX11, "keepDenial", "(III)V"⟩
abbrev cX11_runOnDraft : ByteArray := prog_1_method_61_code
def yX11_runOnDraft : MethodName := ⟨RX11, "runOnDraft", "(I)Z"⟩
abbrev cX11_appendPlace : ByteArray := prog_1_method_62_code
def yX11_appendPlace : MethodName := ⟨RX11, "appendPlace", "(I)V"⟩
abbrev cX11_appendParent : ByteArray := prog_1_method_63_code
def yX11_appendParent : MethodName := ⟨RX11, "appendParent", "(I)V"⟩
abbrev cX11_requireShelf : ByteArray := prog_1_method_64_code
def yX11_requireShelf : MethodName := ⟨RX11, "requireShelf", "(I)V"⟩
abbrev cX11_requireLot : ByteArray := prog_1_method_65_code
def yX11_requireLot : MethodName := ⟨RX11, "requireLot", "(I)V"⟩
abbrev cX11_requireRange : ByteArray := prog_1_method_66_code
def yX11_requireRange : MethodName := ⟨RX11, "requireRange", "(III)V"⟩
abbrev cX11_requireFound : ByteArray := prog_1_method_67_code
def yX11_requireFound : MethodName := ⟨RX11, "requireFound", "(I)I"⟩
def RX12 : String := "PromiseDepotModel"
def TX12 : u_T := fun k => match k with
  | _ => ("", "", "", false)
def tyX12 : Nat → FieldType := fun k => match k with
  | _ => .int
abbrev wsX120 : List Cond := u_ws RX12 TX12 0
theorem nmX12 : ∀ a, a < 0 → ∀ b, b < 0 → a ≠ b → (TX12 a).2.1 ≠ (TX12 b).2.1 := by decide +kernel
theorem tyX12_ok : ∀ k, k < 0 → parseFieldDescriptor (TX12 k).2.2.1 = some (tyX12 k) := by decide +kernel
def RJx145de : String := "java/io/Serializable"
def TJx145de : u_T := fun k => match k with
  | _ => ("", "", "", false)
def tyJx145de : Nat → FieldType := fun k => match k with
  | _ => .int
abbrev wsJx145de0 : List Cond := u_ws RJx145de TJx145de 0
theorem nmJx145de : ∀ a, a < 0 → ∀ b, b < 0 → a ≠ b → (TJx145de a).2.1 ≠ (TJx145de b).2.1 := by decide +kernel
theorem tyJx145de_ok : ∀ k, k < 0 → parseFieldDescriptor (TJx145de k).2.2.1 = some (tyJx145de k) := by decide +kernel
def RJ5 : String := "java/lang/AbstractStringBuilder"
def TJ5 : u_T := fun k => match k with
  | _ => ("", "", "", false)
def tyJ5 : Nat → FieldType := fun k => match k with
  | _ => .int
abbrev wsJ50 : List Cond := u_ws RJ5 TJ5 0
theorem nmJ5 : ∀ a, a < 0 → ∀ b, b < 0 → a ≠ b → (TJ5 a).2.1 ≠ (TJ5 b).2.1 := by decide +kernel
theorem tyJ5_ok : ∀ k, k < 0 → parseFieldDescriptor (TJ5 k).2.2.1 = some (tyJ5 k) := by decide +kernel
abbrev cJ5_init_d00df : ByteArray := prog_16_method_2_code
def yJ5_init_d00df : MethodName := ⟨RJ5, "<init>", "(I)V"⟩
abbrev cJ5_length_8abf5 : ByteArray := prog_16_method_6_code
def yJ5_length_8abf5 : MethodName := ⟨RJ5, "length", "()I"⟩
abbrev cJ5_ensureCapacityInternal_d00df : ByteArray := prog_16_method_9_code
def yJ5_ensureCapacityInternal_d00df : MethodName := ⟨RJ5, "ensureCapacityInternal", "(I)V"⟩
abbrev cJ5_newCapacity_0f7a4 : ByteArray := prog_16_method_10_code
def yJ5_newCapacity_0f7a4 : MethodName := ⟨RJ5, "newCapacity", "(I)I"⟩
abbrev cJ5_inflate_da8c8 : ByteArray := prog_16_method_11_code
def yJ5_inflate_da8c8 : MethodName := ⟨RJ5, "inflate", "()V"⟩
abbrev cJ5_setLength_d00df : ByteArray := prog_16_method_13_code
def yJ5_setLength_d00df : MethodName := ⟨RJ5, "setLength", "(I)V"⟩
abbrev cJ5_append_cf1ce : ByteArray := prog_16_method_22_code
def yJ5_append_cf1ce : MethodName := ⟨RJ5, "append", "(Ljava/lang/String;)Ljava/lang/AbstractStringBuilder;"⟩
abbrev cJ5_appendNull_278bc : ByteArray := prog_16_method_26_code
def yJ5_appendNull_278bc : MethodName := ⟨RJ5, "appendNull", "()Ljava/lang/AbstractStringBuilder;"⟩
abbrev cJ5_append_3fe6f : ByteArray := prog_16_method_31_code
def yJ5_append_3fe6f : MethodName := ⟨RJ5, "append", "(C)Ljava/lang/AbstractStringBuilder;"⟩
abbrev cJ5_append_c97b9 : ByteArray := prog_16_method_32_code
def yJ5_append_c97b9 : MethodName := ⟨RJ5, "append", "(I)Ljava/lang/AbstractStringBuilder;"⟩
abbrev cJ5_getValue_6d5f1 : ByteArray := prog_16_method_64_code
def yJ5_getValue_6d5f1 : MethodName := ⟨RJ5, "getValue", "()[B"⟩
abbrev cJ5_isLatin1_aae02 : ByteArray := prog_16_method_68_code
def yJ5_isLatin1_aae02 : MethodName := ⟨RJ5, "isLatin1", "()Z"⟩
abbrev cJ5_inflateIfNeededFor_a7421 : ByteArray := prog_16_method_71_code
def yJ5_inflateIfNeededFor_a7421 : MethodName := ⟨RJ5, "inflateIfNeededFor", "(Ljava/lang/String;)V"⟩
abbrev cJ5_putStringAt_47b60 : ByteArray := prog_16_method_73_code
def yJ5_putStringAt_47b60 : MethodName := ⟨RJ5, "putStringAt", "(ILjava/lang/String;)V"⟩
def RJx2cfe8 : String := "java/lang/Appendable"
def TJx2cfe8 : u_T := fun k => match k with
  | _ => ("", "", "", false)
def tyJx2cfe8 : Nat → FieldType := fun k => match k with
  | _ => .int
abbrev wsJx2cfe80 : List Cond := u_ws RJx2cfe8 TJx2cfe8 0
theorem nmJx2cfe8 : ∀ a, a < 0 → ∀ b, b < 0 → a ≠ b → (TJx2cfe8 a).2.1 ≠ (TJx2cfe8 b).2.1 := by decide +kernel
theorem tyJx2cfe8_ok : ∀ k, k < 0 → parseFieldDescriptor (TJx2cfe8 k).2.2.1 = some (tyJx2cfe8 k) := by decide +kernel
def RJx00060 : String := "java/lang/ArrayIndexOutOfBoundsException"
def TJx00060 : u_T := fun k => match k with
  | 0 => ("java/lang/Throwable", "backtrace", "Ljava/lang/Object;", false)
  | 1 => ("java/lang/Throwable", "detailMessage", "Ljava/lang/String;", false)
  | 2 => ("java/lang/Throwable", "cause", "Ljava/lang/Throwable;", false)
  | 3 => ("java/lang/Throwable", "stackTrace", "[Ljava/lang/StackTraceElement;", false)
  | 4 => ("java/lang/Throwable", "depth", "I", false)
  | _ => ("java/lang/Throwable", "suppressedExceptions", "Ljava/util/List;", false)
def tyJx00060 : Nat → FieldType := fun k => match k with
  | 0 => .object "java/lang/Object"
  | 1 => .object "java/lang/String"
  | 2 => .object "java/lang/Throwable"
  | 3 => .array (.object "java/lang/StackTraceElement")
  | 4 => .int
  | _ => .object "java/util/List"
abbrev wsJx000600 : List Cond := u_ws RJx00060 TJx00060 6
theorem nmJx00060 : ∀ a, a < 6 → ∀ b, b < 6 → a ≠ b → (TJx00060 a).2.1 ≠ (TJx00060 b).2.1 := by decide +kernel
theorem tyJx00060_ok : ∀ k, k < 6 → parseFieldDescriptor (TJx00060 k).2.2.1 = some (tyJx00060 k) := by decide +kernel
abbrev cJx00060_init_a7421 : ByteArray := prog_19_method_2_code
def yJx00060_init_a7421 : MethodName := ⟨RJx00060, "<init>", "(Ljava/lang/String;)V"⟩
abbrev cJx00060_init_d00df : ByteArray := prog_19_method_3_code
def yJx00060_init_d00df : MethodName := ⟨RJx00060, "<init>", "(I)V"⟩
def RJx9f9b0 : String := "java/lang/CharSequence"
def TJx9f9b0 : u_T := fun k => match k with
  | _ => ("", "", "", false)
def tyJx9f9b0 : Nat → FieldType := fun k => match k with
  | _ => .int
abbrev wsJx9f9b00 : List Cond := u_ws RJx9f9b0 TJx9f9b0 0
theorem nmJx9f9b0 : ∀ a, a < 0 → ∀ b, b < 0 → a ≠ b → (TJx9f9b0 a).2.1 ≠ (TJx9f9b0 b).2.1 := by decide +kernel
theorem tyJx9f9b0_ok : ∀ k, k < 0 → parseFieldDescriptor (TJx9f9b0 k).2.2.1 = some (tyJx9f9b0 k) := by decide +kernel
def RJx8e188 : String := "java/lang/Cloneable"
def TJx8e188 : u_T := fun k => match k with
  | _ => ("", "", "", false)
def tyJx8e188 : Nat → FieldType := fun k => match k with
  | _ => .int
abbrev wsJx8e1880 : List Cond := u_ws RJx8e188 TJx8e188 0
theorem nmJx8e188 : ∀ a, a < 0 → ∀ b, b < 0 → a ≠ b → (TJx8e188 a).2.1 ≠ (TJx8e188 b).2.1 := by decide +kernel
theorem tyJx8e188_ok : ∀ k, k < 0 → parseFieldDescriptor (TJx8e188 k).2.2.1 = some (tyJx8e188 k) := by decide +kernel
def RJxb160c : String := "java/lang/Comparable"
def TJxb160c : u_T := fun k => match k with
  | _ => ("", "", "", false)
def tyJxb160c : Nat → FieldType := fun k => match k with
  | _ => .int
abbrev wsJxb160c0 : List Cond := u_ws RJxb160c TJxb160c 0
theorem nmJxb160c : ∀ a, a < 0 → ∀ b, b < 0 → a ≠ b → (TJxb160c a).2.1 ≠ (TJxb160c b).2.1 := by decide +kernel
theorem tyJxb160c_ok : ∀ k, k < 0 → parseFieldDescriptor (TJxb160c k).2.2.1 = some (tyJxb160c k) := by decide +kernel
def RJ6 : String := "java/lang/Integer"
def TJ6 : u_T := fun k => match k with
  | _ => ("", "", "", false)
def tyJ6 : Nat → FieldType := fun k => match k with
  | _ => .int
abbrev wsJ60 : List Cond := u_ws RJ6 TJ6 0
theorem nmJ6 : ∀ a, a < 0 → ∀ b, b < 0 → a ≠ b → (TJ6 a).2.1 ≠ (TJ6 b).2.1 := by decide +kernel
theorem tyJ6_ok : ∀ k, k < 0 → parseFieldDescriptor (TJ6 k).2.2.1 = some (tyJ6 k) := by decide +kernel
abbrev cJ6_getChars_ba4f3 : ByteArray := prog_27_method_12_code
def yJ6_getChars_ba4f3 : MethodName := ⟨RJ6, "getChars", "(II[B)I"⟩
abbrev cJ6_stringSize_0f7a4 : ByteArray := prog_27_method_13_code
def yJ6_stringSize_0f7a4 : MethodName := ⟨RJ6, "stringSize", "(I)I"⟩
abbrev cJ6_bitCount_0f7a4 : ByteArray := prog_27_method_49_code
def yJ6_bitCount_0f7a4 : MethodName := ⟨RJ6, "bitCount", "(I)I"⟩
def RJ9 : String := "java/lang/Math"
def TJ9 : u_T := fun k => match k with
  | _ => ("", "", "", false)
def tyJ9 : Nat → FieldType := fun k => match k with
  | _ => .int
abbrev wsJ90 : List Cond := u_ws RJ9 TJ9 0
theorem nmJ9 : ∀ a, a < 0 → ∀ b, b < 0 → a ≠ b → (TJ9 a).2.1 ≠ (TJ9 b).2.1 := by decide +kernel
theorem tyJ9_ok : ∀ k, k < 0 → parseFieldDescriptor (TJ9 k).2.2.1 = some (tyJ9 k) := by decide +kernel
abbrev cJ9_max_7cf53 : ByteArray := prog_28_method_65_code
def yJ9_max_7cf53 : MethodName := ⟨RJ9, "max", "(II)I"⟩
abbrev cJ9_min_7cf53 : ByteArray := prog_28_method_69_code
def yJ9_min_7cf53 : MethodName := ⟨RJ9, "min", "(II)I"⟩
def RJxd2413 : String := "java/lang/Number"
def TJxd2413 : u_T := fun k => match k with
  | _ => ("", "", "", false)
def tyJxd2413 : Nat → FieldType := fun k => match k with
  | _ => .int
abbrev wsJxd24130 : List Cond := u_ws RJxd2413 TJxd2413 0
theorem nmJxd2413 : ∀ a, a < 0 → ∀ b, b < 0 → a ≠ b → (TJxd2413 a).2.1 ≠ (TJxd2413 b).2.1 := by decide +kernel
theorem tyJxd2413_ok : ∀ k, k < 0 → parseFieldDescriptor (TJxd2413 k).2.2.1 = some (tyJxd2413 k) := by decide +kernel
def RJ0 : String := "java/lang/String"
def TJ0 : u_T := fun k => match k with
  | 0 => ("java/lang/String", "value", "[B", true)
  | 1 => ("java/lang/String", "coder", "B", true)
  | 2 => ("java/lang/String", "hash", "I", false)
  | _ => ("java/lang/String", "hashIsZero", "Z", false)
def tyJ0 : Nat → FieldType := fun k => match k with
  | 0 => .array .byte
  | 1 => .byte
  | 2 => .int
  | _ => .boolean
abbrev wsJ00 : List Cond := u_ws RJ0 TJ0 4
theorem nmJ0 : ∀ a, a < 4 → ∀ b, b < 4 → a ≠ b → (TJ0 a).2.1 ≠ (TJ0 b).2.1 := by decide +kernel
theorem tyJ0_ok : ∀ k, k < 4 → parseFieldDescriptor (TJ0 k).2.2.1 = some (tyJ0 k) := by decide +kernel
abbrev cJ0_init_81219 : ByteArray := prog_31_method_53_code
def yJ0_init_81219 : MethodName := ⟨RJ0, "<init>", "(Ljava/lang/StringBuilder;)V"⟩
abbrev cJ0_length_8abf5 : ByteArray := prog_31_method_54_code
def yJ0_length_8abf5 : MethodName := ⟨RJ0, "length", "()I"⟩
abbrev cJ0_charAt_5068e : ByteArray := prog_31_method_56_code
def yJ0_charAt_5068e : MethodName := ⟨RJ0, "charAt", "(I)C"⟩
abbrev cJ0_getBytes_840e7 : ByteArray := prog_31_method_147_code
def yJ0_getBytes_840e7 : MethodName := ⟨RJ0, "getBytes", "([BIB)V"⟩
abbrev cJ0_init_db425 : ByteArray := prog_31_method_150_code
def yJ0_init_db425 : MethodName := ⟨RJ0, "<init>", "(Ljava/lang/AbstractStringBuilder;Ljava/lang/Void;)V"⟩
abbrev cJ0_coder_7d493 : ByteArray := prog_31_method_152_code
def yJ0_coder_7d493 : MethodName := ⟨RJ0, "coder", "()B"⟩
abbrev cJ0_isLatin1_aae02 : ByteArray := prog_31_method_154_code
def yJ0_isLatin1_aae02 : MethodName := ⟨RJ0, "isLatin1", "()Z"⟩
abbrev cJ0_checkIndex_df160 : ByteArray := prog_31_method_155_code
def yJ0_checkIndex_df160 : MethodName := ⟨RJ0, "checkIndex", "(II)V"⟩
abbrev cJ0_checkBoundsOffCount_cabcc : ByteArray := prog_31_method_157_code
def yJ0_checkBoundsOffCount_cabcc : MethodName := ⟨RJ0, "checkBoundsOffCount", "(III)I"⟩
abbrev cJ0_checkBoundsBeginEnd_23922 : ByteArray := prog_31_method_158_code
def yJ0_checkBoundsBeginEnd_23922 : MethodName := ⟨RJ0, "checkBoundsBeginEnd", "(III)V"⟩
def RJ4 : String := "java/lang/StringBuilder"
def TJ4 : u_T := fun k => match k with
  | 0 => ("java/lang/AbstractStringBuilder", "value", "[B", false)
  | 1 => ("java/lang/AbstractStringBuilder", "coder", "B", false)
  | 2 => ("java/lang/AbstractStringBuilder", "maybeLatin1", "Z", false)
  | _ => ("java/lang/AbstractStringBuilder", "count", "I", false)
def tyJ4 : Nat → FieldType := fun k => match k with
  | 0 => .array .byte
  | 1 => .byte
  | 2 => .boolean
  | _ => .int
abbrev wsJ40 : List Cond := u_ws RJ4 TJ4 4
theorem nmJ4 : ∀ a, a < 4 → ∀ b, b < 4 → a ≠ b → (TJ4 a).2.1 ≠ (TJ4 b).2.1 := by decide +kernel
theorem tyJ4_ok : ∀ k, k < 4 → parseFieldDescriptor (TJ4 k).2.2.1 = some (tyJ4 k) := by decide +kernel
abbrev cJ4_init_da8c8 : ByteArray := prog_32_method_1_code
def yJ4_init_da8c8 : MethodName := ⟨RJ4, "<init>", "()V"⟩
abbrev cJ4_append_15ec4 : ByteArray := prog_32_method_7_code
def yJ4_append_15ec4 : MethodName := ⟨RJ4, "append", "(Ljava/lang/String;)Ljava/lang/StringBuilder;"⟩
abbrev cJ4_append_cf468 : ByteArray := prog_32_method_14_code
def yJ4_append_cf468 : MethodName := ⟨RJ4, "append", "(C)Ljava/lang/StringBuilder;"⟩
abbrev cJ4_append_bf812 : ByteArray := prog_32_method_15_code
def yJ4_append_bf812 : MethodName := ⟨RJ4, "append", "(I)Ljava/lang/StringBuilder;"⟩
abbrev cJ4_toString_0e30d : ByteArray := prog_32_method_42_code
def yJ4_toString_0e30d : MethodName := ⟨RJ4, "toString", "()Ljava/lang/String;"⟩
abbrev cJ4_setLength_d00df : ByteArray := prog_32_method_89_code
def yJ4_setLength_d00df : MethodName := ⟨RJ4, "setLength", "(I)V"⟩
abbrev cJ4_length_8abf5 : ByteArray := prog_32_method_93_code
def yJ4_length_8abf5 : MethodName := ⟨RJ4, "length", "()I"⟩
def RJx7c733 : String := "java/lang/StringIndexOutOfBoundsException"
def TJx7c733 : u_T := fun k => match k with
  | 0 => ("java/lang/Throwable", "backtrace", "Ljava/lang/Object;", false)
  | 1 => ("java/lang/Throwable", "detailMessage", "Ljava/lang/String;", false)
  | 2 => ("java/lang/Throwable", "cause", "Ljava/lang/Throwable;", false)
  | 3 => ("java/lang/Throwable", "stackTrace", "[Ljava/lang/StackTraceElement;", false)
  | 4 => ("java/lang/Throwable", "depth", "I", false)
  | _ => ("java/lang/Throwable", "suppressedExceptions", "Ljava/util/List;", false)
def tyJx7c733 : Nat → FieldType := fun k => match k with
  | 0 => .object "java/lang/Object"
  | 1 => .object "java/lang/String"
  | 2 => .object "java/lang/Throwable"
  | 3 => .array (.object "java/lang/StackTraceElement")
  | 4 => .int
  | _ => .object "java/util/List"
abbrev wsJx7c7330 : List Cond := u_ws RJx7c733 TJx7c733 6
theorem nmJx7c733 : ∀ a, a < 6 → ∀ b, b < 6 → a ≠ b → (TJx7c733 a).2.1 ≠ (TJx7c733 b).2.1 := by decide +kernel
theorem tyJx7c733_ok : ∀ k, k < 6 → parseFieldDescriptor (TJx7c733 k).2.2.1 = some (tyJx7c733 k) := by decide +kernel
abbrev cJx7c733_init_d00df : ByteArray := prog_33_method_3_code
def yJx7c733_init_d00df : MethodName := ⟨RJx7c733, "<init>", "(I)V"⟩
def RJ1 : String := "java/lang/StringLatin1"
def TJ1 : u_T := fun k => match k with
  | _ => ("", "", "", false)
def tyJ1 : Nat → FieldType := fun k => match k with
  | _ => .int
abbrev wsJ10 : List Cond := u_ws RJ1 TJ1 0
theorem nmJ1 : ∀ a, a < 0 → ∀ b, b < 0 → a ≠ b → (TJ1 a).2.1 ≠ (TJ1 b).2.1 := by decide +kernel
theorem tyJ1_ok : ∀ k, k < 0 → parseFieldDescriptor (TJ1 k).2.2.1 = some (tyJ1 k) := by decide +kernel
abbrev cJ1_charAt_3b067 : ByteArray := prog_34_method_2_code
def yJ1_charAt_3b067 : MethodName := ⟨RJ1, "charAt", "([BI)C"⟩
abbrev cJ1_canEncode_fc78d : ByteArray := prog_34_method_3_code
def yJ1_canEncode_fc78d : MethodName := ⟨RJ1, "canEncode", "(C)Z"⟩
abbrev cJ1_fillNull_b72d1 : ByteArray := prog_34_method_48_code
def yJ1_fillNull_b72d1 : MethodName := ⟨RJ1, "fillNull", "([BII)V"⟩
abbrev cJ1_inflate_0e8fd : ByteArray := prog_34_method_50_code
def yJ1_inflate_0e8fd : MethodName := ⟨RJ1, "inflate", "([BI[BII)V"⟩
def RJ2 : String := "java/lang/StringUTF16"
def TJ2 : u_T := fun k => match k with
  | _ => ("", "", "", false)
def tyJ2 : Nat → FieldType := fun k => match k with
  | _ => .int
abbrev wsJ20 : List Cond := u_ws RJ2 TJ2 0
theorem nmJ2 : ∀ a, a < 0 → ∀ b, b < 0 → a ≠ b → (TJ2 a).2.1 ≠ (TJ2 b).2.1 := by decide +kernel
theorem tyJ2_ok : ∀ k, k < 0 → parseFieldDescriptor (TJ2 k).2.2.1 = some (tyJ2 k) := by decide +kernel
abbrev cJ2_newBytesFor_77867 : ByteArray := prog_35_method_2_code
def yJ2_newBytesFor_77867 : MethodName := ⟨RJ2, "newBytesFor", "(I)[B"⟩
abbrev cJ2_newBytesLength_0f7a4 : ByteArray := prog_35_method_3_code
def yJ2_newBytesLength_0f7a4 : MethodName := ⟨RJ2, "newBytesLength", "(I)I"⟩
abbrev cJ2_putChar_b72d1 : ByteArray := prog_35_method_4_code
def yJ2_putChar_b72d1 : MethodName := ⟨RJ2, "putChar", "([BII)V"⟩
abbrev cJ2_getChar_3b067 : ByteArray := prog_35_method_5_code
def yJ2_getChar_3b067 : MethodName := ⟨RJ2, "getChar", "([BI)C"⟩
abbrev cJ2_length_9d52b : ByteArray := prog_35_method_6_code
def yJ2_length_9d52b : MethodName := ⟨RJ2, "length", "([B)I"⟩
abbrev cJ2_coderFromArrayLen_85cad : ByteArray := prog_35_method_15_code
def yJ2_coderFromArrayLen_85cad : MethodName := ⟨RJ2, "coderFromArrayLen", "([BI)B"⟩
abbrev cJ2_compress_39247 : ByteArray := prog_35_method_17_code
def yJ2_compress_39247 : MethodName := ⟨RJ2, "compress", "([BII)[B"⟩
abbrev cJ2_compress_5af95 : ByteArray := prog_35_method_22_code
def yJ2_compress_5af95 : MethodName := ⟨RJ2, "compress", "([BI[BII)I"⟩
abbrev cJ2_fillNull_b72d1 : ByteArray := prog_35_method_70_code
def yJ2_fillNull_b72d1 : MethodName := ⟨RJ2, "fillNull", "([BII)V"⟩
abbrev cJ2_putCharSB_b72d1 : ByteArray := prog_35_method_71_code
def yJ2_putCharSB_b72d1 : MethodName := ⟨RJ2, "putCharSB", "([BII)V"⟩
abbrev cJ2_getChars_46870 : ByteArray := prog_35_method_77_code
def yJ2_getChars_46870 : MethodName := ⟨RJ2, "getChars", "(III[B)I"⟩
abbrev cJ2_putCharsAt_cd4e5 : ByteArray := prog_35_method_81_code
def yJ2_putCharsAt_cd4e5 : MethodName := ⟨RJ2, "putCharsAt", "([BICCCC)I"⟩
abbrev cJ2_charAt_3b067 : ByteArray := prog_35_method_83_code
def yJ2_charAt_3b067 : MethodName := ⟨RJ2, "charAt", "([BI)C"⟩
abbrev cJ2_inflate_0e8fd : ByteArray := prog_35_method_86_code
def yJ2_inflate_0e8fd : MethodName := ⟨RJ2, "inflate", "([BI[BII)V"⟩
abbrev cJ2_getChars_ba4f3 : ByteArray := prog_35_method_89_code
def yJ2_getChars_ba4f3 : MethodName := ⟨RJ2, "getChars", "(II[B)I"⟩
abbrev cJ2_checkIndex_2214a : ByteArray := prog_35_method_91_code
def yJ2_checkIndex_2214a : MethodName := ⟨RJ2, "checkIndex", "(I[B)V"⟩
abbrev cJ2_checkBoundsBeginEnd_d044e : ByteArray := prog_35_method_93_code
def yJ2_checkBoundsBeginEnd_d044e : MethodName := ⟨RJ2, "checkBoundsBeginEnd", "(II[B)V"⟩
abbrev cJ2_checkBoundsOffCount_d044e : ByteArray := prog_35_method_94_code
def yJ2_checkBoundsOffCount_d044e : MethodName := ⟨RJ2, "checkBoundsOffCount", "(II[B)V"⟩
def RJ10 : String := "java/lang/System"
def TJ10 : u_T := fun k => match k with
  | _ => ("", "", "", false)
def tyJ10 : Nat → FieldType := fun k => match k with
  | _ => .int
abbrev wsJ100 : List Cond := u_ws RJ10 TJ10 0
theorem nmJ10 : ∀ a, a < 0 → ∀ b, b < 0 → a ≠ b → (TJ10 a).2.1 ≠ (TJ10 b).2.1 := by decide +kernel
theorem tyJ10_ok : ∀ k, k < 0 → parseFieldDescriptor (TJ10 k).2.2.1 = some (tyJ10 k) := by decide +kernel
def RJxfd54e : String := "java/lang/constant/Constable"
def TJxfd54e : u_T := fun k => match k with
  | _ => ("", "", "", false)
def tyJxfd54e : Nat → FieldType := fun k => match k with
  | _ => .int
abbrev wsJxfd54e0 : List Cond := u_ws RJxfd54e TJxfd54e 0
theorem nmJxfd54e : ∀ a, a < 0 → ∀ b, b < 0 → a ≠ b → (TJxfd54e a).2.1 ≠ (TJxfd54e b).2.1 := by decide +kernel
theorem tyJxfd54e_ok : ∀ k, k < 0 → parseFieldDescriptor (TJxfd54e k).2.2.1 = some (tyJxfd54e k) := by decide +kernel
def RJx3cf43 : String := "java/lang/constant/ConstantDesc"
def TJx3cf43 : u_T := fun k => match k with
  | _ => ("", "", "", false)
def tyJx3cf43 : Nat → FieldType := fun k => match k with
  | _ => .int
abbrev wsJx3cf430 : List Cond := u_ws RJx3cf43 TJx3cf43 0
theorem nmJx3cf43 : ∀ a, a < 0 → ∀ b, b < 0 → a ≠ b → (TJx3cf43 a).2.1 ≠ (TJx3cf43 b).2.1 := by decide +kernel
theorem tyJx3cf43_ok : ∀ k, k < 0 → parseFieldDescriptor (TJx3cf43 k).2.2.1 = some (tyJx3cf43 k) := by decide +kernel
def RJ7 : String := "java/util/Arrays"
def TJ7 : u_T := fun k => match k with
  | _ => ("", "", "", false)
def tyJ7 : Nat → FieldType := fun k => match k with
  | _ => .int
abbrev wsJ70 : List Cond := u_ws RJ7 TJ7 0
theorem nmJ7 : ∀ a, a < 0 → ∀ b, b < 0 → a ≠ b → (TJ7 a).2.1 ≠ (TJ7 b).2.1 := by decide +kernel
theorem tyJ7_ok : ∀ k, k < 0 → parseFieldDescriptor (TJ7 k).2.2.1 = some (tyJ7 k) := by decide +kernel
abbrev cJ7_rangeCheck_23922 : ByteArray := prog_41_method_30_code
def yJ7_rangeCheck_23922 : MethodName := ⟨RJ7, "rangeCheck", "(III)V"⟩
abbrev cJ7_fill_eb02e : ByteArray := prog_41_method_110_code
def yJ7_fill_eb02e : MethodName := ⟨RJ7, "fill", "([BIIB)V"⟩
abbrev cJ7_copyOf_9075b : ByteArray := prog_41_method_121_code
def yJ7_copyOf_9075b : MethodName := ⟨RJ7, "copyOf", "([BI)[B"⟩
abbrev cJ7_checkLength_df160 : ByteArray := prog_41_method_131_code
def yJ7_checkLength_df160 : MethodName := ⟨RJ7, "checkLength", "(II)V"⟩
abbrev cJ7_copyOfRange_39247 : ByteArray := prog_41_method_132_code
def yJ7_copyOfRange_39247 : MethodName := ⟨RJ7, "copyOfRange", "([BII)[B"⟩
abbrev cJ7_copyOfRangeByte_39247 : ByteArray := prog_41_method_133_code
def yJ7_copyOfRangeByte_39247 : MethodName := ⟨RJ7, "copyOfRangeByte", "([BII)[B"⟩
def RJ8 : String := "jdk/internal/util/ArraysSupport"
def TJ8 : u_T := fun k => match k with
  | _ => ("", "", "", false)
def tyJ8 : Nat → FieldType := fun k => match k with
  | _ => .int
abbrev wsJ80 : List Cond := u_ws RJ8 TJ8 0
theorem nmJ8 : ∀ a, a < 0 → ∀ b, b < 0 → a ≠ b → (TJ8 a).2.1 ≠ (TJ8 b).2.1 := by decide +kernel
theorem tyJ8_ok : ∀ k, k < 0 → parseFieldDescriptor (TJ8 k).2.2.1 = some (tyJ8 k) := by decide +kernel
abbrev cJ8_newLength_cabcc : ByteArray := prog_43_method_27_code
def yJ8_newLength_cabcc : MethodName := ⟨RJ8, "newLength", "(III)I"⟩
abbrev cJ8_hugeLength_7cf53 : ByteArray := prog_43_method_28_code
def yJ8_hugeLength_7cf53 : MethodName := ⟨RJ8, "hugeLength", "(II)I"⟩
def RJ3 : String := "jdk/internal/util/Preconditions"
def TJ3 : u_T := fun k => match k with
  | _ => ("", "", "", false)
def tyJ3 : Nat → FieldType := fun k => match k with
  | _ => .int
abbrev wsJ30 : List Cond := u_ws RJ3 TJ3 0
theorem nmJ3 : ∀ a, a < 0 → ∀ b, b < 0 → a ≠ b → (TJ3 a).2.1 ≠ (TJ3 b).2.1 := by decide +kernel
theorem tyJ3_ok : ∀ k, k < 0 → parseFieldDescriptor (TJ3 k).2.2.1 = some (tyJ3 k) := by decide +kernel
abbrev cJ3_checkIndex_8e157 : ByteArray := prog_44_method_11_code
def yJ3_checkIndex_8e157 : MethodName := ⟨RJ3, "checkIndex", "(IILjava/util/function/BiFunction;)I"⟩
abbrev cJ3_checkFromToIndex_8c36e : ByteArray := prog_44_method_12_code
def yJ3_checkFromToIndex_8c36e : MethodName := ⟨RJ3, "checkFromToIndex", "(IIILjava/util/function/BiFunction;)I"⟩
abbrev cJ3_checkFromIndexSize_8c36e : ByteArray := prog_44_method_13_code
def yJ3_checkFromIndexSize_8c36e : MethodName := ⟨RJ3, "checkFromIndexSize", "(IIILjava/util/function/BiFunction;)I"⟩
def RL : String := "PromiseDepotLaw"
abbrev cL_cell : ByteArray := method_2_code
def yL_cell : MethodName := ⟨RL, "cell", "([II)I"⟩
abbrev cL_addShelf : ByteArray := method_3_code
def yL_addShelf : MethodName := ⟨RL, "addShelf", "(LPromiseDepot;II)I"⟩
abbrev cL_count : ByteArray := method_4_code
def yL_count : MethodName := ⟨RL, "count", "(LPromiseDepot;I)I"⟩
abbrev cL_shelfFor : ByteArray := method_5_code
def yL_shelfFor : MethodName := ⟨RL, "shelfFor", "(LPromiseDepot;II)I"⟩
abbrev cL_countedDay : ByteArray := method_6_code
def yL_countedDay : MethodName := ⟨RL, "countedDay", "(LPromiseDepot;I)I"⟩
abbrev cL_shelfToCount : ByteArray := method_7_code
def yL_shelfToCount : MethodName := ⟨RL, "shelfToCount", "(LPromiseDepot;I)I"⟩
abbrev cL_receive : ByteArray := method_8_code
def yL_receive : MethodName := ⟨RL, "receive", "(LPromiseDepot;IIII)I"⟩
abbrev cL_split : ByteArray := method_9_code
def yL_split : MethodName := ⟨RL, "split", "(LPromiseDepot;II)I"⟩
abbrev cL_mix : ByteArray := method_10_code
def yL_mix : MethodName := ⟨RL, "mix", "(LPromiseDepot;II)I"⟩
abbrev cL_move : ByteArray := method_11_code
def yL_move : MethodName := ⟨RL, "move", "(LPromiseDepot;II)I"⟩
abbrev cL_ship : ByteArray := method_12_code
def yL_ship : MethodName := ⟨RL, "ship", "(LPromiseDepot;II)I"⟩
abbrev cL_recall : ByteArray := method_13_code
def yL_recall : MethodName := ⟨RL, "recall", "(LPromiseDepot;I)I"⟩
abbrev cL_shelfOf : ByteArray := method_14_code
def yL_shelfOf : MethodName := ⟨RL, "shelfOf", "(LPromiseDepot;I)I"⟩
abbrev cL_firstToShip : ByteArray := method_15_code
def yL_firstToShip : MethodName := ⟨RL, "firstToShip", "(LPromiseDepot;I)I"⟩
abbrev cL_lotByExpiry : ByteArray := method_16_code
def yL_lotByExpiry : MethodName := ⟨RL, "lotByExpiry", "(LPromiseDepot;I)I"⟩
abbrev cL_compost : ByteArray := method_17_code
def yL_compost : MethodName := ⟨RL, "compost", "(LPromiseDepot;)I"⟩
abbrev cL_nextCompost : ByteArray := method_18_code
def yL_nextCompost : MethodName := ⟨RL, "nextCompost", "(LPromiseDepot;)I"⟩
abbrev cL_nextCompostByScan : ByteArray := method_19_code
def yL_nextCompostByScan : MethodName := ⟨RL, "nextCompostByScan", "(LPromiseDepot;)I"⟩
abbrev cL_pass : ByteArray := method_20_code
def yL_pass : MethodName := ⟨RL, "pass", "(LPromiseDepot;I)I"⟩
abbrev cL_meanVolume : ByteArray := method_21_code
def yL_meanVolume : MethodName := ⟨RL, "meanVolume", "(LPromiseDepot;)D"⟩
abbrev cL_expiredShare : ByteArray := method_22_code
def yL_expiredShare : MethodName := ⟨RL, "expiredShare", "(LPromiseDepot;)F"⟩
abbrev cL_execute : ByteArray := method_23_code
def yL_execute : MethodName := ⟨RL, "execute", "(LPromiseDepot;)I"⟩
abbrev cL_denial : ByteArray := method_24_code
def yL_denial : MethodName := ⟨RL, "denial", "(LPromiseDepot;)I"⟩
abbrev cL_denialCause : ByteArray := method_25_code
def yL_denialCause : MethodName := ⟨RL, "denialCause", "(LPromiseDepot;)I"⟩
abbrev cL_undo : ByteArray := method_26_code
def yL_undo : MethodName := ⟨RL, "undo", "(LPromiseDepot;)I"⟩
abbrev cL_restore : ByteArray := method_27_code
def yL_restore : MethodName := ⟨RL, "restore", "(LPromiseDepot;)I"⟩
abbrev cL_put : ByteArray := method_28_code
def yL_put : MethodName := ⟨RL, "put", "(LPromiseDepot;C)Z"⟩
abbrev cL_typed : ByteArray := method_29_code
def yL_typed : MethodName := ⟨RL, "typed", "(LPromiseDepot;Ljava/lang/String;)LPromiseDepot;"⟩
abbrev cL_act : ByteArray := method_30_code
def yL_act : MethodName := ⟨RL, "act", "(LPromiseDepot;I)I"⟩
abbrev cL_digest : ByteArray := method_31_code
def yL_digest : MethodName := ⟨RL, "digest", "(LPromiseDepot;)J"⟩
abbrev cL_areShelves : ByteArray := method_32_code
def yL_areShelves : MethodName := ⟨RL, "areShelves", "(LPromiseDepot;)Z"⟩
abbrev cL_isPlace : ByteArray := method_33_code
def yL_isPlace : MethodName := ⟨RL, "isPlace", "(LPromiseDepot;II)Z"⟩
abbrev cL_areLots : ByteArray := method_34_code
def yL_areLots : MethodName := ⟨RL, "areLots", "(LPromiseDepot;)Z"⟩
abbrev cL_isRecalled : ByteArray := method_35_code
def yL_isRecalled : MethodName := ⟨RL, "isRecalled", "(LPromiseDepot;I)Z"⟩
abbrev cL_isShipped : ByteArray := method_36_code
def yL_isShipped : MethodName := ⟨RL, "isShipped", "(LPromiseDepot;I)Z"⟩
abbrev cL_isSplit : ByteArray := method_37_code
def yL_isSplit : MethodName := ⟨RL, "isSplit", "(LPromiseDepot;I)Z"⟩
abbrev cL_isFit : ByteArray := method_38_code
def yL_isFit : MethodName := ⟨RL, "isFit", "(LPromiseDepot;)Z"⟩
abbrev cL_law : ByteArray := code
def yL_law : MethodName := ⟨RL, "law", "([I)Z"⟩
abbrev vwCl : List vw_C := [(RJ0, TJ0, 4), (RJ4, TJ4, 4), (RJx00060, TJx00060, 6), (RJx7c733, TJx7c733, 6), (RX1, TX1, 2), (RX2, TX2, 1), (RX3, TX3, 1), (RX4, TX4, 3), (RX5, TX5, 8), (RX6, TX6, 6), (RX7, TX7, 1), (RX8, TX8, 4), (RX9, TX9, 7), (RX10, TX10, 6), (RX11, TX11, 13)]
